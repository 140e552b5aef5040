/-! THE REFERENCE: suiteHas, caseHas, tagsOf, tagWord, tagLine -/
theorem mem_take_succ {l : List Nm} {t : Nm} {j : Nat} (h : j < l.length) : decide (t ∈ l.take (j + 1)) = (decide (t ∈ l.take j) || decide (l.getD j [] = t)) := by
  rw [List.take_succ_eq_append_getElem h, List.getD_eq_getElem?_getD, List.getElem?_eq_getElem h]
  show decide (t ∈ l.take j ++ [l[j]]) = (decide (t ∈ l.take j) || decide (l[j] = t))
  by_cases h1 : t ∈ l.take j
  · rw [decide_eq_true h1, decide_eq_true (List.mem_append.mpr (Or.inl h1))]; rfl
  · rw [decide_eq_false h1, Bool.false_or]
    by_cases h2 : l[j] = t
    · rw [decide_eq_true h2, decide_eq_true (List.mem_append.mpr (Or.inr (by rw [h2]; simp)))]
    · rw [decide_eq_false h2, decide_eq_false]
      intro z
      rcases List.mem_append.mp z with z | z
      · exact h1 z
      · exact h2 (List.mem_singleton.mp z).symm
section MT
variable {d L : Nat} {fi : Nat → Nat → Int32} {fl : Nat → Nat → Int64} {fr : Nat → Nat → Option Nat} {F G : Nat} {x : Nat → Nat} {n : Nat} {A : AS} {ws : List (Nat × Nat)}
theorem cm_suiteHas (hF : FRok F G fr) (hT : MTX fi x n) (hW : MWD fi ws) (hw : wok n ws) {k : Nat} (hk : k < ws.length) {s : Nat} (hs : s < 10) {tg : List Nm} (h8 : tg.length ≤ 8) (h11 : fi 611 s = nI tg.length) (h12 : ∀ t, t < tg.length → SL fi x n 612 613 (8 * s + t) (tg.getD t [])) : Rn (d + 1) 23 0 [some (.ref 604), some (.int (nI s)), some (.int (nI k)), none, none] [] (SH L, fi, fl, fr) (Ret (SH L, fi, fl, fr) (some (.int (bI (decide (wd x (ws.getD k (0, 0)) ∈ tg)))))) := by
  have loop : ∀ (m j : Nat), j + m = tg.length → Rn (d + 1) 23 8 [some (.ref 604), some (.int (nI s)), some (.int (nI k)), some (.int (bI (decide (wd x (ws.getD k (0, 0)) ∈ tg.take j)))), some (.int (nI (8 * s + j)))] [] (SH L, fi, fl, fr) (Ret (SH L, fi, fl, fr) (some (.int (bI (decide (wd x (ws.getD k (0, 0)) ∈ tg)))))) := by
    intro m
    induction m with
    | zero =>
      intro j hj
      refine Rn.iload k_23 rfl rfl ?_
      refine Rn.bipush (8) k_23 rfl rfl ?_
      refine Rn.iload_n k_23 rfl rfl ?_
      refine Rn.imul k_23 rfl ?_
      refine Rn.aload_n k_23 rfl rfl ?_
      refine Rn.getA k_23 rfl rfl (s604 L) (hF.l 35 rfl) ?_
      refine Rn.iload_n k_23 rfl rfl ?_
      refine Rn.iaload (s) k_23 rfl (s611 L) (rfl) (hs) (by decide) ?_
      rw [h11, show (8 : Int32) = nI 8 from rfl, pk_mul]
      refine Rn.iadd k_23 rfl ?_
      rw [nI_add]
      refine Rn.icmp_ge 62 k_23 rfl rfl (fun h1 => ?_) (fun h1 => ?_)
      · refine Rn.iload_n k_23 rfl rfl ?_
        refine Rn.reti k_23 rfl q_23 rfl (bI_fit _) ?_
        rw [List.take_of_length_le (by omega)]
        exact ⟨rfl, rfl⟩
      · rw [nI_leI (by omega) (by omega)] at h1
        omega
    | succ m ih =>
      intro j hj
      have hjl : j < tg.length := by omega
      obtain ⟨a, e, u1, u2, u3, u4, u5⟩ := h12 j hjl
      have emt := mem_take_succ (l := tg) (t := wd x (ws.getD k (0, 0))) hjl
      have next : ∀ b : Bool, b = decide (wd x (ws.getD k (0, 0)) ∈ tg.take (j + 1)) → Rn (d + 1) 23 55 [some (.ref 604), some (.int (nI s)), some (.int (nI k)), some (.int (bI (decide (wd x (ws.getD k (0, 0)) ∈ tg.take j)))), some (.int (nI (8 * s + j)))] [.int (bI b)] (SH L, fi, fl, fr) (Ret (SH L, fi, fl, fr) (some (.int (bI (decide (wd x (ws.getD k (0, 0)) ∈ tg)))))) := by
        intro b hb
        refine Rn.istore_n3 k_23 rfl rfl ?_
        refine Rn.iinc4 (1) k_23 rfl rfl rfl ?_
        rw [c_add 1 1 rfl]
        refine Rn.goto 8 k_23 rfl rfl ?_
        rw [hb]
        exact ih (j + 1) (by omega)
      refine Rn.iload k_23 rfl rfl ?_
      refine Rn.bipush (8) k_23 rfl rfl ?_
      refine Rn.iload_n k_23 rfl rfl ?_
      refine Rn.imul k_23 rfl ?_
      refine Rn.aload_n k_23 rfl rfl ?_
      refine Rn.getA k_23 rfl rfl (s604 L) (hF.l 35 rfl) ?_
      refine Rn.iload_n k_23 rfl rfl ?_
      refine Rn.iaload (s) k_23 rfl (s611 L) (rfl) (hs) (by decide) ?_
      rw [h11, show (8 : Int32) = nI 8 from rfl, pk_mul]
      refine Rn.iadd k_23 rfl ?_
      rw [nI_add]
      refine Rn.icmp_ge 62 k_23 rfl rfl (fun h1 => ?_) (fun h1 => ?_)
      · rw [nI_leI (by omega) (by omega)] at h1
        omega
      · refine Rn.iload_n k_23 rfl rfl ?_
        refine Rn.if_ne 50 k_23 rfl rfl (fun h2 => ?_) (fun h2 => ?_)
        · (try rw [bI_0] at h2)
          (try rw [Bool.not_eq_false] at h2)
          refine Rn.iconst (1) k_23 rfl rfl ?_
          refine Rn.goto 55 k_23 rfl rfl ?_
          exact next true (by rw [emt, h2]; rfl)
        · (try rw [bI_0] at h2)
          (try rw [Bool.not_eq_false] at h2)
          refine Rn.aload_n k_23 rfl rfl ?_
          refine Rn.aload_n k_23 rfl rfl ?_
          refine Rn.getA k_23 rfl rfl (s604 L) (hF.l 36 rfl) ?_
          refine Rn.iload k_23 rfl rfl ?_
          refine Rn.iaload (8 * s + j) k_23 rfl (s612 L) (rfl) (by omega) (by decide) ?_
          refine Rn.aload_n k_23 rfl rfl ?_
          refine Rn.getA k_23 rfl rfl (s604 L) (hF.l 37 rfl) ?_
          refine Rn.iload k_23 rfl rfl ?_
          refine Rn.iaload (8 * s + j) k_23 rfl (s613 L) (rfl) (by omega) (by decide) ?_
          refine Rn.iload_n k_23 rfl rfl ?_
          rw [u1, u2]
          refine Rn.cV4I k_23 rfl rfl q_20 rfl (Nat.le_of_ble_eq_true rfl) (Nat.le_of_ble_eq_true rfl) (s604 L) (cm_isSame hF hT hW hw hk u3 u4) ?_
          rw [u5]
          refine Rn.if_eq 54 k_23 rfl rfl (fun h3 => ?_) (fun h3 => ?_)
          · (try rw [bI_0] at h3)
            (try rw [Bool.not_eq_false] at h3)
            refine Rn.iconst (0) k_23 rfl rfl ?_
            exact next false (by rw [emt, h2, h3]; rfl)
          · (try rw [bI_0] at h3)
            (try rw [Bool.not_eq_false] at h3)
            refine Rn.iconst (1) k_23 rfl rfl ?_
            refine Rn.goto 55 k_23 rfl rfl ?_
            exact next true (by rw [emt, h2, h3]; rfl)
  refine Rn.iconst (0) k_23 rfl rfl ?_
  refine Rn.istore_n3 k_23 rfl rfl ?_
  refine Rn.bipush (8) k_23 rfl rfl ?_
  refine Rn.iload_n k_23 rfl rfl ?_
  refine Rn.imul k_23 rfl ?_
  rw [show (8 : Int32) = nI 8 from rfl, pk_mul]
  refine Rn.istore4 k_23 rfl rfl ?_
  have := loop tg.length 0 (Nat.zero_add _)
  exact this
theorem cm_caseHas (hF : FRok F G fr) (hT : MTX fi x n) (hW : MWD fi ws) (hw : wok n ws) {k : Nat} (hk : k < ws.length) {s : Nat} (hs : s < 40) {tg : List Nm} (h8 : tg.length ≤ 8) (h11 : fi 622 s = nI tg.length) (h12 : ∀ t, t < tg.length → SL fi x n 623 624 (8 * s + t) (tg.getD t [])) : Rn (d + 1) 24 0 [some (.ref 604), some (.int (nI s)), some (.int (nI k)), none, none] [] (SH L, fi, fl, fr) (Ret (SH L, fi, fl, fr) (some (.int (bI (decide (wd x (ws.getD k (0, 0)) ∈ tg)))))) := by
  have loop : ∀ (m j : Nat), j + m = tg.length → Rn (d + 1) 24 8 [some (.ref 604), some (.int (nI s)), some (.int (nI k)), some (.int (bI (decide (wd x (ws.getD k (0, 0)) ∈ tg.take j)))), some (.int (nI (8 * s + j)))] [] (SH L, fi, fl, fr) (Ret (SH L, fi, fl, fr) (some (.int (bI (decide (wd x (ws.getD k (0, 0)) ∈ tg)))))) := by
    intro m
    induction m with
    | zero =>
      intro j hj
      refine Rn.iload k_24 rfl rfl ?_
      refine Rn.bipush (8) k_24 rfl rfl ?_
      refine Rn.iload_n k_24 rfl rfl ?_
      refine Rn.imul k_24 rfl ?_
      refine Rn.aload_n k_24 rfl rfl ?_
      refine Rn.getA k_24 rfl rfl (s604 L) (hF.l 46 rfl) ?_
      refine Rn.iload_n k_24 rfl rfl ?_
      refine Rn.iaload (s) k_24 rfl (s622 L) (rfl) (hs) (by decide) ?_
      rw [h11, show (8 : Int32) = nI 8 from rfl, pk_mul]
      refine Rn.iadd k_24 rfl ?_
      rw [nI_add]
      refine Rn.icmp_ge 62 k_24 rfl rfl (fun h1 => ?_) (fun h1 => ?_)
      · refine Rn.iload_n k_24 rfl rfl ?_
        refine Rn.reti k_24 rfl q_24 rfl (bI_fit _) ?_
        rw [List.take_of_length_le (by omega)]
        exact ⟨rfl, rfl⟩
      · rw [nI_leI (by omega) (by omega)] at h1
        omega
    | succ m ih =>
      intro j hj
      have hjl : j < tg.length := by omega
      obtain ⟨a, e, u1, u2, u3, u4, u5⟩ := h12 j hjl
      have emt := mem_take_succ (l := tg) (t := wd x (ws.getD k (0, 0))) hjl
      have next : ∀ b : Bool, b = decide (wd x (ws.getD k (0, 0)) ∈ tg.take (j + 1)) → Rn (d + 1) 24 55 [some (.ref 604), some (.int (nI s)), some (.int (nI k)), some (.int (bI (decide (wd x (ws.getD k (0, 0)) ∈ tg.take j)))), some (.int (nI (8 * s + j)))] [.int (bI b)] (SH L, fi, fl, fr) (Ret (SH L, fi, fl, fr) (some (.int (bI (decide (wd x (ws.getD k (0, 0)) ∈ tg)))))) := by
        intro b hb
        refine Rn.istore_n3 k_24 rfl rfl ?_
        refine Rn.iinc4 (1) k_24 rfl rfl rfl ?_
        rw [c_add 1 1 rfl]
        refine Rn.goto 8 k_24 rfl rfl ?_
        rw [hb]
        exact ih (j + 1) (by omega)
      refine Rn.iload k_24 rfl rfl ?_
      refine Rn.bipush (8) k_24 rfl rfl ?_
      refine Rn.iload_n k_24 rfl rfl ?_
      refine Rn.imul k_24 rfl ?_
      refine Rn.aload_n k_24 rfl rfl ?_
      refine Rn.getA k_24 rfl rfl (s604 L) (hF.l 46 rfl) ?_
      refine Rn.iload_n k_24 rfl rfl ?_
      refine Rn.iaload (s) k_24 rfl (s622 L) (rfl) (hs) (by decide) ?_
      rw [h11, show (8 : Int32) = nI 8 from rfl, pk_mul]
      refine Rn.iadd k_24 rfl ?_
      rw [nI_add]
      refine Rn.icmp_ge 62 k_24 rfl rfl (fun h1 => ?_) (fun h1 => ?_)
      · rw [nI_leI (by omega) (by omega)] at h1
        omega
      · refine Rn.iload_n k_24 rfl rfl ?_
        refine Rn.if_ne 50 k_24 rfl rfl (fun h2 => ?_) (fun h2 => ?_)
        · (try rw [bI_0] at h2)
          (try rw [Bool.not_eq_false] at h2)
          refine Rn.iconst (1) k_24 rfl rfl ?_
          refine Rn.goto 55 k_24 rfl rfl ?_
          exact next true (by rw [emt, h2]; rfl)
        · (try rw [bI_0] at h2)
          (try rw [Bool.not_eq_false] at h2)
          refine Rn.aload_n k_24 rfl rfl ?_
          refine Rn.aload_n k_24 rfl rfl ?_
          refine Rn.getA k_24 rfl rfl (s604 L) (hF.l 47 rfl) ?_
          refine Rn.iload k_24 rfl rfl ?_
          refine Rn.iaload (8 * s + j) k_24 rfl (s623 L) (rfl) (by omega) (by decide) ?_
          refine Rn.aload_n k_24 rfl rfl ?_
          refine Rn.getA k_24 rfl rfl (s604 L) (hF.l 48 rfl) ?_
          refine Rn.iload k_24 rfl rfl ?_
          refine Rn.iaload (8 * s + j) k_24 rfl (s624 L) (rfl) (by omega) (by decide) ?_
          refine Rn.iload_n k_24 rfl rfl ?_
          rw [u1, u2]
          refine Rn.cV4I k_24 rfl rfl q_20 rfl (Nat.le_of_ble_eq_true rfl) (Nat.le_of_ble_eq_true rfl) (s604 L) (cm_isSame hF hT hW hw hk u3 u4) ?_
          rw [u5]
          refine Rn.if_eq 54 k_24 rfl rfl (fun h3 => ?_) (fun h3 => ?_)
          · (try rw [bI_0] at h3)
            (try rw [Bool.not_eq_false] at h3)
            refine Rn.iconst (0) k_24 rfl rfl ?_
            exact next false (by rw [emt, h2, h3]; rfl)
          · (try rw [bI_0] at h3)
            (try rw [Bool.not_eq_false] at h3)
            refine Rn.iconst (1) k_24 rfl rfl ?_
            refine Rn.goto 55 k_24 rfl rfl ?_
            exact next true (by rw [emt, h2, h3]; rfl)
  refine Rn.iconst (0) k_24 rfl rfl ?_
  refine Rn.istore_n3 k_24 rfl rfl ?_
  refine Rn.bipush (8) k_24 rfl rfl ?_
  refine Rn.iload_n k_24 rfl rfl ?_
  refine Rn.imul k_24 rfl ?_
  rw [show (8 : Int32) = nI 8 from rfl, pk_mul]
  refine Rn.istore4 k_24 rfl rfl ?_
  exact loop tg.length 0 (Nat.zero_add _)
theorem stg_at {ss : List (Nm × List Nm)} {su : Nat} (h0 : su ≠ 0) : stg ss su = (ss.getD (su - 1) dU).2 := by
  cases su with
  | zero => exact absurd rfl h0
  | succ s => rfl
theorem snm_at {ss : List (Nm × List Nm)} {su : Nat} (h0 : su ≠ 0) : snm ss su = (ss.getD (su - 1) dU).1 := by
  cases su with
  | zero => exact absurd rfl h0
  | succ s => rfl
theorem cm_tagsOf (hF : FRok F G fr) (hU : MSU fi x n A.1) (hK : MKS fi x n A.2.1) (hA : AOk n A) {c : Nat} (hc : c < A.2.1.length) : Rn d 25 0 [some (.ref 604), some (.int (nI c))] [] (SH L, fi, fl, fr) (Ret (SH L, fi, fl, fr) (some (.int (nI (atg A.1 (A.2.1.getD c dK)).length)))) := by
  have h40 := hA.2.2.2.1
  have h10 := hA.1
  have hk := hA.k hc
  obtain ⟨u0, -, -, -, -, -, -, u8, -⟩ := hK.2 c hc
  have hsu := hk.1
  have el : (atg A.1 (A.2.1.getD c dK)).length = (k_tg (A.2.1.getD c dK)).length + (stg A.1 (k_su (A.2.1.getD c dK))).length := by
    unfold atg
    rw [List.length_append]; omega
  rw [el]
  generalize A.2.1.getD c dK = k at u0 u8 hsu ⊢
  refine Rn.aload_n k_25 rfl rfl ?_
  refine Rn.getA k_25 rfl rfl (s604 L) (hF.l 46 rfl) ?_
  refine Rn.iload_n k_25 rfl rfl ?_
  refine Rn.iaload (c) k_25 rfl (s622 L) (rfl) (by omega) (by decide) ?_
  refine Rn.aload_n k_25 rfl rfl ?_
  refine Rn.getA k_25 rfl rfl (s604 L) (hF.l 38 rfl) ?_
  refine Rn.iload_n k_25 rfl rfl ?_
  refine Rn.iaload (c) k_25 rfl (s614 L) (rfl) (by omega) (by decide) ?_
  rw [u0, u8]
  by_cases h0 : k_su k = 0
  · rw [h0]
    refine Rn.if_ge 19 k_25 rfl rfl (fun h1 => ?_) (fun h1 => ?_)
    · exact absurd h1 (by decide)
    · refine Rn.iconst (0) k_25 rfl rfl ?_
      refine Rn.goto 30 k_25 rfl rfl ?_
      refine Rn.iadd k_25 rfl ?_
      refine Rn.reti k_25 rfl q_25 rfl (rfl) ?_
      rw [Int32.add_zero]
      exact ⟨rfl, rfl⟩
  · rw [c_sub 1 1 rfl (by omega)]
    obtain ⟨-, v2, -⟩ := hU.2 (k_su k - 1) (by omega)
    refine Rn.if_ge 19 k_25 rfl rfl (fun h1 => ?_) (fun h1 => ?_)
    · refine Rn.aload_n k_25 rfl rfl ?_
      refine Rn.getA k_25 rfl rfl (s604 L) (hF.l 35 rfl) ?_
      refine Rn.aload_n k_25 rfl rfl ?_
      refine Rn.getA k_25 rfl rfl (s604 L) (hF.l 38 rfl) ?_
      refine Rn.iload_n k_25 rfl rfl ?_
      refine Rn.iaload (c) k_25 rfl (s614 L) (rfl) (by omega) (by decide) ?_
      rw [u0, c_sub 1 1 rfl (by omega)]
      refine Rn.iaload (k_su k - 1) k_25 rfl (s611 L) (rfl) (by omega) (by decide) ?_
      rw [v2]
      refine Rn.iadd k_25 rfl ?_
      rw [nI_add, stg_at h0]
      refine Rn.reti k_25 rfl q_25 rfl (rfl) ?_
      exact ⟨rfl, rfl⟩
    · exact absurd (nI_pos' (by omega)) h1
end MT
