/-! THE REFERENCE: testMany, suiteLine, caseLine -/
theorem gD_lt {α : Type} {l : List α} {a d : α} {i : Nat} (h : i < l.length) : (l ++ [a]).getD i d = l.getD i d := by
  rw [List.getD_eq_getElem?_getD, List.getD_eq_getElem?_getD, List.getElem?_append_left h]
theorem gD_last {α : Type} (l : List α) (a d : α) : (l ++ [a]).getD l.length d = a := by
  rw [List.getD_eq_getElem?_getD, List.getElem?_append_right (Nat.le_refl _), Nat.sub_self]; rfl
theorem gD_mem {α : Type} {l : List α} {d : α} {i : Nat} (h : i < l.length) : l.getD i d ∈ l := by
  rw [List.getD_eq_getElem?_getD, List.getElem?_eq_getElem h]
  exact List.getElem_mem _
def PWs (fi : Nat → Nat → Int32) (ks : List KS) : Prop := ∀ c, c < ks.length → (k_ps (ks.getD c dK)).length ≤ 4 ∧ (∀ p, p < (k_ps (ks.getD c dK)).length → ((k_ps (ks.getD c dK)).getD p ([], [])).2.length ≤ 6) ∧ fi 625 c = nI (k_ps (ks.getD c dK)).length ∧ ∀ p, p < (k_ps (ks.getD c dK)).length → fi 628 (4 * c + p) = nI ((k_ps (ks.getD c dK)).getD p ([], [])).2.length
theorem MKS.pws {fi : Nat → Nat → Int32} {x : Nat → Nat} {n : Nat} {A : AS} (h : MKS fi x n A.2.1) (hA : AOk n A) : PWs fi A.2.1 := by
  intro c hc
  have hk := hA.k hc
  obtain ⟨-, -, -, -, -, -, -, -, -, h25, h26⟩ := h.2 c hc
  exact ⟨hk.2.2.2.2.2.2.2.2.1, fun p hp => (hk.pv hp).2, h25, fun p hp => (h26 p hp).2.1⟩
section ML
variable {d L : Nat} {fi : Nat → Nat → Int32} {fl : Nat → Nat → Int64} {fr : Nat → Nat → Option Nat} {F G : Nat} {x : Nat → Nat} {n : Nat} {A : AS} {ws : List (Nat × Nat)}
theorem cm_testMany (hF : FRok F G fr) {ks : List KS} (hl : ks.length ≤ 40) (hn : fi 604 14 = nI ks.length) (hP : PWs fi ks) : Rn (d + 1) 34 0 [some (.ref 604), none, none] [] (SH L, fi, fl, fr) (Ret (SH L, fi, fl, fr) (some (.int (nI (totW ks))))) := by
  have loop : ∀ (m c : Nat), c + m = ks.length → Rn (d + 1) 34 4 [some (.ref 604), some (.int (nI (totW (ks.take c)))), some (.int (nI c))] [] (SH L, fi, fl, fr) (Ret (SH L, fi, fl, fr) (some (.int (nI (totW ks))))) := by
    intro m
    induction m with
    | zero =>
      intro c hc
      refine Rn.iload_n k_34 rfl rfl ?_
      refine Rn.aload_n k_34 rfl rfl ?_
      refine Rn.getI k_34 rfl rfl (s604 L) ?_
      rw [hn]
      refine Rn.icmp_ge 26 k_34 rfl rfl (fun h1 => ?_) (fun h1 => ?_)
      · refine Rn.iload_n k_34 rfl rfl ?_
        refine Rn.reti k_34 rfl q_34 rfl (rfl) ?_
        rw [List.take_of_length_le (by omega)]
        exact ⟨rfl, rfl⟩
      · rw [nI_leI (by omega) (by omega)] at h1
        omega
    | succ m ih =>
      intro c hc
      have hcl : c < ks.length := by omega
      obtain ⟨p1, p2, p3, p4⟩ := hP c hcl
      refine Rn.iload_n k_34 rfl rfl ?_
      refine Rn.aload_n k_34 rfl rfl ?_
      refine Rn.getI k_34 rfl rfl (s604 L) ?_
      rw [hn]
      refine Rn.icmp_ge 26 k_34 rfl rfl (fun h1 => ?_) (fun h1 => ?_)
      · rw [nI_leI (by omega) (by omega)] at h1
        omega
      · refine Rn.iload_n k_34 rfl rfl ?_
        refine Rn.aload_n k_34 rfl rfl ?_
        refine Rn.iload_n k_34 rfl rfl ?_
        refine Rn.cV2I k_34 rfl rfl q_33 rfl (Nat.le_of_ble_eq_true rfl) (Nat.le_of_ble_eq_true rfl) (s604 L) (cm_waysOf hF (by omega) p1 p2 p3 p4) ?_
        refine Rn.iadd k_34 rfl ?_
        rw [nI_add, ← totW_succ hcl]
        refine Rn.istore_n1 k_34 rfl rfl ?_
        refine Rn.iinc2 (1) k_34 rfl rfl rfl ?_
        rw [c_add 1 1 rfl]
        refine Rn.goto 4 k_34 rfl rfl ?_
        exact ih (c + 1) (by omega)
  refine Rn.iconst (0) k_34 rfl rfl ?_
  refine Rn.istore_n1 k_34 rfl rfl ?_
  refine Rn.iconst (0) k_34 rfl rfl ?_
  refine Rn.istore_n2 k_34 rfl rfl ?_
  exact loop ks.length 0 (Nat.zero_add _)
set_option maxHeartbeats 1000000 in
theorem cm_suiteLine (hF : FRok F G fr) (hS : MSr fi x n A) (hA : AOk n A) (hW : MWD fi ws) (hw : wok n ws) {w0 : Nat × Nat} {rest : List (Nat × Nat)} (hws : ws = w0 :: rest) : Rn (d + 3) 21 0 [some (.ref 604), none] [] (SH L, fi, fl, fr) (MacQ L fi fl fr x n (suiteL x A (rest.map (wd x)))) := by
  obtain ⟨hT, hU, hK, hC⟩ := hS
  have hl : ws.length = rest.length + 1 := by rw [hws]; rfl
  have hl6 := hw.2
  have hn := hT.2
  have h10 := hA.1
  have no : suiteL x A (rest.map (wd x)) = none → ∀ o1, Rn (d + 3) 21 26 [some (.ref 604), o1] [] (SH L, fi, fl, fr) (MacQ L fi fl fr x n (suiteL x A (rest.map (wd x)))) := by
    intro e o1
    refine Rn.iconst (0) k_21 rfl rfl ?_
    refine Rn.reti k_21 rfl q_21 rfl (rfl) ?_
    rw [e]
    exact ⟨fi, rfl, fun _ _ _ => rfl, rfl, fun B hB => by cases hB⟩
  refine Rn.aload_n k_21 rfl rfl ?_
  refine Rn.getI k_21 rfl rfl (s604 L) ?_
  rw [hW.1]
  refine Rn.iconst (2) k_21 rfl rfl ?_
  refine Rn.icmp_ne 26 k_21 rfl rfl (fun h1 => ?_) (fun h1 => ?_)
  · rw [c_eq 2 2 rfl (by omega) (by decide)] at h1
    refine no ?_ _
    match rest, hl with
    | [], _ => rfl
    | [w], hl => exact absurd hl h1
    | w :: w' :: r, _ => rfl
  · rw [c_eq 2 2 rfl (by omega) (by decide)] at h1
    match rest, hl, hws, no with
    | [], hl, _, _ => exact absurd hl (by simp; omega)
    | w :: w' :: r, hl, _, _ => exact absurd hl (by simp only [List.length_cons]; omega)
    | [w], hl, hws, no =>
      have hg : ws.getD 1 (0, 0) = w := by rw [hws]; rfl
      obtain ⟨w1, w2⟩ := hW.2 1 (by omega)
      have hww := wok_at hw (show 1 < ws.length by omega)
      rw [hg] at hww w1 w2
      have eL : suiteL x A ([w].map (wd x)) = if okN (wd x w) = true ∧ A.1.length < 10 ∧ wd x w ∉ A.1.map (·.1) then some (A.1 ++ [(wd x w, [])], A.2.1, false) else none := rfl
      rw [eL] at no ⊢
      refine Rn.aload_n k_21 rfl rfl ?_
      refine Rn.iconst (1) k_21 rfl rfl ?_
      refine Rn.iconst (1) k_21 rfl rfl ?_
      refine Rn.cV3I k_21 rfl rfl q_19 rfl (Nat.le_of_ble_eq_true rfl) (Nat.le_of_ble_eq_true rfl) (s604 L) (cm_isRight (k := 1) (b := true) hF hT hW hw (by omega)) ?_
      rw [if_pos rfl, hg]
      refine Rn.if_eq 26 k_21 rfl rfl (fun h2 => ?_) (fun h2 => ?_)
      · (try rw [bI_0] at h2)
        (try rw [Bool.not_eq_false] at h2)
        exact no (if_neg (fun z => by rw [h2] at z; cases z.1)) _
      · (try rw [bI_0] at h2)
        (try rw [Bool.not_eq_false] at h2)
        refine Rn.aload_n k_21 rfl rfl ?_
        refine Rn.getI k_21 rfl rfl (s604 L) ?_
        rw [hU.1]
        refine Rn.bipush (10) k_21 rfl rfl ?_
        refine Rn.icmp_ne 28 k_21 rfl rfl (fun h3 => ?_) (fun h3 => ?_)
        · rw [c_eq 10 10 rfl (by omega) (by decide)] at h3
          have hlt : A.1.length < 10 := by omega
          -- the loop over the suites
          have loop : ∀ (m s : Nat), s + m = A.1.length → (∀ j, j < s → (A.1.getD j dU).1 ≠ wd x w) → Rn (d + 3) 21 30 [some (.ref 604), some (.int (nI s))] [] (SH L, fi, fl, fr) (MacQ L fi fl fr x n (if okN (wd x w) = true ∧ A.1.length < 10 ∧ wd x w ∉ A.1.map (·.1) then some (A.1 ++ [(wd x w, [])], A.2.1, false) else none)) := by
            intro m
            induction m with
            | zero =>
              intro s hs hj
              have hnm : wd x w ∉ A.1.map (·.1) := by
                intro z
                obtain ⟨u, hu, e⟩ := List.mem_map.mp z
                obtain ⟨j, hjl, ej⟩ := List.getElem_of_mem hu
                refine hj j (by omega) ?_
                rw [List.getD_eq_getElem?_getD, List.getElem?_eq_getElem hjl]
                show (A.1[j]).1 = _
                rw [ej]
                exact e
              rw [if_pos ⟨h2, hlt, hnm⟩]
              refine Rn.iload_n k_21 rfl rfl ?_
              refine Rn.aload_n k_21 rfl rfl ?_
              refine Rn.getI k_21 rfl rfl (s604 L) ?_
              rw [hU.1]
              refine Rn.icmp_ge 66 k_21 rfl rfl (fun h4 => ?_) (fun h4 => ?_)
              · refine Rn.aload_n k_21 rfl rfl ?_
                refine Rn.getA k_21 rfl rfl (s604 L) (hF.l 33 rfl) ?_
                refine Rn.aload_n k_21 rfl rfl ?_
                refine Rn.getI k_21 rfl rfl (s604 L) ?_
                refine Rn.aload_n k_21 rfl rfl ?_
                refine Rn.getA k_21 rfl rfl (s604 L) (hF.l 31 rfl) ?_
                refine Rn.iconst (1) k_21 rfl rfl ?_
                refine Rn.iaload (1) k_21 rfl (s607 L) (rfl) (by omega) (by decide) ?_
                rw [w1]
                refine Rn.iastore (A.1.length) k_21 rfl (s609 L) (hU.1) (by omega) (by decide) (rfl) ?_
                refine Rn.aload_n k_21 rfl rfl ?_
                refine Rn.getA k_21 rfl rfl (s604 L) (hF.l 34 rfl) ?_
                refine Rn.aload_n k_21 rfl rfl ?_
                refine Rn.getI k_21 rfl rfl (s604 L) ?_
                refine Rn.aload_n k_21 rfl rfl ?_
                refine Rn.getA k_21 rfl rfl (s604 L) (hF.l 32 rfl) ?_
                refine Rn.iconst (1) k_21 rfl rfl ?_
                refine Rn.iaload (1) k_21 rfl (s608 L) (rfl) (by omega) (by decide) ?_
                rw [show up2 fi 609 A.1.length (nI w.1) 608 1 = nI w.2 from w2]
                refine Rn.iastore (A.1.length) k_21 rfl (s610 L) (hU.1) (by omega) (by decide) (rfl) ?_
                refine Rn.aload_n k_21 rfl rfl ?_
                refine Rn.getA k_21 rfl rfl (s604 L) (hF.l 35 rfl) ?_
                refine Rn.aload_n k_21 rfl rfl ?_
                refine Rn.getI k_21 rfl rfl (s604 L) ?_
                refine Rn.iconst (0) k_21 rfl rfl ?_
                refine Rn.iastore (A.1.length) k_21 rfl (s611 L) (hU.1) (by omega) (by decide) (rfl) ?_
                refine Rn.aload_n k_21 rfl rfl ?_
                refine Rn.dupa k_21 rfl ?_
                refine Rn.getI k_21 rfl rfl (s604 L) ?_
                rw [show up2 (up2 (up2 fi 609 A.1.length (nI w.1)) 610 A.1.length (nI w.2)) 611 A.1.length 0 604 8 = nI A.1.length from hU.1]
                refine Rn.iconst (1) k_21 rfl rfl ?_
                refine Rn.iadd k_21 rfl ?_
                rw [c_add 1 1 rfl]
                refine Rn.putI k_21 rfl (rfl) (s604 L) ?_
                refine Rn.aload_n k_21 rfl rfl ?_
                refine Rn.iconst (0) k_21 rfl rfl ?_
                refine Rn.putI k_21 rfl (rfl) (s604 L) ?_
                refine Rn.iconst (1) k_21 rfl rfl ?_
                refine Rn.reti k_21 rfl q_21 rfl (rfl) ?_
                refine ⟨_, rfl, fun a k ha => ?_, rfl, fun B hB => ?_⟩
                · unfold mF at ha
                  unfold up2
                  rcases ha with ha | ha
                  · rw [if_neg (by omega), if_neg (by omega), if_neg (by omega), if_neg (by omega), if_neg (by omega)]
                  · rw [if_pos ha.1, if_neg ha.2.2.2, if_pos ha.1, if_neg ha.2.1, if_neg (by omega), if_neg (by omega), if_neg (by omega)]
                · cases hB
                  refine ⟨hT, ⟨?_, fun s hs => ?_⟩, ⟨hK.1, fun c hc => ?_⟩, rfl⟩
                  · show nI (A.1.length + 1) = nI (A.1 ++ [(wd x w, ([] : List Nm))]).length
                    rw [List.length_append]; rfl
                  · have hs : s < (A.1 ++ [(wd x w, ([] : List Nm))]).length := hs
                    rw [List.length_append] at hs
                    have hs : s < A.1.length + 1 := hs
                    show MUr _ x n s ((A.1 ++ [(wd x w, ([] : List Nm))]).getD s dU)
                    by_cases e : s = A.1.length
                    · subst e
                      rw [gD_last]
                      refine ⟨⟨w.1, w.2, ?_, ?_, by omega, hww.2, rfl⟩, ?_, fun t ht => absurd ht (Nat.not_lt_zero t)⟩
                      · show up2 fi 609 A.1.length (nI w.1) 609 A.1.length = _
                        exact up2_same _ _ _ _
                      · show up2 (up2 fi 609 A.1.length (nI w.1)) 610 A.1.length (nI w.2) 610 A.1.length = _
                        exact up2_same _ _ _ _
                      · show up2 (up2 (up2 fi 609 A.1.length (nI w.1)) 610 A.1.length (nI w.2)) 611 A.1.length 0 611 A.1.length = _
                        exact up2_same _ _ _ _
                    · rw [gD_lt (by omega)]
                      refine (hU.2 s (by omega)).keep (fun a k z1 z2 z3 z4 => ?_)
                      rw [up2_row _ _ (by omega), up2_row _ _ (by omega)]
                      by_cases ha : a ≤ 611
                      · have := z3 ha
                        rw [up2_col _ _ (by omega), up2_col _ _ (by omega), up2_col _ _ (by omega)]
                      · rw [up2_row _ _ (by omega), up2_row _ _ (by omega), up2_row _ _ (by omega)]
                  · have hk := hA.k hc
                    exact (hK.2 c hc).keep hk.2.2.2.2.2.2.2.2.1 (fun p hp => (hk.pv hp).2) (fun a j z1 z2 _ _ _ _ => by rw [up2_row _ _ (by omega), up2_row _ _ (by omega), up2_row _ _ (by omega), up2_row _ _ (by omega), up2_row _ _ (by omega)])
              · rw [nI_leI (by omega) (by omega)] at h4
                omega
            | succ m ih =>
              intro s hs hj
              have hsl : s < A.1.length := by omega
              obtain ⟨⟨a, e, u1, u2, u3, u4, u5⟩, -⟩ := hU.2 s hsl
              refine Rn.iload_n k_21 rfl rfl ?_
              refine Rn.aload_n k_21 rfl rfl ?_
              refine Rn.getI k_21 rfl rfl (s604 L) ?_
              rw [hU.1]
              refine Rn.icmp_ge 66 k_21 rfl rfl (fun h4 => ?_) (fun h4 => ?_)
              · rw [nI_leI (by omega) (by omega)] at h4
                omega
              · refine Rn.aload_n k_21 rfl rfl ?_
                refine Rn.aload_n k_21 rfl rfl ?_
                refine Rn.getA k_21 rfl rfl (s604 L) (hF.l 33 rfl) ?_
                refine Rn.iload_n k_21 rfl rfl ?_
                refine Rn.iaload (s) k_21 rfl (s609 L) (rfl) (by omega) (by decide) ?_
                refine Rn.aload_n k_21 rfl rfl ?_
                refine Rn.getA k_21 rfl rfl (s604 L) (hF.l 34 rfl) ?_
                refine Rn.iload_n k_21 rfl rfl ?_
                refine Rn.iaload (s) k_21 rfl (s610 L) (rfl) (by omega) (by decide) ?_
                refine Rn.iconst (1) k_21 rfl rfl ?_
                rw [u1, u2]
                refine Rn.cV4I k_21 rfl rfl q_20 rfl (Nat.le_of_ble_eq_true rfl) (Nat.le_of_ble_eq_true rfl) (s604 L) (cm_isSame (k := 1) hF hT hW hw (by omega) u3 u4) ?_
                rw [hg, u5]
                refine Rn.if_eq 60 k_21 rfl rfl (fun h5 => ?_) (fun h5 => ?_)
                · (try rw [bI_0] at h5)
                  (try rw [Bool.not_eq_false] at h5)
                  have h5 := of_decide_eq_false h5
                  refine Rn.iinc1 (1) k_21 rfl rfl rfl ?_
                  rw [c_add 1 1 rfl]
                  refine Rn.goto 30 k_21 rfl rfl ?_
                  refine ih (s + 1) (by omega) (fun j hjs => ?_)
                  by_cases ej : j = s
                  · rw [ej]; exact h5
                  · exact hj j (by omega)
                · (try rw [bI_0] at h5)
                  (try rw [Bool.not_eq_false] at h5)
                  have h5 := of_decide_eq_true h5
                  refine Rn.iconst (0) k_21 rfl rfl ?_
                  refine Rn.reti k_21 rfl q_21 rfl (rfl) ?_
                  rw [if_neg]
                  · exact ⟨fi, rfl, fun _ _ _ => rfl, rfl, fun B hB => by cases hB⟩
                  · rintro ⟨-, -, z⟩
                    exact z (List.mem_map.mpr ⟨A.1.getD s dU, gD_mem hsl, h5⟩)
          refine Rn.iconst (0) k_21 rfl rfl ?_
          refine Rn.istore_n1 k_21 rfl rfl ?_
          exact loop A.1.length 0 (Nat.zero_add _) (fun j hj => absurd hj (Nat.not_lt_zero j))
        · rw [c_eq 10 10 rfl (by omega) (by decide)] at h3
          exact no (if_neg (fun z => by omega)) _
end ML
