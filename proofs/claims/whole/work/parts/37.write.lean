/-! TestName.write, isOn -/
theorem psegs_len {ps : List (Nm × List Nm)} {w : Nat} (h1 : ∀ p ∈ ps, okV p.1 = true) (h2 : ∀ p, p < ps.length → okV (vsel ps w p) = true) : ∀ p, p ≤ ps.length → (psegs ps w p).length ≤ 26 * p
  | 0, _ => Nat.zero_le _
  | p + 1, h => by
    have i := psegs_len h1 h2 p (by omega)
    have e1 : okV (ps.getD p ([], [])).1 = true := by
      refine h1 _ ?_
      rw [List.getD_eq_getElem?_getD, List.getElem?_eq_getElem (by omega)]
      exact List.getElem_mem _
    have e1 := okV_len e1
    have e2 := okV_len (h2 p (by omega))
    show (psegs ps w p ++ pseg ps w p).length ≤ _
    rw [List.length_append]
    unfold pseg
    rw [List.length_cons, List.length_append, List.length_cons]
    omega
theorem vsel_ok {ss : List (Nm × List Nm)} {n : Nat} {k : KS} (hk : KOk ss n k) (w : Nat) {p : Nat} (hp : p < (k_ps k).length) : okV (vsel (k_ps k) w p) = true ∧ vsel (k_ps k) w p ≠ [] := by
  have hm : (k_ps k).getD p ([], []) ∈ k_ps k := by
    rw [List.getD_eq_getElem?_getD, List.getElem?_eq_getElem hp]
    exact List.getElem_mem _
  obtain ⟨-, -, h3, -, h5, -⟩ := hk.2.2.2.2.2.2.2.2.2.1 _ hm
  unfold vsel
  have hl : vturn (k_ps k) w p % ((k_ps k).getD p ([], [])).2.length < ((k_ps k).getD p ([], [])).2.length := Nat.mod_lt _ (by omega)
  rw [List.getD_eq_getElem?_getD (l := ((k_ps k).getD p ([], [])).2), List.getElem?_eq_getElem hl]
  exact h5 _ (List.getElem_mem hl)
theorem snm_ok {n : Nat} {A : AS} (hA : AOk n A) {su : Nat} (h : su ≤ A.1.length) (h0 : su ≠ 0) : okN (snm A.1 su) = true ∧ snm A.1 su ≠ [] := by
  match su, h, h0 with
  | 0, _, h0 => exact absurd rfl h0
  | s + 1, h, _ =>
    show okN (A.1.getD s ([], [])).1 = true ∧ (A.1.getD s ([], [])).1 ≠ []
    rw [List.getD_eq_getElem?_getD, List.getElem?_eq_getElem h]
    have := hA.2.1 _ (List.getElem_mem h)
    exact ⟨this.1, this.2.1⟩
section NM
variable {d L : Nat} {fi : Nat → Nat → Int32} {fl : Nat → Nat → Int64} {fr : Nat → Nat → Option Nat} {F G : Nat} {x : Nat → Nat} {n : Nat} {A : AS}
set_option maxHeartbeats 1000000 in
theorem ct_write (hF : FRok F G fr) (hS : FSr fi fl x n A) (hA : AOk n A) {i : Nat} (hi : i < A.2.1.length) {w : Nat} (hw : w < ways (k_ps (A.2.1.getD i dK))) : Rn (d + 2) 128 0 [some (.ref 597), some (.ref (25 + 14 * i)), some (.int (nI (totW (A.2.1.take i) + w))), none] [] (SH L, fi, fl, fr) (namQ L fi fl fr (tnm A.1 (A.2.1.getD i dK) w)) := by
  have hi4 : i < 40 := Nat.lt_of_lt_of_le hi hA.2.2.2.1
  have hC := hS.2.2.2.2.1 i hi
  have hk := hA.k hi
  have h9 := (hS.2.2.2.2.2 i hi).1
  have htw := Nat.le_trans (totW_take_le A.2.1 i) hA.2.2.2.2.2.1
  have hA1 := hA.1
  generalize A.2.1.getD i dK = k at hC hk hw ⊢
  have hways := hk.2.2.2.2.2.2.2.2.2.2.2
  have hsu := hk.1
  have hps := hk.2.2.2.2.2.2.2.2.1
  have hnm := okN_okV hk.2.1
  have hnl := okV_len hnm
  have hpn : ∀ p ∈ k_ps k, okV p.1 = true := fun p hp => okN_okV (hk.2.2.2.2.2.2.2.2.2.1 p hp).1
  have hvs : ∀ p, p < (k_ps k).length → okV (vsel (k_ps k) w p) = true := fun p hp => (vsel_ok hk w hp).1
  have pl := psegs_len hpn hvs
  have hpr : fi (25 + 14 * i + 3) 1 = nI (k_ps k).length := by rw [hC.2.2.2.2.2.2.2.2.2.2.2.1.1, List.length_map]
  generalize hB : (if k_su k = 0 then [] else snm A.1 (k_su k) ++ [46]) ++ k_nm k = B
  have hBl : B.length ≤ 25 := by
    rw [← hB, List.length_append]
    split
    · simp only [List.length_nil]; omega
    · rename_i h0
      have := okV_len (okN_okV (snm_ok hA hsu h0).1)
      rw [List.length_append]
      simp only [List.length_singleton]
      omega
  have frm : ∀ {gi : Nat → Nat → Int32}, (∀ a k, nmF a → gi a k = fi a k) → ∀ a q, a < 585 → gi a q = fi a q := fun h a q ha => h a q ⟨by omega, by omega⟩
  -- the loop over the parameters
  have loop : ∀ (m p : Nat) (gi : Nat → Nat → Int32), p + m = (k_ps k).length → NMr gi (B ++ psegs (k_ps k) w p) → (∀ a k, nmF a → gi a k = fi a k) → Rn (d + 2) 128 37 [some (.ref 597), some (.ref (25 + 14 * i)), some (.int (nI (totW (A.2.1.take i) + w))), some (.int (nI p))] [] (SH L, gi, fl, fr) (namQ L fi fl fr (tnm A.1 k w)) := by
    intro m
    induction m with
    | zero =>
      intro p gi hp hN hg
      have : p = (k_ps k).length := by omega
      subst this
      have ple := pl _ (Nat.le_refl _)
      refine Rn.iload_n k_128 rfl rfl ?_
      refine Rn.aload_n k_128 rfl rfl ?_
      refine Rn.getA k_128 rfl rfl (sk0 L hi4) (hF.k hi4 3 rfl) ?_
      refine Rn.getI k_128 rfl rfl (sk3 L hi4) ?_
      rw [frm hg _ _ (by omega), hpr]
      refine Rn.icmp_ge 97 k_128 rfl rfl (fun h2 => ?_) (fun h2 => ?_)
      · refine Rn.aload_n k_128 rfl rfl ?_
        refine Rn.getA k_128 rfl rfl (sk0 L hi4) (hF.k hi4 3 rfl) ?_
        refine Rn.getI k_128 rfl rfl (sk3 L hi4) ?_
        rw [frm hg _ _ (by omega), hpr]
        refine Rn.if_le 113 k_128 rfl rfl (fun h4 => ?_) (fun h4 => ?_)
        · rw [c_le 0 0 rfl (by omega) (by decide)] at h4
          refine Rn.retv k_128 rfl q_128 rfl ?_
          refine ⟨rfl, gi, rfl, ?_, hg⟩
          unfold tnm
          rw [if_pos (show (k_ps k).length = 0 by omega), List.append_nil, hB]
          exact hN
        · rw [c_le 0 0 rfl (by omega) (by decide)] at h4
          refine Rn.aload_n k_128 rfl rfl ?_
          refine Rn.bipush (93) k_128 rfl rfl ?_
          refine Rn.cV2 k_128 rfl rfl q_129 rfl (Nat.le_of_ble_eq_true rfl) (Nat.le_of_ble_eq_true rfl) (s597 L) (ct_addMark (c := 93) hF hN (by rw [List.length_append]; omega) (by decide)) (fun v h' hq => ?_)
          obtain ⟨rfl, g1, rfl, n1, f1⟩ := hq
          show Rn _ _ _ _ [] _ _
          refine Rn.retv k_128 rfl q_128 rfl ?_
          refine ⟨rfl, g1, rfl, ?_, fun a q ha => (f1 a q ha).trans (hg a q ha)⟩
          unfold tnm
          rw [if_neg (show ¬ (k_ps k).length = 0 by omega), hB]
          exact n1
      · rw [nI_leI (by omega) (by omega)] at h2
        omega
    | succ m ih =>
      intro p gi hp hN hg
      have hpl : p < (k_ps k).length := by omega
      have ple := pl p (by omega)
      have hm : (k_ps k).getD p ([], []) ∈ k_ps k := by
        rw [List.getD_eq_getElem?_getD, List.getElem?_eq_getElem hpl]
        exact List.getElem_mem _
      have hpo := hpn _ hm
      have hpo2 := okV_len hpo
      have hvo := hvs p hpl
      have hvo2 := okV_len hvo
      refine Rn.iload_n k_128 rfl rfl ?_
      refine Rn.aload_n k_128 rfl rfl ?_
      refine Rn.getA k_128 rfl rfl (sk0 L hi4) (hF.k hi4 3 rfl) ?_
      refine Rn.getI k_128 rfl rfl (sk3 L hi4) ?_
      rw [frm hg _ _ (by omega), hpr]
      refine Rn.icmp_ge 97 k_128 rfl rfl (fun h2 => ?_) (fun h2 => ?_)
      · rw [nI_leI (by omega) (by omega)] at h2
        omega
      · have mark : Rn (d + 2) 128 60 [some (.ref 597), some (.ref (25 + 14 * i)), some (.int (nI (totW (A.2.1.take i) + w))), some (.int (nI p))] [.int (nI (if p = 0 then 91 else 44)), .ref 597] (SH L, gi, fl, fr) (namQ L fi fl fr (tnm A.1 k w)) := by
          refine Rn.cV2 k_128 rfl rfl q_129 rfl (Nat.le_of_ble_eq_true rfl) (Nat.le_of_ble_eq_true rfl) (s597 L) (ct_addMark hF hN (by rw [List.length_append]; omega) (by split <;> decide)) (fun v h' hq => ?_)
          obtain ⟨rfl, g1, rfl, n1, f1⟩ := hq
          show Rn _ _ _ _ [] _ _
          have f1 : ∀ a q, nmF a → g1 a q = fi a q := fun a q ha => (f1 a q ha).trans (hg a q ha)
          have c12 : NRr g1 fl (25 + 14 * i + 3) (25 + 14 * i + 4) ((k_ps k).map (fun p => enc p.1)) := hC.2.2.2.2.2.2.2.2.2.2.2.1.keep (frm f1 _ _ (by omega)) (fun _ => rfl)
          refine Rn.aload_n k_128 rfl rfl ?_
          refine Rn.aload_n k_128 rfl rfl ?_
          refine Rn.getA k_128 rfl rfl (sk0 L hi4) (hF.k hi4 3 rfl) ?_
          refine Rn.iload_n k_128 rfl rfl ?_
          refine Rn.cV2L k_128 rfl rfl q_100 rfl (Nat.le_of_ble_eq_true rfl) (Nat.le_of_ble_eq_true rfl) (sk3 L hi4) (ct_at (sk3 L hi4) (sk4 L hi4) (hF.k hi4 2 rfl) (by decide) c12 (by rw [List.length_map]; exact hps) (by rw [List.length_map]; exact hpl)) ?_
          have ev : ((k_ps k).map (fun p => enc p.1)).getD p 0 = enc ((k_ps k).getD p ([], [])).1 := by
            rw [List.getD_eq_getElem?_getD, List.getElem?_map, List.getD_eq_getElem?_getD, List.getElem?_eq_getElem hpl]
            rfl
          rw [ev]
          refine Rn.cV2 k_128 rfl rfl q_130 rfl (Nat.le_of_ble_eq_true rfl) (Nat.le_of_ble_eq_true rfl) (s597 L) (ct_addName hF n1 hpo (by rw [List.length_append, List.length_append, List.length_singleton]; omega)) (fun v h' hq => ?_)
          obtain ⟨rfl, g2, rfl, n2, f2⟩ := hq
          show Rn _ _ _ _ [] _ _
          have f2 : ∀ a q, nmF a → g2 a q = fi a q := fun a q ha => (f2 a q ha).trans (f1 a q ha)
          refine Rn.aload_n k_128 rfl rfl ?_
          refine Rn.bipush (61) k_128 rfl rfl ?_
          refine Rn.cV2 k_128 rfl rfl q_129 rfl (Nat.le_of_ble_eq_true rfl) (Nat.le_of_ble_eq_true rfl) (s597 L) (ct_addMark (c := 61) hF n2 (by rw [List.length_append, List.length_append, List.length_append, List.length_singleton]; omega) (by decide)) (fun v h' hq => ?_)
          obtain ⟨rfl, g3, rfl, n3, f3⟩ := hq
          show Rn _ _ _ _ [] _ _
          have f3 : ∀ a q, nmF a → g3 a q = fi a q := fun a q ha => (f3 a q ha).trans (f2 a q ha)
          have hC3 : CKr g3 fl i k (snm A.1 (k_su k)) (stg A.1 (k_su k)) := hC.keep hps (fun a q u1 u2 => frm f3 a q (by omega)) (fun _ _ _ _ => rfl)
          refine Rn.aload_n k_128 rfl rfl ?_
          refine Rn.aload_n k_128 rfl rfl ?_
          refine Rn.iload_n k_128 rfl rfl ?_
          refine Rn.iload_n k_128 rfl rfl ?_
          refine Rn.cV3L k_128 rfl rfl q_75 rfl (Nat.le_of_ble_eq_true rfl) (Nat.le_of_ble_eq_true rfl) (sk0 L hi4) (ct_valueIn hF hi4 hC3 hps (fun p hp => ⟨(hk.2.2.2.2.2.2.2.2.2.1 p hp).2.2.1, (hk.2.2.2.2.2.2.2.2.2.1 p hp).2.2.2.1⟩) ((frm f3 _ _ (by omega)).trans h9) (by omega) hpl) ?_
          refine Rn.cV2 k_128 rfl rfl q_130 rfl (Nat.le_of_ble_eq_true rfl) (Nat.le_of_ble_eq_true rfl) (s597 L) (ct_addName hF n3 hvo (by simp only [List.length_append, List.length_singleton]; omega)) (fun v h' hq => ?_)
          obtain ⟨rfl, g4, rfl, n4, f4⟩ := hq
          show Rn _ _ _ _ [] _ _
          have f4 : ∀ a q, nmF a → g4 a q = fi a q := fun a q ha => (f4 a q ha).trans (f3 a q ha)
          refine Rn.iinc3 (1) k_128 rfl rfl rfl ?_
          rw [c_add 1 1 rfl]
          refine Rn.goto 37 k_128 rfl rfl ?_
          refine ih (p + 1) g4 (by omega) ?_ f4
          have : B ++ psegs (k_ps k) w (p + 1) = B ++ psegs (k_ps k) w p ++ [if p = 0 then 91 else 44] ++ ((k_ps k).getD p ([], [])).1 ++ [61] ++ vsel (k_ps k) w p := by
            show B ++ (psegs (k_ps k) w p ++ pseg (k_ps k) w p) = _
            unfold pseg
            simp only [List.append_assoc, List.cons_append, List.nil_append]
          rw [this]
          exact n4
        refine Rn.aload_n k_128 rfl rfl ?_
        refine Rn.iload_n k_128 rfl rfl ?_
        refine Rn.if_ne 58 k_128 rfl rfl (fun h3 => ?_) (fun h3 => ?_)
        · rw [c_eq 0 0 rfl (by omega) (by decide)] at h3
          rw [if_neg h3] at mark
          refine Rn.bipush (44) k_128 rfl rfl ?_
          exact mark
        · rw [c_eq 0 0 rfl (by omega) (by decide)] at h3
          rw [if_pos h3] at mark
          refine Rn.bipush (91) k_128 rfl rfl ?_
          refine Rn.goto 60 k_128 rfl rfl ?_
          exact mark
  have n0 : NMr (up2 fi 597 1 0) [] := ⟨rfl, fun k hk => absurd hk (Nat.not_lt_zero k)⟩
  have f0 : ∀ a q, nmF a → up2 fi 597 1 0 a q = fi a q := fun a q ha => up2_row _ _ ha.1
  -- behind the suite's name
  have second : ∀ (gi : Nat → Nat → Int32), NMr gi (if k_su k = 0 then [] else snm A.1 (k_su k) ++ [46]) → (∀ a k, nmF a → gi a k = fi a k) → Rn (d + 2) 128 27 [some (.ref 597), some (.ref (25 + 14 * i)), some (.int (nI (totW (A.2.1.take i) + w))), none] [] (SH L, gi, fl, fr) (namQ L fi fl fr (tnm A.1 k w)) := by
    intro gi hN hg
    refine Rn.aload_n k_128 rfl rfl ?_
    refine Rn.aload_n k_128 rfl rfl ?_
    refine Rn.getL k_128 rfl rfl (sk0 L hi4) ?_
    rw [hC.1]
    refine Rn.cV2 k_128 rfl rfl q_130 rfl (Nat.le_of_ble_eq_true rfl) (Nat.le_of_ble_eq_true rfl) (s597 L) (ct_addName hF hN hnm (by have := congrArg List.length hB; rw [List.length_append] at this; omega)) (fun v h' hq => ?_)
    obtain ⟨rfl, g1, rfl, n1, f1⟩ := hq
    show Rn _ _ _ _ [] _ _
    refine Rn.iconst (0) k_128 rfl rfl ?_
    refine Rn.istore_n3 k_128 rfl rfl ?_
    refine loop (k_ps k).length 0 g1 (Nat.zero_add _) ?_ (fun a q ha => (f1 a q ha).trans (hg a q ha))
    rw [hB] at n1
    show NMr g1 (B ++ [])
    rw [List.append_nil]
    exact n1
  refine Rn.aload_n k_128 rfl rfl ?_
  refine Rn.iconst (0) k_128 rfl rfl ?_
  refine Rn.putI k_128 rfl (rfl) (s597 L) ?_
  refine Rn.aload_n k_128 rfl rfl ?_
  refine Rn.getI k_128 rfl rfl (sk0 L hi4) ?_
  rw [frm f0 _ _ (by omega), hC.2.2.1]
  refine Rn.iconst (-1) k_128 rfl rfl ?_
  refine Rn.icmp_eq 27 k_128 rfl rfl (fun h1 => ?_) (fun h1 => ?_)
  · rw [sub1_m1 (by omega)] at h1
    exact second _ (by rw [if_pos h1]; exact n0) f0
  · rw [sub1_m1 (by omega)] at h1
    have hsn := okN_okV (snm_ok hA hsu h1).1
    have hsl := okV_len hsn
    refine Rn.aload_n k_128 rfl rfl ?_
    refine Rn.aload_n k_128 rfl rfl ?_
    refine Rn.getL k_128 rfl rfl (sk0 L hi4) ?_
    rw [hC.2.1]
    refine Rn.cV2 k_128 rfl rfl q_130 rfl (Nat.le_of_ble_eq_true rfl) (Nat.le_of_ble_eq_true rfl) (s597 L) (ct_addName (fi := up2 fi 597 1 0) hF n0 hsn (by simp only [List.length_nil]; omega)) (fun v h' hq => ?_)
    obtain ⟨rfl, g1, rfl, n1, f1⟩ := hq
    show Rn _ _ _ _ [] _ _
    refine Rn.aload_n k_128 rfl rfl ?_
    refine Rn.bipush (46) k_128 rfl rfl ?_
    refine Rn.cV2 k_128 rfl rfl q_129 rfl (Nat.le_of_ble_eq_true rfl) (Nat.le_of_ble_eq_true rfl) (s597 L) (ct_addMark (c := 46) hF n1 (by rw [List.nil_append]; omega) (by decide)) (fun v h' hq => ?_)
    obtain ⟨rfl, g2, rfl, n2, f2⟩ := hq
    show Rn _ _ _ _ [] _ _
    refine second g2 ?_ (fun a q ha => (f2 a q ha).trans ((f1 a q ha).trans (f0 a q ha)))
    rw [if_neg h1]
    rw [List.nil_append] at n2
    exact n2
theorem ct_isOn (hF : FRok F G fr) {U T : List Nat} (hU : NMr fi U) (hUl : U.length ≤ 130) (hUc : ∀ c ∈ U, c < 128) (hT : TPr fi T) (hO : TOk T) : Rn d 131 0 [some (.ref 597), some (.ref 17), none] [] (SH L, fi, fl, fr) (Ret (SH L, fi, fl, fr) (some (.int (bI (decide (U = T)))))) := by
  have hTl := hO.1
  refine Rn.aload_n k_131 rfl rfl ?_
  refine Rn.getI k_131 rfl rfl (s17 L) ?_
  refine Rn.aload_n k_131 rfl rfl ?_
  refine Rn.getI k_131 rfl rfl (s597 L) ?_
  rw [hT.1, hU.1]
  refine Rn.icmp_eq 13 k_131 rfl rfl (fun h1 => ?_) (fun h1 => ?_)
  · rw [nI_eq (by omega) (by omega)] at h1
    have loop : ∀ (m j : Nat), j + m = U.length → (∀ q, q < j → U.getD q 0 = T.getD q 0) → Rn d 131 15 [some (.ref 597), some (.ref 17), some (.int (nI j))] [] (SH L, fi, fl, fr) (Ret (SH L, fi, fl, fr) (some (.int (bI (decide (U = T)))))) := by
      intro m
      induction m with
      | zero =>
        intro j hj hq
        refine Rn.iload_n k_131 rfl rfl ?_
        refine Rn.aload_n k_131 rfl rfl ?_
        refine Rn.getI k_131 rfl rfl (s597 L) ?_
        rw [hU.1]
        refine Rn.icmp_ge 46 k_131 rfl rfl (fun h2 => ?_) (fun h2 => ?_)
        · refine Rn.iconst (1) k_131 rfl rfl ?_
          refine Rn.reti k_131 rfl q_131 rfl (rfl) ?_
          have : U = T := by
            apply List.ext_getElem h1.symm
            intro q q1 q2
            have := hq q (by omega)
            rw [List.getD_eq_getElem?_getD, List.getD_eq_getElem?_getD, List.getElem?_eq_getElem q1, List.getElem?_eq_getElem q2] at this
            exact this
          rw [decide_eq_true this]
          exact ⟨rfl, rfl⟩
        · rw [nI_leI (by omega) (by omega)] at h2
          omega
      | succ m ih =>
        intro j hj hq
        have hjl : j < U.length := by omega
        have hjt : j < T.length := by omega
        have c1 := hUc _ (getD_mem hjl)
        have c2 := (hO.2 _ (getD_mem hjt)).1
        refine Rn.iload_n k_131 rfl rfl ?_
        refine Rn.aload_n k_131 rfl rfl ?_
        refine Rn.getI k_131 rfl rfl (s597 L) ?_
        rw [hU.1]
        refine Rn.icmp_ge 46 k_131 rfl rfl (fun h2 => ?_) (fun h2 => ?_)
        · rw [nI_leI (by omega) (by omega)] at h2
          omega
        · refine Rn.aload_n k_131 rfl rfl ?_
          refine Rn.getA k_131 rfl rfl (s17 L) (hF.l 0 rfl) ?_
          refine Rn.iload_n k_131 rfl rfl ?_
          refine Rn.caload (j) k_131 rfl (s18 L) (rfl) (by omega) (by decide) ?_
          refine Rn.aload_n k_131 rfl rfl ?_
          refine Rn.getA k_131 rfl rfl (s597 L) (hF.l 23 rfl) ?_
          refine Rn.iload_n k_131 rfl rfl ?_
          refine Rn.caload (j) k_131 rfl (s598 L) (rfl) (by omega) (by decide) ?_
          rw [hU.2 j hjl, hT.2 j hjt]
          refine Rn.icmp_eq 40 k_131 rfl rfl (fun h3 => ?_) (fun h3 => ?_)
          · rw [nI_eq (by omega) (by omega)] at h3
            refine Rn.iinc2 (1) k_131 rfl rfl rfl ?_
            rw [c_add 1 1 rfl]
            refine Rn.goto 15 k_131 rfl rfl ?_
            refine ih (j + 1) (by omega) (fun q hq2 => ?_)
            by_cases e : q = j
            · rw [e]; exact h3.symm
            · exact hq q (by omega)
          · rw [nI_eq (by omega) (by omega)] at h3
            refine Rn.iconst (0) k_131 rfl rfl ?_
            refine Rn.reti k_131 rfl q_131 rfl (rfl) ?_
            rw [decide_eq_false (fun z => h3 (by rw [z]))]
            exact ⟨rfl, rfl⟩
    refine Rn.iconst (0) k_131 rfl rfl ?_
    refine Rn.istore_n2 k_131 rfl rfl ?_
    exact loop U.length 0 (Nat.zero_add _) (fun q hq => absurd hq (Nat.not_lt_zero q))
  · rw [nI_eq (by omega) (by omega)] at h1
    refine Rn.iconst (0) k_131 rfl rfl ?_
    refine Rn.reti k_131 rfl q_131 rfl (rfl) ?_
    rw [decide_eq_false (fun z => h1 (by rw [z]))]
    exact ⟨rfl, rfl⟩
end NM
