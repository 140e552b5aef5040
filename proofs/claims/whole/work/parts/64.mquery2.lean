/-! THE REFERENCE: reason, judge, find -/
section MQ
variable {d L : Nat} {fi : Nat → Nat → Int32} {fl : Nat → Nat → Int64} {fr : Nat → Nat → Option Nat} {F G : Nat} {x : Nat → Nat} {n : Nat} {A : AS}
theorem cm_reason (hF : FRok F G fr) (hS : MFr fi x n A) (hA : AOk n A) {t y : Int32} : Rn (d + 3) 47 0 [some (.ref 604), some (.int t), some (.int y), none] [] (SH L, fi, fl, fr) (mqQ L fi fl fr (rsnW x A t y)) := by
  have h120 := hA.2.2.2.2.2.1
  have hn := hS.1.2
  have hS' := hS.keep0 hA
  have no : rsnW x A t y = -1 → Rn (d + 3) 47 30 [some (.ref 604), some (.int t), some (.int y), none] [] (SH L, up2 fi 604 0 0, fl, fr) (mqQ L fi fl fr (rsnW x A t y)) := by
    intro e
    refine Rn.iconst (-1) k_47 rfl rfl ?_
    refine Rn.reti k_47 rfl q_47 rfl (rfl) ?_
    exact ⟨by rw [e], _, rfl, up2_same _ _ _ _, k0⟩
  rcases tno_of A (by omega) t with ⟨e1, e2⟩ | ⟨q, hq, rfl, e1, e2⟩
  · refine Rn.aload_n k_47 rfl rfl ?_
    refine Rn.iconst (0) k_47 rfl rfl ?_
    refine Rn.putI k_47 rfl (rfl) (s604 L) ?_
    refine Rn.aload_n k_47 rfl rfl ?_
    refine Rn.iload_n k_47 rfl rfl ?_
    refine Rn.cV2I k_47 rfl rfl q_37 rfl (Nat.le_of_ble_eq_true rfl) (Nat.le_of_ble_eq_true rfl) (s604 L) (cm_isTest hS'.2.2.2.1) ?_
    rw [e2]
    refine Rn.if_eq 30 k_47 rfl rfl (fun h1 => ?_) (fun h1 => ?_)
    · exact no (by unfold rsnW; rw [e1])
    · exact absurd rfl h1
  · obtain ⟨t1, t2, t3⟩ := tix_ok _ _ hq
    have hi4 : (tix A.2.1 q).1 < 40 := Nat.lt_of_lt_of_le t1 hA.2.2.2.1
    have hK := hS'.2.2.1.2 _ t1
    have hk := hA.k t1
    have h31 := (hS'.tw hq).1
    have el : rsnW x A (nI q) y = (match k_rs (A.2.1.getD (tix A.2.1 q).1 dK) with
      | none => -1
      | some r => if y < 0 then -1 else if y.toNatClampNeg < r.2 - r.1 then nI (x (r.1 + y.toNatClampNeg)) else -1) := by unfold rsnW; rw [e1]; rfl
    generalize A.2.1.getD (tix A.2.1 q).1 dK = k at hK hk el
    refine Rn.aload_n k_47 rfl rfl ?_
    refine Rn.iconst (0) k_47 rfl rfl ?_
    refine Rn.putI k_47 rfl (rfl) (s604 L) ?_
    refine Rn.aload_n k_47 rfl rfl ?_
    refine Rn.iload_n k_47 rfl rfl ?_
    refine Rn.cV2I k_47 rfl rfl q_37 rfl (Nat.le_of_ble_eq_true rfl) (Nat.le_of_ble_eq_true rfl) (s604 L) (cm_isTest hS'.2.2.2.1) ?_
    rw [e2]
    refine Rn.if_eq 30 k_47 rfl rfl (fun h1 => ?_) (fun h1 => ?_)
    · exact absurd h1 (by decide)
    · refine Rn.iload_n k_47 rfl rfl ?_
      refine Rn.if_lt 30 k_47 rfl rfl (fun h2 => ?_) (fun h2 => ?_)
      · refine no ?_
        rw [el]
        cases k_rs k with
        | none => rfl
        | some r => exact if_pos h2
      · obtain ⟨j, hj, rfl⟩ := nI_of h2
        refine Rn.aload_n k_47 rfl rfl ?_
        refine Rn.aload_n k_47 rfl rfl ?_
        refine Rn.getA k_47 rfl rfl (s604 L) (hF.l 55 rfl) ?_
        refine Rn.iload_n k_47 rfl rfl ?_
        refine Rn.iaload (q) k_47 rfl (s631 L) (rfl) (by omega) (by decide) ?_
        rw [h31]
        refine Rn.cV2I k_47 rfl rfl q_43 rfl (Nat.le_of_ble_eq_true rfl) (Nat.le_of_ble_eq_true rfl) (s604 L) (cm_isSkipped hF hi4 hK hk hn) ?_
        cases hz : k_rs k with
        | none =>
          show Rn _ _ _ _ (Value.int 0 :: []) _ _
          refine Rn.if_ne 32 k_47 rfl rfl (fun h3 => ?_) (fun h3 => ?_)
          · exact absurd rfl h3
          · refine no ?_
            rw [el, hz]
        | some r =>
          show Rn _ _ _ _ (Value.int 1 :: []) _ _
          obtain ⟨r1, r2⟩ := hK.2.2.2.2.2.1 r hz
          have hr := hk.2.2.2.2.1 r hz
          rw [hz] at el
          have el : rsnW x A (nI q) (nI j) = if j < r.2 - r.1 then nI (x (r.1 + j)) else -1 := by
            rw [el]
            show (if nI j < 0 then -1 else if (nI j).toNatClampNeg < r.2 - r.1 then nI (x (r.1 + (nI j).toNatClampNeg)) else -1) = _
            rw [if_neg h2, nI_clamp hj]
          refine Rn.if_ne 32 k_47 rfl rfl (fun h3 => ?_) (fun h3 => ?_)
          · refine Rn.aload_n k_47 rfl rfl ?_
            refine Rn.getA k_47 rfl rfl (s604 L) (hF.l 55 rfl) ?_
            refine Rn.iload_n k_47 rfl rfl ?_
            refine Rn.iaload (q) k_47 rfl (s631 L) (rfl) (by omega) (by decide) ?_
            rw [h31]
            refine Rn.istore_n3 k_47 rfl rfl ?_
            refine Rn.iload_n k_47 rfl rfl ?_
            refine Rn.aload_n k_47 rfl rfl ?_
            refine Rn.getA k_47 rfl rfl (s604 L) (hF.l 44 rfl) ?_
            refine Rn.iload_n k_47 rfl rfl ?_
            refine Rn.iaload ((tix A.2.1 q).1) k_47 rfl (s620 L) (rfl) (hi4) (by decide) ?_
            refine Rn.aload_n k_47 rfl rfl ?_
            refine Rn.getA k_47 rfl rfl (s604 L) (hF.l 43 rfl) ?_
            refine Rn.iload_n k_47 rfl rfl ?_
            refine Rn.iaload ((tix A.2.1 q).1) k_47 rfl (s619 L) (rfl) (hi4) (by decide) ?_
            rw [r1, r2]
            refine Rn.isub k_47 rfl ?_
            rw [pk_sub (by omega)]
            refine Rn.icmp_ge 72 k_47 rfl rfl (fun h4 => ?_) (fun h4 => ?_)
            · rw [nI_leI (by omega) (by omega)] at h4
              refine Rn.iconst (-1) k_47 rfl rfl ?_
              refine Rn.reti k_47 rfl q_47 rfl (rfl) ?_
              exact ⟨by rw [el, if_neg (by omega)], _, rfl, up2_same _ _ _ _, k0⟩
            · rw [nI_leI (by omega) (by omega)] at h4
              refine Rn.aload_n k_47 rfl rfl ?_
              refine Rn.getA k_47 rfl rfl (s604 L) (hF.l 30 rfl) ?_
              refine Rn.aload_n k_47 rfl rfl ?_
              refine Rn.getA k_47 rfl rfl (s604 L) (hF.l 43 rfl) ?_
              refine Rn.iload_n k_47 rfl rfl ?_
              refine Rn.iaload ((tix A.2.1 q).1) k_47 rfl (s619 L) (rfl) (hi4) (by decide) ?_
              rw [r1]
              refine Rn.iload_n k_47 rfl rfl ?_
              refine Rn.iadd k_47 rfl ?_
              rw [nI_add]
              refine Rn.iaload (r.1 + j) k_47 rfl (s606 L) (rfl) (by omega) (by decide) ?_
              refine Rn.goto 73 k_47 rfl rfl ?_
              rw [(hS'.1.1 (r.1 + j) (by omega)).1]
              refine Rn.reti k_47 rfl q_47 rfl (rfl) ?_
              exact ⟨by rw [el, if_pos (by omega)], _, rfl, up2_same _ _ _ _, k0⟩
          · exact absurd h3 (by decide)
theorem cm_judge (hF : FRok F G fr) (hS : MFr fi x n A) (hA : AOk n A) {t y : Int32} : Rn (d + 3) 72 0 [some (.ref 604), some (.int t), some (.int y), none] [] (SH L, fi, fl, fr) (mqQ L fi fl fr (jdgW A t y)) := by
  have h120 := hA.2.2.2.2.2.1
  have hn := hS.1.2
  have hS' := hS.keep0 hA
  rcases tno_of A (by omega) t with ⟨e1, e2⟩ | ⟨q, hq, rfl, e1, e2⟩
  · refine Rn.aload_n k_72 rfl rfl ?_
    refine Rn.iconst (0) k_72 rfl rfl ?_
    refine Rn.putI k_72 rfl (rfl) (s604 L) ?_
    refine Rn.aload_n k_72 rfl rfl ?_
    refine Rn.iload_n k_72 rfl rfl ?_
    refine Rn.cV2I k_72 rfl rfl q_37 rfl (Nat.le_of_ble_eq_true rfl) (Nat.le_of_ble_eq_true rfl) (s604 L) (cm_isTest hS'.2.2.2.1) ?_
    rw [e2]
    refine Rn.if_ne 15 k_72 rfl rfl (fun h1 => ?_) (fun h1 => ?_)
    · exact absurd rfl h1
    · refine Rn.iconst (-1) k_72 rfl rfl ?_
      refine Rn.reti k_72 rfl q_72 rfl (rfl) ?_
      exact ⟨by unfold jdgW; rw [e1], _, rfl, up2_same _ _ _ _, k0⟩
  · obtain ⟨t1, t2, t3⟩ := tix_ok _ _ hq
    have hi4 : (tix A.2.1 q).1 < 40 := Nat.lt_of_lt_of_le t1 hA.2.2.2.1
    have hK := hS'.2.2.1.2 _ t1
    have hk := hA.k t1
    have h31 := (hS'.tw hq).1
    have el : jdgW A (nI q) y = if (k_rs (A.2.1.getD (tix A.2.1 q).1 dK)).isSome = true then 3 else if k_fl (A.2.1.getD (tix A.2.1 q).1 dK) = true then (if y = 0 then 1 else 4) else (if y = 0 then 2 else 0) := by unfold jdgW; rw [e1]
    generalize A.2.1.getD (tix A.2.1 q).1 dK = k at hK hk el
    have fin : ∀ v : Int32, jdgW A (nI q) y = v → mqQ L fi fl fr (jdgW A (nI q) y) (some (.int v)) (SH L, up2 fi 604 0 0, fl, fr) := fun v hv => ⟨by rw [hv], _, rfl, up2_same _ _ _ _, k0⟩
    refine Rn.aload_n k_72 rfl rfl ?_
    refine Rn.iconst (0) k_72 rfl rfl ?_
    refine Rn.putI k_72 rfl (rfl) (s604 L) ?_
    refine Rn.aload_n k_72 rfl rfl ?_
    refine Rn.iload_n k_72 rfl rfl ?_
    refine Rn.cV2I k_72 rfl rfl q_37 rfl (Nat.le_of_ble_eq_true rfl) (Nat.le_of_ble_eq_true rfl) (s604 L) (cm_isTest hS'.2.2.2.1) ?_
    rw [e2]
    refine Rn.if_ne 15 k_72 rfl rfl (fun h1 => ?_) (fun h1 => ?_)
    · refine Rn.aload_n k_72 rfl rfl ?_
      refine Rn.getA k_72 rfl rfl (s604 L) (hF.l 55 rfl) ?_
      refine Rn.iload_n k_72 rfl rfl ?_
      refine Rn.iaload (q) k_72 rfl (s631 L) (rfl) (by omega) (by decide) ?_
      rw [h31]
      refine Rn.istore_n3 k_72 rfl rfl ?_
      refine Rn.aload_n k_72 rfl rfl ?_
      refine Rn.iload_n k_72 rfl rfl ?_
      refine Rn.cV2I k_72 rfl rfl q_43 rfl (Nat.le_of_ble_eq_true rfl) (Nat.le_of_ble_eq_true rfl) (s604 L) (cm_isSkipped hF hi4 hK hk hn) ?_
      refine Rn.if_eq 32 k_72 rfl rfl (fun h2 => ?_) (fun h2 => ?_)
      · (try rw [bI_0] at h2)
        (try rw [Bool.not_eq_false] at h2)
        rw [h2, if_neg (by decide)] at el
        refine Rn.aload_n k_72 rfl rfl ?_
        refine Rn.getA k_72 rfl rfl (s604 L) (hF.l 45 rfl) ?_
        refine Rn.iload_n k_72 rfl rfl ?_
        refine Rn.baload ((tix A.2.1 q).1) k_72 rfl (s621 L) (rfl) (hi4) (by decide) ?_
        rw [hK.2.2.2.2.2.2.1]
        refine Rn.if_eq 51 k_72 rfl rfl (fun h3 => ?_) (fun h3 => ?_)
        · (try rw [bI_0] at h3)
          (try rw [Bool.not_eq_false] at h3)
          rw [h3, if_neg (by decide)] at el
          refine Rn.iload_n k_72 rfl rfl ?_
          refine Rn.if_eq 59 k_72 rfl rfl (fun h5 => ?_) (fun h5 => ?_)
          · refine Rn.iconst (2) k_72 rfl rfl ?_
            refine Rn.reti k_72 rfl q_72 rfl (rfl) ?_
            exact fin _ (by rw [el, if_pos h5])
          · refine Rn.iconst (0) k_72 rfl rfl ?_
            refine Rn.goto 60 k_72 rfl rfl ?_
            refine Rn.reti k_72 rfl q_72 rfl (rfl) ?_
            exact fin _ (by rw [el, if_neg h5])
        · (try rw [bI_0] at h3)
          (try rw [Bool.not_eq_false] at h3)
          rw [h3, if_pos rfl] at el
          refine Rn.iload_n k_72 rfl rfl ?_
          refine Rn.if_eq 49 k_72 rfl rfl (fun h4 => ?_) (fun h4 => ?_)
          · refine Rn.iconst (1) k_72 rfl rfl ?_
            refine Rn.reti k_72 rfl q_72 rfl (rfl) ?_
            exact fin _ (by rw [el, if_pos h4])
          · refine Rn.iconst (4) k_72 rfl rfl ?_
            refine Rn.goto 50 k_72 rfl rfl ?_
            refine Rn.reti k_72 rfl q_72 rfl (rfl) ?_
            exact fin _ (by rw [el, if_neg h4])
      · (try rw [bI_0] at h2)
        (try rw [Bool.not_eq_false] at h2)
        rw [h2, if_pos rfl] at el
        refine Rn.iconst (3) k_72 rfl rfl ?_
        refine Rn.reti k_72 rfl q_72 rfl (rfl) ?_
        exact fin _ el
    · exact absurd h1 (by decide)
set_option maxHeartbeats 1000000 in
theorem cm_find (hF : FRok F G fr) (hS : MFr fi x n A) (hA : AOk n A) {T : List Nat} (hT : MTP fi T) (hO : TOk T) : Rn (d + 3) 48 0 [some (.ref 604), none, none, none, none] [] (SH L, fi, fl, fr) (fun v h' => v = some (.int (fndW A T (totW A.2.1) 0)) ∧ ∃ fi', h' = (SH L, fi', fl, fr) ∧ fi' 604 0 = 0 ∧ fi' 604 1 = 0 ∧ ∀ a k, mnF a k → (a ≠ 604 ∨ (k ≠ 0 ∧ k ≠ 1)) → fi' a k = fi a k) := by
  have h120 := hA.2.2.2.2.2.1
  have hTl := hO.1
  have hTc : ∀ k, k < T.length → T.getD k 0 < 128 := fun k hk => (hO.2 _ (gD_mem hk)).1
  have loop : ∀ (m t : Nat) (gi : Nat → Nat → Int32) (o3 o4 : Option Value), t + m = totW A.2.1 → fndW A T (totW A.2.1) 0 = fndW A T m t → gi 604 0 = 0 → gi 604 1 = 0 → (∀ a k, mnF a k → (a ≠ 604 ∨ (k ≠ 0 ∧ k ≠ 1)) → gi a k = fi a k) → Rn (d + 3) 48 17 [some (.ref 604), some (.int (nI T.length)), some (.int (nI t)), o3, o4] [] (SH L, gi, fl, fr) (fun v h' => v = some (.int (fndW A T (totW A.2.1) 0)) ∧ ∃ fi', h' = (SH L, fi', fl, fr) ∧ fi' 604 0 = 0 ∧ fi' 604 1 = 0 ∧ ∀ a k, mnF a k → (a ≠ 604 ∨ (k ≠ 0 ∧ k ≠ 1)) → fi' a k = fi a k) := by
    intro m
    induction m with
    | zero =>
      intro t gi o3 o4 ht he g0 g1 hg
      have hS' := hS.keep hA (fi' := gi) (fun a q u => hg a q ⟨Or.inl (by omega), by omega⟩ (Or.inl (by omega))) (fun k u => hg 604 k ⟨Or.inr (by omega), by omega⟩ (Or.inr (by omega)))
      refine Rn.iload_n k_48 rfl rfl ?_
      refine Rn.aload_n k_48 rfl rfl ?_
      refine Rn.getI k_48 rfl rfl (s604 L) ?_
      rw [hS'.2.2.2.1]
      refine Rn.icmp_ge 98 k_48 rfl rfl (fun h1 => ?_) (fun h1 => ?_)
      · refine Rn.iconst (-1) k_48 rfl rfl ?_
        refine Rn.reti k_48 rfl q_48 rfl (rfl) ?_
        exact ⟨by rw [he]; rfl, gi, rfl, g0, g1, hg⟩
      · rw [nI_leI (by omega) (by omega)] at h1
        omega
    | succ m ih =>
      intro t gi o3 o4 ht he g0 g1 hg
      have hq : t < totW A.2.1 := by omega
      obtain ⟨t1, t2, t3⟩ := tix_ok _ _ hq
      have hS' := hS.keep hA (fi' := gi) (fun a q u => hg a q ⟨Or.inl (by omega), by omega⟩ (Or.inl (by omega))) (fun k u => hg 604 k ⟨Or.inr (by omega), by omega⟩ (Or.inr (by omega)))
      have hl := tnm_len hA t1 (tix A.2.1 t).2
      have hch := tnm_chr hA t1 (tix A.2.1 t).2
      have es : fndW A T (m + 1) t = if tnm A.1 (A.2.1.getD (tix A.2.1 t).1 dK) (tix A.2.1 t).2 = T then nI t else fndW A T m (t + 1) := rfl
      refine Rn.iload_n k_48 rfl rfl ?_
      refine Rn.aload_n k_48 rfl rfl ?_
      refine Rn.getI k_48 rfl rfl (s604 L) ?_
      rw [hS'.2.2.2.1]
      refine Rn.icmp_ge 98 k_48 rfl rfl (fun h1 => ?_) (fun h1 => ?_)
      · rw [nI_leI (by omega) (by omega)] at h1
        omega
      · refine Rn.aload_n k_48 rfl rfl ?_
        refine Rn.iload_n k_48 rfl rfl ?_
        refine Rn.cV2 k_48 rfl rfl q_41 rfl (Nat.le_of_ble_eq_true rfl) (Nat.le_of_ble_eq_true rfl) (s604 L) (cm_writeName hF hS' hA hq) (fun v h' hq => ?_)
        obtain ⟨rfl, e, rfl, n1, f1⟩ := hq
        show Rn _ _ _ _ [] _ _
        generalize tnm A.1 (A.2.1.getD (tix A.2.1 t).1 dK) (tix A.2.1 t).2 = U at hl hch es n1
        have e0 : e 604 0 = 0 := (f1 604 0 ⟨Or.inr (by decide), by decide⟩).trans g0
        have e1 : e 604 1 = 0 := (f1 604 1 ⟨Or.inr (by decide), by decide⟩).trans g1
        have ef : ∀ a k, mnF a k → (a ≠ 604 ∨ (k ≠ 0 ∧ k ≠ 1)) → e a k = fi a k := fun a k ha hb => (f1 a k ha).trans (hg a k ha hb)
        have e5 : ∀ k, k < T.length → e 605 k = nI (T.getD k 0) := fun k hk => (ef 605 k ⟨Or.inl (by decide), by decide⟩ (Or.inl (by decide))).trans (hT.2 k hk)
        have fin : ∀ (b : Bool) (o4 : Option Value), b = decide (U = T) → Rn (d + 3) 48 86 [some (.ref 604), some (.int (nI T.length)), some (.int (nI t)), some (.int (bI b)), o4] [] (SH L, e, fl, fr) (fun v h' => v = some (.int (fndW A T (totW A.2.1) 0)) ∧ ∃ fi', h' = (SH L, fi', fl, fr) ∧ fi' 604 0 = 0 ∧ fi' 604 1 = 0 ∧ ∀ a k, mnF a k → (a ≠ 604 ∨ (k ≠ 0 ∧ k ≠ 1)) → fi' a k = fi a k) := by
          intro b o4 hb
          refine Rn.iload_n k_48 rfl rfl ?_
          refine Rn.if_eq 92 k_48 rfl rfl (fun h6 => ?_) (fun h6 => ?_)
          · (try rw [bI_0] at h6)
            (try rw [Bool.not_eq_false] at h6)
            rw [hb] at h6
            have h6 := of_decide_eq_false h6
            refine Rn.iinc2 (1) k_48 rfl rfl rfl ?_
            rw [c_add 1 1 rfl]
            refine Rn.goto 17 k_48 rfl rfl ?_
            exact ih (t + 1) e _ _ (by omega) (by rw [he, es, if_neg h6]) e0 e1 ef
          · (try rw [bI_0] at h6)
            (try rw [Bool.not_eq_false] at h6)
            rw [hb] at h6
            have h6 := of_decide_eq_true h6
            refine Rn.iload_n k_48 rfl rfl ?_
            refine Rn.reti k_48 rfl q_48 rfl (rfl) ?_
            exact ⟨by rw [he, es, if_pos h6], e, rfl, e0, e1, ef⟩
        have cmp : ∀ (m2 p : Nat) (b : Bool), p + m2 = T.length → (b = true → U.length = T.length ∧ ∀ j, j < p → U.getD j 0 = T.getD j 0) → (b = false → U ≠ T) → Rn (d + 3) 48 47 [some (.ref 604), some (.int (nI T.length)), some (.int (nI t)), some (.int (bI b)), some (.int (nI p))] [] (SH L, e, fl, fr) (fun v h' => v = some (.int (fndW A T (totW A.2.1) 0)) ∧ ∃ fi', h' = (SH L, fi', fl, fr) ∧ fi' 604 0 = 0 ∧ fi' 604 1 = 0 ∧ ∀ a k, mnF a k → (a ≠ 604 ∨ (k ≠ 0 ∧ k ≠ 1)) → fi' a k = fi a k) := by
          intro m2
          induction m2 with
          | zero =>
            intro p b hp hbt hbf
            refine Rn.iload k_48 rfl rfl ?_
            refine Rn.iload_n k_48 rfl rfl ?_
            refine Rn.icmp_ge 86 k_48 rfl rfl (fun h3 => ?_) (fun h3 => ?_)
            · refine fin b _ ?_
              cases b with
              | false => rw [decide_eq_false (hbf rfl)]
              | true =>
                obtain ⟨z1, z2⟩ := hbt rfl
                rw [decide_eq_true]
                apply List.ext_getElem z1
                intro j y1 y2
                have := z2 j (by omega)
                rw [List.getD_eq_getElem?_getD, List.getD_eq_getElem?_getD, List.getElem?_eq_getElem y1, List.getElem?_eq_getElem y2] at this
                exact this
            · rw [nI_leI (by omega) (by omega)] at h3
              omega
          | succ m2 ih2 =>
            intro p b hp hbt hbf
            refine Rn.iload k_48 rfl rfl ?_
            refine Rn.iload_n k_48 rfl rfl ?_
            refine Rn.icmp_ge 86 k_48 rfl rfl (fun h3 => ?_) (fun h3 => ?_)
            · rw [nI_leI (by omega) (by omega)] at h3
              omega
            · refine Rn.iload_n k_48 rfl rfl ?_
              refine Rn.if_eq 86 k_48 rfl rfl (fun h4 => ?_) (fun h4 => ?_)
              · (try rw [bI_0] at h4)
                (try rw [Bool.not_eq_false] at h4)
                exact fin b _ (by rw [h4, decide_eq_false (hbf h4)])
              · (try rw [bI_0] at h4)
                (try rw [Bool.not_eq_false] at h4)
                obtain ⟨z1, z2⟩ := hbt h4
                refine Rn.aload_n k_48 rfl rfl ?_
                refine Rn.getA k_48 rfl rfl (s604 L) (hF.l 57 rfl) ?_
                refine Rn.iload k_48 rfl rfl ?_
                refine Rn.iaload (p) k_48 rfl (s633 L) (rfl) (by omega) (by decide) ?_
                refine Rn.aload_n k_48 rfl rfl ?_
                refine Rn.getA k_48 rfl rfl (s604 L) (hF.l 29 rfl) ?_
                refine Rn.iload k_48 rfl rfl ?_
                refine Rn.iaload (p) k_48 rfl (s605 L) (rfl) (by omega) (by decide) ?_
                rw [n1.2 p (by omega), e5 p (by omega)]
                have c1 := hch _ (gD_mem (d := 0) (show p < U.length by omega))
                have c2 := hTc p (by omega)
                refine Rn.icmp_ne 78 k_48 rfl rfl (fun h5 => ?_) (fun h5 => ?_)
                · rw [nI_eq (by omega) (by omega)] at h5
                  refine Rn.iconst (0) k_48 rfl rfl ?_
                  refine Rn.istore_n3 k_48 rfl rfl ?_
                  refine Rn.iinc4 (1) k_48 rfl rfl rfl ?_
                  rw [c_add 1 1 rfl]
                  refine Rn.goto 47 k_48 rfl rfl ?_
                  exact ih2 (p + 1) false (by omega) (fun z => by cases z) (fun _ z => h5 (by rw [z]))
                · rw [nI_eq (by omega) (by omega)] at h5
                  refine Rn.iconst (1) k_48 rfl rfl ?_
                  refine Rn.goto 79 k_48 rfl rfl ?_
                  refine Rn.istore_n3 k_48 rfl rfl ?_
                  refine Rn.iinc4 (1) k_48 rfl rfl rfl ?_
                  rw [c_add 1 1 rfl]
                  refine Rn.goto 47 k_48 rfl rfl ?_
                  refine ih2 (p + 1) true (by omega) (fun _ => ⟨z1, fun j hj => ?_⟩) (fun z => by cases z)
                  by_cases ej : j = p
                  · rw [ej]; exact h5
                  · exact z2 j (by omega)
        refine Rn.aload_n k_48 rfl rfl ?_
        refine Rn.getI k_48 rfl rfl (s604 L) ?_
        rw [n1.1]
        refine Rn.iload_n k_48 rfl rfl ?_
        refine Rn.icmp_ne 42 k_48 rfl rfl (fun h2 => ?_) (fun h2 => ?_)
        · rw [nI_eq (by omega) (by omega)] at h2
          refine Rn.iconst (0) k_48 rfl rfl ?_
          refine Rn.istore_n3 k_48 rfl rfl ?_
          refine Rn.iconst (0) k_48 rfl rfl ?_
          refine Rn.istore4 k_48 rfl rfl ?_
          exact cmp T.length 0 false (Nat.zero_add _) (fun z => by cases z) (fun _ z => h2 (by rw [z]))
        · rw [nI_eq (by omega) (by omega)] at h2
          refine Rn.iconst (1) k_48 rfl rfl ?_
          refine Rn.goto 43 k_48 rfl rfl ?_
          refine Rn.istore_n3 k_48 rfl rfl ?_
          refine Rn.iconst (0) k_48 rfl rfl ?_
          refine Rn.istore4 k_48 rfl rfl ?_
          exact cmp T.length 0 true (Nat.zero_add _) (fun _ => ⟨h2, fun j hj => absurd hj (Nat.not_lt_zero j)⟩) (fun z => by cases z)
  refine Rn.aload_n k_48 rfl rfl ?_
  refine Rn.iconst (0) k_48 rfl rfl ?_
  refine Rn.putI k_48 rfl (rfl) (s604 L) ?_
  refine Rn.aload_n k_48 rfl rfl ?_
  refine Rn.getI k_48 rfl rfl (s604 L) ?_
  rw [show up2 fi 604 0 0 604 1 = nI T.length from hT.1]
  refine Rn.istore_n1 k_48 rfl rfl ?_
  refine Rn.aload_n k_48 rfl rfl ?_
  refine Rn.iconst (0) k_48 rfl rfl ?_
  refine Rn.putI k_48 rfl (rfl) (s604 L) ?_
  refine Rn.iconst (0) k_48 rfl rfl ?_
  refine Rn.istore_n2 k_48 rfl rfl ?_
  refine loop (totW A.2.1) 0 _ _ _ (Nat.zero_add _) rfl rfl rfl (fun a k ha hb => ?_)
  rcases hb with hb | hb
  · rw [up2_row _ _ hb, up2_row _ _ hb]
  · rw [up2_col _ _ hb.2, up2_col _ _ hb.1]
end MQ
