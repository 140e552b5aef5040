/-! test, letter, reason, judge, find of the class -/
def qQ (L : Nat) (fi : Nat → Nat → Int32) (fl : Nat → Nat → Int64) (fr : Nat → Nat → Option Nat) (y : Int32) : Option Value → am_H → Prop := fun v h' => v = some (.int y) ∧ ∃ fi', h' = (SH L, fi', fl, fr) ∧ ∀ a k, nmF a → fi' a k = fi a k
section QY
variable {d L : Nat} {fi : Nat → Nat → Int32} {fl : Nat → Nat → Int64} {fr : Nat → Nat → Option Nat} {F G : Nat} {x : Nat → Nat} {n : Nat} {A : AS}
/-- has and caseOf -/
theorem ct_has' (hS : FSr fi fl x n A) (hA : AOk n A) {t : Int32} : Rn d 111 0 [some (.ref 19), some (.int t)] [] (SH L, fi, fl, fr) (Ret (SH L, fi, fl, fr) (some (.int (bI (decide (¬ t < 0 ∧ t < nI (totW A.2.1))))))) := ct_has (t := 0) hS.2.2.2.1 (by have := hA.2.2.2.2.2.1; omega)
theorem ct_caseOf' (hF : FRok F G fr) (hS : FSr fi fl x n A) (hA : AOk n A) {t : Nat} (ht : t < totW A.2.1) : Rn (d + 1) 112 0 [some (.ref 19), some (.int (nI t))] [] (SH L, fi, fl, fr) (Ret (SH L, fi, fl, fr) (some (.ref (25 + 14 * (tix A.2.1 t).1)))) := by
  obtain ⟨t1, t2, t3⟩ := tix_ok _ _ ht
  have := (hS.2.2.2.2.2 _ t1).2 _ t2
  rw [t3] at this
  exact ct_caseOf hF hS.2.2.2.1 hA.2.2.2.2.2.1 ht this (Nat.lt_of_lt_of_le t1 hA.2.2.2.1)
set_option maxHeartbeats 1000000 in
theorem ct_test (hF : FRok F G fr) (hS : FSr fi fl x n A) (hA : AOk n A) {t y : Int32} : Rn (d + 3) 5 0 [some (.ref 16), some (.int t), some (.int y), none] [] (SH L, fi, fl, fr) (qQ L fi fl fr (tstW A t y)) := by
  have h120 := hA.2.2.2.2.2.1
  rcases tno_of A (by omega) t with ⟨e1, e2⟩ | ⟨q, hq, rfl, e1, e2⟩
  · refine Rn.aload_n k_5 rfl rfl ?_
    refine Rn.getA k_5 rfl rfl (s16 L) (hF.l 7 rfl) ?_
    refine Rn.iload_n k_5 rfl rfl ?_
    refine Rn.cV2I k_5 rfl rfl q_111 rfl (Nat.le_of_ble_eq_true rfl) (Nat.le_of_ble_eq_true rfl) (s19 L) (ct_has' hS hA) ?_
    rw [e2]
    refine Rn.if_ne 13 k_5 rfl rfl (fun h1 => ?_) (fun h1 => ?_)
    · exact absurd rfl h1
    · refine Rn.iconst (-1) k_5 rfl rfl ?_
      refine Rn.reti k_5 rfl q_5 rfl (rfl) ?_
      exact ⟨by unfold tstW; rw [e1], fi, rfl, fun _ _ _ => rfl⟩
  · obtain ⟨t1, t2, t3⟩ := tix_ok _ _ hq
    have hi4 : (tix A.2.1 q).1 < 40 := Nat.lt_of_lt_of_le t1 hA.2.2.2.1
    have hC := hS.2.2.2.2.1 _ t1
    have hN := (hS.2.2.2.2.2 _ t1).2 _ t2
    rw [t3] at hN
    refine Rn.aload_n k_5 rfl rfl ?_
    refine Rn.getA k_5 rfl rfl (s16 L) (hF.l 7 rfl) ?_
    refine Rn.iload_n k_5 rfl rfl ?_
    refine Rn.cV2I k_5 rfl rfl q_111 rfl (Nat.le_of_ble_eq_true rfl) (Nat.le_of_ble_eq_true rfl) (s19 L) (ct_has' hS hA) ?_
    rw [e2]
    refine Rn.if_ne 13 k_5 rfl rfl (fun h1 => ?_) (fun h1 => ?_)
    · refine Rn.aload_n k_5 rfl rfl ?_
      refine Rn.getA k_5 rfl rfl (s16 L) (hF.l 7 rfl) ?_
      refine Rn.iload_n k_5 rfl rfl ?_
      refine Rn.cV2A k_5 rfl rfl q_112 rfl (Nat.le_of_ble_eq_true rfl) (Nat.le_of_ble_eq_true rfl) (s19 L) (ct_caseOf' hF hS hA hq) ?_
      refine Rn.astore_n3 k_5 rfl rfl ?_
      refine Rn.iload_n k_5 rfl rfl ?_
      have fin : ∀ v : Int32, tstW A (nI q) y = v → qQ L fi fl fr (tstW A (nI q) y) (some (.int v)) (SH L, fi, fl, fr) := fun v hv => ⟨by rw [hv], fi, rfl, fun _ _ _ => rfl⟩
      have out : (y.toInt < 0 ∨ 8 < y.toInt) → tstW A (nI q) y = -1 → Rn (d + 3) 5 23 [some (.ref 16), some (.int (nI q)), some (.int y), some (.ref (25 + 14 * (tix A.2.1 q).1))] [.int y] (SH L, fi, fl, fr) (qQ L fi fl fr (tstW A (nI q) y)) := by
        intro h1 h2
        refine Rn.tswo 156 k_5 rfl (h1) rfl ?_
        refine Rn.iconst (-1) k_5 rfl rfl ?_
        refine Rn.reti k_5 rfl q_5 rfl (rfl) ?_
        exact fin _ h2
      rcases wt_of y with ⟨j, hj, rfl, hw⟩ | ⟨y1, y2, y3⟩
      · have ew : ∀ j', j = j' → tstW A (nI q) (nI j) = (match j' with
          | 0 => nI (tix A.2.1 q).1
          | 1 => nI (k_su (A.2.1.getD (tix A.2.1 q).1 dK)) - 1
          | 2 => nI (if k_sz (A.2.1.getD (tix A.2.1 q).1 dK) = 0 then 1 else k_sz (A.2.1.getD (tix A.2.1 q).1 dK))
          | 3 => bI (k_rs (A.2.1.getD (tix A.2.1 q).1 dK)).isSome
          | 4 => bI (k_fl (A.2.1.getD (tix A.2.1 q).1 dK))
          | 5 => nI (atg A.1 (A.2.1.getD (tix A.2.1 q).1 dK)).length
          | 6 => nI (k_ps (A.2.1.getD (tix A.2.1 q).1 dK)).length
          | 7 => nI (tnm A.1 (A.2.1.getD (tix A.2.1 q).1 dK) (tix A.2.1 q).2).length
          | 8 => nI (k_ln (A.2.1.getD (tix A.2.1 q).1 dK))
          | _ => -1) := by
          intro j' hj'
          subst hj'
          unfold tstW
          rw [e1, hw]
          rfl
        match j, hj, hw, out, fin, ew with
        | 0, _, _, _, fin, ew =>
          refine Rn.tsw 72 (0) k_5 rfl (by decide) (rfl) rfl ?_
          refine Rn.aload_n k_5 rfl rfl ?_
          refine Rn.getA k_5 rfl rfl (s16 L) (hF.l 7 rfl) ?_
          refine Rn.getA k_5 rfl rfl (s19 L) (hF.l 6 rfl) ?_
          refine Rn.iload_n k_5 rfl rfl ?_
          refine Rn.iaload (q) k_5 rfl (s24 L) (rfl) (by omega) (by decide) ?_
          rw [hN]
          refine Rn.reti k_5 rfl q_5 rfl (rfl) ?_
          exact fin _ (ew 0 rfl)
        | 1, _, _, _, fin, ew =>
          refine Rn.tsw 82 (1) k_5 rfl (by decide) (rfl) rfl ?_
          refine Rn.aload_n k_5 rfl rfl ?_
          refine Rn.getI k_5 rfl rfl (sk0 L hi4) ?_
          rw [hC.2.2.1]
          refine Rn.reti k_5 rfl q_5 rfl (rfl) ?_
          exact fin _ (ew 1 rfl)
        | 2, _, _, _, fin, ew =>
          refine Rn.tsw 87 (2) k_5 rfl (by decide) (rfl) rfl ?_
          refine Rn.aload_n k_5 rfl rfl ?_
          refine Rn.getI k_5 rfl rfl (sk0 L hi4) ?_
          rw [hC.2.2.2.2.1]
          refine Rn.reti k_5 rfl q_5 rfl (rfl) ?_
          exact fin _ (ew 2 rfl)
        | 3, _, _, _, fin, ew =>
          refine Rn.tsw 92 (3) k_5 rfl (by decide) (rfl) rfl ?_
          refine Rn.aload_n k_5 rfl rfl ?_
          refine Rn.getI k_5 rfl rfl (sk0 L hi4) ?_
          rw [hC.2.2.2.2.2.1]
          refine Rn.if_eq 103 k_5 rfl rfl (fun h3 => ?_) (fun h3 => ?_)
          · (try rw [bI_0] at h3)
            (try rw [Bool.not_eq_false] at h3)
            refine Rn.iconst (0) k_5 rfl rfl ?_
            refine Rn.reti k_5 rfl q_5 rfl (rfl) ?_
            exact fin _ ((ew 3 rfl).trans (by show bI _ = _; rw [h3]; rfl))
          · (try rw [bI_0] at h3)
            (try rw [Bool.not_eq_false] at h3)
            refine Rn.iconst (1) k_5 rfl rfl ?_
            refine Rn.goto 104 k_5 rfl rfl ?_
            refine Rn.reti k_5 rfl q_5 rfl (rfl) ?_
            exact fin _ ((ew 3 rfl).trans (by show bI _ = _; rw [h3]; rfl))
        | 4, _, _, _, fin, ew =>
          refine Rn.tsw 105 (4) k_5 rfl (by decide) (rfl) rfl ?_
          refine Rn.aload_n k_5 rfl rfl ?_
          refine Rn.getI k_5 rfl rfl (sk0 L hi4) ?_
          rw [hC.2.2.2.2.2.2.1]
          refine Rn.if_eq 116 k_5 rfl rfl (fun h4 => ?_) (fun h4 => ?_)
          · (try rw [bI_0] at h4)
            (try rw [Bool.not_eq_false] at h4)
            refine Rn.iconst (0) k_5 rfl rfl ?_
            refine Rn.reti k_5 rfl q_5 rfl (rfl) ?_
            exact fin _ ((ew 4 rfl).trans (by show bI _ = _; rw [h4]; rfl))
          · (try rw [bI_0] at h4)
            (try rw [Bool.not_eq_false] at h4)
            refine Rn.iconst (1) k_5 rfl rfl ?_
            refine Rn.goto 117 k_5 rfl rfl ?_
            refine Rn.reti k_5 rfl q_5 rfl (rfl) ?_
            exact fin _ ((ew 4 rfl).trans (by show bI _ = _; rw [h4]; rfl))
        | 5, _, _, _, fin, ew =>
          refine Rn.tsw 118 (5) k_5 rfl (by decide) (rfl) rfl ?_
          refine Rn.aload_n k_5 rfl rfl ?_
          refine Rn.getA k_5 rfl rfl (sk0 L hi4) (hF.k hi4 1 rfl) ?_
          refine Rn.getI k_5 rfl rfl (sk1 L hi4) ?_
          rw [hC.2.2.2.2.2.2.2.2.2.2.1.len]
          refine Rn.reti k_5 rfl q_5 rfl (rfl) ?_
          exact fin _ (ew 5 rfl)
        | 6, _, _, _, fin, ew =>
          refine Rn.tsw 126 (6) k_5 rfl (by decide) (rfl) rfl ?_
          refine Rn.aload_n k_5 rfl rfl ?_
          refine Rn.getA k_5 rfl rfl (sk0 L hi4) (hF.k hi4 3 rfl) ?_
          refine Rn.getI k_5 rfl rfl (sk3 L hi4) ?_
          rw [hC.2.2.2.2.2.2.2.2.2.2.2.1.1, List.length_map]
          refine Rn.reti k_5 rfl q_5 rfl (rfl) ?_
          exact fin _ (ew 6 rfl)
        | 7, _, _, _, fin, ew =>
          refine Rn.tsw 134 (7) k_5 rfl (by decide) (rfl) rfl ?_
          refine Rn.aload_n k_5 rfl rfl ?_
          refine Rn.getA k_5 rfl rfl (s16 L) (hF.l 24 rfl) ?_
          refine Rn.aload_n k_5 rfl rfl ?_
          refine Rn.iload_n k_5 rfl rfl ?_
          rw [show nI q = nI (totW (A.2.1.take (tix A.2.1 q).1) + (tix A.2.1 q).2) by rw [t3]]
          refine Rn.cV3 k_5 rfl rfl q_128 rfl (Nat.le_of_ble_eq_true rfl) (Nat.le_of_ble_eq_true rfl) (s597 L) (ct_write hF hS hA t1 t2) (fun v h' hq => ?_)
          obtain ⟨rfl, g1, rfl, n1, f1⟩ := hq
          show Rn _ _ _ _ [] _ _
          refine Rn.aload_n k_5 rfl rfl ?_
          refine Rn.getA k_5 rfl rfl (s16 L) (hF.l 24 rfl) ?_
          refine Rn.getI k_5 rfl rfl (s597 L) ?_
          rw [n1.1]
          refine Rn.reti k_5 rfl q_5 rfl (rfl) ?_
          rw [t3]
          exact ⟨by rw [ew 7 rfl]; rfl, g1, rfl, f1⟩
        | 8, _, _, _, fin, ew =>
          refine Rn.tsw 151 (8) k_5 rfl (by decide) (rfl) rfl ?_
          refine Rn.aload_n k_5 rfl rfl ?_
          refine Rn.getI k_5 rfl rfl (sk0 L hi4) ?_
          rw [hC.2.2.2.1]
          refine Rn.reti k_5 rfl q_5 rfl (rfl) ?_
          exact fin _ (ew 8 rfl)
        | j + 9, hj, hw, out, _, ew => exact out (Or.inr (by rw [nI_toInt hj]; omega)) (ew (j + 9) rfl)
      · exact out (Or.inl y3) (by unfold tstW; rw [e1, y2]; rfl)
    · exact absurd h1 (by decide)
theorem ct_letter (hF : FRok F G fr) (hS : FSr fi fl x n A) (hA : AOk n A) {t y : Int32} : Rn (d + 3) 6 0 [some (.ref 16), some (.int t), some (.int y)] [] (SH L, fi, fl, fr) (qQ L fi fl fr (ltrW A t y)) := by
  have h120 := hA.2.2.2.2.2.1
  rcases tno_of A (by omega) t with ⟨e1, e2⟩ | ⟨q, hq, rfl, e1, e2⟩
  · refine Rn.aload_n k_6 rfl rfl ?_
    refine Rn.getA k_6 rfl rfl (s16 L) (hF.l 7 rfl) ?_
    refine Rn.iload_n k_6 rfl rfl ?_
    refine Rn.cV2I k_6 rfl rfl q_111 rfl (Nat.le_of_ble_eq_true rfl) (Nat.le_of_ble_eq_true rfl) (s19 L) (ct_has' hS hA) ?_
    rw [e2]
    refine Rn.if_ne 13 k_6 rfl rfl (fun h1 => ?_) (fun h1 => ?_)
    · exact absurd rfl h1
    · refine Rn.iconst (-1) k_6 rfl rfl ?_
      refine Rn.reti k_6 rfl q_6 rfl (rfl) ?_
      exact ⟨by unfold ltrW; rw [e1], fi, rfl, fun _ _ _ => rfl⟩
  · obtain ⟨t1, t2, t3⟩ := tix_ok _ _ hq
    have hi4 : (tix A.2.1 q).1 < 40 := Nat.lt_of_lt_of_le t1 hA.2.2.2.1
    have hl := tnm_len hA t1 (tix A.2.1 q).2
    refine Rn.aload_n k_6 rfl rfl ?_
    refine Rn.getA k_6 rfl rfl (s16 L) (hF.l 7 rfl) ?_
    refine Rn.iload_n k_6 rfl rfl ?_
    refine Rn.cV2I k_6 rfl rfl q_111 rfl (Nat.le_of_ble_eq_true rfl) (Nat.le_of_ble_eq_true rfl) (s19 L) (ct_has' hS hA) ?_
    rw [e2]
    refine Rn.if_ne 13 k_6 rfl rfl (fun h1 => ?_) (fun h1 => ?_)
    · refine Rn.aload_n k_6 rfl rfl ?_
      refine Rn.getA k_6 rfl rfl (s16 L) (hF.l 24 rfl) ?_
      refine Rn.aload_n k_6 rfl rfl ?_
      refine Rn.getA k_6 rfl rfl (s16 L) (hF.l 7 rfl) ?_
      refine Rn.iload_n k_6 rfl rfl ?_
      refine Rn.cV2A k_6 rfl rfl q_112 rfl (Nat.le_of_ble_eq_true rfl) (Nat.le_of_ble_eq_true rfl) (s19 L) (ct_caseOf' hF hS hA hq) ?_
      refine Rn.iload_n k_6 rfl rfl ?_
      rw [show nI q = nI (totW (A.2.1.take (tix A.2.1 q).1) + (tix A.2.1 q).2) by rw [t3]]
      refine Rn.cV3 k_6 rfl rfl q_128 rfl (Nat.le_of_ble_eq_true rfl) (Nat.le_of_ble_eq_true rfl) (s597 L) (ct_write hF hS hA t1 t2) (fun v h' hq => ?_)
      obtain ⟨rfl, g1, rfl, n1, f1⟩ := hq
      rw [t3]
      show Rn _ _ _ _ [] _ _
      have fin : ∀ v : Int32, ltrW A (nI q) y = v → qQ L fi fl fr (ltrW A (nI q) y) (some (.int v)) (SH L, g1, fl, fr) := fun v hv => ⟨by rw [hv], g1, rfl, f1⟩
      have el : ltrW A (nI q) y = if y < 0 then -1 else if y.toNatClampNeg < (tnm A.1 (A.2.1.getD (tix A.2.1 q).1 dK) (tix A.2.1 q).2).length then nI ((tnm A.1 (A.2.1.getD (tix A.2.1 q).1 dK) (tix A.2.1 q).2).getD y.toNatClampNeg 0) else -1 := by unfold ltrW; rw [e1]
      generalize tnm A.1 (A.2.1.getD (tix A.2.1 q).1 dK) (tix A.2.1 q).2 = U at hl n1 el
      refine Rn.iload_n k_6 rfl rfl ?_
      refine Rn.if_lt 56 k_6 rfl rfl (fun h2 => ?_) (fun h2 => ?_)
      · refine Rn.iconst (-1) k_6 rfl rfl ?_
        refine Rn.reti k_6 rfl q_6 rfl (rfl) ?_
        exact fin _ (by rw [el, if_pos h2])
      · obtain ⟨j, hj, rfl⟩ := nI_of h2
        rw [if_neg h2, nI_clamp hj] at el
        refine Rn.iload_n k_6 rfl rfl ?_
        refine Rn.aload_n k_6 rfl rfl ?_
        refine Rn.getA k_6 rfl rfl (s16 L) (hF.l 24 rfl) ?_
        refine Rn.getI k_6 rfl rfl (s597 L) ?_
        rw [n1.1]
        refine Rn.icmp_ge 56 k_6 rfl rfl (fun h3 => ?_) (fun h3 => ?_)
        · rw [nI_leI (by omega) (by omega)] at h3
          refine Rn.iconst (-1) k_6 rfl rfl ?_
          refine Rn.reti k_6 rfl q_6 rfl (rfl) ?_
          exact fin _ (by rw [el, if_neg (by omega)])
        · rw [nI_leI (by omega) (by omega)] at h3
          refine Rn.aload_n k_6 rfl rfl ?_
          refine Rn.getA k_6 rfl rfl (s16 L) (hF.l 24 rfl) ?_
          refine Rn.getA k_6 rfl rfl (s597 L) (hF.l 23 rfl) ?_
          refine Rn.iload_n k_6 rfl rfl ?_
          refine Rn.caload (j) k_6 rfl (s598 L) (rfl) (by omega) (by decide) ?_
          rw [n1.2 j (by omega)]
          refine Rn.goto 57 k_6 rfl rfl ?_
          refine Rn.reti k_6 rfl q_6 rfl (rfl) ?_
          exact fin _ (by rw [el, if_pos (by omega)])
    · exact absurd h1 (by decide)
theorem ct_reason (hF : FRok F G fr) (hS : FSr fi fl x n A) (hA : AOk n A) {t y : Int32} : Rn (d + 2) 7 0 [some (.ref 16), some (.int t), some (.int y), none] [] (SH L, fi, fl, fr) (Ret (SH L, fi, fl, fr) (some (.int (rsnW x A t y)))) := by
  have h120 := hA.2.2.2.2.2.1
  have hn := hS.1.2
  rcases tno_of A (by omega) t with ⟨e1, e2⟩ | ⟨q, hq, rfl, e1, e2⟩
  · refine Rn.aload_n k_7 rfl rfl ?_
    refine Rn.getA k_7 rfl rfl (s16 L) (hF.l 7 rfl) ?_
    refine Rn.iload_n k_7 rfl rfl ?_
    refine Rn.cV2I k_7 rfl rfl q_111 rfl (Nat.le_of_ble_eq_true rfl) (Nat.le_of_ble_eq_true rfl) (s19 L) (ct_has' hS hA) ?_
    rw [e2]
    refine Rn.if_ne 13 k_7 rfl rfl (fun h1 => ?_) (fun h1 => ?_)
    · exact absurd rfl h1
    · refine Rn.iconst (-1) k_7 rfl rfl ?_
      refine Rn.reti k_7 rfl q_7 rfl (rfl) ?_
      exact ⟨by unfold rsnW; rw [e1], rfl⟩
  · obtain ⟨t1, t2, t3⟩ := tix_ok _ _ hq
    have hi4 : (tix A.2.1 q).1 < 40 := Nat.lt_of_lt_of_le t1 hA.2.2.2.1
    have hC := hS.2.2.2.2.1 _ t1
    have hk := hA.k t1
    have el : rsnW x A (nI q) y = (match k_rs (A.2.1.getD (tix A.2.1 q).1 dK) with
      | none => -1
      | some r => if y < 0 then -1 else if y.toNatClampNeg < r.2 - r.1 then nI (x (r.1 + y.toNatClampNeg)) else -1) := by unfold rsnW; rw [e1]; rfl
    rw [el]
    generalize A.2.1.getD (tix A.2.1 q).1 dK = k at hC hk ⊢
    refine Rn.aload_n k_7 rfl rfl ?_
    refine Rn.getA k_7 rfl rfl (s16 L) (hF.l 7 rfl) ?_
    refine Rn.iload_n k_7 rfl rfl ?_
    refine Rn.cV2I k_7 rfl rfl q_111 rfl (Nat.le_of_ble_eq_true rfl) (Nat.le_of_ble_eq_true rfl) (s19 L) (ct_has' hS hA) ?_
    rw [e2]
    refine Rn.if_ne 13 k_7 rfl rfl (fun h1 => ?_) (fun h1 => ?_)
    · refine Rn.aload_n k_7 rfl rfl ?_
      refine Rn.getA k_7 rfl rfl (s16 L) (hF.l 7 rfl) ?_
      refine Rn.iload_n k_7 rfl rfl ?_
      refine Rn.cV2A k_7 rfl rfl q_112 rfl (Nat.le_of_ble_eq_true rfl) (Nat.le_of_ble_eq_true rfl) (s19 L) (ct_caseOf' hF hS hA hq) ?_
      refine Rn.astore_n3 k_7 rfl rfl ?_
      refine Rn.aload_n k_7 rfl rfl ?_
      refine Rn.getI k_7 rfl rfl (sk0 L hi4) ?_
      rw [hC.2.2.2.2.2.1]
      refine Rn.if_eq 46 k_7 rfl rfl (fun h2 => ?_) (fun h2 => ?_)
      · (try rw [bI_0] at h2)
        (try rw [Bool.not_eq_false] at h2)
        refine Rn.iconst (-1) k_7 rfl rfl ?_
        refine Rn.reti k_7 rfl q_7 rfl (rfl) ?_
        cases hr : k_rs k with
        | none => exact ⟨rfl, rfl⟩
        | some r => rw [hr] at h2; cases h2
      · (try rw [bI_0] at h2)
        (try rw [Bool.not_eq_false] at h2)
        cases hr : k_rs k with
        | none => rw [hr] at h2; cases h2
        | some r =>
          obtain ⟨r1, r2⟩ := hC.2.2.2.2.2.2.2.1 r hr
          obtain ⟨r3, r4⟩ := hk.2.2.2.2.1 r hr
          dsimp only
          refine Rn.iload_n k_7 rfl rfl ?_
          refine Rn.if_lt 46 k_7 rfl rfl (fun h3 => ?_) (fun h3 => ?_)
          · refine Rn.iconst (-1) k_7 rfl rfl ?_
            refine Rn.reti k_7 rfl q_7 rfl (rfl) ?_
            exact ⟨by rw [if_pos h3], rfl⟩
          · obtain ⟨j, hj, rfl⟩ := nI_of h3
            rw [if_neg h3, nI_clamp hj]
            refine Rn.iload_n k_7 rfl rfl ?_
            refine Rn.aload_n k_7 rfl rfl ?_
            refine Rn.getI k_7 rfl rfl (sk0 L hi4) ?_
            refine Rn.aload_n k_7 rfl rfl ?_
            refine Rn.getI k_7 rfl rfl (sk0 L hi4) ?_
            rw [r1, r2]
            refine Rn.isub k_7 rfl ?_
            rw [pk_sub (by omega)]
            refine Rn.icmp_lt 48 k_7 rfl rfl (fun h4 => ?_) (fun h4 => ?_)
            · rw [nI_ltI (by omega) (by omega)] at h4
              rw [if_pos h4]
              obtain ⟨x1, x2⟩ := hS.1.1 (r.1 + j) (by omega)
              refine Rn.aload_n k_7 rfl rfl ?_
              refine Rn.getA k_7 rfl rfl (s16 L) (hF.l 7 rfl) ?_
              refine Rn.getA k_7 rfl rfl (s19 L) (hF.l 2 rfl) ?_
              refine Rn.aload_n k_7 rfl rfl ?_
              refine Rn.getI k_7 rfl rfl (sk0 L hi4) ?_
              refine Rn.iload_n k_7 rfl rfl ?_
              rw [r1]
              refine Rn.iadd k_7 rfl ?_
              rw [nI_add]
              refine Rn.caload (r.1 + j) k_7 rfl (s20 L) (rfl) (by omega) (by decide) ?_
              rw [x1]
              refine Rn.reti k_7 rfl q_7 rfl (rfl) ?_
              exact ⟨rfl, rfl⟩
            · rw [nI_ltI (by omega) (by omega)] at h4
              rw [if_neg h4]
              refine Rn.iconst (-1) k_7 rfl rfl ?_
              refine Rn.reti k_7 rfl q_7 rfl (rfl) ?_
              exact ⟨rfl, rfl⟩
    · exact absurd h1 (by decide)
theorem ct_judge (hF : FRok F G fr) (hS : FSr fi fl x n A) (hA : AOk n A) {t y : Int32} : Rn (d + 2) 12 0 [some (.ref 16), some (.int t), some (.int y), none] [] (SH L, fi, fl, fr) (Ret (SH L, fi, fl, fr) (some (.int (jdgW A t y)))) := by
  have h120 := hA.2.2.2.2.2.1
  rcases tno_of A (by omega) t with ⟨e1, e2⟩ | ⟨q, hq, rfl, e1, e2⟩
  · refine Rn.aload_n k_12 rfl rfl ?_
    refine Rn.getA k_12 rfl rfl (s16 L) (hF.l 7 rfl) ?_
    refine Rn.iload_n k_12 rfl rfl ?_
    refine Rn.cV2I k_12 rfl rfl q_111 rfl (Nat.le_of_ble_eq_true rfl) (Nat.le_of_ble_eq_true rfl) (s19 L) (ct_has' hS hA) ?_
    rw [e2]
    refine Rn.if_ne 13 k_12 rfl rfl (fun h1 => ?_) (fun h1 => ?_)
    · exact absurd rfl h1
    · refine Rn.iconst (-1) k_12 rfl rfl ?_
      refine Rn.reti k_12 rfl q_12 rfl (rfl) ?_
      exact ⟨by unfold jdgW; rw [e1], rfl⟩
  · obtain ⟨t1, t2, t3⟩ := tix_ok _ _ hq
    have hi4 : (tix A.2.1 q).1 < 40 := Nat.lt_of_lt_of_le t1 hA.2.2.2.1
    have hC := hS.2.2.2.2.1 _ t1
    have el : jdgW A (nI q) y = if (k_rs (A.2.1.getD (tix A.2.1 q).1 dK)).isSome = true then 3 else if k_fl (A.2.1.getD (tix A.2.1 q).1 dK) = true then (if y = 0 then 1 else 4) else (if y = 0 then 2 else 0) := by unfold jdgW; rw [e1]
    rw [el]
    generalize A.2.1.getD (tix A.2.1 q).1 dK = k at hC ⊢
    refine Rn.aload_n k_12 rfl rfl ?_
    refine Rn.getA k_12 rfl rfl (s16 L) (hF.l 7 rfl) ?_
    refine Rn.iload_n k_12 rfl rfl ?_
    refine Rn.cV2I k_12 rfl rfl q_111 rfl (Nat.le_of_ble_eq_true rfl) (Nat.le_of_ble_eq_true rfl) (s19 L) (ct_has' hS hA) ?_
    rw [e2]
    refine Rn.if_ne 13 k_12 rfl rfl (fun h1 => ?_) (fun h1 => ?_)
    · refine Rn.aload_n k_12 rfl rfl ?_
      refine Rn.getA k_12 rfl rfl (s16 L) (hF.l 7 rfl) ?_
      refine Rn.iload_n k_12 rfl rfl ?_
      refine Rn.cV2A k_12 rfl rfl q_112 rfl (Nat.le_of_ble_eq_true rfl) (Nat.le_of_ble_eq_true rfl) (s19 L) (ct_caseOf' hF hS hA hq) ?_
      refine Rn.astore_n3 k_12 rfl rfl ?_
      refine Rn.aload_n k_12 rfl rfl ?_
      refine Rn.getI k_12 rfl rfl (sk0 L hi4) ?_
      rw [hC.2.2.2.2.2.1]
      refine Rn.if_eq 31 k_12 rfl rfl (fun h2 => ?_) (fun h2 => ?_)
      · (try rw [bI_0] at h2)
        (try rw [Bool.not_eq_false] at h2)
        rw [if_neg (by rw [h2]; decide)]
        refine Rn.aload_n k_12 rfl rfl ?_
        refine Rn.getI k_12 rfl rfl (sk0 L hi4) ?_
        rw [hC.2.2.2.2.2.2.1]
        refine Rn.if_eq 48 k_12 rfl rfl (fun h3 => ?_) (fun h3 => ?_)
        · (try rw [bI_0] at h3)
          (try rw [Bool.not_eq_false] at h3)
          rw [if_neg (by rw [h3]; decide)]
          refine Rn.iload_n k_12 rfl rfl ?_
          refine Rn.if_eq 56 k_12 rfl rfl (fun h5 => ?_) (fun h5 => ?_)
          · refine Rn.iconst (2) k_12 rfl rfl ?_
            refine Rn.reti k_12 rfl q_12 rfl (rfl) ?_
            exact ⟨by rw [if_pos h5], rfl⟩
          · refine Rn.iconst (0) k_12 rfl rfl ?_
            refine Rn.goto 57 k_12 rfl rfl ?_
            refine Rn.reti k_12 rfl q_12 rfl (rfl) ?_
            exact ⟨by rw [if_neg h5], rfl⟩
        · (try rw [bI_0] at h3)
          (try rw [Bool.not_eq_false] at h3)
          rw [if_pos h3]
          refine Rn.iload_n k_12 rfl rfl ?_
          refine Rn.if_eq 46 k_12 rfl rfl (fun h4 => ?_) (fun h4 => ?_)
          · refine Rn.iconst (1) k_12 rfl rfl ?_
            refine Rn.reti k_12 rfl q_12 rfl (rfl) ?_
            exact ⟨by rw [if_pos h4], rfl⟩
          · refine Rn.iconst (4) k_12 rfl rfl ?_
            refine Rn.goto 47 k_12 rfl rfl ?_
            refine Rn.reti k_12 rfl q_12 rfl (rfl) ?_
            exact ⟨by rw [if_neg h4], rfl⟩
      · (try rw [bI_0] at h2)
        (try rw [Bool.not_eq_false] at h2)
        rw [if_pos h2]
        refine Rn.iconst (3) k_12 rfl rfl ?_
        refine Rn.reti k_12 rfl q_12 rfl (rfl) ?_
        exact ⟨rfl, rfl⟩
    · exact absurd h1 (by decide)
set_option maxHeartbeats 1000000 in
theorem ct_find (hF : FRok F G fr) (hS : FSr fi fl x n A) (hA : AOk n A) {T : List Nat} (hT : TPr fi T) (hO : TOk T) : Rn (d + 3) 8 0 [some (.ref 16), none, none] [] (SH L, fi, fl, fr) (fun v h' => v = some (.int (fndW A T (totW A.2.1) 0)) ∧ ∃ fi', h' = (SH L, fi', fl, fr) ∧ fi' 17 1 = 0 ∧ ∀ a k, nmF a → (a ≠ 17 ∨ k ≠ 1) → fi' a k = fi a k) := by
  have h120 := hA.2.2.2.2.2.1
  have fin : ∀ (gi : Nat → Nat → Int32) (v : Int32) (o2 : Option Value), v = fndW A T (totW A.2.1) 0 → (∀ a k, nmF a → gi a k = fi a k) → Rn (d + 3) 8 58 [some (.ref 16), some (.int v), o2] [] (SH L, gi, fl, fr) (fun v h' => v = some (.int (fndW A T (totW A.2.1) 0)) ∧ ∃ fi', h' = (SH L, fi', fl, fr) ∧ fi' 17 1 = 0 ∧ ∀ a k, nmF a → (a ≠ 17 ∨ k ≠ 1) → fi' a k = fi a k) := by
    intro gi v o2 hv hg
    refine Rn.aload_n k_8 rfl rfl ?_
    refine Rn.getA k_8 rfl rfl (s16 L) (hF.l 1 rfl) ?_
    refine Rn.iconst (0) k_8 rfl rfl ?_
    refine Rn.putI k_8 rfl (rfl) (s17 L) ?_
    refine Rn.iload_n k_8 rfl rfl ?_
    refine Rn.reti k_8 rfl q_8 rfl (rfl) ?_
    refine ⟨by rw [hv], _, rfl, up2_same _ _ _ _, fun a k ha hk => ?_⟩
    refine Eq.trans ?_ (hg a k ha)
    unfold up2
    rcases hk with hk | hk
    · rw [if_neg hk]
    · rw [if_neg hk]; split <;> rfl
  have loop : ∀ (m t : Nat) (gi : Nat → Nat → Int32), t + m = totW A.2.1 → fndW A T (totW A.2.1) 0 = fndW A T m t → (∀ a k, nmF a → gi a k = fi a k) → Rn (d + 3) 8 4 [some (.ref 16), some (.int (-1)), some (.int (nI t))] [] (SH L, gi, fl, fr) (fun v h' => v = some (.int (fndW A T (totW A.2.1) 0)) ∧ ∃ fi', h' = (SH L, fi', fl, fr) ∧ fi' 17 1 = 0 ∧ ∀ a k, nmF a → (a ≠ 17 ∨ k ≠ 1) → fi' a k = fi a k) := by
    intro m
    induction m with
    | zero =>
      intro t gi ht he hg
      have hS' := hS.keep hA (fi' := gi) (fl' := fl) (fun a q u1 u2 => hg a q ⟨by omega, by omega⟩) (fun _ _ _ _ => rfl)
      refine Rn.iload_n k_8 rfl rfl ?_
      refine Rn.aload_n k_8 rfl rfl ?_
      refine Rn.getA k_8 rfl rfl (s16 L) (hF.l 7 rfl) ?_
      refine Rn.getI k_8 rfl rfl (s19 L) ?_
      rw [hS'.2.2.2.1]
      refine Rn.icmp_ge 58 k_8 rfl rfl (fun h1 => ?_) (fun h1 => ?_)
      · exact fin gi _ _ he.symm hg
      · rw [nI_leI (by omega) (by omega)] at h1
        omega
    | succ m ih =>
      intro t gi ht he hg
      have hq : t < totW A.2.1 := by omega
      obtain ⟨t1, t2, t3⟩ := tix_ok _ _ hq
      have hS' := hS.keep hA (fi' := gi) (fl' := fl) (fun a q u1 u2 => hg a q ⟨by omega, by omega⟩) (fun _ _ _ _ => rfl)
      have hl := tnm_len hA t1 (tix A.2.1 t).2
      have hch := tnm_chr hA t1 (tix A.2.1 t).2
      refine Rn.iload_n k_8 rfl rfl ?_
      refine Rn.aload_n k_8 rfl rfl ?_
      refine Rn.getA k_8 rfl rfl (s16 L) (hF.l 7 rfl) ?_
      refine Rn.getI k_8 rfl rfl (s19 L) ?_
      rw [hS'.2.2.2.1]
      refine Rn.icmp_ge 58 k_8 rfl rfl (fun h1 => ?_) (fun h1 => ?_)
      · rw [nI_leI (by omega) (by omega)] at h1
        omega
      · refine Rn.iload_n k_8 rfl rfl ?_
        refine Rn.iconst (-1) k_8 rfl rfl ?_
        refine Rn.icmp_ne 58 k_8 rfl rfl (fun h2 => ?_) (fun h2 => ?_)
        · exact absurd rfl h2
        · refine Rn.aload_n k_8 rfl rfl ?_
          refine Rn.getA k_8 rfl rfl (s16 L) (hF.l 24 rfl) ?_
          refine Rn.aload_n k_8 rfl rfl ?_
          refine Rn.getA k_8 rfl rfl (s16 L) (hF.l 7 rfl) ?_
          refine Rn.iload_n k_8 rfl rfl ?_
          refine Rn.cV2A k_8 rfl rfl q_112 rfl (Nat.le_of_ble_eq_true rfl) (Nat.le_of_ble_eq_true rfl) (s19 L) (ct_caseOf' hF hS' hA hq) ?_
          refine Rn.iload_n k_8 rfl rfl ?_
          rw [show nI t = nI (totW (A.2.1.take (tix A.2.1 t).1) + (tix A.2.1 t).2) by rw [t3]]
          refine Rn.cV3 k_8 rfl rfl q_128 rfl (Nat.le_of_ble_eq_true rfl) (Nat.le_of_ble_eq_true rfl) (s597 L) (ct_write hF hS' hA t1 t2) (fun v h' hq => ?_)
          obtain ⟨rfl, g1, rfl, n1, f1⟩ := hq
          rw [t3]
          show Rn _ _ _ _ [] _ _
          have f1 : ∀ a k, nmF a → g1 a k = fi a k := fun a k ha => (f1 a k ha).trans (hg a k ha)
          have hT1 : TPr g1 T := ⟨(f1 _ _ ⟨by decide, by decide⟩).trans hT.1, fun k hk => (f1 _ _ ⟨by decide, by decide⟩).trans (hT.2 k hk)⟩
          refine Rn.aload_n k_8 rfl rfl ?_
          refine Rn.getA k_8 rfl rfl (s16 L) (hF.l 24 rfl) ?_
          refine Rn.aload_n k_8 rfl rfl ?_
          refine Rn.getA k_8 rfl rfl (s16 L) (hF.l 1 rfl) ?_
          refine Rn.cV2I k_8 rfl rfl q_131 rfl (Nat.le_of_ble_eq_true rfl) (Nat.le_of_ble_eq_true rfl) (s597 L) (ct_isOn hF n1 hl hch hT1 hO) ?_
          have es : fndW A T (m + 1) t = if tnm A.1 (A.2.1.getD (tix A.2.1 t).1 dK) (tix A.2.1 t).2 = T then nI t else fndW A T m (t + 1) := rfl
          refine Rn.if_eq 52 k_8 rfl rfl (fun h3 => ?_) (fun h3 => ?_)
          · (try rw [bI_0] at h3)
            (try rw [Bool.not_eq_false] at h3)
            have h3 := of_decide_eq_false h3
            refine Rn.iinc2 (1) k_8 rfl rfl rfl ?_
            rw [c_add 1 1 rfl]
            refine Rn.goto 4 k_8 rfl rfl ?_
            exact ih (t + 1) g1 (by omega) (by rw [he, es, if_neg h3]) f1
          · (try rw [bI_0] at h3)
            (try rw [Bool.not_eq_false] at h3)
            have h3 := of_decide_eq_true h3
            refine Rn.iload_n k_8 rfl rfl ?_
            refine Rn.istore_n1 k_8 rfl rfl ?_
            refine Rn.iinc2 (1) k_8 rfl rfl rfl ?_
            rw [c_add 1 1 rfl]
            refine Rn.goto 4 k_8 rfl rfl ?_
            refine Rn.iload_n k_8 rfl rfl ?_
            refine Rn.aload_n k_8 rfl rfl ?_
            refine Rn.getA k_8 rfl rfl (s16 L) (hF.l 7 rfl) ?_
            refine Rn.getI k_8 rfl rfl (s19 L) ?_
            rw [(f1 19 6 ⟨by decide, by decide⟩).trans hS.2.2.2.1]
            have done : Rn (d + 3) 8 58 [some (.ref 16), some (.int (nI t)), some (.int (nI (t + 1)))] [] (SH L, g1, fl, fr) (fun v h' => v = some (.int (fndW A T (totW A.2.1) 0)) ∧ ∃ fi', h' = (SH L, fi', fl, fr) ∧ fi' 17 1 = 0 ∧ ∀ a k, nmF a → (a ≠ 17 ∨ k ≠ 1) → fi' a k = fi a k) := fin g1 _ _ (by rw [he, es, if_pos h3]) f1
            refine Rn.icmp_ge 58 k_8 rfl rfl (fun h1 => ?_) (fun h1 => ?_)
            · exact done
            · refine Rn.iload_n k_8 rfl rfl ?_
              refine Rn.iconst (-1) k_8 rfl rfl ?_
              refine Rn.icmp_ne 58 k_8 rfl rfl (fun h2 => ?_) (fun h2 => ?_)
              · exact done
              · exact absurd h2 (c_m1 (by omega))
  refine Rn.iconst (-1) k_8 rfl rfl ?_
  refine Rn.istore_n1 k_8 rfl rfl ?_
  refine Rn.iconst (0) k_8 rfl rfl ?_
  refine Rn.istore_n2 k_8 rfl rfl ?_
  exact loop (totW A.2.1) 0 fi (Nat.zero_add _) rfl (fun _ _ _ => rfl)
end QY
