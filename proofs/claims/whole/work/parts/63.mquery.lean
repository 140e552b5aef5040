/-! THE REFERENCE: what is told -/
def mqQ (L : Nat) (fi : Nat → Nat → Int32) (fl : Nat → Nat → Int64) (fr : Nat → Nat → Option Nat) (y : Int32) : Option Value → am_H → Prop := fun v h' => v = some (.int y) ∧ ∃ fi', h' = (SH L, fi', fl, fr) ∧ fi' 604 0 = 0 ∧ ∀ a k, mnF a k → (a ≠ 604 ∨ k ≠ 0) → fi' a k = fi a k
theorem MFr.keep0 {fi : Nat → Nat → Int32} {x : Nat → Nat} {n : Nat} {A : AS} (hA : AOk n A) (h : MFr fi x n A) : MFr (up2 fi 604 0 0) x n A := h.keep hA (fun a k z => up2_row _ _ (by omega)) (fun k z => up2_col _ _ (by omega))
theorem k0 {fi : Nat → Nat → Int32} : ∀ a k, mnF a k → (a ≠ 604 ∨ k ≠ 0) → up2 fi 604 0 0 a k = fi a k := fun a k _ h => by
  rcases h with h | h
  · exact up2_row _ _ h
  · exact up2_col _ _ h
section MQ
variable {d L : Nat} {fi : Nat → Nat → Int32} {fl : Nat → Nat → Int64} {fr : Nat → Nat → Option Nat} {F G : Nat} {x : Nat → Nat} {n : Nat} {A : AS}
theorem cm_isTest {m : Nat} (hm : fi 604 33 = nI m) {t : Int32} : Rn d 37 0 [some (.ref 604), some (.int t)] [] (SH L, fi, fl, fr) (Ret (SH L, fi, fl, fr) (some (.int (bI (decide (¬ t < 0 ∧ t < nI m)))))) := by
  refine Rn.iload_n k_37 rfl rfl ?_
  refine Rn.if_lt 16 k_37 rfl rfl (fun h1 => ?_) (fun h1 => ?_)
  · refine Rn.iconst (0) k_37 rfl rfl ?_
    refine Rn.reti k_37 rfl q_37 rfl (rfl) ?_
    exact ⟨by rw [decide_eq_false (fun z => z.1 h1)]; rfl, rfl⟩
  · refine Rn.iload_n k_37 rfl rfl ?_
    refine Rn.aload_n k_37 rfl rfl ?_
    refine Rn.getI k_37 rfl rfl (s604 L) ?_
    rw [hm]
    refine Rn.icmp_ge 16 k_37 rfl rfl (fun h2 => ?_) (fun h2 => ?_)
    · refine Rn.iconst (0) k_37 rfl rfl ?_
      refine Rn.reti k_37 rfl q_37 rfl (rfl) ?_
      have hz : ¬ (¬ t < 0 ∧ t < nI m) := by
        intro z
        have := Int32.lt_iff_toInt_lt.mp z.2
        have := Int32.le_iff_toInt_le.mp h2
        omega
      rw [decide_eq_false hz]
      exact ⟨rfl, rfl⟩
    · refine Rn.iconst (1) k_37 rfl rfl ?_
      refine Rn.goto 17 k_37 rfl rfl ?_
      refine Rn.reti k_37 rfl q_37 rfl (rfl) ?_
      refine ⟨by rw [decide_eq_true ⟨h1, ?_⟩]; rfl, rfl⟩
      exact Int32.lt_iff_toInt_lt.mpr (Int.not_le.mp (fun z => h2 (Int32.le_iff_toInt_le.mpr z)))
theorem cm_isSkipped (hF : FRok F G fr) {ss : List (Nm × List Nm)} {c : Nat} (hc : c < 40) {k : KS} (hK : MKr fi x n c k) (hk : KOk ss n k) (hn : n ≤ 1200) : Rn d 43 0 [some (.ref 604), some (.int (nI c))] [] (SH L, fi, fl, fr) (Ret (SH L, fi, fl, fr) (some (.int (bI (k_rs k).isSome)))) := by
  refine Rn.aload_n k_43 rfl rfl ?_
  refine Rn.getA k_43 rfl rfl (s604 L) (hF.l 44 rfl) ?_
  refine Rn.iload_n k_43 rfl rfl ?_
  refine Rn.iaload (c) k_43 rfl (s620 L) (rfl) (hc) (by decide) ?_
  refine Rn.iconst (-1) k_43 rfl rfl ?_
  refine Rn.icmp_eq 14 k_43 rfl rfl (fun h1 => ?_) (fun h1 => ?_)
  · refine Rn.iconst (0) k_43 rfl rfl ?_
    refine Rn.reti k_43 rfl q_43 rfl (rfl) ?_
    refine ⟨?_, rfl⟩
    cases hz : k_rs k with
    | none => rfl
    | some r =>
      rw [(hK.2.2.2.2.2.1 r hz).2] at h1
      have := hk.2.2.2.2.1 r hz
      exact absurd h1 (c_m1 (by omega))
  · refine Rn.iconst (1) k_43 rfl rfl ?_
    refine Rn.goto 15 k_43 rfl rfl ?_
    refine Rn.reti k_43 rfl q_43 rfl (rfl) ?_
    refine ⟨?_, rfl⟩
    cases hz : k_rs k with
    | none => exact absurd (hK.2.2.2.2.1 hz) h1
    | some r => rfl
theorem cm_sizeOf (hF : FRok F G fr) {c : Nat} (hc : c < 40) {k : KS} (hK : MKr fi x n c k) (h9 : k_sz k ≤ 9) : Rn d 44 0 [some (.ref 604), some (.int (nI c))] [] (SH L, fi, fl, fr) (Ret (SH L, fi, fl, fr) (some (.int (nI (if k_sz k = 0 then 1 else k_sz k))))) := by
  refine Rn.aload_n k_44 rfl rfl ?_
  refine Rn.getA k_44 rfl rfl (s604 L) (hF.l 42 rfl) ?_
  refine Rn.iload_n k_44 rfl rfl ?_
  refine Rn.iaload (c) k_44 rfl (s618 L) (rfl) (hc) (by decide) ?_
  rw [hK.2.2.2.1]
  refine Rn.if_ne 13 k_44 rfl rfl (fun h1 => ?_) (fun h1 => ?_)
  · rw [c_eq 0 0 rfl (by omega) (by decide)] at h1
    refine Rn.aload_n k_44 rfl rfl ?_
    refine Rn.getA k_44 rfl rfl (s604 L) (hF.l 42 rfl) ?_
    refine Rn.iload_n k_44 rfl rfl ?_
    refine Rn.iaload (c) k_44 rfl (s618 L) (rfl) (hc) (by decide) ?_
    rw [hK.2.2.2.1]
    refine Rn.reti k_44 rfl q_44 rfl (rfl) ?_
    rw [if_neg h1]
    exact ⟨rfl, rfl⟩
  · rw [c_eq 0 0 rfl (by omega) (by decide)] at h1
    refine Rn.iconst (1) k_44 rfl rfl ?_
    refine Rn.goto 19 k_44 rfl rfl ?_
    refine Rn.reti k_44 rfl q_44 rfl (rfl) ?_
    rw [if_pos h1]
    exact ⟨rfl, rfl⟩
theorem cm_count (hF : FRok F G fr) (hS : MFr fi x n A) (hA : AOk n A) {y : Int32} : Rn d 42 0 [some (.ref 604), some (.int y)] [] (SH L, fi, fl, fr) (mqQ L fi fl fr (cntW A y)) := by
  have hS' := hS.keep0 hA
  have fin : ∀ v : Int32, cntW A y = v → mqQ L fi fl fr (cntW A y) (some (.int v)) (SH L, up2 fi 604 0 0, fl, fr) := fun v hv => ⟨by rw [hv], _, rfl, up2_same _ _ _ _, k0⟩
  refine Rn.aload_n k_42 rfl rfl ?_
  refine Rn.iconst (0) k_42 rfl rfl ?_
  refine Rn.putI k_42 rfl (rfl) (s604 L) ?_
  refine Rn.iload_n k_42 rfl rfl ?_
  refine Rn.if_ne 16 k_42 rfl rfl (fun h1 => ?_) (fun h1 => ?_)
  · refine Rn.iload_n k_42 rfl rfl ?_
    refine Rn.iconst (1) k_42 rfl rfl ?_
    refine Rn.icmp_ne 28 k_42 rfl rfl (fun h2 => ?_) (fun h2 => ?_)
    · refine Rn.iload_n k_42 rfl rfl ?_
      refine Rn.iconst (2) k_42 rfl rfl ?_
      refine Rn.icmp_ne 40 k_42 rfl rfl (fun h3 => ?_) (fun h3 => ?_)
      · refine Rn.iconst (-1) k_42 rfl rfl ?_
        refine Rn.reti k_42 rfl q_42 rfl (rfl) ?_
        refine fin _ ?_
        rcases wt_of y with ⟨j, hj, rfl, hw⟩ | ⟨z1, z2, z3⟩
        · unfold cntW
          rw [hw]
          match j, h1, h2, h3 with
          | 0, h1, _, _ => exact absurd rfl h1
          | 1, _, h2, _ => exact absurd rfl h2
          | 2, _, _, h3 => exact absurd rfl h3
          | j + 3, _, _, _ => rfl
        · unfold cntW
          rw [z2]
          rfl
      · refine Rn.aload_n k_42 rfl rfl ?_
        refine Rn.getI k_42 rfl rfl (s604 L) ?_
        refine Rn.goto 41 k_42 rfl rfl ?_
        rw [hS'.2.2.2.1]
        refine Rn.reti k_42 rfl q_42 rfl (rfl) ?_
        exact fin _ (by rw [h3]; rfl)
    · refine Rn.aload_n k_42 rfl rfl ?_
      refine Rn.getI k_42 rfl rfl (s604 L) ?_
      refine Rn.goto 41 k_42 rfl rfl ?_
      rw [hS'.2.2.1.1]
      refine Rn.reti k_42 rfl q_42 rfl (rfl) ?_
      exact fin _ (by rw [h2]; rfl)
  · refine Rn.aload_n k_42 rfl rfl ?_
    refine Rn.getI k_42 rfl rfl (s604 L) ?_
    refine Rn.goto 41 k_42 rfl rfl ?_
    rw [hS'.2.1.1]
    refine Rn.reti k_42 rfl q_42 rfl (rfl) ?_
    exact fin _ (by rw [h1]; rfl)
set_option maxHeartbeats 1000000 in
theorem cm_test (hF : FRok F G fr) (hS : MFr fi x n A) (hA : AOk n A) {t y : Int32} : Rn (d + 3) 45 0 [some (.ref 604), some (.int t), some (.int y), none] [] (SH L, fi, fl, fr) (mqQ L fi fl fr (tstW A t y)) := by
  have h120 := hA.2.2.2.2.2.1
  have hn := hS.1.2
  have hS' := hS.keep0 hA
  rcases tno_of A (by omega) t with ⟨e1, e2⟩ | ⟨q, hq, rfl, e1, e2⟩
  · refine Rn.aload_n k_45 rfl rfl ?_
    refine Rn.iconst (0) k_45 rfl rfl ?_
    refine Rn.putI k_45 rfl (rfl) (s604 L) ?_
    refine Rn.aload_n k_45 rfl rfl ?_
    refine Rn.iload_n k_45 rfl rfl ?_
    refine Rn.cV2I k_45 rfl rfl q_37 rfl (Nat.le_of_ble_eq_true rfl) (Nat.le_of_ble_eq_true rfl) (s604 L) (cm_isTest hS'.2.2.2.1) ?_
    rw [e2]
    refine Rn.if_ne 15 k_45 rfl rfl (fun h1 => ?_) (fun h1 => ?_)
    · exact absurd rfl h1
    · refine Rn.iconst (-1) k_45 rfl rfl ?_
      refine Rn.reti k_45 rfl q_45 rfl (rfl) ?_
      exact ⟨by unfold tstW; rw [e1], _, rfl, up2_same _ _ _ _, k0⟩
  · obtain ⟨t1, t2, t3⟩ := tix_ok _ _ hq
    have hi4 : (tix A.2.1 q).1 < 40 := Nat.lt_of_lt_of_le t1 hA.2.2.2.1
    have hK := hS'.2.2.1.2 _ t1
    have hk := hA.k t1
    refine Rn.aload_n k_45 rfl rfl ?_
    refine Rn.iconst (0) k_45 rfl rfl ?_
    refine Rn.putI k_45 rfl (rfl) (s604 L) ?_
    refine Rn.aload_n k_45 rfl rfl ?_
    refine Rn.iload_n k_45 rfl rfl ?_
    refine Rn.cV2I k_45 rfl rfl q_37 rfl (Nat.le_of_ble_eq_true rfl) (Nat.le_of_ble_eq_true rfl) (s604 L) (cm_isTest hS'.2.2.2.1) ?_
    rw [e2]
    refine Rn.if_ne 15 k_45 rfl rfl (fun h1 => ?_) (fun h1 => ?_)
    · refine Rn.aload_n k_45 rfl rfl ?_
      refine Rn.getA k_45 rfl rfl (s604 L) (hF.l 55 rfl) ?_
      refine Rn.iload_n k_45 rfl rfl ?_
      refine Rn.iaload (q) k_45 rfl (s631 L) (rfl) (by omega) (by decide) ?_
      rw [(hS'.tw hq).1]
      refine Rn.istore_n3 k_45 rfl rfl ?_
      refine Rn.iload_n k_45 rfl rfl ?_
      have fin : ∀ v : Int32, tstW A (nI q) y = v → mqQ L fi fl fr (tstW A (nI q) y) (some (.int v)) (SH L, up2 fi 604 0 0, fl, fr) := fun v hv => ⟨by rw [hv], _, rfl, up2_same _ _ _ _, k0⟩
      have out : (y.toInt < 0 ∨ 8 < y.toInt) → tstW A (nI q) y = -1 → Rn (d + 3) 45 23 [some (.ref 604), some (.int (nI q)), some (.int y), some (.int (nI (tix A.2.1 q).1))] [.int y] (SH L, up2 fi 604 0 0, fl, fr) (mqQ L fi fl fr (tstW A (nI q) y)) := by
        intro h1 h2
        refine Rn.tswo 146 k_45 rfl (h1) rfl ?_
        refine Rn.iconst (-1) k_45 rfl rfl ?_
        refine Rn.reti k_45 rfl q_45 rfl (rfl) ?_
        exact fin _ h2
      rcases wt_of y with ⟨j, hj, rfl, hw⟩ | ⟨y1, y2, y3⟩
      · have ew : ∀ j', j = j' → tstW A (nI q) (nI j) = (match j' with
          | 0 => nI (tix A.2.1 q).1
          | 1 => nI (k_su (A.2.1.getD (tix A.2.1 q).1 dK)) - 1
          | 2 => nI (if k_sz (A.2.1.getD (tix A.2.1 q).1 dK) = 0 then 1 else k_sz (A.2.1.getD (tix A.2.1 q).1 dK))
          | 3 => bI (k_rs (A.2.1.getD (tix A.2.1 q).1 dK)).isSome
          | 4 => bI (k_fl (A.2.1.getD (tix A.2.1 q).1 dK))
          | 5 => nI (atg A.1 (A.2.1.getD (tix A.2.1 q).1 dK)).length
          | 6 => nI (k_ps (A.2.1.getD (tix A.2.1 q).1 dK)).length
          | 7 => nI (tnm A.1 (A.2.1.getD (tix A.2.1 q).1 dK) (tix A.2.1 q).2).length
          | 8 => nI (k_ln (A.2.1.getD (tix A.2.1 q).1 dK))
          | _ => -1) := by
          intro j' hj'
          subst hj'
          unfold tstW
          rw [e1, hw]
          rfl
        match j, hj, hw, out, fin, ew with
        | 0, _, _, _, fin, ew =>
          refine Rn.tsw 72 (0) k_45 rfl (by decide) (rfl) rfl ?_
          refine Rn.iload_n k_45 rfl rfl ?_
          refine Rn.reti k_45 rfl q_45 rfl (rfl) ?_
          exact fin _ (ew 0 rfl)
        | 1, _, _, _, fin, ew =>
          refine Rn.tsw 74 (1) k_45 rfl (by decide) (rfl) rfl ?_
          refine Rn.aload_n k_45 rfl rfl ?_
          refine Rn.getA k_45 rfl rfl (s604 L) (hF.l 38 rfl) ?_
          refine Rn.iload_n k_45 rfl rfl ?_
          refine Rn.iaload ((tix A.2.1 q).1) k_45 rfl (s614 L) (rfl) (hi4) (by decide) ?_
          rw [hK.1]
          refine Rn.reti k_45 rfl q_45 rfl (rfl) ?_
          exact fin _ (ew 1 rfl)
        | 2, _, _, _, fin, ew =>
          refine Rn.tsw 81 (2) k_45 rfl (by decide) (rfl) rfl ?_
          refine Rn.aload_n k_45 rfl rfl ?_
          refine Rn.iload_n k_45 rfl rfl ?_
          refine Rn.cV2I k_45 rfl rfl q_44 rfl (Nat.le_of_ble_eq_true rfl) (Nat.le_of_ble_eq_true rfl) (s604 L) (cm_sizeOf hF hi4 hK hk.2.2.2.1) ?_
          refine Rn.reti k_45 rfl q_45 rfl (rfl) ?_
          exact fin _ (ew 2 rfl)
        | 3, _, _, _, fin, ew =>
          refine Rn.tsw 87 (3) k_45 rfl (by decide) (rfl) rfl ?_
          refine Rn.aload_n k_45 rfl rfl ?_
          refine Rn.iload_n k_45 rfl rfl ?_
          refine Rn.cV2I k_45 rfl rfl q_43 rfl (Nat.le_of_ble_eq_true rfl) (Nat.le_of_ble_eq_true rfl) (s604 L) (cm_isSkipped hF hi4 hK hk hn) ?_
          refine Rn.if_eq 99 k_45 rfl rfl (fun h3 => ?_) (fun h3 => ?_)
          · (try rw [bI_0] at h3)
            (try rw [Bool.not_eq_false] at h3)
            refine Rn.iconst (0) k_45 rfl rfl ?_
            refine Rn.reti k_45 rfl q_45 rfl (rfl) ?_
            exact fin _ ((ew 3 rfl).trans (by show bI _ = _; rw [h3]; rfl))
          · (try rw [bI_0] at h3)
            (try rw [Bool.not_eq_false] at h3)
            refine Rn.iconst (1) k_45 rfl rfl ?_
            refine Rn.goto 100 k_45 rfl rfl ?_
            refine Rn.reti k_45 rfl q_45 rfl (rfl) ?_
            exact fin _ ((ew 3 rfl).trans (by show bI _ = _; rw [h3]; rfl))
        | 4, _, _, _, fin, ew =>
          refine Rn.tsw 101 (4) k_45 rfl (by decide) (rfl) rfl ?_
          refine Rn.aload_n k_45 rfl rfl ?_
          refine Rn.getA k_45 rfl rfl (s604 L) (hF.l 45 rfl) ?_
          refine Rn.iload_n k_45 rfl rfl ?_
          refine Rn.baload ((tix A.2.1 q).1) k_45 rfl (s621 L) (rfl) (hi4) (by decide) ?_
          rw [hK.2.2.2.2.2.2.1]
          refine Rn.if_eq 114 k_45 rfl rfl (fun h4 => ?_) (fun h4 => ?_)
          · (try rw [bI_0] at h4)
            (try rw [Bool.not_eq_false] at h4)
            refine Rn.iconst (0) k_45 rfl rfl ?_
            refine Rn.reti k_45 rfl q_45 rfl (rfl) ?_
            exact fin _ ((ew 4 rfl).trans (by show bI _ = _; rw [h4]; rfl))
          · (try rw [bI_0] at h4)
            (try rw [Bool.not_eq_false] at h4)
            refine Rn.iconst (1) k_45 rfl rfl ?_
            refine Rn.goto 115 k_45 rfl rfl ?_
            refine Rn.reti k_45 rfl q_45 rfl (rfl) ?_
            exact fin _ ((ew 4 rfl).trans (by show bI _ = _; rw [h4]; rfl))
        | 5, _, _, _, fin, ew =>
          refine Rn.tsw 116 (5) k_45 rfl (by decide) (rfl) rfl ?_
          refine Rn.aload_n k_45 rfl rfl ?_
          refine Rn.iload_n k_45 rfl rfl ?_
          refine Rn.cV2I k_45 rfl rfl q_25 rfl (Nat.le_of_ble_eq_true rfl) (Nat.le_of_ble_eq_true rfl) (s604 L) (cm_tagsOf hF hS'.2.1 hS'.2.2.1 hA t1) ?_
          refine Rn.reti k_45 rfl q_45 rfl (rfl) ?_
          exact fin _ (ew 5 rfl)
        | 6, _, _, _, fin, ew =>
          refine Rn.tsw 122 (6) k_45 rfl (by decide) (rfl) rfl ?_
          refine Rn.aload_n k_45 rfl rfl ?_
          refine Rn.getA k_45 rfl rfl (s604 L) (hF.l 49 rfl) ?_
          refine Rn.iload_n k_45 rfl rfl ?_
          refine Rn.iaload ((tix A.2.1 q).1) k_45 rfl (s625 L) (rfl) (hi4) (by decide) ?_
          rw [hK.2.2.2.2.2.2.2.2.2.1]
          refine Rn.reti k_45 rfl q_45 rfl (rfl) ?_
          exact fin _ (ew 6 rfl)
        | 7, _, _, _, fin, ew =>
          refine Rn.tsw 129 (7) k_45 rfl (by decide) (rfl) rfl ?_
          refine Rn.aload_n k_45 rfl rfl ?_
          refine Rn.iload_n k_45 rfl rfl ?_
          refine Rn.cV2 k_45 rfl rfl q_41 rfl (Nat.le_of_ble_eq_true rfl) (Nat.le_of_ble_eq_true rfl) (s604 L) (cm_writeName hF hS' hA hq) (fun v h' hq => ?_)
          obtain ⟨rfl, g1, rfl, n1, f1⟩ := hq
          show Rn _ _ _ _ [] _ _
          refine Rn.aload_n k_45 rfl rfl ?_
          refine Rn.getI k_45 rfl rfl (s604 L) ?_
          rw [n1.1]
          refine Rn.reti k_45 rfl q_45 rfl (rfl) ?_
          exact ⟨by rw [ew 7 rfl]; rfl, g1, rfl, (f1 604 0 ⟨Or.inr (by decide), by decide⟩).trans (up2_same _ _ _ _), fun a k ha hb => (f1 a k ha).trans (k0 a k ha hb)⟩
        | 8, _, _, _, fin, ew =>
          refine Rn.tsw 139 (8) k_45 rfl (by decide) (rfl) rfl ?_
          refine Rn.aload_n k_45 rfl rfl ?_
          refine Rn.getA k_45 rfl rfl (s604 L) (hF.l 41 rfl) ?_
          refine Rn.iload_n k_45 rfl rfl ?_
          refine Rn.iaload ((tix A.2.1 q).1) k_45 rfl (s617 L) (rfl) (hi4) (by decide) ?_
          rw [hK.2.2.1]
          refine Rn.reti k_45 rfl q_45 rfl (rfl) ?_
          exact fin _ (ew 8 rfl)
        | j + 9, hj, hw, out, _, ew => exact out (Or.inr (by rw [nI_toInt hj]; omega)) (ew (j + 9) rfl)
      · exact out (Or.inl y3) (by unfold tstW; rw [e1, y2]; rfl)
    · exact absurd h1 (by decide)
theorem cm_letter (hF : FRok F G fr) (hS : MFr fi x n A) (hA : AOk n A) {t y : Int32} : Rn (d + 3) 46 0 [some (.ref 604), some (.int t), some (.int y)] [] (SH L, fi, fl, fr) (mqQ L fi fl fr (ltrW A t y)) := by
  have h120 := hA.2.2.2.2.2.1
  have hS' := hS.keep0 hA
  have no : ltrW A t y = -1 → Rn (d + 3) 46 17 [some (.ref 604), some (.int t), some (.int y)] [] (SH L, up2 fi 604 0 0, fl, fr) (mqQ L fi fl fr (ltrW A t y)) := by
    intro e
    refine Rn.iconst (-1) k_46 rfl rfl ?_
    refine Rn.reti k_46 rfl q_46 rfl (rfl) ?_
    exact ⟨by rw [e], _, rfl, up2_same _ _ _ _, k0⟩
  rcases tno_of A (by omega) t with ⟨e1, e2⟩ | ⟨q, hq, rfl, e1, e2⟩
  · refine Rn.aload_n k_46 rfl rfl ?_
    refine Rn.iconst (0) k_46 rfl rfl ?_
    refine Rn.putI k_46 rfl (rfl) (s604 L) ?_
    refine Rn.aload_n k_46 rfl rfl ?_
    refine Rn.iload_n k_46 rfl rfl ?_
    refine Rn.cV2I k_46 rfl rfl q_37 rfl (Nat.le_of_ble_eq_true rfl) (Nat.le_of_ble_eq_true rfl) (s604 L) (cm_isTest hS'.2.2.2.1) ?_
    rw [e2]
    refine Rn.if_eq 17 k_46 rfl rfl (fun h1 => ?_) (fun h1 => ?_)
    · exact no (by unfold ltrW; rw [e1])
    · exact absurd rfl h1
  · obtain ⟨t1, t2, t3⟩ := tix_ok _ _ hq
    have hl := tnm_len hA t1 (tix A.2.1 q).2
    have el : ltrW A (nI q) y = (if y < 0 then -1 else if y.toNatClampNeg < (tnm A.1 (A.2.1.getD (tix A.2.1 q).1 dK) (tix A.2.1 q).2).length then nI ((tnm A.1 (A.2.1.getD (tix A.2.1 q).1 dK) (tix A.2.1 q).2).getD y.toNatClampNeg 0) else -1) := by
      unfold ltrW; rw [e1]
    refine Rn.aload_n k_46 rfl rfl ?_
    refine Rn.iconst (0) k_46 rfl rfl ?_
    refine Rn.putI k_46 rfl (rfl) (s604 L) ?_
    refine Rn.aload_n k_46 rfl rfl ?_
    refine Rn.iload_n k_46 rfl rfl ?_
    refine Rn.cV2I k_46 rfl rfl q_37 rfl (Nat.le_of_ble_eq_true rfl) (Nat.le_of_ble_eq_true rfl) (s604 L) (cm_isTest hS'.2.2.2.1) ?_
    rw [e2]
    refine Rn.if_eq 17 k_46 rfl rfl (fun h1 => ?_) (fun h1 => ?_)
    · exact absurd h1 (by decide)
    · refine Rn.iload_n k_46 rfl rfl ?_
      refine Rn.if_ge 19 k_46 rfl rfl (fun h2 => ?_) (fun h2 => ?_)
      · have h2' : ¬ y < 0 := fun z => by
          have := Int32.lt_iff_toInt_lt.mp z
          have := Int32.le_iff_toInt_le.mp h2
          omega
        obtain ⟨j, hj, rfl⟩ := nI_of h2'
        rw [if_neg h2', nI_clamp hj] at el
        refine Rn.aload_n k_46 rfl rfl ?_
        refine Rn.iload_n k_46 rfl rfl ?_
        refine Rn.cV2 k_46 rfl rfl q_41 rfl (Nat.le_of_ble_eq_true rfl) (Nat.le_of_ble_eq_true rfl) (s604 L) (cm_writeName hF hS' hA hq) (fun v h' hq => ?_)
        obtain ⟨rfl, g1, rfl, n1, f1⟩ := hq
        show Rn _ _ _ _ [] _ _
        generalize tnm A.1 (A.2.1.getD (tix A.2.1 q).1 dK) (tix A.2.1 q).2 = U at hl el n1
        have g0 : g1 604 0 = 0 := (f1 604 0 ⟨Or.inr (by decide), by decide⟩).trans (up2_same _ _ _ _)
        have gf : ∀ a k, mnF a k → (a ≠ 604 ∨ k ≠ 0) → g1 a k = fi a k := fun a k ha hb => (f1 a k ha).trans (k0 a k ha hb)
        refine Rn.iload_n k_46 rfl rfl ?_
        refine Rn.aload_n k_46 rfl rfl ?_
        refine Rn.getI k_46 rfl rfl (s604 L) ?_
        rw [n1.1]
        refine Rn.icmp_ge 41 k_46 rfl rfl (fun h3 => ?_) (fun h3 => ?_)
        · rw [nI_leI (by omega) (by omega)] at h3
          refine Rn.iconst (-1) k_46 rfl rfl ?_
          refine Rn.reti k_46 rfl q_46 rfl (rfl) ?_
          exact ⟨by rw [el, if_neg (by omega)], g1, rfl, g0, gf⟩
        · rw [nI_leI (by omega) (by omega)] at h3
          refine Rn.aload_n k_46 rfl rfl ?_
          refine Rn.getA k_46 rfl rfl (s604 L) (hF.l 57 rfl) ?_
          refine Rn.iload_n k_46 rfl rfl ?_
          refine Rn.iaload (j) k_46 rfl (s633 L) (rfl) (by omega) (by decide) ?_
          refine Rn.goto 42 k_46 rfl rfl ?_
          rw [n1.2 j (by omega)]
          refine Rn.reti k_46 rfl q_46 rfl (rfl) ?_
          exact ⟨by rw [el, if_pos (by omega)], g1, rfl, g0, gf⟩
      · refine no ?_
        rw [el, if_pos]
        exact Int32.lt_iff_toInt_lt.mpr (Int.not_le.mp (fun z => h2 (Int32.le_iff_toInt_le.mpr z)))
end MQ
