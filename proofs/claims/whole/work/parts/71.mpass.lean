/-! THE REFERENCE: holds, isThrough, passes, passing -/
def mhQ (L : Nat) (fi : Nat → Nat → Int32) (fl : Nat → Nat → Int64) (fr : Nat → Nat → Option Nat) (b : Bool) : Option Value → am_H → Prop := fun v h' => v = some (.int (bI b)) ∧ ∃ fi', h' = (SH L, fi', fl, fr) ∧ ∀ a k, a ≠ 647 → fi' a k = fi a k
section MI
variable {d L : Nat} {fi : Nat → Nat → Int32} {fl : Nat → Nat → Int64} {fr : Nat → Nat → Option Nat} {F G : Nat} {x y : Nat → Nat} {n m : Nat} {A : AS} {S : List FS}
set_option maxHeartbeats 2000000 in
theorem cm_holds (hF : FRok F G fr) (hS : MFr fi x n A) (hA : AOk n A) (hV : MSv fi y m) {t j : Nat} (ht : t < totW A.2.1) (hj : j < 121) {s : FS} (hc : fi 635 j = nI (fcd s.1)) (hL : SL fi y m 636 637 j s.2.1) (hL2 : s.1 ≠ 60 → SL fi y m 638 639 j s.2.2) (hL3 : s.1 = 60 → fi 638 j = nI (s.2.2.getD 0 0 - 48)) (hso : fsok s) (hop : ¬ isOp s.1) : Rn (d + 2) 68 0 [some (.ref 604), some (.int (nI t)), some (.int (nI j)), none, none] [] (SH L, fi, fl, fr) (Ret (SH L, fi, fl, fr) (some (.int (bI (atm A.1 (A.2.1.getD (tix A.2.1 t).1 dK) (tix A.2.1 t).2 s))))) := by
  have h120 := hA.2.2.2.2.2.1
  have h10 := hA.1
  have hn := hS.1.2
  obtain ⟨t1, t2, t3⟩ := tix_ok A.2.1 t ht
  obtain ⟨u1, u2⟩ := hS.tw ht
  have hi4 : (tix A.2.1 t).1 < 40 := Nat.lt_of_lt_of_le t1 hA.2.2.2.1
  have hk := hA.k t1
  have hK := hS.2.2.1.2 _ t1
  have hTg := cm_hasTag (d := d) (L := L) (fl := fl) (nm := s.2.1) hF hS hA hV t1 hj hL
  have hVl := fun z => cm_hasValue (d := d) (L := L) (fl := fl) (nm := s.2.1) (vl := s.2.2) hF hS hA hV ht hj hL (hL2 z)
  have h63 := hso.2.2.1
  have hdg := hso.2.2.2
  unfold isOp at hop
  unfold fkd at h63
  generalize A.2.1.getD (tix A.2.1 t).1 dK = k at hk hK hTg hVl ⊢
  generalize (tix A.2.1 t).1 = i at u1 hi4 hK hTg
  generalize (tix A.2.1 t).2 = w at u2 hVl ⊢
  obtain ⟨c, e, l1, l2, l3, l4, l5⟩ := hL
  have hT := hS.1
  refine Rn.aload_n k_68 rfl rfl ?_
  refine Rn.getA k_68 rfl rfl (s604 L) (hF.l 55 rfl) ?_
  refine Rn.iload_n k_68 rfl rfl ?_
  refine Rn.iaload (t) k_68 rfl (s631 L) (rfl) (by omega) (by decide) ?_
  rw [u1]
  refine Rn.istore_n3 k_68 rfl rfl ?_
  refine Rn.aload_n k_68 rfl rfl ?_
  refine Rn.getA k_68 rfl rfl (s604 L) (hF.l 38 rfl) ?_
  refine Rn.iload_n k_68 rfl rfl ?_
  refine Rn.iaload (i) k_68 rfl (s614 L) (rfl) (hi4) (by decide) ?_
  rw [hK.1]
  refine Rn.istore4 k_68 rfl rfl ?_
  refine Rn.aload_n k_68 rfl rfl ?_
  refine Rn.getA k_68 rfl rfl (s604 L) (hF.l 59 rfl) ?_
  refine Rn.iload_n k_68 rfl rfl ?_
  refine Rn.iaload (j) k_68 rfl (s635 L) (rfl) (hj) (by decide) ?_
  rw [hc]
  have hcs : s.1 = 35 ∨ s.1 = 64 ∨ s.1 = 61 ∨ s.1 = 58 ∨ s.1 = 60 ∨ s.1 = 63 ∨ s.1 = 126 := by clear hdg; omega
  rcases hcs with h0 | h0 | h0 | h0 | h0 | h0 | h0
  · have ea : atm A.1 k w s = decide (s.2.1 ∈ atg A.1 k) := by unfold atm; rw [if_pos h0]
    rw [ea, show fcd s.1 = 1 by rw [h0]; rfl]
    refine Rn.tsw 60 (1) k_68 rfl (by decide) (rfl) rfl ?_
    refine Rn.aload_n k_68 rfl rfl ?_
    refine Rn.iload_n k_68 rfl rfl ?_
    refine Rn.iload_n k_68 rfl rfl ?_
    refine Rn.cV3I k_68 rfl rfl q_66 rfl (Nat.le_of_ble_eq_true rfl) (Nat.le_of_ble_eq_true rfl) (s604 L) (hTg) ?_
    refine Rn.reti k_68 rfl q_68 rfl (bI_fit _) ?_
    exact ⟨rfl, rfl⟩
  · have ea : atm A.1 k w s = decide (k_su k ≠ 0 ∧ snm A.1 (k_su k) = s.2.1) := by unfold atm; rw [h0, if_neg (by decide), if_pos rfl]
    rw [ea, show fcd s.1 = 2 by rw [h0]; rfl]
    have hsu := hk.1
    refine Rn.tsw 67 (2) k_68 rfl (by decide) (rfl) rfl ?_
    refine Rn.iload k_68 rfl rfl ?_
    have no : ¬ (k_su k ≠ 0 ∧ snm A.1 (k_su k) = s.2.1) → ∀ o4, Rn (d + 2) 68 109 [some (.ref 604), some (.int (nI t)), some (.int (nI j)), some (.int (nI i)), o4] [] (SH L, fi, fl, fr) (Ret (SH L, fi, fl, fr) (some (.int (bI (decide (k_su k ≠ 0 ∧ snm A.1 (k_su k) = s.2.1)))))) := by
      intro z o4
      refine Rn.iconst (0) k_68 rfl rfl ?_
      refine Rn.reti k_68 rfl q_68 rfl (rfl) ?_
      rw [decide_eq_false z]
      exact ⟨rfl, rfl⟩
    by_cases hz : k_su k = 0
    · refine Rn.if_lt 109 k_68 rfl rfl (fun h1 => ?_) (fun h1 => ?_)
      · exact no (fun z => z.1 hz) _
      · rw [hz] at h1
        exact absurd (by decide) h1
    · obtain ⟨⟨a, b, v1, v2, v3, v4, v5⟩, -⟩ := hS.2.1.2 (k_su k - 1) (by omega)
      rw [← snm_at hz] at v5
      rw [c_sub 1 1 rfl (by omega)]
      refine Rn.if_lt 109 k_68 rfl rfl (fun h1 => ?_) (fun h1 => ?_)
      · exact absurd h1 (c_neg (by omega))
      · refine Rn.aload_n k_68 rfl rfl ?_
        refine Rn.aload_n k_68 rfl rfl ?_
        refine Rn.getA k_68 rfl rfl (s604 L) (hF.l 33 rfl) ?_
        refine Rn.iload k_68 rfl rfl ?_
        refine Rn.iaload (k_su k - 1) k_68 rfl (s609 L) (rfl) (by omega) (by decide) ?_
        refine Rn.aload_n k_68 rfl rfl ?_
        refine Rn.getA k_68 rfl rfl (s604 L) (hF.l 34 rfl) ?_
        refine Rn.iload k_68 rfl rfl ?_
        refine Rn.iaload (k_su k - 1) k_68 rfl (s610 L) (rfl) (by omega) (by decide) ?_
        refine Rn.aload_n k_68 rfl rfl ?_
        refine Rn.getA k_68 rfl rfl (s604 L) (hF.l 60 rfl) ?_
        refine Rn.iload_n k_68 rfl rfl ?_
        refine Rn.iaload (j) k_68 rfl (s636 L) (rfl) (hj) (by decide) ?_
        refine Rn.aload_n k_68 rfl rfl ?_
        refine Rn.getA k_68 rfl rfl (s604 L) (hF.l 61 rfl) ?_
        refine Rn.iload_n k_68 rfl rfl ?_
        refine Rn.iaload (j) k_68 rfl (s637 L) (rfl) (hj) (by decide) ?_
        rw [v1, v2, l1, l2]
        refine Rn.cV5I k_68 rfl rfl q_65 rfl (Nat.le_of_ble_eq_true rfl) (Nat.le_of_ble_eq_true rfl) (s604 L) (cm_isWord hF hT hV v3 v4 l3 l4) ?_
        rw [v5, l5]
        refine Rn.if_eq 109 k_68 rfl rfl (fun h2 => ?_) (fun h2 => ?_)
        · (try rw [bI_0] at h2)
          (try rw [Bool.not_eq_false] at h2)
          exact no (fun z => of_decide_eq_false h2 z.2) _
        · (try rw [bI_0] at h2)
          (try rw [Bool.not_eq_false] at h2)
          refine Rn.iconst (1) k_68 rfl rfl ?_
          refine Rn.goto 110 k_68 rfl rfl ?_
          refine Rn.reti k_68 rfl q_68 rfl (rfl) ?_
          rw [decide_eq_true (show k_su k ≠ 0 ∧ snm A.1 (k_su k) = s.2.1 from ⟨hz, of_decide_eq_true h2⟩)]
          exact ⟨rfl, rfl⟩
  · have ea : atm A.1 k w s = decide (k_nm k = s.2.1) := by unfold atm; rw [h0, if_neg (by decide), if_neg (by decide), if_pos rfl]
    rw [ea, show fcd s.1 = 3 by rw [h0]; rfl]
    obtain ⟨a, b, v1, v2, v3, v4, v5⟩ := hK.2.1
    refine Rn.tsw 111 (3) k_68 rfl (by decide) (rfl) rfl ?_
    refine Rn.aload_n k_68 rfl rfl ?_
    refine Rn.aload_n k_68 rfl rfl ?_
    refine Rn.getA k_68 rfl rfl (s604 L) (hF.l 39 rfl) ?_
    refine Rn.iload_n k_68 rfl rfl ?_
    refine Rn.iaload (i) k_68 rfl (s615 L) (rfl) (hi4) (by decide) ?_
    refine Rn.aload_n k_68 rfl rfl ?_
    refine Rn.getA k_68 rfl rfl (s604 L) (hF.l 40 rfl) ?_
    refine Rn.iload_n k_68 rfl rfl ?_
    refine Rn.iaload (i) k_68 rfl (s616 L) (rfl) (hi4) (by decide) ?_
    refine Rn.aload_n k_68 rfl rfl ?_
    refine Rn.getA k_68 rfl rfl (s604 L) (hF.l 60 rfl) ?_
    refine Rn.iload_n k_68 rfl rfl ?_
    refine Rn.iaload (j) k_68 rfl (s636 L) (rfl) (hj) (by decide) ?_
    refine Rn.aload_n k_68 rfl rfl ?_
    refine Rn.getA k_68 rfl rfl (s604 L) (hF.l 61 rfl) ?_
    refine Rn.iload_n k_68 rfl rfl ?_
    refine Rn.iaload (j) k_68 rfl (s637 L) (rfl) (hj) (by decide) ?_
    rw [v1, v2, l1, l2]
    refine Rn.cV5I k_68 rfl rfl q_65 rfl (Nat.le_of_ble_eq_true rfl) (Nat.le_of_ble_eq_true rfl) (s604 L) (cm_isWord hF hT hV v3 v4 l3 l4) ?_
    rw [v5, l5]
    refine Rn.reti k_68 rfl q_68 rfl (bI_fit _) ?_
    exact ⟨rfl, rfl⟩
  · have ea : atm A.1 k w s = (List.range (k_ps k).length).any (fun p => decide (((k_ps k).getD p ([], [])).1 = s.2.1 ∧ vsel (k_ps k) w p = s.2.2)) := by
      unfold atm
      rw [h0, if_neg (by decide), if_neg (by decide), if_neg (by decide), if_pos rfl]
    rw [ea, show fcd s.1 = 4 by rw [h0]; rfl]
    refine Rn.tsw 140 (4) k_68 rfl (by decide) (rfl) rfl ?_
    refine Rn.aload_n k_68 rfl rfl ?_
    refine Rn.iload_n k_68 rfl rfl ?_
    refine Rn.iload_n k_68 rfl rfl ?_
    refine Rn.cV3I k_68 rfl rfl q_67 rfl (Nat.le_of_ble_eq_true rfl) (Nat.le_of_ble_eq_true rfl) (s604 L) (hVl (by omega)) ?_
    refine Rn.reti k_68 rfl q_68 rfl (bI_fit _) ?_
    exact ⟨rfl, rfl⟩
  · have ea : atm A.1 k w s = decide ((if k_sz k = 0 then 1 else k_sz k) < s.2.2.getD 0 0 - 48) := by
      unfold atm
      rw [h0, if_neg (by decide), if_neg (by decide), if_neg (by decide), if_neg (by decide), if_pos rfl]
    rw [ea, show fcd s.1 = 5 by rw [h0]; rfl]
    have h9 := hk.2.2.2.1
    obtain ⟨c', w1, w2, w3⟩ := hdg h0
    have hd9 : s.2.2.getD 0 0 - 48 ≤ 9 := by rw [w1]; show c' - 48 ≤ 9; omega
    have hs9 : (if k_sz k = 0 then 1 else k_sz k) ≤ 9 := by split <;> omega
    refine Rn.tsw 147 (5) k_68 rfl (by decide) (rfl) rfl ?_
    refine Rn.aload_n k_68 rfl rfl ?_
    refine Rn.iload_n k_68 rfl rfl ?_
    refine Rn.cV2I k_68 rfl rfl q_44 rfl (Nat.le_of_ble_eq_true rfl) (Nat.le_of_ble_eq_true rfl) (s604 L) (cm_sizeOf hF hi4 hK h9) ?_
    refine Rn.aload_n k_68 rfl rfl ?_
    refine Rn.getA k_68 rfl rfl (s604 L) (hF.l 62 rfl) ?_
    refine Rn.iload_n k_68 rfl rfl ?_
    refine Rn.iaload (j) k_68 rfl (s638 L) (rfl) (hj) (by decide) ?_
    rw [hL3 h0]
    generalize (if k_sz k = 0 then 1 else k_sz k) = z at hs9 ⊢
    generalize s.2.2.getD 0 0 - 48 = z' at hd9 ⊢
    refine Rn.icmp_ge 165 k_68 rfl rfl (fun h3 => ?_) (fun h3 => ?_)
    · rw [nI_leI (by omega) (by omega)] at h3
      refine Rn.iconst (0) k_68 rfl rfl ?_
      refine Rn.reti k_68 rfl q_68 rfl (rfl) ?_
      rw [decide_eq_false (by omega)]
      exact ⟨rfl, rfl⟩
    · rw [nI_leI (by omega) (by omega)] at h3
      refine Rn.iconst (1) k_68 rfl rfl ?_
      refine Rn.goto 166 k_68 rfl rfl ?_
      refine Rn.reti k_68 rfl q_68 rfl (rfl) ?_
      rw [decide_eq_true (by omega)]
      exact ⟨rfl, rfl⟩
  · have ea : atm A.1 k w s = (k_rs k).isSome := by
      unfold atm
      rw [h0, if_neg (by decide), if_neg (by decide), if_neg (by decide), if_neg (by decide), if_neg (by decide), if_pos rfl]
    rw [ea, show fcd s.1 = 6 by rw [h0]; rfl]
    refine Rn.tsw 167 (6) k_68 rfl (by decide) (rfl) rfl ?_
    refine Rn.aload_n k_68 rfl rfl ?_
    refine Rn.iload_n k_68 rfl rfl ?_
    refine Rn.cV2I k_68 rfl rfl q_43 rfl (Nat.le_of_ble_eq_true rfl) (Nat.le_of_ble_eq_true rfl) (s604 L) (cm_isSkipped hF hi4 hK hk hn) ?_
    refine Rn.reti k_68 rfl q_68 rfl (bI_fit _) ?_
    exact ⟨rfl, rfl⟩
  · have ea : atm A.1 k w s = k_fl k := by
      unfold atm
      rw [h0, if_neg (by decide), if_neg (by decide), if_neg (by decide), if_neg (by decide), if_neg (by decide), if_neg (by decide)]
    rw [ea, show fcd s.1 = 7 by rw [h0]; rfl]
    refine Rn.tsw 173 (7) k_68 rfl (by decide) (rfl) rfl ?_
    refine Rn.aload_n k_68 rfl rfl ?_
    refine Rn.getA k_68 rfl rfl (s604 L) (hF.l 45 rfl) ?_
    refine Rn.iload_n k_68 rfl rfl ?_
    refine Rn.baload (i) k_68 rfl (s621 L) (rfl) (hi4) (by decide) ?_
    rw [hK.2.2.2.2.2.2.1]
    refine Rn.reti k_68 rfl q_68 rfl (bI_fit _) ?_
    exact ⟨rfl, rfl⟩
theorem MFr.keep7 {fi' : Nat → Nat → Int32} (hA : AOk n A) (h : MFr fi x n A) (e : ∀ a k, a ≠ 647 → fi' a k = fi a k) : MFr fi' x n A := h.keep hA (fun a k z => e a k (by omega)) (fun k _ => e 604 k (by decide))
set_option maxHeartbeats 2000000 in
theorem cm_isThrough (hF : FRok F G fr) (hS : MFr fi x n A) (hA : AOk n A) (hV : MSv fi y m) (h40 : fi 604 40 = nI S.length) (hM : MSt fi y m 635 S) (hl : S.length ≤ 120) (hok : sOk S 1) {t : Nat} (ht : t < totW A.2.1) : Rn (d + 3) 69 0 [some (.ref 604), some (.int (nI t)), none, none] [] (SH L, fi, fl, fr) (mhQ L fi fl fr (psW A S t)) := by
  unfold psW
  have eth : thr (atm A.1 (A.2.1.getD (tix A.2.1 t).1 dK) (tix A.2.1 t).2) S = (evs (atm A.1 (A.2.1.getD (tix A.2.1 t).1 dK) (tix A.2.1 t).2) S []).getD 0 true := by
    cases S with
    | nil => cases hok.1
    | cons s S => rfl
  rw [eth]
  have loop : ∀ (p j : Nat) (st : List Bool) (gi : Nat → Nat → Int32), j + p = S.length → dps (S.drop j) st.length = some 1 → st.length ≤ j → ANr gi 647 st → (∀ a k, a ≠ 647 → gi a k = fi a k) → evs (atm A.1 (A.2.1.getD (tix A.2.1 t).1 dK) (tix A.2.1 t).2) S [] = evs (atm A.1 (A.2.1.getD (tix A.2.1 t).1 dK) (tix A.2.1 t).2) (S.drop j) st → Rn (d + 3) 69 4 [some (.ref 604), some (.int (nI t)), some (.int (nI st.length)), some (.int (nI j))] [] (SH L, gi, fl, fr) (mhQ L fi fl fr ((evs (atm A.1 (A.2.1.getD (tix A.2.1 t).1 dK) (tix A.2.1 t).2) S []).getD 0 true)) := by
    intro p
    induction p with
    | zero =>
      intro j st gi hj hd hst hN hg he
      rw [List.drop_eq_nil_of_le (by omega)] at hd he
      have hd : st.length = 1 := Option.some.inj (show some st.length = some 1 from hd)
      match st, hd, hN, he with
      | [b], _, hN, he =>
        have he : evs (atm A.1 (A.2.1.getD (tix A.2.1 t).1 dK) (tix A.2.1 t).2) S [] = [b] := he
        rw [he]
        have hb : gi 647 0 = bI b := hN.top
        refine Rn.iload_n k_69 rfl rfl ?_
        refine Rn.aload_n k_69 rfl rfl ?_
        refine Rn.getI k_69 rfl rfl (s604 L) ?_
        rw [hg 604 40 (by decide), h40]
        refine Rn.icmp_ge 171 k_69 rfl rfl (fun h1 => ?_) (fun h1 => ?_)
        · refine Rn.aload_n k_69 rfl rfl ?_
          refine Rn.getA k_69 rfl rfl (s604 L) (hF.l 71 rfl) ?_
          refine Rn.iconst (0) k_69 rfl rfl ?_
          refine Rn.baload (0) k_69 rfl (s647 L) (rfl) (by omega) (by decide) ?_
          rw [hb]
          refine Rn.reti k_69 rfl q_69 rfl (bI_fit _) ?_
          exact ⟨rfl, gi, rfl, hg⟩
        · rw [nI_leI (by omega) (by omega)] at h1
          omega
    | succ p ih =>
      intro j st gi hj hd hst hN hg he
      have hS' : MFr gi x n A := hS.keep7 hA hg
      have hjl : j < S.length := by omega
      have ed : S.drop j = S.getD j dF :: S.drop (j + 1) := by
        rw [List.drop_eq_getElem_cons hjl, List.getD_eq_getElem?_getD, List.getElem?_eq_getElem hjl]
        rfl
      have hso : fsok (S.getD j dF) := hok.2 _ (gD_mem hjl)
      rw [ed] at hd he
      obtain ⟨d1, d2, d3, d4⟩ := est_len (at' := atm A.1 (A.2.1.getD (tix A.2.1 t).1 dK) (tix A.2.1 t).2) hd
      have he : evs (atm A.1 (A.2.1.getD (tix A.2.1 t).1 dK) (tix A.2.1 t).2) S [] = evs (atm A.1 (A.2.1.getD (tix A.2.1 t).1 dK) (tix A.2.1 t).2) (S.drop (j + 1)) (est (atm A.1 (A.2.1.getD (tix A.2.1 t).1 dK) (tix A.2.1 t).2) (S.getD j dF) st) := he
      have hMg : MSt gi y m 635 S := hM.keep (fun a j z1 z2 _ => hg a j (by omega))
      have hVg : MSv gi y m := ⟨hV.1, fun k hk => by rw [hg _ _ (by decide)]; exact hV.2 k hk⟩
      obtain ⟨m1, m2, m3, m4⟩ := hMg j hjl
      have hat := fun hop => cm_holds (d := d) (L := L) (fl := fl) hF hS' hA hVg ht (show j < 121 by omega) m1 m2 m3 m4 hso hop
      have hk3 := hso.2.2.1
      generalize S.getD j dF = s at m1 hso hk3 d1 d2 d3 d4 he hat
      generalize atm A.1 (A.2.1.getD (tix A.2.1 t).1 dK) (tix A.2.1 t).2 = at' at d1 d4 he hat ih ⊢
      unfold fkd at hk3
      have hfc : fcd s.1 < 128 ∧ (fcd s.1 = 33 ↔ s.1 = 33) ∧ (fcd s.1 = 38 ↔ s.1 = 38) ∧ (fcd s.1 = 124 ↔ s.1 = 124) := by
        rcases hk3 with z | z | z | z | z | z | z | z | z | z <;> rw [z] <;> decide
      obtain ⟨c128, c33, c38, c124⟩ := hfc
      have back : ∀ (st' : List Bool) (gi' : Nat → Nat → Int32), st' = est at' s st → ANr gi' 647 st' → (∀ a k, a ≠ 647 → gi' a k = fi a k) → Rn (d + 3) 69 165 [some (.ref 604), some (.int (nI t)), some (.int (nI st'.length)), some (.int (nI j))] [] (SH L, gi', fl, fr) (mhQ L fi fl fr ((evs at' S []).getD 0 true)) := by
        intro st' gi' e1 e2 e3
        rw [← e1] at d1 d4 he
        refine Rn.iinc3 (1) k_69 rfl rfl rfl ?_
        rw [c_add 1 1 rfl]
        refine Rn.goto 4 k_69 rfl rfl ?_
        exact ih (j + 1) st' gi' (by omega) d1 (by omega) e2 e3 he
      refine Rn.iload_n k_69 rfl rfl ?_
      refine Rn.aload_n k_69 rfl rfl ?_
      refine Rn.getI k_69 rfl rfl (s604 L) ?_
      rw [hg 604 40 (by decide), h40]
      refine Rn.icmp_ge 171 k_69 rfl rfl (fun h1 => ?_) (fun h1 => ?_)
      · rw [nI_leI (by omega) (by omega)] at h1
        omega
      · refine Rn.aload_n k_69 rfl rfl ?_
        refine Rn.getA k_69 rfl rfl (s604 L) (hF.l 59 rfl) ?_
        refine Rn.iload_n k_69 rfl rfl ?_
        refine Rn.iaload (j) k_69 rfl (s635 L) (rfl) (by omega) (by decide) ?_
        rw [m1]
        refine Rn.bipush (33) k_69 rfl rfl ?_
        refine Rn.icmp_ne 50 k_69 rfl rfl (fun h2 => ?_) (fun h2 => ?_)
        · rw [c_eq 33 33 rfl (by omega) (by decide)] at h2
          have h2 : ¬ s.1 = 33 := fun z => h2 (c33.mpr z)
          refine Rn.aload_n k_69 rfl rfl ?_
          refine Rn.getA k_69 rfl rfl (s604 L) (hF.l 59 rfl) ?_
          refine Rn.iload_n k_69 rfl rfl ?_
          refine Rn.iaload (j) k_69 rfl (s635 L) (rfl) (by omega) (by decide) ?_
          rw [m1]
          refine Rn.bipush (38) k_69 rfl rfl ?_
          have join : (s.1 = 38 ∨ s.1 = 124) → Rn (d + 3) 69 72 [some (.ref 604), some (.int (nI t)), some (.int (nI st.length)), some (.int (nI j))] [] (SH L, gi, fl, fr) (mhQ L fi fl fr ((evs at' S []).getD 0 true)) := by
            intro hc
            have h2l := d3 hc
            match st, h2l, hN, hst, back with
            | [b], h2l, _, _, _ => exact absurd h2l (by simp)
            | b :: a :: st, _, hN, hst, back =>
              have hst : st.length + 2 ≤ j := hst
              have eq : est at' s (b :: a :: st) = (if s.1 = 38 then a && b else a || b) :: st := by
                unfold est
                rw [if_neg h2, if_pos hc]
              have ga : gi 647 st.length = bI a := hN.pop.top
              have gb : gi 647 (st.length + 1) = bI b := hN.top
              refine Rn.iinc2 (-1) k_69 rfl rfl rfl ?_
              rw [show nI (b :: a :: st).length + (-1) = nI (st.length + 1) from pk_m1 (st.length + 1)]
              refine Rn.aload_n k_69 rfl rfl ?_
              refine Rn.getA k_69 rfl rfl (s604 L) (hF.l 71 rfl) ?_
              refine Rn.iload_n k_69 rfl rfl ?_
              refine Rn.iconst (1) k_69 rfl rfl ?_
              refine Rn.isub k_69 rfl ?_
              rw [show nI (st.length + 1) - 1 = nI st.length from nI_pred st.length]
              refine Rn.aload_n k_69 rfl rfl ?_
              refine Rn.getA k_69 rfl rfl (s604 L) (hF.l 59 rfl) ?_
              refine Rn.iload_n k_69 rfl rfl ?_
              refine Rn.iaload (j) k_69 rfl (s635 L) (rfl) (by omega) (by decide) ?_
              rw [m1]
              have fin : ∀ c : Bool, c = (if s.1 = 38 then a && b else a || b) → Rn (d + 3) 69 146 [some (.ref 604), some (.int (nI t)), some (.int (nI (st.length + 1))), some (.int (nI j))] [.int (bI c), .int (nI st.length), .ref 647] (SH L, gi, fl, fr) (mhQ L fi fl fr ((evs at' S []).getD 0 true)) := by
                intro c hc'
                refine Rn.bastore (st.length) k_69 rfl (s647 L) (rfl) (by omega) (by decide) (bI_fit _) ?_
                refine Rn.goto 165 k_69 rfl rfl ?_
                rw [← hc'] at eq
                have := back (c :: st) _ eq.symm (hN.pop.set (b := c)) (fun a k ha => by rw [up2_row _ _ ha]; exact hg a k ha)
                rw [List.length_cons] at this
                exact this
              refine Rn.bipush (38) k_69 rfl rfl ?_
              refine Rn.icmp_ne 121 k_69 rfl rfl (fun h6 => ?_) (fun h6 => ?_)
              · rw [c_eq 38 38 rfl (by omega) (by decide)] at h6
                have h6 : ¬ s.1 = 38 := fun z => h6 (c38.mpr z)
                rw [if_neg h6] at fin
                refine Rn.aload_n k_69 rfl rfl ?_
                refine Rn.getA k_69 rfl rfl (s604 L) (hF.l 71 rfl) ?_
                refine Rn.iload_n k_69 rfl rfl ?_
                refine Rn.iconst (1) k_69 rfl rfl ?_
                refine Rn.isub k_69 rfl ?_
                rw [show nI (st.length + 1) - 1 = nI st.length from nI_pred st.length]
                refine Rn.baload (st.length) k_69 rfl (s647 L) (rfl) (by omega) (by decide) ?_
                rw [ga]
                refine Rn.if_ne 141 k_69 rfl rfl (fun h9 => ?_) (fun h9 => ?_)
                · (try rw [bI_0] at h9)
                  (try rw [Bool.not_eq_false] at h9)
                  refine Rn.iconst (1) k_69 rfl rfl ?_
                  refine Rn.goto 146 k_69 rfl rfl ?_
                  exact fin true (by rw [h9]; rfl)
                · (try rw [bI_0] at h9)
                  (try rw [Bool.not_eq_false] at h9)
                  refine Rn.aload_n k_69 rfl rfl ?_
                  refine Rn.getA k_69 rfl rfl (s604 L) (hF.l 71 rfl) ?_
                  refine Rn.iload_n k_69 rfl rfl ?_
                  refine Rn.baload (st.length + 1) k_69 rfl (s647 L) (rfl) (by omega) (by decide) ?_
                  rw [gb]
                  refine Rn.if_eq 145 k_69 rfl rfl (fun h10 => ?_) (fun h10 => ?_)
                  · (try rw [bI_0] at h10)
                    (try rw [Bool.not_eq_false] at h10)
                    refine Rn.iconst (0) k_69 rfl rfl ?_
                    exact fin false (by rw [h9, h10]; rfl)
                  · (try rw [bI_0] at h10)
                    (try rw [Bool.not_eq_false] at h10)
                    refine Rn.iconst (1) k_69 rfl rfl ?_
                    refine Rn.goto 146 k_69 rfl rfl ?_
                    exact fin true (by rw [h9, h10]; rfl)
              · rw [c_eq 38 38 rfl (by omega) (by decide)] at h6
                have h6 : s.1 = 38 := c38.mp h6
                rw [if_pos h6] at fin
                refine Rn.aload_n k_69 rfl rfl ?_
                refine Rn.getA k_69 rfl rfl (s604 L) (hF.l 71 rfl) ?_
                refine Rn.iload_n k_69 rfl rfl ?_
                refine Rn.iconst (1) k_69 rfl rfl ?_
                refine Rn.isub k_69 rfl ?_
                rw [show nI (st.length + 1) - 1 = nI st.length from nI_pred st.length]
                refine Rn.baload (st.length) k_69 rfl (s647 L) (rfl) (by omega) (by decide) ?_
                rw [ga]
                refine Rn.if_eq 117 k_69 rfl rfl (fun h7 => ?_) (fun h7 => ?_)
                · (try rw [bI_0] at h7)
                  (try rw [Bool.not_eq_false] at h7)
                  refine Rn.iconst (0) k_69 rfl rfl ?_
                  refine Rn.goto 146 k_69 rfl rfl ?_
                  exact fin false (by rw [h7]; rfl)
                · (try rw [bI_0] at h7)
                  (try rw [Bool.not_eq_false] at h7)
                  refine Rn.aload_n k_69 rfl rfl ?_
                  refine Rn.getA k_69 rfl rfl (s604 L) (hF.l 71 rfl) ?_
                  refine Rn.iload_n k_69 rfl rfl ?_
                  refine Rn.baload (st.length + 1) k_69 rfl (s647 L) (rfl) (by omega) (by decide) ?_
                  rw [gb]
                  refine Rn.if_eq 117 k_69 rfl rfl (fun h8 => ?_) (fun h8 => ?_)
                  · (try rw [bI_0] at h8)
                    (try rw [Bool.not_eq_false] at h8)
                    refine Rn.iconst (0) k_69 rfl rfl ?_
                    refine Rn.goto 146 k_69 rfl rfl ?_
                    exact fin false (by rw [h7, h8]; rfl)
                  · (try rw [bI_0] at h8)
                    (try rw [Bool.not_eq_false] at h8)
                    refine Rn.iconst (1) k_69 rfl rfl ?_
                    refine Rn.goto 146 k_69 rfl rfl ?_
                    exact fin true (by rw [h7, h8]; rfl)
          refine Rn.icmp_eq 72 k_69 rfl rfl (fun h4 => ?_) (fun h4 => ?_)
          · rw [c_eq 38 38 rfl (by omega) (by decide)] at h4
            exact join (Or.inl (c38.mp h4))
          · rw [c_eq 38 38 rfl (by omega) (by decide)] at h4
            have h4 : ¬ s.1 = 38 := fun z => h4 (c38.mpr z)
            refine Rn.aload_n k_69 rfl rfl ?_
            refine Rn.getA k_69 rfl rfl (s604 L) (hF.l 59 rfl) ?_
            refine Rn.iload_n k_69 rfl rfl ?_
            refine Rn.iaload (j) k_69 rfl (s635 L) (rfl) (by omega) (by decide) ?_
            rw [m1]
            refine Rn.bipush (124) k_69 rfl rfl ?_
            refine Rn.icmp_ne 150 k_69 rfl rfl (fun h5 => ?_) (fun h5 => ?_)
            · rw [c_eq 124 124 rfl (by omega) (by decide)] at h5
              have h5 : ¬ s.1 = 124 := fun z => h5 (c124.mpr z)
              have hop : ¬ isOp s.1 := by unfold isOp; omega
              have eq : est at' s st = at' s :: st := by
                unfold est
                rw [if_neg h2, if_neg (by omega)]
              refine Rn.aload_n k_69 rfl rfl ?_
              refine Rn.getA k_69 rfl rfl (s604 L) (hF.l 71 rfl) ?_
              refine Rn.iload_n k_69 rfl rfl ?_
              refine Rn.aload_n k_69 rfl rfl ?_
              refine Rn.iload_n k_69 rfl rfl ?_
              refine Rn.iload_n k_69 rfl rfl ?_
              refine Rn.cV3I k_69 rfl rfl q_68 rfl (Nat.le_of_ble_eq_true rfl) (Nat.le_of_ble_eq_true rfl) (s604 L) (hat hop) ?_
              refine Rn.bastore (st.length) k_69 rfl (s647 L) (rfl) (by omega) (by decide) (bI_fit _) ?_
              refine Rn.iinc2 (1) k_69 rfl rfl rfl ?_
              rw [c_add 1 1 rfl]
              have := back (at' s :: st) _ eq.symm (hN.push _) (fun a k ha => by rw [up2_row _ _ ha]; exact hg a k ha)
              rw [List.length_cons] at this
              exact this
            · rw [c_eq 124 124 rfl (by omega) (by decide)] at h5
              exact join (Or.inr (c124.mp h5))
        · rw [c_eq 33 33 rfl (by omega) (by decide)] at h2
          have h2 : s.1 = 33 := c33.mp h2
          have h1l := d2 h2
          match st, h1l, hN, hst, back with
          | a :: st, _, hN, hst, back =>
            have hst : st.length + 1 ≤ j := hst
            have eq : est at' s (a :: st) = (!a) :: st := by
              unfold est
              rw [if_pos h2]
            have ga : gi 647 st.length = bI a := hN.top
            have fin : ∀ c : Bool, c = (!a) → Rn (d + 3) 69 46 [some (.ref 604), some (.int (nI t)), some (.int (nI (a :: st).length)), some (.int (nI j))] [.int (bI c), .int (nI st.length), .ref 647] (SH L, gi, fl, fr) (mhQ L fi fl fr ((evs at' S []).getD 0 true)) := by
              intro c hc'
              refine Rn.bastore (st.length) k_69 rfl (s647 L) (rfl) (by omega) (by decide) (bI_fit _) ?_
              refine Rn.goto 165 k_69 rfl rfl ?_
              rw [← hc'] at eq
              have := back (c :: st) _ eq.symm (hN.set (b := c)) (fun a k ha => by rw [up2_row _ _ ha]; exact hg a k ha)
              rw [List.length_cons] at this ⊢
              exact this
            refine Rn.aload_n k_69 rfl rfl ?_
            refine Rn.getA k_69 rfl rfl (s604 L) (hF.l 71 rfl) ?_
            refine Rn.iload_n k_69 rfl rfl ?_
            refine Rn.iconst (1) k_69 rfl rfl ?_
            refine Rn.isub k_69 rfl ?_
            rw [show nI (a :: st).length - 1 = nI st.length from nI_pred st.length]
            refine Rn.aload_n k_69 rfl rfl ?_
            refine Rn.getA k_69 rfl rfl (s604 L) (hF.l 71 rfl) ?_
            refine Rn.iload_n k_69 rfl rfl ?_
            refine Rn.iconst (1) k_69 rfl rfl ?_
            refine Rn.isub k_69 rfl ?_
            rw [show nI (a :: st).length - 1 = nI st.length from nI_pred st.length]
            refine Rn.baload (st.length) k_69 rfl (s647 L) (rfl) (by omega) (by decide) ?_
            rw [ga]
            refine Rn.if_ne 45 k_69 rfl rfl (fun h3 => ?_) (fun h3 => ?_)
            · (try rw [bI_0] at h3)
              (try rw [Bool.not_eq_false] at h3)
              refine Rn.iconst (0) k_69 rfl rfl ?_
              exact fin false (by rw [h3]; rfl)
            · (try rw [bI_0] at h3)
              (try rw [Bool.not_eq_false] at h3)
              refine Rn.iconst (1) k_69 rfl rfl ?_
              refine Rn.goto 46 k_69 rfl rfl ?_
              exact fin true (by rw [h3]; rfl)
  refine Rn.iconst (0) k_69 rfl rfl ?_
  refine Rn.istore_n2 k_69 rfl rfl ?_
  refine Rn.iconst (0) k_69 rfl rfl ?_
  refine Rn.istore_n3 k_69 rfl rfl ?_
  exact loop S.length 0 [] fi (Nat.zero_add _) hok.1 (Nat.le_refl _) (ANr.nil _ _) (fun _ _ _ => rfl) rfl
end MI
