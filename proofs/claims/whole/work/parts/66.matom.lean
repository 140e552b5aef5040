/-! THE REFERENCE: atoms -/
def aF (a k : Nat) : Prop := (a ≠ 604 ∨ (k ≠ 47 ∧ k ≠ 54 ∧ k ≠ 55)) ∧ (a < 641 ∨ 645 < a)
/-- column k is the new step's -/
def MKc (fi f : Nat → Nat → Int32) (k c a b v w : Nat) : Prop := f 604 47 = nI (k + 1) ∧ (∀ a j, aF a j → f a j = fi a j) ∧ (∀ a j, 641 ≤ a → a ≤ 645 → j < k → f a j = fi a j) ∧ f 641 k = nI c ∧ f 642 k = nI a ∧ f 643 k = nI b ∧ f 644 k = nI v ∧ f 645 k = nI w
theorem MKc.of {fi f : Nat → Nat → Int32} {k c : Nat} (h : ∀ a j, aF a j → f a j = fi a j) (h2 : ∀ a j, 641 ≤ a → a ≤ 645 → f a j = fi a j) : MKc fi (emt f k c) k c 0 0 0 0 := by
  refine ⟨emt_47 _ _ _, fun a j ha => ?_, fun a j z1 z2 z3 => (emt_row (by omega) (by omega)).trans (h2 a j z1 z2), emt_c _ _ _, emt_0 _ _ _ (by omega), emt_0 _ _ _ (by omega), emt_0 _ _ _ (by omega), emt_0 _ _ _ (by omega)⟩
  by_cases e : a = 604
  · subst e
    rw [emt_col (by have := ha.1; omega)]
    exact h _ _ ha
  · rw [emt_row e (by have := ha.2; omega)]
    exact h _ _ ha
theorem MKc.set {fi f : Nat → Nat → Int32} {k c a b v w r x : Nat} (h : MKc fi f k c a b v w) (hr : 641 ≤ r ∧ r ≤ 645) : MKc fi (up2 f r k (nI x)) k (if r = 641 then x else c) (if r = 642 then x else a) (if r = 643 then x else b) (if r = 644 then x else v) (if r = 645 then x else w) := by
  obtain ⟨h1, h2, h3, h4, h5, h6, h7, h8⟩ := h
  have p : ∀ (s z : Nat), f s k = nI z → up2 f r k (nI x) s k = nI (if r = s then x else z) := by
    intro s z hz
    by_cases e : r = s
    · rw [if_pos e, e]; exact up2_same _ _ _ _
    · rw [if_neg e, up2_row _ _ (fun q => e q.symm)]; exact hz
  exact ⟨(up2_row _ _ (by omega)).trans h1, fun a j ha => (up2_row _ _ (by have := ha.2; omega)).trans (h2 a j ha), fun a j z1 z2 z3 => (up2_col _ _ (by omega)).trans (h3 a j z1 z2 z3), p _ _ h4, p _ _ h5, p _ _ h6, p _ _ h7, p _ _ h8⟩
theorem MKc.at {fi f f' : Nat → Nat → Int32} {k c a b v w : Nat} (h : MKc fi f k c a b v w) (e : ∀ a j, (a ≠ 604 ∨ (j ≠ 54 ∧ j ≠ 55)) → f' a j = f a j) : MKc fi f' k c a b v w := by
  obtain ⟨h1, h2, h3, h4, h5, h6, h7, h8⟩ := h
  exact ⟨(e _ _ (Or.inr (by decide))).trans h1, fun a j ha => (e _ _ (by have := ha.1; omega)).trans (h2 a j ha), fun a j z1 z2 z3 => (e _ _ (Or.inl (by omega))).trans (h3 a j z1 z2 z3), (e _ _ (Or.inl (by decide))).trans h4, (e _ _ (Or.inl (by decide))).trans h5, (e _ _ (Or.inl (by decide))).trans h6, (e _ _ (Or.inl (by decide))).trans h7, (e _ _ (Or.inl (by decide))).trans h8⟩
theorem MKc.md {fi f : Nat → Nat → Int32} {y : Nat → Nat} {n c a b v w : Nat} {S : List FS} {s : FS} (h : MKc fi f S.length c a b v w) (hM : MMd fi y n S) (hc : c = fcd s.1) (hab : a ≤ b ∧ b ≤ n ∧ sl y a b = s.2.1) (h3 : s.1 ≠ 60 → v ≤ w ∧ w ≤ n ∧ sl y v w = s.2.2) (h4 : s.1 = 60 → v = s.2.2.getD 0 0 - 48) : MMd f y n (S ++ [s]) := by
  obtain ⟨k1, k2, k3, k4, k5, k6, k7, k8⟩ := h
  exact hM.snoc k3 k1 (by rw [k4, hc]) ⟨a, b, k5, k6, hab.1, hab.2.1, hab.2.2⟩ (fun z => ⟨v, w, k7, k8, (h3 z).1, (h3 z).2.1, (h3 z).2.2⟩) (fun z => by rw [k7, h4 z])
theorem MRd.of {fi f : Nat → Nat → Int32} {y : Nat → Nat} {n p q : Nat} (h : MRd fi y n p) (e : ∀ a j, aF a j → f a j = fi a j) (h54 : f 604 54 = nI q) (hq : q ≤ n) : MRd f y n q := h.keep (fun k => e _ _ ⟨Or.inl (by decide), by decide⟩) (e _ _ ⟨Or.inr (by decide), by decide⟩) h54 hq
def matQ (L : Nat) (fi : Nat → Nat → Int32) (fl : Nat → Nat → Int64) (fr : Nat → Nat → Option Nat) (y : Nat → Nat) (n : Nat) (S : List FS) (x : (FS × Nat) ⊕ Nat) : Option Value → am_H → Prop := fun v h' => v = none ∧ ∃ fi', h' = (SH L, fi', fl, fr) ∧ (∀ a k, aF a k → fi' a k = fi a k) ∧ ((∃ q, fi' 604 55 = nI q ∧ (x = .inr q ∨ ∃ a, x = .inl (a, q) ∧ isN (lok y n q) = true)) ∨ ∃ a e, x = .inl (a, e) ∧ fi' 604 55 = -1 ∧ fi' 604 54 = nI e ∧ MMd fi' y n (S ++ [a]))
section MA
variable {d L : Nat} {fi : Nat → Nat → Int32} {fl : Nat → Nat → Int64} {fr : Nat → Nat → Option Nat} {F G : Nat} {y : Nat → Nat} {n p : Nat} {S : List FS}
theorem k_aF {f : Nat → Nat → Int32} (h : ∀ a k, (a ≠ 604 ∨ (k ≠ 54 ∧ k ≠ 55)) → f a k = fi a k) : (∀ a j, aF a j → f a j = fi a j) ∧ ∀ a j, 641 ≤ a → a ≤ 645 → f a j = fi a j := ⟨fun a j ha => h a j (by have := ha.1; omega), fun a j z1 z2 => h a j (Or.inl (by omega))⟩
theorem at_k {q : Nat} : ∀ a k, (a ≠ 604 ∨ (k ≠ 54 ∧ k ≠ 55)) → up2 fi 604 54 (nI q) a k = fi a k := fun a k z => by
  rcases z with z | z
  · exact up2_row _ _ z
  · exact up2_col _ _ z.1
set_option maxHeartbeats 2000000 in
theorem cm_tagOrValue (hF : FRok F G fr) (h : MRd fi y n p) (hi : fi 604 55 = -1) (hM : MMd fi y n S) (hl : S.length ≤ 120) (hL : isL (lok y n p) = true) : Rn (d + 3) 55 0 [some (.ref 604), none, none] [] (SH L, fi, fl, fr) (matQ L fi fl fr y n S (atomW y n p)) := by
  have hn := h.2.2.2.1
  have hpn := h.2.2.2.2
  have h128 := lok_128 h
  have hsk : skip y n p = p := skip_id (fun z => by rw [z] at hL; cases hL)
  have eA : atomW y n p = if lok y n (skip y n (wend y n p)) = 58 then
      (if isN (lok y n (skip y n (skip y n (wend y n p) + 1))) = true then .inl ((58, sl y p (wend y n p), sl y (skip y n (skip y n (wend y n p) + 1)) (wend y n (skip y n (skip y n (wend y n p) + 1)))), wend y n (skip y n (skip y n (wend y n p) + 1)))
      else .inr (skip y n (skip y n (wend y n p) + 1)))
    else .inl ((35, sl y p (wend y n p), []), skip y n (wend y n p)) := by unfold atomW; rw [if_pos hL]
  have hW := cm_word (d := d) (L := L) (fl := fl) (b := true) hF h hi
  rw [if_pos rfl, hsk, hL] at hW
  have hwp := (wnd_ge (y := y) (n := n) 12 p).1
  have hwn : wend y n p ≤ n := wend_le hpn
  have hwp : p ≤ wend y n p := hwp
  generalize hE1 : wend y n p = e1 at hwp hwn eA
  refine Rn.aload_n k_55 rfl rfl ?_
  refine Rn.iconst (1) k_55 rfl rfl ?_
  refine Rn.cV2 k_55 rfl rfl q_53 rfl (Nat.le_of_ble_eq_true rfl) (Nat.le_of_ble_eq_true rfl) (s604 L) (hW) (fun v h' hq => ?_)
  obtain ⟨rfl, f1, rfl, k1, hw⟩ := hq
  show Rn _ _ _ _ (Value.int _ :: []) _ _
  have hw : f1 604 54 = nI e1 ∧ ((isN (lok y n e1) = true ∧ f1 604 55 = nI e1) ∨ (isN (lok y n e1) = false ∧ f1 604 55 = -1)) := by
    rw [hE1] at hw
    rcases hw with ⟨z, _⟩ | ⟨-, w1, w2, w3⟩ | ⟨-, w1, w2, w3⟩
    · cases z
    · exact ⟨w1, Or.inl ⟨w2, w3⟩⟩
    · exact ⟨w1, Or.inr ⟨w2, w3⟩⟩
  obtain ⟨w1, w2⟩ := hw
  obtain ⟨a1, a2⟩ := k_aF k1
  have f47 : f1 604 47 = nI S.length := (k1 _ _ (Or.inr (by decide))).trans hM.1
  refine Rn.istore_n1 k_55 rfl rfl ?_
  refine Rn.aload_n k_55 rfl rfl ?_
  refine Rn.getI k_55 rfl rfl (s604 L) ?_
  rw [w1]
  refine Rn.istore_n2 k_55 rfl rfl ?_
  refine Rn.aload_n k_55 rfl rfl ?_
  refine Rn.iconst (1) k_55 rfl rfl ?_
  refine Rn.cV2M k_55 rfl rfl q_52 rfl (Nat.le_of_ble_eq_true rfl) (Nat.le_of_ble_eq_true rfl) (s604 L) (cm_emit (c := 1) hF f47 (by omega)) ?_
  have K0 : MKc fi (emt f1 S.length 1) S.length 1 0 0 0 0 := MKc.of a1 a2
  refine Rn.aload_n k_55 rfl rfl ?_
  refine Rn.getA k_55 rfl rfl (s604 L) (hF.l 66 rfl) ?_
  refine Rn.aload_n k_55 rfl rfl ?_
  refine Rn.getI k_55 rfl rfl (s604 L) ?_
  rw [emt_47]
  refine Rn.iconst (1) k_55 rfl rfl ?_
  refine Rn.isub k_55 rfl ?_
  rw [c_sub 1 1 rfl (by omega), Nat.add_sub_cancel]
  refine Rn.iload_n k_55 rfl rfl ?_
  refine Rn.iastore (S.length) k_55 rfl (s642 L) (rfl) (by omega) (by decide) (rfl) ?_
  refine Rn.aload_n k_55 rfl rfl ?_
  refine Rn.getA k_55 rfl rfl (s604 L) (hF.l 67 rfl) ?_
  refine Rn.aload_n k_55 rfl rfl ?_
  refine Rn.getI k_55 rfl rfl (s604 L) ?_
  rw [show up2 (emt f1 S.length 1) 642 S.length (nI p) 604 47 = nI (S.length + 1) from emt_47 f1 S.length 1]
  refine Rn.iconst (1) k_55 rfl rfl ?_
  refine Rn.isub k_55 rfl ?_
  rw [c_sub 1 1 rfl (by omega), Nat.add_sub_cancel]
  refine Rn.iload_n k_55 rfl rfl ?_
  refine Rn.iastore (S.length) k_55 rfl (s643 L) (rfl) (by omega) (by decide) (rfl) ?_
  have K2 := (K0.set (r := 642) (x := p) (by omega)).set (r := 643) (x := e1) (by omega)
  have K2 : MKc fi (up2 (up2 (emt f1 S.length 1) 642 S.length (nI p)) 643 S.length (nI e1)) S.length 1 p e1 0 0 := K2
  have g54 : up2 (up2 (emt f1 S.length 1) 642 S.length (nI p)) 643 S.length (nI e1) 604 54 = nI e1 := (emt_col (fi := f1) (k := S.length) (c := 1) (by decide)).trans w1
  have g55 : up2 (up2 (emt f1 S.length 1) 642 S.length (nI p)) 643 S.length (nI e1) 604 55 = f1 604 55 := (emt_col (fi := f1) (k := S.length) (c := 1) (j := 55) (by decide) : _)
  generalize up2 (up2 (emt f1 S.length 1) 642 S.length (nI p)) 643 S.length (nI e1) = f4 at K2 g54 g55
  refine Rn.aload_n k_55 rfl rfl ?_
  refine Rn.getI k_55 rfl rfl (s604 L) ?_
  rw [g55]
  rcases w2 with ⟨w2, w3⟩ | ⟨w2, w3⟩
  · rw [w3]
    refine Rn.iconst (-1) k_55 rfl rfl ?_
    refine Rn.icmp_eq 49 k_55 rfl rfl (fun h1 => ?_) (fun h1 => ?_)
    · exact absurd h1 (c_m1 (by omega))
    · refine Rn.retv k_55 rfl q_55 rfl ?_
      have hs1 : skip y n e1 = e1 := skip_id (fun z => by rw [z] at w2; cases w2)
      rw [eA, hs1, if_neg (fun z => by rw [z] at w2; cases w2)]
      exact ⟨rfl, f4, rfl, K2.2.1, Or.inl ⟨e1, g55.trans w3, Or.inr ⟨_, rfl, w2⟩⟩⟩
  · rw [w3]
    refine Rn.iconst (-1) k_55 rfl rfl ?_
    have hR4 : MRd f4 y n e1 := h.of K2.2.1 g54 hwn
    have hs2 := skip_le y hwn
    have i4 : f4 604 55 = -1 := g55.trans w3
    refine Rn.icmp_eq 49 k_55 rfl rfl (fun h1 => ?_) (fun h1 => ?_)
    · refine Rn.aload_n k_55 rfl rfl ?_
      refine Rn.cV1M k_55 rfl rfl q_50 rfl (Nat.le_of_ble_eq_true rfl) (Nat.le_of_ble_eq_true rfl) (s604 L) (cm_blanks hF hR4) ?_
      generalize hq2 : skip y n e1 = q2 at hs2 eA
      have hR5 := hR4.at hs2
      have K3 : MKc fi (up2 f4 604 54 (nI q2)) S.length 1 p e1 0 0 := K2.at at_k
      have i5 : up2 f4 604 54 (nI q2) 604 55 = -1 := i4
      have := h128 q2
      refine Rn.aload_n k_55 rfl rfl ?_
      refine Rn.cV1I k_55 rfl rfl q_49 rfl (Nat.le_of_ble_eq_true rfl) (Nat.le_of_ble_eq_true rfl) (s604 L) (cm_look hF hR5) ?_
      refine Rn.bipush (58) k_55 rfl rfl ?_
      refine Rn.icmp_eq 63 k_55 rfl rfl (fun h2 => ?_) (fun h2 => ?_)
      · rw [c_eq 58 58 rfl (by omega) (by decide)] at h2
        rw [if_pos h2] at eA
        have hq2n : q2 < n := lok_pos (y := y) (by rw [h2]; decide)
        refine Rn.aload_n k_55 rfl rfl ?_
        refine Rn.dupa k_55 rfl ?_
        refine Rn.getI k_55 rfl rfl (s604 L) ?_
        rw [up2_same]
        refine Rn.iconst (1) k_55 rfl rfl ?_
        refine Rn.iadd k_55 rfl ?_
        rw [c_add 1 1 rfl]
        refine Rn.putI k_55 rfl (rfl) (s604 L) ?_
        rw [up2_up2]
        have hR6 : MRd (up2 f4 604 54 (nI (q2 + 1))) y n (q2 + 1) := hR4.at (by omega)
        have K4 : MKc fi (up2 f4 604 54 (nI (q2 + 1))) S.length 1 p e1 0 0 := K2.at at_k
        refine Rn.aload_n k_55 rfl rfl ?_
        refine Rn.getA k_55 rfl rfl (s604 L) (hF.l 65 rfl) ?_
        refine Rn.aload_n k_55 rfl rfl ?_
        refine Rn.getI k_55 rfl rfl (s604 L) ?_
        rw [K4.1]
        refine Rn.iconst (1) k_55 rfl rfl ?_
        refine Rn.isub k_55 rfl ?_
        rw [c_sub 1 1 rfl (by omega), Nat.add_sub_cancel]
        refine Rn.iconst (4) k_55 rfl rfl ?_
        refine Rn.iastore (S.length) k_55 rfl (s641 L) (rfl) (by omega) (by decide) (rfl) ?_
        have K5 : MKc fi (up2 (up2 f4 604 54 (nI (q2 + 1))) 641 S.length (nI 4)) S.length 4 p e1 0 0 := K4.set (r := 641) (x := 4) (by omega)
        have hR7 : MRd (up2 (up2 f4 604 54 (nI (q2 + 1))) 641 S.length (nI 4)) y n (q2 + 1) := hR4.of (fun a j ha => (K5.2.1 a j ha).trans (K2.2.1 a j ha).symm) (up2_same f4 604 54 (nI (q2 + 1))) (by omega)
        have i7 : up2 (up2 f4 604 54 (nI (q2 + 1))) 641 S.length (nI 4) 604 55 = -1 := i4
        have hW2 := cm_word (d := d) (L := L) (fl := fl) (b := false) hF hR7 i7
        rw [if_neg (by decide)] at hW2
        have hq3 := skip_le y (show q2 + 1 ≤ n by omega)
        show Rn _ _ _ _ _ (SH L, up2 (up2 f4 604 54 (nI (q2 + 1))) 641 S.length (nI 4), fl, fr) _
        generalize up2 (up2 f4 604 54 (nI (q2 + 1))) 641 S.length (nI 4) = f5 at K5 hR7 i7 hW2 ⊢
        generalize skip y n (q2 + 1) = q3 at hW2 hq3 eA
        refine Rn.aload_n k_55 rfl rfl ?_
        refine Rn.getA k_55 rfl rfl (s604 L) (hF.l 68 rfl) ?_
        refine Rn.aload_n k_55 rfl rfl ?_
        refine Rn.getI k_55 rfl rfl (s604 L) ?_
        rw [K5.1]
        refine Rn.iconst (1) k_55 rfl rfl ?_
        refine Rn.isub k_55 rfl ?_
        rw [c_sub 1 1 rfl (by omega), Nat.add_sub_cancel]
        refine Rn.aload_n k_55 rfl rfl ?_
        refine Rn.iconst (0) k_55 rfl rfl ?_
        refine Rn.cV2 k_55 rfl rfl q_53 rfl (Nat.le_of_ble_eq_true rfl) (Nat.le_of_ble_eq_true rfl) (s604 L) (hW2) (fun v h' hq => ?_)
        obtain ⟨rfl, f6, rfl, k6, hw6⟩ := hq
        show Rn _ _ _ _ (Value.int (nI q3) :: Value.int (nI S.length) :: Value.ref 644 :: []) _ _
        have K6 : MKc fi f6 S.length 4 p e1 0 0 := K5.at k6
        refine Rn.iastore (S.length) k_55 rfl (s644 L) (rfl) (by omega) (by decide) (rfl) ?_
        have K7 : MKc fi (up2 f6 644 S.length (nI q3)) S.length 4 p e1 q3 0 := K6.set (r := 644) (x := q3) (by omega)
        refine Rn.aload_n k_55 rfl rfl ?_
        refine Rn.getA k_55 rfl rfl (s604 L) (hF.l 69 rfl) ?_
        refine Rn.aload_n k_55 rfl rfl ?_
        refine Rn.getI k_55 rfl rfl (s604 L) ?_
        rw [K7.1]
        refine Rn.iconst (1) k_55 rfl rfl ?_
        refine Rn.isub k_55 rfl ?_
        rw [c_sub 1 1 rfl (by omega), Nat.add_sub_cancel]
        refine Rn.aload_n k_55 rfl rfl ?_
        refine Rn.getI k_55 rfl rfl (s604 L) ?_
        rw [show up2 f6 644 S.length (nI q3) 604 54 = f6 604 54 from rfl]
        rcases hw6 with ⟨z1, z2, z3⟩ | ⟨z1, z2, z3, z4⟩ | ⟨z1, z2, z3, z4⟩
        · rw [z2]
          refine Rn.iastore (S.length) k_55 rfl (s645 L) (rfl) (by omega) (by decide) (rfl) ?_
          refine Rn.retv k_55 rfl q_55 rfl ?_
          rw [eA, if_neg (by rw [z1]; decide)]
          have K8 := K7.set (r := 645) (x := q3) (by omega)
          exact ⟨rfl, _, rfl, K8.2.1, Or.inl ⟨q3, z3, Or.inl rfl⟩⟩
        · rw [z2]
          refine Rn.iastore (S.length) k_55 rfl (s645 L) (rfl) (by omega) (by decide) (rfl) ?_
          refine Rn.retv k_55 rfl q_55 rfl ?_
          rw [eA, if_pos z1]
          have K8 := K7.set (r := 645) (x := wend y n q3) (by omega)
          exact ⟨rfl, _, rfl, K8.2.1, Or.inl ⟨wend y n q3, z4, Or.inr ⟨_, rfl, z3⟩⟩⟩
        · rw [z2]
          refine Rn.iastore (S.length) k_55 rfl (s645 L) (rfl) (by omega) (by decide) (rfl) ?_
          refine Rn.retv k_55 rfl q_55 rfl ?_
          rw [eA, if_pos z1]
          have K8 : MKc fi (up2 (up2 f6 644 S.length (nI q3)) 645 S.length (nI (wend y n q3))) S.length 4 p e1 q3 (wend y n q3) := K7.set (r := 645) (x := wend y n q3) (by omega)
          refine ⟨rfl, _, rfl, K8.2.1, Or.inr ⟨_, _, rfl, z4, z2, K8.md hM rfl ⟨hwp, hwn, rfl⟩ (fun _ => ⟨(wnd_ge (y := y) (n := n) 12 q3).1, wend_le hq3, rfl⟩) (fun z => ?_)⟩⟩
          exact absurd (show (58 : Nat) = 60 from z) (by decide)
      · rw [c_eq 58 58 rfl (by omega) (by decide)] at h2
        rw [if_neg h2] at eA
        refine Rn.retv k_55 rfl q_55 rfl ?_
        rw [eA]
        refine ⟨rfl, _, rfl, K3.2.1, Or.inr ⟨_, _, rfl, i5, up2_same _ _ _ _, K3.md hM rfl ⟨hwp, hwn, rfl⟩ (fun _ => ⟨Nat.le_refl _, Nat.zero_le _, rfl⟩) (fun z => ?_)⟩⟩
        exact absurd (show (35 : Nat) = 60 from z) (by decide)
    · exact absurd rfl h1
set_option maxHeartbeats 1000000 in
theorem cm_nameBehind (hF : FRok F G fr) (h : MRd fi y n p) (hi : fi 604 55 = -1) (hM : MMd fi y n S) (hl : S.length ≤ 120) (hc : lok y n p = 64 ∨ lok y n p = 61) : Rn (d + 3) 56 0 [some (.ref 604), some (.int (nI (fcd (lok y n p)))), none] [] (SH L, fi, fl, fr) (matQ L fi fl fr y n S (atomW y n p)) := by
  have hn := h.2.2.2.1
  have hpn : p < n := lok_pos (y := y) (by omega)
  have eA : atomW y n p = if isL (lok y n (skip y n (p + 1))) = true then .inl ((lok y n p, sl y (skip y n (p + 1)) (wend y n (skip y n (p + 1))), []), wend y n (skip y n (p + 1))) else .inr (skip y n (p + 1)) := by
    unfold atomW
    rw [if_neg (by rcases hc with z | z <;> rw [z] <;> decide), if_pos hc]
  have hR1 : MRd (up2 fi 604 54 (nI (p + 1))) y n (p + 1) := h.at (by omega)
  have hW := cm_word (d := d) (L := L) (fl := fl) (b := true) hF hR1 ((up2_col _ _ (by decide)).trans hi)
  rw [if_pos rfl] at hW
  have hq := skip_le y (show p + 1 ≤ n by omega)
  generalize skip y n (p + 1) = q at hW hq eA
  generalize lok y n p = c at hc eA
  refine Rn.aload_n k_56 rfl rfl ?_
  refine Rn.dupa k_56 rfl ?_
  refine Rn.getI k_56 rfl rfl (s604 L) ?_
  rw [h.2.2.1]
  refine Rn.iconst (1) k_56 rfl rfl ?_
  refine Rn.iadd k_56 rfl ?_
  rw [c_add 1 1 rfl]
  refine Rn.putI k_56 rfl (rfl) (s604 L) ?_
  refine Rn.aload_n k_56 rfl rfl ?_
  refine Rn.iconst (1) k_56 rfl rfl ?_
  refine Rn.cV2 k_56 rfl rfl q_53 rfl (Nat.le_of_ble_eq_true rfl) (Nat.le_of_ble_eq_true rfl) (s604 L) (hW) (fun v h' hq => ?_)
  obtain ⟨rfl, f1, rfl, k1, hw⟩ := hq
  show Rn _ _ _ _ (Value.int _ :: []) _ _
  have k1' : ∀ a k, (a ≠ 604 ∨ (k ≠ 54 ∧ k ≠ 55)) → f1 a k = fi a k := fun a k ha => (k1 a k ha).trans (at_k a k ha)
  obtain ⟨a1, a2⟩ := k_aF k1'
  have f47 : f1 604 47 = nI S.length := (k1' _ _ (Or.inr (by decide))).trans hM.1
  refine Rn.istore_n2 k_56 rfl rfl ?_
  refine Rn.aload_n k_56 rfl rfl ?_
  refine Rn.iload_n k_56 rfl rfl ?_
  refine Rn.cV2M k_56 rfl rfl q_52 rfl (Nat.le_of_ble_eq_true rfl) (Nat.le_of_ble_eq_true rfl) (s604 L) (cm_emit hF f47 (by omega)) ?_
  have K0 : MKc fi (emt f1 S.length (fcd c)) S.length (fcd c) 0 0 0 0 := MKc.of a1 a2
  refine Rn.aload_n k_56 rfl rfl ?_
  refine Rn.getA k_56 rfl rfl (s604 L) (hF.l 66 rfl) ?_
  refine Rn.aload_n k_56 rfl rfl ?_
  refine Rn.getI k_56 rfl rfl (s604 L) ?_
  rw [emt_47]
  refine Rn.iconst (1) k_56 rfl rfl ?_
  refine Rn.isub k_56 rfl ?_
  rw [c_sub 1 1 rfl (by omega), Nat.add_sub_cancel]
  refine Rn.iload_n k_56 rfl rfl ?_
  refine Rn.iastore (S.length) k_56 rfl (s642 L) (rfl) (by omega) (by decide) (rfl) ?_
  refine Rn.aload_n k_56 rfl rfl ?_
  refine Rn.getA k_56 rfl rfl (s604 L) (hF.l 67 rfl) ?_
  refine Rn.aload_n k_56 rfl rfl ?_
  refine Rn.getI k_56 rfl rfl (s604 L) ?_
  rw [show up2 (emt f1 S.length (fcd c)) 642 S.length (nI q) 604 47 = nI (S.length + 1) from emt_47 f1 S.length (fcd c)]
  refine Rn.iconst (1) k_56 rfl rfl ?_
  refine Rn.isub k_56 rfl ?_
  rw [c_sub 1 1 rfl (by omega), Nat.add_sub_cancel]
  refine Rn.aload_n k_56 rfl rfl ?_
  refine Rn.getI k_56 rfl rfl (s604 L) ?_
  rw [show up2 (emt f1 S.length (fcd c)) 642 S.length (nI q) 604 54 = f1 604 54 from emt_col (fi := f1) (k := S.length) (c := fcd c) (j := 54) (by decide)]
  have K2 : ∀ e, MKc fi (up2 (up2 (emt f1 S.length (fcd c)) 642 S.length (nI q)) 643 S.length (nI e)) S.length (fcd c) q e 0 0 := fun e => by
    have := (K0.set (r := 642) (x := q) (by omega)).set (r := 643) (x := e) (by omega)
    exact this
  have g54 : ∀ e, up2 (up2 (emt f1 S.length (fcd c)) 642 S.length (nI q)) 643 S.length (nI e) 604 54 = f1 604 54 := fun e => emt_col (fi := f1) (k := S.length) (c := fcd c) (j := 54) (by decide)
  have g55 : ∀ e, up2 (up2 (emt f1 S.length (fcd c)) 642 S.length (nI q)) 643 S.length (nI e) 604 55 = f1 604 55 := fun e => emt_col (fi := f1) (k := S.length) (c := fcd c) (j := 55) (by decide)
  rcases hw with ⟨z1, z2, z3⟩ | ⟨z1, z2, z3, z4⟩ | ⟨z1, z2, z3, z4⟩
  · rw [z2]
    refine Rn.iastore (S.length) k_56 rfl (s643 L) (rfl) (by omega) (by decide) (rfl) ?_
    refine Rn.retv k_56 rfl q_56 rfl ?_
    rw [eA, if_neg (by rw [z1]; decide)]
    exact ⟨rfl, _, rfl, (K2 q).2.1, Or.inl ⟨q, (g55 q).trans z3, Or.inl rfl⟩⟩
  · rw [z2]
    refine Rn.iastore (S.length) k_56 rfl (s643 L) (rfl) (by omega) (by decide) (rfl) ?_
    refine Rn.retv k_56 rfl q_56 rfl ?_
    rw [eA, if_pos z1]
    exact ⟨rfl, _, rfl, (K2 _).2.1, Or.inl ⟨wend y n q, (g55 _).trans z4, Or.inr ⟨_, rfl, z3⟩⟩⟩
  · rw [z2]
    refine Rn.iastore (S.length) k_56 rfl (s643 L) (rfl) (by omega) (by decide) (rfl) ?_
    refine Rn.retv k_56 rfl q_56 rfl ?_
    rw [eA, if_pos z1]
    refine ⟨rfl, _, rfl, (K2 _).2.1, Or.inr ⟨_, _, rfl, (g55 _).trans z4, (g54 _).trans z2, (K2 _).md hM rfl ⟨(wnd_ge (y := y) (n := n) 12 q).1, wend_le hq, rfl⟩ (fun _ => ⟨Nat.le_refl _, Nat.zero_le _, rfl⟩) (fun z => ?_)⟩⟩
    have z : c = 60 := z
    omega
set_option maxHeartbeats 1000000 in
theorem cm_less (hF : FRok F G fr) (h : MRd fi y n p) (hi : fi 604 55 = -1) (hM : MMd fi y n S) (hl : S.length ≤ 120) (hc : lok y n p = 60) : Rn (d + 3) 57 0 [some (.ref 604), none] [] (SH L, fi, fl, fr) (matQ L fi fl fr y n S (atomW y n p)) := by
  have hn := h.2.2.2.1
  have hpn : p < n := lok_pos (y := y) (by omega)
  have h128 := lok_128 h
  have eA : atomW y n p = if 49 ≤ lok y n (skip y n (p + 1)) ∧ lok y n (skip y n (p + 1)) ≤ 57 then .inl ((60, [], [lok y n (skip y n (p + 1))]), skip y n (p + 1) + 1) else .inr (skip y n (p + 1)) := by
    unfold atomW
    rw [if_neg (by rw [hc]; decide), if_neg (by omega), if_pos hc]
  have hR1 : MRd (up2 fi 604 54 (nI (p + 1))) y n (p + 1) := h.at (by omega)
  have hB := cm_blanks (d := d + 1) (L := L) (fl := fl) hF hR1
  rw [up2_up2] at hB
  have hq := skip_le y (show p + 1 ≤ n by omega)
  generalize skip y n (p + 1) = q at hB hq eA
  have hR2 : MRd (up2 fi 604 54 (nI q)) y n q := h.at hq
  have i2 : up2 fi 604 54 (nI q) 604 55 = -1 := (up2_col _ _ (by decide)).trans hi
  have hlk := h128 q
  refine Rn.aload_n k_57 rfl rfl ?_
  refine Rn.dupa k_57 rfl ?_
  refine Rn.getI k_57 rfl rfl (s604 L) ?_
  rw [h.2.2.1]
  refine Rn.iconst (1) k_57 rfl rfl ?_
  refine Rn.iadd k_57 rfl ?_
  rw [c_add 1 1 rfl]
  refine Rn.putI k_57 rfl (rfl) (s604 L) ?_
  refine Rn.aload_n k_57 rfl rfl ?_
  refine Rn.cV1M k_57 rfl rfl q_50 rfl (Nat.le_of_ble_eq_true rfl) (Nat.le_of_ble_eq_true rfl) (s604 L) (hB) ?_
  have bad : ¬ (49 ≤ lok y n q ∧ lok y n q ≤ 57) → ∀ o1, Rn (d + 3) 57 31 [some (.ref 604), o1] [] (SH L, up2 fi 604 54 (nI q), fl, fr) (matQ L fi fl fr y n S (atomW y n p)) := by
    intro z o1
    refine Rn.aload_n k_57 rfl rfl ?_
    refine Rn.cV1M k_57 rfl rfl q_51 rfl (Nat.le_of_ble_eq_true rfl) (Nat.le_of_ble_eq_true rfl) (s604 L) (cm_fail hF i2 (up2_same _ _ _ _)) ?_
    refine Rn.retv k_57 rfl q_57 rfl ?_
    rw [eA, if_neg z]
    refine ⟨rfl, _, rfl, fun a k ha => ?_, Or.inl ⟨q, up2_same _ _ _ _, Or.inl rfl⟩⟩
    obtain ⟨z1, z2⟩ := ha
    unfold up2
    rcases z1 with z1 | z1
    · rw [if_neg z1, if_neg z1]
    · rw [if_neg z1.2.2, if_neg z1.2.1]; simp
  refine Rn.aload_n k_57 rfl rfl ?_
  refine Rn.cV1I k_57 rfl rfl q_49 rfl (Nat.le_of_ble_eq_true rfl) (Nat.le_of_ble_eq_true rfl) (s604 L) (cm_look hF hR2) ?_
  refine Rn.istore_n1 k_57 rfl rfl ?_
  refine Rn.iload_n k_57 rfl rfl ?_
  refine Rn.bipush (49) k_57 rfl rfl ?_
  refine Rn.icmp_lt 31 k_57 rfl rfl (fun h1 => ?_) (fun h1 => ?_)
  · rw [c_lt 49 49 rfl (by omega) (by decide)] at h1
    exact bad (by omega) _
  · rw [c_lt 49 49 rfl (by omega) (by decide)] at h1
    refine Rn.iload_n k_57 rfl rfl ?_
    refine Rn.bipush (57) k_57 rfl rfl ?_
    refine Rn.icmp_le 36 k_57 rfl rfl (fun h2 => ?_) (fun h2 => ?_)
    · rw [c_le 57 57 rfl (by omega) (by decide)] at h2
      obtain ⟨a1, a2⟩ := k_aF (at_k (fi := fi) (q := q))
      refine Rn.aload_n k_57 rfl rfl ?_
      refine Rn.iconst (5) k_57 rfl rfl ?_
      refine Rn.cV2M k_57 rfl rfl q_52 rfl (Nat.le_of_ble_eq_true rfl) (Nat.le_of_ble_eq_true rfl) (s604 L) (cm_emit (c := 5) hF (show up2 fi 604 54 (nI q) 604 47 = nI S.length from hM.1) (by omega)) ?_
      refine Rn.aload_n k_57 rfl rfl ?_
      refine Rn.getA k_57 rfl rfl (s604 L) (hF.l 68 rfl) ?_
      refine Rn.aload_n k_57 rfl rfl ?_
      refine Rn.getI k_57 rfl rfl (s604 L) ?_
      rw [emt_47]
      refine Rn.iconst (1) k_57 rfl rfl ?_
      refine Rn.isub k_57 rfl ?_
      rw [c_sub 1 1 rfl (by omega), Nat.add_sub_cancel]
      refine Rn.iload_n k_57 rfl rfl ?_
      refine Rn.bipush (48) k_57 rfl rfl ?_
      refine Rn.isub k_57 rfl ?_
      rw [c_sub 48 48 rfl (by omega)]
      refine Rn.iastore (S.length) k_57 rfl (s644 L) (rfl) (by omega) (by decide) (rfl) ?_
      refine Rn.aload_n k_57 rfl rfl ?_
      refine Rn.dupa k_57 rfl ?_
      refine Rn.getI k_57 rfl rfl (s604 L) ?_
      have K0 : MKc fi (emt (up2 fi 604 54 (nI q)) S.length 5) S.length 5 0 0 0 0 := MKc.of a1 a2
      have K1 : MKc fi (up2 (emt (up2 fi 604 54 (nI q)) S.length 5) 644 S.length (nI (lok y n q - 48))) S.length 5 0 0 (lok y n q - 48) 0 := K0.set (r := 644) (x := lok y n q - 48) (by omega)
      have g54 : up2 (emt (up2 fi 604 54 (nI q)) S.length 5) 644 S.length (nI (lok y n q - 48)) 604 54 = nI q := (emt_col (fi := up2 fi 604 54 (nI q)) (k := S.length) (c := 5) (by decide)).trans (up2_same _ _ _ _)
      have g55 : up2 (emt (up2 fi 604 54 (nI q)) S.length 5) 644 S.length (nI (lok y n q - 48)) 604 55 = -1 := (emt_col (fi := up2 fi 604 54 (nI q)) (k := S.length) (c := 5) (by decide)).trans i2
      generalize up2 (emt (up2 fi 604 54 (nI q)) S.length 5) 644 S.length (nI (lok y n q - 48)) = f4 at K1 g54 g55 ⊢
      rw [g54]
      refine Rn.iconst (1) k_57 rfl rfl ?_
      refine Rn.iadd k_57 rfl ?_
      rw [c_add 1 1 rfl]
      refine Rn.putI k_57 rfl (rfl) (s604 L) ?_
      refine Rn.retv k_57 rfl q_57 rfl ?_
      have K2 : MKc fi (up2 f4 604 54 (nI (q + 1))) S.length 5 0 0 (lok y n q - 48) 0 := K1.at at_k
      rw [eA, if_pos ⟨by omega, h2⟩]
      exact ⟨rfl, _, rfl, K2.2.1, Or.inr ⟨_, _, rfl, g55, up2_same _ _ _ _, K2.md hM rfl ⟨Nat.le_refl _, Nat.zero_le _, rfl⟩ (fun z => absurd rfl z) (fun _ => rfl)⟩⟩
    · rw [c_le 57 57 rfl (by omega) (by decide)] at h2
      exact bad (by omega) _
end MA
