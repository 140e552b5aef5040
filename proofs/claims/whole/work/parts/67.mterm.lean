/-! THE REFERENCE: opens, term, top, drop, turnRound -/
def MPl (fi : Nat → Nat → Int32) (π : List Nat) : Prop := fi 604 57 = nI π.length ∧ ∀ j, j < π.length → fi 646 (π.length - 1 - j) = nI (π.getD j 0) ∧ π.getD j 0 < 128
theorem MPl.keep {fi fi' : Nat → Nat → Int32} {π : List Nat} (h : MPl fi π) (e1 : fi' 604 57 = fi 604 57) (e2 : ∀ j, fi' 646 j = fi 646 j) : MPl fi' π := ⟨e1.trans h.1, fun j hj => by rw [e2]; exact h.2 j hj⟩
theorem MPl.push {fi fi' : Nat → Nat → Int32} {π : List Nat} (h : MPl fi π) {c : Nat} (hc : c < 128) (e : fi' 604 57 = nI (π.length + 1)) (e2 : fi' 646 π.length = nI c) (e3 : ∀ j, j < π.length → fi' 646 j = fi 646 j) : MPl fi' (c :: π) := by
  refine ⟨e, fun j hj => ?_⟩
  rw [List.length_cons] at hj ⊢
  cases j with
  | zero =>
    rw [show π.length + 1 - 1 - 0 = π.length by omega, List.getD_cons_zero]
    exact ⟨e2, hc⟩
  | succ j =>
    rw [show π.length + 1 - 1 - (j + 1) = π.length - 1 - j by omega, List.getD_cons_succ, e3 _ (by omega)]
    exact h.2 j (by omega)
theorem MPl.pop {fi fi' : Nat → Nat → Int32} {π : List Nat} {c : Nat} (h : MPl fi (c :: π)) (e : fi' 604 57 = nI π.length) (e2 : ∀ j, fi' 646 j = fi 646 j) : MPl fi' π := by
  refine ⟨e, fun j hj => ?_⟩
  have := h.2 (j + 1) (by rw [List.length_cons]; omega)
  rw [List.length_cons, List.getD_cons_succ, show π.length + 1 - 1 - (j + 1) = π.length - 1 - j by omega] at this
  rw [e2]
  exact this
theorem MPl.top {fi : Nat → Nat → Int32} {π : List Nat} {c : Nat} (h : MPl fi (c :: π)) : fi 646 π.length = nI c ∧ c < 128 := by
  have := h.2 0 (by rw [List.length_cons]; omega)
  rw [List.length_cons, List.getD_cons_zero, show π.length + 1 - 1 - 0 = π.length by omega] at this
  exact this
theorem MMd.keep {fi fi' : Nat → Nat → Int32} {y : Nat → Nat} {n : Nat} {S : List FS} (h : MMd fi y n S) (e : fi' 604 47 = fi 604 47) (e2 : ∀ a j, 641 ≤ a → a ≤ 645 → fi' a j = fi a j) : MMd fi' y n S := ⟨e.trans h.1, h.2.keep (fun a j z1 z2 _ => e2 a j z1 z2)⟩
/-- the state of the reading -/
def MZ (fi : Nat → Nat → Int32) (y : Nat → Nat) (n p : Nat) (S : List FS) (π : List Nat) (o : Nat) : Prop := MRd fi y n p ∧ fi 604 55 = -1 ∧ MMd fi y n S ∧ fi 604 56 = nI o ∧ MPl fi π
theorem MZ.at {fi : Nat → Nat → Int32} {y : Nat → Nat} {n p : Nat} {S : List FS} {π : List Nat} {o : Nat} (h : MZ fi y n p S π o) {q : Nat} (hq : q ≤ n) : MZ (up2 fi 604 54 (nI q)) y n q S π o := ⟨h.1.at hq, h.2.1, h.2.2.1.keep (up2_col _ _ (by decide)) (fun a j z1 z2 => up2_row _ _ (by omega)), h.2.2.2.1, h.2.2.2.2.keep (up2_col _ _ (by decide)) (fun j => up2_row _ _ (by decide))⟩
def fF (a k : Nat) : Prop := (a ≠ 604 ∨ (k ≠ 47 ∧ k ≠ 54 ∧ k ≠ 55 ∧ k ≠ 56 ∧ k ≠ 57)) ∧ (a < 641 ∨ 646 < a)
theorem fF_col {fi : Nat → Nat → Int32} {v : Int32} {j a k : Nat} (hj : j = 47 ∨ j = 54 ∨ j = 55 ∨ j = 56 ∨ j = 57) (h : fF a k) : up2 fi 604 j v a k = fi a k := by
  rcases h.1 with z | z
  · exact up2_row _ _ z
  · exact up2_col _ _ (by omega)
theorem fF_row {fi : Nat → Nat → Int32} {v : Int32} {r j a k : Nat} (hr : 641 ≤ r ∧ r ≤ 646) (h : fF a k) : up2 fi r j v a k = fi a k := up2_row _ _ (by have := h.2; omega)
theorem fF_emt {fi : Nat → Nat → Int32} {m c a k : Nat} (h : fF a k) : emt fi m c a k = fi a k := by
  by_cases e : a = 604
  · subst e; exact emt_col (by have := h.1; omega)
  · exact emt_row e (by have := h.2; omega)
theorem fF_aF {a k : Nat} (h : fF a k) : aF a k := ⟨by have := h.1; omega, by have := h.2; omega⟩
theorem atom_inr {y : Nat → Nat} {n p q : Nat} (hp : p ≤ n) (h : atomW y n p = .inr q) : q ≤ n := by
  unfold atomW at h
  split at h
  · split at h
    · rename_i h58
      have hs := lok_pos (y := y) (n := n) (p := skip y n (wend y n p)) (by rw [h58]; decide)
      split at h
      · cases h
      · cases h; exact skip_le y (by omega)
    · cases h
  · split at h
    · rename_i hc
      have hpn : p < n := lok_pos (y := y) (p := p) (by omega)
      split at h
      · cases h
      · cases h; exact skip_le y (by omega)
    · split at h
      · rename_i hc
        have hpn : p < n := lok_pos (y := y) (p := p) (by omega)
        split at h
        · cases h
        · cases h; exact skip_le y (by omega)
      · split at h
        · cases h
        · cases h; exact hp
section MT
variable {d L : Nat} {fi : Nat → Nat → Int32} {fl : Nat → Nat → Int64} {fr : Nat → Nat → Option Nat} {F G : Nat} {y : Nat → Nat} {n p o : Nat} {S : List FS} {π : List Nat}
theorem cm_opens (hF : FRok F G fr) (h : MZ fi y n p S π o) (hb : S.length + π.length ≤ p) (hp : p < n) (ho : o ≤ 12) {c : Nat} (hc : c < 128) : Rn (d + 1) 54 0 [some (.ref 604), some (.int (nI c))] [] (SH L, fi, fl, fr) (fun v h' => v = none ∧ ∃ fi', h' = (SH L, fi', fl, fr) ∧ (∀ a k, fF a k → fi' a k = fi a k) ∧ ((o = 12 ∧ fi' 604 55 = nI p) ∨ (o ≠ 12 ∧ MZ fi' y n (p + 1) S (c :: π) (o + 1)))) := by
  obtain ⟨hR, hi, hM, h56, hP⟩ := h
  have hn := hR.2.2.2.1
  refine Rn.aload_n k_54 rfl rfl ?_
  refine Rn.getI k_54 rfl rfl (s604 L) ?_
  rw [h56]
  refine Rn.bipush (12) k_54 rfl rfl ?_
  refine Rn.icmp_ne 14 k_54 rfl rfl (fun h1 => ?_) (fun h1 => ?_)
  · rw [c_eq 12 12 rfl (by omega) (by decide)] at h1
    refine Rn.aload_n k_54 rfl rfl ?_
    refine Rn.dupa k_54 rfl ?_
    refine Rn.getI k_54 rfl rfl (s604 L) ?_
    rw [h56]
    refine Rn.iconst (1) k_54 rfl rfl ?_
    refine Rn.iadd k_54 rfl ?_
    rw [c_add 1 1 rfl]
    refine Rn.putI k_54 rfl (rfl) (s604 L) ?_
    refine Rn.aload_n k_54 rfl rfl ?_
    refine Rn.getA k_54 rfl rfl (s604 L) (hF.l 70 rfl) ?_
    refine Rn.aload_n k_54 rfl rfl ?_
    refine Rn.getI k_54 rfl rfl (s604 L) ?_
    refine Rn.iload_n k_54 rfl rfl ?_
    refine Rn.iastore (π.length) k_54 rfl (s646 L) (hP.1) (by omega) (by decide) (rfl) ?_
    refine Rn.aload_n k_54 rfl rfl ?_
    refine Rn.dupa k_54 rfl ?_
    refine Rn.getI k_54 rfl rfl (s604 L) ?_
    rw [show up2 (up2 fi 604 56 (nI (o + 1))) 646 π.length (nI c) 604 57 = nI π.length from hP.1]
    refine Rn.iconst (1) k_54 rfl rfl ?_
    refine Rn.iadd k_54 rfl ?_
    rw [c_add 1 1 rfl]
    refine Rn.putI k_54 rfl (rfl) (s604 L) ?_
    refine Rn.aload_n k_54 rfl rfl ?_
    refine Rn.dupa k_54 rfl ?_
    refine Rn.getI k_54 rfl rfl (s604 L) ?_
    rw [show up2 (up2 (up2 fi 604 56 (nI (o + 1))) 646 π.length (nI c)) 604 57 (nI (π.length + 1)) 604 54 = nI p from hR.2.2.1]
    refine Rn.iconst (1) k_54 rfl rfl ?_
    refine Rn.iadd k_54 rfl ?_
    rw [c_add 1 1 rfl]
    refine Rn.putI k_54 rfl (rfl) (s604 L) ?_
    refine Rn.retv k_54 rfl q_54 rfl ?_
    refine ⟨rfl, _, rfl, fun a k ha => ?_, Or.inr ⟨h1, ?_, hi, ?_, rfl, ?_⟩⟩
    · rw [fF_col (by omega) ha, fF_col (by omega) ha, fF_row (by omega) ha, fF_col (by omega) ha]
    · exact hR.keep (fun k => rfl) rfl rfl (by omega)
    · exact hM.keep rfl (fun a j z1 z2 => by rw [up2_row _ _ (by omega), up2_row _ _ (by omega), up2_row _ _ (by omega), up2_row _ _ (by omega)])
    · refine hP.push hc rfl ?_ (fun j hj => ?_)
      · rw [up2_row _ _ (by omega), up2_row _ _ (by omega), up2_same]
      · rw [up2_row _ _ (by omega), up2_row _ _ (by omega), up2_col _ _ (by omega), up2_row _ _ (by omega)]
  · rw [c_eq 12 12 rfl (by omega) (by decide)] at h1
    refine Rn.aload_n k_54 rfl rfl ?_
    refine Rn.cV1M k_54 rfl rfl q_51 rfl (Nat.le_of_ble_eq_true rfl) (Nat.le_of_ble_eq_true rfl) (s604 L) (cm_fail hF hi hR.2.2.1) ?_
    refine Rn.retv k_54 rfl q_54 rfl ?_
    exact ⟨rfl, _, rfl, fun a k ha => fF_col (by omega) ha, Or.inl ⟨h1, up2_same _ _ _ _⟩⟩
theorem cm_top (hF : FRok F G fr) (hP : MPl fi π) (hb : π.length ≤ 120) : Rn d 59 0 [some (.ref 604)] [] (SH L, fi, fl, fr) (Ret (SH L, fi, fl, fr) (some (.int (nI (π.headD 0))))) := by
  refine Rn.aload_n k_59 rfl rfl ?_
  refine Rn.getI k_59 rfl rfl (s604 L) ?_
  rw [hP.1]
  refine Rn.if_ne 11 k_59 rfl rfl (fun h1 => ?_) (fun h1 => ?_)
  · rw [c_eq 0 0 rfl (by omega) (by decide)] at h1
    cases π with
    | nil => exact absurd rfl h1
    | cons c π =>
      obtain ⟨t1, t2⟩ := hP.top
      rw [List.length_cons] at hb
      refine Rn.aload_n k_59 rfl rfl ?_
      refine Rn.getA k_59 rfl rfl (s604 L) (hF.l 70 rfl) ?_
      refine Rn.aload_n k_59 rfl rfl ?_
      refine Rn.getI k_59 rfl rfl (s604 L) ?_
      rw [hP.1, List.length_cons]
      refine Rn.iconst (1) k_59 rfl rfl ?_
      refine Rn.isub k_59 rfl ?_
      rw [c_sub 1 1 rfl (by omega), Nat.add_sub_cancel]
      refine Rn.iaload (π.length) k_59 rfl (s646 L) (rfl) (by omega) (by decide) ?_
      rw [t1]
      refine Rn.reti k_59 rfl q_59 rfl (rfl) ?_
      exact ⟨rfl, rfl⟩
  · rw [c_eq 0 0 rfl (by omega) (by decide)] at h1
    have : π = [] := List.eq_nil_of_length_eq_zero h1
    subst this
    refine Rn.iconst (0) k_59 rfl rfl ?_
    refine Rn.goto 22 k_59 rfl rfl ?_
    refine Rn.reti k_59 rfl q_59 rfl (rfl) ?_
    exact ⟨rfl, rfl⟩
theorem cm_drop (hF : FRok F G fr) {t : Nat} (hP : MPl fi (t :: π)) (hM : fi 604 47 = nI S.length) (hb : S.length + π.length ≤ 119) : Rn (d + 1) 60 0 [some (.ref 604)] [] (SH L, fi, fl, fr) (Ret (SH L, emt (up2 fi 604 57 (nI π.length)) S.length t, fl, fr) none) := by
  obtain ⟨t1, t2⟩ := hP.top
  refine Rn.aload_n k_60 rfl rfl ?_
  refine Rn.dupa k_60 rfl ?_
  refine Rn.getI k_60 rfl rfl (s604 L) ?_
  rw [hP.1, List.length_cons]
  refine Rn.iconst (1) k_60 rfl rfl ?_
  refine Rn.isub k_60 rfl ?_
  rw [c_sub 1 1 rfl (by omega), Nat.add_sub_cancel]
  refine Rn.putI k_60 rfl (rfl) (s604 L) ?_
  refine Rn.aload_n k_60 rfl rfl ?_
  refine Rn.aload_n k_60 rfl rfl ?_
  refine Rn.getA k_60 rfl rfl (s604 L) (hF.l 70 rfl) ?_
  refine Rn.aload_n k_60 rfl rfl ?_
  refine Rn.getI k_60 rfl rfl (s604 L) ?_
  refine Rn.iaload (π.length) k_60 rfl (s646 L) (rfl) (by omega) (by decide) ?_
  rw [show up2 fi 604 57 (nI π.length) 646 π.length = nI t from t1]
  refine Rn.cV2M k_60 rfl rfl q_52 rfl (Nat.le_of_ble_eq_true rfl) (Nat.le_of_ble_eq_true rfl) (s604 L) (cm_emit hF (show up2 fi 604 57 (nI π.length) 604 47 = nI S.length from hM) (by omega)) ?_
  refine Rn.retv k_60 rfl q_60 rfl ?_
  exact ⟨rfl, rfl⟩
theorem fcd_op {t : Nat} (h : t = 33 ∨ t = 38 ∨ t = 124) : fcd t = t := by
  rcases h with rfl | rfl | rfl <;> rfl
theorem MZ.drop {t : Nat} (h : MZ fi y n p S (t :: π) o) (ht : t = 33 ∨ t = 38 ∨ t = 124) : MZ (emt (up2 fi 604 57 (nI π.length)) S.length t) y n p (S ++ [fop t]) π o := by
  obtain ⟨hR, hi, hM, h56, hP⟩ := h
  refine ⟨hR.keep (fun k => ?_) ?_ ?_ hR.2.2.2.2, ?_, ?_, ?_, ?_⟩
  · rw [emt_row (by decide) (by omega), up2_row _ _ (by decide)]
  · rw [emt_col (by decide), up2_col _ _ (by decide)]
  · rw [emt_col (by decide), up2_col _ _ (by decide)]; exact hR.2.2.1
  · rw [emt_col (by decide), up2_col _ _ (by decide)]; exact hi
  · have := (hM.keep (fi' := up2 fi 604 57 (nI π.length)) (up2_col _ _ (by decide)) (fun a j z1 z2 => up2_row _ _ (by omega))).emit (c := t) (by omega)
    rw [fcd_op ht] at this
    exact this
  · rw [emt_col (by decide), up2_col _ _ (by decide)]; exact h56
  · exact hP.pop (by rw [emt_col (by decide), up2_same]) (fun j => by rw [emt_row (by decide) (by omega), up2_row _ _ (by decide)])
theorem cm_turnRound (hF : FRok F G fr) : ∀ (π : List Nat) (fi : Nat → Nat → Int32) (S : List FS) (o : Nat), MZ fi y n p S π o → S.length + π.length ≤ 120 → co π = o → o ≤ 12 → Rn (d + 2) 61 0 [some (.ref 604)] [] (SH L, fi, fl, fr) (fun v h' => v = none ∧ ∃ fi', h' = (SH L, fi', fl, fr) ∧ (∀ a k, fF a k → fi' a k = fi a k) ∧ MZ fi' y n p (turn π S o).1 (turn π S o).2.1 (turn π S o).2.2) := by
  intro π
  induction π with
  | nil =>
    intro fi S o h hb hc ho
    refine Rn.aload_n k_61 rfl rfl ?_
    refine Rn.cV1I k_61 rfl rfl q_59 rfl (Nat.le_of_ble_eq_true rfl) (Nat.le_of_ble_eq_true rfl) (s604 L) (cm_top hF h.2.2.2.2 (by omega)) ?_
    refine Rn.bipush (33) k_61 rfl rfl ?_
    refine Rn.icmp_ne 26 k_61 rfl rfl (fun h1 => ?_) (fun h1 => ?_)
    · refine Rn.retv k_61 rfl q_61 rfl ?_
      exact ⟨rfl, fi, rfl, fun _ _ _ => rfl, h⟩
    · exact absurd h1 (by decide)
  | cons c π ih =>
    intro fi S o h hb hc ho
    rw [List.length_cons] at hb
    have hc128 := h.2.2.2.2.top.2
    refine Rn.aload_n k_61 rfl rfl ?_
    refine Rn.cV1I k_61 rfl rfl q_59 rfl (Nat.le_of_ble_eq_true rfl) (Nat.le_of_ble_eq_true rfl) (s604 L) (cm_top hF h.2.2.2.2 (by rw [List.length_cons]; omega)) ?_
    refine Rn.bipush (33) k_61 rfl rfl ?_
    rw [List.headD_cons]
    refine Rn.icmp_ne 26 k_61 rfl rfl (fun h1 => ?_) (fun h1 => ?_)
    · rw [c_eq 33 33 rfl (by omega) (by decide)] at h1
      refine Rn.retv k_61 rfl q_61 rfl ?_
      refine ⟨rfl, fi, rfl, fun _ _ _ => rfl, ?_⟩
      rw [turn, if_neg h1]
      exact h
    · rw [c_eq 33 33 rfl (by omega) (by decide)] at h1
      subst h1
      have hco : co (33 :: π) = 1 + co π := rfl
      have hz := h.drop (Or.inl rfl)
      refine Rn.aload_n k_61 rfl rfl ?_
      refine Rn.cV1M k_61 rfl rfl q_60 rfl (Nat.le_of_ble_eq_true rfl) (Nat.le_of_ble_eq_true rfl) (s604 L) (cm_drop hF h.2.2.2.2 h.2.2.1.1 (by omega)) ?_
      refine Rn.aload_n k_61 rfl rfl ?_
      refine Rn.dupa k_61 rfl ?_
      refine Rn.getI k_61 rfl rfl (s604 L) ?_
      rw [hz.2.2.2.1]
      refine Rn.iconst (1) k_61 rfl rfl ?_
      refine Rn.isub k_61 rfl ?_
      rw [c_sub 1 1 rfl (by omega)]
      refine Rn.putI k_61 rfl (rfl) (s604 L) ?_
      refine Rn.goto 0 k_61 rfl rfl ?_
      have hz2 : MZ (up2 (emt (up2 fi 604 57 (nI π.length)) S.length 33) 604 56 (nI (o - 1))) y n p (S ++ [fop 33]) π (o - 1) := ⟨hz.1.keep (fun k => up2_row _ _ (by decide)) (up2_col _ _ (by decide)) ((up2_col _ _ (by decide)).trans hz.1.2.2.1) hz.1.2.2.2.2, (up2_col _ _ (by decide)).trans hz.2.1, hz.2.2.1.keep (up2_col _ _ (by decide)) (fun a j z1 z2 => up2_row _ _ (by omega)), up2_same _ _ _ _, hz.2.2.2.2.keep (up2_col _ _ (by decide)) (fun j => up2_row _ _ (by decide))⟩
      refine (ih _ _ (o - 1) hz2 (by rw [List.length_append]; show S.length + 1 + _ ≤ 120; omega) (by omega) (by omega)).mono ?_
      rintro v h' ⟨rfl, fi', rfl, k1, k2⟩
      refine ⟨rfl, fi', rfl, fun a k ha => ?_, ?_⟩
      · rw [k1 a k ha, fF_col (by omega) ha, fF_emt ha, fF_col (by omega) ha]
      · rw [turn, if_pos rfl]
        exact k2
def tmQ (L : Nat) (fi : Nat → Nat → Int32) (fl : Nat → Nat → Int64) (fr : Nat → Nat → Option Nat) (y : Nat → Nat) (n q : Nat) (S : List FS) (π : List Nat) (o : Nat) : Option Value → am_H → Prop := fun v h' => ∃ fi', h' = (SH L, fi', fl, fr) ∧ (∀ a k, fF a k → fi' a k = fi a k) ∧
  ((v = some (.int 0) ∧ (lok y n q = 33 ∨ lok y n q = 40) ∧ o = 12 ∧ fi' 604 55 = nI q) ∨
   (v = some (.int 0) ∧ (lok y n q = 33 ∨ lok y n q = 40) ∧ o ≠ 12 ∧ MZ fi' y n (q + 1) S (lok y n q :: π) (o + 1)) ∨
   (v = some (.int 0) ∧ ¬ (lok y n q = 33 ∨ lok y n q = 40) ∧ ∃ q', q' ≤ n ∧ fi' 604 55 = nI q' ∧ (atomW y n q = .inr q' ∨ ∃ a, atomW y n q = .inl (a, q') ∧ isN (lok y n q') = true)) ∨
   (v = some (.int 1) ∧ ¬ (lok y n q = 33 ∨ lok y n q = 40) ∧ ∃ a e, atomW y n q = .inl (a, e) ∧ MZ fi' y n e (S ++ [a]) π o))
set_option maxHeartbeats 2000000 in
theorem cm_term (hF : FRok F G fr) (h : MZ fi y n p S π o) (hb : S.length + π.length ≤ p) (ho : o ≤ 12) : Rn (d + 4) 58 0 [some (.ref 604), none] [] (SH L, fi, fl, fr) (tmQ L fi fl fr y n (skip y n p) S π o) := by
  have hn := h.1.2.2.2.1
  have hpn := h.1.2.2.2.2
  have hge := skip_ge y n p
  have hqn := skip_le y hpn
  have h128 := lok_128 h.1
  refine Rn.aload_n k_58 rfl rfl ?_
  refine Rn.cV1M k_58 rfl rfl q_50 rfl (Nat.le_of_ble_eq_true rfl) (Nat.le_of_ble_eq_true rfl) (s604 L) (cm_blanks hF h.1) ?_
  generalize skip y n p = q at hge hqn ⊢
  have hz := h.at hqn
  have kq : ∀ a k, fF a k → up2 fi 604 54 (nI q) a k = fi a k := fun a k ha => fF_col (by omega) ha
  generalize up2 fi 604 54 (nI q) = f0 at hz kq ⊢
  have hlk := h128 q
  -- the end of an atom
  have fin : ∀ (f1 : Nat → Nat → Int32), (∀ a k, aF a k → f1 a k = f0 a k) → ¬ (lok y n q = 33 ∨ lok y n q = 40) → ((∃ q', f1 604 55 = nI q' ∧ (atomW y n q = .inr q' ∨ ∃ a, atomW y n q = .inl (a, q') ∧ isN (lok y n q') = true)) ∨ ∃ a e, atomW y n q = .inl (a, e) ∧ f1 604 55 = -1 ∧ f1 604 54 = nI e ∧ MMd f1 y n (S ++ [a])) → Rn (d + 4) 58 131 [some (.ref 604), some (.int (nI (lok y n q)))] [] (SH L, f1, fl, fr) (tmQ L fi fl fr y n q S π o) := by
    intro f1 k1 hno hw
    have k2 : ∀ a k, fF a k → f1 a k = fi a k := fun a k ha => (k1 a k (fF_aF ha)).trans (kq a k ha)
    rcases hw with ⟨q', w1, w2⟩ | ⟨a, e, w1, w2, w3, w4⟩
    · have hq' : q' ≤ n := by
        rcases w2 with w2 | ⟨a, w2, -⟩
        · exact atom_inr hqn w2
        · exact (atom_ok hqn w2).2.2.2
      refine Rn.aload_n k_58 rfl rfl ?_
      refine Rn.getI k_58 rfl rfl (s604 L) ?_
      rw [w1]
      refine Rn.iconst (-1) k_58 rfl rfl ?_
      refine Rn.icmp_ne 143 k_58 rfl rfl (fun h11 => ?_) (fun h11 => ?_)
      · refine Rn.iconst (0) k_58 rfl rfl ?_
        refine Rn.reti k_58 rfl q_58 rfl (rfl) ?_
        exact ⟨f1, rfl, k2, Or.inr (Or.inr (Or.inl ⟨rfl, hno, q', hq', w1, w2⟩))⟩
      · exact absurd h11 (c_m1 (by omega))
    · refine Rn.aload_n k_58 rfl rfl ?_
      refine Rn.getI k_58 rfl rfl (s604 L) ?_
      rw [w2]
      refine Rn.iconst (-1) k_58 rfl rfl ?_
      refine Rn.icmp_ne 143 k_58 rfl rfl (fun h11 => ?_) (fun h11 => ?_)
      · exact absurd rfl h11
      · refine Rn.iconst (1) k_58 rfl rfl ?_
        refine Rn.goto 144 k_58 rfl rfl ?_
        refine Rn.reti k_58 rfl q_58 rfl (rfl) ?_
        refine ⟨f1, rfl, k2, Or.inr (Or.inr (Or.inr ⟨rfl, hno, a, e, w1, ?_, w2, w4, ?_, ?_⟩))⟩
        · exact hz.1.of k1 w3 (atom_ok hqn w1).2.2.2
        · exact (k1 604 56 ⟨Or.inr (by decide), by decide⟩).trans hz.2.2.2.1
        · exact hz.2.2.2.2.keep (k1 604 57 ⟨Or.inr (by decide), by decide⟩) (fun j => k1 646 j ⟨Or.inl (by decide), by decide⟩)
  have opn : (lok y n q = 33 ∨ lok y n q = 40) → Rn (d + 4) 58 21 [some (.ref 604), some (.int (nI (lok y n q)))] [] (SH L, f0, fl, fr) (tmQ L fi fl fr y n q S π o) := by
    intro hc
    have hqn' : q < n := lok_pos (y := y) (by omega)
    refine Rn.aload_n k_58 rfl rfl ?_
    refine Rn.iload_n k_58 rfl rfl ?_
    refine Rn.cV2 k_58 rfl rfl q_54 rfl (Nat.le_of_ble_eq_true rfl) (Nat.le_of_ble_eq_true rfl) (s604 L) (cm_opens hF hz (by omega) hqn' ho hlk) (fun v h' hq => ?_)
    obtain ⟨rfl, f1, rfl, k1, hw⟩ := hq
    show Rn _ _ _ _ [] _ _
    refine Rn.iconst (0) k_58 rfl rfl ?_
    refine Rn.reti k_58 rfl q_58 rfl (rfl) ?_
    have k2 : ∀ a k, fF a k → f1 a k = fi a k := fun a k ha => (k1 a k ha).trans (kq a k ha)
    rcases hw with ⟨w1, w2⟩ | ⟨w1, w2⟩
    · exact ⟨f1, rfl, k2, Or.inl ⟨rfl, hc, w1, w2⟩⟩
    · exact ⟨f1, rfl, k2, Or.inr (Or.inl ⟨rfl, hc, w1, w2⟩)⟩
  have hSl : S.length ≤ 120 := by omega
  refine Rn.aload_n k_58 rfl rfl ?_
  refine Rn.cV1I k_58 rfl rfl q_49 rfl (Nat.le_of_ble_eq_true rfl) (Nat.le_of_ble_eq_true rfl) (s604 L) (cm_look hF hz.1) ?_
  refine Rn.istore_n1 k_58 rfl rfl ?_
  refine Rn.iload_n k_58 rfl rfl ?_
  refine Rn.bipush (33) k_58 rfl rfl ?_
  refine Rn.icmp_eq 21 k_58 rfl rfl (fun h1 => ?_) (fun h1 => ?_)
  · rw [c_eq 33 33 rfl (by omega) (by decide)] at h1
    exact opn (Or.inl h1)
  · rw [c_eq 33 33 rfl (by omega) (by decide)] at h1
    refine Rn.iload_n k_58 rfl rfl ?_
    refine Rn.bipush (40) k_58 rfl rfl ?_
    refine Rn.icmp_ne 28 k_58 rfl rfl (fun h2 => ?_) (fun h2 => ?_)
    · rw [c_eq 40 40 rfl (by omega) (by decide)] at h2
      have hno : ¬ (lok y n q = 33 ∨ lok y n q = 40) := by omega
      refine Rn.iload_n k_58 rfl rfl ?_
      refine Rn.cS1I k_58 rfl rfl q_15 rfl (Nat.le_of_ble_eq_true rfl) (Nat.le_of_ble_eq_true rfl) (cm_isLetter (by omega)) ?_
      refine Rn.if_eq 42 k_58 rfl rfl (fun h3 => ?_) (fun h3 => ?_)
      · (try rw [bI_0] at h3)
        (try rw [Bool.not_eq_false] at h3)
        refine Rn.iload_n k_58 rfl rfl ?_
        refine Rn.bipush (64) k_58 rfl rfl ?_
        have nmb : (lok y n q = 64 ∨ lok y n q = 61) → Rn (d + 4) 58 54 [some (.ref 604), some (.int (nI (lok y n q)))] [] (SH L, f0, fl, fr) (tmQ L fi fl fr y n q S π o) := by
          intro hc
          have call : Rn (d + 4) 58 66 [some (.ref 604), some (.int (nI (lok y n q)))] [.int (nI (fcd (lok y n q))), .ref 604] (SH L, f0, fl, fr) (tmQ L fi fl fr y n q S π o) := by
            refine Rn.cV2 k_58 rfl rfl q_56 rfl (Nat.le_of_ble_eq_true rfl) (Nat.le_of_ble_eq_true rfl) (s604 L) (cm_nameBehind hF hz.1 hz.2.1 hz.2.2.1 hSl hc) (fun v h' hq => ?_)
            obtain ⟨rfl, f1, rfl, k1, hw⟩ := hq
            show Rn _ _ _ _ [] _ _
            refine Rn.goto 131 k_58 rfl rfl ?_
            exact fin f1 k1 hno hw
          refine Rn.aload_n k_58 rfl rfl ?_
          refine Rn.iload_n k_58 rfl rfl ?_
          refine Rn.bipush (64) k_58 rfl rfl ?_
          refine Rn.icmp_ne 65 k_58 rfl rfl (fun h6 => ?_) (fun h6 => ?_)
          · rw [c_eq 64 64 rfl (by omega) (by decide)] at h6
            have : lok y n q = 61 := by omega
            rw [this] at call ⊢
            refine Rn.iconst (3) k_58 rfl rfl ?_
            exact call
          · rw [c_eq 64 64 rfl (by omega) (by decide)] at h6
            rw [h6] at call ⊢
            refine Rn.iconst (2) k_58 rfl rfl ?_
            refine Rn.goto 66 k_58 rfl rfl ?_
            exact call
        refine Rn.icmp_eq 54 k_58 rfl rfl (fun h4 => ?_) (fun h4 => ?_)
        · rw [c_eq 64 64 rfl (by omega) (by decide)] at h4
          exact nmb (Or.inl h4)
        · rw [c_eq 64 64 rfl (by omega) (by decide)] at h4
          refine Rn.iload_n k_58 rfl rfl ?_
          refine Rn.bipush (61) k_58 rfl rfl ?_
          refine Rn.icmp_ne 72 k_58 rfl rfl (fun h5 => ?_) (fun h5 => ?_)
          · rw [c_eq 61 61 rfl (by omega) (by decide)] at h5
            refine Rn.iload_n k_58 rfl rfl ?_
            refine Rn.bipush (60) k_58 rfl rfl ?_
            refine Rn.icmp_ne 85 k_58 rfl rfl (fun h7 => ?_) (fun h7 => ?_)
            · rw [c_eq 60 60 rfl (by omega) (by decide)] at h7
              have eA : atomW y n q = if lok y n q = 63 ∨ lok y n q = 126 then .inl ((lok y n q, [], []), q + 1) else .inr q := by
                unfold atomW
                rw [if_neg (by rw [h3]; decide), if_neg (by omega), if_neg h7]
              refine Rn.iload_n k_58 rfl rfl ?_
              refine Rn.bipush (63) k_58 rfl rfl ?_
              have em : (lok y n q = 63 ∨ lok y n q = 126) → Rn (d + 4) 58 97 [some (.ref 604), some (.int (nI (lok y n q)))] [] (SH L, f0, fl, fr) (tmQ L fi fl fr y n q S π o) := by
                intro hc
                have hqn' : q < n := lok_pos (y := y) (by omega)
                rw [if_pos hc] at eA
                have call : Rn (d + 4) 58 111 [some (.ref 604), some (.int (nI (lok y n q)))] [.int (nI (fcd (lok y n q))), .ref 604] (SH L, f0, fl, fr) (tmQ L fi fl fr y n q S π o) := by
                  refine Rn.cV2M k_58 rfl rfl q_52 rfl (Nat.le_of_ble_eq_true rfl) (Nat.le_of_ble_eq_true rfl) (s604 L) (cm_emit hF hz.2.2.1.1 (by omega)) ?_
                  refine Rn.aload_n k_58 rfl rfl ?_
                  refine Rn.dupa k_58 rfl ?_
                  refine Rn.getI k_58 rfl rfl (s604 L) ?_
                  have e54 : emt f0 S.length (fcd (lok y n q)) 604 54 = nI q := (emt_col (by decide)).trans hz.1.2.2.1
                  have e55 : emt f0 S.length (fcd (lok y n q)) 604 55 = -1 := (emt_col (by decide)).trans hz.2.1
                  rw [e54]
                  refine Rn.iconst (1) k_58 rfl rfl ?_
                  refine Rn.iadd k_58 rfl ?_
                  rw [c_add 1 1 rfl]
                  refine Rn.putI k_58 rfl (rfl) (s604 L) ?_
                  refine Rn.goto 131 k_58 rfl rfl ?_
                  refine fin _ (fun a k ha => ?_) hno (Or.inr ⟨_, _, eA, e55, up2_same _ _ _ _, (hz.2.2.1.emit (by omega)).keep (up2_col _ _ (by decide)) (fun a j z1 z2 => up2_row _ _ (by omega))⟩)
                  obtain ⟨z1, z2⟩ := ha
                  by_cases ea : a = 604
                  · subst ea
                    rw [up2_col _ _ (by omega), emt_col (by omega)]
                  · rw [up2_row _ _ ea, emt_row ea (by omega)]
                refine Rn.aload_n k_58 rfl rfl ?_
                refine Rn.iload_n k_58 rfl rfl ?_
                refine Rn.bipush (63) k_58 rfl rfl ?_
                refine Rn.icmp_ne 109 k_58 rfl rfl (fun h10 => ?_) (fun h10 => ?_)
                · rw [c_eq 63 63 rfl (by omega) (by decide)] at h10
                  have : lok y n q = 126 := by omega
                  rw [this] at call ⊢
                  refine Rn.bipush (7) k_58 rfl rfl ?_
                  exact call
                · rw [c_eq 63 63 rfl (by omega) (by decide)] at h10
                  rw [h10] at call ⊢
                  refine Rn.bipush (6) k_58 rfl rfl ?_
                  refine Rn.goto 111 k_58 rfl rfl ?_
                  exact call
              refine Rn.icmp_eq 97 k_58 rfl rfl (fun h8 => ?_) (fun h8 => ?_)
              · rw [c_eq 63 63 rfl (by omega) (by decide)] at h8
                exact em (Or.inl h8)
              · rw [c_eq 63 63 rfl (by omega) (by decide)] at h8
                refine Rn.iload_n k_58 rfl rfl ?_
                refine Rn.bipush (126) k_58 rfl rfl ?_
                refine Rn.icmp_ne 127 k_58 rfl rfl (fun h9 => ?_) (fun h9 => ?_)
                · rw [c_eq 126 126 rfl (by omega) (by decide)] at h9
                  rw [if_neg (by omega)] at eA
                  refine Rn.aload_n k_58 rfl rfl ?_
                  refine Rn.cV1M k_58 rfl rfl q_51 rfl (Nat.le_of_ble_eq_true rfl) (Nat.le_of_ble_eq_true rfl) (s604 L) (cm_fail hF hz.2.1 hz.1.2.2.1) ?_
                  refine fin _ (fun a k ha => ?_) hno (Or.inl ⟨q, up2_same _ _ _ _, Or.inl eA⟩)
                  rcases ha.1 with z | z
                  · exact up2_row _ _ z
                  · exact up2_col _ _ z.2.2
                · rw [c_eq 126 126 rfl (by omega) (by decide)] at h9
                  exact em (Or.inr h9)
            · rw [c_eq 60 60 rfl (by omega) (by decide)] at h7
              refine Rn.aload_n k_58 rfl rfl ?_
              refine Rn.cV1 k_58 rfl rfl q_57 rfl (Nat.le_of_ble_eq_true rfl) (Nat.le_of_ble_eq_true rfl) (s604 L) (cm_less hF hz.1 hz.2.1 hz.2.2.1 hSl h7) (fun v h' hq => ?_)
              obtain ⟨rfl, f1, rfl, k1, hw⟩ := hq
              show Rn _ _ _ _ [] _ _
              refine Rn.goto 131 k_58 rfl rfl ?_
              exact fin f1 k1 hno hw
          · rw [c_eq 61 61 rfl (by omega) (by decide)] at h5
            exact nmb (Or.inr h5)
      · (try rw [bI_0] at h3)
        (try rw [Bool.not_eq_false] at h3)
        refine Rn.aload_n k_58 rfl rfl ?_
        refine Rn.cV1 k_58 rfl rfl q_55 rfl (Nat.le_of_ble_eq_true rfl) (Nat.le_of_ble_eq_true rfl) (s604 L) (cm_tagOrValue hF hz.1 hz.2.1 hz.2.2.1 hSl h3) (fun v h' hq => ?_)
        obtain ⟨rfl, f1, rfl, k1, hw⟩ := hq
        show Rn _ _ _ _ [] _ _
        refine Rn.goto 131 k_58 rfl rfl ?_
        exact fin f1 k1 hno hw
    · rw [c_eq 40 40 rfl (by omega) (by decide)] at h2
      exact opn (Or.inr h2)
end MT
