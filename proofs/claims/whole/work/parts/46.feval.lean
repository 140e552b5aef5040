/-! what a read filter is; how a test goes through it -/
def fkd (c : Nat) : Prop := c = 35 ∨ c = 64 ∨ c = 61 ∨ c = 58 ∨ c = 60 ∨ c = 63 ∨ c = 126 ∨ c = 33 ∨ c = 38 ∨ c = 124
def fsok (s : FS) : Prop := okV s.2.1 = true ∧ okV s.2.2 = true ∧ fkd s.1 ∧ (s.1 = 60 → ∃ c, s.2.2 = [c] ∧ 49 ≤ c ∧ c ≤ 57)
theorem fsok_mk {c : Nat} {u v : Nm} (h1 : okV u = true) (h2 : okV v = true) (h3 : fkd c) (h4 : c = 60 → ∃ c, v = [c] ∧ 49 ≤ c ∧ c ≤ 57) : fsok (c, u, v) := ⟨h1, h2, h3, h4⟩
theorem fsok_op {c : Nat} (h : c = 33 ∨ c = 38 ∨ c = 124) : fsok (fop c) := fsok_mk rfl rfl (by unfold fkd; omega) (fun z => by omega)
def isOp (c : Nat) : Prop := c = 33 ∨ c = 38 ∨ c = 124
def dps : List FS → Nat → Option Nat
  | [], d => some d
  | s :: S, d => if s.1 = 33 then (if 1 ≤ d then dps S d else none) else if s.1 = 38 ∨ s.1 = 124 then (if 2 ≤ d then dps S (d - 1) else none) else dps S (d + 1)
theorem dps_app : ∀ (S : List FS) (s : FS) (d e : Nat), dps S d = some e → dps (S ++ [s]) d = dps [s] e
  | [], s, d, e, h => by cases h; rfl
  | t :: S, s, d, e, h => by
    rw [List.cons_append, dps]
    rw [dps] at h
    split at h
    · rename_i h1
      rw [if_pos h1]
      split at h
      · rename_i h2; rw [if_pos h2]; exact dps_app S s _ _ h
      · cases h
    · rename_i h1
      rw [if_neg h1]
      split at h
      · rename_i h2
        rw [if_pos h2]
        split at h
        · rename_i h3; rw [if_pos h3]; exact dps_app S s _ _ h
        · cases h
      · rename_i h2
        rw [if_neg h2]
        exact dps_app S s _ _ h
def bo : List Nat → Nat
  | [] => 0
  | c :: q => (if c = 38 ∨ c = 124 then 1 else 0) + bo q
def co : List Nat → Nat
  | [] => 0
  | c :: q => (if c = 33 ∨ c = 40 then 1 else 0) + co q
section EV
variable {y : Nat → Nat} {n : Nat}
theorem wend_le {p : Nat} (h : p ≤ n) : wend y n p ≤ n := (wnd_ge (y := y) (n := n) 12 p).2.2 h
theorem lok_pos {p : Nat} (h : lok y n p ≠ 0) : p < n := lok_lt (c := lok y n p) rfl h
theorem atom_ok {p : Nat} {a : FS} {e : Nat} (hp : p ≤ n) (h : atomW y n p = .inl (a, e)) : fsok a ∧ ¬ isOp a.1 ∧ p < n ∧ e ≤ n := by
  unfold atomW at h
  split at h
  · rename_i hL
    have hpn : p < n := lok_pos (fun z => by rw [z] at hL; cases hL)
    have hw := wend_le (y := y) hp
    split at h
    · rename_i h58
      have hs := lok_pos (y := y) (n := n) (p := skip y n (wend y n p)) (by rw [h58]; decide)
      split at h
      · cases h
        exact ⟨fsok_mk (sl_okV _) (sl_okV _) (by unfold fkd; omega) (fun z => by omega), (by show ¬ isOp 58; unfold isOp; omega), hpn, wend_le (skip_le y (by omega))⟩
      · cases h
    · cases h
      exact ⟨fsok_mk (sl_okV _) rfl (by unfold fkd; omega) (fun z => by omega), (by show ¬ isOp 35; unfold isOp; omega), hpn, skip_le y hw⟩
  · split at h
    · rename_i hc
      have hpn : p < n := lok_pos (y := y) (p := p) (by omega)
      split at h
      · cases h
        exact ⟨fsok_mk (sl_okV _) rfl (by unfold fkd; omega) (fun z => by omega), (by show ¬ isOp (lok y n p); unfold isOp; omega), hpn, wend_le (skip_le y (by omega))⟩
      · cases h
    · split at h
      · rename_i hc
        have hpn : p < n := lok_pos (y := y) (p := p) (by omega)
        split at h
        · rename_i hd
          cases h
          have hs := lok_pos (y := y) (n := n) (p := skip y n (p + 1)) (by omega)
          refine ⟨fsok_mk rfl ?_ (by unfold fkd; omega) (fun _ => ⟨_, rfl, hd⟩), (by show ¬ isOp 60; unfold isOp; omega), hpn, hs⟩
          · show (decide (1 ≤ 12) && (isN (lok y n (skip y n (p + 1))) && true)) = true
            have : isN (lok y n (skip y n (p + 1))) = true := by
              unfold isN
              rw [decide_eq_true (show 48 ≤ lok y n (skip y n (p + 1)) by omega), decide_eq_true hd.2]
              simp
            rw [this]; rfl
        · cases h
      · split at h
        · rename_i hc
          have hpn : p < n := lok_pos (y := y) (p := p) (by omega)
          cases h
          exact ⟨fsok_mk rfl rfl (by unfold fkd; omega) (fun z => by omega), (by show ¬ isOp (lok y n p); unfold isOp; omega), hpn, hpn⟩
        · cases h
/-- what is held of the steps that are made: k terms are on the stack -/
def sOk (S : List FS) (k : Nat) : Prop := dps S 0 = some k ∧ ∀ x ∈ S, fsok x
theorem sOk.atom {S : List FS} {k : Nat} {a : FS} (h : sOk S k) (ha : fsok a) (hn : ¬ isOp a.1) : sOk (S ++ [a]) (k + 1) := by
  refine ⟨?_, fun x hx => ?_⟩
  · rw [dps_app S a 0 k h.1, dps, if_neg (fun z => hn (Or.inl z)), if_neg (fun z => hn (Or.inr z))]
    rfl
  · rcases List.mem_append.mp hx with z | z
    · exact h.2 x z
    · rw [List.mem_singleton.mp z]; exact ha
theorem sOk.neg {S : List FS} {k : Nat} (h : sOk S (k + 1)) : sOk (S ++ [fop 33]) (k + 1) := by
  refine ⟨?_, fun x hx => ?_⟩
  · rw [dps_app S _ 0 _ h.1, dps, if_pos (show (fop 33).1 = 33 from rfl), if_pos (by omega)]
    rfl
  · rcases List.mem_append.mp hx with z | z
    · exact h.2 x z
    · rw [List.mem_singleton.mp z]; exact fsok_op (Or.inl rfl)
theorem sOk.join {S : List FS} {k c : Nat} (hc : c = 38 ∨ c = 124) (h : sOk S (k + 2)) : sOk (S ++ [fop c]) (k + 1) := by
  refine ⟨?_, fun x hx => ?_⟩
  · rw [dps_app S _ 0 _ h.1, dps, if_neg (by show ¬ c = 33; omega), if_pos (show (fop c).1 = 38 ∨ (fop c).1 = 124 from hc), if_pos (by omega)]
    rfl
  · rcases List.mem_append.mp hx with z | z
    · exact h.2 x z
    · rw [List.mem_singleton.mp z]; exact fsok_op (Or.inr hc)
theorem turn_ok : ∀ (q : List Nat) (S : List FS) (o : Nat), sOk S (bo q + 1) → co q = o → sOk (turn q S o).1 (bo (turn q S o).2.1 + 1) ∧ co (turn q S o).2.1 = (turn q S o).2.2 ∧ (turn q S o).1.length + (turn q S o).2.1.length = S.length + q.length
  | [], S, o, h, hc => ⟨h, hc, rfl⟩
  | c :: q, S, o, h, hc => by
    unfold turn
    split
    · rename_i e
      subst e
      have h1 : sOk S (bo q + 1) := by
        have : bo (33 :: q) = bo q := by show (if (33 : Nat) = 38 ∨ (33 : Nat) = 124 then 1 else 0) + bo q = bo q; simp
        rw [this] at h; exact h
      have h2 : co q = o - 1 := by
        have : co (33 :: q) = 1 + co q := rfl
        omega
      obtain ⟨i1, i2, i3⟩ := turn_ok q (S ++ [fop 33]) (o - 1) h1.neg h2
      refine ⟨i1, i2, ?_⟩
      rw [i3, List.length_append]
      simp only [List.length_cons, List.length_nil]
      omega
    · exact ⟨h, hc, rfl⟩
theorem drp_ok (c : Nat) : ∀ (q : List Nat) (S : List FS), sOk S (bo q + 1) → sOk (drp c q S).1 (bo (drp c q S).2 + 1) ∧ co (drp c q S).2 = co q ∧ (drp c q S).1.length + (drp c q S).2.length = S.length + q.length
  | [], S, h => ⟨h, rfl, rfl⟩
  | t :: q, S, h => by
    unfold drp
    split
    · rename_i e
      have ht : t = 38 ∨ t = 124 := e.elim Or.inl (fun z => Or.inr z.1)
      have h1 : sOk S (bo q + 2) := by
        have : bo (t :: q) = 1 + bo q := by show (if t = 38 ∨ t = 124 then 1 else 0) + bo q = _; rw [if_pos ht]
        rw [this, show 1 + bo q + 1 = bo q + 2 by omega] at h
        exact h
      obtain ⟨i1, i2, i3⟩ := drp_ok c q (S ++ [fop t]) (h1.join ht)
      refine ⟨i1, ?_, ?_⟩
      · rw [i2]
        show co q = (if t = 33 ∨ t = 40 then 1 else 0) + co q
        rw [if_neg (by omega)]
        omega
      · rw [i3, List.length_append]
        simp only [List.length_cons, List.length_nil]
        omega
    · exact ⟨h, rfl, rfl⟩
/-- what is held of the machine -/
def mInv (n : Nat) (s : MS) : Prop := sOk s.2.2.1 (if s.1 = 1 then bo s.2.2.2.1 else bo s.2.2.2.1 + 1) ∧ co s.2.2.2.1 = s.2.2.2.2 ∧ s.2.2.1.length + s.2.2.2.1.length ≤ s.2.1 ∧ s.2.1 ≤ n ∧ s.2.2.2.2 ≤ 12
theorem turn_o : ∀ (q : List Nat) (S : List FS) (o : Nat), (turn q S o).2.2 ≤ o
  | [], _, _ => Nat.le_refl _
  | c :: q, S, o => by
    unfold turn
    split
    · have := turn_o q (S ++ [fop 33]) (o - 1); omega
    · exact Nat.le_refl _
theorem mi_push {p : Nat} {S : List FS} {q : List Nat} {o c : Nat} (h : mInv n (1, p, S, q, o)) (hc : c = 33 ∨ c = 40) (ho : o ≠ 12) {s : Nat} (hs : p ≤ s) (hsn : s < n) : mInv n (1, s + 1, S, c :: q, o + 1) := by
  obtain ⟨h1, h2, h3, h4, h5⟩ := h
  have h1 : sOk S (bo q) := h1
  have h2 : co q = o := h2
  have h3 : S.length + q.length ≤ p := h3
  have h5 : o ≤ 12 := h5
  refine ⟨?_, ?_, ?_, hsn, by show o + 1 ≤ 12; omega⟩
  · show sOk S ((if c = 38 ∨ c = 124 then 1 else 0) + bo q)
    rw [if_neg (by omega), Nat.zero_add]
    exact h1
  · show (if c = 33 ∨ c = 40 then 1 else 0) + co q = o + 1
    rw [if_pos hc]; omega
  · show S.length + (c :: q).length ≤ s + 1
    rw [List.length_cons]; omega
theorem mi_term {p : Nat} {S : List FS} {q : List Nat} {o : Nat} (h : mInv n (1, p, S, q, o)) {a : FS} {e : Nat} (ha : fsok a) (hn : ¬ isOp a.1) (he : p + 1 ≤ e) (hen : e ≤ n) : mInv n (ms2 e (turn q (S ++ [a]) o)) := by
  obtain ⟨h1, h2, h3, h4, h5⟩ := h
  have h1 : sOk S (bo q) := h1
  have h3 : S.length + q.length ≤ p := h3
  obtain ⟨i1, i2, i3⟩ := turn_ok q (S ++ [a]) o (h1.atom ha hn) h2
  refine ⟨i1, i2, ?_, hen, Nat.le_trans (turn_o q _ o) h5⟩
  show (turn q (S ++ [a]) o).1.length + (turn q (S ++ [a]) o).2.1.length ≤ e
  rw [i3, List.length_append, List.length_singleton]
  omega
theorem mi_sign {p : Nat} {S : List FS} {q : List Nat} {o c : Nat} (h : mInv n (2, p, S, q, o)) (hc : c = 38 ∨ c = 124) {s : Nat} (hs : p ≤ s) (hsn : s < n) : mInv n (1, s + 1, (drp c q S).1, c :: (drp c q S).2, o) := by
  obtain ⟨h1, h2, h3, h4, h5⟩ := h
  have h1 : sOk S (bo q + 1) := h1
  have h2 : co q = o := h2
  have h3 : S.length + q.length ≤ p := h3
  obtain ⟨i1, i2, i3⟩ := drp_ok c q S h1
  refine ⟨?_, ?_, ?_, hsn, h5⟩
  · show sOk (drp c q S).1 ((if c = 38 ∨ c = 124 then 1 else 0) + bo (drp c q S).2)
    rw [if_pos hc, Nat.add_comm]
    exact i1
  · show (if c = 33 ∨ c = 40 then 1 else 0) + co (drp c q S).2 = o
    rw [if_neg (by omega), i2]; omega
  · show (drp c q S).1.length + (c :: (drp c q S).2).length ≤ s + 1
    rw [List.length_cons]; omega
theorem mi_shut {p : Nat} {S : List FS} {q q' : List Nat} {o c : Nat} (h : mInv n (2, p, S, q, o)) (hd : (drp c q S).2 = 40 :: q') {s : Nat} (hs : p ≤ s) (hsn : s < n) : mInv n (ms2 (s + 1) (turn q' (drp c q S).1 (o - 1))) := by
  obtain ⟨h1, h2, h3, h4, h5⟩ := h
  have h1 : sOk S (bo q + 1) := h1
  have h2 : co q = o := h2
  have h3 : S.length + q.length ≤ p := h3
  have h5 : o ≤ 12 := h5
  obtain ⟨i1, i2, i3⟩ := drp_ok c q S h1
  rw [hd] at i1 i2 i3
  have e1 : bo (40 :: q') = bo q' := by show (if (40 : Nat) = 38 ∨ (40 : Nat) = 124 then 1 else 0) + bo q' = bo q'; simp
  have e2 : co (40 :: q') = 1 + co q' := rfl
  rw [e1] at i1
  rw [List.length_cons] at i3
  obtain ⟨j1, j2, j3⟩ := turn_ok q' (drp c q S).1 (o - 1) i1 (by omega)
  refine ⟨j1, j2, ?_, hsn, Nat.le_trans (turn_o q' _ _) (by omega)⟩
  show (turn q' (drp c q S).1 (o - 1)).1.length + (turn q' (drp c q S).1 (o - 1)).2.1.length ≤ s + 1
  rw [j3]
  omega
theorem mrun_ok : ∀ (f : Nat) (s : MS) (S : List FS), mInv n s → mrun y n f s = some (.inl S) → sOk S 1 ∧ S.length ≤ n
  | 0, _, _, _, h => by cases h
  | f + 1, (m, p, S0, q, o), S, hi, h => by
    have hpn : p ≤ n := hi.2.2.2.1
    have hsk := skip_le y hpn
    have hsg := skip_ge y n p
    rw [mrun] at h
    dsimp only at h
    by_cases hm : m = 1
    · subst hm
      rw [if_pos rfl] at h
      split at h
      · rename_i hc
        have hsn := lok_pos (y := y) (n := n) (p := skip y n p) (by omega)
        split at h
        · cases h
        · rename_i ho
          exact mrun_ok f _ S (mi_push hi hc ho hsg hsn) h
      · split at h
        · cases h
        · rename_i a e ha
          obtain ⟨a1, a2, a3, a4⟩ := atom_ok hsk ha
          have a5 := atom_ge ha
          exact mrun_ok f _ S (mi_term hi a1 a2 (by omega) a4) h
    · rw [if_neg hm] at h
      have hi : mInv n (2, p, S0, q, o) := by
        obtain ⟨h1, h2⟩ := hi
        have h1 : sOk S0 (if m = 1 then bo q else bo q + 1) := h1
        rw [if_neg hm] at h1
        exact ⟨h1, h2⟩
      have h1 : sOk S0 (bo q + 1) := hi.1
      have h3 : S0.length + q.length ≤ p := hi.2.2.1
      split at h
      · split at h
        · rename_i hn
          cases h
          obtain ⟨i1, i2, i3⟩ := drp_ok (lok y n (skip y n p)) q S0 h1
          rw [hn] at i1 i3
          simp only [List.length_nil] at i3
          exact ⟨i1, by omega⟩
        · cases h
      · rename_i hne
        have hsn : skip y n p < n := by omega
        split at h
        · rename_i hc
          exact mrun_ok f _ S (mi_sign hi hc hsg hsn) h
        · split at h
          · rename_i q' hd
            split at h
            · exact mrun_ok f _ S (mi_shut hi hd hsg hsn) h
            · cases h
          · cases h
theorem mInv0 : mInv n (1, 0, [], [], 0) := ⟨⟨rfl, fun x hx => by cases hx⟩, rfl, Nat.le_refl _, Nat.zero_le _, Nat.zero_le _⟩
end EV
