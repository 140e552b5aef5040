/-! FILTERS in the middle: a machine with a pile, to which the class and the reference are both tied -/
/-- a step: its mark (a tag's is #), a name, a value (of < : its digit) -/
abbrev FS : Type := Nat × Nm × Nm
def fop (c : Nat) : FS := (c, [], [])
def lok (y : Nat → Nat) (n p : Nat) : Nat := if p < n then y p else 0
def skp (y : Nat → Nat) : Nat → Nat → Nat
  | 0, p => p
  | k + 1, p => if y p = 32 then skp y k (p + 1) else p
def skip (y : Nat → Nat) (n p : Nat) : Nat := skp y (n - p) p
def wnd (y : Nat → Nat) (n : Nat) : Nat → Nat → Nat
  | 0, p => p
  | k + 1, p => if p < n ∧ isN (y p) = true then wnd y n k (p + 1) else p
def wend (y : Nat → Nat) (n p : Nat) : Nat := wnd y n 12 p
/-- an atom that begins at p: the step and where it ends, or where it is ill -/
def atomW (y : Nat → Nat) (n p : Nat) : (FS × Nat) ⊕ Nat :=
  if isL (lok y n p) = true then
    (if lok y n (skip y n (wend y n p)) = 58 then
      (if isN (lok y n (skip y n (skip y n (wend y n p) + 1))) = true then .inl ((58, sl y p (wend y n p), sl y (skip y n (skip y n (wend y n p) + 1)) (wend y n (skip y n (skip y n (wend y n p) + 1)))), wend y n (skip y n (skip y n (wend y n p) + 1)))
      else .inr (skip y n (skip y n (wend y n p) + 1)))
    else .inl ((35, sl y p (wend y n p), []), skip y n (wend y n p)))
  else if lok y n p = 64 ∨ lok y n p = 61 then
    (if isL (lok y n (skip y n (p + 1))) = true then .inl ((lok y n p, sl y (skip y n (p + 1)) (wend y n (skip y n (p + 1))), []), wend y n (skip y n (p + 1))) else .inr (skip y n (p + 1)))
  else if lok y n p = 60 then
    (if 49 ≤ lok y n (skip y n (p + 1)) ∧ lok y n (skip y n (p + 1)) ≤ 57 then .inl ((60, [], [lok y n (skip y n (p + 1))]), skip y n (p + 1) + 1) else .inr (skip y n (p + 1)))
  else if lok y n p = 63 ∨ lok y n p = 126 then .inl ((lok y n p, [], []), p + 1)
  else .inr p
def turn : List Nat → List FS → Nat → List FS × List Nat × Nat
  | [], S, o => (S, [], o)
  | c :: q, S, o => if c = 33 then turn q (S ++ [fop 33]) (o - 1) else (S, c :: q, o)
def drp (c : Nat) : List Nat → List FS → List FS × List Nat
  | [], S => (S, [])
  | t :: q, S => if t = 38 ∨ (t = 124 ∧ c ≠ 38) then drp c q (S ++ [fop t]) else (S, t :: q)
/-- 1: a term is to come; 2: a sign -/
abbrev MS : Type := Nat × Nat × List FS × List Nat × Nat
def ms2 (p : Nat) (t : List FS × List Nat × Nat) : MS := (2, p, t.1, t.2.1, t.2.2)
def mrun (y : Nat → Nat) (n : Nat) : Nat → MS → Option (List FS ⊕ Nat)
  | 0, _ => none
  | f + 1, s => if s.1 = 1 then
      (if lok y n (skip y n s.2.1) = 33 ∨ lok y n (skip y n s.2.1) = 40 then
        (if s.2.2.2.2 = 12 then some (.inr (skip y n s.2.1)) else mrun y n f (1, skip y n s.2.1 + 1, s.2.2.1, lok y n (skip y n s.2.1) :: s.2.2.2.1, s.2.2.2.2 + 1))
      else match atomW y n (skip y n s.2.1) with
        | .inr q => some (.inr q)
        | .inl (a, q) => mrun y n f (ms2 q (turn s.2.2.2.1 (s.2.2.1 ++ [a]) s.2.2.2.2)))
    else
      (if skip y n s.2.1 = n then
        (if (drp (lok y n (skip y n s.2.1)) s.2.2.2.1 s.2.2.1).2 = [] then some (.inl (drp (lok y n (skip y n s.2.1)) s.2.2.2.1 s.2.2.1).1) else some (.inr n))
      else if lok y n (skip y n s.2.1) = 38 ∨ lok y n (skip y n s.2.1) = 124 then
        mrun y n f (1, skip y n s.2.1 + 1, (drp (lok y n (skip y n s.2.1)) s.2.2.2.1 s.2.2.1).1, lok y n (skip y n s.2.1) :: (drp (lok y n (skip y n s.2.1)) s.2.2.2.1 s.2.2.1).2, s.2.2.2.2)
      else match (drp (lok y n (skip y n s.2.1)) s.2.2.2.1 s.2.2.1).2 with
        | 40 :: q => if lok y n (skip y n s.2.1) = 41 then mrun y n f (ms2 (skip y n s.2.1 + 1) (turn q (drp (lok y n (skip y n s.2.1)) s.2.2.2.1 s.2.2.1).1 (s.2.2.2.2 - 1))) else some (.inr (skip y n s.2.1))
        | _ => some (.inr (skip y n s.2.1)))
/-- the machine comes from s to t -/
def MTo (y : Nat → Nat) (n : Nat) (s t : MS) : Prop := ∃ k, ∀ f, mrun y n (f + k) s = mrun y n f t
def MIll (y : Nat → Nat) (n : Nat) (s : MS) (p : Nat) : Prop := ∃ k, ∀ f, mrun y n (f + k) s = some (.inr p)
section MC
variable {y : Nat → Nat} {n : Nat}
theorem MTo.refl (s : MS) : MTo y n s s := ⟨0, fun _ => rfl⟩
theorem MTo.trans {s t u : MS} (h1 : MTo y n s t) (h2 : MTo y n t u) : MTo y n s u := by
  obtain ⟨k, hk⟩ := h1
  obtain ⟨j, hj⟩ := h2
  exact ⟨j + k, fun f => by rw [← Nat.add_assoc, hk, hj]⟩
theorem MTo.ill {s t : MS} {p : Nat} (h1 : MTo y n s t) (h2 : MIll y n t p) : MIll y n s p := by
  obtain ⟨k, hk⟩ := h1
  obtain ⟨j, hj⟩ := h2
  exact ⟨j + k, fun f => by rw [← Nat.add_assoc, hk, hj]⟩
theorem skp_ge (y : Nat → Nat) : ∀ k p, p ≤ skp y k p ∧ skp y k p ≤ p + k := by
  intro k
  induction k with
  | zero => intro p; exact ⟨Nat.le_refl _, Nat.le_refl _⟩
  | succ k ih =>
    intro p
    unfold skp
    split
    · have := ih (p + 1); omega
    · exact ⟨Nat.le_refl _, by omega⟩
theorem skip_ge (y : Nat → Nat) (n p : Nat) : p ≤ skip y n p := (skp_ge y _ _).1
theorem skip_le (y : Nat → Nat) {n p : Nat} (h : p ≤ n) : skip y n p ≤ n := by have := (skp_ge y (n - p) p).2; unfold skip; omega
theorem skp_stop (y : Nat → Nat) : ∀ k p, skp y k p = p + k ∨ y (skp y k p) ≠ 32 := by
  intro k
  induction k with
  | zero => intro p; exact Or.inl rfl
  | succ k ih =>
    intro p
    unfold skp
    split
    · rcases ih (p + 1) with h | h
      · exact Or.inl (by omega)
      · exact Or.inr h
    · rename_i h
      exact Or.inr h
theorem skip_id {p : Nat} (h : lok y n p ≠ 32) : skip y n p = p := by
  unfold skip
  cases hk : n - p with
  | zero => rfl
  | succ k =>
    unfold lok at h
    rw [if_pos (by omega)] at h
    unfold skp
    rw [if_neg h]
theorem lok_skip (p : Nat) : lok y n (skip y n p) ≠ 32 := by
  unfold lok
  split
  · rename_i h
    rcases skp_stop y (n - p) p with z | z
    · unfold skip at h
      rcases Nat.lt_or_ge p n with hp | hp
      · omega
      · rw [Nat.sub_eq_zero_of_le hp] at h z
        have : skp y 0 p = p := rfl
        omega
    · exact z
  · decide
theorem skip_skip (p : Nat) : skip y n (skip y n p) = skip y n p := skip_id (lok_skip p)
theorem wnd_ge : ∀ k p, p ≤ wnd y n k p ∧ wnd y n k p ≤ p + k ∧ (p ≤ n → wnd y n k p ≤ n) := by
  intro k
  induction k with
  | zero => intro p; exact ⟨Nat.le_refl _, Nat.le_refl _, fun h => h⟩
  | succ k ih =>
    intro p
    unfold wnd
    split
    · have := ih (p + 1)
      exact ⟨by omega, by omega, fun h => this.2.2 (by omega)⟩
    · exact ⟨Nat.le_refl _, by omega, fun h => h⟩
theorem wnd_isN : ∀ k p, ∀ j, p ≤ j → j < wnd y n k p → isN (y j) = true := by
  intro k
  induction k with
  | zero => intro p j h1 h2; exact absurd h2 (Nat.not_lt.mpr h1)
  | succ k ih =>
    intro p j h1 h2
    unfold wnd at h2
    split at h2
    · rename_i h
      by_cases e : j = p
      · rw [e]; exact h.2
      · exact ih (p + 1) j (by omega) h2
    · omega
theorem wend_gt {p : Nat} (h : isN (lok y n p) = true) : p < wend y n p := by
  unfold wend wnd
  have hp : p < n := by
    unfold lok at h
    split at h
    · assumption
    · exact absurd h (by decide)
  rw [if_pos ⟨hp, by unfold lok at h; rw [if_pos hp] at h; exact h⟩]
  exact (wnd_ge (y := y) (n := n) 11 (p + 1)).1
theorem isL_N {c : Nat} (h : isL c = true) : isN c = true := by unfold isN; rw [h]; rfl
theorem sl_okV (p : Nat) : okV (sl y p (wend y n p)) = true := by
  unfold okV
  have h := wnd_ge (y := y) (n := n) 12 p
  rw [Bool.and_eq_true]
  refine ⟨decide_eq_true ?_, List.all_eq_true.mpr ?_⟩
  · rw [sl_len]; unfold wend; omega
  · intro c hc
    obtain ⟨j, h1, h2, rfl⟩ := sl_mem.mp hc
    exact wnd_isN 12 p j h1 h2
end MC
