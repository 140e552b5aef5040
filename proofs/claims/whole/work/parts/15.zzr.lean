section R3
variable {d mid pc : Nat} {l : am_L} {r : List Value} {h : am_H} {Q : Option Value → am_H → Prop} {c : am_C} {r1 : Nat} {sh : List (Nat × Nat)} {fi : Nat → Nat → Int32} {fl : Nat → Nat → Int64} {fr : Nat → Nat → Option Nat}
theorem Rn.gets0 {ix : Nat} (hc : am_code mid = c) (hf : am_find c pc = some (.getstatic ix, r1, 0)) (k : Rn d mid (pc + 3) l (.int (nI r1) :: r) h Q) : Rn d mid pc l r h Q := Rn.go hc hf rfl rfl k
theorem Rn.gets1 {ix : Nat} (hc : am_code mid = c) (hf : am_find c pc = some (.getstatic ix, r1, 1)) (k : Rn d mid (pc + 3) l (.retAddr 0 :: r) h Q) : Rn d mid pc l r h Q := Rn.go hc hf rfl rfl k
theorem Rn.baload2 {r1 r2 a n : Nat} {x : Int32} (j : Nat) (hc : am_code mid = c) (hf : am_find c pc = some (.baload, r1, r2)) (ha : sh[a]? = some (902, n)) (hx : x = nI j) (hj : j < n) (hn : n < 2 ^ 31) (kk : Rn d mid (pc + 1) l (.int (fi a j) :: r) (sh, fi, fl, fr) Q) : Rn d mid pc l (.int x :: .ref a :: r) (sh, fi, fl, fr) Q := by
  subst hx
  refine Rn.go hc hf rfl ?_ kk
  have e : am_aty 902 = some .byte := rfl
  simp [am_step, am_ald, ha, e, am_inb hj hn, nI_clamp (show j < 2 ^ 31 by omega), am_rd]
end R3
theorem Rn.copy0 {d mid pc : Nat} {l : am_L} {r : List Value} {Q : Option Value → am_H → Prop} {c : am_C} {sh : List (Nat × Nat)} {fi : Nat → Nat → Int32} {fl : Nat → Nat → Int64} {fr : Nat → Nat → Option Nat} {ix r2 a b na nb : Nat} {n : Int32} (k : Nat) (hc : am_code mid = c) (hf : am_find c pc = some (.invokestatic ix, 1001, r2)) (ha : sh[a]? = some (102, na)) (hb : sh[b]? = some (102, nb)) (hne : a ≠ b) (hcat : am_cat r ≤ 8) (hn : n = nI k) (h1 : k ≤ na) (h2 : k ≤ nb) (hk : k < 2 ^ 31) (kk : Rn (d + 1) mid (pc + 3) l r (sh, fun i j => if i = b then va_cpy (fi a) (fi b) 0 0 k j else fi i j, fl, fr) Q) : Rn (d + 1) mid pc l (.int n :: .int 0 :: .ref b :: .int 0 :: .ref a :: r) (sh, fi, fl, fr) Q := by
  subst hn
  refine Rn.go hc hf rfl ?_ kk
  have e0 : (0 : Int32).toInt = 0 := by decide
  have e1 : (0 : Int32).toNatClampNeg = 0 := by decide
  show am_sp1 pc l (.int (nI k) :: .int 0 :: .ref b :: .int 0 :: .ref a :: r) (sh, fi, fl, fr) = _
  unfold am_sp1
  simp only [ha, hb]
  rw [decide_eq_true (show True ∧ True ∧ a ≠ b ∧ am_cat r ≤ 8 ∧ 0 ≤ (nI k).toInt ∧ 0 ≤ (0 : Int32).toInt ∧ 0 ≤ (0 : Int32).toInt ∧ (0 : Int32).toInt + (nI k).toInt ≤ na ∧ (0 : Int32).toInt + (nI k).toInt ≤ nb from ⟨trivial, trivial, hne, hcat, by rw [nI_toInt hk]; omega, by decide, by decide, by rw [nI_toInt hk, e0]; omega, by rw [nI_toInt hk, e0]; omega⟩)]
  simp only [e1, nI_clamp hk]
theorem Rn.min0 {d mid pc : Nat} {l : am_L} {r : List Value} {h : am_H} {Q : Option Value → am_H → Prop} {c : am_C} {ix r2 : Nat} {x y : Int32} (hc : am_code mid = c) (hf : am_find c pc = some (.invokestatic ix, 1002, r2)) (hcat : am_cat r ≤ 8) (kk : Rn (d + 1) mid (pc + 3) l (.int (if y < x then y else x) :: r) h Q) : Rn (d + 1) mid pc l (.int y :: .int x :: r) h Q := by
  refine Rn.go hc hf rfl ?_ kk
  show am_sp2 pc l (.int y :: .int x :: r) h = _
  unfold am_sp2
  simp only [decide_eq_true hcat]
theorem Rn.obj0 {d mid pc : Nat} {l : am_L} {r : List Value} {h : am_H} {Q : Option Value → am_H → Prop} {c : am_C} {ix r2 a : Nat} (hc : am_code mid = c) (hf : am_find c pc = some (.invokespecial ix, 1000, r2)) (hcat : am_cat r ≤ 8) (kk : Rn (d + 1) mid (pc + 3) l r h Q) : Rn (d + 1) mid pc l (.ref a :: r) h Q := by
  refine Rn.go hc hf rfl ?_ kk
  show am_sp0 pc l (.ref a :: r) h = _
  unfold am_sp0
  simp only [decide_eq_true hcat]
