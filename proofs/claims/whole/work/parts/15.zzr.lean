section R3
variable {d mid pc : Nat} {l : am_L} {r : List Value} {h : am_H} {Q : Option Value → am_H → Prop} {c : am_C} {r1 : Nat} {sh : List (Nat × Nat)} {fi : Nat → Nat → Int32} {fl : Nat → Nat → Int64} {fr : Nat → Nat → Option Nat}
theorem Rn.gets0 {ix : Nat} (hc : am_code mid = c) (hf : am_find c pc = some (.getstatic ix, r1, 0)) (k : Rn d mid (pc + 3) l (.int (nI r1) :: r) h Q) : Rn d mid pc l r h Q := Rn.go hc hf rfl rfl k
theorem Rn.gets1 {ix : Nat} (hc : am_code mid = c) (hf : am_find c pc = some (.getstatic ix, r1, 1)) (k : Rn d mid (pc + 3) l (.retAddr 0 :: r) h Q) : Rn d mid pc l r h Q := Rn.go hc hf rfl rfl k
theorem Rn.baload2 {r1 r2 a n : Nat} {x : Int32} (j : Nat) (hc : am_code mid = c) (hf : am_find c pc = some (.baload, r1, r2)) (ha : sh[a]? = some (902, n)) (hx : x = nI j) (hj : j < n) (hn : n < 2 ^ 31) (kk : Rn d mid (pc + 1) l (.int (fi a j) :: r) (sh, fi, fl, fr) Q) : Rn d mid pc l (.int x :: .ref a :: r) (sh, fi, fl, fr) Q := by
  subst hx
  refine Rn.go hc hf rfl ?_ kk
  have e : am_aty 902 = some .byte := rfl
  simp [am_step, am_ald, ha, e, am_inb hj hn, nI_clamp (show j < 2 ^ 31 by omega), am_rd]
end R3
