/-! RULES for walking the small machine: goal first, an instruction a row; plain stretches by Rn.blk -/
section Rules
variable {d mid pc : Nat} {l : am_L} {r : List Value} {sh : List (Nat × Nat)} {fi : Nat → Nat → Int32} {fl : Nat → Nat → Int64} {fr : Nat → Nat → Option Nat} {Q : Option Value → am_H → Prop} {c : am_C}
/-- 0: an int's kind, 1: long, 2: a reference -/
def am_tk (ty : FieldType) : Nat := match ty with
  | .long => 1
  | .object _ => 2
  | .array _ => 2
  | .float => 3
  | .double => 3
  | _ => 0
theorem am_rd0 {ty : FieldType} (h : am_tk ty = 0) (hp : am_H) (a k : Nat) : am_rd ty hp a k = .int (hp.2.1 a k) := by
  cases ty <;> first | rfl | (cases h)
theorem am_rd1 {ty : FieldType} (h : am_tk ty = 1) (hp : am_H) (a k : Nat) : am_rd ty hp a k = .long (hp.2.2.1 a k) := by
  cases ty <;> first | rfl | (cases h)
theorem am_rd2 {ty : FieldType} (h : am_tk ty = 2) (hp : am_H) (a k : Nat) : am_rd ty hp a k = va_rf (hp.2.2.2 a k) := by
  cases ty <;> first | rfl | (cases h)
theorem Rn.getI {ix ci k a n : Nat} (hc : am_code mid = c) (hf : am_find c pc = some (.getfield ix, ci, k)) (ht : am_tk (at_ty ci k) = 0) (ha : sh[a]? = some (ci, n)) (kk : Rn d mid (pc + 3) l (.int (fi a k) :: r) (sh, fi, fl, fr) Q) : Rn d mid pc l (.ref a :: r) (sh, fi, fl, fr) Q := by
  refine Rn.go hc hf rfl ?_ kk
  simp only [am_step, am_getf, ha, am_rd0 ht, decide_true]
theorem Rn.getL {ix ci k a n : Nat} (hc : am_code mid = c) (hf : am_find c pc = some (.getfield ix, ci, k)) (ht : am_tk (at_ty ci k) = 1) (ha : sh[a]? = some (ci, n)) (kk : Rn d mid (pc + 3) l (.long (fl a k) :: r) (sh, fi, fl, fr) Q) : Rn d mid pc l (.ref a :: r) (sh, fi, fl, fr) Q := by
  refine Rn.go hc hf rfl ?_ kk
  simp only [am_step, am_getf, ha, am_rd1 ht, decide_true]
theorem Rn.getA {ix ci k a n b : Nat} (hc : am_code mid = c) (hf : am_find c pc = some (.getfield ix, ci, k)) (ht : am_tk (at_ty ci k) = 2) (ha : sh[a]? = some (ci, n)) (hb : fr a k = some b) (kk : Rn d mid (pc + 3) l (.ref b :: r) (sh, fi, fl, fr) Q) : Rn d mid pc l (.ref a :: r) (sh, fi, fl, fr) Q := by
  refine Rn.go hc hf rfl ?_ kk
  simp only [am_step, am_getf, ha, am_rd2 ht, decide_true, hb, va_rf]
theorem Rn.putI {ix ci k a n : Nat} {x : Int32} (hc : am_code mid = c) (hf : am_find c pc = some (.putfield ix, ci, k)) (ht : am_fit (at_ty ci k) x = true) (ha : sh[a]? = some (ci, n)) (kk : Rn d mid (pc + 3) l r (sh, up2 fi a k x, fl, fr) Q) : Rn d mid pc l (.int x :: .ref a :: r) (sh, fi, fl, fr) Q := by
  refine Rn.go hc hf rfl ?_ kk
  simp only [am_step, am_putf, ha, am_wr, ht, decide_true]
theorem Rn.putL {ix ci k a n : Nat} {x : Int64} (hc : am_code mid = c) (hf : am_find c pc = some (.putfield ix, ci, k)) (ht : at_ty ci k = .long) (ha : sh[a]? = some (ci, n)) (kk : Rn d mid (pc + 3) l r (sh, fi, up2 fl a k x, fr) Q) : Rn d mid pc l (.long x :: .ref a :: r) (sh, fi, fl, fr) Q := by
  refine Rn.go hc hf rfl ?_ kk
  simp only [am_step, am_putf, ha, am_wr, ht, decide_true]
theorem Rn.putA {ix ci k a n b : Nat} (hc : am_code mid = c) (hf : am_find c pc = some (.putfield ix, ci, k)) (ht : am_tk (at_ty ci k) = 2) (ha : sh[a]? = some (ci, n)) (kk : Rn d mid (pc + 3) l r (sh, fi, fl, up2 fr a k (some b)) Q) : Rn d mid pc l (.ref b :: .ref a :: r) (sh, fi, fl, fr) Q := by
  refine Rn.go hc hf rfl ?_ kk
  have e : am_wr (at_ty ci k) (sh, fi, fl, fr) a k (.ref b) = some (sh, fi, fl, up2 fr a k (some b)) := by
    cases h : at_ty ci k <;> rw [h] at ht <;> first | rfl | (cases ht)
  simp only [am_step, am_putf, ha, e, decide_true]
theorem am_inb {j n : Nat} (h : j < n) (hn : n < 2 ^ 31) : decide (0 ≤ (nI j).toInt ∧ (nI j).toInt < n) = true := by
  rw [nI_toInt (by omega)]
  exact decide_eq_true ⟨by omega, by omega⟩
theorem Rn.iaload {r1 r2 a n : Nat} {x : Int32} (j : Nat) (hc : am_code mid = c) (hf : am_find c pc = some (.iaload, r1, r2)) (ha : sh[a]? = some (100, n)) (hx : x = nI j) (hj : j < n) (hn : n < 2 ^ 31) (kk : Rn d mid (pc + 1) l (.int (fi a j) :: r) (sh, fi, fl, fr) Q) : Rn d mid pc l (.int x :: .ref a :: r) (sh, fi, fl, fr) Q := by
  subst hx
  refine Rn.go hc hf rfl ?_ kk
  have e : am_aty 100 = some .int := rfl
  simp [am_step, am_ald, ha, e, am_inb hj hn, nI_clamp (show j < 2 ^ 31 by omega), am_rd]
theorem Rn.caload {r1 r2 a n : Nat} {x : Int32} (j : Nat) (hc : am_code mid = c) (hf : am_find c pc = some (.caload, r1, r2)) (ha : sh[a]? = some (102, n)) (hx : x = nI j) (hj : j < n) (hn : n < 2 ^ 31) (kk : Rn d mid (pc + 1) l (.int (fi a j) :: r) (sh, fi, fl, fr) Q) : Rn d mid pc l (.int x :: .ref a :: r) (sh, fi, fl, fr) Q := by
  subst hx
  refine Rn.go hc hf rfl ?_ kk
  have e : am_aty 102 = some .char := rfl
  simp [am_step, am_ald, ha, e, am_inb hj hn, nI_clamp (show j < 2 ^ 31 by omega), am_rd]
theorem Rn.baload {r1 r2 a n : Nat} {x : Int32} (j : Nat) (hc : am_code mid = c) (hf : am_find c pc = some (.baload, r1, r2)) (ha : sh[a]? = some (103, n)) (hx : x = nI j) (hj : j < n) (hn : n < 2 ^ 31) (kk : Rn d mid (pc + 1) l (.int (fi a j) :: r) (sh, fi, fl, fr) Q) : Rn d mid pc l (.int x :: .ref a :: r) (sh, fi, fl, fr) Q := by
  subst hx
  refine Rn.go hc hf rfl ?_ kk
  have e : am_aty 103 = some .boolean := rfl
  simp [am_step, am_ald, ha, e, am_inb hj hn, nI_clamp (show j < 2 ^ 31 by omega), am_rd]
theorem Rn.laload {r1 r2 a n : Nat} {x : Int32} (j : Nat) (hc : am_code mid = c) (hf : am_find c pc = some (.laload, r1, r2)) (ha : sh[a]? = some (101, n)) (hx : x = nI j) (hj : j < n) (hn : n < 2 ^ 31) (kk : Rn d mid (pc + 1) l (.long (fl a j) :: r) (sh, fi, fl, fr) Q) : Rn d mid pc l (.int x :: .ref a :: r) (sh, fi, fl, fr) Q := by
  subst hx
  refine Rn.go hc hf rfl ?_ kk
  have e : am_aty 101 = some .long := rfl
  simp [am_step, am_ald, ha, e, am_inb hj hn, nI_clamp (show j < 2 ^ 31 by omega), am_rd]
theorem Rn.iascr {r1 r2 a n : Nat} {x : Int32} (j : Nat) (hc : am_code mid = c) (hf : am_find c pc = some (.iaload, r1, r2)) (ha : sh[a]? = some (900, n)) (hx : x = nI j) (hj : j < n) (hn : n < 2 ^ 31) (kk : Rn d mid (pc + 1) l (.int (fi a j) :: r) (sh, fi, fl, fr) Q) : Rn d mid pc l (.int x :: .ref a :: r) (sh, fi, fl, fr) Q := by
  subst hx
  refine Rn.go hc hf rfl ?_ kk
  have e : am_aty 900 = some .int := rfl
  simp [am_step, am_ald, ha, e, am_inb hj hn, nI_clamp (show j < 2 ^ 31 by omega), am_rd]
theorem Rn.aaload {r1 r2 a n b ci : Nat} {q : vw_C} {x : Int32} (j : Nat) (hc : am_code mid = c) (hf : am_find c pc = some (.aaload, r1, r2)) (ha : sh[a]? = some (401 + ci, n)) (hq : vwCl[ci]? = some q) (h100 : ci < 100) (hx : x = nI j) (hj : j < n) (hn : n < 2 ^ 31) (hb : fr a j = some b) (kk : Rn d mid (pc + 1) l (.ref b :: r) (sh, fi, fl, fr) Q) : Rn d mid pc l (.int x :: .ref a :: r) (sh, fi, fl, fr) Q := by
  subst hx
  refine Rn.go hc hf rfl ?_ kk
  have e := sm_aty_obj hq h100
  have e2 : decide (401 ≤ 401 + ci ∧ 401 + ci < 900) = true := decide_eq_true ⟨by omega, by omega⟩
  simp only [am_step, am_ald, ha, e, e2, am_inb hj hn, nI_clamp (show j < 2 ^ 31 by omega), am_rd, hb, va_rf]
theorem Rn.iastore {r1 r2 a n : Nat} {x i : Int32} (j : Nat) (hc : am_code mid = c) (hf : am_find c pc = some (.iastore, r1, r2)) (ha : sh[a]? = some (100, n)) (hi : i = nI j) (hj : j < n) (hn : n < 2 ^ 31) (hx : am_fit .int x = true) (kk : Rn d mid (pc + 1) l r (sh, up2 fi a j x, fl, fr) Q) : Rn d mid pc l (.int x :: .int i :: .ref a :: r) (sh, fi, fl, fr) Q := by
  subst hi
  refine Rn.go hc hf rfl ?_ kk
  have e : am_aty 100 = some .int := rfl
  have e2 : am_nar .int x = x := by
    have := (am_fit_ok hx).1
    simpa [narrow, am_nar] using this
  simp [am_step, am_iast, ha, e, am_inb hj hn, nI_clamp (show j < 2 ^ 31 by omega), e2]
theorem Rn.castore {r1 r2 a n : Nat} {x i : Int32} (j : Nat) (hc : am_code mid = c) (hf : am_find c pc = some (.castore, r1, r2)) (ha : sh[a]? = some (102, n)) (hi : i = nI j) (hj : j < n) (hn : n < 2 ^ 31) (hx : am_fit .char x = true) (kk : Rn d mid (pc + 1) l r (sh, up2 fi a j x, fl, fr) Q) : Rn d mid pc l (.int x :: .int i :: .ref a :: r) (sh, fi, fl, fr) Q := by
  subst hi
  refine Rn.go hc hf rfl ?_ kk
  have e : am_aty 102 = some .char := rfl
  have e2 : am_nar .char x = x := by
    have := (am_fit_ok hx).1
    simpa [narrow, am_nar] using this
  simp [am_step, am_iast, ha, e, am_inb hj hn, nI_clamp (show j < 2 ^ 31 by omega), e2]
theorem Rn.bastore {r1 r2 a n : Nat} {x i : Int32} (j : Nat) (hc : am_code mid = c) (hf : am_find c pc = some (.bastore, r1, r2)) (ha : sh[a]? = some (103, n)) (hi : i = nI j) (hj : j < n) (hn : n < 2 ^ 31) (hx : am_fit .boolean x = true) (kk : Rn d mid (pc + 1) l r (sh, up2 fi a j x, fl, fr) Q) : Rn d mid pc l (.int x :: .int i :: .ref a :: r) (sh, fi, fl, fr) Q := by
  subst hi
  refine Rn.go hc hf rfl ?_ kk
  have e : am_aty 103 = some .boolean := rfl
  have e2 : am_nar .boolean x = x := by
    have := (am_fit_ok hx).1
    simpa [narrow, am_nar] using this
  simp [am_step, am_iast, ha, e, am_inb hj hn, nI_clamp (show j < 2 ^ 31 by omega), e2]
theorem Rn.lastore {r1 r2 a n : Nat} {x : Int64} {i : Int32} (j : Nat) (hc : am_code mid = c) (hf : am_find c pc = some (.lastore, r1, r2)) (ha : sh[a]? = some (101, n)) (hi : i = nI j) (hj : j < n) (hn : n < 2 ^ 31) (kk : Rn d mid (pc + 1) l r (sh, fi, up2 fl a j x, fr) Q) : Rn d mid pc l (.long x :: .int i :: .ref a :: r) (sh, fi, fl, fr) Q := by
  subst hi
  refine Rn.go hc hf rfl ?_ kk
  simp [am_step, am_last, ha, am_inb hj hn, nI_clamp (show j < 2 ^ 31 by omega)]
theorem Rn.alen {r1 r2 a tag n : Nat} (hc : am_code mid = c) (hf : am_find c pc = some (.arraylength, r1, r2)) (ha : sh[a]? = some (tag, n)) (ht : (am_aty tag).isSome = true) (hn : n < 2 ^ 31) (kk : Rn d mid (pc + 1) l (.int (nI n) :: r) (sh, fi, fl, fr) Q) : Rn d mid pc l (.ref a :: r) (sh, fi, fl, fr) Q := by
  refine Rn.go hc hf rfl ?_ kk
  simp only [am_step, am_alen, ha, decide_eq_true (show n < 2 ^ 31 ∧ (am_aty tag).isSome = true from ⟨hn, ht⟩)]
/-- a comparison as a proposition -/
abbrev am_cp (cnd : ClassFile.Cond) (x y : Int32) : Prop := match cnd with
  | .eq => x = y
  | .ne => ¬ x = y
  | .lt => x < y
  | .ge => y ≤ x
  | .gt => y < x
  | .le => x ≤ y
theorem am_cp_t {cnd : ClassFile.Cond} {x y : Int32} (h : am_cp cnd x y) : am_cmp cnd x y = true := by cases cnd <;> exact decide_eq_true h
theorem am_cp_f {cnd : ClassFile.Cond} {x y : Int32} (h : ¬ am_cp cnd x y) : am_cmp cnd x y = false := by cases cnd <;> exact decide_eq_false h
theorem am_cp_em (cnd : ClassFile.Cond) (x y : Int32) : am_cp cnd x y ∨ ¬ am_cp cnd x y := Classical.em _
theorem Rn.icmp {r1 r2 : Nat} {h : am_H} {cnd : ClassFile.Cond} {off : Int} {x y : Int32} (t : Nat) (hc : am_code mid = c) (hf : am_find c pc = some (.if_icmp cnd off, r1, r2)) (ht : am_tg pc off = t) (k1 : am_cp cnd x y → Rn d mid t l r h Q) (k2 : ¬ am_cp cnd x y → Rn d mid (pc + 3) l r h Q) : Rn d mid pc l (.int y :: .int x :: r) h Q := by
  subst ht
  rcases am_cp_em cnd x y with z | z
  · refine Rn.go hc hf rfl ?_ (k1 z)
    simp only [am_step, am_cp_t z, if_true]
  · refine Rn.go hc hf rfl ?_ (k2 z)
    simp [am_step, am_cp_f z]
theorem Rn.ifz {r1 r2 : Nat} {h : am_H} {cnd : ClassFile.Cond} {off : Int} {x : Int32} (t : Nat) (hc : am_code mid = c) (hf : am_find c pc = some (.ifCond cnd off, r1, r2)) (ht : am_tg pc off = t) (k1 : am_cp cnd x 0 → Rn d mid t l r h Q) (k2 : ¬ am_cp cnd x 0 → Rn d mid (pc + 3) l r h Q) : Rn d mid pc l (.int x :: r) h Q := by
  subst ht
  rcases am_cp_em cnd x 0 with z | z
  · refine Rn.go hc hf rfl ?_ (k1 z)
    simp only [am_step, am_cp_t z, if_true]
  · refine Rn.go hc hf rfl ?_ (k2 z)
    simp [am_step, am_cp_f z]
theorem Rn.idiv {r1 r2 : Nat} {h : am_H} {x y : Int32} (hc : am_code mid = c) (hf : am_find c pc = some (.idiv, r1, r2)) (hy : y ≠ 0) (kk : Rn d mid (pc + 1) l (.int (x / y) :: r) h Q) : Rn d mid pc l (.int y :: .int x :: r) h Q := by
  refine Rn.go hc hf rfl ?_ kk
  simp [am_step, am_iid, hy]
theorem Rn.irem {r1 r2 : Nat} {h : am_H} {x y : Int32} (hc : am_code mid = c) (hf : am_find c pc = some (.irem, r1, r2)) (hy : y ≠ 0) (kk : Rn d mid (pc + 1) l (.int (x - x / y * y) :: r) h Q) : Rn d mid pc l (.int y :: .int x :: r) h Q := by
  refine Rn.go hc hf rfl ?_ kk
  simp [am_step, am_iid, hy]
theorem Rn.ldiv {r1 r2 : Nat} {h : am_H} {x y : Int64} (hc : am_code mid = c) (hf : am_find c pc = some (.ldiv, r1, r2)) (hy : y ≠ 0) (kk : Rn d mid (pc + 1) l (.long (x / y) :: r) h Q) : Rn d mid pc l (.long y :: .long x :: r) h Q := by
  refine Rn.go hc hf rfl ?_ kk
  simp [am_step, am_lld, hy]
theorem Rn.lrem {r1 r2 : Nat} {h : am_H} {x y : Int64} (hc : am_code mid = c) (hf : am_find c pc = some (.lrem, r1, r2)) (hy : y ≠ 0) (kk : Rn d mid (pc + 1) l (.long (x - x / y * y) :: r) h Q) : Rn d mid pc l (.long y :: .long x :: r) h Q := by
  refine Rn.go hc hf rfl ?_ kk
  simp [am_step, am_lld, hy]
theorem Rn.reti {r1 r2 : Nat} {h : am_H} {x : Int32} {q : am_M} {ty : FieldType} (hc : am_code mid = c) (hf : am_find c pc = some (.ireturn, r1, r2)) (hq : at_tab[mid]? = some q) (hty : q.2.2.2.1 = some ty) (hx : am_fit ty x = true) (kk : Q (some (.int x)) h) : Rn d mid pc l [.int x] h Q := by
  refine Rn.ret hc hf rfl ?_ kk
  simp only [am_ret, hq, hty, hx]
end Rules
