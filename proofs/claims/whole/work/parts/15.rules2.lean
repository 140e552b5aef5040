/-! RULES, an instruction a row, that name nothing but constants: what is on the stack and in the locals is found by matching -/
section Rules2
variable {d mid pc : Nat} {l : am_L} {r : List Value} {h : am_H} {Q : Option Value → am_H → Prop} {c : am_C} {r1 r2 : Nat}
theorem Rn.iconst {n : Int} (v : Int32) (hc : am_code mid = c) (hf : am_find c pc = some (.iconst n, r1, r2)) (hv : Int32.ofInt n = v) (k : Rn d mid (pc + 1) l (.int v :: r) h Q) : Rn d mid pc l r h Q := by
  subst hv
  exact Rn.go hc hf rfl rfl k
theorem Rn.bipush {n : Int} (v : Int32) (hc : am_code mid = c) (hf : am_find c pc = some (.bipush n, r1, r2)) (hv : (Int8.ofInt n).toInt32 = v) (k : Rn d mid (pc + 2) l (.int v :: r) h Q) : Rn d mid pc l r h Q := by
  subst hv
  exact Rn.go hc hf rfl rfl k
theorem Rn.sipush {n : Int} (v : Int32) (hc : am_code mid = c) (hf : am_find c pc = some (.sipush n, r1, r2)) (hv : (Int16.ofInt n).toInt32 = v) (k : Rn d mid (pc + 3) l (.int v :: r) h Q) : Rn d mid pc l r h Q := by
  subst hv
  exact Rn.go hc hf rfl rfl k
theorem Rn.lconst {n : Fin 2} (v : Int64) (hc : am_code mid = c) (hf : am_find c pc = some (.lconst n, r1, r2)) (hv : Int64.ofNat n.val = v) (k : Rn d mid (pc + 1) l (.long v :: r) h Q) : Rn d mid pc l r h Q := by
  subst hv
  exact Rn.go hc hf rfl rfl k
theorem Rn.ldc2 {ix : Nat} (v : Int64) (hc : am_code mid = c) (hf : am_find c pc = some (.ldc2_w ix, r1, r2)) (hv : Int64.ofNat r1 = v) (k : Rn d mid (pc + 3) l (.long v :: r) h Q) : Rn d mid pc l r h Q := by
  subst hv
  exact Rn.go hc hf rfl rfl k
theorem Rn.ldc {ix : Nat} (hc : am_code mid = c) (hf : am_find c pc = some (.ldc ix, r1, r2)) (k : Rn d mid (pc + 2) l (.ref r1 :: r) h Q) : Rn d mid pc l r h Q := Rn.go hc hf rfl rfl k
theorem Rn.iload {i : Nat} {x : Int32} (hc : am_code mid = c) (hf : am_find c pc = some (.iload i, r1, r2)) (hl : am_get l i = some (.int x)) (k : Rn d mid (pc + 2) l (.int x :: r) h Q) : Rn d mid pc l r h Q := by
  refine Rn.go hc hf rfl ?_ k
  simp only [am_step, am_iload, hl]
theorem Rn.iload_n {i : Fin 4} {x : Int32} (hc : am_code mid = c) (hf : am_find c pc = some (.iload_n i, r1, r2)) (hl : am_get l i.val = some (.int x)) (k : Rn d mid (pc + 1) l (.int x :: r) h Q) : Rn d mid pc l r h Q := by
  refine Rn.go hc hf rfl ?_ k
  simp only [am_step, am_iload, hl]
theorem Rn.lload {i : Nat} {x : Int64} (hc : am_code mid = c) (hf : am_find c pc = some (.lload i, r1, r2)) (hl : am_get l i = some (.long x)) (k : Rn d mid (pc + 2) l (.long x :: r) h Q) : Rn d mid pc l r h Q := by
  refine Rn.go hc hf rfl ?_ k
  simp only [am_step, am_lload, hl]
theorem Rn.lload_n {i : Fin 4} {x : Int64} (hc : am_code mid = c) (hf : am_find c pc = some (.lload_n i, r1, r2)) (hl : am_get l i.val = some (.long x)) (k : Rn d mid (pc + 1) l (.long x :: r) h Q) : Rn d mid pc l r h Q := by
  refine Rn.go hc hf rfl ?_ k
  simp only [am_step, am_lload, hl]
theorem Rn.aload {i : Nat} {x : Nat} (hc : am_code mid = c) (hf : am_find c pc = some (.aload i, r1, r2)) (hl : am_get l i = some (.ref x)) (k : Rn d mid (pc + 2) l (.ref x :: r) h Q) : Rn d mid pc l r h Q := by
  refine Rn.go hc hf rfl ?_ k
  simp only [am_step, am_aload, hl]
theorem Rn.aload_n {i : Fin 4} {x : Nat} (hc : am_code mid = c) (hf : am_find c pc = some (.aload_n i, r1, r2)) (hl : am_get l i.val = some (.ref x)) (k : Rn d mid (pc + 1) l (.ref x :: r) h Q) : Rn d mid pc l r h Q := by
  refine Rn.go hc hf rfl ?_ k
  simp only [am_step, am_aload, hl]
/-- not the first half of a long -/
def am_nl (o : Option Value) : Bool := match o with
  | some (.long _) => false
  | some (.double _) => false
  | _ => true
theorem am_kill_nl {l : am_L} {j : Nat} {o : Option Value} (h : l[j]? = some o) (hn : am_nl o = true) : am_kill l (j + 1) = l := by
  show (match am_get l j with
    | some (.long _) => l.set j none
    | some (.double _) => l.set j none
    | _ => l) = l
  have e : am_get l j = o := by unfold am_get; rw [h]
  rw [e]
  cases o with
  | none => rfl
  | some v => cases v <;> first | rfl | (cases hn)
theorem Rn.istore0 {ok : Option Value} {x : Int32} (hc : am_code mid = c) (hf : am_find c pc = some (.istore 0, r1, r2))  (k : Rn d mid (pc + 2) (some (.int x) :: l) r h Q) : Rn d mid pc (ok :: l) (.int x :: r) h Q := by
  refine Rn.go hc hf rfl ?_ k
  have e : am_kill (ok :: l) 0 = ok :: l := rfl
  have e2 : decide (0 < (ok :: l).length) = true := decide_eq_true (by simp)
  show (match decide (0 < (ok :: l).length) with
    | true => some (pc + 2, am_st1 (ok :: l) 0 (.int x), r, h)
    | false => none) = _
  rw [e2]
  show some (pc + 2, (am_kill (ok :: l) 0).set 0 (some (.int x)), r, h) = _
  rw [e]
  rfl
theorem Rn.istore_n0 {ok : Option Value} {x : Int32} (hc : am_code mid = c) (hf : am_find c pc = some (.istore_n 0, r1, r2))  (k : Rn d mid (pc + 1) (some (.int x) :: l) r h Q) : Rn d mid pc (ok :: l) (.int x :: r) h Q := by
  refine Rn.go hc hf rfl ?_ k
  have e : am_kill (ok :: l) 0 = ok :: l := rfl
  have e2 : decide (0 < (ok :: l).length) = true := decide_eq_true (by simp)
  show (match decide (0 < (ok :: l).length) with
    | true => some (pc + 1, am_st1 (ok :: l) 0 (.int x), r, h)
    | false => none) = _
  rw [e2]
  show some (pc + 1, (am_kill (ok :: l) 0).set 0 (some (.int x)), r, h) = _
  rw [e]
  rfl
theorem Rn.astore0 {ok : Option Value} {x : Nat} (hc : am_code mid = c) (hf : am_find c pc = some (.astore 0, r1, r2))  (k : Rn d mid (pc + 2) (some (.ref x) :: l) r h Q) : Rn d mid pc (ok :: l) (.ref x :: r) h Q := by
  refine Rn.go hc hf rfl ?_ k
  have e : am_kill (ok :: l) 0 = ok :: l := rfl
  have e2 : decide (0 < (ok :: l).length) = true := decide_eq_true (by simp)
  show (match decide (0 < (ok :: l).length) with
    | true => some (pc + 2, am_st1 (ok :: l) 0 (.ref x), r, h)
    | false => none) = _
  rw [e2]
  show some (pc + 2, (am_kill (ok :: l) 0).set 0 (some (.ref x)), r, h) = _
  rw [e]
  rfl
theorem Rn.astore_n0 {ok : Option Value} {x : Nat} (hc : am_code mid = c) (hf : am_find c pc = some (.astore_n 0, r1, r2))  (k : Rn d mid (pc + 1) (some (.ref x) :: l) r h Q) : Rn d mid pc (ok :: l) (.ref x :: r) h Q := by
  refine Rn.go hc hf rfl ?_ k
  have e : am_kill (ok :: l) 0 = ok :: l := rfl
  have e2 : decide (0 < (ok :: l).length) = true := decide_eq_true (by simp)
  show (match decide (0 < (ok :: l).length) with
    | true => some (pc + 1, am_st1 (ok :: l) 0 (.ref x), r, h)
    | false => none) = _
  rw [e2]
  show some (pc + 1, (am_kill (ok :: l) 0).set 0 (some (.ref x)), r, h) = _
  rw [e]
  rfl
theorem Rn.lstore0 {ok ok1 : Option Value} {x : Int64} (hc : am_code mid = c) (hf : am_find c pc = some (.lstore 0, r1, r2))  (k : Rn d mid (pc + 2) (some (.long x) :: none :: l) r h Q) : Rn d mid pc (ok :: ok1 :: l) (.long x :: r) h Q := by
  refine Rn.go hc hf rfl ?_ k
  have e : am_kill (ok :: ok1 :: l) 0 = ok :: ok1 :: l := rfl
  have e2 : decide (0 + 1 < (ok :: ok1 :: l).length) = true := decide_eq_true (by simp)
  show (match decide (0 + 1 < (ok :: ok1 :: l).length) with
    | true => some (pc + 2, am_st2 (ok :: ok1 :: l) 0 (.long x), r, h)
    | false => none) = _
  rw [e2]
  show some (pc + 2, ((am_kill (ok :: ok1 :: l) 0).set 0 (some (.long x))).set (0 + 1) none, r, h) = _
  rw [e]
  rfl
theorem Rn.lstore_n0 {ok ok1 : Option Value} {x : Int64} (hc : am_code mid = c) (hf : am_find c pc = some (.lstore_n 0, r1, r2))  (k : Rn d mid (pc + 1) (some (.long x) :: none :: l) r h Q) : Rn d mid pc (ok :: ok1 :: l) (.long x :: r) h Q := by
  refine Rn.go hc hf rfl ?_ k
  have e : am_kill (ok :: ok1 :: l) 0 = ok :: ok1 :: l := rfl
  have e2 : decide (0 + 1 < (ok :: ok1 :: l).length) = true := decide_eq_true (by simp)
  show (match decide (0 + 1 < (ok :: ok1 :: l).length) with
    | true => some (pc + 1, am_st2 (ok :: ok1 :: l) 0 (.long x), r, h)
    | false => none) = _
  rw [e2]
  show some (pc + 1, ((am_kill (ok :: ok1 :: l) 0).set 0 (some (.long x))).set (0 + 1) none, r, h) = _
  rw [e]
  rfl
theorem Rn.iinc0 {x : Int32} {n : Int} (v : Int32) (hc : am_code mid = c) (hf : am_find c pc = some (.iinc 0 n, r1, r2)) (hv : Int32.ofInt n = v)  (k : Rn d mid (pc + 3) (some (.int (x + v)) :: l) r h Q) : Rn d mid pc (some (.int x) :: l) r h Q := by
  subst hv
  refine Rn.go hc hf rfl ?_ k
  have e : am_kill (some (.int x) :: l) 0 = some (.int x) :: l := rfl
  have e2 : decide (0 < (some (.int x) :: l).length) = true := decide_eq_true (by simp)
  show (match decide (0 < (some (.int x) :: l).length) with
    | true => some (pc + 3, am_st1 (some (.int x) :: l) 0 (.int (x + Int32.ofInt n)), r, h)
    | false => none) = _
  rw [e2]
  show some (pc + 3, (am_kill (some (.int x) :: l) 0).set 0 (some (.int (x + Int32.ofInt n))), r, h) = _
  rw [e]
  rfl
theorem Rn.istore1 {o0 ok : Option Value} {x : Int32} (hc : am_code mid = c) (hf : am_find c pc = some (.istore 1, r1, r2)) (hn : am_nl o0 = true) (k : Rn d mid (pc + 2) (o0 :: some (.int x) :: l) r h Q) : Rn d mid pc (o0 :: ok :: l) (.int x :: r) h Q := by
  refine Rn.go hc hf rfl ?_ k
  have e : am_kill (o0 :: ok :: l) 1 = o0 :: ok :: l := am_kill_nl (j := 0) rfl hn
  have e2 : decide (1 < (o0 :: ok :: l).length) = true := decide_eq_true (by simp)
  show (match decide (1 < (o0 :: ok :: l).length) with
    | true => some (pc + 2, am_st1 (o0 :: ok :: l) 1 (.int x), r, h)
    | false => none) = _
  rw [e2]
  show some (pc + 2, (am_kill (o0 :: ok :: l) 1).set 1 (some (.int x)), r, h) = _
  rw [e]
  rfl
theorem Rn.istore_n1 {o0 ok : Option Value} {x : Int32} (hc : am_code mid = c) (hf : am_find c pc = some (.istore_n 1, r1, r2)) (hn : am_nl o0 = true) (k : Rn d mid (pc + 1) (o0 :: some (.int x) :: l) r h Q) : Rn d mid pc (o0 :: ok :: l) (.int x :: r) h Q := by
  refine Rn.go hc hf rfl ?_ k
  have e : am_kill (o0 :: ok :: l) 1 = o0 :: ok :: l := am_kill_nl (j := 0) rfl hn
  have e2 : decide (1 < (o0 :: ok :: l).length) = true := decide_eq_true (by simp)
  show (match decide (1 < (o0 :: ok :: l).length) with
    | true => some (pc + 1, am_st1 (o0 :: ok :: l) 1 (.int x), r, h)
    | false => none) = _
  rw [e2]
  show some (pc + 1, (am_kill (o0 :: ok :: l) 1).set 1 (some (.int x)), r, h) = _
  rw [e]
  rfl
theorem Rn.astore1 {o0 ok : Option Value} {x : Nat} (hc : am_code mid = c) (hf : am_find c pc = some (.astore 1, r1, r2)) (hn : am_nl o0 = true) (k : Rn d mid (pc + 2) (o0 :: some (.ref x) :: l) r h Q) : Rn d mid pc (o0 :: ok :: l) (.ref x :: r) h Q := by
  refine Rn.go hc hf rfl ?_ k
  have e : am_kill (o0 :: ok :: l) 1 = o0 :: ok :: l := am_kill_nl (j := 0) rfl hn
  have e2 : decide (1 < (o0 :: ok :: l).length) = true := decide_eq_true (by simp)
  show (match decide (1 < (o0 :: ok :: l).length) with
    | true => some (pc + 2, am_st1 (o0 :: ok :: l) 1 (.ref x), r, h)
    | false => none) = _
  rw [e2]
  show some (pc + 2, (am_kill (o0 :: ok :: l) 1).set 1 (some (.ref x)), r, h) = _
  rw [e]
  rfl
theorem Rn.astore_n1 {o0 ok : Option Value} {x : Nat} (hc : am_code mid = c) (hf : am_find c pc = some (.astore_n 1, r1, r2)) (hn : am_nl o0 = true) (k : Rn d mid (pc + 1) (o0 :: some (.ref x) :: l) r h Q) : Rn d mid pc (o0 :: ok :: l) (.ref x :: r) h Q := by
  refine Rn.go hc hf rfl ?_ k
  have e : am_kill (o0 :: ok :: l) 1 = o0 :: ok :: l := am_kill_nl (j := 0) rfl hn
  have e2 : decide (1 < (o0 :: ok :: l).length) = true := decide_eq_true (by simp)
  show (match decide (1 < (o0 :: ok :: l).length) with
    | true => some (pc + 1, am_st1 (o0 :: ok :: l) 1 (.ref x), r, h)
    | false => none) = _
  rw [e2]
  show some (pc + 1, (am_kill (o0 :: ok :: l) 1).set 1 (some (.ref x)), r, h) = _
  rw [e]
  rfl
theorem Rn.lstore1 {o0 ok ok1 : Option Value} {x : Int64} (hc : am_code mid = c) (hf : am_find c pc = some (.lstore 1, r1, r2)) (hn : am_nl o0 = true) (k : Rn d mid (pc + 2) (o0 :: some (.long x) :: none :: l) r h Q) : Rn d mid pc (o0 :: ok :: ok1 :: l) (.long x :: r) h Q := by
  refine Rn.go hc hf rfl ?_ k
  have e : am_kill (o0 :: ok :: ok1 :: l) 1 = o0 :: ok :: ok1 :: l := am_kill_nl (j := 0) rfl hn
  have e2 : decide (1 + 1 < (o0 :: ok :: ok1 :: l).length) = true := decide_eq_true (by simp)
  show (match decide (1 + 1 < (o0 :: ok :: ok1 :: l).length) with
    | true => some (pc + 2, am_st2 (o0 :: ok :: ok1 :: l) 1 (.long x), r, h)
    | false => none) = _
  rw [e2]
  show some (pc + 2, ((am_kill (o0 :: ok :: ok1 :: l) 1).set 1 (some (.long x))).set (1 + 1) none, r, h) = _
  rw [e]
  rfl
theorem Rn.lstore_n1 {o0 ok ok1 : Option Value} {x : Int64} (hc : am_code mid = c) (hf : am_find c pc = some (.lstore_n 1, r1, r2)) (hn : am_nl o0 = true) (k : Rn d mid (pc + 1) (o0 :: some (.long x) :: none :: l) r h Q) : Rn d mid pc (o0 :: ok :: ok1 :: l) (.long x :: r) h Q := by
  refine Rn.go hc hf rfl ?_ k
  have e : am_kill (o0 :: ok :: ok1 :: l) 1 = o0 :: ok :: ok1 :: l := am_kill_nl (j := 0) rfl hn
  have e2 : decide (1 + 1 < (o0 :: ok :: ok1 :: l).length) = true := decide_eq_true (by simp)
  show (match decide (1 + 1 < (o0 :: ok :: ok1 :: l).length) with
    | true => some (pc + 1, am_st2 (o0 :: ok :: ok1 :: l) 1 (.long x), r, h)
    | false => none) = _
  rw [e2]
  show some (pc + 1, ((am_kill (o0 :: ok :: ok1 :: l) 1).set 1 (some (.long x))).set (1 + 1) none, r, h) = _
  rw [e]
  rfl
theorem Rn.iinc1 {o0 : Option Value} {x : Int32} {n : Int} (v : Int32) (hc : am_code mid = c) (hf : am_find c pc = some (.iinc 1 n, r1, r2)) (hv : Int32.ofInt n = v) (hn : am_nl o0 = true) (k : Rn d mid (pc + 3) (o0 :: some (.int (x + v)) :: l) r h Q) : Rn d mid pc (o0 :: some (.int x) :: l) r h Q := by
  subst hv
  refine Rn.go hc hf rfl ?_ k
  have e : am_kill (o0 :: some (.int x) :: l) 1 = o0 :: some (.int x) :: l := am_kill_nl (j := 0) rfl hn
  have e2 : decide (1 < (o0 :: some (.int x) :: l).length) = true := decide_eq_true (by simp)
  show (match decide (1 < (o0 :: some (.int x) :: l).length) with
    | true => some (pc + 3, am_st1 (o0 :: some (.int x) :: l) 1 (.int (x + Int32.ofInt n)), r, h)
    | false => none) = _
  rw [e2]
  show some (pc + 3, (am_kill (o0 :: some (.int x) :: l) 1).set 1 (some (.int (x + Int32.ofInt n))), r, h) = _
  rw [e]
  rfl
theorem Rn.istore2 {o0 o1 ok : Option Value} {x : Int32} (hc : am_code mid = c) (hf : am_find c pc = some (.istore 2, r1, r2)) (hn : am_nl o1 = true) (k : Rn d mid (pc + 2) (o0 :: o1 :: some (.int x) :: l) r h Q) : Rn d mid pc (o0 :: o1 :: ok :: l) (.int x :: r) h Q := by
  refine Rn.go hc hf rfl ?_ k
  have e : am_kill (o0 :: o1 :: ok :: l) 2 = o0 :: o1 :: ok :: l := am_kill_nl (j := 1) rfl hn
  have e2 : decide (2 < (o0 :: o1 :: ok :: l).length) = true := decide_eq_true (by simp)
  show (match decide (2 < (o0 :: o1 :: ok :: l).length) with
    | true => some (pc + 2, am_st1 (o0 :: o1 :: ok :: l) 2 (.int x), r, h)
    | false => none) = _
  rw [e2]
  show some (pc + 2, (am_kill (o0 :: o1 :: ok :: l) 2).set 2 (some (.int x)), r, h) = _
  rw [e]
  rfl
theorem Rn.istore_n2 {o0 o1 ok : Option Value} {x : Int32} (hc : am_code mid = c) (hf : am_find c pc = some (.istore_n 2, r1, r2)) (hn : am_nl o1 = true) (k : Rn d mid (pc + 1) (o0 :: o1 :: some (.int x) :: l) r h Q) : Rn d mid pc (o0 :: o1 :: ok :: l) (.int x :: r) h Q := by
  refine Rn.go hc hf rfl ?_ k
  have e : am_kill (o0 :: o1 :: ok :: l) 2 = o0 :: o1 :: ok :: l := am_kill_nl (j := 1) rfl hn
  have e2 : decide (2 < (o0 :: o1 :: ok :: l).length) = true := decide_eq_true (by simp)
  show (match decide (2 < (o0 :: o1 :: ok :: l).length) with
    | true => some (pc + 1, am_st1 (o0 :: o1 :: ok :: l) 2 (.int x), r, h)
    | false => none) = _
  rw [e2]
  show some (pc + 1, (am_kill (o0 :: o1 :: ok :: l) 2).set 2 (some (.int x)), r, h) = _
  rw [e]
  rfl
theorem Rn.astore2 {o0 o1 ok : Option Value} {x : Nat} (hc : am_code mid = c) (hf : am_find c pc = some (.astore 2, r1, r2)) (hn : am_nl o1 = true) (k : Rn d mid (pc + 2) (o0 :: o1 :: some (.ref x) :: l) r h Q) : Rn d mid pc (o0 :: o1 :: ok :: l) (.ref x :: r) h Q := by
  refine Rn.go hc hf rfl ?_ k
  have e : am_kill (o0 :: o1 :: ok :: l) 2 = o0 :: o1 :: ok :: l := am_kill_nl (j := 1) rfl hn
  have e2 : decide (2 < (o0 :: o1 :: ok :: l).length) = true := decide_eq_true (by simp)
  show (match decide (2 < (o0 :: o1 :: ok :: l).length) with
    | true => some (pc + 2, am_st1 (o0 :: o1 :: ok :: l) 2 (.ref x), r, h)
    | false => none) = _
  rw [e2]
  show some (pc + 2, (am_kill (o0 :: o1 :: ok :: l) 2).set 2 (some (.ref x)), r, h) = _
  rw [e]
  rfl
theorem Rn.astore_n2 {o0 o1 ok : Option Value} {x : Nat} (hc : am_code mid = c) (hf : am_find c pc = some (.astore_n 2, r1, r2)) (hn : am_nl o1 = true) (k : Rn d mid (pc + 1) (o0 :: o1 :: some (.ref x) :: l) r h Q) : Rn d mid pc (o0 :: o1 :: ok :: l) (.ref x :: r) h Q := by
  refine Rn.go hc hf rfl ?_ k
  have e : am_kill (o0 :: o1 :: ok :: l) 2 = o0 :: o1 :: ok :: l := am_kill_nl (j := 1) rfl hn
  have e2 : decide (2 < (o0 :: o1 :: ok :: l).length) = true := decide_eq_true (by simp)
  show (match decide (2 < (o0 :: o1 :: ok :: l).length) with
    | true => some (pc + 1, am_st1 (o0 :: o1 :: ok :: l) 2 (.ref x), r, h)
    | false => none) = _
  rw [e2]
  show some (pc + 1, (am_kill (o0 :: o1 :: ok :: l) 2).set 2 (some (.ref x)), r, h) = _
  rw [e]
  rfl
theorem Rn.lstore2 {o0 o1 ok ok1 : Option Value} {x : Int64} (hc : am_code mid = c) (hf : am_find c pc = some (.lstore 2, r1, r2)) (hn : am_nl o1 = true) (k : Rn d mid (pc + 2) (o0 :: o1 :: some (.long x) :: none :: l) r h Q) : Rn d mid pc (o0 :: o1 :: ok :: ok1 :: l) (.long x :: r) h Q := by
  refine Rn.go hc hf rfl ?_ k
  have e : am_kill (o0 :: o1 :: ok :: ok1 :: l) 2 = o0 :: o1 :: ok :: ok1 :: l := am_kill_nl (j := 1) rfl hn
  have e2 : decide (2 + 1 < (o0 :: o1 :: ok :: ok1 :: l).length) = true := decide_eq_true (by simp)
  show (match decide (2 + 1 < (o0 :: o1 :: ok :: ok1 :: l).length) with
    | true => some (pc + 2, am_st2 (o0 :: o1 :: ok :: ok1 :: l) 2 (.long x), r, h)
    | false => none) = _
  rw [e2]
  show some (pc + 2, ((am_kill (o0 :: o1 :: ok :: ok1 :: l) 2).set 2 (some (.long x))).set (2 + 1) none, r, h) = _
  rw [e]
  rfl
theorem Rn.lstore_n2 {o0 o1 ok ok1 : Option Value} {x : Int64} (hc : am_code mid = c) (hf : am_find c pc = some (.lstore_n 2, r1, r2)) (hn : am_nl o1 = true) (k : Rn d mid (pc + 1) (o0 :: o1 :: some (.long x) :: none :: l) r h Q) : Rn d mid pc (o0 :: o1 :: ok :: ok1 :: l) (.long x :: r) h Q := by
  refine Rn.go hc hf rfl ?_ k
  have e : am_kill (o0 :: o1 :: ok :: ok1 :: l) 2 = o0 :: o1 :: ok :: ok1 :: l := am_kill_nl (j := 1) rfl hn
  have e2 : decide (2 + 1 < (o0 :: o1 :: ok :: ok1 :: l).length) = true := decide_eq_true (by simp)
  show (match decide (2 + 1 < (o0 :: o1 :: ok :: ok1 :: l).length) with
    | true => some (pc + 1, am_st2 (o0 :: o1 :: ok :: ok1 :: l) 2 (.long x), r, h)
    | false => none) = _
  rw [e2]
  show some (pc + 1, ((am_kill (o0 :: o1 :: ok :: ok1 :: l) 2).set 2 (some (.long x))).set (2 + 1) none, r, h) = _
  rw [e]
  rfl
theorem Rn.iinc2 {o0 o1 : Option Value} {x : Int32} {n : Int} (v : Int32) (hc : am_code mid = c) (hf : am_find c pc = some (.iinc 2 n, r1, r2)) (hv : Int32.ofInt n = v) (hn : am_nl o1 = true) (k : Rn d mid (pc + 3) (o0 :: o1 :: some (.int (x + v)) :: l) r h Q) : Rn d mid pc (o0 :: o1 :: some (.int x) :: l) r h Q := by
  subst hv
  refine Rn.go hc hf rfl ?_ k
  have e : am_kill (o0 :: o1 :: some (.int x) :: l) 2 = o0 :: o1 :: some (.int x) :: l := am_kill_nl (j := 1) rfl hn
  have e2 : decide (2 < (o0 :: o1 :: some (.int x) :: l).length) = true := decide_eq_true (by simp)
  show (match decide (2 < (o0 :: o1 :: some (.int x) :: l).length) with
    | true => some (pc + 3, am_st1 (o0 :: o1 :: some (.int x) :: l) 2 (.int (x + Int32.ofInt n)), r, h)
    | false => none) = _
  rw [e2]
  show some (pc + 3, (am_kill (o0 :: o1 :: some (.int x) :: l) 2).set 2 (some (.int (x + Int32.ofInt n))), r, h) = _
  rw [e]
  rfl
theorem Rn.istore3 {o0 o1 o2 ok : Option Value} {x : Int32} (hc : am_code mid = c) (hf : am_find c pc = some (.istore 3, r1, r2)) (hn : am_nl o2 = true) (k : Rn d mid (pc + 2) (o0 :: o1 :: o2 :: some (.int x) :: l) r h Q) : Rn d mid pc (o0 :: o1 :: o2 :: ok :: l) (.int x :: r) h Q := by
  refine Rn.go hc hf rfl ?_ k
  have e : am_kill (o0 :: o1 :: o2 :: ok :: l) 3 = o0 :: o1 :: o2 :: ok :: l := am_kill_nl (j := 2) rfl hn
  have e2 : decide (3 < (o0 :: o1 :: o2 :: ok :: l).length) = true := decide_eq_true (by simp)
  show (match decide (3 < (o0 :: o1 :: o2 :: ok :: l).length) with
    | true => some (pc + 2, am_st1 (o0 :: o1 :: o2 :: ok :: l) 3 (.int x), r, h)
    | false => none) = _
  rw [e2]
  show some (pc + 2, (am_kill (o0 :: o1 :: o2 :: ok :: l) 3).set 3 (some (.int x)), r, h) = _
  rw [e]
  rfl
theorem Rn.istore_n3 {o0 o1 o2 ok : Option Value} {x : Int32} (hc : am_code mid = c) (hf : am_find c pc = some (.istore_n 3, r1, r2)) (hn : am_nl o2 = true) (k : Rn d mid (pc + 1) (o0 :: o1 :: o2 :: some (.int x) :: l) r h Q) : Rn d mid pc (o0 :: o1 :: o2 :: ok :: l) (.int x :: r) h Q := by
  refine Rn.go hc hf rfl ?_ k
  have e : am_kill (o0 :: o1 :: o2 :: ok :: l) 3 = o0 :: o1 :: o2 :: ok :: l := am_kill_nl (j := 2) rfl hn
  have e2 : decide (3 < (o0 :: o1 :: o2 :: ok :: l).length) = true := decide_eq_true (by simp)
  show (match decide (3 < (o0 :: o1 :: o2 :: ok :: l).length) with
    | true => some (pc + 1, am_st1 (o0 :: o1 :: o2 :: ok :: l) 3 (.int x), r, h)
    | false => none) = _
  rw [e2]
  show some (pc + 1, (am_kill (o0 :: o1 :: o2 :: ok :: l) 3).set 3 (some (.int x)), r, h) = _
  rw [e]
  rfl
theorem Rn.astore3 {o0 o1 o2 ok : Option Value} {x : Nat} (hc : am_code mid = c) (hf : am_find c pc = some (.astore 3, r1, r2)) (hn : am_nl o2 = true) (k : Rn d mid (pc + 2) (o0 :: o1 :: o2 :: some (.ref x) :: l) r h Q) : Rn d mid pc (o0 :: o1 :: o2 :: ok :: l) (.ref x :: r) h Q := by
  refine Rn.go hc hf rfl ?_ k
  have e : am_kill (o0 :: o1 :: o2 :: ok :: l) 3 = o0 :: o1 :: o2 :: ok :: l := am_kill_nl (j := 2) rfl hn
  have e2 : decide (3 < (o0 :: o1 :: o2 :: ok :: l).length) = true := decide_eq_true (by simp)
  show (match decide (3 < (o0 :: o1 :: o2 :: ok :: l).length) with
    | true => some (pc + 2, am_st1 (o0 :: o1 :: o2 :: ok :: l) 3 (.ref x), r, h)
    | false => none) = _
  rw [e2]
  show some (pc + 2, (am_kill (o0 :: o1 :: o2 :: ok :: l) 3).set 3 (some (.ref x)), r, h) = _
  rw [e]
  rfl
theorem Rn.astore_n3 {o0 o1 o2 ok : Option Value} {x : Nat} (hc : am_code mid = c) (hf : am_find c pc = some (.astore_n 3, r1, r2)) (hn : am_nl o2 = true) (k : Rn d mid (pc + 1) (o0 :: o1 :: o2 :: some (.ref x) :: l) r h Q) : Rn d mid pc (o0 :: o1 :: o2 :: ok :: l) (.ref x :: r) h Q := by
  refine Rn.go hc hf rfl ?_ k
  have e : am_kill (o0 :: o1 :: o2 :: ok :: l) 3 = o0 :: o1 :: o2 :: ok :: l := am_kill_nl (j := 2) rfl hn
  have e2 : decide (3 < (o0 :: o1 :: o2 :: ok :: l).length) = true := decide_eq_true (by simp)
  show (match decide (3 < (o0 :: o1 :: o2 :: ok :: l).length) with
    | true => some (pc + 1, am_st1 (o0 :: o1 :: o2 :: ok :: l) 3 (.ref x), r, h)
    | false => none) = _
  rw [e2]
  show some (pc + 1, (am_kill (o0 :: o1 :: o2 :: ok :: l) 3).set 3 (some (.ref x)), r, h) = _
  rw [e]
  rfl
theorem Rn.lstore3 {o0 o1 o2 ok ok1 : Option Value} {x : Int64} (hc : am_code mid = c) (hf : am_find c pc = some (.lstore 3, r1, r2)) (hn : am_nl o2 = true) (k : Rn d mid (pc + 2) (o0 :: o1 :: o2 :: some (.long x) :: none :: l) r h Q) : Rn d mid pc (o0 :: o1 :: o2 :: ok :: ok1 :: l) (.long x :: r) h Q := by
  refine Rn.go hc hf rfl ?_ k
  have e : am_kill (o0 :: o1 :: o2 :: ok :: ok1 :: l) 3 = o0 :: o1 :: o2 :: ok :: ok1 :: l := am_kill_nl (j := 2) rfl hn
  have e2 : decide (3 + 1 < (o0 :: o1 :: o2 :: ok :: ok1 :: l).length) = true := decide_eq_true (by simp)
  show (match decide (3 + 1 < (o0 :: o1 :: o2 :: ok :: ok1 :: l).length) with
    | true => some (pc + 2, am_st2 (o0 :: o1 :: o2 :: ok :: ok1 :: l) 3 (.long x), r, h)
    | false => none) = _
  rw [e2]
  show some (pc + 2, ((am_kill (o0 :: o1 :: o2 :: ok :: ok1 :: l) 3).set 3 (some (.long x))).set (3 + 1) none, r, h) = _
  rw [e]
  rfl
theorem Rn.lstore_n3 {o0 o1 o2 ok ok1 : Option Value} {x : Int64} (hc : am_code mid = c) (hf : am_find c pc = some (.lstore_n 3, r1, r2)) (hn : am_nl o2 = true) (k : Rn d mid (pc + 1) (o0 :: o1 :: o2 :: some (.long x) :: none :: l) r h Q) : Rn d mid pc (o0 :: o1 :: o2 :: ok :: ok1 :: l) (.long x :: r) h Q := by
  refine Rn.go hc hf rfl ?_ k
  have e : am_kill (o0 :: o1 :: o2 :: ok :: ok1 :: l) 3 = o0 :: o1 :: o2 :: ok :: ok1 :: l := am_kill_nl (j := 2) rfl hn
  have e2 : decide (3 + 1 < (o0 :: o1 :: o2 :: ok :: ok1 :: l).length) = true := decide_eq_true (by simp)
  show (match decide (3 + 1 < (o0 :: o1 :: o2 :: ok :: ok1 :: l).length) with
    | true => some (pc + 1, am_st2 (o0 :: o1 :: o2 :: ok :: ok1 :: l) 3 (.long x), r, h)
    | false => none) = _
  rw [e2]
  show some (pc + 1, ((am_kill (o0 :: o1 :: o2 :: ok :: ok1 :: l) 3).set 3 (some (.long x))).set (3 + 1) none, r, h) = _
  rw [e]
  rfl
theorem Rn.iinc3 {o0 o1 o2 : Option Value} {x : Int32} {n : Int} (v : Int32) (hc : am_code mid = c) (hf : am_find c pc = some (.iinc 3 n, r1, r2)) (hv : Int32.ofInt n = v) (hn : am_nl o2 = true) (k : Rn d mid (pc + 3) (o0 :: o1 :: o2 :: some (.int (x + v)) :: l) r h Q) : Rn d mid pc (o0 :: o1 :: o2 :: some (.int x) :: l) r h Q := by
  subst hv
  refine Rn.go hc hf rfl ?_ k
  have e : am_kill (o0 :: o1 :: o2 :: some (.int x) :: l) 3 = o0 :: o1 :: o2 :: some (.int x) :: l := am_kill_nl (j := 2) rfl hn
  have e2 : decide (3 < (o0 :: o1 :: o2 :: some (.int x) :: l).length) = true := decide_eq_true (by simp)
  show (match decide (3 < (o0 :: o1 :: o2 :: some (.int x) :: l).length) with
    | true => some (pc + 3, am_st1 (o0 :: o1 :: o2 :: some (.int x) :: l) 3 (.int (x + Int32.ofInt n)), r, h)
    | false => none) = _
  rw [e2]
  show some (pc + 3, (am_kill (o0 :: o1 :: o2 :: some (.int x) :: l) 3).set 3 (some (.int (x + Int32.ofInt n))), r, h) = _
  rw [e]
  rfl
theorem Rn.istore4 {o0 o1 o2 o3 ok : Option Value} {x : Int32} (hc : am_code mid = c) (hf : am_find c pc = some (.istore 4, r1, r2)) (hn : am_nl o3 = true) (k : Rn d mid (pc + 2) (o0 :: o1 :: o2 :: o3 :: some (.int x) :: l) r h Q) : Rn d mid pc (o0 :: o1 :: o2 :: o3 :: ok :: l) (.int x :: r) h Q := by
  refine Rn.go hc hf rfl ?_ k
  have e : am_kill (o0 :: o1 :: o2 :: o3 :: ok :: l) 4 = o0 :: o1 :: o2 :: o3 :: ok :: l := am_kill_nl (j := 3) rfl hn
  have e2 : decide (4 < (o0 :: o1 :: o2 :: o3 :: ok :: l).length) = true := decide_eq_true (by simp)
  show (match decide (4 < (o0 :: o1 :: o2 :: o3 :: ok :: l).length) with
    | true => some (pc + 2, am_st1 (o0 :: o1 :: o2 :: o3 :: ok :: l) 4 (.int x), r, h)
    | false => none) = _
  rw [e2]
  show some (pc + 2, (am_kill (o0 :: o1 :: o2 :: o3 :: ok :: l) 4).set 4 (some (.int x)), r, h) = _
  rw [e]
  rfl
theorem Rn.astore4 {o0 o1 o2 o3 ok : Option Value} {x : Nat} (hc : am_code mid = c) (hf : am_find c pc = some (.astore 4, r1, r2)) (hn : am_nl o3 = true) (k : Rn d mid (pc + 2) (o0 :: o1 :: o2 :: o3 :: some (.ref x) :: l) r h Q) : Rn d mid pc (o0 :: o1 :: o2 :: o3 :: ok :: l) (.ref x :: r) h Q := by
  refine Rn.go hc hf rfl ?_ k
  have e : am_kill (o0 :: o1 :: o2 :: o3 :: ok :: l) 4 = o0 :: o1 :: o2 :: o3 :: ok :: l := am_kill_nl (j := 3) rfl hn
  have e2 : decide (4 < (o0 :: o1 :: o2 :: o3 :: ok :: l).length) = true := decide_eq_true (by simp)
  show (match decide (4 < (o0 :: o1 :: o2 :: o3 :: ok :: l).length) with
    | true => some (pc + 2, am_st1 (o0 :: o1 :: o2 :: o3 :: ok :: l) 4 (.ref x), r, h)
    | false => none) = _
  rw [e2]
  show some (pc + 2, (am_kill (o0 :: o1 :: o2 :: o3 :: ok :: l) 4).set 4 (some (.ref x)), r, h) = _
  rw [e]
  rfl
theorem Rn.lstore4 {o0 o1 o2 o3 ok ok1 : Option Value} {x : Int64} (hc : am_code mid = c) (hf : am_find c pc = some (.lstore 4, r1, r2)) (hn : am_nl o3 = true) (k : Rn d mid (pc + 2) (o0 :: o1 :: o2 :: o3 :: some (.long x) :: none :: l) r h Q) : Rn d mid pc (o0 :: o1 :: o2 :: o3 :: ok :: ok1 :: l) (.long x :: r) h Q := by
  refine Rn.go hc hf rfl ?_ k
  have e : am_kill (o0 :: o1 :: o2 :: o3 :: ok :: ok1 :: l) 4 = o0 :: o1 :: o2 :: o3 :: ok :: ok1 :: l := am_kill_nl (j := 3) rfl hn
  have e2 : decide (4 + 1 < (o0 :: o1 :: o2 :: o3 :: ok :: ok1 :: l).length) = true := decide_eq_true (by simp)
  show (match decide (4 + 1 < (o0 :: o1 :: o2 :: o3 :: ok :: ok1 :: l).length) with
    | true => some (pc + 2, am_st2 (o0 :: o1 :: o2 :: o3 :: ok :: ok1 :: l) 4 (.long x), r, h)
    | false => none) = _
  rw [e2]
  show some (pc + 2, ((am_kill (o0 :: o1 :: o2 :: o3 :: ok :: ok1 :: l) 4).set 4 (some (.long x))).set (4 + 1) none, r, h) = _
  rw [e]
  rfl
theorem Rn.iinc4 {o0 o1 o2 o3 : Option Value} {x : Int32} {n : Int} (v : Int32) (hc : am_code mid = c) (hf : am_find c pc = some (.iinc 4 n, r1, r2)) (hv : Int32.ofInt n = v) (hn : am_nl o3 = true) (k : Rn d mid (pc + 3) (o0 :: o1 :: o2 :: o3 :: some (.int (x + v)) :: l) r h Q) : Rn d mid pc (o0 :: o1 :: o2 :: o3 :: some (.int x) :: l) r h Q := by
  subst hv
  refine Rn.go hc hf rfl ?_ k
  have e : am_kill (o0 :: o1 :: o2 :: o3 :: some (.int x) :: l) 4 = o0 :: o1 :: o2 :: o3 :: some (.int x) :: l := am_kill_nl (j := 3) rfl hn
  have e2 : decide (4 < (o0 :: o1 :: o2 :: o3 :: some (.int x) :: l).length) = true := decide_eq_true (by simp)
  show (match decide (4 < (o0 :: o1 :: o2 :: o3 :: some (.int x) :: l).length) with
    | true => some (pc + 3, am_st1 (o0 :: o1 :: o2 :: o3 :: some (.int x) :: l) 4 (.int (x + Int32.ofInt n)), r, h)
    | false => none) = _
  rw [e2]
  show some (pc + 3, (am_kill (o0 :: o1 :: o2 :: o3 :: some (.int x) :: l) 4).set 4 (some (.int (x + Int32.ofInt n))), r, h) = _
  rw [e]
  rfl
theorem Rn.istore5 {o0 o1 o2 o3 o4 ok : Option Value} {x : Int32} (hc : am_code mid = c) (hf : am_find c pc = some (.istore 5, r1, r2)) (hn : am_nl o4 = true) (k : Rn d mid (pc + 2) (o0 :: o1 :: o2 :: o3 :: o4 :: some (.int x) :: l) r h Q) : Rn d mid pc (o0 :: o1 :: o2 :: o3 :: o4 :: ok :: l) (.int x :: r) h Q := by
  refine Rn.go hc hf rfl ?_ k
  have e : am_kill (o0 :: o1 :: o2 :: o3 :: o4 :: ok :: l) 5 = o0 :: o1 :: o2 :: o3 :: o4 :: ok :: l := am_kill_nl (j := 4) rfl hn
  have e2 : decide (5 < (o0 :: o1 :: o2 :: o3 :: o4 :: ok :: l).length) = true := decide_eq_true (by simp)
  show (match decide (5 < (o0 :: o1 :: o2 :: o3 :: o4 :: ok :: l).length) with
    | true => some (pc + 2, am_st1 (o0 :: o1 :: o2 :: o3 :: o4 :: ok :: l) 5 (.int x), r, h)
    | false => none) = _
  rw [e2]
  show some (pc + 2, (am_kill (o0 :: o1 :: o2 :: o3 :: o4 :: ok :: l) 5).set 5 (some (.int x)), r, h) = _
  rw [e]
  rfl
theorem Rn.astore5 {o0 o1 o2 o3 o4 ok : Option Value} {x : Nat} (hc : am_code mid = c) (hf : am_find c pc = some (.astore 5, r1, r2)) (hn : am_nl o4 = true) (k : Rn d mid (pc + 2) (o0 :: o1 :: o2 :: o3 :: o4 :: some (.ref x) :: l) r h Q) : Rn d mid pc (o0 :: o1 :: o2 :: o3 :: o4 :: ok :: l) (.ref x :: r) h Q := by
  refine Rn.go hc hf rfl ?_ k
  have e : am_kill (o0 :: o1 :: o2 :: o3 :: o4 :: ok :: l) 5 = o0 :: o1 :: o2 :: o3 :: o4 :: ok :: l := am_kill_nl (j := 4) rfl hn
  have e2 : decide (5 < (o0 :: o1 :: o2 :: o3 :: o4 :: ok :: l).length) = true := decide_eq_true (by simp)
  show (match decide (5 < (o0 :: o1 :: o2 :: o3 :: o4 :: ok :: l).length) with
    | true => some (pc + 2, am_st1 (o0 :: o1 :: o2 :: o3 :: o4 :: ok :: l) 5 (.ref x), r, h)
    | false => none) = _
  rw [e2]
  show some (pc + 2, (am_kill (o0 :: o1 :: o2 :: o3 :: o4 :: ok :: l) 5).set 5 (some (.ref x)), r, h) = _
  rw [e]
  rfl
theorem Rn.lstore5 {o0 o1 o2 o3 o4 ok ok1 : Option Value} {x : Int64} (hc : am_code mid = c) (hf : am_find c pc = some (.lstore 5, r1, r2)) (hn : am_nl o4 = true) (k : Rn d mid (pc + 2) (o0 :: o1 :: o2 :: o3 :: o4 :: some (.long x) :: none :: l) r h Q) : Rn d mid pc (o0 :: o1 :: o2 :: o3 :: o4 :: ok :: ok1 :: l) (.long x :: r) h Q := by
  refine Rn.go hc hf rfl ?_ k
  have e : am_kill (o0 :: o1 :: o2 :: o3 :: o4 :: ok :: ok1 :: l) 5 = o0 :: o1 :: o2 :: o3 :: o4 :: ok :: ok1 :: l := am_kill_nl (j := 4) rfl hn
  have e2 : decide (5 + 1 < (o0 :: o1 :: o2 :: o3 :: o4 :: ok :: ok1 :: l).length) = true := decide_eq_true (by simp)
  show (match decide (5 + 1 < (o0 :: o1 :: o2 :: o3 :: o4 :: ok :: ok1 :: l).length) with
    | true => some (pc + 2, am_st2 (o0 :: o1 :: o2 :: o3 :: o4 :: ok :: ok1 :: l) 5 (.long x), r, h)
    | false => none) = _
  rw [e2]
  show some (pc + 2, ((am_kill (o0 :: o1 :: o2 :: o3 :: o4 :: ok :: ok1 :: l) 5).set 5 (some (.long x))).set (5 + 1) none, r, h) = _
  rw [e]
  rfl
theorem Rn.iinc5 {o0 o1 o2 o3 o4 : Option Value} {x : Int32} {n : Int} (v : Int32) (hc : am_code mid = c) (hf : am_find c pc = some (.iinc 5 n, r1, r2)) (hv : Int32.ofInt n = v) (hn : am_nl o4 = true) (k : Rn d mid (pc + 3) (o0 :: o1 :: o2 :: o3 :: o4 :: some (.int (x + v)) :: l) r h Q) : Rn d mid pc (o0 :: o1 :: o2 :: o3 :: o4 :: some (.int x) :: l) r h Q := by
  subst hv
  refine Rn.go hc hf rfl ?_ k
  have e : am_kill (o0 :: o1 :: o2 :: o3 :: o4 :: some (.int x) :: l) 5 = o0 :: o1 :: o2 :: o3 :: o4 :: some (.int x) :: l := am_kill_nl (j := 4) rfl hn
  have e2 : decide (5 < (o0 :: o1 :: o2 :: o3 :: o4 :: some (.int x) :: l).length) = true := decide_eq_true (by simp)
  show (match decide (5 < (o0 :: o1 :: o2 :: o3 :: o4 :: some (.int x) :: l).length) with
    | true => some (pc + 3, am_st1 (o0 :: o1 :: o2 :: o3 :: o4 :: some (.int x) :: l) 5 (.int (x + Int32.ofInt n)), r, h)
    | false => none) = _
  rw [e2]
  show some (pc + 3, (am_kill (o0 :: o1 :: o2 :: o3 :: o4 :: some (.int x) :: l) 5).set 5 (some (.int (x + Int32.ofInt n))), r, h) = _
  rw [e]
  rfl
theorem Rn.istore6 {o0 o1 o2 o3 o4 o5 ok : Option Value} {x : Int32} (hc : am_code mid = c) (hf : am_find c pc = some (.istore 6, r1, r2)) (hn : am_nl o5 = true) (k : Rn d mid (pc + 2) (o0 :: o1 :: o2 :: o3 :: o4 :: o5 :: some (.int x) :: l) r h Q) : Rn d mid pc (o0 :: o1 :: o2 :: o3 :: o4 :: o5 :: ok :: l) (.int x :: r) h Q := by
  refine Rn.go hc hf rfl ?_ k
  have e : am_kill (o0 :: o1 :: o2 :: o3 :: o4 :: o5 :: ok :: l) 6 = o0 :: o1 :: o2 :: o3 :: o4 :: o5 :: ok :: l := am_kill_nl (j := 5) rfl hn
  have e2 : decide (6 < (o0 :: o1 :: o2 :: o3 :: o4 :: o5 :: ok :: l).length) = true := decide_eq_true (by simp)
  show (match decide (6 < (o0 :: o1 :: o2 :: o3 :: o4 :: o5 :: ok :: l).length) with
    | true => some (pc + 2, am_st1 (o0 :: o1 :: o2 :: o3 :: o4 :: o5 :: ok :: l) 6 (.int x), r, h)
    | false => none) = _
  rw [e2]
  show some (pc + 2, (am_kill (o0 :: o1 :: o2 :: o3 :: o4 :: o5 :: ok :: l) 6).set 6 (some (.int x)), r, h) = _
  rw [e]
  rfl
theorem Rn.astore6 {o0 o1 o2 o3 o4 o5 ok : Option Value} {x : Nat} (hc : am_code mid = c) (hf : am_find c pc = some (.astore 6, r1, r2)) (hn : am_nl o5 = true) (k : Rn d mid (pc + 2) (o0 :: o1 :: o2 :: o3 :: o4 :: o5 :: some (.ref x) :: l) r h Q) : Rn d mid pc (o0 :: o1 :: o2 :: o3 :: o4 :: o5 :: ok :: l) (.ref x :: r) h Q := by
  refine Rn.go hc hf rfl ?_ k
  have e : am_kill (o0 :: o1 :: o2 :: o3 :: o4 :: o5 :: ok :: l) 6 = o0 :: o1 :: o2 :: o3 :: o4 :: o5 :: ok :: l := am_kill_nl (j := 5) rfl hn
  have e2 : decide (6 < (o0 :: o1 :: o2 :: o3 :: o4 :: o5 :: ok :: l).length) = true := decide_eq_true (by simp)
  show (match decide (6 < (o0 :: o1 :: o2 :: o3 :: o4 :: o5 :: ok :: l).length) with
    | true => some (pc + 2, am_st1 (o0 :: o1 :: o2 :: o3 :: o4 :: o5 :: ok :: l) 6 (.ref x), r, h)
    | false => none) = _
  rw [e2]
  show some (pc + 2, (am_kill (o0 :: o1 :: o2 :: o3 :: o4 :: o5 :: ok :: l) 6).set 6 (some (.ref x)), r, h) = _
  rw [e]
  rfl
theorem Rn.lstore6 {o0 o1 o2 o3 o4 o5 ok ok1 : Option Value} {x : Int64} (hc : am_code mid = c) (hf : am_find c pc = some (.lstore 6, r1, r2)) (hn : am_nl o5 = true) (k : Rn d mid (pc + 2) (o0 :: o1 :: o2 :: o3 :: o4 :: o5 :: some (.long x) :: none :: l) r h Q) : Rn d mid pc (o0 :: o1 :: o2 :: o3 :: o4 :: o5 :: ok :: ok1 :: l) (.long x :: r) h Q := by
  refine Rn.go hc hf rfl ?_ k
  have e : am_kill (o0 :: o1 :: o2 :: o3 :: o4 :: o5 :: ok :: ok1 :: l) 6 = o0 :: o1 :: o2 :: o3 :: o4 :: o5 :: ok :: ok1 :: l := am_kill_nl (j := 5) rfl hn
  have e2 : decide (6 + 1 < (o0 :: o1 :: o2 :: o3 :: o4 :: o5 :: ok :: ok1 :: l).length) = true := decide_eq_true (by simp)
  show (match decide (6 + 1 < (o0 :: o1 :: o2 :: o3 :: o4 :: o5 :: ok :: ok1 :: l).length) with
    | true => some (pc + 2, am_st2 (o0 :: o1 :: o2 :: o3 :: o4 :: o5 :: ok :: ok1 :: l) 6 (.long x), r, h)
    | false => none) = _
  rw [e2]
  show some (pc + 2, ((am_kill (o0 :: o1 :: o2 :: o3 :: o4 :: o5 :: ok :: ok1 :: l) 6).set 6 (some (.long x))).set (6 + 1) none, r, h) = _
  rw [e]
  rfl
theorem Rn.iinc6 {o0 o1 o2 o3 o4 o5 : Option Value} {x : Int32} {n : Int} (v : Int32) (hc : am_code mid = c) (hf : am_find c pc = some (.iinc 6 n, r1, r2)) (hv : Int32.ofInt n = v) (hn : am_nl o5 = true) (k : Rn d mid (pc + 3) (o0 :: o1 :: o2 :: o3 :: o4 :: o5 :: some (.int (x + v)) :: l) r h Q) : Rn d mid pc (o0 :: o1 :: o2 :: o3 :: o4 :: o5 :: some (.int x) :: l) r h Q := by
  subst hv
  refine Rn.go hc hf rfl ?_ k
  have e : am_kill (o0 :: o1 :: o2 :: o3 :: o4 :: o5 :: some (.int x) :: l) 6 = o0 :: o1 :: o2 :: o3 :: o4 :: o5 :: some (.int x) :: l := am_kill_nl (j := 5) rfl hn
  have e2 : decide (6 < (o0 :: o1 :: o2 :: o3 :: o4 :: o5 :: some (.int x) :: l).length) = true := decide_eq_true (by simp)
  show (match decide (6 < (o0 :: o1 :: o2 :: o3 :: o4 :: o5 :: some (.int x) :: l).length) with
    | true => some (pc + 3, am_st1 (o0 :: o1 :: o2 :: o3 :: o4 :: o5 :: some (.int x) :: l) 6 (.int (x + Int32.ofInt n)), r, h)
    | false => none) = _
  rw [e2]
  show some (pc + 3, (am_kill (o0 :: o1 :: o2 :: o3 :: o4 :: o5 :: some (.int x) :: l) 6).set 6 (some (.int (x + Int32.ofInt n))), r, h) = _
  rw [e]
  rfl
theorem Rn.istore7 {o0 o1 o2 o3 o4 o5 o6 ok : Option Value} {x : Int32} (hc : am_code mid = c) (hf : am_find c pc = some (.istore 7, r1, r2)) (hn : am_nl o6 = true) (k : Rn d mid (pc + 2) (o0 :: o1 :: o2 :: o3 :: o4 :: o5 :: o6 :: some (.int x) :: l) r h Q) : Rn d mid pc (o0 :: o1 :: o2 :: o3 :: o4 :: o5 :: o6 :: ok :: l) (.int x :: r) h Q := by
  refine Rn.go hc hf rfl ?_ k
  have e : am_kill (o0 :: o1 :: o2 :: o3 :: o4 :: o5 :: o6 :: ok :: l) 7 = o0 :: o1 :: o2 :: o3 :: o4 :: o5 :: o6 :: ok :: l := am_kill_nl (j := 6) rfl hn
  have e2 : decide (7 < (o0 :: o1 :: o2 :: o3 :: o4 :: o5 :: o6 :: ok :: l).length) = true := decide_eq_true (by simp)
  show (match decide (7 < (o0 :: o1 :: o2 :: o3 :: o4 :: o5 :: o6 :: ok :: l).length) with
    | true => some (pc + 2, am_st1 (o0 :: o1 :: o2 :: o3 :: o4 :: o5 :: o6 :: ok :: l) 7 (.int x), r, h)
    | false => none) = _
  rw [e2]
  show some (pc + 2, (am_kill (o0 :: o1 :: o2 :: o3 :: o4 :: o5 :: o6 :: ok :: l) 7).set 7 (some (.int x)), r, h) = _
  rw [e]
  rfl
theorem Rn.astore7 {o0 o1 o2 o3 o4 o5 o6 ok : Option Value} {x : Nat} (hc : am_code mid = c) (hf : am_find c pc = some (.astore 7, r1, r2)) (hn : am_nl o6 = true) (k : Rn d mid (pc + 2) (o0 :: o1 :: o2 :: o3 :: o4 :: o5 :: o6 :: some (.ref x) :: l) r h Q) : Rn d mid pc (o0 :: o1 :: o2 :: o3 :: o4 :: o5 :: o6 :: ok :: l) (.ref x :: r) h Q := by
  refine Rn.go hc hf rfl ?_ k
  have e : am_kill (o0 :: o1 :: o2 :: o3 :: o4 :: o5 :: o6 :: ok :: l) 7 = o0 :: o1 :: o2 :: o3 :: o4 :: o5 :: o6 :: ok :: l := am_kill_nl (j := 6) rfl hn
  have e2 : decide (7 < (o0 :: o1 :: o2 :: o3 :: o4 :: o5 :: o6 :: ok :: l).length) = true := decide_eq_true (by simp)
  show (match decide (7 < (o0 :: o1 :: o2 :: o3 :: o4 :: o5 :: o6 :: ok :: l).length) with
    | true => some (pc + 2, am_st1 (o0 :: o1 :: o2 :: o3 :: o4 :: o5 :: o6 :: ok :: l) 7 (.ref x), r, h)
    | false => none) = _
  rw [e2]
  show some (pc + 2, (am_kill (o0 :: o1 :: o2 :: o3 :: o4 :: o5 :: o6 :: ok :: l) 7).set 7 (some (.ref x)), r, h) = _
  rw [e]
  rfl
theorem Rn.lstore7 {o0 o1 o2 o3 o4 o5 o6 ok ok1 : Option Value} {x : Int64} (hc : am_code mid = c) (hf : am_find c pc = some (.lstore 7, r1, r2)) (hn : am_nl o6 = true) (k : Rn d mid (pc + 2) (o0 :: o1 :: o2 :: o3 :: o4 :: o5 :: o6 :: some (.long x) :: none :: l) r h Q) : Rn d mid pc (o0 :: o1 :: o2 :: o3 :: o4 :: o5 :: o6 :: ok :: ok1 :: l) (.long x :: r) h Q := by
  refine Rn.go hc hf rfl ?_ k
  have e : am_kill (o0 :: o1 :: o2 :: o3 :: o4 :: o5 :: o6 :: ok :: ok1 :: l) 7 = o0 :: o1 :: o2 :: o3 :: o4 :: o5 :: o6 :: ok :: ok1 :: l := am_kill_nl (j := 6) rfl hn
  have e2 : decide (7 + 1 < (o0 :: o1 :: o2 :: o3 :: o4 :: o5 :: o6 :: ok :: ok1 :: l).length) = true := decide_eq_true (by simp)
  show (match decide (7 + 1 < (o0 :: o1 :: o2 :: o3 :: o4 :: o5 :: o6 :: ok :: ok1 :: l).length) with
    | true => some (pc + 2, am_st2 (o0 :: o1 :: o2 :: o3 :: o4 :: o5 :: o6 :: ok :: ok1 :: l) 7 (.long x), r, h)
    | false => none) = _
  rw [e2]
  show some (pc + 2, ((am_kill (o0 :: o1 :: o2 :: o3 :: o4 :: o5 :: o6 :: ok :: ok1 :: l) 7).set 7 (some (.long x))).set (7 + 1) none, r, h) = _
  rw [e]
  rfl
theorem Rn.iinc7 {o0 o1 o2 o3 o4 o5 o6 : Option Value} {x : Int32} {n : Int} (v : Int32) (hc : am_code mid = c) (hf : am_find c pc = some (.iinc 7 n, r1, r2)) (hv : Int32.ofInt n = v) (hn : am_nl o6 = true) (k : Rn d mid (pc + 3) (o0 :: o1 :: o2 :: o3 :: o4 :: o5 :: o6 :: some (.int (x + v)) :: l) r h Q) : Rn d mid pc (o0 :: o1 :: o2 :: o3 :: o4 :: o5 :: o6 :: some (.int x) :: l) r h Q := by
  subst hv
  refine Rn.go hc hf rfl ?_ k
  have e : am_kill (o0 :: o1 :: o2 :: o3 :: o4 :: o5 :: o6 :: some (.int x) :: l) 7 = o0 :: o1 :: o2 :: o3 :: o4 :: o5 :: o6 :: some (.int x) :: l := am_kill_nl (j := 6) rfl hn
  have e2 : decide (7 < (o0 :: o1 :: o2 :: o3 :: o4 :: o5 :: o6 :: some (.int x) :: l).length) = true := decide_eq_true (by simp)
  show (match decide (7 < (o0 :: o1 :: o2 :: o3 :: o4 :: o5 :: o6 :: some (.int x) :: l).length) with
    | true => some (pc + 3, am_st1 (o0 :: o1 :: o2 :: o3 :: o4 :: o5 :: o6 :: some (.int x) :: l) 7 (.int (x + Int32.ofInt n)), r, h)
    | false => none) = _
  rw [e2]
  show some (pc + 3, (am_kill (o0 :: o1 :: o2 :: o3 :: o4 :: o5 :: o6 :: some (.int x) :: l) 7).set 7 (some (.int (x + Int32.ofInt n))), r, h) = _
  rw [e]
  rfl
theorem Rn.istore8 {o0 o1 o2 o3 o4 o5 o6 o7 ok : Option Value} {x : Int32} (hc : am_code mid = c) (hf : am_find c pc = some (.istore 8, r1, r2)) (hn : am_nl o7 = true) (k : Rn d mid (pc + 2) (o0 :: o1 :: o2 :: o3 :: o4 :: o5 :: o6 :: o7 :: some (.int x) :: l) r h Q) : Rn d mid pc (o0 :: o1 :: o2 :: o3 :: o4 :: o5 :: o6 :: o7 :: ok :: l) (.int x :: r) h Q := by
  refine Rn.go hc hf rfl ?_ k
  have e : am_kill (o0 :: o1 :: o2 :: o3 :: o4 :: o5 :: o6 :: o7 :: ok :: l) 8 = o0 :: o1 :: o2 :: o3 :: o4 :: o5 :: o6 :: o7 :: ok :: l := am_kill_nl (j := 7) rfl hn
  have e2 : decide (8 < (o0 :: o1 :: o2 :: o3 :: o4 :: o5 :: o6 :: o7 :: ok :: l).length) = true := decide_eq_true (by simp)
  show (match decide (8 < (o0 :: o1 :: o2 :: o3 :: o4 :: o5 :: o6 :: o7 :: ok :: l).length) with
    | true => some (pc + 2, am_st1 (o0 :: o1 :: o2 :: o3 :: o4 :: o5 :: o6 :: o7 :: ok :: l) 8 (.int x), r, h)
    | false => none) = _
  rw [e2]
  show some (pc + 2, (am_kill (o0 :: o1 :: o2 :: o3 :: o4 :: o5 :: o6 :: o7 :: ok :: l) 8).set 8 (some (.int x)), r, h) = _
  rw [e]
  rfl
theorem Rn.astore8 {o0 o1 o2 o3 o4 o5 o6 o7 ok : Option Value} {x : Nat} (hc : am_code mid = c) (hf : am_find c pc = some (.astore 8, r1, r2)) (hn : am_nl o7 = true) (k : Rn d mid (pc + 2) (o0 :: o1 :: o2 :: o3 :: o4 :: o5 :: o6 :: o7 :: some (.ref x) :: l) r h Q) : Rn d mid pc (o0 :: o1 :: o2 :: o3 :: o4 :: o5 :: o6 :: o7 :: ok :: l) (.ref x :: r) h Q := by
  refine Rn.go hc hf rfl ?_ k
  have e : am_kill (o0 :: o1 :: o2 :: o3 :: o4 :: o5 :: o6 :: o7 :: ok :: l) 8 = o0 :: o1 :: o2 :: o3 :: o4 :: o5 :: o6 :: o7 :: ok :: l := am_kill_nl (j := 7) rfl hn
  have e2 : decide (8 < (o0 :: o1 :: o2 :: o3 :: o4 :: o5 :: o6 :: o7 :: ok :: l).length) = true := decide_eq_true (by simp)
  show (match decide (8 < (o0 :: o1 :: o2 :: o3 :: o4 :: o5 :: o6 :: o7 :: ok :: l).length) with
    | true => some (pc + 2, am_st1 (o0 :: o1 :: o2 :: o3 :: o4 :: o5 :: o6 :: o7 :: ok :: l) 8 (.ref x), r, h)
    | false => none) = _
  rw [e2]
  show some (pc + 2, (am_kill (o0 :: o1 :: o2 :: o3 :: o4 :: o5 :: o6 :: o7 :: ok :: l) 8).set 8 (some (.ref x)), r, h) = _
  rw [e]
  rfl
theorem Rn.lstore8 {o0 o1 o2 o3 o4 o5 o6 o7 ok ok1 : Option Value} {x : Int64} (hc : am_code mid = c) (hf : am_find c pc = some (.lstore 8, r1, r2)) (hn : am_nl o7 = true) (k : Rn d mid (pc + 2) (o0 :: o1 :: o2 :: o3 :: o4 :: o5 :: o6 :: o7 :: some (.long x) :: none :: l) r h Q) : Rn d mid pc (o0 :: o1 :: o2 :: o3 :: o4 :: o5 :: o6 :: o7 :: ok :: ok1 :: l) (.long x :: r) h Q := by
  refine Rn.go hc hf rfl ?_ k
  have e : am_kill (o0 :: o1 :: o2 :: o3 :: o4 :: o5 :: o6 :: o7 :: ok :: ok1 :: l) 8 = o0 :: o1 :: o2 :: o3 :: o4 :: o5 :: o6 :: o7 :: ok :: ok1 :: l := am_kill_nl (j := 7) rfl hn
  have e2 : decide (8 + 1 < (o0 :: o1 :: o2 :: o3 :: o4 :: o5 :: o6 :: o7 :: ok :: ok1 :: l).length) = true := decide_eq_true (by simp)
  show (match decide (8 + 1 < (o0 :: o1 :: o2 :: o3 :: o4 :: o5 :: o6 :: o7 :: ok :: ok1 :: l).length) with
    | true => some (pc + 2, am_st2 (o0 :: o1 :: o2 :: o3 :: o4 :: o5 :: o6 :: o7 :: ok :: ok1 :: l) 8 (.long x), r, h)
    | false => none) = _
  rw [e2]
  show some (pc + 2, ((am_kill (o0 :: o1 :: o2 :: o3 :: o4 :: o5 :: o6 :: o7 :: ok :: ok1 :: l) 8).set 8 (some (.long x))).set (8 + 1) none, r, h) = _
  rw [e]
  rfl
theorem Rn.iinc8 {o0 o1 o2 o3 o4 o5 o6 o7 : Option Value} {x : Int32} {n : Int} (v : Int32) (hc : am_code mid = c) (hf : am_find c pc = some (.iinc 8 n, r1, r2)) (hv : Int32.ofInt n = v) (hn : am_nl o7 = true) (k : Rn d mid (pc + 3) (o0 :: o1 :: o2 :: o3 :: o4 :: o5 :: o6 :: o7 :: some (.int (x + v)) :: l) r h Q) : Rn d mid pc (o0 :: o1 :: o2 :: o3 :: o4 :: o5 :: o6 :: o7 :: some (.int x) :: l) r h Q := by
  subst hv
  refine Rn.go hc hf rfl ?_ k
  have e : am_kill (o0 :: o1 :: o2 :: o3 :: o4 :: o5 :: o6 :: o7 :: some (.int x) :: l) 8 = o0 :: o1 :: o2 :: o3 :: o4 :: o5 :: o6 :: o7 :: some (.int x) :: l := am_kill_nl (j := 7) rfl hn
  have e2 : decide (8 < (o0 :: o1 :: o2 :: o3 :: o4 :: o5 :: o6 :: o7 :: some (.int x) :: l).length) = true := decide_eq_true (by simp)
  show (match decide (8 < (o0 :: o1 :: o2 :: o3 :: o4 :: o5 :: o6 :: o7 :: some (.int x) :: l).length) with
    | true => some (pc + 3, am_st1 (o0 :: o1 :: o2 :: o3 :: o4 :: o5 :: o6 :: o7 :: some (.int x) :: l) 8 (.int (x + Int32.ofInt n)), r, h)
    | false => none) = _
  rw [e2]
  show some (pc + 3, (am_kill (o0 :: o1 :: o2 :: o3 :: o4 :: o5 :: o6 :: o7 :: some (.int x) :: l) 8).set 8 (some (.int (x + Int32.ofInt n))), r, h) = _
  rw [e]
  rfl
theorem Rn.istore9 {o0 o1 o2 o3 o4 o5 o6 o7 o8 ok : Option Value} {x : Int32} (hc : am_code mid = c) (hf : am_find c pc = some (.istore 9, r1, r2)) (hn : am_nl o8 = true) (k : Rn d mid (pc + 2) (o0 :: o1 :: o2 :: o3 :: o4 :: o5 :: o6 :: o7 :: o8 :: some (.int x) :: l) r h Q) : Rn d mid pc (o0 :: o1 :: o2 :: o3 :: o4 :: o5 :: o6 :: o7 :: o8 :: ok :: l) (.int x :: r) h Q := by
  refine Rn.go hc hf rfl ?_ k
  have e : am_kill (o0 :: o1 :: o2 :: o3 :: o4 :: o5 :: o6 :: o7 :: o8 :: ok :: l) 9 = o0 :: o1 :: o2 :: o3 :: o4 :: o5 :: o6 :: o7 :: o8 :: ok :: l := am_kill_nl (j := 8) rfl hn
  have e2 : decide (9 < (o0 :: o1 :: o2 :: o3 :: o4 :: o5 :: o6 :: o7 :: o8 :: ok :: l).length) = true := decide_eq_true (by simp)
  show (match decide (9 < (o0 :: o1 :: o2 :: o3 :: o4 :: o5 :: o6 :: o7 :: o8 :: ok :: l).length) with
    | true => some (pc + 2, am_st1 (o0 :: o1 :: o2 :: o3 :: o4 :: o5 :: o6 :: o7 :: o8 :: ok :: l) 9 (.int x), r, h)
    | false => none) = _
  rw [e2]
  show some (pc + 2, (am_kill (o0 :: o1 :: o2 :: o3 :: o4 :: o5 :: o6 :: o7 :: o8 :: ok :: l) 9).set 9 (some (.int x)), r, h) = _
  rw [e]
  rfl
theorem Rn.astore9 {o0 o1 o2 o3 o4 o5 o6 o7 o8 ok : Option Value} {x : Nat} (hc : am_code mid = c) (hf : am_find c pc = some (.astore 9, r1, r2)) (hn : am_nl o8 = true) (k : Rn d mid (pc + 2) (o0 :: o1 :: o2 :: o3 :: o4 :: o5 :: o6 :: o7 :: o8 :: some (.ref x) :: l) r h Q) : Rn d mid pc (o0 :: o1 :: o2 :: o3 :: o4 :: o5 :: o6 :: o7 :: o8 :: ok :: l) (.ref x :: r) h Q := by
  refine Rn.go hc hf rfl ?_ k
  have e : am_kill (o0 :: o1 :: o2 :: o3 :: o4 :: o5 :: o6 :: o7 :: o8 :: ok :: l) 9 = o0 :: o1 :: o2 :: o3 :: o4 :: o5 :: o6 :: o7 :: o8 :: ok :: l := am_kill_nl (j := 8) rfl hn
  have e2 : decide (9 < (o0 :: o1 :: o2 :: o3 :: o4 :: o5 :: o6 :: o7 :: o8 :: ok :: l).length) = true := decide_eq_true (by simp)
  show (match decide (9 < (o0 :: o1 :: o2 :: o3 :: o4 :: o5 :: o6 :: o7 :: o8 :: ok :: l).length) with
    | true => some (pc + 2, am_st1 (o0 :: o1 :: o2 :: o3 :: o4 :: o5 :: o6 :: o7 :: o8 :: ok :: l) 9 (.ref x), r, h)
    | false => none) = _
  rw [e2]
  show some (pc + 2, (am_kill (o0 :: o1 :: o2 :: o3 :: o4 :: o5 :: o6 :: o7 :: o8 :: ok :: l) 9).set 9 (some (.ref x)), r, h) = _
  rw [e]
  rfl
theorem Rn.lstore9 {o0 o1 o2 o3 o4 o5 o6 o7 o8 ok ok1 : Option Value} {x : Int64} (hc : am_code mid = c) (hf : am_find c pc = some (.lstore 9, r1, r2)) (hn : am_nl o8 = true) (k : Rn d mid (pc + 2) (o0 :: o1 :: o2 :: o3 :: o4 :: o5 :: o6 :: o7 :: o8 :: some (.long x) :: none :: l) r h Q) : Rn d mid pc (o0 :: o1 :: o2 :: o3 :: o4 :: o5 :: o6 :: o7 :: o8 :: ok :: ok1 :: l) (.long x :: r) h Q := by
  refine Rn.go hc hf rfl ?_ k
  have e : am_kill (o0 :: o1 :: o2 :: o3 :: o4 :: o5 :: o6 :: o7 :: o8 :: ok :: ok1 :: l) 9 = o0 :: o1 :: o2 :: o3 :: o4 :: o5 :: o6 :: o7 :: o8 :: ok :: ok1 :: l := am_kill_nl (j := 8) rfl hn
  have e2 : decide (9 + 1 < (o0 :: o1 :: o2 :: o3 :: o4 :: o5 :: o6 :: o7 :: o8 :: ok :: ok1 :: l).length) = true := decide_eq_true (by simp)
  show (match decide (9 + 1 < (o0 :: o1 :: o2 :: o3 :: o4 :: o5 :: o6 :: o7 :: o8 :: ok :: ok1 :: l).length) with
    | true => some (pc + 2, am_st2 (o0 :: o1 :: o2 :: o3 :: o4 :: o5 :: o6 :: o7 :: o8 :: ok :: ok1 :: l) 9 (.long x), r, h)
    | false => none) = _
  rw [e2]
  show some (pc + 2, ((am_kill (o0 :: o1 :: o2 :: o3 :: o4 :: o5 :: o6 :: o7 :: o8 :: ok :: ok1 :: l) 9).set 9 (some (.long x))).set (9 + 1) none, r, h) = _
  rw [e]
  rfl
theorem Rn.iinc9 {o0 o1 o2 o3 o4 o5 o6 o7 o8 : Option Value} {x : Int32} {n : Int} (v : Int32) (hc : am_code mid = c) (hf : am_find c pc = some (.iinc 9 n, r1, r2)) (hv : Int32.ofInt n = v) (hn : am_nl o8 = true) (k : Rn d mid (pc + 3) (o0 :: o1 :: o2 :: o3 :: o4 :: o5 :: o6 :: o7 :: o8 :: some (.int (x + v)) :: l) r h Q) : Rn d mid pc (o0 :: o1 :: o2 :: o3 :: o4 :: o5 :: o6 :: o7 :: o8 :: some (.int x) :: l) r h Q := by
  subst hv
  refine Rn.go hc hf rfl ?_ k
  have e : am_kill (o0 :: o1 :: o2 :: o3 :: o4 :: o5 :: o6 :: o7 :: o8 :: some (.int x) :: l) 9 = o0 :: o1 :: o2 :: o3 :: o4 :: o5 :: o6 :: o7 :: o8 :: some (.int x) :: l := am_kill_nl (j := 8) rfl hn
  have e2 : decide (9 < (o0 :: o1 :: o2 :: o3 :: o4 :: o5 :: o6 :: o7 :: o8 :: some (.int x) :: l).length) = true := decide_eq_true (by simp)
  show (match decide (9 < (o0 :: o1 :: o2 :: o3 :: o4 :: o5 :: o6 :: o7 :: o8 :: some (.int x) :: l).length) with
    | true => some (pc + 3, am_st1 (o0 :: o1 :: o2 :: o3 :: o4 :: o5 :: o6 :: o7 :: o8 :: some (.int x) :: l) 9 (.int (x + Int32.ofInt n)), r, h)
    | false => none) = _
  rw [e2]
  show some (pc + 3, (am_kill (o0 :: o1 :: o2 :: o3 :: o4 :: o5 :: o6 :: o7 :: o8 :: some (.int x) :: l) 9).set 9 (some (.int (x + Int32.ofInt n))), r, h) = _
  rw [e]
  rfl
theorem Rn.iadd {x y : Int32} (hc : am_code mid = c) (hf : am_find c pc = some (.iadd, r1, r2)) (k : Rn d mid (pc + 1) l (.int (x + y) :: r) h Q) : Rn d mid pc l (.int y :: .int x :: r) h Q := by
  refine Rn.go hc hf rfl ?_ k
  rfl
theorem Rn.isub {x y : Int32} (hc : am_code mid = c) (hf : am_find c pc = some (.isub, r1, r2)) (k : Rn d mid (pc + 1) l (.int (x - y) :: r) h Q) : Rn d mid pc l (.int y :: .int x :: r) h Q := by
  refine Rn.go hc hf rfl ?_ k
  rfl
theorem Rn.imul {x y : Int32} (hc : am_code mid = c) (hf : am_find c pc = some (.imul, r1, r2)) (k : Rn d mid (pc + 1) l (.int (x * y) :: r) h Q) : Rn d mid pc l (.int y :: .int x :: r) h Q := by
  refine Rn.go hc hf rfl ?_ k
  rfl
theorem Rn.iand {x y : Int32} (hc : am_code mid = c) (hf : am_find c pc = some (.iand, r1, r2)) (k : Rn d mid (pc + 1) l (.int (x &&& y) :: r) h Q) : Rn d mid pc l (.int y :: .int x :: r) h Q := by
  refine Rn.go hc hf rfl ?_ k
  rfl
theorem Rn.ior {x y : Int32} (hc : am_code mid = c) (hf : am_find c pc = some (.ior, r1, r2)) (k : Rn d mid (pc + 1) l (.int (x ||| y) :: r) h Q) : Rn d mid pc l (.int y :: .int x :: r) h Q := by
  refine Rn.go hc hf rfl ?_ k
  rfl
theorem Rn.ixor {x y : Int32} (hc : am_code mid = c) (hf : am_find c pc = some (.ixor, r1, r2)) (k : Rn d mid (pc + 1) l (.int (x ^^^ y) :: r) h Q) : Rn d mid pc l (.int y :: .int x :: r) h Q := by
  refine Rn.go hc hf rfl ?_ k
  rfl
theorem Rn.ishl {x y : Int32} (hc : am_code mid = c) (hf : am_find c pc = some (.ishl, r1, r2)) (k : Rn d mid (pc + 1) l (.int (x <<< (y &&& 31)) :: r) h Q) : Rn d mid pc l (.int y :: .int x :: r) h Q := by
  refine Rn.go hc hf rfl ?_ k
  rfl
theorem Rn.ishr {x y : Int32} (hc : am_code mid = c) (hf : am_find c pc = some (.ishr, r1, r2)) (k : Rn d mid (pc + 1) l (.int (x >>> (y &&& 31)) :: r) h Q) : Rn d mid pc l (.int y :: .int x :: r) h Q := by
  refine Rn.go hc hf rfl ?_ k
  rfl
theorem Rn.iushr {x y : Int32} (hc : am_code mid = c) (hf : am_find c pc = some (.iushr, r1, r2)) (k : Rn d mid (pc + 1) l (.int ((x.toUInt32 >>> (y.toUInt32 &&& Int32.toUInt32 31)).toInt32) :: r) h Q) : Rn d mid pc l (.int y :: .int x :: r) h Q := by
  refine Rn.go hc hf rfl ?_ k
  rfl
theorem Rn.ladd {x y : Int64} (hc : am_code mid = c) (hf : am_find c pc = some (.ladd, r1, r2)) (k : Rn d mid (pc + 1) l (.long (x + y) :: r) h Q) : Rn d mid pc l (.long y :: .long x :: r) h Q := by
  refine Rn.go hc hf rfl ?_ k
  rfl
theorem Rn.lsub {x y : Int64} (hc : am_code mid = c) (hf : am_find c pc = some (.lsub, r1, r2)) (k : Rn d mid (pc + 1) l (.long (x - y) :: r) h Q) : Rn d mid pc l (.long y :: .long x :: r) h Q := by
  refine Rn.go hc hf rfl ?_ k
  rfl
theorem Rn.lmul {x y : Int64} (hc : am_code mid = c) (hf : am_find c pc = some (.lmul, r1, r2)) (k : Rn d mid (pc + 1) l (.long (x * y) :: r) h Q) : Rn d mid pc l (.long y :: .long x :: r) h Q := by
  refine Rn.go hc hf rfl ?_ k
  rfl
theorem Rn.land {x y : Int64} (hc : am_code mid = c) (hf : am_find c pc = some (.land, r1, r2)) (k : Rn d mid (pc + 1) l (.long (x &&& y) :: r) h Q) : Rn d mid pc l (.long y :: .long x :: r) h Q := by
  refine Rn.go hc hf rfl ?_ k
  rfl
theorem Rn.lor {x y : Int64} (hc : am_code mid = c) (hf : am_find c pc = some (.lor, r1, r2)) (k : Rn d mid (pc + 1) l (.long (x ||| y) :: r) h Q) : Rn d mid pc l (.long y :: .long x :: r) h Q := by
  refine Rn.go hc hf rfl ?_ k
  rfl
theorem Rn.lushr {x : Int64} {y : Int32} (hc : am_code mid = c) (hf : am_find c pc = some (.lushr, r1, r2)) (k : Rn d mid (pc + 1) l (.long ((x.toUInt64 >>> (y.toInt64.toUInt64 &&& Int64.toUInt64 63)).toInt64) :: r) h Q) : Rn d mid pc l (.int y :: .long x :: r) h Q := by
  refine Rn.go hc hf rfl ?_ k
  rfl
theorem Rn.lshr {x : Int64} {y : Int32} (hc : am_code mid = c) (hf : am_find c pc = some (.lshr, r1, r2)) (k : Rn d mid (pc + 1) l (.long (x >>> (y.toInt64 &&& 63)) :: r) h Q) : Rn d mid pc l (.int y :: .long x :: r) h Q := by
  refine Rn.go hc hf rfl ?_ k
  rfl
theorem Rn.lshl {x : Int64} {y : Int32} (hc : am_code mid = c) (hf : am_find c pc = some (.lshl, r1, r2)) (k : Rn d mid (pc + 1) l (.long (x <<< (y.toInt64 &&& 63)) :: r) h Q) : Rn d mid pc l (.int y :: .long x :: r) h Q := by
  refine Rn.go hc hf rfl ?_ k
  rfl
theorem Rn.lcmp {x y : Int64} (hc : am_code mid = c) (hf : am_find c pc = some (.lcmp, r1, r2)) (k : Rn d mid (pc + 1) l (.int (lg_cmp x y) :: r) h Q) : Rn d mid pc l (.long y :: .long x :: r) h Q := by
  refine Rn.go hc hf rfl ?_ k
  rfl
theorem Rn.i2l {x : Int32} (hc : am_code mid = c) (hf : am_find c pc = some (.i2l, r1, r2)) (k : Rn d mid (pc + 1) l (.long x.toInt64 :: r) h Q) : Rn d mid pc l (.int x :: r) h Q := by
  refine Rn.go hc hf rfl ?_ k
  rfl
theorem Rn.l2i {x : Int64} (hc : am_code mid = c) (hf : am_find c pc = some (.l2i, r1, r2)) (k : Rn d mid (pc + 1) l (.int x.toInt32 :: r) h Q) : Rn d mid pc l (.long x :: r) h Q := by
  refine Rn.go hc hf rfl ?_ k
  rfl
theorem Rn.i2c {x : Int32} (hc : am_code mid = c) (hf : am_find c pc = some (.i2c, r1, r2)) (k : Rn d mid (pc + 1) l (.int (x.toUInt32 % 65536).toInt32 :: r) h Q) : Rn d mid pc l (.int x :: r) h Q := by
  refine Rn.go hc hf rfl ?_ k
  rfl
theorem Rn.dupi {x : Int32} (hc : am_code mid = c) (hf : am_find c pc = some (.dup, r1, r2)) (k : Rn d mid (pc + 1) l (.int x :: .int x :: r) h Q) : Rn d mid pc l (.int x :: r) h Q := by
  refine Rn.go hc hf rfl ?_ k
  rfl
theorem Rn.dupa {x : Nat} (hc : am_code mid = c) (hf : am_find c pc = some (.dup, r1, r2)) (k : Rn d mid (pc + 1) l (.ref x :: .ref x :: r) h Q) : Rn d mid pc l (.ref x :: r) h Q := by
  refine Rn.go hc hf rfl ?_ k
  rfl
theorem Rn.dup2 {x : Int32} {a : Nat} (hc : am_code mid = c) (hf : am_find c pc = some (.dup2, r1, r2)) (k : Rn d mid (pc + 1) l (.int x :: .ref a :: .int x :: .ref a :: r) h Q) : Rn d mid pc l (.int x :: .ref a :: r) h Q := by
  refine Rn.go hc hf rfl ?_ k
  rfl
theorem Rn.popi {x : Int32} (hc : am_code mid = c) (hf : am_find c pc = some (.pop, r1, r2)) (k : Rn d mid (pc + 1) l r h Q) : Rn d mid pc l (.int x :: r) h Q := by
  refine Rn.go hc hf rfl ?_ k
  rfl
theorem Rn.popa {x : Nat} (hc : am_code mid = c) (hf : am_find c pc = some (.pop, r1, r2)) (k : Rn d mid (pc + 1) l r h Q) : Rn d mid pc l (.ref x :: r) h Q := by
  refine Rn.go hc hf rfl ?_ k
  rfl
theorem Rn.goto {off : Int} (t : Nat) (hc : am_code mid = c) (hf : am_find c pc = some (.goto off, r1, r2)) (ht : am_tg pc off = t) (k : Rn d mid t l r h Q) : Rn d mid pc l r h Q := by
  subst ht
  exact Rn.go hc hf rfl rfl k
theorem Rn.icmp_eq {off : Int} {x y : Int32} (t : Nat) (hc : am_code mid = c) (hf : am_find c pc = some (.if_icmp .eq off, r1, r2)) (ht : am_tg pc off = t) (k1 : x = y → Rn d mid t l r h Q) (k2 : ¬ x = y → Rn d mid (pc + 3) l r h Q) : Rn d mid pc l (.int y :: .int x :: r) h Q := Rn.icmp t hc hf ht k1 (k2)
theorem Rn.if_eq {off : Int} {x : Int32} (t : Nat) (hc : am_code mid = c) (hf : am_find c pc = some (.ifCond .eq off, r1, r2)) (ht : am_tg pc off = t) (k1 : x = 0 → Rn d mid t l r h Q) (k2 : ¬ x = 0 → Rn d mid (pc + 3) l r h Q) : Rn d mid pc l (.int x :: r) h Q := Rn.ifz t hc hf ht k1 (k2)
theorem Rn.icmp_ne {off : Int} {x y : Int32} (t : Nat) (hc : am_code mid = c) (hf : am_find c pc = some (.if_icmp .ne off, r1, r2)) (ht : am_tg pc off = t) (k1 : ¬ x = y → Rn d mid t l r h Q) (k2 : x = y → Rn d mid (pc + 3) l r h Q) : Rn d mid pc l (.int y :: .int x :: r) h Q := Rn.icmp t hc hf ht k1 (fun z => k2 (Classical.not_not.mp z))
theorem Rn.if_ne {off : Int} {x : Int32} (t : Nat) (hc : am_code mid = c) (hf : am_find c pc = some (.ifCond .ne off, r1, r2)) (ht : am_tg pc off = t) (k1 : ¬ x = 0 → Rn d mid t l r h Q) (k2 : x = 0 → Rn d mid (pc + 3) l r h Q) : Rn d mid pc l (.int x :: r) h Q := Rn.ifz t hc hf ht k1 (fun z => k2 (Classical.not_not.mp z))
theorem Rn.icmp_lt {off : Int} {x y : Int32} (t : Nat) (hc : am_code mid = c) (hf : am_find c pc = some (.if_icmp .lt off, r1, r2)) (ht : am_tg pc off = t) (k1 : x < y → Rn d mid t l r h Q) (k2 : ¬ x < y → Rn d mid (pc + 3) l r h Q) : Rn d mid pc l (.int y :: .int x :: r) h Q := Rn.icmp t hc hf ht k1 (k2)
theorem Rn.if_lt {off : Int} {x : Int32} (t : Nat) (hc : am_code mid = c) (hf : am_find c pc = some (.ifCond .lt off, r1, r2)) (ht : am_tg pc off = t) (k1 : x < 0 → Rn d mid t l r h Q) (k2 : ¬ x < 0 → Rn d mid (pc + 3) l r h Q) : Rn d mid pc l (.int x :: r) h Q := Rn.ifz t hc hf ht k1 (k2)
theorem Rn.icmp_ge {off : Int} {x y : Int32} (t : Nat) (hc : am_code mid = c) (hf : am_find c pc = some (.if_icmp .ge off, r1, r2)) (ht : am_tg pc off = t) (k1 : y ≤ x → Rn d mid t l r h Q) (k2 : ¬ y ≤ x → Rn d mid (pc + 3) l r h Q) : Rn d mid pc l (.int y :: .int x :: r) h Q := Rn.icmp t hc hf ht k1 (k2)
theorem Rn.if_ge {off : Int} {x : Int32} (t : Nat) (hc : am_code mid = c) (hf : am_find c pc = some (.ifCond .ge off, r1, r2)) (ht : am_tg pc off = t) (k1 : 0 ≤ x → Rn d mid t l r h Q) (k2 : ¬ 0 ≤ x → Rn d mid (pc + 3) l r h Q) : Rn d mid pc l (.int x :: r) h Q := Rn.ifz t hc hf ht k1 (k2)
theorem Rn.icmp_gt {off : Int} {x y : Int32} (t : Nat) (hc : am_code mid = c) (hf : am_find c pc = some (.if_icmp .gt off, r1, r2)) (ht : am_tg pc off = t) (k1 : y < x → Rn d mid t l r h Q) (k2 : ¬ y < x → Rn d mid (pc + 3) l r h Q) : Rn d mid pc l (.int y :: .int x :: r) h Q := Rn.icmp t hc hf ht k1 (k2)
theorem Rn.if_gt {off : Int} {x : Int32} (t : Nat) (hc : am_code mid = c) (hf : am_find c pc = some (.ifCond .gt off, r1, r2)) (ht : am_tg pc off = t) (k1 : 0 < x → Rn d mid t l r h Q) (k2 : ¬ 0 < x → Rn d mid (pc + 3) l r h Q) : Rn d mid pc l (.int x :: r) h Q := Rn.ifz t hc hf ht k1 (k2)
theorem Rn.icmp_le {off : Int} {x y : Int32} (t : Nat) (hc : am_code mid = c) (hf : am_find c pc = some (.if_icmp .le off, r1, r2)) (ht : am_tg pc off = t) (k1 : x ≤ y → Rn d mid t l r h Q) (k2 : ¬ x ≤ y → Rn d mid (pc + 3) l r h Q) : Rn d mid pc l (.int y :: .int x :: r) h Q := Rn.icmp t hc hf ht k1 (k2)
theorem Rn.if_le {off : Int} {x : Int32} (t : Nat) (hc : am_code mid = c) (hf : am_find c pc = some (.ifCond .le off, r1, r2)) (ht : am_tg pc off = t) (k1 : x ≤ 0 → Rn d mid t l r h Q) (k2 : ¬ x ≤ 0 → Rn d mid (pc + 3) l r h Q) : Rn d mid pc l (.int x :: r) h Q := Rn.ifz t hc hf ht k1 (k2)
theorem Rn.retl {x : Int64} {q : am_M} (hc : am_code mid = c) (hf : am_find c pc = some (.lreturn, r1, r2)) (hq : at_tab[mid]? = some q) (hty : q.2.2.2.1 = some .long) (kk : Q (some (.long x)) h) : Rn d mid pc l [.long x] h Q := by
  refine Rn.ret hc hf rfl ?_ kk
  simp only [am_ret, hq, hty]
theorem Rn.reta {x : Nat} {q : am_M} {C : String} (hc : am_code mid = c) (hf : am_find c pc = some (.areturn, r1, r2)) (hq : at_tab[mid]? = some q) (hty : q.2.2.2.1 = some (.object C)) (kk : Q (some (.ref x)) h) : Rn d mid pc l [.ref x] h Q := by
  refine Rn.ret hc hf rfl ?_ kk
  simp only [am_ret, hq, hty]
theorem Rn.retv {q : am_M} (hc : am_code mid = c) (hf : am_find c pc = some (.return_, r1, r2)) (hq : at_tab[mid]? = some q) (hty : q.2.2.2.1 = none) (kk : Q none h) : Rn d mid pc l [] h Q := by
  refine Rn.ret hc hf rfl ?_ kk
  simp only [am_ret, hq, hty]
/-- a call, by what the callee does -/
theorem Rn.inv {i : Instr} {st : List Value} {d' : Nat} {l0 : am_L} {rest : List Value} {Q1 : Option Value → am_H → Prop} (hc : am_code mid = c) (hf : am_find c pc = some (i, r1, r2)) (hk : am_kind i r1 = 2) (hs : am_call d i r1 st h = some (d', l0, rest)) (ct : Rn d' r1 0 l0 [] h Q1) (k : ∀ v h', Q1 v h' → Rn d mid (pc + 3) l (v.toList ++ rest) h' Q) : Rn d mid pc l st h Q := Rn.call hc hf hk hs (ct.mono k)
theorem am_callV {q : am_M} {ix a n nn : Nat} {st : List Value} {As : List Value} (hq : at_tab[r1]? = some q) (hn : q.2.2.2.2.1 = n) (hlen : n ≤ st.length) (hcat : am_cat (st.drop n) ≤ 8) (hml : (am_args (st.take n).reverse).length ≤ q.2.2.1) (hr : (st.take n).reverse = .ref a :: As) (ha : h.1[a]? = some (q.2.2.2.2.2.1, nn)) : am_call (d + 1) (.invokevirtual ix) r1 st h = some (d, am_ent q.2.2.1 (.ref a :: As), st.drop n) := by
  subst hn
  unfold am_call
  simp only [hq]
  rw [decide_eq_true (show q.2.2.2.2.1 ≤ st.length ∧ am_cat (st.drop q.2.2.2.2.1) ≤ 8 ∧ (am_args (st.take q.2.2.2.2.1).reverse).length ≤ q.2.2.1 from ⟨hlen, hcat, hml⟩)]
  simp only [hr, ha, decide_true]
theorem am_callS {q : am_M} {ix n : Nat} {st : List Value} (hq : at_tab[r1]? = some q) (hn : q.2.2.2.2.1 = n) (hlen : n ≤ st.length) (hcat : am_cat (st.drop n) ≤ 8) (hml : (am_args (st.take n).reverse).length ≤ q.2.2.1) : am_call (d + 1) (.invokestatic ix) r1 st h = some (d, am_ent q.2.2.1 (st.take n).reverse, st.drop n) := by
  subst hn
  unfold am_call
  simp only [hq, decide_eq_true (show q.2.2.2.2.1 ≤ st.length ∧ am_cat (st.drop q.2.2.2.2.1) ≤ 8 ∧ (am_args (st.take q.2.2.2.2.1).reverse).length ≤ q.2.2.1 from ⟨hlen, hcat, hml⟩)]
theorem am_callI {q : am_M} {ix a n : Nat} {st : List Value} {As : List Value} (hq : at_tab[r1]? = some q) (hn : q.2.2.2.2.1 = n) (hlen : n ≤ st.length) (hcat : am_cat (st.drop n) ≤ 8) (hml : (am_args (st.take n).reverse).length ≤ q.2.2.1) (hr : (st.take n).reverse = .ref a :: As) : am_call (d + 1) (.invokespecial ix) r1 st h = some (d, am_ent q.2.2.1 (.ref a :: As), st.drop n) := by
  subst hn
  unfold am_call
  simp only [hq]
  rw [decide_eq_true (show q.2.2.2.2.1 ≤ st.length ∧ am_cat (st.drop q.2.2.2.2.1) ≤ 8 ∧ (am_args (st.take q.2.2.2.2.1).reverse).length ≤ q.2.2.1 from ⟨hlen, hcat, hml⟩)]
  simp only [hr]
end Rules2
