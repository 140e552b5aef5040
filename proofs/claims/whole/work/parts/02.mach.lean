/-! A SMALL MACHINE: the methods' instructions over a heap of numbered cells with typed slots (ints, longs, references). Written for this claim; sim (a later part) ties it to the JVM of the Statement. -/
abbrev am_L : Type := List (Option Value)
abbrev am_H : Type := List (Nat × Nat) × (Nat → Nat → Int32) × (Nat → Nat → Int64) × (Nat → Nat → Option Nat)
abbrev am_S : Type := Nat × am_L × List Value × am_H
def up2 {α : Type} (f : Nat → Nat → α) (a k : Nat) (v : α) : Nat → Nat → α := fun i j => if i = a then (if j = k then v else f i j) else f i j
theorem up2_same {α : Type} (f : Nat → Nat → α) (a k : Nat) (v : α) : up2 f a k v a k = v := by simp [up2]
theorem up2_row {α : Type} (f : Nat → Nat → α) {a k i j : Nat} (v : α) (h : i ≠ a) : up2 f a k v i j = f i j := by simp [up2, h]
theorem up2_col {α : Type} (f : Nat → Nat → α) {a k i j : Nat} (v : α) (h : j ≠ k) : up2 f a k v i j = f i j := by simp [up2, h]
/-- slot k of cell a, as a value of the type ty -/
def am_rd (ty : FieldType) (h : am_H) (a k : Nat) : Value := match ty with
  | .long => .long (h.2.2.1 a k)
  | .object _ => va_rf (h.2.2.2 a k)
  | .array _ => va_rf (h.2.2.2 a k)
  | .float => .float 0
  | .double => .double 0
  | _ => .int (h.2.1 a k)
/-- may an int stand in a variable of this type as it is -/
def am_fit (ty : FieldType) (x : Int32) : Bool := match ty with
  | .int => true
  | .boolean => decide (x = 0) || decide (x = 1)
  | .char => decide (0 ≤ x) && decide (x ≤ 65535)
  | .byte => decide (x = 0)
  | _ => false
/-- slot k of cell a gets v -/
def am_wr (ty : FieldType) (h : am_H) (a k : Nat) (v : Value) : Option am_H := match v with
  | .int x => match am_fit ty x with
    | true => some (h.1, up2 h.2.1 a k x, h.2.2.1, h.2.2.2)
    | false => none
  | .long x => match ty with
    | .long => some (h.1, h.2.1, up2 h.2.2.1 a k x, h.2.2.2)
    | _ => none
  | .ref b => match ty with
    | .object _ => some (h.1, h.2.1, h.2.2.1, up2 h.2.2.2 a k (some b))
    | .array _ => some (h.1, h.2.1, h.2.2.1, up2 h.2.2.2 a k (some b))
    | _ => none
  | .null => match ty with
    | .object _ => some (h.1, h.2.1, h.2.2.1, up2 h.2.2.2 a k none)
    | .array _ => some (h.1, h.2.1, h.2.2.1, up2 h.2.2.2 a k none)
    | _ => none
  | _ => none
/-- what an array of this type keeps of an int -/
def am_nar (ty : FieldType) (x : Int32) : Int32 := match ty with
  | .boolean => x &&& 1
  | .byte => x.toInt8.toInt32
  | .char => x.toUInt32.toUInt16.toUInt32.toInt32
  | .short => x.toInt16.toInt32
  | _ => x
/-- an array's component type by its tag; classes have tags below 100 -/
def am_aty (tag : Nat) : Option FieldType := match tag with
  | 100 => some .int
  | 101 => some .long
  | 102 => some .char
  | 103 => some .boolean
  | 104 => some .byte
  | 105 => some .short
  | 900 => some .int
  | 902 => some .byte
  | _ => match tag - 400 with
    | 0 => none
    | k + 1 => match vwCl[k]? with
      | some r => some (.object r.1)
      | none => none
def am_atag (t : ArrayType) : Nat := match t with
  | .int => 100
  | .long => 101
  | .char => 102
  | .boolean => 103
  | .byte => 104
  | .short => 105
  | _ => 999
def am_get (l : am_L) (i : Nat) : Option Value := match l[i]? with
  | some o => o
  | none => none
def am_kill (l : am_L) (i : Nat) : am_L := match i with
  | 0 => l
  | j + 1 => match am_get l j with
    | some (.long _) => l.set j none
    | some (.double _) => l.set j none
    | _ => l
def am_st1 (l : am_L) (i : Nat) (v : Value) : am_L := (am_kill l i).set i (some v)
def am_st2 (l : am_L) (i : Nat) (v : Value) : am_L := ((am_kill l i).set i (some v)).set (i + 1) none
def am_tot (sh : List (Nat × Nat)) : Nat := (sh.map (·.2)).sum
def am_tg (pc : Nat) (off : Int) : Nat := ((pc : Int) + off).toNat
def am_cmp (c : ClassFile.Cond) (x y : Int32) : Bool := match c with
  | .eq => decide (x = y)
  | .ne => decide (¬ x = y)
  | .lt => decide (x < y)
  | .ge => decide (y ≤ x)
  | .gt => decide (y < x)
  | .le => decide (x ≤ y)
def am_cat (st : List Value) : Nat := (st.map fun v => v.category).sum
section Ops
variable (pc : Nat) (l : am_L) (st : List Value) (h : am_H)
def am_ii (f : Int32 → Int32 → Int32) : Option am_S := match st with
  | .int y :: .int x :: r => some (pc + 1, l, .int (f x y) :: r, h)
  | _ => none
def am_ll (f : Int64 → Int64 → Int64) : Option am_S := match st with
  | .long y :: .long x :: r => some (pc + 1, l, .long (f x y) :: r, h)
  | _ => none
def am_iid (f : Int32 → Int32 → Int32) : Option am_S := match st with
  | .int y :: .int x :: r => match decide (y = 0) with
    | true => none
    | false => some (pc + 1, l, .int (f x y) :: r, h)
  | _ => none
def am_lld (f : Int64 → Int64 → Int64) : Option am_S := match st with
  | .long y :: .long x :: r => match decide (y = 0) with
    | true => none
    | false => some (pc + 1, l, .long (f x y) :: r, h)
  | _ => none
def am_li (f : Int64 → Int32 → Int64) : Option am_S := match st with
  | .int y :: .long x :: r => some (pc + 1, l, .long (f x y) :: r, h)
  | _ => none
def am_iload (i len : Nat) : Option am_S := match am_get l i with
  | some (.int x) => some (pc + len, l, .int x :: st, h)
  | _ => none
def am_lload (i len : Nat) : Option am_S := match am_get l i with
  | some (.long x) => some (pc + len, l, .long x :: st, h)
  | _ => none
def am_aload (i len : Nat) : Option am_S := match am_get l i with
  | some (.ref x) => some (pc + len, l, .ref x :: st, h)
  | _ => none
def am_istore (i len : Nat) : Option am_S := match st with
  | .int x :: r => match decide (i < l.length) with
    | true => some (pc + len, am_st1 l i (.int x), r, h)
    | false => none
  | _ => none
def am_lstore (i len : Nat) : Option am_S := match st with
  | .long x :: r => match decide (i + 1 < l.length) with
    | true => some (pc + len, am_st2 l i (.long x), r, h)
    | false => none
  | _ => none
def am_astore (i len : Nat) : Option am_S := match st with
  | .ref x :: r => match decide (i < l.length) with
    | true => some (pc + len, am_st1 l i (.ref x), r, h)
    | false => none
  | _ => none
def am_ald (p : Nat → Bool) : Option am_S := match st with
  | .int j :: .ref a :: r => match h.1[a]? with
    | some (tag, n) => match p tag with
      | true => match am_aty tag with
        | some ty => match decide (0 ≤ j.toInt ∧ j.toInt < n) with
          | true => some (pc + 1, l, am_rd ty h a j.toNatClampNeg :: r, h)
          | false => none
        | none => none
      | false => none
    | none => none
  | _ => none
def am_iast (p : Nat → Bool) : Option am_S := match st with
  | .int x :: .int j :: .ref a :: r => match h.1[a]? with
    | some (tag, n) => match p tag with
      | true => match am_aty tag with
        | some ty => match decide (0 ≤ j.toInt ∧ j.toInt < n) with
          | true => some (pc + 1, l, r, (h.1, up2 h.2.1 a j.toNatClampNeg (am_nar ty x), h.2.2.1, h.2.2.2))
          | false => none
        | none => none
      | false => none
    | none => none
  | _ => none
def am_last : Option am_S := match st with
  | .long x :: .int j :: .ref a :: r => match h.1[a]? with
    | some (101, n) => match decide (0 ≤ j.toInt ∧ j.toInt < n) with
      | true => some (pc + 1, l, r, (h.1, h.2.1, up2 h.2.2.1 a j.toNatClampNeg x, h.2.2.2))
      | false => none
    | _ => none
  | _ => none
def am_aast : Option am_S := match st with
  | .ref v :: .int j :: .ref a :: r => match h.1[a]? with
    | some (tag, n) => match h.1[v]? with
      | some (tv, _) => match decide (tag = 401 + tv ∧ tv < 100 ∧ 16 ≤ v) with
        | true => match decide (0 ≤ j.toInt ∧ j.toInt < n) with
          | true => some (pc + 1, l, r, (h.1, h.2.1, h.2.2.1, up2 h.2.2.2 a j.toNatClampNeg (some v)))
          | false => none
        | false => none
      | none => none
    | none => none
  | _ => none
def am_getf (ci k : Nat) : Option am_S := match st with
  | .ref a :: r => match h.1[a]? with
    | some (tag, _) => match decide (tag = ci) with
      | true => some (pc + 3, l, am_rd (at_ty ci k) h a k :: r, h)
      | false => none
    | none => none
  | _ => none
def am_putf (ci k : Nat) : Option am_S := match st with
  | v :: .ref a :: r => match h.1[a]? with
    | some (tag, _) => match decide (tag = ci) with
      | true => match am_wr (at_ty ci k) h a k v with
        | some h' => some (pc + 3, l, r, h')
        | none => none
      | false => none
    | none => none
  | _ => none
/-- a new cell: its slots hold nothing (0, null) -/
def am_born (h : am_H) (tag n : Nat) : am_H := (h.1 ++ [(tag, n)], fun i j => if i = h.1.length then 0 else h.2.1 i j, fun i j => if i = h.1.length then 0 else h.2.2.1 i j, fun i j => if i = h.1.length then none else h.2.2.2 i j)
def am_new (ci n : Nat) : Option am_S := some (pc + 3, l, .ref h.1.length :: st, am_born h ci n)
def am_newa (tag len : Nat) : Option am_S := match st with
  | .int n :: r => match decide (0 ≤ n.toInt ∧ n.toInt ≤ 65535) with
    | true => some (pc + len, l, .ref h.1.length :: r, am_born h tag n.toNatClampNeg)
    | false => none
  | _ => none
def am_alen : Option am_S := match st with
  | .ref a :: r => match h.1[a]? with
    | some (tag, n) => match decide (n < 2 ^ 31 ∧ (am_aty tag).isSome = true) with
      | true => some (pc + 1, l, .int (nI n) :: r, h)
      | false => none
    | none => none
  | _ => none
end Ops
