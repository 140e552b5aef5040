def am_find (c : am_C) (pc : Nat) : Option (Instr × Nat × Nat) := match c with
  | [] => none
  | (k, i, r1, r2) :: c => match decide (k = pc) with
    | true => some (i, r1, r2)
    | false => am_find c pc
/-- 0: a plain step, 1: a return, 2: a call -/
def am_kind (i : Instr) (r1 : Nat) : Nat := match i with
  | .ireturn => 1
  | .lreturn => 1
  | .areturn => 1
  | .return_ => 1
  | .invokevirtual _ => match decide (r1 < 1000) with
    | true => 2
    | false => 0
  | .invokespecial _ => match decide (r1 < 1000) with
    | true => 2
    | false => 0
  | .invokestatic _ => match decide (r1 < 1000) with
    | true => 2
    | false => 0
  | _ => 0
def am_sp0 (pc : Nat) (l : am_L) (st : List Value) (h : am_H) : Option am_S := match st with
  | .ref _ :: r => match decide (am_cat r ≤ 8) with
    | true => some (pc + 3, l, r, h)
    | false => none
  | _ => none
def am_sp1 (pc : Nat) (l : am_L) (st : List Value) (h : am_H) : Option am_S := match st with
  | .int n :: .int dp :: .ref b :: .int sp :: .ref a :: r => match h.1[a]? with
    | some (ta, na) => match h.1[b]? with
      | some (tb, nb) => match decide (ta = 102 ∧ tb = 102 ∧ a ≠ b ∧ am_cat r ≤ 8 ∧ 0 ≤ n.toInt ∧ 0 ≤ dp.toInt ∧ 0 ≤ sp.toInt ∧ sp.toInt + n.toInt ≤ na ∧ dp.toInt + n.toInt ≤ nb) with
        | true => some (pc + 3, l, r, (h.1, fun i j => if i = b then va_cpy (h.2.1 a) (h.2.1 b) sp.toNatClampNeg dp.toNatClampNeg n.toNatClampNeg j else h.2.1 i j, h.2.2.1, h.2.2.2))
        | false => none
      | none => none
    | none => none
  | _ => none
def am_sp2 (pc : Nat) (l : am_L) (st : List Value) (h : am_H) : Option am_S := match st with
  | .int y :: .int x :: r => match decide (am_cat r ≤ 8) with
    | true => some (pc + 3, l, .int (if y < x then y else x) :: r, h)
    | false => none
  | _ => none
/-- the JDK's members that are taken as one step: 1000 Object(), 1001 arraycopy of chars, 1002 Math.min -/
def am_spec (d r1 pc : Nat) (l : am_L) (st : List Value) (h : am_H) : Option am_S := match d with
  | 0 => none
  | _ + 1 => match decide (r1 = 1000) with
    | true => am_sp0 pc l st h
    | false => match decide (r1 = 1001) with
      | true => am_sp1 pc l st h
      | false => match decide (r1 = 1002) with
        | true => am_sp2 pc l st h
        | false => none
def am_step (d : Nat) (i : Instr) (r1 r2 : Nat) (pc : Nat) (l : am_L) (st : List Value) (h : am_H) : Option am_S := match i with
  | .iconst n => some (pc + 1, l, .int (Int32.ofInt n) :: st, h)
  | .bipush n => some (pc + 2, l, .int (Int8.ofInt n).toInt32 :: st, h)
  | .sipush n => some (pc + 3, l, .int (Int16.ofInt n).toInt32 :: st, h)
  | .lconst n => some (pc + 1, l, .long (Int64.ofNat n.val) :: st, h)
  | .ldc _ => some (pc + 2, l, .ref r1 :: st, h)
  | .getstatic _ => some (pc + 3, l, (match r2 with
    | 0 => .int (nI r1)
    | _ => .retAddr 0) :: st, h)
  | .ldc2_w _ => some (pc + 3, l, .long (Int64.ofNat r1) :: st, h)
  | .iload i => am_iload pc l st h i 2
  | .iload_n i => am_iload pc l st h i.val 1
  | .lload i => am_lload pc l st h i 2
  | .lload_n i => am_lload pc l st h i.val 1
  | .aload i => am_aload pc l st h i 2
  | .aload_n i => am_aload pc l st h i.val 1
  | .istore i => am_istore pc l st h i 2
  | .istore_n i => am_istore pc l st h i.val 1
  | .lstore i => am_lstore pc l st h i 2
  | .lstore_n i => am_lstore pc l st h i.val 1
  | .astore i => am_astore pc l st h i 2
  | .astore_n i => am_astore pc l st h i.val 1
  | .iinc i n => match am_get l i with
    | some (.int x) => match decide (i < l.length) with
      | true => some (pc + 3, am_st1 l i (.int (x + Int32.ofInt n)), st, h)
      | false => none
    | _ => none
  | .iadd => am_ii pc l st h (fun x y => x + y)
  | .isub => am_ii pc l st h (fun x y => x - y)
  | .imul => am_ii pc l st h (fun x y => x * y)
  | .iand => am_ii pc l st h (fun x y => x &&& y)
  | .ior => am_ii pc l st h (fun x y => x ||| y)
  | .ixor => am_ii pc l st h (fun x y => x ^^^ y)
  | .ishl => am_ii pc l st h (fun x y => x <<< (y &&& 31))
  | .ishr => am_ii pc l st h (fun x y => x >>> (y &&& 31))
  | .iushr => am_ii pc l st h (fun x y => (x.toUInt32 >>> (y.toUInt32 &&& Int32.toUInt32 31)).toInt32)
  | .idiv => am_iid pc l st h (fun x y => x / y)
  | .irem => am_iid pc l st h (fun x y => x - x / y * y)
  | .ladd => am_ll pc l st h (fun x y => x + y)
  | .lsub => am_ll pc l st h (fun x y => x - y)
  | .lmul => am_ll pc l st h (fun x y => x * y)
  | .land => am_ll pc l st h (fun x y => x &&& y)
  | .lor => am_ll pc l st h (fun x y => x ||| y)
  | .ldiv => am_lld pc l st h (fun x y => x / y)
  | .lrem => am_lld pc l st h (fun x y => x - x / y * y)
  | .lushr => am_li pc l st h (fun x y => (x.toUInt64 >>> (y.toInt64.toUInt64 &&& Int64.toUInt64 63)).toInt64)
  | .lshl => am_li pc l st h (fun x y => x <<< (y.toInt64 &&& 63))
  | .lshr => am_li pc l st h (fun x y => x >>> (y.toInt64 &&& 63))
  | .lcmp => match st with
    | .long y :: .long x :: r => some (pc + 1, l, .int (lg_cmp x y) :: r, h)
    | _ => none
  | .i2l => match st with
    | .int x :: r => some (pc + 1, l, .long x.toInt64 :: r, h)
    | _ => none
  | .l2i => match st with
    | .long x :: r => some (pc + 1, l, .int x.toInt32 :: r, h)
    | _ => none
  | .i2c => match st with
    | .int x :: r => some (pc + 1, l, .int (x.toUInt32 % 65536).toInt32 :: r, h)
    | _ => none
  | .dup => match st with
    | .int x :: r => some (pc + 1, l, .int x :: .int x :: r, h)
    | .ref x :: r => some (pc + 1, l, .ref x :: .ref x :: r, h)
    | _ => none
  | .dup2 => match st with
    | .int x :: .ref a :: r => some (pc + 1, l, .int x :: .ref a :: .int x :: .ref a :: r, h)
    | _ => none
  | .pop => match st with
    | .int _ :: r => some (pc + 1, l, r, h)
    | .ref _ :: r => some (pc + 1, l, r, h)
    | _ => none
  | .ifCond c off => match st with
    | .int x :: r => some (if am_cmp c x 0 = true then am_tg pc off else pc + 3, l, r, h)
    | _ => none
  | .if_icmp c off => match st with
    | .int y :: .int x :: r => some (if am_cmp c x y = true then am_tg pc off else pc + 3, l, r, h)
    | _ => none
  | .goto off => some (am_tg pc off, l, st, h)
  | .tableswitch df lo hi offs => match st with
    | .int x :: r => some (if x.toInt < lo ∨ hi < x.toInt then am_tg pc df else am_tg pc (offs.getD (x.toInt - lo).toNat 0), l, r, h)
    | _ => none
  | .lookupswitch df ps => match st with
    | .int x :: r => some (am_tg pc (Op.lookupswitch.offset ps.toList df x.toInt), l, r, h)
    | _ => none
  | .getfield _ => am_getf pc l st h r1 r2
  | .putfield _ => am_putf pc l st h r1 r2
  | .new _ => am_new pc l st h r1 r2
  | .newarray t => am_newa pc l st h (am_atag t) 2
  | .anewarray _ => am_newa pc l st h (401 + r1) 3
  | .arraylength => am_alen pc l st h
  | .iaload => am_ald pc l st h (fun t => t == 100 || t == 900)
  | .laload => am_ald pc l st h (fun t => t == 101)
  | .caload => am_ald pc l st h (fun t => t == 102)
  | .baload => am_ald pc l st h (fun t => t == 103 || t == 902)
  | .aaload => am_ald pc l st h (fun t => decide (401 ≤ t ∧ t < 900))
  | .iastore => am_iast pc l st h (fun t => t == 100)
  | .castore => am_iast pc l st h (fun t => t == 102)
  | .bastore => am_iast pc l st h (fun t => t == 103)
  | .lastore => am_last pc l st h
  | .aastore => am_aast pc l st h
  | .invokevirtual _ => am_spec d r1 pc l st h
  | .invokespecial _ => am_spec d r1 pc l st h
  | .invokestatic _ => am_spec d r1 pc l st h
  | _ => none
def am_code (mid : Nat) : am_C := match at_tab[mid]? with
  | some q => q.2.2.2.2.2.2
  | none => []
def am_ret (mid : Nat) (i : Instr) (st : List Value) (h : am_H) : Option (Option Value × am_H) := match at_tab[mid]? with
  | none => none
  | some q => match i, st, q.2.2.2.1 with
    | .ireturn, [.int v], some ty => match am_fit ty v with
      | true => some (some (.int v), h)
      | false => none
    | .lreturn, [.long v], some .long => some (some (.long v), h)
    | .areturn, [.ref a], some (.object _) => some (some (.ref a), h)
    | .areturn, [.ref a], some (.array _) => some (some (.ref a), h)
    | .return_, [], none => some (none, h)
    | _, _, _ => none
/-- the locals with which a method begins -/
def am_args (vs : List Value) : am_L := match vs with
  | [] => []
  | .long x :: vs => some (.long x) :: none :: am_args vs
  | .double x :: vs => some (.double x) :: none :: am_args vs
  | v :: vs => some v :: am_args vs
def am_ent (n : Nat) (vs : List Value) : am_L := am_args vs ++ List.replicate (n - (am_args vs).length) none
/-- a call: how deep it may go, what it takes, what stays on the stack -/
def am_call (d : Nat) (i : Instr) (mid : Nat) (st : List Value) (h : am_H) : Option (Nat × am_L × List Value) := match d with
  | 0 => none
  | d + 1 => match at_tab[mid]? with
    | none => none
    | some q => match decide (q.2.2.2.2.1 ≤ st.length ∧ am_cat (st.drop q.2.2.2.2.1) ≤ 8 ∧ (am_args (st.take q.2.2.2.2.1).reverse).length ≤ q.2.2.1) with
      | false => none
      | true => match i with
        | .invokestatic _ => some (d, am_ent q.2.2.1 (st.take q.2.2.2.2.1).reverse, st.drop q.2.2.2.2.1)
        | .invokespecial _ => match (st.take q.2.2.2.2.1).reverse with
          | .ref _ :: _ => some (d, am_ent q.2.2.1 (st.take q.2.2.2.2.1).reverse, st.drop q.2.2.2.2.1)
          | _ => none
        | .invokevirtual _ => match (st.take q.2.2.2.2.1).reverse with
          | .ref a :: _ => match h.1[a]? with
            | some (tag, _) => match decide (tag = q.2.2.2.2.2.1) with
              | true => some (d, am_ent q.2.2.1 (st.take q.2.2.2.2.1).reverse, st.drop q.2.2.2.2.1)
              | false => none
            | none => none
          | _ => none
        | _ => none
def am_run : Nat → Nat → Nat → Nat → am_L → List Value → am_H → Option (Option Value × am_H)
  | 0, _, _, _, _, _, _ => none
  | n + 1, d, mid, pc, l, st, h => match am_find (am_code mid) pc with
    | none => none
    | some (i, r1, r2) => match am_kind i r1 with
      | 0 => match am_step d i r1 r2 pc l st h with
        | none => none
        | some (pc', l', st', h') => am_run n d mid pc' l' st' h'
      | 1 => am_ret mid i st h
      | _ => match am_call d i r1 st h with
        | none => none
        | some (d', l0, rest) => match am_run n d' r1 0 l0 [] h with
          | none => none
          | some (v, h') => am_run n d mid (pc + 3) l (v.toList ++ rest) h'
theorem am_run_succ : ∀ (n d mid pc : Nat) (l : am_L) (st : List Value) (h : am_H) (r : Option Value × am_H), am_run n d mid pc l st h = some r → am_run (n + 1) d mid pc l st h = some r := by
  intro n
  induction n with
  | zero => intro d mid pc l st h r hr; simp [am_run] at hr
  | succ n ih =>
    intro d mid pc l st h r hr
    rw [am_run] at hr
    rw [am_run]
    cases hf : am_find (am_code mid) pc with
    | none => rw [hf] at hr; cases hr
    | some q =>
      obtain ⟨i, r1, r2⟩ := q
      rw [hf] at hr
      (try dsimp only at hr ⊢)
      cases hk : am_kind i r1 with
      | zero =>
        rw [hk] at hr
        (try dsimp only at hr ⊢)
        cases hs : am_step d i r1 r2 pc l st h with
        | none => rw [hs] at hr; cases hr
        | some s' =>
          obtain ⟨pc', l', st', h'⟩ := s'
          rw [hs] at hr
          exact ih _ _ _ _ _ _ _ hr
      | succ k =>
        rw [hk] at hr
        cases k with
        | zero => exact hr
        | succ k =>
          (try dsimp only at hr ⊢)
          cases hc : am_call d i r1 st h with
          | none => rw [hc] at hr; cases hr
          | some q =>
            obtain ⟨d', l0, rest⟩ := q
            rw [hc] at hr
            (try dsimp only at hr ⊢)
            cases hq : am_run n d' r1 0 l0 [] h with
            | none => rw [hq] at hr; cases hr
            | some q2 =>
              obtain ⟨v, h'⟩ := q2
              rw [hq] at hr
              rw [ih _ _ _ _ _ _ _ hq]
              exact ih _ _ _ _ _ _ _ hr
theorem am_run_le {n n' : Nat} (hn : n ≤ n') {d mid pc : Nat} {l : am_L} {st : List Value} {h : am_H} {r : Option Value × am_H} (hr : am_run n d mid pc l st h = some r) : am_run n' d mid pc l st h = some r := by
  induction hn with
  | refl => exact hr
  | step _ ih => exact am_run_succ _ _ _ _ _ _ _ _ ih
/-- from here the method comes to its end with Q -/
def Rn (d mid pc : Nat) (l : am_L) (st : List Value) (h : am_H) (Q : Option Value → am_H → Prop) : Prop := ∃ (n : Nat) (v : Option Value) (h' : am_H), am_run n d mid pc l st h = some (v, h') ∧ Q v h'
theorem Rn.mono {d mid pc : Nat} {l : am_L} {st : List Value} {h : am_H} {Q Q' : Option Value → am_H → Prop} (hr : Rn d mid pc l st h Q) (hq : ∀ v h', Q v h' → Q' v h') : Rn d mid pc l st h Q' := by
  obtain ⟨n, v, h', a, b⟩ := hr
  exact ⟨n, v, h', a, hq v h' b⟩
theorem Rn.go {d mid pc : Nat} {l : am_L} {st : List Value} {h : am_H} {Q : Option Value → am_H → Prop} {c : am_C} {i : Instr} {r1 r2 pc' : Nat} {l' : am_L} {st' : List Value} {h' : am_H} (hc : am_code mid = c) (hf : am_find c pc = some (i, r1, r2)) (hk : am_kind i r1 = 0) (hs : am_step d i r1 r2 pc l st h = some (pc', l', st', h')) (k : Rn d mid pc' l' st' h' Q) : Rn d mid pc l st h Q := by
  obtain ⟨n, v, h2, a, b⟩ := k
  refine ⟨n + 1, v, h2, ?_, b⟩
  rw [am_run, hc, hf]
  (try dsimp only)
  rw [hk]
  (try dsimp only)
  rw [hs]
  exact a
theorem Rn.ret {d mid pc : Nat} {l : am_L} {st : List Value} {h : am_H} {Q : Option Value → am_H → Prop} {c : am_C} {i : Instr} {r1 r2 : Nat} {v : Option Value} (hc : am_code mid = c) (hf : am_find c pc = some (i, r1, r2)) (hk : am_kind i r1 = 1) (hs : am_ret mid i st h = some (v, h)) (k : Q v h) : Rn d mid pc l st h Q := by
  refine ⟨1, v, h, ?_, k⟩
  rw [am_run, hc, hf]
  (try dsimp only)
  rw [hk]
  exact hs
theorem Rn.call {d mid pc : Nat} {l : am_L} {st : List Value} {h : am_H} {Q : Option Value → am_H → Prop} {c : am_C} {i : Instr} {r1 r2 d' : Nat} {l0 : am_L} {rest : List Value} (hc : am_code mid = c) (hf : am_find c pc = some (i, r1, r2)) (hk : am_kind i r1 = 2) (hs : am_call d i r1 st h = some (d', l0, rest)) (k : Rn d' r1 0 l0 [] h (fun v h' => Rn d mid (pc + 3) l (v.toList ++ rest) h' Q)) : Rn d mid pc l st h Q := by
  obtain ⟨n, v, h1, a, n2, v2, h2, a2, b⟩ := k
  refine ⟨max n n2 + 1, v2, h2, ?_, b⟩
  rw [am_run, hc, hf]
  (try dsimp only)
  rw [hk]
  (try dsimp only)
  rw [hs]
  (try dsimp only)
  rw [am_run_le (Nat.le_max_left n n2) a]
  exact am_run_le (Nat.le_max_right n n2) a2
/-- some plain steps in one -/
def am_blk : Nat → am_C → Nat → Nat → am_L → List Value → am_H → Option am_S
  | 0, _, _, pc, l, st, h => some (pc, l, st, h)
  | n + 1, c, d, pc, l, st, h => match am_find c pc with
    | none => none
    | some (i, r1, r2) => match am_kind i r1 with
      | 0 => match am_step d i r1 r2 pc l st h with
        | none => none
        | some (pc', l', st', h') => am_blk n c d pc' l' st' h'
      | _ => none
theorem Rn.blk {d mid : Nat} {Q : Option Value → am_H → Prop} {c : am_C} (hc : am_code mid = c) : ∀ (n : Nat) {pc : Nat} {l : am_L} {st : List Value} {h : am_H} {pc' : Nat} {l' : am_L} {st' : List Value} {h' : am_H}, am_blk n c d pc l st h = some (pc', l', st', h') → Rn d mid pc' l' st' h' Q → Rn d mid pc l st h Q := by
  intro n
  induction n with
  | zero =>
    intro pc l st h pc' l' st' h' e k
    simp only [am_blk, Option.some.injEq, Prod.mk.injEq] at e
    obtain ⟨rfl, rfl, rfl, rfl⟩ := e
    exact k
  | succ n ih =>
    intro pc l st h pc' l' st' h' e k
    rw [am_blk] at e
    cases hf : am_find c pc with
    | none => rw [hf] at e; cases e
    | some q =>
      obtain ⟨i, r1, r2⟩ := q
      rw [hf] at e
      (try dsimp only at e)
      cases hk : am_kind i r1 with
      | succ k => rw [hk] at e; cases e
      | zero =>
        rw [hk] at e
        (try dsimp only at e)
        cases hs : am_step d i r1 r2 pc l st h with
        | none => rw [hs] at e; cases e
        | some s' =>
          obtain ⟨pc1, l1, st1, h1⟩ := s'
          rw [hs] at e
          exact Rn.go hc hf hk hs (ih e k)
