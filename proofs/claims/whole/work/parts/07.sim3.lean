/-! THE TIE, whole: a run of the small machine is a run of the JVM -/
def at_in (w : Cond) : Bool := decide (w ∈ lw_tbl) && goodWord w
theorem at_in_ok {w : Cond} (h : at_in w = true) : w ∈ am_ws := by
  unfold at_in at h
  rw [Bool.and_eq_true] at h
  exact List.mem_filter.mpr ⟨of_decide_eq_true h.1, h.2⟩
/-- the word w stands at the place i of the tables -/
def at_ix (i : Nat) (w : Cond) : Bool := decide (lw_tbl[i]? = some w) && goodWord w
theorem at_ix_ok {i : Nat} {w : Cond} (h : at_ix i w = true) : w ∈ am_ws := by
  unfold at_ix at h
  rw [Bool.and_eq_true] at h
  exact List.mem_filter.mpr ⟨List.mem_of_getElem? (of_decide_eq_true h.1), h.2⟩
def at_len (i : Instr) (r1 : Nat) : Nat := match i with
  | .bipush _ => 2
  | .sipush _ => 3
  | .ldc _ => 2
  | .getstatic _ => 3
  | .ldc2_w _ => 3
  | .iload _ => 2
  | .lload _ => 2
  | .aload _ => 2
  | .istore _ => 2
  | .lstore _ => 2
  | .astore _ => 2
  | .iinc _ _ => 3
  | .ifCond _ _ => 3
  | .if_icmp _ _ => 3
  | .goto _ => 3
  | .tableswitch _ _ _ _ => r1
  | .lookupswitch _ _ => r1
  | .getfield _ => 3
  | .putfield _ => 3
  | .new _ => 3
  | .newarray _ => 2
  | .anewarray _ => 3
  | .invokevirtual _ => 3
  | .invokespecial _ => 3
  | .invokestatic _ => 3
  | _ => 1
/-- what a call's place needs of the tables -/
def at_call (ps : List Nat) (n : Nat) (y : am_M) : Bool := at_ix (ps.getD 0 0) (.initialized y.1.cls) && decide (y.1.cls ≠ "java/lang/invoke/MethodHandle" ∧ y.1.cls ≠ "java/lang/invoke/VarHandle" ∧ (parseMethodDescriptor y.1.desc).map (fun d => d.parameters.length) = some n) && plainName y.1.cls && decide (y.2.2.1 ≤ 45)
def at_chk (ps : List Nat) (q : am_M) (en : Nat × Instr × Nat × Nat) : Bool := decide (decode q.2.1 en.1 = .ok (en.2.1, at_len en.2.1 en.2.2.1)) && match en.2.1 with
  | .getfield idx => match vwCl[en.2.2.1]? with
    | some cl => decide (en.2.2.2 < cl.2.2) && decide (en.2.2.1 < 100) && at_ix (ps.getD 0 0) (.fieldLink q.1.cls idx (cl.2.1 en.2.2.2).1 (cl.2.1 en.2.2.2).2.1 (cl.2.1 en.2.2.2).2.2.1)
    | none => decide (en.2.2.1 = 901) && ((decide (en.2.2.2 = 0) && at_ix (ps.getD 0 0) (.fieldLink q.1.cls idx "java/lang/String" "value" "[B")) || (decide (en.2.2.2 = 1) && at_ix (ps.getD 0 0) (.fieldLink q.1.cls idx "java/lang/String" "coder" "B")))
  | .getstatic idx => (decide (en.2.2.1 = 1 ∧ en.2.2.2 = 0) && at_ix (ps.getD 0 0) (.fieldLink q.1.cls idx "java/lang/String" "COMPACT_STRINGS" "Z")) || (decide (en.2.2.2 = 1) && at_ix (ps.getD 0 0) (.fieldLink q.1.cls idx "jdk/internal/util/Preconditions" "SIOOBE_FORMATTER" "Ljava/util/function/BiFunction;"))
  | .ldc idx => at_str.any (fun z => decide (z.1 = q.1.cls ∧ z.2.1 = idx ∧ z.2.2.2 = en.2.2.1 ∧ en.2.2.1 < 16))
  | .putfield idx => match vwCl[en.2.2.1]? with
    | some cl => decide (en.2.2.2 < cl.2.2) && decide (en.2.2.1 < 100) && at_ix (ps.getD 0 0) (.fieldLink q.1.cls idx (cl.2.1 en.2.2.2).1 (cl.2.1 en.2.2.2).2.1 (cl.2.1 en.2.2.2).2.2.1) && decide ((cl.2.1 en.2.2.2).2.2.2 = false ∨ ((cl.2.1 en.2.2.2).2.2.2 = true ∧ q.1.name = "<init>" ∧ (cl.2.1 en.2.2.2).1 = q.1.cls))
    | none => false
  | .new idx => match vwCl[en.2.2.1]? with
    | some cl => decide (en.2.2.2 = cl.2.2) && decide (en.2.2.1 < 100) && at_ix (ps.getD 0 0) (.classLink q.1.cls idx cl.1)
    | none => false
  | .newarray t => decide (am_aty (am_atag t) = some (newarray.typeOf t)) && decide (100 ≤ am_atag t ∧ am_atag t < 900) && at_ix (ps.getD 0 0) (.arrayClass (newarray.typeOf t))
  | .anewarray idx => match vwCl[en.2.2.1]? with
    | some cl => decide (en.2.2.1 < 100) && at_ix (ps.getD 0 0) (.classLink q.1.cls idx cl.1) && decide (lw_tbl[ps.getD 1 0]? = some (.arrayOver (.object cl.1)))
    | none => false
  | .ldc2_w idx => at_ix (ps.getD 0 0) (.constantLong q.1.cls idx (Int64.ofNat en.2.2.1))
  | .ifCond _ off => decide (0 ≤ (en.1 : Int) + off)
  | .if_icmp _ off => decide (0 ≤ (en.1 : Int) + off)
  | .goto off => decide (0 ≤ (en.1 : Int) + off)
  | .tableswitch df lo hi offs => decide (0 ≤ (en.1 : Int) + df) && decide ((offs.size : Int) = hi - lo + 1) && offs.toList.all (fun o => decide (0 ≤ (en.1 : Int) + o))
  | .lookupswitch df ps => decide (0 ≤ (en.1 : Int) + df) && ps.toList.all (fun o => decide (0 ≤ (en.1 : Int) + o.2)) && (ps.toList.zip (ps.toList.drop 1)).all (fun (a, next) => a.1 < next.1)
  | .invokevirtual idx => match at_tab[en.2.2.1]? with
    | some y => decide (1 ≤ en.2.2.1 ∧ en.2.2.1 < 1000) && decide (1 ≤ y.2.2.2.2.1) && at_call ps (y.2.2.2.2.1 - 1) y && at_ix (ps.getD 1 0) (.methodLink q.1.cls idx y.1) && at_ix (ps.getD 2 0) (.instanceMethod y.1) && at_ix (ps.getD 3 0) (.selects y.1.cls y.1 y.1) && (match vwCl[y.2.2.2.2.2.1]? with
      | some cl => decide (cl.1 = y.1.cls) && decide (y.2.2.2.2.2.1 < 100)
      | none => decide (y.1.cls = "java/lang/String") && decide (y.2.2.2.2.2.1 = 901))
    | none => false
  | .invokestatic idx => match at_tab[en.2.2.1]? with
    | some y => decide (1 ≤ en.2.2.1 ∧ en.2.2.1 < 1000) && at_call ps y.2.2.2.2.1 y && at_ix (ps.getD 1 0) (.methodLink q.1.cls idx y.1) && at_ix (ps.getD 2 0) (.static y.1)
    | none => (decide (en.2.2.1 = 1001) && at_ix (ps.getD 0 0) (.methodLink q.1.cls idx arraycopyName) && at_ix (ps.getD 1 0) (.native arraycopyName) && at_ix (ps.getD 2 0) (.static arraycopyName) && at_ix (ps.getD 3 0) (.initialized "java/lang/System")) || (decide (en.2.2.1 = 1002) && at_ix (ps.getD 0 0) (.methodLink q.1.cls idx Lib.Math.min.name) && at_ix (ps.getD 1 0) (.static Lib.Math.min.name) && at_ix (ps.getD 2 0) (.initialized "java/lang/Math") && at_ix (ps.getD 3 0) (.code Lib.Math.min.name Lib.Math.min.code 2 (some .int)))
  | .invokespecial idx => match at_tab[en.2.2.1]? with
    | some y => decide (1 ≤ en.2.2.1 ∧ en.2.2.1 < 1000) && decide (1 ≤ y.2.2.2.2.1) && at_call ps (y.2.2.2.2.1 - 1) y && (at_ix (ps.getD 1 0) (.methodLink q.1.cls idx y.1) || decide (Cond.methodLinkNest q.1.cls idx y.1 "TestFinder" ∈ lw_tbl)) && at_ix (ps.getD 2 0) (.instanceMethod y.1) && decide (y.1.name = "<init>") && decide (y.2.2.2.1 = none)
    | none => decide (en.2.2.1 = 1000) && at_ix (ps.getD 0 0) (.methodLink q.1.cls idx Lib.objectInit) && at_ix (ps.getD 1 0) (.instanceMethod Lib.objectInit) && at_ix (ps.getD 2 0) (.code Lib.objectInit ⟨#[0xb1]⟩ 1 none)
  | _ => true
def at_all (q : am_M) : am_C → List (List Nat) → Bool
  | [], _ => true
  | _ :: _, [] => false
  | en :: c, ps :: pl => at_chk ps q en && at_all q c pl
theorem at_all_mem {q : am_M} : ∀ (c : am_C) (pl : List (List Nat)), at_all q c pl = true → ∀ en ∈ c, ∃ ps, at_chk ps q en = true
  | [], _, _, en, h => by cases h
  | _ :: _, [], h, _, _ => by cases h
  | e0 :: c, ps :: pl, h, en, he => by
    rw [at_all, Bool.and_eq_true] at h
    rcases List.mem_cons.mp he with rfl | he
    · exact ⟨ps, h.1⟩
    · exact at_all_mem c pl h.2 en he
theorem at_all_ok {q : am_M} {c : am_C} {pl : List (List Nat)} (h : at_all q c pl = true) : ∀ en ∈ c, ∃ ps, at_chk ps q en = true := at_all_mem c pl h
