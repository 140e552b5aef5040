/-! THE TIE, whole: a run of the small machine is a run of the JVM -/
def at_in (w : Cond) : Bool := decide (w ∈ lw_tbl) && goodWord w
theorem at_in_ok {w : Cond} (h : at_in w = true) : w ∈ am_ws := by
  unfold at_in at h
  rw [Bool.and_eq_true] at h
  exact List.mem_filter.mpr ⟨of_decide_eq_true h.1, h.2⟩
def at_len (i : Instr) (r1 : Nat) : Nat := match i with
  | .bipush _ => 2
  | .sipush _ => 3
  | .ldc _ => 2
  | .getstatic _ => 3
  | .ldc2_w _ => 3
  | .iload _ => 2
  | .lload _ => 2
  | .aload _ => 2
  | .istore _ => 2
  | .lstore _ => 2
  | .astore _ => 2
  | .iinc _ _ => 3
  | .ifCond _ _ => 3
  | .if_icmp _ _ => 3
  | .goto _ => 3
  | .tableswitch _ _ _ _ => r1
  | .lookupswitch _ _ => r1
  | .getfield _ => 3
  | .putfield _ => 3
  | .new _ => 3
  | .newarray _ => 2
  | .anewarray _ => 3
  | .invokevirtual _ => 3
  | .invokespecial _ => 3
  | .invokestatic _ => 3
  | _ => 1
/-- what a call's place needs of the tables -/
def at_call (n : Nat) (y : am_M) : Bool := at_in (.initialized y.1.cls) && at_in (.code y.1 y.2.1 y.2.2.1 y.2.2.2.1) && decide (y.1.cls ≠ "java/lang/invoke/MethodHandle" ∧ y.1.cls ≠ "java/lang/invoke/VarHandle" ∧ (parseMethodDescriptor y.1.desc).map (fun d => d.parameters.length) = some n) && plainName y.1.cls && decide (y.2.2.1 ≤ 45)
def at_chk (q : am_M) (en : Nat × Instr × Nat × Nat) : Bool := decide (decode q.2.1 en.1 = .ok (en.2.1, at_len en.2.1 en.2.2.1)) && match en.2.1 with
  | .getfield idx => match vwCl[en.2.2.1]? with
    | some cl => decide (en.2.2.2 < cl.2.2) && decide (en.2.2.1 < 100) && at_in (.fieldLink q.1.cls idx (cl.2.1 en.2.2.2).1 (cl.2.1 en.2.2.2).2.1 (cl.2.1 en.2.2.2).2.2.1)
    | none => decide (en.2.2.1 = 901) && ((decide (en.2.2.2 = 0) && at_in (.fieldLink q.1.cls idx "java/lang/String" "value" "[B")) || (decide (en.2.2.2 = 1) && at_in (.fieldLink q.1.cls idx "java/lang/String" "coder" "B")))
  | .getstatic idx => decide (en.2.2.1 = 1) && at_in (.fieldLink q.1.cls idx "java/lang/String" "COMPACT_STRINGS" "Z")
  | .ldc idx => at_str.any (fun z => decide (z.1 = q.1.cls ∧ z.2.1 = idx ∧ z.2.2.2 = en.2.2.1 ∧ en.2.2.1 < 16))
  | .putfield idx => match vwCl[en.2.2.1]? with
    | some cl => decide (en.2.2.2 < cl.2.2) && decide (en.2.2.1 < 100) && at_in (.fieldLink q.1.cls idx (cl.2.1 en.2.2.2).1 (cl.2.1 en.2.2.2).2.1 (cl.2.1 en.2.2.2).2.2.1) && decide ((cl.2.1 en.2.2.2).2.2.2 = false ∨ ((cl.2.1 en.2.2.2).2.2.2 = true ∧ q.1.name = "<init>" ∧ (cl.2.1 en.2.2.2).1 = q.1.cls))
    | none => false
  | .new idx => match vwCl[en.2.2.1]? with
    | some cl => decide (en.2.2.2 = cl.2.2) && decide (en.2.2.1 < 100) && at_in (.classLink q.1.cls idx cl.1)
    | none => false
  | .newarray t => decide (am_aty (am_atag t) = some (newarray.typeOf t)) && decide (100 ≤ am_atag t ∧ am_atag t < 900) && at_in (.arrayClass (newarray.typeOf t))
  | .anewarray idx => match vwCl[en.2.2.1]? with
    | some cl => decide (en.2.2.1 < 100) && at_in (.classLink q.1.cls idx cl.1) && at_in (.arrayOver (.object cl.1))
    | none => false
  | .ldc2_w idx => at_in (.constantLong q.1.cls idx (Int64.ofNat en.2.2.1))
  | .ifCond _ off => decide (0 ≤ (en.1 : Int) + off)
  | .if_icmp _ off => decide (0 ≤ (en.1 : Int) + off)
  | .goto off => decide (0 ≤ (en.1 : Int) + off)
  | .tableswitch df lo hi offs => decide (0 ≤ (en.1 : Int) + df) && decide ((offs.size : Int) = hi - lo + 1) && offs.toList.all (fun o => decide (0 ≤ (en.1 : Int) + o))
  | .lookupswitch df ps => decide (0 ≤ (en.1 : Int) + df) && ps.toList.all (fun o => decide (0 ≤ (en.1 : Int) + o.2)) && (ps.toList.zip (ps.toList.drop 1)).all (fun (a, next) => a.1 < next.1)
  | .invokevirtual idx => match at_tab[en.2.2.1]? with
    | some y => decide (en.2.2.1 < 1000) && decide (1 ≤ y.2.2.2.2.1) && at_call (y.2.2.2.2.1 - 1) y && at_in (.methodLink q.1.cls idx y.1) && at_in (.instanceMethod y.1) && at_in (.selects y.1.cls y.1 y.1) && (match vwCl[y.2.2.2.2.2.1]? with
      | some cl => decide (cl.1 = y.1.cls) && decide (y.2.2.2.2.2.1 < 100)
      | none => decide (y.1.cls = "java/lang/String") && decide (y.2.2.2.2.2.1 = 901))
    | none => false
  | .invokestatic idx => match at_tab[en.2.2.1]? with
    | some y => decide (en.2.2.1 < 1000) && at_call y.2.2.2.2.1 y && at_in (.methodLink q.1.cls idx y.1) && at_in (.static y.1)
    | none => (decide (en.2.2.1 = 1001) && at_in (.methodLink q.1.cls idx arraycopyName) && at_in (.native arraycopyName) && at_in (.static arraycopyName) && at_in (.initialized "java/lang/System")) || (decide (en.2.2.1 = 1002) && at_in (.methodLink q.1.cls idx Lib.Math.min.name) && at_in (.static Lib.Math.min.name) && at_in (.initialized "java/lang/Math") && at_in (.code Lib.Math.min.name Lib.Math.min.code 2 (some .int)))
  | .invokespecial idx => match at_tab[en.2.2.1]? with
    | some y => decide (en.2.2.1 < 1000) && decide (1 ≤ y.2.2.2.2.1) && at_call (y.2.2.2.2.1 - 1) y && (at_in (.methodLink q.1.cls idx y.1) || decide (Cond.methodLinkNest q.1.cls idx y.1 "TestFinder" ∈ lw_tbl)) && at_in (.instanceMethod y.1) && decide (y.1.name = "<init>") && decide (y.2.2.2.1 = none)
    | none => decide (en.2.2.1 = 1000) && at_in (.methodLink q.1.cls idx Lib.objectInit) && at_in (.instanceMethod Lib.objectInit) && at_in (.code Lib.objectInit ⟨#[0xb1]⟩ 1 none)
  | _ => true
