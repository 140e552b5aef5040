/-! EACH PLAIN STEP of the small machine is a step of the JVM (goal first: what holds behind the step gives what holds before it) -/
section Sim
variable {s0 : State} {D : va_G} {adS : Nat → Nat} {p : Program} {lau : Launch} {e : Env} {R : Room} {s : State} {m : MethodId} {args : Array Value} {below : List Frame} {meth : Method} {c : Code} {Q : State → Prop} {n0 t0 nL : Nat} {cc : ByteArray}
def sm_K (s0 : State) (D : va_G) (adS : Nat → Nat) (p : Program) (lau : Launch) (e : Env) (R : Room) (s : State) (m : MethodId) (args : Array Value) (below : List Frame) (meth : Method) (c : Code) (Q : State → Prop) (n0 t0 nL : Nat) (pc : Nat) (l : am_L) (st : List Value) (h : am_H) : Prop :=
  ∀ (H : Heap) (locs : List Loc) (ls : Array Slot) (cells slots : Nat), sm_HR s0 D adS h H → (∀ q ∈ locs, s0.heap.size ≤ q.base) → sm_LR (sm_g s0 adS) ls nL l → cells + n0 = h.1.length → slots + t0 = am_tot h.1 → W p lau e R s m args below meth c H locs cells slots Q (F0 m pc ls (st.map (sm_v (sm_g s0 adS))))

theorem sk_iconst (hx : p.tables.exec = Jvm.exec) (hb : c.code = cc) {pc : Nat} {l : am_L} {st : List Value} {h : am_H} {pc' : Nat} {l' : am_L} {st' : List Value} {h' : am_H} {n : Int} (hdg : decode cc pc = .ok (.iconst n, 1)) (hs : (some (pc + 1, l, .int (Int32.ofInt n) :: st, h) : Option am_S) = some (pc', l', st', h')) (kk : sm_K s0 D adS p lau e R s m args below meth c Q n0 t0 nL pc' l' st' h') : sm_K s0 D adS p lau e R s m args below meth c Q n0 t0 nL pc l st h := by
  intro H locs ls cells slots hR hlo hL hc ht
  cases hs
  exact lv_iconst hx hb hdg rfl (kk H locs ls cells slots hR hlo hL hc ht)
theorem sk_bipush (hx : p.tables.exec = Jvm.exec) (hb : c.code = cc) {pc : Nat} {l : am_L} {st : List Value} {h : am_H} {pc' : Nat} {l' : am_L} {st' : List Value} {h' : am_H} {n : Int} (hdg : decode cc pc = .ok (.bipush n, 2)) (hs : (some (pc + 2, l, .int (Int8.ofInt n).toInt32 :: st, h) : Option am_S) = some (pc', l', st', h')) (kk : sm_K s0 D adS p lau e R s m args below meth c Q n0 t0 nL pc' l' st' h') : sm_K s0 D adS p lau e R s m args below meth c Q n0 t0 nL pc l st h := by
  intro H locs ls cells slots hR hlo hL hc ht
  cases hs
  exact lv_bipush hx hb hdg rfl (kk H locs ls cells slots hR hlo hL hc ht)
theorem sk_sipush (hx : p.tables.exec = Jvm.exec) (hb : c.code = cc) {pc : Nat} {l : am_L} {st : List Value} {h : am_H} {pc' : Nat} {l' : am_L} {st' : List Value} {h' : am_H} {n : Int} (hdg : decode cc pc = .ok (.sipush n, 3)) (hs : (some (pc + 3, l, .int (Int16.ofInt n).toInt32 :: st, h) : Option am_S) = some (pc', l', st', h')) (kk : sm_K s0 D adS p lau e R s m args below meth c Q n0 t0 nL pc' l' st' h') : sm_K s0 D adS p lau e R s m args below meth c Q n0 t0 nL pc l st h := by
  intro H locs ls cells slots hR hlo hL hc ht
  cases hs
  exact lv_sipush hx hb hdg rfl (kk H locs ls cells slots hR hlo hL hc ht)
theorem sk_lconst (hx : p.tables.exec = Jvm.exec) (hb : c.code = cc) {pc : Nat} {l : am_L} {st : List Value} {h : am_H} {pc' : Nat} {l' : am_L} {st' : List Value} {h' : am_H} {n : Fin 2} (hdg : decode cc pc = .ok (.lconst n, 1)) (hs : (some (pc + 1, l, .long (Int64.ofNat n.val) :: st, h) : Option am_S) = some (pc', l', st', h')) (kk : sm_K s0 D adS p lau e R s m args below meth c Q n0 t0 nL pc' l' st' h') : sm_K s0 D adS p lau e R s m args below meth c Q n0 t0 nL pc l st h := by
  intro H locs ls cells slots hR hlo hL hc ht
  cases hs
  exact lv_lconst hx hb hdg rfl (kk H locs ls cells slots hR hlo hL hc ht)
theorem sk_iload (hx : p.tables.exec = Jvm.exec) (hb : c.code = cc) {pc : Nat} {l : am_L} {st : List Value} {h : am_H} {pc' : Nat} {l' : am_L} {st' : List Value} {h' : am_H} {i : Nat} (hdg : decode cc pc = .ok (.iload i, 2)) (hs : am_iload pc l st h i 2 = some (pc', l', st', h')) (kk : sm_K s0 D adS p lau e R s m args below meth c Q n0 t0 nL pc' l' st' h') : sm_K s0 D adS p lau e R s m args below meth c Q n0 t0 nL pc l st h := by
  intro H locs ls cells slots hR hlo hL hc ht
  unfold am_iload at hs
  split at hs
  · rename_i x hg
    cases hs
    exact lv_iload hx hb hdg (hL.2.2.2 _ _ hg) (kk H locs ls cells slots hR hlo hL hc ht)
  · cases hs
theorem sk_iload_n (hx : p.tables.exec = Jvm.exec) (hb : c.code = cc) {pc : Nat} {l : am_L} {st : List Value} {h : am_H} {pc' : Nat} {l' : am_L} {st' : List Value} {h' : am_H} {i : Fin 4} (hdg : decode cc pc = .ok (.iload_n i, 1)) (hs : am_iload pc l st h i.val 1 = some (pc', l', st', h')) (kk : sm_K s0 D adS p lau e R s m args below meth c Q n0 t0 nL pc' l' st' h') : sm_K s0 D adS p lau e R s m args below meth c Q n0 t0 nL pc l st h := by
  intro H locs ls cells slots hR hlo hL hc ht
  unfold am_iload at hs
  split at hs
  · rename_i x hg
    cases hs
    exact lv_iload_n hx hb hdg rfl (hL.2.2.2 _ _ hg) (kk H locs ls cells slots hR hlo hL hc ht)
  · cases hs
theorem sk_lload (hx : p.tables.exec = Jvm.exec) (hb : c.code = cc) {pc : Nat} {l : am_L} {st : List Value} {h : am_H} {pc' : Nat} {l' : am_L} {st' : List Value} {h' : am_H} {i : Nat} (hdg : decode cc pc = .ok (.lload i, 2)) (hs : am_lload pc l st h i 2 = some (pc', l', st', h')) (kk : sm_K s0 D adS p lau e R s m args below meth c Q n0 t0 nL pc' l' st' h') : sm_K s0 D adS p lau e R s m args below meth c Q n0 t0 nL pc l st h := by
  intro H locs ls cells slots hR hlo hL hc ht
  unfold am_lload at hs
  split at hs
  · rename_i x hg
    cases hs
    exact lv_lload hx hb hdg (hL.2.2.2 _ _ hg) (kk H locs ls cells slots hR hlo hL hc ht)
  · cases hs
theorem sk_lload_n (hx : p.tables.exec = Jvm.exec) (hb : c.code = cc) {pc : Nat} {l : am_L} {st : List Value} {h : am_H} {pc' : Nat} {l' : am_L} {st' : List Value} {h' : am_H} {i : Fin 4} (hdg : decode cc pc = .ok (.lload_n i, 1)) (hs : am_lload pc l st h i.val 1 = some (pc', l', st', h')) (kk : sm_K s0 D adS p lau e R s m args below meth c Q n0 t0 nL pc' l' st' h') : sm_K s0 D adS p lau e R s m args below meth c Q n0 t0 nL pc l st h := by
  intro H locs ls cells slots hR hlo hL hc ht
  unfold am_lload at hs
  split at hs
  · rename_i x hg
    cases hs
    exact lv_lload_n hx hb hdg rfl (hL.2.2.2 _ _ hg) (kk H locs ls cells slots hR hlo hL hc ht)
  · cases hs
theorem sk_aload (hx : p.tables.exec = Jvm.exec) (hb : c.code = cc) {pc : Nat} {l : am_L} {st : List Value} {h : am_H} {pc' : Nat} {l' : am_L} {st' : List Value} {h' : am_H} {i : Nat} (hdg : decode cc pc = .ok (.aload i, 2)) (hs : am_aload pc l st h i 2 = some (pc', l', st', h')) (kk : sm_K s0 D adS p lau e R s m args below meth c Q n0 t0 nL pc' l' st' h') : sm_K s0 D adS p lau e R s m args below meth c Q n0 t0 nL pc l st h := by
  intro H locs ls cells slots hR hlo hL hc ht
  unfold am_aload at hs
  split at hs
  · rename_i x hg
    cases hs
    exact lv_aload hx hb hdg (hL.2.2.2 _ _ hg) (kk H locs ls cells slots hR hlo hL hc ht)
  · cases hs
theorem sk_aload_n (hx : p.tables.exec = Jvm.exec) (hb : c.code = cc) {pc : Nat} {l : am_L} {st : List Value} {h : am_H} {pc' : Nat} {l' : am_L} {st' : List Value} {h' : am_H} {i : Fin 4} (hdg : decode cc pc = .ok (.aload_n i, 1)) (hs : am_aload pc l st h i.val 1 = some (pc', l', st', h')) (kk : sm_K s0 D adS p lau e R s m args below meth c Q n0 t0 nL pc' l' st' h') : sm_K s0 D adS p lau e R s m args below meth c Q n0 t0 nL pc l st h := by
  intro H locs ls cells slots hR hlo hL hc ht
  unfold am_aload at hs
  split at hs
  · rename_i x hg
    cases hs
    exact lv_aload_n hx hb hdg rfl (hL.2.2.2 _ _ hg) (kk H locs ls cells slots hR hlo hL hc ht)
  · cases hs
theorem sk_istore (hx : p.tables.exec = Jvm.exec) (hb : c.code = cc) {pc : Nat} {l : am_L} {st : List Value} {h : am_H} {pc' : Nat} {l' : am_L} {st' : List Value} {h' : am_H} {i : Nat} (hdg : decode cc pc = .ok (.istore i, 2)) (hs : am_istore pc l st h i 2 = some (pc', l', st', h')) (kk : sm_K s0 D adS p lau e R s m args below meth c Q n0 t0 nL pc' l' st' h') : sm_K s0 D adS p lau e R s m args below meth c Q n0 t0 nL pc l st h := by
  intro H locs ls cells slots hR hlo hL hc ht
  unfold am_istore at hs
  split at hs
  · rename_i x r
    split at hs
    · rename_i hi
      cases hs
      have hi2 : i < nL := by have := hL.2.2.1; have h3 := of_decide_eq_true hi; omega
      exact lv_istore hx hb hdg hL.has hi2 rfl (fun ls' hl' => kk H locs ls' cells slots hR hlo (sm_LR.st1 (v := .int x) hL.2.2.1 hi2 hl') hc ht)
    · cases hs
  · cases hs
theorem sk_istore_n (hx : p.tables.exec = Jvm.exec) (hb : c.code = cc) {pc : Nat} {l : am_L} {st : List Value} {h : am_H} {pc' : Nat} {l' : am_L} {st' : List Value} {h' : am_H} {i : Fin 4} (hdg : decode cc pc = .ok (.istore_n i, 1)) (hs : am_istore pc l st h i.val 1 = some (pc', l', st', h')) (kk : sm_K s0 D adS p lau e R s m args below meth c Q n0 t0 nL pc' l' st' h') : sm_K s0 D adS p lau e R s m args below meth c Q n0 t0 nL pc l st h := by
  intro H locs ls cells slots hR hlo hL hc ht
  unfold am_istore at hs
  split at hs
  · rename_i x r
    split at hs
    · rename_i hi
      cases hs
      have hi2 : i.val < nL := by have := hL.2.2.1; have h3 := of_decide_eq_true hi; omega
      exact lv_istore_n hx hb hdg rfl hL.has hi2 rfl (fun ls' hl' => kk H locs ls' cells slots hR hlo (sm_LR.st1 (v := .int x) hL.2.2.1 hi2 hl') hc ht)
    · cases hs
  · cases hs
theorem sk_lstore (hx : p.tables.exec = Jvm.exec) (hb : c.code = cc) {pc : Nat} {l : am_L} {st : List Value} {h : am_H} {pc' : Nat} {l' : am_L} {st' : List Value} {h' : am_H} {i : Nat} (hdg : decode cc pc = .ok (.lstore i, 2)) (hs : am_lstore pc l st h i 2 = some (pc', l', st', h')) (kk : sm_K s0 D adS p lau e R s m args below meth c Q n0 t0 nL pc' l' st' h') : sm_K s0 D adS p lau e R s m args below meth c Q n0 t0 nL pc l st h := by
  intro H locs ls cells slots hR hlo hL hc ht
  unfold am_lstore at hs
  split at hs
  · rename_i x r
    split at hs
    · rename_i hi
      cases hs
      have hi2 : i + 1 < nL := by have := hL.2.2.1; have h3 := of_decide_eq_true hi; omega
      exact lv_lstore hx hb hdg hL.has hi2 rfl (fun ls' hl' => kk H locs ls' cells slots hR hlo (sm_LR.st2 (v := .long x) hL.2.2.1 hi2 hl') hc ht)
    · cases hs
  · cases hs
theorem sk_lstore_n (hx : p.tables.exec = Jvm.exec) (hb : c.code = cc) {pc : Nat} {l : am_L} {st : List Value} {h : am_H} {pc' : Nat} {l' : am_L} {st' : List Value} {h' : am_H} {i : Fin 4} (hdg : decode cc pc = .ok (.lstore_n i, 1)) (hs : am_lstore pc l st h i.val 1 = some (pc', l', st', h')) (kk : sm_K s0 D adS p lau e R s m args below meth c Q n0 t0 nL pc' l' st' h') : sm_K s0 D adS p lau e R s m args below meth c Q n0 t0 nL pc l st h := by
  intro H locs ls cells slots hR hlo hL hc ht
  unfold am_lstore at hs
  split at hs
  · rename_i x r
    split at hs
    · rename_i hi
      cases hs
      have hi2 : i.val + 1 < nL := by have := hL.2.2.1; have h3 := of_decide_eq_true hi; omega
      exact lv_lstore_n hx hb hdg rfl hL.has hi2 rfl (fun ls' hl' => kk H locs ls' cells slots hR hlo (sm_LR.st2 (v := .long x) hL.2.2.1 hi2 hl') hc ht)
    · cases hs
  · cases hs
theorem sk_astore (hx : p.tables.exec = Jvm.exec) (hb : c.code = cc) {pc : Nat} {l : am_L} {st : List Value} {h : am_H} {pc' : Nat} {l' : am_L} {st' : List Value} {h' : am_H} {i : Nat} (hdg : decode cc pc = .ok (.astore i, 2)) (hs : am_astore pc l st h i 2 = some (pc', l', st', h')) (kk : sm_K s0 D adS p lau e R s m args below meth c Q n0 t0 nL pc' l' st' h') : sm_K s0 D adS p lau e R s m args below meth c Q n0 t0 nL pc l st h := by
  intro H locs ls cells slots hR hlo hL hc ht
  unfold am_astore at hs
  split at hs
  · rename_i x r
    split at hs
    · rename_i hi
      cases hs
      have hi2 : i < nL := by have := hL.2.2.1; have h3 := of_decide_eq_true hi; omega
      exact lv_astore hx hb hdg hL.has hi2 rfl (fun ls' hl' => kk H locs ls' cells slots hR hlo (sm_LR.st1 (v := .ref x) hL.2.2.1 hi2 hl') hc ht)
    · cases hs
  · cases hs
theorem sk_astore_n (hx : p.tables.exec = Jvm.exec) (hb : c.code = cc) {pc : Nat} {l : am_L} {st : List Value} {h : am_H} {pc' : Nat} {l' : am_L} {st' : List Value} {h' : am_H} {i : Fin 4} (hdg : decode cc pc = .ok (.astore_n i, 1)) (hs : am_astore pc l st h i.val 1 = some (pc', l', st', h')) (kk : sm_K s0 D adS p lau e R s m args below meth c Q n0 t0 nL pc' l' st' h') : sm_K s0 D adS p lau e R s m args below meth c Q n0 t0 nL pc l st h := by
  intro H locs ls cells slots hR hlo hL hc ht
  unfold am_astore at hs
  split at hs
  · rename_i x r
    split at hs
    · rename_i hi
      cases hs
      have hi2 : i.val < nL := by have := hL.2.2.1; have h3 := of_decide_eq_true hi; omega
      exact lv_astore_n hx hb hdg rfl hL.has hi2 rfl (fun ls' hl' => kk H locs ls' cells slots hR hlo (sm_LR.st1 (v := .ref x) hL.2.2.1 hi2 hl') hc ht)
    · cases hs
  · cases hs
theorem sk_iinc (hx : p.tables.exec = Jvm.exec) (hb : c.code = cc) {pc : Nat} {l : am_L} {st : List Value} {h : am_H} {pc' : Nat} {l' : am_L} {st' : List Value} {h' : am_H} {i : Nat} {n : Int} (hdg : decode cc pc = .ok (.iinc i n, 3)) (hs : (match am_get l i with
    | some (.int x) => match decide (i < l.length) with
      | true => some (pc + 3, am_st1 l i (.int (x + Int32.ofInt n)), st, h)
      | false => none
    | _ => none : Option am_S) = some (pc', l', st', h')) (kk : sm_K s0 D adS p lau e R s m args below meth c Q n0 t0 nL pc' l' st' h') : sm_K s0 D adS p lau e R s m args below meth c Q n0 t0 nL pc l st h := by
  intro H locs ls cells slots hR hlo hL hc ht
  split at hs
  · rename_i x hg
    split at hs
    · rename_i hi
      cases hs
      have hi2 : i < nL := by have := hL.2.2.1; have h3 := of_decide_eq_true hi; omega
      obtain ⟨k, hk⟩ := List.getElem?_of_mem (sm_al_mem (g := sm_g s0 adS) hg)
      exact lv_iinc hx hb hdg hL.has hk rfl hi2 rfl (fun ls' hl' => kk H locs ls' cells slots hR hlo (sm_LR.st1 (v := .int (x + Int32.ofInt n)) hL.2.2.1 hi2 hl') hc ht)
    · cases hs
  · cases hs
theorem sk_iadd (hx : p.tables.exec = Jvm.exec) (hb : c.code = cc) {pc : Nat} {l : am_L} {st : List Value} {h : am_H} {pc' : Nat} {l' : am_L} {st' : List Value} {h' : am_H}  (hdg : decode cc pc = .ok (.iadd, 1)) (hs : am_ii pc l st h (fun x y => x + y) = some (pc', l', st', h')) (kk : sm_K s0 D adS p lau e R s m args below meth c Q n0 t0 nL pc' l' st' h') : sm_K s0 D adS p lau e R s m args below meth c Q n0 t0 nL pc l st h := by
  intro H locs ls cells slots hR hlo hL hc ht
  unfold am_ii at hs
  split at hs
  · cases hs
    exact lv_iadd hx hb hdg (kk H locs ls cells slots hR hlo hL hc ht)
  · cases hs
theorem sk_isub (hx : p.tables.exec = Jvm.exec) (hb : c.code = cc) {pc : Nat} {l : am_L} {st : List Value} {h : am_H} {pc' : Nat} {l' : am_L} {st' : List Value} {h' : am_H}  (hdg : decode cc pc = .ok (.isub, 1)) (hs : am_ii pc l st h (fun x y => x - y) = some (pc', l', st', h')) (kk : sm_K s0 D adS p lau e R s m args below meth c Q n0 t0 nL pc' l' st' h') : sm_K s0 D adS p lau e R s m args below meth c Q n0 t0 nL pc l st h := by
  intro H locs ls cells slots hR hlo hL hc ht
  unfold am_ii at hs
  split at hs
  · cases hs
    exact lv_isub hx hb hdg (kk H locs ls cells slots hR hlo hL hc ht)
  · cases hs
theorem sk_imul (hx : p.tables.exec = Jvm.exec) (hb : c.code = cc) {pc : Nat} {l : am_L} {st : List Value} {h : am_H} {pc' : Nat} {l' : am_L} {st' : List Value} {h' : am_H}  (hdg : decode cc pc = .ok (.imul, 1)) (hs : am_ii pc l st h (fun x y => x * y) = some (pc', l', st', h')) (kk : sm_K s0 D adS p lau e R s m args below meth c Q n0 t0 nL pc' l' st' h') : sm_K s0 D adS p lau e R s m args below meth c Q n0 t0 nL pc l st h := by
  intro H locs ls cells slots hR hlo hL hc ht
  unfold am_ii at hs
  split at hs
  · cases hs
    exact lv_imul hx hb hdg (kk H locs ls cells slots hR hlo hL hc ht)
  · cases hs
theorem sk_iand (hx : p.tables.exec = Jvm.exec) (hb : c.code = cc) {pc : Nat} {l : am_L} {st : List Value} {h : am_H} {pc' : Nat} {l' : am_L} {st' : List Value} {h' : am_H}  (hdg : decode cc pc = .ok (.iand, 1)) (hs : am_ii pc l st h (fun x y => x &&& y) = some (pc', l', st', h')) (kk : sm_K s0 D adS p lau e R s m args below meth c Q n0 t0 nL pc' l' st' h') : sm_K s0 D adS p lau e R s m args below meth c Q n0 t0 nL pc l st h := by
  intro H locs ls cells slots hR hlo hL hc ht
  unfold am_ii at hs
  split at hs
  · cases hs
    exact lv_iand hx hb hdg (kk H locs ls cells slots hR hlo hL hc ht)
  · cases hs
theorem sk_ior (hx : p.tables.exec = Jvm.exec) (hb : c.code = cc) {pc : Nat} {l : am_L} {st : List Value} {h : am_H} {pc' : Nat} {l' : am_L} {st' : List Value} {h' : am_H}  (hdg : decode cc pc = .ok (.ior, 1)) (hs : am_ii pc l st h (fun x y => x ||| y) = some (pc', l', st', h')) (kk : sm_K s0 D adS p lau e R s m args below meth c Q n0 t0 nL pc' l' st' h') : sm_K s0 D adS p lau e R s m args below meth c Q n0 t0 nL pc l st h := by
  intro H locs ls cells slots hR hlo hL hc ht
  unfold am_ii at hs
  split at hs
  · cases hs
    exact lv_ior hx hb hdg (kk H locs ls cells slots hR hlo hL hc ht)
  · cases hs
theorem sk_ixor (hx : p.tables.exec = Jvm.exec) (hb : c.code = cc) {pc : Nat} {l : am_L} {st : List Value} {h : am_H} {pc' : Nat} {l' : am_L} {st' : List Value} {h' : am_H}  (hdg : decode cc pc = .ok (.ixor, 1)) (hs : am_ii pc l st h (fun x y => x ^^^ y) = some (pc', l', st', h')) (kk : sm_K s0 D adS p lau e R s m args below meth c Q n0 t0 nL pc' l' st' h') : sm_K s0 D adS p lau e R s m args below meth c Q n0 t0 nL pc l st h := by
  intro H locs ls cells slots hR hlo hL hc ht
  unfold am_ii at hs
  split at hs
  · cases hs
    exact lv_ixor hx hb hdg (kk H locs ls cells slots hR hlo hL hc ht)
  · cases hs
theorem sk_ishl (hx : p.tables.exec = Jvm.exec) (hb : c.code = cc) {pc : Nat} {l : am_L} {st : List Value} {h : am_H} {pc' : Nat} {l' : am_L} {st' : List Value} {h' : am_H}  (hdg : decode cc pc = .ok (.ishl, 1)) (hs : am_ii pc l st h (fun x y => x <<< (y &&& 31)) = some (pc', l', st', h')) (kk : sm_K s0 D adS p lau e R s m args below meth c Q n0 t0 nL pc' l' st' h') : sm_K s0 D adS p lau e R s m args below meth c Q n0 t0 nL pc l st h := by
  intro H locs ls cells slots hR hlo hL hc ht
  unfold am_ii at hs
  split at hs
  · cases hs
    exact lv_ishl hx hb hdg (kk H locs ls cells slots hR hlo hL hc ht)
  · cases hs
theorem sk_ishr (hx : p.tables.exec = Jvm.exec) (hb : c.code = cc) {pc : Nat} {l : am_L} {st : List Value} {h : am_H} {pc' : Nat} {l' : am_L} {st' : List Value} {h' : am_H}  (hdg : decode cc pc = .ok (.ishr, 1)) (hs : am_ii pc l st h (fun x y => x >>> (y &&& 31)) = some (pc', l', st', h')) (kk : sm_K s0 D adS p lau e R s m args below meth c Q n0 t0 nL pc' l' st' h') : sm_K s0 D adS p lau e R s m args below meth c Q n0 t0 nL pc l st h := by
  intro H locs ls cells slots hR hlo hL hc ht
  unfold am_ii at hs
  split at hs
  · cases hs
    exact lv_ishr hx hb hdg (kk H locs ls cells slots hR hlo hL hc ht)
  · cases hs
theorem sk_iushr (hx : p.tables.exec = Jvm.exec) (hb : c.code = cc) {pc : Nat} {l : am_L} {st : List Value} {h : am_H} {pc' : Nat} {l' : am_L} {st' : List Value} {h' : am_H}  (hdg : decode cc pc = .ok (.iushr, 1)) (hs : am_ii pc l st h (fun x y => (x.toUInt32 >>> (y.toUInt32 &&& Int32.toUInt32 31)).toInt32) = some (pc', l', st', h')) (kk : sm_K s0 D adS p lau e R s m args below meth c Q n0 t0 nL pc' l' st' h') : sm_K s0 D adS p lau e R s m args below meth c Q n0 t0 nL pc l st h := by
  intro H locs ls cells slots hR hlo hL hc ht
  unfold am_ii at hs
  split at hs
  · cases hs
    exact lv_iushr hx hb hdg rfl (kk H locs ls cells slots hR hlo hL hc ht)
  · cases hs
theorem sk_ladd (hx : p.tables.exec = Jvm.exec) (hb : c.code = cc) {pc : Nat} {l : am_L} {st : List Value} {h : am_H} {pc' : Nat} {l' : am_L} {st' : List Value} {h' : am_H}  (hdg : decode cc pc = .ok (.ladd, 1)) (hs : am_ll pc l st h (fun x y => x + y) = some (pc', l', st', h')) (kk : sm_K s0 D adS p lau e R s m args below meth c Q n0 t0 nL pc' l' st' h') : sm_K s0 D adS p lau e R s m args below meth c Q n0 t0 nL pc l st h := by
  intro H locs ls cells slots hR hlo hL hc ht
  unfold am_ll at hs
  split at hs
  · cases hs
    exact lv_ladd hx hb hdg (kk H locs ls cells slots hR hlo hL hc ht)
  · cases hs
theorem sk_lsub (hx : p.tables.exec = Jvm.exec) (hb : c.code = cc) {pc : Nat} {l : am_L} {st : List Value} {h : am_H} {pc' : Nat} {l' : am_L} {st' : List Value} {h' : am_H}  (hdg : decode cc pc = .ok (.lsub, 1)) (hs : am_ll pc l st h (fun x y => x - y) = some (pc', l', st', h')) (kk : sm_K s0 D adS p lau e R s m args below meth c Q n0 t0 nL pc' l' st' h') : sm_K s0 D adS p lau e R s m args below meth c Q n0 t0 nL pc l st h := by
  intro H locs ls cells slots hR hlo hL hc ht
  unfold am_ll at hs
  split at hs
  · cases hs
    exact lv_lsub hx hb hdg (kk H locs ls cells slots hR hlo hL hc ht)
  · cases hs
theorem sk_lmul (hx : p.tables.exec = Jvm.exec) (hb : c.code = cc) {pc : Nat} {l : am_L} {st : List Value} {h : am_H} {pc' : Nat} {l' : am_L} {st' : List Value} {h' : am_H}  (hdg : decode cc pc = .ok (.lmul, 1)) (hs : am_ll pc l st h (fun x y => x * y) = some (pc', l', st', h')) (kk : sm_K s0 D adS p lau e R s m args below meth c Q n0 t0 nL pc' l' st' h') : sm_K s0 D adS p lau e R s m args below meth c Q n0 t0 nL pc l st h := by
  intro H locs ls cells slots hR hlo hL hc ht
  unfold am_ll at hs
  split at hs
  · cases hs
    exact lv_lmul hx hb hdg (kk H locs ls cells slots hR hlo hL hc ht)
  · cases hs
theorem sk_land (hx : p.tables.exec = Jvm.exec) (hb : c.code = cc) {pc : Nat} {l : am_L} {st : List Value} {h : am_H} {pc' : Nat} {l' : am_L} {st' : List Value} {h' : am_H}  (hdg : decode cc pc = .ok (.land, 1)) (hs : am_ll pc l st h (fun x y => x &&& y) = some (pc', l', st', h')) (kk : sm_K s0 D adS p lau e R s m args below meth c Q n0 t0 nL pc' l' st' h') : sm_K s0 D adS p lau e R s m args below meth c Q n0 t0 nL pc l st h := by
  intro H locs ls cells slots hR hlo hL hc ht
  unfold am_ll at hs
  split at hs
  · cases hs
    exact lv_land hx hb hdg (kk H locs ls cells slots hR hlo hL hc ht)
  · cases hs
theorem sk_lor (hx : p.tables.exec = Jvm.exec) (hb : c.code = cc) {pc : Nat} {l : am_L} {st : List Value} {h : am_H} {pc' : Nat} {l' : am_L} {st' : List Value} {h' : am_H}  (hdg : decode cc pc = .ok (.lor, 1)) (hs : am_ll pc l st h (fun x y => x ||| y) = some (pc', l', st', h')) (kk : sm_K s0 D adS p lau e R s m args below meth c Q n0 t0 nL pc' l' st' h') : sm_K s0 D adS p lau e R s m args below meth c Q n0 t0 nL pc l st h := by
  intro H locs ls cells slots hR hlo hL hc ht
  unfold am_ll at hs
  split at hs
  · cases hs
    exact lv_lor hx hb hdg (kk H locs ls cells slots hR hlo hL hc ht)
  · cases hs
theorem sk_idiv (hx : p.tables.exec = Jvm.exec) (hb : c.code = cc) {pc : Nat} {l : am_L} {st : List Value} {h : am_H} {pc' : Nat} {l' : am_L} {st' : List Value} {h' : am_H}  (hdg : decode cc pc = .ok (.idiv, 1)) (hs : am_iid pc l st h (fun x y => x / y) = some (pc', l', st', h')) (kk : sm_K s0 D adS p lau e R s m args below meth c Q n0 t0 nL pc' l' st' h') : sm_K s0 D adS p lau e R s m args below meth c Q n0 t0 nL pc l st h := by
  intro H locs ls cells slots hR hlo hL hc ht
  unfold am_iid at hs
  split at hs
  · split at hs
    · cases hs
    · rename_i hz
      cases hs
      exact lv_idiv hx hb hdg (of_decide_eq_false hz) (kk H locs ls cells slots hR hlo hL hc ht)
  · cases hs
theorem sk_irem (hx : p.tables.exec = Jvm.exec) (hb : c.code = cc) {pc : Nat} {l : am_L} {st : List Value} {h : am_H} {pc' : Nat} {l' : am_L} {st' : List Value} {h' : am_H}  (hdg : decode cc pc = .ok (.irem, 1)) (hs : am_iid pc l st h (fun x y => x - x / y * y) = some (pc', l', st', h')) (kk : sm_K s0 D adS p lau e R s m args below meth c Q n0 t0 nL pc' l' st' h') : sm_K s0 D adS p lau e R s m args below meth c Q n0 t0 nL pc l st h := by
  intro H locs ls cells slots hR hlo hL hc ht
  unfold am_iid at hs
  split at hs
  · split at hs
    · cases hs
    · rename_i hz
      cases hs
      exact lv_irem hx hb hdg (of_decide_eq_false hz) (kk H locs ls cells slots hR hlo hL hc ht)
  · cases hs
theorem sk_ldiv (hx : p.tables.exec = Jvm.exec) (hb : c.code = cc) {pc : Nat} {l : am_L} {st : List Value} {h : am_H} {pc' : Nat} {l' : am_L} {st' : List Value} {h' : am_H}  (hdg : decode cc pc = .ok (.ldiv, 1)) (hs : am_lld pc l st h (fun x y => x / y) = some (pc', l', st', h')) (kk : sm_K s0 D adS p lau e R s m args below meth c Q n0 t0 nL pc' l' st' h') : sm_K s0 D adS p lau e R s m args below meth c Q n0 t0 nL pc l st h := by
  intro H locs ls cells slots hR hlo hL hc ht
  unfold am_lld at hs
  split at hs
  · split at hs
    · cases hs
    · rename_i hz
      cases hs
      exact lv_ldiv hx hb hdg (of_decide_eq_false hz) (kk H locs ls cells slots hR hlo hL hc ht)
  · cases hs
theorem sk_lrem (hx : p.tables.exec = Jvm.exec) (hb : c.code = cc) {pc : Nat} {l : am_L} {st : List Value} {h : am_H} {pc' : Nat} {l' : am_L} {st' : List Value} {h' : am_H}  (hdg : decode cc pc = .ok (.lrem, 1)) (hs : am_lld pc l st h (fun x y => x - x / y * y) = some (pc', l', st', h')) (kk : sm_K s0 D adS p lau e R s m args below meth c Q n0 t0 nL pc' l' st' h') : sm_K s0 D adS p lau e R s m args below meth c Q n0 t0 nL pc l st h := by
  intro H locs ls cells slots hR hlo hL hc ht
  unfold am_lld at hs
  split at hs
  · split at hs
    · cases hs
    · rename_i hz
      cases hs
      exact lv_lrem hx hb hdg (of_decide_eq_false hz) (kk H locs ls cells slots hR hlo hL hc ht)
  · cases hs
theorem sk_lushr (hx : p.tables.exec = Jvm.exec) (hb : c.code = cc) {pc : Nat} {l : am_L} {st : List Value} {h : am_H} {pc' : Nat} {l' : am_L} {st' : List Value} {h' : am_H}  (hdg : decode cc pc = .ok (.lushr, 1)) (hs : am_li pc l st h (fun x y => (x.toUInt64 >>> (y.toInt64.toUInt64 &&& Int64.toUInt64 63)).toInt64) = some (pc', l', st', h')) (kk : sm_K s0 D adS p lau e R s m args below meth c Q n0 t0 nL pc' l' st' h') : sm_K s0 D adS p lau e R s m args below meth c Q n0 t0 nL pc l st h := by
  intro H locs ls cells slots hR hlo hL hc ht
  unfold am_li at hs
  split at hs
  · cases hs
    exact lv_lushr hx hb hdg rfl (kk H locs ls cells slots hR hlo hL hc ht)
  · cases hs
theorem sk_lshr (hx : p.tables.exec = Jvm.exec) (hb : c.code = cc) {pc : Nat} {l : am_L} {st : List Value} {h : am_H} {pc' : Nat} {l' : am_L} {st' : List Value} {h' : am_H}  (hdg : decode cc pc = .ok (.lshr, 1)) (hs : am_li pc l st h (fun x y => x >>> (y.toInt64 &&& 63)) = some (pc', l', st', h')) (kk : sm_K s0 D adS p lau e R s m args below meth c Q n0 t0 nL pc' l' st' h') : sm_K s0 D adS p lau e R s m args below meth c Q n0 t0 nL pc l st h := by
  intro H locs ls cells slots hR hlo hL hc ht
  unfold am_li at hs
  split at hs
  · cases hs
    exact lv_lshr hx hb hdg rfl (kk H locs ls cells slots hR hlo hL hc ht)
  · cases hs
theorem sk_dup2 (hx : p.tables.exec = Jvm.exec) (hb : c.code = cc) {pc : Nat} {l : am_L} {st : List Value} {h : am_H} {pc' : Nat} {l' : am_L} {st' : List Value} {h' : am_H}  (hdg : decode cc pc = .ok (.dup2, 1)) (hs : (match st with
    | .int x :: .ref a :: r => some (pc + 1, l, .int x :: .ref a :: .int x :: .ref a :: r, h)
    | _ => none : Option am_S) = some (pc', l', st', h')) (kk : sm_K s0 D adS p lau e R s m args below meth c Q n0 t0 nL pc' l' st' h') : sm_K s0 D adS p lau e R s m args below meth c Q n0 t0 nL pc l st h := by
  intro H locs ls cells slots hR hlo hL hc ht
  split at hs
  · cases hs
    exact lv_dup2_11 hx hb hdg rfl rfl (kk H locs ls cells slots hR hlo hL hc ht)
  · cases hs
theorem sk_lshl (hx : p.tables.exec = Jvm.exec) (hb : c.code = cc) {pc : Nat} {l : am_L} {st : List Value} {h : am_H} {pc' : Nat} {l' : am_L} {st' : List Value} {h' : am_H}  (hdg : decode cc pc = .ok (.lshl, 1)) (hs : am_li pc l st h (fun x y => x <<< (y.toInt64 &&& 63)) = some (pc', l', st', h')) (kk : sm_K s0 D adS p lau e R s m args below meth c Q n0 t0 nL pc' l' st' h') : sm_K s0 D adS p lau e R s m args below meth c Q n0 t0 nL pc l st h := by
  intro H locs ls cells slots hR hlo hL hc ht
  unfold am_li at hs
  split at hs
  · cases hs
    exact lv_lshl hx hb hdg rfl (kk H locs ls cells slots hR hlo hL hc ht)
  · cases hs
theorem sk_lcmp (hx : p.tables.exec = Jvm.exec) (hb : c.code = cc) {pc : Nat} {l : am_L} {st : List Value} {h : am_H} {pc' : Nat} {l' : am_L} {st' : List Value} {h' : am_H}  (hdg : decode cc pc = .ok (.lcmp, 1)) (hs : (match st with
    | .long y :: .long x :: r => some (pc + 1, l, .int (lg_cmp x y) :: r, h)
    | _ => none : Option am_S) = some (pc', l', st', h')) (kk : sm_K s0 D adS p lau e R s m args below meth c Q n0 t0 nL pc' l' st' h') : sm_K s0 D adS p lau e R s m args below meth c Q n0 t0 nL pc l st h := by
  intro H locs ls cells slots hR hlo hL hc ht
  split at hs
  · cases hs
    exact W.lcmp hx hb hdg (kk H locs ls cells slots hR hlo hL hc ht)
  · cases hs
theorem sk_i2l (hx : p.tables.exec = Jvm.exec) (hb : c.code = cc) {pc : Nat} {l : am_L} {st : List Value} {h : am_H} {pc' : Nat} {l' : am_L} {st' : List Value} {h' : am_H}  (hdg : decode cc pc = .ok (.i2l, 1)) (hs : (match st with
    | .int x :: r => some (pc + 1, l, .long x.toInt64 :: r, h)
    | _ => none : Option am_S) = some (pc', l', st', h')) (kk : sm_K s0 D adS p lau e R s m args below meth c Q n0 t0 nL pc' l' st' h') : sm_K s0 D adS p lau e R s m args below meth c Q n0 t0 nL pc l st h := by
  intro H locs ls cells slots hR hlo hL hc ht
  split at hs
  · cases hs
    exact lv_i2l hx hb hdg rfl (kk H locs ls cells slots hR hlo hL hc ht)
  · cases hs
theorem sk_l2i (hx : p.tables.exec = Jvm.exec) (hb : c.code = cc) {pc : Nat} {l : am_L} {st : List Value} {h : am_H} {pc' : Nat} {l' : am_L} {st' : List Value} {h' : am_H}  (hdg : decode cc pc = .ok (.l2i, 1)) (hs : (match st with
    | .long x :: r => some (pc + 1, l, .int x.toInt32 :: r, h)
    | _ => none : Option am_S) = some (pc', l', st', h')) (kk : sm_K s0 D adS p lau e R s m args below meth c Q n0 t0 nL pc' l' st' h') : sm_K s0 D adS p lau e R s m args below meth c Q n0 t0 nL pc l st h := by
  intro H locs ls cells slots hR hlo hL hc ht
  split at hs
  · cases hs
    exact lv_l2i hx hb hdg rfl (kk H locs ls cells slots hR hlo hL hc ht)
  · cases hs
theorem sk_i2c (hx : p.tables.exec = Jvm.exec) (hb : c.code = cc) {pc : Nat} {l : am_L} {st : List Value} {h : am_H} {pc' : Nat} {l' : am_L} {st' : List Value} {h' : am_H}  (hdg : decode cc pc = .ok (.i2c, 1)) (hs : (match st with
    | .int x :: r => some (pc + 1, l, .int (x.toUInt32 % 65536).toInt32 :: r, h)
    | _ => none : Option am_S) = some (pc', l', st', h')) (kk : sm_K s0 D adS p lau e R s m args below meth c Q n0 t0 nL pc' l' st' h') : sm_K s0 D adS p lau e R s m args below meth c Q n0 t0 nL pc l st h := by
  intro H locs ls cells slots hR hlo hL hc ht
  split at hs
  · cases hs
    exact lv_i2c hx hb hdg rfl (kk H locs ls cells slots hR hlo hL hc ht)
  · cases hs
theorem sk_dup (hx : p.tables.exec = Jvm.exec) (hb : c.code = cc) {pc : Nat} {l : am_L} {st : List Value} {h : am_H} {pc' : Nat} {l' : am_L} {st' : List Value} {h' : am_H}  (hdg : decode cc pc = .ok (.dup, 1)) (hs : (match st with
    | .int x :: r => some (pc + 1, l, .int x :: .int x :: r, h)
    | .ref x :: r => some (pc + 1, l, .ref x :: .ref x :: r, h)
    | _ => none : Option am_S) = some (pc', l', st', h')) (kk : sm_K s0 D adS p lau e R s m args below meth c Q n0 t0 nL pc' l' st' h') : sm_K s0 D adS p lau e R s m args below meth c Q n0 t0 nL pc l st h := by
  intro H locs ls cells slots hR hlo hL hc ht
  split at hs
  · cases hs
    exact lv_dup hx hb hdg rfl (kk H locs ls cells slots hR hlo hL hc ht)
  · cases hs
    exact lv_dup hx hb hdg rfl (kk H locs ls cells slots hR hlo hL hc ht)
  · cases hs
theorem sk_pop (hx : p.tables.exec = Jvm.exec) (hb : c.code = cc) {pc : Nat} {l : am_L} {st : List Value} {h : am_H} {pc' : Nat} {l' : am_L} {st' : List Value} {h' : am_H}  (hdg : decode cc pc = .ok (.pop, 1)) (hs : (match st with
    | .int _ :: r => some (pc + 1, l, r, h)
    | .ref _ :: r => some (pc + 1, l, r, h)
    | _ => none : Option am_S) = some (pc', l', st', h')) (kk : sm_K s0 D adS p lau e R s m args below meth c Q n0 t0 nL pc' l' st' h') : sm_K s0 D adS p lau e R s m args below meth c Q n0 t0 nL pc l st h := by
  intro H locs ls cells slots hR hlo hL hc ht
  split at hs
  · rename_i x r
    cases hs
    exact lv_pop (va := .int x) hx hb hdg rfl (kk H locs ls cells slots hR hlo hL hc ht)
  · rename_i x r
    cases hs
    exact lv_pop (va := .ref (sm_g s0 adS x)) hx hb hdg rfl (kk H locs ls cells slots hR hlo hL hc ht)
  · cases hs
theorem sm_tg {pc : Nat} {off : Int} (h : 0 ≤ (pc : Int) + off) : (pc : Int) + off = ((am_tg pc off : Nat) : Int) := by
  unfold am_tg
  omega
theorem sm_br {P : Nat → Prop} {b : Bool} {x y : Nat} (k : P (if b = true then x else y)) : (b = true → P x) ∧ (b = false → P y) := by
  cases b
  · exact ⟨fun h => (by cases h), fun _ => k⟩
  · exact ⟨fun _ => k, fun h => (by cases h)⟩
theorem sk_ifCond (hx : p.tables.exec = Jvm.exec) (hb : c.code = cc) {pc : Nat} {l : am_L} {st : List Value} {h : am_H} {pc' : Nat} {l' : am_L} {st' : List Value} {h' : am_H} {cnd : ClassFile.Cond} {off : Int} (hof : 0 ≤ (pc : Int) + off) (hdg : decode cc pc = .ok (.ifCond cnd off, 3)) (hs : (match st with
    | .int x :: r => some (if am_cmp cnd x 0 = true then am_tg pc off else pc + 3, l, r, h)
    | _ => none : Option am_S) = some (pc', l', st', h')) (kk : sm_K s0 D adS p lau e R s m args below meth c Q n0 t0 nL pc' l' st' h') : sm_K s0 D adS p lau e R s m args below meth c Q n0 t0 nL pc l st h := by
  intro H locs ls cells slots hR hlo hL hc ht
  split at hs
  · rename_i x r
    cases hs
    have k1 := kk H locs ls cells slots hR hlo hL hc ht
    have k2 := sm_br (P := fun z => W p lau e R s m args below meth c H locs cells slots Q (F0 m z ls (st'.map (sm_v (sm_g s0 adS))))) k1
    cases cnd
    · exact lv_if_eq hx hb hdg (sm_tg hof) (fun z => k2.1 (decide_eq_true z)) (fun z => k2.2 (decide_eq_false z))
    · exact lv_if_ne hx hb hdg (sm_tg hof) (fun z => k2.1 (decide_eq_true z)) (fun z => k2.2 (decide_eq_false (fun w => w z)))
    · exact lv_if_lt hx hb hdg (sm_tg hof) (fun z => k2.1 (decide_eq_true z)) (fun z => k2.2 (decide_eq_false z))
    · exact lv_if_ge hx hb hdg (sm_tg hof) (fun z => k2.1 (decide_eq_true z)) (fun z => k2.2 (decide_eq_false z))
    · exact lv_if_gt hx hb hdg (sm_tg hof) (fun z => k2.1 (decide_eq_true z)) (fun z => k2.2 (decide_eq_false z))
    · exact lv_if_le hx hb hdg (sm_tg hof) (fun z => k2.1 (decide_eq_true z)) (fun z => k2.2 (decide_eq_false z))
  · cases hs
theorem sk_if_icmp (hx : p.tables.exec = Jvm.exec) (hb : c.code = cc) {pc : Nat} {l : am_L} {st : List Value} {h : am_H} {pc' : Nat} {l' : am_L} {st' : List Value} {h' : am_H} {cnd : ClassFile.Cond} {off : Int} (hof : 0 ≤ (pc : Int) + off) (hdg : decode cc pc = .ok (.if_icmp cnd off, 3)) (hs : (match st with
    | .int y :: .int x :: r => some (if am_cmp cnd x y = true then am_tg pc off else pc + 3, l, r, h)
    | _ => none : Option am_S) = some (pc', l', st', h')) (kk : sm_K s0 D adS p lau e R s m args below meth c Q n0 t0 nL pc' l' st' h') : sm_K s0 D adS p lau e R s m args below meth c Q n0 t0 nL pc l st h := by
  intro H locs ls cells slots hR hlo hL hc ht
  split at hs
  · rename_i y x r
    cases hs
    have k1 := kk H locs ls cells slots hR hlo hL hc ht
    have k2 := sm_br (P := fun z => W p lau e R s m args below meth c H locs cells slots Q (F0 m z ls (st'.map (sm_v (sm_g s0 adS))))) k1
    cases cnd
    · exact lv_icmp_eq hx hb hdg (sm_tg hof) (fun z => k2.1 (decide_eq_true z)) (fun z => k2.2 (decide_eq_false z))
    · exact lv_icmp_ne hx hb hdg (sm_tg hof) (fun z => k2.1 (decide_eq_true z)) (fun z => k2.2 (decide_eq_false (fun w => w z)))
    · exact lv_icmp_lt hx hb hdg (sm_tg hof) (fun z => k2.1 (decide_eq_true z)) (fun z => k2.2 (decide_eq_false z))
    · exact lv_icmp_ge hx hb hdg (sm_tg hof) (fun z => k2.1 (decide_eq_true z)) (fun z => k2.2 (decide_eq_false z))
    · exact lv_icmp_gt hx hb hdg (sm_tg hof) (fun z => k2.1 (decide_eq_true z)) (fun z => k2.2 (decide_eq_false z))
    · exact lv_icmp_le hx hb hdg (sm_tg hof) (fun z => k2.1 (decide_eq_true z)) (fun z => k2.2 (decide_eq_false z))
  · cases hs
theorem sk_goto (hx : p.tables.exec = Jvm.exec) (hb : c.code = cc) {pc : Nat} {l : am_L} {st : List Value} {h : am_H} {pc' : Nat} {l' : am_L} {st' : List Value} {h' : am_H} {off : Int} (hof : 0 ≤ (pc : Int) + off) (hdg : decode cc pc = .ok (.goto off, 3)) (hs : (some (am_tg pc off, l, st, h) : Option am_S) = some (pc', l', st', h')) (kk : sm_K s0 D adS p lau e R s m args below meth c Q n0 t0 nL pc' l' st' h') : sm_K s0 D adS p lau e R s m args below meth c Q n0 t0 nL pc l st h := by
  intro H locs ls cells slots hR hlo hL hc ht
  cases hs
  exact lv_goto hx hb hdg (sm_tg hof) (kk H locs ls cells slots hR hlo hL hc ht)
theorem sk_tableswitch (hx : p.tables.exec = Jvm.exec) (hb : c.code = cc) {pc : Nat} {l : am_L} {st : List Value} {h : am_H} {pc' : Nat} {l' : am_L} {st' : List Value} {h' : am_H} {df lo hi : Int} {offs : Array Int} {len : Nat} (hof : 0 ≤ (pc : Int) + df) (hz : (offs.size : Int) = hi - lo + 1) (ho : ∀ o ∈ offs.toList, 0 ≤ (pc : Int) + o) (hdg : decode cc pc = .ok (.tableswitch df lo hi offs, len)) (hs : (match st with
    | .int x :: r => some (if x.toInt < lo ∨ hi < x.toInt then am_tg pc df else am_tg pc (offs.getD (x.toInt - lo).toNat 0), l, r, h)
    | _ => none : Option am_S) = some (pc', l', st', h')) (kk : sm_K s0 D adS p lau e R s m args below meth c Q n0 t0 nL pc' l' st' h') : sm_K s0 D adS p lau e R s m args below meth c Q n0 t0 nL pc l st h := by
  intro H locs ls cells slots hR hlo hL hc ht
  split at hs
  · rename_i x r
    cases hs
    have k1 := kk H locs ls cells slots hR hlo hL hc ht
    by_cases hx1 : x.toInt < lo ∨ hi < x.toInt
    · rw [if_pos hx1] at k1
      exact lv_tableOut hx hb hdg hx1 (sm_tg hof) k1
    · rw [if_neg hx1] at k1
      have h1 : ¬ x.toInt < lo := fun q => hx1 (Or.inl q)
      have h2 : ¬ hi < x.toInt := fun q => hx1 (Or.inr q)
      have h3 : (x.toInt - lo).toNat < offs.size := by omega
      have h4 : offs[(x.toInt - lo).toNat]? = some (offs[(x.toInt - lo).toNat]) := Array.getElem?_eq_getElem h3
      have h5 : offs.getD (x.toInt - lo).toNat 0 = offs[(x.toInt - lo).toNat] := by
        rw [Array.getD_eq_getD_getElem?, h4]; rfl
      rw [h5] at k1
      exact lv_tableIn hx hb hdg h1 h2 h4 (sm_tg (ho _ (by simp))) k1
  · cases hs
theorem sm_lk {pc : Nat} {df k : Int} : ∀ (ps : List (Int × Int)), 0 ≤ (pc : Int) + df → (∀ o ∈ ps, 0 ≤ (pc : Int) + o.2) → 0 ≤ (pc : Int) + Op.lookupswitch.offset ps df k
  | [], h, _ => h
  | (a, o) :: r, h, g => by
    rw [Op.lookupswitch.offset_cons]
    split
    · exact g (a, o) List.mem_cons_self
    · exact sm_lk r h (fun o ho => g o (List.mem_cons_of_mem _ ho))
theorem sk_lookupswitch (hx : p.tables.exec = Jvm.exec) (hb : c.code = cc) {pc : Nat} {l : am_L} {st : List Value} {h : am_H} {pc' : Nat} {l' : am_L} {st' : List Value} {h' : am_H} {df : Int} {ps : Array (Int × Int)} {len : Nat} (hof : 0 ≤ (pc : Int) + df) (ho : ∀ o ∈ ps.toList, 0 ≤ (pc : Int) + o.2) (hp : (ps.toList.zip (ps.toList.drop 1)).all (fun (a, next) => a.1 < next.1) = true) (hdg : decode cc pc = .ok (.lookupswitch df ps, len)) (hs : (match st with
    | .int x :: r => some (am_tg pc (Op.lookupswitch.offset ps.toList df x.toInt), l, r, h)
    | _ => none : Option am_S) = some (pc', l', st', h')) (kk : sm_K s0 D adS p lau e R s m args below meth c Q n0 t0 nL pc' l' st' h') : sm_K s0 D adS p lau e R s m args below meth c Q n0 t0 nL pc l st h := by
  intro H locs ls cells slots hR hlo hL hc ht
  split at hs
  · cases hs
    exact lv_lookup hx hb hdg hp rfl (sm_tg (sm_lk _ hof ho)) (kk H locs ls cells slots hR hlo hL hc ht)
  · cases hs
theorem sm_in {j : Int32} {n : Nat} (h : decide (0 ≤ j.toInt ∧ j.toInt < n) = true) : ¬ (j < 0 ∨ n ≤ j.toNatClampNeg) := by
  have h1 := of_decide_eq_true h
  have e : j.toNatClampNeg = j.toInt.toNat := rfl
  rintro (q | q)
  · have := Int32.lt_iff_toInt_lt.mp q
    simp at this
    omega
  · omega
theorem sm_arr {h : am_H} {H : Heap} {a tag n : Nat} {ty : FieldType} (hR : sm_HR s0 D adS h H) (ha : h.1[a]? = some (tag, n)) (h1 : 100 ≤ tag) (h2 : tag < 900) (hty : am_aty tag = some ty) : H[sm_g s0 adS a]? = some (arrV (sm_cA s0 ty) n (fun j => sm_v (sm_g s0 adS) (am_rd ty h a j))) ∧ ArrOfT s0 (sm_cA s0 ty) ty ∧ va_RA s0 (sm_cA s0 ty) ty ∧ (∀ j, fits ty (am_rd ty h a j) = true) ∧ n < 2 ^ 31 := (hR.2.2.2.2 a tag n ha).2.1 ty h1 h2 hty
theorem sk_iaload (hx : p.tables.exec = Jvm.exec) (hb : c.code = cc) {pc : Nat} {l : am_L} {h : am_H} (hal : s0.vm.Alike s.vm) {a n : Nat} {j : Int32} {r : List Value} (ha : h.1[a]? = some (100, n)) (hj : decide (0 ≤ j.toInt ∧ j.toInt < n) = true) (hdg : decode cc pc = .ok (.iaload, 1)) (kk : sm_K s0 D adS p lau e R s m args below meth c Q n0 t0 nL (pc + 1) l (am_rd .int h a j.toNatClampNeg :: r) h) : sm_K s0 D adS p lau e R s m args below meth c Q n0 t0 nL pc l (.int j :: .ref a :: r) h := by
  intro H locs ls cells slots hR hlo hL hc ht
  obtain ⟨h1, h2, -, -, -⟩ := sm_arr hR ha (by decide) (by decide) (rfl : am_aty 100 = some .int)
  have hin := sm_in hj
  have hlt : j.toNatClampNeg < n := Nat.not_le.mp fun q => hin (Or.inr q)
  exact W.iald (v := sm_v (sm_g s0 adS) (am_rd .int h a j.toNatClampNeg)) hx hb h1 (arrOfT_moved hal h2 n _) (fun q => by cases q) (by rw [arrV_size]; exact hin) (by rw [arrV_read _ _ hlt]) rfl rfl hdg (kk H locs ls cells slots hR hlo hL hc ht)
theorem sk_laload (hx : p.tables.exec = Jvm.exec) (hb : c.code = cc) {pc : Nat} {l : am_L} {h : am_H} (hal : s0.vm.Alike s.vm) {a n : Nat} {j : Int32} {r : List Value} (ha : h.1[a]? = some (101, n)) (hj : decide (0 ≤ j.toInt ∧ j.toInt < n) = true) (hdg : decode cc pc = .ok (.laload, 1)) (kk : sm_K s0 D adS p lau e R s m args below meth c Q n0 t0 nL (pc + 1) l (am_rd .long h a j.toNatClampNeg :: r) h) : sm_K s0 D adS p lau e R s m args below meth c Q n0 t0 nL pc l (.int j :: .ref a :: r) h := by
  intro H locs ls cells slots hR hlo hL hc ht
  obtain ⟨h1, h2, -, -, -⟩ := sm_arr hR ha (by decide) (by decide) (rfl : am_aty 101 = some .long)
  have hin := sm_in hj
  have hlt : j.toNatClampNeg < n := Nat.not_le.mp fun q => hin (Or.inr q)
  exact W.lald (v := sm_v (sm_g s0 adS) (am_rd .long h a j.toNatClampNeg)) hx hb h1 (arrOfT_moved hal h2 n _) (fun q => by cases q) (by rw [arrV_size]; exact hin) (by rw [arrV_read _ _ hlt]) rfl rfl hdg (kk H locs ls cells slots hR hlo hL hc ht)
theorem sk_caload (hx : p.tables.exec = Jvm.exec) (hb : c.code = cc) {pc : Nat} {l : am_L} {h : am_H} (hal : s0.vm.Alike s.vm) {a n : Nat} {j : Int32} {r : List Value} (ha : h.1[a]? = some (102, n)) (hj : decide (0 ≤ j.toInt ∧ j.toInt < n) = true) (hdg : decode cc pc = .ok (.caload, 1)) (kk : sm_K s0 D adS p lau e R s m args below meth c Q n0 t0 nL (pc + 1) l (am_rd .char h a j.toNatClampNeg :: r) h) : sm_K s0 D adS p lau e R s m args below meth c Q n0 t0 nL pc l (.int j :: .ref a :: r) h := by
  intro H locs ls cells slots hR hlo hL hc ht
  obtain ⟨h1, h2, -, -, -⟩ := sm_arr hR ha (by decide) (by decide) (rfl : am_aty 102 = some .char)
  have hin := sm_in hj
  have hlt : j.toNatClampNeg < n := Nat.not_le.mp fun q => hin (Or.inr q)
  exact W.cald (v := sm_v (sm_g s0 adS) (am_rd .char h a j.toNatClampNeg)) hx hb h1 (arrOfT_moved hal h2 n _) (fun q => by cases q) (by rw [arrV_size]; exact hin) (by rw [arrV_read _ _ hlt]) rfl rfl hdg (kk H locs ls cells slots hR hlo hL hc ht)
theorem sk_baload (hx : p.tables.exec = Jvm.exec) (hb : c.code = cc) {pc : Nat} {l : am_L} {h : am_H} (hal : s0.vm.Alike s.vm) {a n : Nat} {j : Int32} {r : List Value} (ha : h.1[a]? = some (103, n)) (hj : decide (0 ≤ j.toInt ∧ j.toInt < n) = true) (hdg : decode cc pc = .ok (.baload, 1)) (kk : sm_K s0 D adS p lau e R s m args below meth c Q n0 t0 nL (pc + 1) l (am_rd .boolean h a j.toNatClampNeg :: r) h) : sm_K s0 D adS p lau e R s m args below meth c Q n0 t0 nL pc l (.int j :: .ref a :: r) h := by
  intro H locs ls cells slots hR hlo hL hc ht
  obtain ⟨h1, h2, -, -, -⟩ := sm_arr hR ha (by decide) (by decide) (rfl : am_aty 103 = some .boolean)
  have hin := sm_in hj
  have hlt : j.toNatClampNeg < n := Nat.not_le.mp fun q => hin (Or.inr q)
  exact W.zald (v := sm_v (sm_g s0 adS) (am_rd .boolean h a j.toNatClampNeg)) hx hb h1 (arrOfT_moved hal h2 n _) (fun q => by cases q) (by rw [arrV_size]; exact hin) (by rw [arrV_read _ _ hlt]) rfl rfl hdg (kk H locs ls cells slots hR hlo hL hc ht)
theorem sk_script (hx : p.tables.exec = Jvm.exec) (hb : c.code = cc) {pc : Nat} {l : am_L} {h : am_H} (hal : s0.vm.Alike s.vm) {a n : Nat} {j : Int32} {r : List Value} (ha : h.1[a]? = some (900, n)) (hj : decide (0 ≤ j.toInt ∧ j.toInt < n) = true) (hdg : decode cc pc = .ok (.iaload, 1)) (kk : sm_K s0 D adS p lau e R s m args below meth c Q n0 t0 nL (pc + 1) l (.int (h.2.1 a j.toNatClampNeg) :: r) h) : sm_K s0 D adS p lau e R s m args below meth c Q n0 t0 nL pc l (.int j :: .ref a :: r) h := by
  intro H locs ls cells slots hR hlo hL hc ht
  obtain ⟨scr, h1, h2, h3, h4, h5⟩ := (hR.2.2.2.2 a 900 n ha).2.2.1 rfl
  have h1 := (hR.2.2.1 _ (Array.getElem?_eq_some_iff.mp h1).1).trans h1
  have hin := sm_in hj
  have hlt : j.toNatClampNeg < n := Nat.not_le.mp fun q => hin (Or.inr q)
  exact W.iald (v := .int (h.2.1 a j.toNatClampNeg)) hx hb h1 (State.isArrayOf_alike hal h2) h3 (by rw [h4]; exact hin) (h5 _ hlt) rfl rfl hdg (kk H locs ls cells slots hR hlo hL hc ht)
theorem sk_strb (hx : p.tables.exec = Jvm.exec) (hb : c.code = cc) {pc : Nat} {l : am_L} {h : am_H} (hal : s0.vm.Alike s.vm) {a n : Nat} {j : Int32} {r : List Value} (ha : h.1[a]? = some (902, n)) (hj : decide (0 ≤ j.toInt ∧ j.toInt < n) = true) (hdg : decode cc pc = .ok (.baload, 1)) (kk : sm_K s0 D adS p lau e R s m args below meth c Q n0 t0 nL (pc + 1) l (.int (h.2.1 a j.toNatClampNeg) :: r) h) : sm_K s0 D adS p lau e R s m args below meth c Q n0 t0 nL pc l (.int j :: .ref a :: r) h := by
  intro H locs ls cells slots hR hlo hL hc ht
  obtain ⟨cell, h1, h2, h3, h4, -, h5, -⟩ := (hR.2.2.2.2 a 902 n ha).2.2.2.2 rfl
  have h1 := (hR.2.2.1 _ (Array.getElem?_eq_some_iff.mp h1).1).trans h1
  have hin := sm_in hj
  have hlt : j.toNatClampNeg < n := Nat.not_le.mp fun q => hin (Or.inr q)
  exact W.bald (v := .int (h.2.1 a j.toNatClampNeg)) hx hb h1 (State.isArrayOf_alike hal h2) h3 (fun q => hin (q.imp id (fun z => Nat.le_trans h4 z))) (h5 _ hlt) rfl rfl hdg (kk H locs ls cells slots hR hlo hL hc ht)
theorem sk_aaload (hx : p.tables.exec = Jvm.exec) (hb : c.code = cc) {pc : Nat} {l : am_L} {h : am_H} (hal : s0.vm.Alike s.vm) {a n tag : Nat} {C : String} {j : Int32} {r : List Value} (ha : h.1[a]? = some (tag, n)) (h401 : 401 ≤ tag) (h900 : tag < 900) (hty : am_aty tag = some (.object C)) (hj : decide (0 ≤ j.toInt ∧ j.toInt < n) = true) (hdg : decode cc pc = .ok (.aaload, 1)) (kk : sm_K s0 D adS p lau e R s m args below meth c Q n0 t0 nL (pc + 1) l (am_rd (.object C) h a j.toNatClampNeg :: r) h) : sm_K s0 D adS p lau e R s m args below meth c Q n0 t0 nL pc l (.int j :: .ref a :: r) h := by
  intro H locs ls cells slots hR hlo hL hc ht
  obtain ⟨h1, h2, -, -, -⟩ := sm_arr hR ha (by omega) h900 hty
  have hin := sm_in hj
  have hlt : j.toNatClampNeg < n := Nat.not_le.mp fun q => hin (Or.inr q)
  exact W.aald (v := sm_v (sm_g s0 adS) (am_rd (.object C) h a j.toNatClampNeg)) (ty := .object C) hx hb h1 (arrOfT_moved hal h2 n _) rfl (fun q => by cases q) (by rw [arrV_size]; exact hin) (by rw [arrV_read _ _ hlt]) rfl rfl hdg (kk H locs ls cells slots hR hlo hL hc ht)
theorem sm_loc {locs : List Loc} {a k : Nat} (h : ∀ q ∈ locs, s0.heap.size ≤ q.base) (ha : s0.heap.size ≤ a) : ∀ q ∈ locs ++ [(⟨a, k⟩ : Loc)], s0.heap.size ≤ q.base := by
  intro q hq
  rcases List.mem_append.mp hq with z | z
  · exact h q z
  · rw [List.mem_singleton.mp z]; exact ha
theorem sm_ge {a : Nat} (h : 16 ≤ a) : s0.heap.size ≤ sm_g s0 adS a := by rw [sm_g_hi h]; omega
/-- an array's cell gets a new content -/
theorem sm_HR.arr {h h' : am_H} {H H' : Heap} (hR : sm_HR s0 D adS h H) {a tag n k : Nat} {ty : FieldType} {x : Value} (ha : h.1[a]? = some (tag, n)) (h1 : 100 ≤ tag) (h2 : tag < 900) (hty : am_aty tag = some ty) (hsh : h'.1 = h.1)
    (e1 : ∀ i k, i ≠ a → h'.2.1 i k = h.2.1 i k) (e2 : ∀ i k, i ≠ a → h'.2.2.1 i k = h.2.2.1 i k) (e3 : ∀ i k, i ≠ a → h'.2.2.2 i k = h.2.2.2 i k) (hnew : ∀ j, am_rd ty h' a j = updV (fun j => am_rd ty h a j) k x j) (hfit : fits ty x = true)
    (hz : H'.size = H.size) (hoq : ∀ q : Nat, q ≠ sm_g s0 adS a → H'[q]? = H[q]?) (hc : H'[sm_g s0 adS a]? = some ((arrV (sm_cA s0 ty) n (fun j => sm_v (sm_g s0 adS) (am_rd ty h a j))).setSlot k (sm_v (sm_g s0 adS) x))) : sm_HR s0 D adS h' H' := by
  have ha16 := hR.big ha h2
  obtain ⟨q1, q2, q3, q4, q5⟩ := sm_arr hR ha h1 h2 hty
  refine hR.put ha16 hsh hz hoq e1 e2 e3 (fun tag' len' he => ?_)
  rw [ha] at he
  cases he
  refine ⟨fun z => by omega, fun ty' z1 z2 z3 => ?_, fun z => by omega, fun z => by omega, fun z => by omega⟩
  rw [hty] at z3
  cases z3
  refine ⟨?_, q2, q3, fun j => ?_, q5⟩
  · rw [hc, arrV_store]
    congr 2
    funext j
    rw [hnew j]
    unfold updV
    split <;> rfl
  · rw [hnew j]
    unfold updV
    split
    · exact hfit
    · exact q4 j
theorem sk_iastore (hx : p.tables.exec = Jvm.exec) (hb : c.code = cc) {pc : Nat} {l : am_L} {h : am_H} (hal : s0.vm.Alike s.vm) {a n : Nat} {j x : Int32} {r : List Value} (ha : h.1[a]? = some (100, n)) (hj : decide (0 ≤ j.toInt ∧ j.toInt < n) = true) (hdg : decode cc pc = .ok (.iastore, 1)) (kk : sm_K s0 D adS p lau e R s m args below meth c Q n0 t0 nL (pc + 1) l r (h.1, up2 h.2.1 a j.toNatClampNeg (am_nar .int x), h.2.2.1, h.2.2.2)) : sm_K s0 D adS p lau e R s m args below meth c Q n0 t0 nL pc l (.int x :: .int j :: .ref a :: r) h := by
  intro H locs ls cells slots hR hlo hL hc ht
  obtain ⟨h1, h2, -, -, -⟩ := sm_arr hR ha (by decide) (by decide) (rfl : am_aty 100 = some .int)
  have hin := sm_in hj
  have ha16 := hR.big ha (by decide)
  refine W.iast hx hb h1 (arrOfT_moved hal h2 n _) (fun q => by cases q) (by rw [arrV_size]; exact hin) rfl rfl hdg (fun H' e1 e2 e3 => ?_)
  refine kk H' _ ls cells slots (hR.arr (x := .int (am_nar .int x)) (k := j.toNatClampNeg) ha (by decide) (by decide) (rfl : am_aty 100 = some .int) rfl (fun i k hi => up2_row _ _ hi) (fun _ _ _ => rfl) (fun _ _ _ => rfl) (fun z => ?_) (rfl) e2 e3 e1) (sm_loc hlo (sm_ge ha16)) hL hc ht
  by_cases hz : z = j.toNatClampNeg
  · subst hz; simp [am_rd, updV, up2]
  · simp [am_rd, updV, up2, hz]
theorem sm_fitC (x : Int32) : fits .char (.int x.toUInt32.toUInt16.toUInt32.toInt32) = true := by
  have := pk_fc x
  have e : x.toUInt32.toUInt16.toUInt32.toInt32 = (x.toUInt32 % 65536).toInt32 := by
    congr 1
  rw [e]; exact this
theorem sk_castore (hx : p.tables.exec = Jvm.exec) (hb : c.code = cc) {pc : Nat} {l : am_L} {h : am_H} (hal : s0.vm.Alike s.vm) {a n : Nat} {j x : Int32} {r : List Value} (ha : h.1[a]? = some (102, n)) (hj : decide (0 ≤ j.toInt ∧ j.toInt < n) = true) (hdg : decode cc pc = .ok (.castore, 1)) (kk : sm_K s0 D adS p lau e R s m args below meth c Q n0 t0 nL (pc + 1) l r (h.1, up2 h.2.1 a j.toNatClampNeg (am_nar .char x), h.2.2.1, h.2.2.2)) : sm_K s0 D adS p lau e R s m args below meth c Q n0 t0 nL pc l (.int x :: .int j :: .ref a :: r) h := by
  intro H locs ls cells slots hR hlo hL hc ht
  obtain ⟨h1, h2, -, -, -⟩ := sm_arr hR ha (by decide) (by decide) (rfl : am_aty 102 = some .char)
  have hin := sm_in hj
  have ha16 := hR.big ha (by decide)
  refine W.cast hx hb h1 (arrOfT_moved hal h2 n _) (fun q => by cases q) (by rw [arrV_size]; exact hin) rfl rfl hdg (fun H' e1 e2 e3 => ?_)
  refine kk H' _ ls cells slots (hR.arr (x := .int (am_nar .char x)) (k := j.toNatClampNeg) ha (by decide) (by decide) (rfl : am_aty 102 = some .char) rfl (fun i k hi => up2_row _ _ hi) (fun _ _ _ => rfl) (fun _ _ _ => rfl) (fun z => ?_) (sm_fitC x) e2 e3 e1) (sm_loc hlo (sm_ge ha16)) hL hc ht
  by_cases hz : z = j.toNatClampNeg
  · subst hz; simp [am_rd, updV, up2]
  · simp [am_rd, updV, up2, hz]
theorem sm_fitZ (x : Int32) : fits .boolean (.int (x &&& 1)) = true := by
  obtain ⟨j, hj, e⟩ := pk_andE x (m := 1) 1 (by decide)
  rw [e]
  have : j = 0 ∨ j = 1 := by omega
  rcases this with rfl | rfl <;> decide
theorem sk_bastore (hx : p.tables.exec = Jvm.exec) (hb : c.code = cc) {pc : Nat} {l : am_L} {h : am_H} (hal : s0.vm.Alike s.vm) {a n : Nat} {j x : Int32} {r : List Value} (ha : h.1[a]? = some (103, n)) (hj : decide (0 ≤ j.toInt ∧ j.toInt < n) = true) (hdg : decode cc pc = .ok (.bastore, 1)) (kk : sm_K s0 D adS p lau e R s m args below meth c Q n0 t0 nL (pc + 1) l r (h.1, up2 h.2.1 a j.toNatClampNeg (am_nar .boolean x), h.2.2.1, h.2.2.2)) : sm_K s0 D adS p lau e R s m args below meth c Q n0 t0 nL pc l (.int x :: .int j :: .ref a :: r) h := by
  intro H locs ls cells slots hR hlo hL hc ht
  obtain ⟨h1, h2, -, -, -⟩ := sm_arr hR ha (by decide) (by decide) (rfl : am_aty 103 = some .boolean)
  have hin := sm_in hj
  have ha16 := hR.big ha (by decide)
  refine W.zast hx hb h1 (arrOfT_moved hal h2 n _) (fun q => by cases q) (by rw [arrV_size]; exact hin) rfl rfl hdg (fun H' e1 e2 e3 => ?_)
  refine kk H' _ ls cells slots (hR.arr (x := .int (am_nar .boolean x)) (k := j.toNatClampNeg) ha (by decide) (by decide) (rfl : am_aty 103 = some .boolean) rfl (fun i k hi => up2_row _ _ hi) (fun _ _ _ => rfl) (fun _ _ _ => rfl) (fun z => ?_) (sm_fitZ x) e2 e3 e1) (sm_loc hlo (sm_ge ha16)) hL hc ht
  by_cases hz : z = j.toNatClampNeg
  · subst hz; simp [am_rd, updV, up2]
  · simp [am_rd, updV, up2, hz]
theorem sk_lastore (hx : p.tables.exec = Jvm.exec) (hb : c.code = cc) {pc : Nat} {l : am_L} {h : am_H} (hal : s0.vm.Alike s.vm) {a n : Nat} {j : Int32} {x : Int64} {r : List Value} (ha : h.1[a]? = some (101, n)) (hj : decide (0 ≤ j.toInt ∧ j.toInt < n) = true) (hdg : decode cc pc = .ok (.lastore, 1)) (kk : sm_K s0 D adS p lau e R s m args below meth c Q n0 t0 nL (pc + 1) l r (h.1, h.2.1, up2 h.2.2.1 a j.toNatClampNeg x, h.2.2.2)) : sm_K s0 D adS p lau e R s m args below meth c Q n0 t0 nL pc l (.long x :: .int j :: .ref a :: r) h := by
  intro H locs ls cells slots hR hlo hL hc ht
  obtain ⟨h1, h2, -, -, -⟩ := sm_arr hR ha (by decide) (by decide) (rfl : am_aty 101 = some .long)
  have hin := sm_in hj
  have ha16 := hR.big ha (by decide)
  refine W.last hx hb h1 (arrOfT_moved hal h2 n _) (fun q => by cases q) (by rw [arrV_size]; exact hin) rfl rfl hdg (fun H' e1 e2 e3 => ?_)
  refine kk H' _ ls cells slots (hR.arr (x := .long x) (k := j.toNatClampNeg) ha (by decide) (by decide) (rfl : am_aty 101 = some .long) rfl (fun _ _ _ => rfl) (fun i k hi => up2_row _ _ hi) (fun _ _ _ => rfl) (fun z => ?_) rfl e2 e3 e1) (sm_loc hlo (sm_ge ha16)) hL hc ht
  by_cases hz : z = j.toNatClampNeg
  · subst hz; simp [am_rd, updV, up2]
  · simp [am_rd, updV, up2, hz]
end Sim
