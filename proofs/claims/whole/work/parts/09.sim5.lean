/-! the heap's list of cells only grows -/
def am_ge (h' h : am_H) : Prop := h.1.length ≤ h'.1.length ∧ am_tot h.1 ≤ am_tot h'.1
theorem am_ge_rf (h : am_H) : am_ge h h := ⟨Nat.le_refl _, Nat.le_refl _⟩
theorem am_ge_eq {h h' : am_H} (e : h'.1 = h.1) : am_ge h' h := by unfold am_ge; rw [e]; exact ⟨Nat.le_refl _, Nat.le_refl _⟩
theorem am_ge_born (h : am_H) (tag n : Nat) : am_ge (am_born h tag n) h := ⟨by simp [am_born], by rw [am_tot_born]; omega⟩
theorem am_ge.trans {a b c : am_H} (h1 : am_ge a b) (h2 : am_ge b c) : am_ge a c := ⟨Nat.le_trans h2.1 h1.1, Nat.le_trans h2.2 h1.2⟩
set_option maxHeartbeats 4000000 in
theorem am_step_ge {d : Nat} {i : Instr} {r1 r2 pc : Nat} {l : am_L} {st : List Value} {h : am_H} {pc' : Nat} {l' : am_L} {st' : List Value} {h' : am_H} (hs : am_step d i r1 r2 pc l st h = some (pc', l', st', h')) : am_ge h' h := by
  cases i with
  | putfield idx =>
    unfold am_step am_putf at hs
    (try dsimp only at hs)
    repeat' split at hs
    all_goals first | (cases hs; done) | skip
    rename_i hw
    cases hs
    exact am_ge_eq (am_wr_ok id hw).1
  | new idx => unfold am_step am_new at hs; cases hs; exact am_ge_born _ _ _
  | newarray t =>
    unfold am_step am_newa at hs
    (try dsimp only at hs)
    repeat' split at hs
    all_goals first | (cases hs; done) | skip
    cases hs; exact am_ge_born _ _ _
  | anewarray t =>
    unfold am_step am_newa at hs
    (try dsimp only at hs)
    repeat' split at hs
    all_goals first | (cases hs; done) | skip
    cases hs; exact am_ge_born _ _ _
  | invokevirtual idx =>
    unfold am_step am_spec am_sp0 am_sp1 am_sp2 at hs
    (try dsimp only at hs)
    repeat' split at hs
    all_goals first | (cases hs; done) | (cases hs; exact am_ge_eq rfl)
  | invokespecial idx =>
    unfold am_step am_spec am_sp0 am_sp1 am_sp2 at hs
    (try dsimp only at hs)
    repeat' split at hs
    all_goals first | (cases hs; done) | (cases hs; exact am_ge_eq rfl)
  | invokestatic idx =>
    unfold am_step am_spec am_sp0 am_sp1 am_sp2 at hs
    (try dsimp only at hs)
    repeat' split at hs
    all_goals first | (cases hs; done) | (cases hs; exact am_ge_eq rfl)
  | _ =>
    first
      | (cases hs; done)
      | (unfold am_step at hs; cases hs; exact am_ge_rf _)
      | (simp only [am_step, am_ii, am_ll, am_iid, am_lld, am_li, am_iload, am_lload, am_aload, am_istore, am_lstore, am_astore, am_ald, am_iast, am_last, am_aast, am_getf, am_alen] at hs
         repeat' split at hs
         all_goals first | (cases hs; done) | (cases hs; exact am_ge_eq rfl))
theorem am_ret_same {mid : Nat} {i : Instr} {st : List Value} {h h' : am_H} {v : Option Value} (hs : am_ret mid i st h = some (v, h')) : h' = h := by
  unfold am_ret at hs
  repeat' split at hs
  all_goals first | (cases hs; done) | (cases hs; rfl)
theorem am_run_ge : ∀ (n d mid pc : Nat) (l : am_L) (st : List Value) (h : am_H) (v : Option Value) (h' : am_H), am_run n d mid pc l st h = some (v, h') → am_ge h' h := by
  intro n
  induction n with
  | zero => intro d mid pc l st h v h' hr; simp [am_run] at hr
  | succ n ih =>
    intro d mid pc l st h v h' hr
    rw [am_run] at hr
    cases hf : am_find (am_code mid) pc with
    | none => rw [hf] at hr; cases hr
    | some q =>
      obtain ⟨i, r1, r2⟩ := q
      rw [hf] at hr
      (try dsimp only at hr)
      cases hk : am_kind i r1 with
      | zero =>
        rw [hk] at hr
        (try dsimp only at hr)
        cases hs : am_step d i r1 r2 pc l st h with
        | none => rw [hs] at hr; cases hr
        | some s' =>
          obtain ⟨pc1, l1, st1, h1⟩ := s'
          rw [hs] at hr
          exact (ih _ _ _ _ _ _ _ _ hr).trans (am_step_ge hs)
      | succ k =>
        rw [hk] at hr
        cases k with
        | zero => rw [am_ret_same hr]; exact am_ge_rf _
        | succ k =>
          (try dsimp only at hr)
          cases hc : am_call d i r1 st h with
          | none => rw [hc] at hr; cases hr
          | some q =>
            obtain ⟨d', l0, rest⟩ := q
            rw [hc] at hr
            (try dsimp only at hr)
            cases hq : am_run n d' r1 0 l0 [] h with
            | none => rw [hq] at hr; cases hr
            | some q2 =>
              obtain ⟨v1, h1⟩ := q2
              rw [hq] at hr
              exact (ih _ _ _ _ _ _ _ _ hr).trans (ih _ _ _ _ _ _ _ _ hq)
/-! a method's first locals -/
theorem am_args_mem {g : Nat → Nat} : ∀ (vs : List Value) (i k : Nat) (v : Value), am_get (am_args vs) k = some v → (i + k, sm_v g v) ∈ lv_args i (vs.map (sm_v g)) := by
  intro vs
  induction vs with
  | nil => intro i k v h; simp [am_args, am_get] at h
  | cons w vs ih =>
    have one : ∀ (i k : Nat) (v : Value), w.category = 1 → am_get (some w :: am_args vs) k = some v → (i + k, sm_v g v) ∈ lv_args i ((w :: vs).map (sm_v g)) := by
      intro i k v hc h
      rw [List.map_cons, lv_args, sm_v_cat, if_neg (by omega)]
      cases k with
      | zero =>
        simp [am_get] at h
        subst h
        exact List.mem_cons_self
      | succ k =>
        have := ih (i + 1) k v (by simpa [am_get] using h)
        rw [show i + 1 + k = i + (k + 1) by omega] at this
        exact List.mem_cons_of_mem _ this
    have two : ∀ (i k : Nat) (v : Value), w.category = 2 → am_get (some w :: none :: am_args vs) k = some v → (i + k, sm_v g v) ∈ lv_args i ((w :: vs).map (sm_v g)) := by
      intro i k v hc h
      rw [List.map_cons, lv_args, sm_v_cat, if_pos hc]
      cases k with
      | zero =>
        simp [am_get] at h
        subst h
        exact List.mem_cons_self
      | succ k =>
        cases k with
        | zero => simp [am_get] at h
        | succ k =>
          have := ih (i + 2) k v (by simpa [am_get] using h)
          rw [show i + 2 + k = i + (k + 1 + 1) by omega] at this
          exact List.mem_cons_of_mem _ this
    intro i k v h
    cases w with
    | long x => exact two i k v rfl h
    | double x => exact two i k v rfl h
    | int x => exact one i k v rfl h
    | float x => exact one i k v rfl h
    | null => exact one i k v rfl h
    | ref x => exact one i k v rfl h
    | retAddr x => exact one i k v rfl h
theorem am_args_len (g : Nat → Nat) : ∀ (vs : List Value), (lg_sl (vs.map (sm_v g))).length = (am_args vs).length := by
  intro vs
  induction vs with
  | nil => rfl
  | cons w vs ih =>
    have e : lg_sl ((w :: vs).map (sm_v g)) = (if w.category = 2 then [.val (sm_v g w), .second] else [.val (sm_v g w)]) ++ lg_sl (vs.map (sm_v g)) := by
      simp [lg_sl, sm_v_cat]
    rw [e, List.length_append, ih]
    cases w <;> simp [am_args, Value.category] <;> omega
theorem sm_entry {g : Nat → Nat} {n : Nat} {vs : List Value} (h : (am_args vs).length ≤ n) : sm_LR g ((lg_sl (vs.map (sm_v g)) ++ List.replicate (n - (lg_sl (vs.map (sm_v g))).length) Slot.unset).toArray) n (am_ent n vs) := by
  have hl := lv_entry (vs.map (sm_v g)) (n := n) (by rw [am_args_len]; exact h)
  refine ⟨hl.1, hl.2.1, ?_, fun k v hk => ?_⟩
  · simp [am_ent]; omega
  · have : am_get (am_args vs) k = some v := by
      unfold am_get am_ent at hk
      rcases Nat.lt_or_ge k (am_args vs).length with z | z
      · rw [List.getElem?_append_left z] at hk
        exact hk
      · rw [List.getElem?_append_right z, List.getElem?_replicate] at hk
        split at hk
        · rename_i o ho
          split at ho
          · cases ho; cases hk
          · cases ho
        · cases hk
    have := am_args_mem (g := g) vs 0 k v this
    rw [Nat.zero_add] at this
    exact hl.2.2 (k, sm_v g v) this
theorem am_find_mem {i : Instr} {r1 r2 pc : Nat} : ∀ (c : am_C), am_find c pc = some (i, r1, r2) → (pc, i, r1, r2) ∈ c
  | [], h => by simp [am_find] at h
  | (k, i', a, b) :: c, h => by
    unfold am_find at h
    split at h
    · rename_i hk
      have hk := of_decide_eq_true hk
      subst hk
      cases h
      exact List.mem_cons_self
    · exact List.mem_cons_of_mem _ (am_find_mem c h)
/-! a method's end -/
def sm_free (s0 : State) : Addr → Prop := fun x => s0.heap.size ≤ x
section Sim
variable {s0 : State} {D : va_G} {adS : Nat → Nat}
def sm_Pc (s0 : State) (D : va_G) (adS : Nat → Nat) (h : am_H) (vs : List Value) : Array Value → State → Prop := fun a U => a = (vs.map (sm_v (sm_g s0 adS))).toArray ∧ sm_HR s0 D adS h U.heap ∧ s0.WarmedH U.vm
def sm_Qc (s0 : State) (D : va_G) (adS : Nat → Nat) (h' : am_H) (v : Option Value) : Array Value → State → Outcome → State → Prop := fun _ _ o t => o = .returned (v.map (sm_v (sm_g s0 adS))) ∧ sm_HR s0 D adS h' t.heap
theorem sm_end {p : Program} {lau : Launch} {e : Env} {R : Room} {s : State} {m : MethodId} {args : Array Value} {below : List Frame} {meth : Method} {c : Code} {mid : Nat} {q : am_M} (hq : at_tab[mid]? = some q) (hx : p.tables.exec = Jvm.exec) (hb : c.code = q.2.1) (hr : meth.sig.returnType = q.2.2.2.1) (hlocks : meth.locks = false) {i : Instr} {pc : Nat} {st : List Value} {h' : am_H} {v : Option Value} (hret : am_ret mid i st h' = some (v, h')) (hdg : decode q.2.1 pc = .ok (i, 1)) {H : Heap} {locs : List Loc} {ls : Array Slot} {cells slots : Nat} (hR : sm_HR s0 D adS h' H) (hlo : ∀ x ∈ locs, s0.heap.size ≤ x.base) :
    W p lau e R s m args below meth c H locs cells slots (MQ below (sm_Qc s0 D adS h' v) args s cells slots (sm_free s0)) (F0 m pc ls (st.map (sm_v (sm_g s0 adS)))) := by
  unfold am_ret at hret
  rw [hq] at hret
  dsimp only at hret
  split at hret
  · rename_i v1 ty hty
    split at hret
    · rename_i hf
      cases hret
      exact W.zret hx hb (hr.trans hty) (am_fit_ok hf).1 (fun t ht hW => ⟨rfl, by rw [ht]; exact hR⟩) hlo hdg hlocks
    · cases hret
  · rename_i v1 hty
    cases hret
    exact W.lret hx hb (hr.trans hty) (fun t ht hW => ⟨rfl, by rw [ht]; exact hR⟩) hlo hdg hlocks
  · rename_i a C hty
    cases hret
    exact W.aret hx hb (hr.trans hty) (Or.inl ⟨_, rfl⟩) (Or.inr ⟨_, rfl⟩) (fun t ht hW => ⟨rfl, by rw [ht]; exact hR⟩) hlo hdg hlocks
  · rename_i a C hty
    cases hret
    exact W.aret hx hb (hr.trans hty) (Or.inr ⟨_, rfl⟩) (Or.inr ⟨_, rfl⟩) (fun t ht hW => ⟨rfl, by rw [ht]; exact hR⟩) hlo hdg hlocks
  · rename_i hty
    cases hret
    exact W.vret hx hb (hr.trans hty) (fun t ht hW => ⟨rfl, by rw [ht]; exact hR⟩) hlo hdg hlocks
  · cases hret
theorem am_ws_good : ∀ w ∈ am_ws, w ∈ am_ws ∧ ((w.onTables && w.keeps) = true ∨ ∃ ty, w = .arrayClass ty) := fun w hw => ⟨hw, good_of_word (List.mem_filter.mp hw).2⟩
/-- the words under which every method of the table is called -/
def sm_ws (q : am_M) : List Cond := Cond.code q.1 q.2.1 q.2.2.1 q.2.2.2.1 :: am_ws
def sm_rm (d mc ms : Nat) : Room := { frames := d, cells := mc, slots := ms, locals := d * 64 }
set_option maxHeartbeats 4000000 in
theorem sm_main (hB : sm_B s0 adS) (hcl : ∀ (ci : Nat) (r : vw_C), vwCl[ci]? = some r → at_clok ci r) (hok : ∀ (mid : Nat) (q : am_M), at_tab[mid]? = some q → ∀ en ∈ q.2.2.2.2.2.2, ∃ ps, at_chk ps q en = true) (hcd : ∀ (mid : Nat) (q : am_M), 1 ≤ mid → at_tab[mid]? = some q → Cond.code q.1 q.2.1 q.2.2.1 q.2.2.2.1 ∈ am_ws) (hK0 : va_K D vwCl [] s0) : ∀ (n d mid pc : Nat) (l : am_L) (st : List Value) (h : am_H) (v : Option Value) (h' : am_H), am_run n d mid pc l st h = some (v, h') →
    ∀ {p : Program} {lau : Launch} {e : Env} {R : Room} {s : State} {m : MethodId} {args : Array Value} {below : List Frame} {meth : Method} {c : Code} {Q : State → Prop} {n0 t0 : Nat} {q : am_M}, at_tab[mid]? = some q → sm_X s0 D p R s m args meth c d q → h'.1.length ≤ R.cells + n0 → am_tot h'.1 ≤ R.slots + t0 →
    (∀ (pc : Nat) (l : am_L) (st : List Value) (i : Instr), am_ret mid i st h' = some (v, h') → decode q.2.1 pc = .ok (i, 1) → sm_K s0 D adS p lau e R s m args below meth c Q n0 t0 q.2.2.1 pc l st h') →
    sm_K s0 D adS p lau e R s m args below meth c Q n0 t0 q.2.2.1 pc l st h := by
  intro n
  induction n with
  | zero => intro d mid pc l st h v h' hr; simp [am_run] at hr
  | succ n ih =>
    intro d mid pc l st h v h' hr p lau e R s m args below meth c Q n0 t0 q hq X hb1 hb2 hfin
    rw [am_run] at hr
    cases hf : am_find (am_code mid) pc with
    | none => rw [hf] at hr; cases hr
    | some en =>
      obtain ⟨i, r1, r2⟩ := en
      rw [hf] at hr
      (try dsimp only at hr)
      have hcode : am_code mid = q.2.2.2.2.2.2 := by unfold am_code; rw [hq]
      obtain ⟨ps, hck⟩ := hok mid q hq _ (am_find_mem _ (hcode ▸ hf))
      cases hk : am_kind i r1 with
      | zero =>
        rw [hk] at hr
        (try dsimp only at hr)
        cases hs : am_step d i r1 r2 pc l st h with
        | none => rw [hs] at hr; cases hr
        | some s' =>
          obtain ⟨pc1, l1, st1, h1⟩ := s'
          rw [hs] at hr
          have g := am_run_ge _ _ _ _ _ _ _ _ _ hr
          exact sm_step hB hcl X hck hk hs ⟨Nat.le_trans g.1 hb1, Nat.le_trans g.2 hb2⟩ (ih _ _ _ _ _ _ _ _ hr hq X hb1 hb2 hfin)
      | succ k =>
        rw [hk] at hr
        cases k with
        | zero =>
          (try dsimp only at hr)
          have e1 := am_ret_same hr
          subst e1
          refine hfin pc l st i hr ?_
          unfold at_chk at hck
          rw [Bool.and_eq_true] at hck
          have hdg := of_decide_eq_true hck.1
          dsimp only at hdg
          rw [show at_len i r1 = 1 by cases i <;> first | rfl | (simp [am_kind] at hk; done) | (exfalso; unfold am_kind at hk; dsimp only at hk; split at hk <;> cases hk)] at hdg
          exact hdg
        | succ k =>
          (try dsimp only at hr)
          cases hc : am_call d i r1 st h with
          | none => rw [hc] at hr; cases hr
          | some q0 =>
            obtain ⟨d', l0, rest⟩ := q0
            rw [hc] at hr
            (try dsimp only at hr)
            cases hq2 : am_run n d' r1 0 l0 [] h with
            | none => rw [hq2] at hr; cases hr
            | some q3 =>
              obtain ⟨v1, h1⟩ := q3
              rw [hq2] at hr
              (try dsimp only at hr)
              have kk := ih _ _ _ _ _ _ _ _ hr hq X hb1 hb2 hfin
              have g1 := am_run_ge _ _ _ _ _ _ _ _ _ hr
              have g2 := am_run_ge _ _ _ _ _ _ _ _ _ hq2
              obtain ⟨hx, hb, hml, hown, hmn, hts, hwm, hK, hfr, hlo⟩ := X
              -- the callee
              unfold am_call at hc
              split at hc
              · cases hc
              · rename_i d1
                split at hc
                · cases hc
                · rename_i y hy
                  split at hc
                  · cases hc
                  · rename_i hcond
                    have hcond := of_decide_eq_true hcond
                    obtain ⟨hc1, hc2, hc3⟩ := hcond
                    -- what the table says of the callee, by its contract
                    have met : Cond.code y.1 y.2.1 y.2.2.1 y.2.2.2.1 ∈ am_ws → plainName y.1.cls = true → d' = d1 → l0 = am_ent y.2.2.1 (st.take y.2.2.2.2.1).reverse → Met lau y.1 (sm_ws y) (sm_rm d1 (h1.1.length - h.1.length) (am_tot h1.1 - am_tot h.1)) (sm_Pc s0 D adS h (st.take y.2.2.2.2.1).reverse) (sm_Qc s0 D adS h1 v1) (h1.1.length - h.1.length) (am_tot h1.1 - am_tot h.1) (sm_free s0) := by
                      intro hcodeW hpl e1 e2
                      subst e1
                      subst e2
                      refine Met.ofW (cc := y.2.1) (maxL := y.2.2.1) (ret := y.2.2.2.1) hpl rfl ?_
                      intro p e s m args below meth c s₁ B hml2 hv
                      obtain ⟨rfl, hR, hW⟩ := hv
                      have hts2 := atoms_spec (ws := sm_ws y) B.pre
                      have hX2 : sm_X s0 D p (headSpec (sm_ws y) (sm_rm d' (h1.1.length - h.1.length) (am_tot h1.1 - am_tot h.1))).room s m _ meth c d' y := ⟨B.exec, B.bytes, hml2, findClass_of_methodNamed B.named, fun hn => (name_of_methodNamed B.named B.method).1.trans hn, fun w hw => hts2 w (List.mem_cons_of_mem _ hw), hW, va_K.moved hW.alike hK0, Nat.le_refl _, Nat.le_refl _⟩
                      have hlocks := B.notSynchronized
                      have hrr := B.returns
                      have K := ih d' r1 0 _ [] h v1 h1 hq2 (lau := lau) (e := e) (below := below) (Q := MQ below (sm_Qc s0 D adS h1 v1) _ s (h1.1.length - h.1.length) (am_tot h1.1 - am_tot h.1) (sm_free s0)) (n0 := h.1.length) (t0 := am_tot h.1) hy hX2 (by show _ ≤ h1.1.length - h.1.length + h.1.length; have := g2.1; omega) (by show _ ≤ am_tot h1.1 - am_tot h.1 + am_tot h.1; have := g2.2; omega) (by
                        intro pc2 l2 st2 i2 hret hdg2 H2 locs2 ls2 cells2 slots2 hR2 hlo2 hL2 hcc2 htt2
                        have e1 : cells2 = h1.1.length - h.1.length := by omega
                        have e2 : slots2 = am_tot h1.1 - am_tot h.1 := by omega
                        subst e1
                        subst e2
                        exact sm_end hy B.exec B.bytes hrr hlocks hret hdg2 hR2 hlo2)
                      rw [lg_entry_eq]
                      exact K s.heap [] _ 0 0 hR (fun _ hq => by cases hq) (sm_entry hc3) (Nat.zero_add _) (Nat.zero_add _)
                    -- behind the call
                    have back : ∀ {index : Nat} {H : Heap} {locs : List Loc} {ls : Array Slot} {cells slots : Nat} {a : Array Value}, (∀ x ∈ locs, s0.heap.size ≤ x.base) → sm_LR (sm_g s0 adS) ls q.2.2.1 l → cells + n0 = h.1.length → slots + t0 = am_tot h.1 → rest = st.drop y.2.2.2.2.1 → va_Run p lau e R s m args below meth c H locs cells slots (h1.1.length - h.1.length) (am_tot h1.1 - am_tot h.1) (F0 m pc ls (st.map (sm_v (sm_g s0 adS)))) (rest.map (sm_v (sm_g s0 adS))) (sm_Qc s0 D adS h1 v1 a) (sm_free s0) → W p lau e R s m args below meth c H locs cells slots Q (F0 m pc ls (st.map (sm_v (sm_g s0 adS)))) := by
                      intro index H locs ls cells slots a hlo2 hL2 hcc2 htt2 _ hrun T hT XT
                      obtain ⟨v', st₀, t, T', L, j0, X', jL, j1, j2, ⟨jv, jR⟩, step⟩ := hrun T hT XT
                      cases jv
                      have K := kk T'.heap (locs ++ L) ls (cells + (h1.1.length - h.1.length)) (slots + (am_tot h1.1 - am_tot h.1)) (by rw [j1]; exact jR) (fun x hx => by
                        rcases List.mem_append.mp hx with z | z
                        · exact hlo2 x z
                        · exact jL x z) hL2 (by have := g2.1; omega) (by have := g2.2; omega) T' rfl X'
                      obtain ⟨t2, s1, s2⟩ := K
                      refine ⟨t2, step t2 ?_, s2⟩
                      rw [show (v1.map (sm_v (sm_g s0 adS))).toList ++ rest.map (sm_v (sm_g s0 adS)) = (v1.toList ++ rest).map (sm_v (sm_g s0 adS)) by cases v1 <;> simp]
                      exact s1
                    have hts' : ∀ w ∈ am_ws, w.before args s = true := hts
                    have pre0 : ∀ (H : Heap), sm_HR s0 D adS h H → ∀ U : State, U.heap = H → s.WarmedH U.vm → sm_Pc s0 D adS h (st.take y.2.2.2.2.1).reverse ((st.take y.2.2.2.2.1).reverse.map (sm_v (sm_g s0 adS))).toArray U := fun H hR U hU hW => ⟨rfl, by rw [hU]; exact hR, hwm.trans hW⟩
                    have blind : FrameBlind (sm_Pc s0 D adS h (st.take y.2.2.2.2.1).reverse) := fun a U g mk q => ⟨q.1, q.2.1, q.2.2⟩
                    have goodW : Cond.code y.1 y.2.1 y.2.2.1 y.2.2.2.1 ∈ am_ws → GoodIn am_ws (sm_ws y) := by
                      intro hcw w hw
                      rcases List.mem_cons.mp hw with rfl | hw
                      · exact am_ws_good _ hcw
                      · exact am_ws_good w hw
                    have room : d1 + 1 ≤ R.frames ∧ y.2.2.1 ≤ 45 → (sm_rm d1 (h1.1.length - h.1.length) (am_tot h1.1 - am_tot h.1)).frames + 1 ≤ R.frames ∧ 8 + (y.2.2.1 + 11) + (sm_rm d1 (h1.1.length - h.1.length) (am_tot h1.1 - am_tot h.1)).locals ≤ R.locals := by
                      intro hh
                      refine ⟨hh.1, ?_⟩
                      show 8 + (y.2.2.1 + 11) + d1 * 64 ≤ R.locals
                      omega
                    have budg : ∀ {cells slots : Nat}, cells + n0 = h.1.length → slots + t0 = am_tot h.1 → cells + (h1.1.length - h.1.length) ≤ R.cells ∧ slots + (am_tot h1.1 - am_tot h.1) ≤ R.slots := by
                      intro cells slots z1 z2
                      have := g1.1; have := g1.2; have := g2.1; have := g2.2
                      exact ⟨by omega, by omega⟩
                    have stk : st.map (sm_v (sm_g s0 adS)) = ((st.take y.2.2.2.2.1).reverse.map (sm_v (sm_g s0 adS))).reverse ++ (st.drop y.2.2.2.2.1).map (sm_v (sm_g s0 adS)) := by
                      rw [← List.map_reverse, List.reverse_reverse, ← List.map_append, List.take_append_drop]
                    have catR : ∀ {pcx : Nat} {lsx : Array Slot} {stx : List Value}, 2 * (F0 m pcx lsx stx).monitorRoom + (((st.drop y.2.2.2.2.1).map (sm_v (sm_g s0 adS))).map fun v => v.category).sum ≤ 8 := by
                      intro pcx lsx stx
                      show 2 * 0 + _ ≤ 8
                      rw [sm_cat]
                      omega
                    unfold at_chk at hck
                    dsimp only at hck
                    rw [Bool.and_eq_true] at hck
                    obtain ⟨hdg0, hck⟩ := hck
                    have hdg := of_decide_eq_true hdg0
                    clear hdg0
                    split at hc
                    · -- invokestatic
                      rename_i idx
                      cases hc
                      dsimp only at hck
                      rw [hy] at hck
                      simp only [Bool.and_eq_true, at_call] at hck
                      obtain ⟨⟨⟨mm, ⟨⟨⟨m2, m4⟩, m5⟩, m6⟩⟩, m1⟩, m7⟩ := hck
                      have m3 := hcd r1 y (of_decide_eq_true mm).1 hy
                      have m4 := of_decide_eq_true m4
                      have m6 := of_decide_eq_true m6
                      intro H locs ls cells slots hR hlo2 hL hcc htt
                      refine back (index := idx) hlo2 hL hcc htt rfl (va_runS (As := (st.take y.2.2.2.2.1).reverse.map (sm_v (sm_g s0 adS))) (n := y.2.2.2.2.1) ⟨hx, hb, hml, hown, hts'⟩ (met m3 m5 rfl rfl) ⟨callB_of _ hts' (goodW m3) rfl rfl rfl (hts _ (at_ix_ok m2)) (hts _ (at_ix_ok m1)) m4 (room ⟨hfr, m6⟩), hts _ (at_ix_ok m7)⟩ ⟨blind, pre0 H hR⟩ rfl (by simp; omega) hL.1 stk catR hdg (budg hcc htt))
                    · -- invokespecial
                      rename_i idx
                      split at hc
                      · rename_i a As hAs
                        cases hc
                        dsimp only at hck
                        rw [hy] at hck
                        simp only [Bool.and_eq_true, at_call] at hck
                        obtain ⟨⟨⟨⟨⟨⟨mm, m0⟩, ⟨⟨⟨m2, m4⟩, m5⟩, m6⟩⟩, m1⟩, m7⟩, m8⟩, m9⟩ := hck
                        have m3 := hcd r1 y (of_decide_eq_true mm).1 hy
                        have m0 := of_decide_eq_true m0
                        have m4 := of_decide_eq_true m4
                        have m6 := of_decide_eq_true m6
                        have m8 := of_decide_eq_true m8
                        have m9 := of_decide_eq_true m9
                        have hlen : As.length + 1 = y.2.2.2.2.1 := by
                          have : (st.take y.2.2.2.2.1).reverse.length = y.2.2.2.2.1 := by simp; omega
                          rw [hAs] at this
                          exact this
                        intro H locs ls cells slots hR hlo2 hL hcc htt
                        have M := met m3 m5 rfl (by rw [hAs])
                        rw [hAs] at M blind stk
                        have P0 := pre0 H hR
                        rw [hAs] at P0
                        rw [Bool.or_eq_true] at m1
                        rcases m1 with m1 | m1
                        · exact back (index := idx) hlo2 hL hcc htt rfl (va_runI (As := As.map (sm_v (sm_g s0 adS))) (b := sm_g s0 adS a) (n := y.2.2.2.2.1 - 1) ⟨hx, hb, hml, hown, hts'⟩ M ⟨by rw [← m9]; exact callB_of _ hts' (goodW m3) rfl rfl rfl (hts _ (at_ix_ok m2)) (hts _ (at_ix_ok m1)) m4 (room ⟨hfr, m6⟩), m8, hts _ (at_ix_ok m7)⟩ ⟨blind, P0⟩ rfl (by simp; omega) hL.1 (by rw [stk]; simp [sm_v]) catR hdg (budg hcc htt))
                        · have m1 := hB.2.2.2.1 _ _ _ _ (of_decide_eq_true m1)
                          exact back (index := idx) hlo2 hL hcc htt rfl (va_runIN (As := As.map (sm_v (sm_g s0 adS))) (b := sm_g s0 adS a) (n := y.2.2.2.2.1 - 1) (host := "TestFinder") ⟨hx, hb, hml, hown, hts'⟩ M ⟨by rw [← m9]; exact va_cnB _ hts' (goodW m3) rfl rfl rfl (va_Nw.warmM hwm m1) (hts _ (at_ix_ok m2)) m4 (room ⟨hfr, m6⟩), m8, hts _ (at_ix_ok m7)⟩ ⟨blind, P0⟩ rfl (by simp; omega) hL.1 (by rw [stk]; simp [sm_v]) catR hdg (budg hcc htt))
                      · cases hc
                    · -- invokevirtual
                      rename_i idx
                      split at hc
                      · rename_i a As hAs
                        split at hc
                        · rename_i tag nn ha
                          split at hc
                          · rename_i htag
                            have htag := of_decide_eq_true htag
                            cases hc
                            dsimp only at hck
                            rw [hy] at hck
                            simp only [Bool.and_eq_true, at_call] at hck
                            obtain ⟨⟨⟨⟨⟨⟨mm, m0⟩, ⟨⟨⟨m2, m4⟩, m5⟩, m6⟩⟩, m1⟩, m7⟩, m8⟩, m9⟩ := hck
                            have m3 := hcd r1 y (of_decide_eq_true mm).1 hy
                            have m0 := of_decide_eq_true m0
                            have m4 := of_decide_eq_true m4
                            have m6 := of_decide_eq_true m6
                            have hlen : As.length + 1 = y.2.2.2.2.1 := by
                              have : (st.take y.2.2.2.2.1).reverse.length = y.2.2.2.2.1 := by simp; omega
                              rw [hAs] at this
                              exact this
                            intro H locs ls cells slots hR hlo2 hL hcc htt
                            have M := met m3 m5 rfl (by rw [hAs])
                            rw [hAs] at M blind stk
                            have P0 := pre0 H hR
                            rw [hAs] at P0
                            have recv : ∃ cellB : Cell, H[sm_g s0 adS a]? = some cellB ∧ cellB.vm.isStatics = false ∧ s.vm.findClass y.1.cls = some cellB.cls := by
                              have ha2 := ha
                              rw [htag] at ha2
                              split at m9
                              · rename_i cl hcl9
                                simp only [Bool.and_eq_true, decide_eq_true_eq] at m9
                                obtain ⟨r', z1, cell, z2, z3, z4, -⟩ := (hR.2.2.2.2 a _ nn ha2).1 m9.2
                                refine ⟨cell, z2, by rw [z4]; rfl, ?_⟩
                                rw [z3, ← m9.1]
                                exact (hK.1 _ _ hcl9).2.1
                              · simp only [Bool.and_eq_true, decide_eq_true_eq] at m9
                                obtain ⟨⟨cell, z1, z2, z3, -⟩, -⟩ := (hR.2.2.2.2 a _ nn ha2).2.2.2.1 m9.2
                                refine ⟨cell, (hR.2.2.1 _ (Array.getElem?_eq_some_iff.mp z1).1).trans z1, z2, ?_⟩
                                rw [m9.1, hwm.alike.findClass]
                                exact z3
                            exact back (index := idx) hlo2 hL hcc htt rfl (va_runV (As := As.map (sm_v (sm_g s0 adS))) (b := sm_g s0 adS a) (C := y.1.cls) (n := y.2.2.2.2.1 - 1) ⟨hx, hb, hml, hown, hts'⟩ M ⟨callB_of _ hts' (goodW m3) rfl rfl rfl (hts _ (at_ix_ok m2)) (hts _ (at_ix_ok m1)) m4 (room ⟨hfr, m6⟩), hts _ (at_ix_ok m7), hts _ (at_ix_ok m8)⟩ ⟨blind, recv, P0⟩ rfl (by simp; omega) hL.1 (by rw [stk]; simp [sm_v]) catR hdg (budg hcc htt))
                          · cases hc
                        · cases hc
                      · cases hc
                    · cases hc
end Sim
