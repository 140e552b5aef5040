theorem sm_aty_obj {ci : Nat} {r : vw_C} (hc : vwCl[ci]? = some r) (h : ci < 100) : am_aty (401 + ci) = some (.object r.1) := by
  unfold am_aty
  split
  all_goals first | omega | skip
  rw [show 401 + ci - 400 = ci + 1 by omega]; dsimp only; rw [hc]
theorem sm_aty_ref {tag : Nat} {ty : FieldType} (h1 : 401 ≤ tag) (h2 : tag < 900) (h : am_aty tag = some ty) : ∃ C, ty = .object C := by
  unfold am_aty at h
  split at h
  all_goals first | omega | skip
  split at h
  · cases h
  · split at h
    · cases h; exact ⟨_, rfl⟩
    · cases h
theorem sm_tagq {tag : Nat} (h : (am_aty tag).isSome = true) : (100 ≤ tag ∧ tag < 900 ∧ (am_aty tag).isSome = true) ∨ tag = 900 ∨ tag = 902 := by
  by_cases h9 : tag = 900
  · exact Or.inr (Or.inl h9)
  · by_cases h8 : tag = 902
    · exact Or.inr (Or.inr h8)
    · refine Or.inl ⟨?_, ?_, h⟩
      · rcases Nat.lt_or_ge tag 100 with z | z
        · unfold am_aty at h
          split at h
          all_goals first | omega | skip
          rw [show tag - 400 = 0 by omega] at h
          cases h
        · exact z
      · rcases Nat.lt_or_ge tag 900 with z | z
        · exact z
        · unfold am_aty at h
          split at h
          all_goals first | omega | skip
          split at h
          · cases h
          · rename_i k hk
            have hv : vwCl.length ≤ 100 := by decide +kernel
            rw [List.getElem?_eq_none (by omega)] at h
            cases h
/-- what was there before: a static, the string constants, links among nest mates -/
def sm_B (s0 : State) (adS : Nat → Nat) : Prop := va_Z "java/lang/String" "COMPACT_STRINGS" "Z" (.int (nI 1)) (fun q => s0.heap.size ≤ q) s0 s0.heap ∧ va_Z "jdk/internal/util/Preconditions" "SIOOBE_FORMATTER" "Ljava/util/function/BiFunction;" (sm_v (sm_g s0 adS) (.retAddr 0)) (fun q => s0.heap.size ≤ q) s0 s0.heap ∧ (∀ q ∈ at_str, vk_R q.1 q.2.1 q.2.2.1 (adS q.2.2.2) s0) ∧ (∀ (own : String) (idx : Nat) (y : MethodName) (host : String), Cond.methodLinkNest own idx y host ∈ lw_tbl → va_Nw (.methodLinkNest own idx y host) s0) ∧ ∀ C : String, Cond.arrayOver (.object C) ∈ lw_tbl → va_AO C s0
/-- where a method of the table runs -/
def sm_X (s0 : State) (D : va_G) (p : Program) (R : Room) (s : State) (m : MethodId) (args : Array Value) (meth : Method) (c : Code) (d : Nat) (q : am_M) : Prop :=
  p.tables.exec = Jvm.exec ∧ c.code = q.2.1 ∧ c.maxLocals = q.2.2.1 ∧ s.vm.findClass q.1.cls = some m.cls ∧ (q.1.name = "<init>" → meth.name = "<init>") ∧ (∀ w ∈ am_ws, w.before args s = true) ∧ s0.WarmedH s.vm ∧ va_K D vwCl [] s ∧ d ≤ R.frames ∧ d * 64 ≤ R.locals
section Sim
variable {s0 : State} {D : va_G} {adS : Nat → Nat} {p : Program} {lau : Launch} {e : Env} {R : Room} {s : State} {m : MethodId} {args : Array Value} {below : List Frame} {meth : Method} {c : Code} {Q : State → Prop} {n0 t0 : Nat}
set_option maxHeartbeats 4000000 in
theorem sm_step (hB : sm_B s0 adS) (hcl : ∀ (ci : Nat) (r : vw_C), vwCl[ci]? = some r → at_clok ci r) {d : Nat} {q : am_M} (X : sm_X s0 D p R s m args meth c d q) {pc r1 r2 : Nat} {i : Instr} {ps : List Nat} (hck : at_chk ps q (pc, i, r1, r2) = true) {l : am_L} {st : List Value} {h : am_H} {pc' : Nat} {l' : am_L} {st' : List Value} {h' : am_H} (hki : am_kind i r1 = 0) (hs : am_step d i r1 r2 pc l st h = some (pc', l', st', h')) (hbud : h'.1.length ≤ R.cells + n0 ∧ am_tot h'.1 ≤ R.slots + t0) (kk : sm_K s0 D adS p lau e R s m args below meth c Q n0 t0 q.2.2.1 pc' l' st' h') : sm_K s0 D adS p lau e R s m args below meth c Q n0 t0 q.2.2.1 pc l st h := by
  obtain ⟨hx, hb, hml, hown, hmn, hts, hwm, hK, hfr, hlo⟩ := X
  have hal := hwm.alike
  unfold at_chk at hck
  dsimp only at hck
  rw [Bool.and_eq_true] at hck
  obtain ⟨hdg0, hck⟩ := hck
  have hdg := of_decide_eq_true hdg0
  clear hdg0
  cases i with
  | iconst n =>
    exact sk_iconst hx hb hdg hs kk
  | bipush n =>
    exact sk_bipush hx hb hdg hs kk
  | sipush n =>
    exact sk_sipush hx hb hdg hs kk
  | lconst n =>
    exact sk_lconst hx hb hdg hs kk
  | iload i =>
    exact sk_iload hx hb hdg hs kk
  | iload_n i =>
    exact sk_iload_n hx hb hdg hs kk
  | lload i =>
    exact sk_lload hx hb hdg hs kk
  | lload_n i =>
    exact sk_lload_n hx hb hdg hs kk
  | aload i =>
    exact sk_aload hx hb hdg hs kk
  | aload_n i =>
    exact sk_aload_n hx hb hdg hs kk
  | istore i =>
    exact sk_istore hx hb hdg hs kk
  | istore_n i =>
    exact sk_istore_n hx hb hdg hs kk
  | lstore i =>
    exact sk_lstore hx hb hdg hs kk
  | lstore_n i =>
    exact sk_lstore_n hx hb hdg hs kk
  | astore i =>
    exact sk_astore hx hb hdg hs kk
  | astore_n i =>
    exact sk_astore_n hx hb hdg hs kk
  | iinc i n =>
    exact sk_iinc hx hb hdg hs kk
  | iadd =>
    exact sk_iadd hx hb hdg hs kk
  | isub =>
    exact sk_isub hx hb hdg hs kk
  | imul =>
    exact sk_imul hx hb hdg hs kk
  | iand =>
    exact sk_iand hx hb hdg hs kk
  | ior =>
    exact sk_ior hx hb hdg hs kk
  | ixor =>
    exact sk_ixor hx hb hdg hs kk
  | ishl =>
    exact sk_ishl hx hb hdg hs kk
  | ishr =>
    exact sk_ishr hx hb hdg hs kk
  | iushr =>
    exact sk_iushr hx hb hdg hs kk
  | ladd =>
    exact sk_ladd hx hb hdg hs kk
  | lsub =>
    exact sk_lsub hx hb hdg hs kk
  | lmul =>
    exact sk_lmul hx hb hdg hs kk
  | land =>
    exact sk_land hx hb hdg hs kk
  | lor =>
    exact sk_lor hx hb hdg hs kk
  | idiv =>
    exact sk_idiv hx hb hdg hs kk
  | irem =>
    exact sk_irem hx hb hdg hs kk
  | ldiv =>
    exact sk_ldiv hx hb hdg hs kk
  | lrem =>
    exact sk_lrem hx hb hdg hs kk
  | lushr =>
    exact sk_lushr hx hb hdg hs kk
  | lshr =>
    exact sk_lshr hx hb hdg hs kk
  | lshl =>
    exact sk_lshl hx hb hdg hs kk
  | lcmp =>
    exact sk_lcmp hx hb hdg hs kk
  | i2l =>
    exact sk_i2l hx hb hdg hs kk
  | l2i =>
    exact sk_l2i hx hb hdg hs kk
  | i2c =>
    exact sk_i2c hx hb hdg hs kk
  | dup =>
    exact sk_dup hx hb hdg hs kk
  | dup2 =>
    exact sk_dup2 hx hb hdg hs kk
  | pop =>
    exact sk_pop hx hb hdg hs kk
  | ifCond cnd off =>
    exact sk_ifCond hx hb (of_decide_eq_true hck) hdg hs kk
  | if_icmp cnd off =>
    exact sk_if_icmp hx hb (of_decide_eq_true hck) hdg hs kk
  | goto off =>
    exact sk_goto hx hb (of_decide_eq_true hck) hdg hs kk
  | tableswitch df lo hi offs =>
    simp only [Bool.and_eq_true, List.all_eq_true, decide_eq_true_eq] at hck
    exact sk_tableswitch hx hb hck.1.1 hck.1.2 hck.2 hdg hs kk
  | lookupswitch df ps =>
    rw [Bool.and_eq_true, Bool.and_eq_true] at hck
    exact sk_lookupswitch hx hb (of_decide_eq_true hck.1.1) (fun o ho => of_decide_eq_true (List.all_eq_true.mp hck.1.2 o ho)) hck.2 hdg hs kk
  | ldc2_w idx =>
    cases hs
    intro H locs ls cells slots hR hlo2 hL hc ht
    exact lv_ldc2 hx hb hown (hts _ (at_ix_ok hck)) hdg (kk H locs ls cells slots hR hlo2 hL hc ht)
  | getfield idx =>
    unfold am_step am_getf at hs
    dsimp only at hs
    split at hs
    · rename_i a r
      split at hs
      · rename_i tag n ha
        split at hs
        · rename_i htag
          have htag := of_decide_eq_true htag
          subst htag
          cases hs
          dsimp only at hck
          split at hck
          · rename_i cl hcl1
            simp only [Bool.and_eq_true] at hck
            obtain ⟨⟨h1, h2⟩, h3⟩ := hck
            exact sk_getfield hx hb hts hown hK hcl1 (hcl _ _ hcl1) (of_decide_eq_true h1) (of_decide_eq_true h2) (at_ix_ok h3) ha hdg kk
          · rw [Bool.and_eq_true, Bool.or_eq_true] at hck
            obtain ⟨h1, h2⟩ := hck
            have h1 := of_decide_eq_true h1
            (try dsimp only at h1)
            subst h1
            refine sk_strf hx hb hts hown hal (k := r2) ?_ ha hdg kk
            rcases h2 with h2 | h2
            · rw [Bool.and_eq_true] at h2
              exact Or.inl ⟨of_decide_eq_true h2.1, at_ix_ok h2.2⟩
            · rw [Bool.and_eq_true] at h2
              exact Or.inr ⟨of_decide_eq_true h2.1, at_ix_ok h2.2⟩
        · cases hs
      · cases hs
    · cases hs
  | getstatic idx =>
    rw [Bool.or_eq_true] at hck
    rcases hck with hck | hck
    · rw [Bool.and_eq_true] at hck
      obtain ⟨e1, e2⟩ := of_decide_eq_true hck.1
      (try dsimp only at e1 e2)
      subst e1
      subst e2
      cases hs
      exact sk_static (v := .int (nI 1)) hx hb hts hown hal hB.1 (at_ix_ok hck.2) hdg kk
    · rw [Bool.and_eq_true] at hck
      have e2 := of_decide_eq_true hck.1
      (try dsimp only at e2)
      subst e2
      cases hs
      exact sk_static (v := .retAddr 0) hx hb hts hown hal hB.2.1 (at_ix_ok hck.2) hdg kk
  | ldc idx =>
    cases hs
    obtain ⟨q9, h9, h8⟩ := List.any_eq_true.mp hck
    have h8 := of_decide_eq_true h8
    (try dsimp only at h8)
    obtain ⟨e1, e2, e3, e4⟩ := h8
    have hk := hB.2.2.1 q9 h9
    rw [e1, e2, e3] at hk
    exact sk_ldc hx hb hwm hown e4 hk hdg kk
  | putfield idx =>
    dsimp only at hck
    split at hck
    · rename_i cl hcl1
      simp only [Bool.and_eq_true] at hck
      obtain ⟨⟨⟨h1, h2⟩, h3⟩, h4⟩ := hck
      skip
      unfold am_step am_putf at hs
      dsimp only at hs
      split at hs
      · rename_i v a r
        split at hs
        · rename_i tag n ha
          split at hs
          · rename_i htag
            have htag := of_decide_eq_true htag
            subst htag
            split at hs
            · rename_i h2x hw
              cases hs
              exact sk_putfield hx hb hts hown hK hcl1 (hcl _ _ hcl1) (of_decide_eq_true h1) (of_decide_eq_true h2) (at_ix_ok h3) ((of_decide_eq_true h4).imp id (fun z => ⟨z.1, hmn z.2.1, z.2.2⟩)) ha hw hdg kk
            · cases hs
          · cases hs
        · cases hs
      · cases hs
    · cases hck
  | new idx =>
    dsimp only at hck
    split at hck
    · rename_i cl hcl1
      simp only [Bool.and_eq_true] at hck
      obtain ⟨⟨h1, h2⟩, h3⟩ := hck
      have h1 := of_decide_eq_true h1
      (try dsimp only at h1)
      subst h1
      unfold am_step am_new at hs
      cases hs
      exact sk_new hx hb hts hown hK hcl1 (hcl _ _ hcl1) (of_decide_eq_true h2) (at_ix_ok h3) ⟨by simpa [am_born] using hbud.1, by rw [← am_tot_born]; exact hbud.2⟩ hdg kk
    · cases hck
  | newarray t =>
    simp only [Bool.and_eq_true] at hck
    obtain ⟨⟨h1, h2⟩, h3⟩ := hck
    have h1 := of_decide_eq_true h1
    have h2 := of_decide_eq_true h2
    unfold am_step am_newa at hs
    dsimp only at hs
    split at hs
    · rename_i n r
      split at hs
      · rename_i hn
        cases hs
        exact sk_newarray hx hb hts hal rfl h2.1 h2.2 h1 rfl (at_ix_ok h3) hn ⟨by simpa [am_born] using hbud.1, by rw [← am_tot_born]; exact hbud.2⟩ hdg kk
      · cases hs
    · cases hs
  | anewarray idx =>
    dsimp only at hck
    split at hck
    · rename_i cl hcl1
      simp only [Bool.and_eq_true] at hck
      obtain ⟨⟨h1, h2⟩, h3⟩ := hck
      have h1 := of_decide_eq_true h1
      (try dsimp only at h1)
      unfold am_step am_newa at hs
      dsimp only at hs
      split at hs
      · rename_i n r
        split at hs
        · rename_i hn
          cases hs
          exact sk_anewarray hx hb hts hown hal (by omega) (by omega) (sm_aty_obj hcl1 h1) (at_ix_ok h2) (hB.2.2.2.2 _ (List.mem_of_getElem? (of_decide_eq_true h3))) hn ⟨by simpa [am_born] using hbud.1, by rw [← am_tot_born]; exact hbud.2⟩ hdg kk
        · cases hs
      · cases hs
    · cases hck
  | arraylength =>
    unfold am_step am_alen at hs
    dsimp only at hs
    split at hs
    · rename_i a r
      split at hs
      · rename_i tag n ha
        split at hs
        · rename_i hq
          have hq := of_decide_eq_true hq
          cases hs
          exact sk_arraylength hx hb hal ha (sm_tagq hq.2) hdg kk
        · cases hs
      · cases hs
    · cases hs
  | iaload =>
    unfold am_step am_ald at hs
    dsimp only at hs
    split at hs
    · rename_i j a r
      split at hs
      · rename_i tag n ha
        split at hs
        · rename_i hp
          split at hs
          · rename_i ty hty
            split at hs
            · rename_i hj
              cases hs
              simp only [Bool.or_eq_true, beq_iff_eq] at hp
              rcases hp with rfl | rfl
              · cases hty
                exact sk_iaload hx hb hal ha hj hdg kk
              · cases hty
                exact sk_script hx hb hal ha hj hdg kk
            · cases hs
          · cases hs
        · cases hs
      · cases hs
    · cases hs
  | baload =>
    unfold am_step am_ald at hs
    dsimp only at hs
    split at hs
    · rename_i j a r
      split at hs
      · rename_i tag n ha
        split at hs
        · rename_i hp
          split at hs
          · rename_i ty hty
            split at hs
            · rename_i hj
              cases hs
              simp only [Bool.or_eq_true, beq_iff_eq] at hp
              rcases hp with rfl | rfl
              · cases hty
                exact sk_baload hx hb hal ha hj hdg kk
              · cases hty
                exact sk_strb hx hb hal ha hj hdg kk
            · cases hs
          · cases hs
        · cases hs
      · cases hs
    · cases hs
  | laload =>
    unfold am_step am_ald at hs
    dsimp only at hs
    split at hs
    · rename_i j a r
      split at hs
      · rename_i tag n ha
        split at hs
        · rename_i hp
          split at hs
          · rename_i ty hty
            split at hs
            · rename_i hj
              cases hs
              simp only [beq_iff_eq] at hp
              subst hp
              cases hty
              exact sk_laload hx hb hal ha hj hdg kk
            · cases hs
          · cases hs
        · cases hs
      · cases hs
    · cases hs
  | caload =>
    unfold am_step am_ald at hs
    dsimp only at hs
    split at hs
    · rename_i j a r
      split at hs
      · rename_i tag n ha
        split at hs
        · rename_i hp
          split at hs
          · rename_i ty hty
            split at hs
            · rename_i hj
              cases hs
              simp only [beq_iff_eq] at hp
              subst hp
              cases hty
              exact sk_caload hx hb hal ha hj hdg kk
            · cases hs
          · cases hs
        · cases hs
      · cases hs
    · cases hs
  | aaload =>
    unfold am_step am_ald at hs
    dsimp only at hs
    split at hs
    · rename_i j a r
      split at hs
      · rename_i tag n ha
        split at hs
        · rename_i hp
          split at hs
          · rename_i ty hty
            split at hs
            · rename_i hj
              cases hs
              have hp := of_decide_eq_true hp
              obtain ⟨C, rfl⟩ := sm_aty_ref hp.1 hp.2 hty
              exact sk_aaload hx hb hal ha hp.1 hp.2 hty hj hdg kk
            · cases hs
          · cases hs
        · cases hs
      · cases hs
    · cases hs
  | iastore =>
    unfold am_step am_iast at hs
    dsimp only at hs
    split at hs
    · rename_i x j a r
      split at hs
      · rename_i tag n ha
        split at hs
        · rename_i hp
          split at hs
          · rename_i ty hty
            split at hs
            · rename_i hj
              cases hs
              simp only [beq_iff_eq] at hp
              subst hp
              cases hty
              exact sk_iastore hx hb hal ha hj hdg kk
            · cases hs
          · cases hs
        · cases hs
      · cases hs
    · cases hs
  | castore =>
    unfold am_step am_iast at hs
    dsimp only at hs
    split at hs
    · rename_i x j a r
      split at hs
      · rename_i tag n ha
        split at hs
        · rename_i hp
          split at hs
          · rename_i ty hty
            split at hs
            · rename_i hj
              cases hs
              simp only [beq_iff_eq] at hp
              subst hp
              cases hty
              exact sk_castore hx hb hal ha hj hdg kk
            · cases hs
          · cases hs
        · cases hs
      · cases hs
    · cases hs
  | bastore =>
    unfold am_step am_iast at hs
    dsimp only at hs
    split at hs
    · rename_i x j a r
      split at hs
      · rename_i tag n ha
        split at hs
        · rename_i hp
          split at hs
          · rename_i ty hty
            split at hs
            · rename_i hj
              cases hs
              simp only [beq_iff_eq] at hp
              subst hp
              cases hty
              exact sk_bastore hx hb hal ha hj hdg kk
            · cases hs
          · cases hs
        · cases hs
      · cases hs
    · cases hs
  | lastore =>
    unfold am_step am_last at hs
    dsimp only at hs
    split at hs
    · rename_i x j a r
      split at hs
      · rename_i n ha
        split at hs
        · rename_i hj
          cases hs
          exact sk_lastore hx hb hal ha hj hdg kk
        · cases hs
      · cases hs
    · cases hs
  | aastore =>
    unfold am_step am_aast at hs
    dsimp only at hs
    split at hs
    · rename_i v j a r
      split at hs
      · rename_i tag n ha
        split at hs
        · rename_i tv nv hv
          split at hs
          · rename_i hq
            have hq := of_decide_eq_true hq
            obtain ⟨rfl, hq2, hq3⟩ := hq
            split at hs
            · rename_i hj
              cases hs
              intro H locs ls cells slots hR hlo2 hL hc ht
              obtain ⟨r9, h9, -⟩ := (hR.2.2.2.2 v tv nv hv).1 hq2
              exact sk_aastore hx hb hal hK h9 hq2 ha hv hj hdg kk H locs ls cells slots hR hlo2 hL hc ht
            · cases hs
          · cases hs
        · cases hs
      · cases hs
    · cases hs
  | invokevirtual idx =>
    dsimp only at hck
    split at hck
    · rename_i y hy
      simp only [Bool.and_eq_true] at hck
      obtain ⟨⟨⟨⟨⟨⟨h1, -⟩, -⟩, -⟩, -⟩, -⟩, -⟩ := hck
      have h1 := of_decide_eq_true h1
      (try dsimp only at h1)
      simp [am_kind, h1.2] at hki
    · cases hck
  | invokespecial idx =>
    dsimp only at hck
    split at hck
    · rename_i y hy
      simp only [Bool.and_eq_true] at hck
      obtain ⟨⟨⟨⟨⟨⟨h1, -⟩, -⟩, -⟩, -⟩, -⟩, -⟩ := hck
      have h1 := of_decide_eq_true h1
      (try dsimp only at h1)
      simp [am_kind, h1.2] at hki
    · simp only [Bool.and_eq_true] at hck
      obtain ⟨⟨⟨h1, w1⟩, w2⟩, w3⟩ := hck
      have h1 := of_decide_eq_true h1
      (try dsimp only at h1)
      subst h1
      cases d with
      | zero => cases hs
      | succ d =>
        have hs : am_sp0 pc l st h = some (pc', l', st', h') := hs
        unfold am_sp0 at hs
        split at hs
        · rename_i a r
          split at hs
          · rename_i hcat
            cases hs
            exact sk_objInit hx hb hts hown hml (at_ix_ok w1) (at_ix_ok w2) (at_ix_ok w3) (of_decide_eq_true hcat) (by omega) (by omega) hdg kk
          · cases hs
        · cases hs
  | invokestatic idx =>
    dsimp only at hck
    split at hck
    · rename_i y hy
      simp only [Bool.and_eq_true] at hck
      obtain ⟨⟨⟨h1, -⟩, -⟩, -⟩ := hck
      have h1 := of_decide_eq_true h1
      (try dsimp only at h1)
      simp [am_kind, h1.2] at hki
    · rw [Bool.or_eq_true] at hck
      rcases hck with hck | hck
      · simp only [Bool.and_eq_true] at hck
        obtain ⟨⟨⟨⟨h1, w1⟩, w2⟩, w3⟩, w4⟩ := hck
        have h1 := of_decide_eq_true h1
        (try dsimp only at h1)
        subst h1
        cases d with
        | zero => cases hs
        | succ d =>
          have hs : am_sp1 pc l st h = some (pc', l', st', h') := hs
          unfold am_sp1 at hs
          split at hs
          · rename_i n dp b sp a r
            split at hs
            · rename_i ta na ha
              split at hs
              · rename_i tb nb hbb
                split at hs
                · rename_i hq
                  obtain ⟨rfl, rfl, hz⟩ := of_decide_eq_true hq
                  cases hs
                  exact sk_copy hx hb hts hown hml hal (at_ix_ok w1) (at_ix_ok w2) (at_ix_ok w3) (at_ix_ok w4) ha hbb hz.1 hz.2.1 hz.2.2.1 hz.2.2.2.1 hz.2.2.2.2.1 hz.2.2.2.2.2.1 hz.2.2.2.2.2.2 (by omega) (by omega) hdg kk
                · cases hs
              · cases hs
            · cases hs
          · cases hs
      · simp only [Bool.and_eq_true] at hck
        obtain ⟨⟨⟨⟨h1, w1⟩, w2⟩, w3⟩, w4⟩ := hck
        have h1 := of_decide_eq_true h1
        (try dsimp only at h1)
        subst h1
        cases d with
        | zero => cases hs
        | succ d =>
          have hs : am_sp2 pc l st h = some (pc', l', st', h') := hs
          unfold am_sp2 at hs
          split at hs
          · rename_i y x r
            split at hs
            · rename_i hcat
              cases hs
              exact sk_min hx hb hts hown hml (at_ix_ok w1) (at_ix_ok w2) (at_ix_ok w3) (at_ix_ok w4) (of_decide_eq_true hcat) (by omega) (by omega) hbud hdg kk
            · cases hs
          · cases hs
  | _ => cases hs
end Sim
