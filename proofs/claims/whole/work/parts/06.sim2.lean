/-! fields, new cells, lengths, arrays of references, the JDK's members that are one step -/
theorem am_fit_ok {ty : FieldType} {x : Int32} (h : am_fit ty x = true) : narrow ty (.int x) = .int x ∧ fits ty (.int x) = true ∧ ∀ (hp : am_H) (a k : Nat), hp.2.1 a k = x → am_rd ty hp a k = .int x := by
  cases ty with
  | int => exact ⟨rfl, rfl, fun hp a k e => by rw [← e]; rfl⟩
  | boolean =>
    simp only [am_fit, Bool.or_eq_true, decide_eq_true_eq] at h
    rcases h with rfl | rfl
    · exact ⟨by decide, by decide, fun hp a k e => by rw [← e]; rfl⟩
    · exact ⟨by decide, by decide, fun hp a k e => by rw [← e]; rfl⟩
  | char =>
    simp only [am_fit, Bool.and_eq_true, decide_eq_true_eq] at h
    obtain ⟨j, hj, e⟩ := nI_of (x := x) (Int32.not_lt.mpr h.1)
    have h2 : nI j ≤ nI 65535 := by rw [← e]; exact h.2
    have h3 : j ≤ 65535 := (nI_leI hj (by decide)).mp h2
    obtain ⟨q1, q2⟩ := pk_charN (q := j) (by omega)
    exact ⟨by rw [e]; exact q1, by rw [e]; exact q2, fun hp a k e => by rw [← e]; rfl⟩
  | byte =>
    have h := of_decide_eq_true h
    subst h
    exact ⟨by decide, by decide, fun hp a k e => by rw [← e]; rfl⟩
  | _ => simp [am_fit] at h
theorem am_wr_ok {ty : FieldType} {h h' : am_H} {a k : Nat} {v : Value} (g : Nat → Nat) (hw : am_wr ty h a k v = some h') :
    h'.1 = h.1 ∧ (∀ i j, i ≠ a ∨ j ≠ k → h'.2.1 i j = h.2.1 i j) ∧ (∀ i j, i ≠ a ∨ j ≠ k → h'.2.2.1 i j = h.2.2.1 i j) ∧ (∀ i j, i ≠ a ∨ j ≠ k → h'.2.2.2 i j = h.2.2.2 i j) ∧ am_rd ty h' a k = v ∧ narrow ty (sm_v g v) = sm_v g v ∧ fits ty (sm_v g v) = true := by
  have u : ∀ {α : Type} (f : Nat → Nat → α) (x : α) (i j : Nat), i ≠ a ∨ j ≠ k → up2 f a k x i j = f i j := by
    intro α f x i j q
    rcases q with q | q
    · exact up2_row f x q
    · exact up2_col f x q
  unfold am_wr at hw
  cases v with
  | int x =>
    dsimp only at hw
    split at hw
    · rename_i hf
      cases hw
      obtain ⟨q1, q2, q3⟩ := am_fit_ok hf
      exact ⟨rfl, fun i j q => u _ _ i j q, fun _ _ _ => rfl, fun _ _ _ => rfl, q3 _ _ _ (up2_same _ _ _ _), q1, q2⟩
    · cases hw
  | long x =>
    cases ty <;> dsimp only at hw <;> first | (cases hw; done) | skip
    cases hw
    exact ⟨rfl, fun _ _ _ => rfl, fun i j q => u _ _ i j q, fun _ _ _ => rfl, by simp [am_rd, up2], rfl, rfl⟩
  | ref b =>
    cases ty <;> dsimp only at hw <;> first | (cases hw; done) | skip
    all_goals
      cases hw
      exact ⟨rfl, fun _ _ _ => rfl, fun _ _ _ => rfl, fun i j q => u _ _ i j q, by simp [am_rd, up2, va_rf], rfl, rfl⟩
  | null =>
    cases ty <;> dsimp only at hw <;> first | (cases hw; done) | skip
    all_goals
      cases hw
      exact ⟨rfl, fun _ _ _ => rfl, fun _ _ _ => rfl, fun i j q => u _ _ i j q, by simp [am_rd, up2, va_rf], rfl, rfl⟩
  | _ => cases hw
/-- what the tables say of a class -/
def at_clok (ci : Nat) (r : vw_C) : Prop := (∀ w ∈ u_ws r.1 r.2.1 r.2.2, w ∈ am_ws) ∧ (∀ k, k < r.2.2 → parseFieldDescriptor (r.2.1 k).2.2.1 = some (at_ty ci k)) ∧ (∀ a, a < r.2.2 → ∀ b, b < r.2.2 → a ≠ b → (r.2.1 a).2.1 ≠ (r.2.1 b).2.1) ∧ Cond.instantiable r.1 r.2.2 ∈ am_ws ∧ Cond.initialized r.1 ∈ am_ws
section Sim
variable {s0 : State} {D : va_G} {adS : Nat → Nat} {p : Program} {lau : Launch} {e : Env} {R : Room} {s : State} {m : MethodId} {args : Array Value} {below : List Frame} {meth : Method} {c : Code} {Q : State → Prop} {n0 t0 nL : Nat} {cc : ByteArray}
theorem sk_getfield (hx : p.tables.exec = Jvm.exec) (hb : c.code = cc) (hts : ∀ w ∈ am_ws, w.before args s = true) {own : String} (hown : s.vm.findClass own = some m.cls) (hK : va_K D vwCl [] s) {pc : Nat} {l : am_L} {r : List Value} {h : am_H} {ci k a n idx : Nat} {q : vw_C} (hc : vwCl[ci]? = some q) (hok : at_clok ci q) (hk : k < q.2.2) (h100 : ci < 100) (hlink : Cond.fieldLink own idx (q.2.1 k).1 (q.2.1 k).2.1 (q.2.1 k).2.2.1 ∈ am_ws) (ha : h.1[a]? = some (ci, n)) (hdg : decode cc pc = .ok (.getfield idx, 3))
    (kk : sm_K s0 D adS p lau e R s m args below meth c Q n0 t0 nL (pc + 3) l (am_rd (at_ty ci k) h a k :: r) h) : sm_K s0 D adS p lau e R s m args below meth c Q n0 t0 nL pc l (.ref a :: r) h := by
  intro H locs ls cells slots hR hlo hL hcc ht
  obtain ⟨r', h1, cell, q1, q2, q3, q4⟩ := (hR.2.2.2.2 a ci n ha).1 h100
  have hr : r' = q := Option.some.inj (h1.symm.trans hc)
  subst hr
  obtain ⟨hS, hfc, kC, hkC, hkind⟩ := hK.1 ci _ hc
  obtain ⟨cf, kf, fi, f, hi, hsl⟩ := hS k hk
  refine W.getf hx hb hown (hts _ hlink) hi (u_facts hfc hkC (u_lays hts hok.1 hk) hi).1 q1 (by rw [q3]; exact fun h => by cases h) (v := sm_v (sm_g s0 adS) (am_rd (at_ty ci k) h a k)) ?_ rfl rfl hdg (kk H locs ls cells slots hR hlo hL hcc ht)
  rw [hsl, q4 k hk]
theorem sk_putfield (hx : p.tables.exec = Jvm.exec) (hb : c.code = cc) (hts : ∀ w ∈ am_ws, w.before args s = true) {own : String} (hown : s.vm.findClass own = some m.cls) (hK : va_K D vwCl [] s) {pc : Nat} {l : am_L} {r : List Value} {h h' : am_H} {ci k a n idx : Nat} {v : Value} {q : vw_C} (hc : vwCl[ci]? = some q) (hok : at_clok ci q) (hk : k < q.2.2) (h100 : ci < 100) (hlink : Cond.fieldLink own idx (q.2.1 k).1 (q.2.1 k).2.1 (q.2.1 k).2.2.1 ∈ am_ws) (hfin : (q.2.1 k).2.2.2 = false ∨ ((q.2.1 k).2.2.2 = true ∧ meth.name = "<init>" ∧ (q.2.1 k).1 = own)) (ha : h.1[a]? = some (ci, n)) (hw : am_wr (at_ty ci k) h a k v = some h') (hdg : decode cc pc = .ok (.putfield idx, 3))
    (kk : sm_K s0 D adS p lau e R s m args below meth c Q n0 t0 nL (pc + 3) l r h') : sm_K s0 D adS p lau e R s m args below meth c Q n0 t0 nL pc l (v :: .ref a :: r) h := by
  intro H locs ls cells slots hR hlo hL hcc ht
  have ha16 := hR.big ha (by omega)
  obtain ⟨w1, w2, w3, w4, w5, w6, w7⟩ := am_wr_ok (sm_g s0 adS) hw
  obtain ⟨C, T, N⟩ := q
  dsimp only at hk hlink hfin
  have hap := va_apart (own := own) hts hok.1 (at_ty ci) hok.2.1 hok.2.2.1 hK hc
  obtain ⟨r', h1, cell, q1, q2, q3, q4⟩ := (hR.2.2.2.2 a ci n ha).1 h100
  have hr : r' = (C, T, N) := Option.some.inj (h1.symm.trans hc)
  subst hr
  obtain ⟨hS, hfc, kC, hkC, hkind⟩ := hK.1 ci _ hc
  obtain ⟨cf, kf, fi, f, hi, hsl⟩ := hS k hk
  have hd := hok.2.1 k hk
  have hlay := hts _ (hok.1 _ (u_in_lay hk))
  have hst := (u_facts hfc hkC (u_lays hts hok.1 hk) hi).1
  have fin : ∀ (H' : Heap) (locs' : List Loc), H'[sm_g s0 adS a]? = some (cell.setSlot f.slot (sm_v (sm_g s0 adS) v)) → H'.size = H.size → (∀ q, q ≠ sm_g s0 adS a → H'[q]? = H[q]?) → locs' = locs ++ [⟨sm_g s0 adS a, f.slot⟩] → W p lau e R s m args below meth c H' locs' cells slots Q (F0 m (pc + 3) ls (r.map (sm_v (sm_g s0 adS)))) := by
    intro H' locs' e1 e2 e3 e4
    subst e4
    rw [hsl] at e1
    refine kk H' _ ls cells slots (hR.put ha16 w1 e2 e3 (fun i j hi => w2 i j (Or.inl hi)) (fun i j hi => w3 i j (Or.inl hi)) (fun i j hi => w4 i j (Or.inl hi)) (fun tag len he => ?_)) (sm_loc hlo (sm_ge ha16)) hL (by rw [w1]; exact hcc) (by rw [w1]; exact ht)
    rw [ha] at he
    cases he
    refine ⟨fun _ => ⟨_, hc, t_OB.to ⟨_, e1, q2, q3, t_set q4 hap hk (sm_v (sm_g s0 adS) v)⟩ (fun j hj => ?_)⟩, fun ty z1 z2 => by omega, fun z => by omega, fun z => by omega, fun z => by omega⟩
    unfold updV
    by_cases hjk : j = k
    · subst hjk
      rw [if_pos rfl, w5]
    · rw [if_neg hjk]
      unfold am_rd
      rw [w2 a j (Or.inr hjk), w3 a j (Or.inr hjk), w4 a j (Or.inr hjk)]
  rcases hfin with hfin | ⟨hfin, hin2, hdecl⟩
  · unfold u_lay at hlay
    rw [if_neg (by rw [hfin]; decide)] at hlay
    have h6 := u_store hfc hkC hkind hlay hi hd w6 w7
    exact W.putK hx hb (f := f) ⟨hown, hts _ hlink, ⟨_, _, _, hi⟩, hst⟩ (by rw [q2]; exact h6) q1 q3 (by rw [hsl]; exact k2_hasslot (q4 k hk)) rfl rfl hdg fun H' e1 e2 e3 => fin H' _ e1 e2 e3 rfl
  · unfold u_lay at hlay
    rw [if_pos hfin] at hlay
    have hcf : m.cls = cf := by
      obtain ⟨_, _, c', _, _, _, -, -, hf', -, -, -, hown2, -⟩ := Cond.laysFinal_spec hlay
      have e1 : c' = cf := by have := hi.symm.trans hf'; simp at this; exact this.1.symm
      rw [hdecl] at hown2
      rw [← e1]; exact Option.some.inj (hown.symm.trans hown2)
    have h6 := u_fits hfc hkC hkind (Or.inr hlay) hi hd w6 w7
    exact W.putFinK hx hb hown (hts _ hlink) hi hst hcf hin2 (by rw [q2]; exact h6) q1 q3 (by rw [hsl]; exact k2_hasslot (q4 k hk)) rfl rfl hdg fun H' e1 e2 e3 => fin H' _ e1 e2 e3 rfl
theorem sm_next {h : am_H} {H : Heap} (hR : sm_HR s0 D adS h H) : sm_g s0 adS h.1.length = H.size := by
  rw [sm_g_hi hR.1]
  have := hR.2.1
  have := hR.1
  omega
theorem am_tot_born (h : am_H) (tag n : Nat) : am_tot (am_born h tag n).1 = am_tot h.1 + n := by
  simp [am_born, am_tot]
theorem am_rd_born (ty : FieldType) (h : am_H) (tag n k : Nat) (g : Nat → Nat) : sm_v g (am_rd ty (am_born h tag n) h.1.length k) = defaultValue ty := by
  cases ty <;> simp [am_rd, am_born, defaultValue, va_rf, sm_v]
theorem am_fits_born (ty : FieldType) (h : am_H) (tag n k : Nat) : fits ty (am_rd ty (am_born h tag n) h.1.length k) = true := by
  cases ty <;> simp [am_rd, am_born, va_rf, fits]
theorem sk_new (hx : p.tables.exec = Jvm.exec) (hb : c.code = cc) (hts : ∀ w ∈ am_ws, w.before args s = true) {own : String} (hown : s.vm.findClass own = some m.cls) (hK : va_K D vwCl [] s) {pc : Nat} {l : am_L} {r : List Value} {h : am_H} {ci idx : Nat} {q : vw_C} (hc : vwCl[ci]? = some q) (hok : at_clok ci q) (h100 : ci < 100) (hlink : Cond.classLink own idx q.1 ∈ am_ws) (hbud : h.1.length + 1 ≤ R.cells + n0 ∧ am_tot h.1 + q.2.2 ≤ R.slots + t0) (hdg : decode cc pc = .ok (.new idx, 3))
    (kk : sm_K s0 D adS p lau e R s m args below meth c Q n0 t0 nL (pc + 3) l (.ref h.1.length :: r) (am_born h ci q.2.2)) : sm_K s0 D adS p lau e R s m args below meth c Q n0 t0 nL pc l r h := by
  intro H locs ls cells slots hR hlo hL hcc ht
  obtain ⟨C, T, N⟩ := q
  have hKn := hK.1 ci _ hc
  refine W.newcK hx hb hown (hts _ hlink) (hts _ hok.2.2.2.1) (hts _ hok.2.2.2.2) rfl hdg (by omega) (by dsimp only at hbud ⊢; omega) hKn.2.1 rfl fun H1 kC hkC e1 z1 o1 => ?_
  have e2 := sm_next hR
  have := kk H1 locs ls (cells + 1) (slots + N) (hR.born z1 o1 ⟨fun _ => ⟨_, hc, (u_born (at_ty ci) hts hok.1 hKn hkC (by rw [e2]; exact e1) hok.2.1).to (fun k _ => (am_rd_born _ _ _ _ _ _).symm)⟩, fun ty z1 z2 => by omega, fun z => by omega, fun z => by omega, fun z => by omega⟩) hlo hL (by simp [am_born]; omega) (by rw [am_tot_born]; dsimp only; omega)
  rw [List.map_cons] at this
  rw [show sm_v (sm_g s0 adS) (.ref h.1.length) = .ref H.size by show Value.ref _ = _; rw [e2]] at this
  exact this
theorem sk_newarray (hx : p.tables.exec = Jvm.exec) (hb : c.code = cc) (hts : ∀ w ∈ am_ws, w.before args s = true) (hal : s0.vm.Alike s.vm) {pc : Nat} {l : am_L} {r : List Value} {h : am_H} {tag : Nat} {t : ArrayType} {ty : FieldType} {n : Int32} (htag : am_atag t = tag) (h1 : 100 ≤ tag) (h2 : tag < 900) (hty : am_aty tag = some ty) (hty2 : newarray.typeOf t = ty) (hw : Cond.arrayClass ty ∈ am_ws) (hn : decide (0 ≤ n.toInt ∧ n.toInt ≤ 65535) = true) (hbud : h.1.length + 1 ≤ R.cells + n0 ∧ am_tot h.1 + n.toNatClampNeg ≤ R.slots + t0) (hdg : decode cc pc = .ok (.newarray t, 2))
    (kk : sm_K s0 D adS p lau e R s m args below meth c Q n0 t0 nL (pc + 2) l (.ref h.1.length :: r) (am_born h tag n.toNatClampNeg)) : sm_K s0 D adS p lau e R s m args below meth c Q n0 t0 nL pc l (.int n :: r) h := by
  intro H locs ls cells slots hR hlo hL hcc ht
  subst hty2
  have hn1 := of_decide_eq_true hn
  have hn2 : n.toNatClampNeg = n.toInt.toNat := rfl
  have hn3 : ¬ n < 0 := by
    intro q
    have := Int32.lt_iff_toInt_lt.mp q
    simp at this
    omega
  have hcb : componentBytes (newarray.typeOf t) ≤ 8 := by cases t <;> decide
  have hby : n.toNatClampNeg * componentBytes (newarray.typeOf t) ≤ 536870912 := by
    have : n.toNatClampNeg * componentBytes (newarray.typeOf t) ≤ 65535 * 8 := Nat.mul_le_mul (by omega) hcb
    omega
  refine va_newaK hx hb (hts _ hw) rfl hdg rfl hn3 rfl hby (by omega) (by omega) rfl fun H1 cA e1 z1 o1 hAr hNm => ?_
  have e2 := sm_next hR
  have hcA : sm_cA s0 (newarray.typeOf t) = cA := by
    unfold sm_cA
    rw [← hal.findClass, hNm]
    rfl
  have := kk H1 locs ls (cells + 1) (slots + n.toNatClampNeg) (hR.born z1 o1 ⟨fun z => by omega, fun ty' z1 z2 z3 => ?_, fun z => by omega, fun z => by omega, fun z => by omega⟩) hlo hL (by simp [am_born]; omega) (by rw [am_tot_born]; omega)
  · rw [List.map_cons] at this
    rw [show sm_v (sm_g s0 adS) (.ref h.1.length) = .ref H.size by show Value.ref _ = _; rw [e2]] at this
    exact this
  · rw [hty] at z3
    cases z3
    rw [hcA]
    refine ⟨?_, arrOfT_moved hal.symm hAr, ?_, fun j => am_fits_born _ _ _ _ _, by omega⟩
    · rw [e2, e1]
      congr 2
      funext j
      exact (am_rd_born _ _ _ _ _ _).symm
    · have q : va_RA s cA (newarray.typeOf t) := by cases t <;> exact hNm
      exact q.moved hal.symm
theorem sk_anewarray (hx : p.tables.exec = Jvm.exec) (hb : c.code = cc) (hts : ∀ w ∈ am_ws, w.before args s = true) {own : String} (hown : s.vm.findClass own = some m.cls) (hal : s0.vm.Alike s.vm) {pc : Nat} {l : am_L} {r : List Value} {h : am_H} {tag idx : Nat} {C : String} {n : Int32} (h1 : 100 ≤ tag) (h2 : tag < 900) (hty : am_aty tag = some (.object C)) (hw : Cond.classLink own idx C ∈ am_ws) (hw2 : va_AO C s0) (hn : decide (0 ≤ n.toInt ∧ n.toInt ≤ 65535) = true) (hbud : h.1.length + 1 ≤ R.cells + n0 ∧ am_tot h.1 + n.toNatClampNeg ≤ R.slots + t0) (hdg : decode cc pc = .ok (.anewarray idx, 3))
    (kk : sm_K s0 D adS p lau e R s m args below meth c Q n0 t0 nL (pc + 3) l (.ref h.1.length :: r) (am_born h tag n.toNatClampNeg)) : sm_K s0 D adS p lau e R s m args below meth c Q n0 t0 nL pc l (.int n :: r) h := by
  intro H locs ls cells slots hR hlo hL hcc ht
  have hn1 := of_decide_eq_true hn
  have hn2 : n.toNatClampNeg = n.toInt.toNat := rfl
  have hn3 : ¬ n < 0 := by
    intro q
    have := Int32.lt_iff_toInt_lt.mp q
    simp at this
    omega
  refine W.anew hx hb hown (hts _ hw) (va_AO.use (hw2.moved hal)) rfl hdg rfl hn3 (by omega) (by omega) (by omega) fun cA kA comp g1 g2 g3 g4 => ?_
  have e2 := sm_next hR
  have hcA : sm_cA s0 (.object C) = cA := by
    unfold sm_cA
    rw [← hal.findClass, g1]
    rfl
  have hAr : ArrOfT s cA (.object C) := fun n z => ⟨fun k h => (by cases h), kA, g2, comp, g3⟩
  have hRA : va_RA s cA (.object C) := ⟨kA, comp, g2, g3, g4, g1⟩
  have z1 : (H.push { cls := cA, slots := Array.replicate n.toNatClampNeg .null, vm := .none }).size = H.size + 1 := by simp
  have o1 : ∀ q : Nat, q < H.size → (H.push { cls := cA, slots := Array.replicate n.toNatClampNeg .null, vm := .none })[q]? = H[q]? := fun q hq => by rw [Array.getElem?_push, if_neg (Nat.ne_of_lt hq)]
  have := kk _ locs ls (cells + 1) (slots + n.toNatClampNeg) (hR.born z1 o1 ⟨fun z => by omega, fun ty' y1 y2 y3 => ?_, fun z => by omega, fun z => by omega, fun z => by omega⟩) hlo hL (by simp [am_born]; omega) (by rw [am_tot_born]; omega)
  · rw [List.map_cons] at this
    rw [show sm_v (sm_g s0 adS) (.ref h.1.length) = .ref H.size by show Value.ref _ = _; rw [e2]] at this
    exact this
  · rw [hty] at y3
    cases y3
    rw [hcA]
    refine ⟨?_, arrOfT_moved hal.symm hAr, hRA.moved hal.symm, fun j => am_fits_born _ _ _ _ _, by omega⟩
    rw [e2, Array.getElem?_push, if_pos rfl, arrV_new]
    congr 2
    funext j
    exact (am_rd_born (.object C) _ _ _ _ _).symm
theorem sk_arraylength (hx : p.tables.exec = Jvm.exec) (hb : c.code = cc) (hal : s0.vm.Alike s.vm) {pc : Nat} {l : am_L} {r : List Value} {h : am_H} {a tag n : Nat} (ha : h.1[a]? = some (tag, n)) (hq : (100 ≤ tag ∧ tag < 900 ∧ (am_aty tag).isSome = true) ∨ tag = 900 ∨ tag = 902) (hdg : decode cc pc = .ok (.arraylength, 1))
    (kk : sm_K s0 D adS p lau e R s m args below meth c Q n0 t0 nL (pc + 1) l (.int (nI n) :: r) h) : sm_K s0 D adS p lau e R s m args below meth c Q n0 t0 nL pc l (.ref a :: r) h := by
  intro H locs ls cells slots hR hlo hL hcc ht
  rcases hq with ⟨h1, h2, h3⟩ | rfl | rfl
  · cases hty : am_aty tag with
    | none => rw [hty] at h3; cases h3
    | some ty =>
      obtain ⟨g1, g2, -, -, g5⟩ := sm_arr hR ha h1 h2 hty
      exact W.alen (n := nI n) hx hb g1 (arrOfT_moved hal g2 n _) (by rw [arrV_size]; rfl) rfl rfl hdg (kk H locs ls cells slots hR hlo hL hcc ht)
  · obtain ⟨scr, h1, h2, h3, h4, h5⟩ := (hR.2.2.2.2 a 900 n ha).2.2.1 rfl
    have h1 := (hR.2.2.1 _ (Array.getElem?_eq_some_iff.mp h1).1).trans h1
    exact W.alen (n := nI n) hx hb h1 (State.isArrayOf_alike hal h2) (by rw [h4]; rfl) rfl rfl hdg (kk H locs ls cells slots hR hlo hL hcc ht)
  · obtain ⟨cell, h1, h2, h3, h4, h6, h5, -⟩ := (hR.2.2.2.2 a 902 n ha).2.2.2.2 rfl
    have h1 := (hR.2.2.1 _ (Array.getElem?_eq_some_iff.mp h1).1).trans h1
    exact W.alen (n := nI n) hx hb h1 (State.isArrayOf_alike hal h2) h6 rfl rfl hdg (kk H locs ls cells slots hR hlo hL hcc ht)
theorem sk_strf (hx : p.tables.exec = Jvm.exec) (hb : c.code = cc) (hts : ∀ w ∈ am_ws, w.before args s = true) {own : String} (hown : s.vm.findClass own = some m.cls) (hal : s0.vm.Alike s.vm) {pc : Nat} {l : am_L} {r : List Value} {h : am_H} {k a n idx : Nat} (hlink : (k = 0 ∧ Cond.fieldLink own idx "java/lang/String" "value" "[B" ∈ am_ws) ∨ (k = 1 ∧ Cond.fieldLink own idx "java/lang/String" "coder" "B" ∈ am_ws)) (ha : h.1[a]? = some (901, n)) (hdg : decode cc pc = .ok (.getfield idx, 3))
    (kk : sm_K s0 D adS p lau e R s m args below meth c Q n0 t0 nL (pc + 3) l (am_rd (at_ty 901 k) h a k :: r) h) : sm_K s0 D adS p lau e R s m args below meth c Q n0 t0 nL pc l (.ref a :: r) h := by
  intro H locs ls cells slots hR hlo hL hcc ht
  obtain ⟨-, q1, b, q2, q3⟩ := (hR.2.2.2.2 a 901 n ha).2.2.2.1 rfl
  have K := kk H locs ls cells slots hR hlo hL hcc ht
  rcases hlink with ⟨rfl, hl⟩ | ⟨rfl, hl⟩
  · obtain ⟨cf, k, fi, f, cell, z1, z2, z3, z4, z5, -⟩ := q3.moved hal
    have z3 := (hR.2.2.1 _ (Array.getElem?_eq_some_iff.mp z3).1).trans z3
    rw [show am_rd (at_ty 901 0) h a 0 = .ref b by show va_rf (h.2.2.2 a 0) = _; rw [q2]; rfl] at K
    exact W.getf hx hb hown (hts _ hl) z1 z2 z3 z4 (v := .ref (sm_g s0 adS b)) z5 rfl rfl hdg K
  · obtain ⟨cf, k, fi, f, cell, z1, z2, z3, z4, z5, -⟩ := q1.moved hal
    have z3 := (hR.2.2.1 _ (Array.getElem?_eq_some_iff.mp z3).1).trans z3
    exact W.getf hx hb hown (hts _ hl) z1 z2 z3 z4 (v := .int (h.2.1 a 1)) z5 rfl rfl hdg K
theorem sk_static (hx : p.tables.exec = Jvm.exec) (hb : c.code = cc) (hts : ∀ w ∈ am_ws, w.before args s = true) {own : String} (hown : s.vm.findClass own = some m.cls) (hal : s0.vm.Alike s.vm) {C nm ds : String} {v : Value} (hZ : va_Z C nm ds (sm_v (sm_g s0 adS) v) (fun q => s0.heap.size ≤ q) s0 s0.heap) {pc : Nat} {l : am_L} {r : List Value} {h : am_H} {idx : Nat} (hlink : Cond.fieldLink own idx C nm ds ∈ am_ws) (hdg : decode cc pc = .ok (.getstatic idx, 3))
    (kk : sm_K s0 D adS p lau e R s m args below meth c Q n0 t0 nL (pc + 3) l (v :: r) h) : sm_K s0 D adS p lau e R s m args below meth c Q n0 t0 nL pc l r h := by
  intro H locs ls cells slots hR hlo hL hcc ht
  obtain ⟨cf, kf, fi, f, a, cell, z1, z2, z3, z4, z5, z6, z7, -⟩ := hZ.moved hal
  have z5 := (hR.2.2.1 _ (Array.getElem?_eq_some_iff.mp z5).1).trans z5
  exact W.gets hx hb hown (hts _ hlink) z1 z2 z3 z4 z5 (fun q => by rw [q] at z6; cases z6) z7 rfl hdg (kk H locs ls cells slots hR hlo hL hcc ht)
theorem sk_ldc (hx : p.tables.exec = Jvm.exec) (hb : c.code = cc) (hwm : s0.WarmedH s.vm) {own : String} (hown : s.vm.findClass own = some m.cls) {pc : Nat} {l : am_L} {r : List Value} {h : am_H} {idx k : Nat} {tx : String} (hk : k < 16) (hS : vk_R own idx tx (adS k) s0) (hdg : decode cc pc = .ok (.ldc idx, 2))
    (kk : sm_K s0 D adS p lau e R s m args below meth c Q n0 t0 nL (pc + 2) l (.ref k :: r) h) : sm_K s0 D adS p lau e R s m args below meth c Q n0 t0 nL pc l r h := by
  intro H locs ls cells slots hR hlo hL hcc ht
  have K := kk H locs ls cells slots hR hlo hL hcc ht
  rw [List.map_cons, show sm_v (sm_g s0 adS) (.ref k) = .ref (adS k) by show Value.ref _ = _; unfold sm_g; rw [if_pos hk]] at K
  exact va_ldcS hx hb hown (hS.warm hwm) hdg K
theorem sk_aastore (hx : p.tables.exec = Jvm.exec) (hb : c.code = cc) (hal : s0.vm.Alike s.vm) (hK : va_K D vwCl [] s) {pc : Nat} {l : am_L} {r : List Value} {h : am_H} {a v n nv ci : Nat} {j : Int32} {q : vw_C} (hc : vwCl[ci]? = some q) (h100 : ci < 100) (ha : h.1[a]? = some (401 + ci, n)) (hv : h.1[v]? = some (ci, nv)) (hj : decide (0 ≤ j.toInt ∧ j.toInt < n) = true) (hdg : decode cc pc = .ok (.aastore, 1))
    (kk : sm_K s0 D adS p lau e R s m args below meth c Q n0 t0 nL (pc + 1) l r (h.1, h.2.1, h.2.2.1, up2 h.2.2.2 a j.toNatClampNeg (some v))) : sm_K s0 D adS p lau e R s m args below meth c Q n0 t0 nL pc l (.ref v :: .int j :: .ref a :: r) h := by
  intro H locs ls cells slots hR hlo hL hcc ht
  have hty : am_aty (401 + ci) = some (.object q.1) := by
    unfold am_aty
    split
    all_goals first | omega | skip
    rw [show 401 + ci - 400 = ci + 1 by omega]; dsimp only; rw [hc]
  obtain ⟨g1, g2, g3, -, -⟩ := sm_arr hR ha (by omega) (by omega) hty
  have ha16 := hR.big ha (by omega)
  have hin := sm_in hj
  have hlt : j.toNatClampNeg < n := Nat.not_le.mp fun q => hin (Or.inr q)
  have h0 : ¬ j < 0 := fun q => hin (Or.inl q)
  obtain ⟨r', hr', cellV, f1, f2, f3, -⟩ := (hR.2.2.2.2 v ci nv hv).1 h100
  have hcls := (hK.1 ci q hc).2
  obtain ⟨kA, comp, k1, k2, k3, -⟩ := g3.moved hal
  have hcomp : comp = D.1 ci := Option.some.inj (k3.symm.trans hcls.1)
  subst hcomp
  obtain ⟨kC, hkC, -⟩ := hcls.2
  refine W.aast hx hb g1 (fun q h => by cases h) (fun h => by cases h) k1 k2 rfl hkC ⟨h0, by rw [arrV_size]; exact hlt⟩ f1 (fun q h => by rw [f3] at h; cases h) (by rw [f2]; exact hkC) (by rw [f2]; exact va_assign hcls) rfl rfl hdg fun H1 e1 e2 e3 => ?_
  refine kk H1 _ ls cells slots (hR.arr (x := .ref v) (k := j.toNatClampNeg) ha (by omega) (by omega) hty rfl (fun _ _ _ => rfl) (fun _ _ _ => rfl) (fun i k hi => up2_row _ _ hi) (fun z => ?_) rfl e2 e3 e1) (sm_loc hlo (sm_ge ha16)) hL hcc ht
  by_cases hz : z = j.toNatClampNeg
  · subst hz; simp [am_rd, updV, up2, va_rf]
  · simp [am_rd, updV, up2, hz]
theorem sk_objInit (hx : p.tables.exec = Jvm.exec) (hb : c.code = cc) (hts : ∀ w ∈ am_ws, w.before args s = true) {own : String} (hown : s.vm.findClass own = some m.cls) (hml : c.maxLocals = nL) {pc : Nat} {l : am_L} {r : List Value} {h : am_H} {a idx : Nat} (hlink : Cond.methodLink own idx Lib.objectInit ∈ am_ws) (hinst : Cond.instanceMethod Lib.objectInit ∈ am_ws) (hcode : Cond.code Lib.objectInit ⟨#[0xb1]⟩ 1 none ∈ am_ws) (hcat : am_cat r ≤ 8) (hfr : 1 ≤ R.frames) (hlo : 64 ≤ R.locals) (hdg : decode cc pc = .ok (.invokespecial idx, 3))
    (kk : sm_K s0 D adS p lau e R s m args below meth c Q n0 t0 nL (pc + 3) l r h) : sm_K s0 D adS p lau e R s m args below meth c Q n0 t0 nL pc l (.ref a :: r) h := by
  intro H locs ls cells slots hR hlo2 hL hcc ht
  exact W.objInit hx hb hown (hts _ hlink) (hts _ hinst) (hts _ hcode) rfl (by rw [hml]; exact hL.1) rfl hdg hfr (by show 2 * 0 + _ + 12 ≤ _; rw [sm_cat]; omega) (kk H locs ls cells slots hR hlo2 hL hcc ht)
theorem sk_min (hx : p.tables.exec = Jvm.exec) (hb : c.code = cc) (hts : ∀ w ∈ am_ws, w.before args s = true) {own : String} (hown : s.vm.findClass own = some m.cls) (hml : c.maxLocals = nL) {pc : Nat} {l : am_L} {r : List Value} {h : am_H} {x y : Int32} {idx : Nat} (w1 : Cond.methodLink own idx Lib.Math.min.name ∈ am_ws) (w2 : Cond.static Lib.Math.min.name ∈ am_ws) (w3 : Cond.initialized "java/lang/Math" ∈ am_ws) (w4 : Cond.code Lib.Math.min.name Lib.Math.min.code 2 (some .int) ∈ am_ws) (hcat : am_cat r ≤ 8) (hfr : 1 ≤ R.frames) (hlo : 64 ≤ R.locals) (hbud : h.1.length ≤ R.cells + n0 ∧ am_tot h.1 ≤ R.slots + t0) (hdg : decode cc pc = .ok (.invokestatic idx, 3))
    (kk : sm_K s0 D adS p lau e R s m args below meth c Q n0 t0 nL (pc + 3) l (.int (if y < x then y else x) :: r) h) : sm_K s0 D adS p lau e R s m args below meth c Q n0 t0 nL pc l (.int y :: .int x :: r) h := by
  intro H locs ls cells slots hR hlo2 hL hcc ht
  exact va_mmin hx hb (by rw [hml]; exact hL.1.symm) hown (hts _ w1) (hts _ w2) (hts _ w3) (hts _ w4) hfr (by rw [sm_cat]; omega) (by omega) (by omega) hdg (kk H locs ls cells slots hR hlo2 hL hcc ht)
theorem sk_copy (hx : p.tables.exec = Jvm.exec) (hb : c.code = cc) (hts : ∀ w ∈ am_ws, w.before args s = true) {own : String} (hown : s.vm.findClass own = some m.cls) (hml : c.maxLocals = nL) (hal : s0.vm.Alike s.vm) {pc : Nat} {l : am_L} {r : List Value} {h : am_H} {a b na nb idx : Nat} {sp dp n : Int32} (w1 : Cond.methodLink own idx arraycopyName ∈ am_ws) (w2 : Cond.native arraycopyName ∈ am_ws) (w3 : Cond.static arraycopyName ∈ am_ws) (w4 : Cond.initialized "java/lang/System" ∈ am_ws) (ha : h.1[a]? = some (102, na)) (hbb : h.1[b]? = some (102, nb)) (hne : a ≠ b) (hcat : am_cat r ≤ 8) (h1 : 0 ≤ n.toInt) (h2 : 0 ≤ dp.toInt) (h3 : 0 ≤ sp.toInt) (h4 : sp.toInt + n.toInt ≤ na) (h5 : dp.toInt + n.toInt ≤ nb) (hfr : 1 ≤ R.frames) (hlo : 64 ≤ R.locals) (hdg : decode cc pc = .ok (.invokestatic idx, 3))
    (kk : sm_K s0 D adS p lau e R s m args below meth c Q n0 t0 nL (pc + 3) l r (h.1, fun i j => if i = b then va_cpy (h.2.1 a) (h.2.1 b) sp.toNatClampNeg dp.toNatClampNeg n.toNatClampNeg j else h.2.1 i j, h.2.2.1, h.2.2.2)) : sm_K s0 D adS p lau e R s m args below meth c Q n0 t0 nL pc l (.int n :: .int dp :: .ref b :: .int sp :: .ref a :: r) h := by
  have nz : ∀ z : Int32, 0 ≤ z.toInt → ¬ z < 0 := by
    intro z hz q
    have := Int32.lt_iff_toInt_lt.mp q
    simp at this
    omega
  have nn : ∀ z : Int32, 0 ≤ z.toInt → z.toInt = (z.toNatClampNeg : Int) := by
    intro z hz
    show z.toInt = ((z.toInt.toNat : Nat) : Int)
    omega
  intro H locs ls cells slots hR hlo2 hL hcc ht
  obtain ⟨a1, a2, a3, a4, a5⟩ := sm_arr hR ha (by decide) (by decide) (rfl : am_aty 102 = some .char)
  obtain ⟨b1, b2, b3, b4, b5⟩ := sm_arr hR hbb (by decide) (by decide) (rfl : am_aty 102 = some .char)
  have hb16 := hR.big hbb (by decide)
  intro T hT X
  obtain ⟨-, k0, hk0, cm0, hkk0⟩ := (arrOfT_moved hal a2) na (fun j => .int (h.2.1 a j))
  obtain ⟨-, k1, hk1, cm1, hkk1⟩ := (arrOfT_moved hal b2) nb (fun j => .int (h.2.1 b j))
  have a1 : H[sm_g s0 adS a]? = some (arrV (sm_cA s0 .char) na (fun j => .int (h.2.1 a j))) := a1
  have b1 : H[sm_g s0 adS b]? = some (arrV (sm_cA s0 .char) nb (fun j => .int (h.2.1 b j))) := b1
  have n1 := nn n h1
  have n2 := nn dp h2
  have n3 := nn sp h3
  obtain ⟨vm', X', step⟩ := X.arraycopy hx hown (hts _ w1) (hts _ w2) (hts _ w3) (hts _ w4) (src := sm_g s0 adS a) (dst := sm_g s0 adS b) (cs := arrV (sm_cA s0 .char) na (fun j => .int (h.2.1 a j))) (cd := arrV (sm_cA s0 .char) nb (fun j => .int (h.2.1 b j))) (srcPos := sp) (destPos := dp) (n := n) (by rw [hT]; exact a1) (by rw [hT]; exact b1)
    (fun _ h => by cases h) (fun _ h => by cases h) (fun h => by cases h) (fun h => by cases h) hk0 hk1 hkk0 hkk1 (by simp [refKind]) (nz sp h3) (nz dp h2) (nz n h1)
    (by rw [arrV_size]; omega)
    (by rw [arrV_size]; omega)
    (fun vm₁ _ i hi => by
      have e : (arrV (sm_cA s0 .char) na (fun j => .int (h.2.1 a j))).slots.getD (sp.toNatClampNeg + i) .null = .int (h.2.1 a (sp.toNatClampNeg + i)) := by
        rw [Array.getD_eq_getD_getElem?, arrV_read _ _ (by omega)]
        rfl
      refine ⟨?_, ?_⟩
      · rw [e]
        exact a4 _
      · rw [e]
        exact trivial)
    (g := F0 m pc ls (.int n :: .int dp :: .ref (sm_g s0 adS b) :: .int sp :: .ref (sm_g s0 adS a) :: r.map (sm_v (sm_g s0 adS)))) rfl (by rw [hml]; exact hL.1) (rest := r.map (sm_v (sm_g s0 adS))) rfl (by rw [hb]; exact hdg) hfr (by show 2 * 0 + _ + _ ≤ _; rw [sm_cat]; have h9 : nativeFrameWords "java/lang/System" "arraycopy" 5 ≤ 40 := (by decide); omega)
  have e1 : copied (arrV (sm_cA s0 .char) na (fun j => .int (h.2.1 a j))) (arrV (sm_cA s0 .char) nb (fun j => .int (h.2.1 b j))) sp dp n = arrV (sm_cA s0 .char) nb (fun j => .int (va_cpy (h.2.1 a) (h.2.1 b) sp.toNatClampNeg dp.toNatClampNeg n.toNatClampNeg j)) := va_copied (fun z => .int z) _ _ (h.2.1 a) (h.2.1 b) (by omega)
  rw [e1] at X' step
  have hl : sm_g s0 adS b < H.size := (Array.getElem?_eq_some_iff.mp b1).1
  have hheap : ((T.setVm vm').setCell (sm_g s0 adS b) (arrV (sm_cA s0 .char) nb (fun j => .int (va_cpy (h.2.1 a) (h.2.1 b) sp.toNatClampNeg dp.toNatClampNeg n.toNatClampNeg j)))).heap = H.setIfInBounds (sm_g s0 adS b) (arrV (sm_cA s0 .char) nb (fun j => .int (va_cpy (h.2.1 a) (h.2.1 b) sp.toNatClampNeg dp.toNatClampNeg n.toNatClampNeg j))) := by rw [← hT]; rfl
  have oq : ∀ q : Nat, q ≠ sm_g s0 adS b → (H.setIfInBounds (sm_g s0 adS b) (arrV (sm_cA s0 .char) nb (fun j => .int (va_cpy (h.2.1 a) (h.2.1 b) sp.toNatClampNeg dp.toNatClampNeg n.toNatClampNeg j))))[q]? = H[q]? := fun q hq => by simp [Array.getElem?_setIfInBounds, Ne.symm hq]
  have hR' : sm_HR s0 D adS (h.1, fun i j => if i = b then va_cpy (h.2.1 a) (h.2.1 b) sp.toNatClampNeg dp.toNatClampNeg n.toNatClampNeg j else h.2.1 i j, h.2.2.1, h.2.2.2) (H.setIfInBounds (sm_g s0 adS b) (arrV (sm_cA s0 .char) nb (fun j => .int (va_cpy (h.2.1 a) (h.2.1 b) sp.toNatClampNeg dp.toNatClampNeg n.toNatClampNeg j)))) := by
    refine hR.put hb16 rfl (by simp) oq (fun i k hi => by simp [hi]) (fun _ _ _ => rfl) (fun _ _ _ => rfl) (fun tag len he => ?_)
    rw [hbb] at he
    cases he
    refine ⟨fun z => by omega, fun ty z1 z2 z3 => ?_, fun z => by omega, fun z => by omega, fun z => by omega⟩
    have : ty = .char := by
      have z4 : am_aty 102 = some .char := rfl
      rw [z4] at z3
      cases z3
      rfl
    subst this
    refine ⟨?_, b2, b3, fun j => ?_, b5⟩
    · simp [Array.getElem?_setIfInBounds, hl, am_rd, sm_v]
    · have q1 := a4 (sp.toNatClampNeg + (j - dp.toNatClampNeg))
      have q2 := b4 j
      show fits .char (.int (if b = b then va_cpy (h.2.1 a) (h.2.1 b) sp.toNatClampNeg dp.toNatClampNeg n.toNatClampNeg j else h.2.1 b j)) = true
      rw [if_pos rfl]
      unfold va_cpy
      split
      · exact q1
      · exact q2
  obtain ⟨t, t1, t2⟩ := kk _ _ ls cells slots hR' (fun q hq => by
      rcases List.mem_append.mp hq with h | h
      · exact hlo2 q h
      · obtain ⟨z, -, hz⟩ := List.mem_map.mp h
        rw [← hz]
        exact sm_ge hb16) hL hcc ht _ hheap X'
  exact ⟨t, step t t1, t2⟩
end Sim
