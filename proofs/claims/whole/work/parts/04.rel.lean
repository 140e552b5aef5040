/-! THE TIE between the small machine's heap and locals and the JVM's. s0: the state in which the law begins; D: the classes' numbers and slots; adS: the addresses of what was there before. -/
def sm_g (s0 : State) (adS : Nat → Nat) (i : Nat) : Nat := if i < 16 then adS i else s0.heap.size + (i - 16)
def sm_v (g : Nat → Nat) (v : Value) : Value := match v with
  | .ref i => .ref (g i)
  | .retAddr _ => match g 15 with
    | 0 => .null
    | t + 1 => .ref t
  | v => v
theorem sm_v_cat (g : Nat → Nat) (v : Value) : (sm_v g v).category = v.category := by
  cases v with
  | retAddr n =>
    unfold sm_v
    dsimp only
    split <;> rfl
  | _ => rfl
theorem sm_cat (g : Nat → Nat) (st : List Value) : ((st.map (sm_v g)).map fun v => v.category).sum = am_cat st := by
  unfold am_cat
  congr 1
  rw [List.map_map]
  apply List.map_congr_left
  intro v _
  exact sm_v_cat g v
def sm_cA (s0 : State) (ty : FieldType) : ClassId := (s0.vm.findClass ("[" ++ ty.toString)).getD 0
/-- the cell of number i; 900: the script, 901: a string constant, 902: its bytes -/
def sm_CR (s0 : State) (D : va_G) (g : Nat → Nat) (h : am_H) (H : Heap) (i tag len : Nat) : Prop :=
  (tag < 100 → ∃ r : vw_C, vwCl[tag]? = some r ∧ t_OB (g i) (D.1 tag) r.2.2 (D.2 tag) H (fun k => sm_v g (am_rd (at_ty tag k) h i k))) ∧
  (∀ ty, 100 ≤ tag → tag < 900 → am_aty tag = some ty → H[g i]? = some (arrV (sm_cA s0 ty) len (fun j => sm_v g (am_rd ty h i j))) ∧ ArrOfT s0 (sm_cA s0 ty) ty ∧ va_RA s0 (sm_cA s0 ty) ty ∧ (∀ j, fits ty (am_rd ty h i j) = true) ∧ len < 2 ^ 31) ∧
  (tag = 900 → va_X (g i) len (fun j => h.2.1 i j) s0 s0.heap) ∧
  (tag = 901 → va_O "java/lang/String" (g i) (fun q => s0.heap.size ≤ q) s0 s0.heap ∧ va_OF "java/lang/String" "coder" "B" (.int (h.2.1 i 1)) (g i) (fun q => s0.heap.size ≤ q) s0 s0.heap ∧ ∃ b, h.2.2.2 i 0 = some b ∧ va_OF "java/lang/String" "value" "[B" (.ref (g b)) (g i) (fun q => s0.heap.size ≤ q) s0 s0.heap) ∧
  (tag = 902 → va_T .byte (g i) len (fun j => .int (h.2.1 i j)) (fun q => s0.heap.size ≤ q) s0 s0.heap)
def sm_HR (s0 : State) (D : va_G) (adS : Nat → Nat) (h : am_H) (H : Heap) : Prop :=
  16 ≤ h.1.length ∧ H.size + 16 = s0.heap.size + h.1.length ∧ (∀ q : Nat, q < s0.heap.size → H[q]? = s0.heap[q]?) ∧
  (∀ i tag len : Nat, i < 16 → h.1[i]? = some (tag, len) → 900 ≤ tag) ∧
  ∀ i tag len : Nat, h.1[i]? = some (tag, len) → sm_CR s0 D (sm_g s0 adS) h H i tag len
theorem sm_g_hi {s0 : State} {adS : Nat → Nat} {i : Nat} (h : 16 ≤ i) : sm_g s0 adS i = s0.heap.size + (i - 16) := by
  unfold sm_g; rw [if_neg (by omega)]
theorem sm_HR.big {s0 : State} {D : va_G} {adS : Nat → Nat} {h : am_H} {H : Heap} (R : sm_HR s0 D adS h H) {i tag len : Nat} (hi : h.1[i]? = some (tag, len)) (ht : tag < 900) : 16 ≤ i := by
  rcases Nat.lt_or_ge i 16 with q | q
  · have := R.2.2.2.1 i tag len q hi
    omega
  · exact q
/-- the reading of a cell depends on its own slots alone -/
theorem sm_CR.keep {s0 : State} {D : va_G} {g : Nat → Nat} {h h' : am_H} {H H' : Heap} {i tag len : Nat} (c : sm_CR s0 D g h H i tag len) (hH : tag < 900 → H'[g i]? = H[g i]?) (h1 : ∀ k, h'.2.1 i k = h.2.1 i k) (h2 : ∀ k, h'.2.2.1 i k = h.2.2.1 i k) (h3 : ∀ k, h'.2.2.2 i k = h.2.2.2 i k) : sm_CR s0 D g h' H' i tag len := by
  have e : ∀ (ty : FieldType) (k : Nat), am_rd ty h' i k = am_rd ty h i k := by
    intro ty k
    unfold am_rd
    cases ty <;> simp only [h1, h2, h3]
  have e2 : (fun j => h'.2.1 i j) = fun j => h.2.1 i j := funext fun j => h1 j
  refine ⟨fun ht => ?_, fun ty a b e1 => ?_, fun ht => ?_, fun ht => ?_, fun ht => ?_⟩
  · obtain ⟨r, q1, q2⟩ := c.1 ht
    exact ⟨r, q1, (q2.kept (hH (by omega))).to (fun k _ => by rw [e])⟩
  · obtain ⟨q1, q2, q3, q4, q5⟩ := c.2.1 ty a b e1
    refine ⟨?_, q2, q3, fun j => by rw [e]; exact q4 j, q5⟩
    rw [hH b, q1]
    congr 2
    funext j
    rw [e]
  · rw [e2]
    exact c.2.2.1 ht
  · obtain ⟨q1, q2, b, q3, q4⟩ := c.2.2.2.1 ht
    exact ⟨q1, by rw [h1]; exact q2, b, by rw [h3]; exact q3, q4⟩
  · have e3 : (fun j => Value.int (h'.2.1 i j)) = fun j => Value.int (h.2.1 i j) := funext fun j => by rw [h1]
    rw [e3]
    exact c.2.2.2.2 ht
/-- one cell changes -/
theorem sm_HR.put {s0 : State} {D : va_G} {adS : Nat → Nat} {h h' : am_H} {H H' : Heap} (R : sm_HR s0 D adS h H) {a : Nat} (ha : 16 ≤ a) (hsh : h'.1 = h.1) (hz : H'.size = H.size) (hoq : ∀ q : Nat, q ≠ sm_g s0 adS a → H'[q]? = H[q]?)
    (h1 : ∀ i k, i ≠ a → h'.2.1 i k = h.2.1 i k) (h2 : ∀ i k, i ≠ a → h'.2.2.1 i k = h.2.2.1 i k) (h3 : ∀ i k, i ≠ a → h'.2.2.2 i k = h.2.2.2 i k) (hc : ∀ tag len : Nat, h.1[a]? = some (tag, len) → sm_CR s0 D (sm_g s0 adS) h' H' a tag len) : sm_HR s0 D adS h' H' := by
  refine ⟨by rw [hsh]; exact R.1, by rw [hsh, hz]; exact R.2.1, fun q hq => ?_, fun i tag len hi he => R.2.2.2.1 i tag len hi (by rw [← hsh]; exact he), fun i tag len he => ?_⟩
  · rw [hoq q (by rw [sm_g_hi ha]; omega)]
    exact R.2.2.1 q hq
  · rw [hsh] at he
    by_cases hia : i = a
    · subst hia
      exact hc tag len he
    · refine (R.2.2.2.2 i tag len he).keep (fun ht => hoq _ ?_) (fun k => h1 i k hia) (fun k => h2 i k hia) (fun k => h3 i k hia)
      have hi := R.big he ht
      rw [sm_g_hi ha, sm_g_hi hi]
      omega
/-- a new cell -/
theorem sm_HR.born {s0 : State} {D : va_G} {adS : Nat → Nat} {h : am_H} {H H' : Heap} (R : sm_HR s0 D adS h H) {tag n : Nat} (hz : H'.size = H.size + 1) (hoq : ∀ q : Nat, q < H.size → H'[q]? = H[q]?) (hc : sm_CR s0 D (sm_g s0 adS) (am_born h tag n) H' h.1.length tag n) : sm_HR s0 D adS (am_born h tag n) H' := by
  have hl : (am_born h tag n).1.length = h.1.length + 1 := by simp [am_born]
  have r1 := R.1
  have r2 := R.2.1
  refine ⟨by rw [hl]; omega, by rw [hl, hz]; omega, fun q hq => ?_, fun i t len hi he => ?_, fun i t len he => ?_⟩
  · rw [hoq q (by omega)]
    exact R.2.2.1 q hq
  · have : i < h.1.length := by omega
    rw [show (am_born h tag n).1 = h.1 ++ [(tag, n)] from rfl, List.getElem?_append_left this] at he
    exact R.2.2.2.1 i t len hi he
  · rw [show (am_born h tag n).1 = h.1 ++ [(tag, n)] from rfl] at he
    rcases Nat.lt_trichotomy i h.1.length with q | q | q
    · rw [List.getElem?_append_left q] at he
      have hi : ¬ i = h.1.length := by omega
      refine (R.2.2.2.2 i t len he).keep (fun ht => hoq _ ?_) (fun k => by simp [am_born, hi]) (fun k => by simp [am_born, hi]) (fun k => by simp [am_born, hi])
      have z := R.big he ht
      rw [sm_g_hi z]
      omega
    · subst q
      rw [List.getElem?_append_right (Nat.le_refl _), Nat.sub_self] at he
      simp at he
      obtain ⟨rfl, rfl⟩ := he
      exact hc
    · rw [List.getElem?_eq_none (by simp; omega)] at he
      cases he
/-- the locals -/
def sm_LR (g : Nat → Nat) (ls : Array Slot) (nL : Nat) (l : am_L) : Prop := ls.size = nL ∧ lv_wf ls ∧ l.length = nL ∧ ∀ (k : Nat) (v : Value), am_get l k = some v → ls[k]? = some (.val (sm_v g v))
def sm_al (g : Nat → Nat) (l : am_L) : List (Nat × Value) := (List.range l.length).filterMap (fun k => (am_get l k).map (fun v => (k, sm_v g v)))
theorem am_get_lt {l : am_L} {k : Nat} {v : Value} (h : am_get l k = some v) : k < l.length := by
  unfold am_get at h
  cases e : l[k]? with
  | none => rw [e] at h; cases h
  | some o => exact (List.getElem?_eq_some_iff.mp e).1
theorem sm_al_mem {g : Nat → Nat} {l : am_L} {k : Nat} {v : Value} (h : am_get l k = some v) : (k, sm_v g v) ∈ sm_al g l := List.mem_filterMap.mpr ⟨k, List.mem_range.mpr (am_get_lt h), by rw [h]; rfl⟩
theorem sm_LR.has {g : Nat → Nat} {ls : Array Slot} {nL : Nat} {l : am_L} (h : sm_LR g ls nL l) : lv_has ls nL (sm_al g l) := by
  refine ⟨h.1, h.2.1, fun q hq => ?_⟩
  obtain ⟨k, -, hk⟩ := List.mem_filterMap.mp hq
  cases e : am_get l k with
  | none => rw [e] at hk; cases hk
  | some v =>
    rw [e] at hk
    cases hk
    exact h.2.2.2 k v e
theorem am_get_set {l : am_L} {i k : Nat} {o : Option Value} (h : k ≠ i) : am_get (l.set i o) k = am_get l k := by
  unfold am_get
  rw [List.getElem?_set_ne (Ne.symm h)]
theorem am_get_self {l : am_L} {i : Nat} {o : Option Value} (h : i < l.length) : am_get (l.set i o) i = o := by
  unfold am_get
  rw [List.getElem?_set_self h]
theorem am_kill_length (l : am_L) (i : Nat) : (am_kill l i).length = l.length := by
  unfold am_kill
  split
  · rfl
  · split <;> simp
theorem am_kill_get {l : am_L} {i k : Nat} {v : Value} (h : am_get (am_kill l i) k = some v) : am_get l k = some v ∧ ¬ (k + 1 = i ∧ v.category = 2) := by
  have none_of : ∀ j, am_get (l.set j none) j = some v → False := by
    intro j hj
    have hl := am_get_lt hj
    rw [List.length_set] at hl
    rw [am_get_self hl] at hj
    cases hj
  cases i with
  | zero => exact ⟨h, fun q => by omega⟩
  | succ j =>
    rw [show am_kill l (j + 1) = (match am_get l j with
      | some (.long _) => l.set j none
      | some (.double _) => l.set j none
      | _ => l) from rfl] at h
    split at h
    · by_cases hkj : k = j
      · subst hkj
        exact (none_of _ h).elim
      · rw [am_get_set hkj] at h
        exact ⟨h, fun q => hkj (by omega)⟩
    · by_cases hkj : k = j
      · subst hkj
        exact (none_of _ h).elim
      · rw [am_get_set hkj] at h
        exact ⟨h, fun q => hkj (by omega)⟩
    · rename_i n1 n2
      refine ⟨h, fun q => ?_⟩
      have hkj : k = j := by omega
      subst hkj
      cases v with
      | long x => exact n1 x h
      | double x => exact n2 x h
      | int x => exact absurd q.2 (by simp [Value.category])
      | float x => exact absurd q.2 (by simp [Value.category])
      | null => exact absurd q.2 (by simp [Value.category])
      | ref x => exact absurd q.2 (by simp [Value.category])
      | retAddr x => exact absurd q.2 (by simp [Value.category])
theorem sm_LR.st1 {g : Nat → Nat} {ls' : Array Slot} {nL : Nat} {l : am_L} {i : Nat} {v : Value} (hn : l.length = nL) (hi : i < nL) (h : lv_has ls' nL ((i, sm_v g v) :: (sm_al g l).filter (fun q => !(q.1 == i) && !(q.1 + 1 == i && q.2.category == 2)))) : sm_LR g ls' nL (am_st1 l i v) := by
  refine ⟨h.1, h.2.1, by simp [am_st1, am_kill_length, hn], fun k w hk => ?_⟩
  unfold am_st1 at hk
  by_cases hki : k = i
  · subst hki
    rw [am_get_self (by rw [am_kill_length]; omega)] at hk
    cases hk
    exact h.2.2 (k, sm_v g v) List.mem_cons_self
  · rw [am_get_set hki] at hk
    obtain ⟨h1, h2⟩ := am_kill_get hk
    refine h.2.2 (k, sm_v g w) (List.mem_cons_of_mem _ (List.mem_filter.mpr ⟨sm_al_mem h1, ?_⟩))
    simp only [sm_v_cat, Bool.and_eq_true, Bool.not_eq_true', beq_eq_false_iff_ne, ne_eq, Bool.and_eq_false_iff]
    refine ⟨hki, ?_⟩
    by_cases hk1 : k + 1 = i
    · exact Or.inr fun z => h2 ⟨hk1, z⟩
    · exact Or.inl hk1
theorem sm_LR.st2 {g : Nat → Nat} {ls' : Array Slot} {nL : Nat} {l : am_L} {i : Nat} {v : Value} (hn : l.length = nL) (hi : i + 1 < nL) (h : lv_has ls' nL ((i, sm_v g v) :: (sm_al g l).filter (fun q => !(q.1 == i) && (!(q.1 == i + 1) && !(q.1 + 1 == i && q.2.category == 2))))) : sm_LR g ls' nL (am_st2 l i v) := by
  refine ⟨h.1, h.2.1, by simp [am_st2, am_kill_length, hn], fun k w hk => ?_⟩
  unfold am_st2 at hk
  by_cases hk1 : k = i + 1
  · subst hk1
    rw [am_get_self (by rw [List.length_set, am_kill_length]; omega)] at hk
    cases hk
  · rw [am_get_set hk1] at hk
    by_cases hki : k = i
    · subst hki
      rw [am_get_self (by rw [am_kill_length]; omega)] at hk
      cases hk
      exact h.2.2 (k, sm_v g v) List.mem_cons_self
    · rw [am_get_set hki] at hk
      obtain ⟨h1, h2⟩ := am_kill_get hk
      refine h.2.2 (k, sm_v g w) (List.mem_cons_of_mem _ (List.mem_filter.mpr ⟨sm_al_mem h1, ?_⟩))
      simp only [sm_v_cat, Bool.and_eq_true, Bool.not_eq_true', beq_eq_false_iff_ne, ne_eq, Bool.and_eq_false_iff]
      refine ⟨hki, hk1, ?_⟩
      by_cases hk2 : k + 1 = i
      · exact Or.inr fun z => h2 ⟨hk2, z⟩
      · exact Or.inl hk2
