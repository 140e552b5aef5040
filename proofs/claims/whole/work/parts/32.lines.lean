/-! a line keeps what is held -/
/-- words in their order -/
def wsrt (ws : List (Nat × Nat)) : Prop := ws.Pairwise (fun p q => p.2 ≤ q.1)
theorem cw_srt (x : Nat → Nat) : ∀ (k i s : Nat), s ≤ i → wsrt (cw x k i s) ∧ ∀ p ∈ cw x k i s, s ≤ p.1 := by
  intro k
  induction k with
  | zero =>
    intro i s h
    unfold cw wsrt
    split
    · exact ⟨List.pairwise_singleton _ _, fun p hp => by rw [List.mem_singleton.mp hp]; exact Nat.le_refl _⟩
    · exact ⟨List.Pairwise.nil, fun p hp => by cases hp⟩
  | succ k ih =>
    intro i s h
    unfold cw
    split
    · obtain ⟨i1, i2⟩ := ih (i + 1) (i + 1) (Nat.le_refl _)
      split
      · refine ⟨List.pairwise_cons.mpr ⟨fun q hq => ?_, i1⟩, fun p hp => ?_⟩
        · have := i2 q hq
          show i ≤ q.1
          omega
        · rcases List.mem_cons.mp hp with z | z
          · rw [z]; exact Nat.le_refl _
          · have := i2 p z; omega
      · exact ⟨i1, fun p hp => by have := i2 p hp; omega⟩
    · exact ih (i + 1) s (by omega)
theorem cutW_srt (x : Nat → Nat) (a b : Nat) : wsrt (cutW x a b) := (cw_srt x _ _ _ (Nat.le_refl _)).1
theorem onLast_shut {A : AS} (h : A.2.2 = false) (f : KS → Option KS) : onLast A f = none := by unfold onLast; rw [if_neg (by rw [h]; decide)]
theorem lineW_nil (x : Nat → Nat) (A : AS) (line : Nat) : lineW x A line [] = some A := rfl
theorem lineW_eq (x : Nat → Nat) (A : AS) (line : Nat) (w0 : Nat × Nat) (rest : List (Nat × Nat)) : lineW x A line (w0 :: rest) = if x w0.1 = 35 then some A else
    if wd x w0 = [115, 117, 105, 116, 101] then suiteL x A (rest.map (wd x)) else if wd x w0 = [99, 97, 115, 101] then caseL A line (rest.map (wd x)) else
    if wd x w0 = [116, 97, 103] then tagL A (rest.map (wd x)) else if wd x w0 = [119, 105, 116, 104] then withL A (rest.map (wd x)) else
    if wd x w0 = [115, 105, 122, 101] then sizeL x A rest else if wd x w0 = [115, 107, 105, 112] then skipL A (w0 :: rest) rest else
    if wd x w0 = [102, 97, 105, 108, 115] then failL A rest else none := rfl
theorem withL_shut {A : AS} (h : A.2.2 = false) (ts : List Nm) : withL A ts = none := by
  unfold withL
  split
  · rw [onLast_shut h]
    split <;> rfl
  · rfl
theorem sizeL_shut {A : AS} (h : A.2.2 = false) (x : Nat → Nat) (r : List (Nat × Nat)) : sizeL x A r = none := by
  unfold sizeL
  split
  · rw [onLast_shut h]; split <;> rfl
  · rfl
theorem skipL_shut {A : AS} (h : A.2.2 = false) (ws r : List (Nat × Nat)) : skipL A ws r = none := by
  unfold skipL
  split
  · rfl
  · rw [onLast_shut h]
theorem failL_shut {A : AS} (h : A.2.2 = false) (r : List (Nat × Nat)) : failL A r = none := by
  unfold failL
  rw [onLast_shut h]
  split <;> rfl
section AK
variable {n : Nat} {ss : List (Nm × List Nm)} {ks : List KS} {k k' : KS} {A B : AS} {x : Nat → Nat}
theorem AOk.setLast (hA : AOk n (ss, ks ++ [k], true)) (hk : KOk ss n k') (hsu : k_su k' = k_su k) (ht : totW (ks ++ [k']) ≤ 120) : AOk n (ss, ks ++ [k'], true) := by
  obtain ⟨a1, a2, a3, a4, a5, a6, a7, a8⟩ := hA
  refine ⟨a1, a2, a3, ?_, ?_, ht, fun _ => ⟨by show ks ++ [k'] ≠ []; simp, fun q hq => ?_⟩, fun z => by cases z⟩
  · have a4 : (ks ++ [k]).length ≤ 40 := a4
    show (ks ++ [k']).length ≤ 40
    rw [List.length_append] at a4 ⊢
    exact a4
  · intro q hq
    rcases List.mem_append.mp hq with z | z
    · exact a5 q (List.mem_append.mpr (Or.inl z))
    · rw [List.mem_singleton.mp z]; exact hk
  · have hq : (ks ++ [k']).getLast? = some q := hq
    rw [List.getLast?_concat] at hq
    cases hq
    rw [hsu]
    exact (a7 rfl).2 k (by show (ks ++ [k]).getLast? = some k; simp)
theorem KOk.grow {s : Nm × List Nm} (h : KOk ss n k) : KOk (ss ++ [s]) n k := by
  obtain ⟨h1, h2, h3, h4, h5, h6, h7, h8, h9⟩ := h
  have e : atg (ss ++ [s]) k = atg ss k := by unfold atg; rw [stg_app _ _ h1]
  exact ⟨by rw [List.length_append]; omega, h2, h3, h4, h5, h6, by rw [e]; exact h7, by rw [e]; exact h8, h9⟩
theorem KOk.ungrow {s s' : Nm × List Nm} (h : KOk (ss ++ [s]) n k) (hl : k_su k ≤ ss.length) : KOk (ss ++ [s']) n k := by
  obtain ⟨h1, h2, h3, h4, h5, h6, h7, h8, h9⟩ := h
  have e : atg (ss ++ [s']) k = atg (ss ++ [s]) k := by unfold atg; rw [stg_app _ _ hl, stg_app _ _ hl]
  exact ⟨by rw [List.length_append]; omega, h2, h3, h4, h5, h6, by rw [e]; exact h7, by rw [e]; exact h8, h9⟩
theorem suiteL_ok (hA : AOk n A) {ts : List Nm} (ht : ∀ t ∈ ts, t ≠ []) (h : suiteL x A ts = some B) : AOk n B := by
  unfold suiteL at h
  split at h
  · rename_i t
    split at h
    · rename_i hg
      cases h
      obtain ⟨a1, a2, a3, a4, a5, a6, a7, a8⟩ := hA
      refine ⟨?_, ?_, ?_, a4, fun q hq => (a5 q hq).grow, a6, (fun z => by cases z), fun _ q hq => Or.inr ?_⟩
      · show (A.1 ++ [(t, ([] : List Nm))]).length ≤ 10
        rw [List.length_append]; exact hg.2.1
      · intro s hs
        rcases List.mem_append.mp hs with z | z
        · exact a2 s z
        · rw [List.mem_singleton.mp z]
          exact ⟨hg.1, ht t (by simp), Nat.zero_le _, List.nodup_nil, fun u hu => by cases hu⟩
      · show ((A.1 ++ [(t, ([] : List Nm))]).map (·.1)).Nodup
        rw [List.map_append, List.nodup_append]
        refine ⟨a3, by simp, fun u hu v hv => ?_⟩
        have : v = t := by simpa using hv
        rw [this]
        exact fun z => hg.2.2 (z ▸ hu)
      · have := (a5 q hq).1
        show k_su q < (A.1 ++ [(t, ([] : List Nm))]).length
        rw [List.length_append]
        exact Nat.lt_succ_of_le this
    · cases h
  · cases h
theorem caseL_ok (hA : AOk n A) {ts : List Nm} {line : Nat} (ht : ∀ t ∈ ts, t ≠ []) (h : caseL A line ts = some B) : AOk n B := by
  unfold caseL at h
  split at h
  · rename_i t
    split at h
    · rename_i hg
      cases h
      obtain ⟨a1, a2, a3, a4, a5, a6, a7, a8⟩ := hA
      refine ⟨a1, a2, a3, ?_, ?_, ?_, fun _ => ⟨by show A.2.1 ++ _ ≠ []; simp, fun q hq => ?_⟩, fun z => by cases z⟩
      · show (A.2.1 ++ [_]).length ≤ 40
        rw [List.length_append]; exact hg.2.1
      · intro q hq
        rcases List.mem_append.mp hq with z | z
        · exact a5 q z
        · rw [List.mem_singleton.mp z]
          have e : (stg A.1 A.1.length).length ≤ 8 ∧ (stg A.1 A.1.length).Nodup := by
            cases hl : A.1.length with
            | zero => exact ⟨Nat.zero_le _, List.nodup_nil⟩
            | succ q =>
              show (A.1.getD q ([], [])).2.length ≤ 8 ∧ (A.1.getD q ([], [])).2.Nodup
              rw [List.getD_eq_getElem?_getD, List.getElem?_eq_getElem (show q < A.1.length by omega)]
              have := a2 _ (List.getElem_mem (show q < A.1.length by omega))
              exact ⟨this.2.2.1, this.2.2.2.1⟩
          refine ⟨Nat.le_refl _, hg.1, ht t (by simp), Nat.zero_le _, (fun r hr => by cases hr), (fun u hu => by cases hu), ?_, ?_, Nat.zero_le _, (fun u hu => by cases hu), List.nodup_nil, by show (1 : Nat) ≤ 24; decide⟩
          · show (stg A.1 A.1.length ++ []).length ≤ 8
            rw [List.append_nil]; exact e.1
          · show (stg A.1 A.1.length ++ []).Nodup
            rw [List.append_nil]; exact e.2
      · show totW (A.2.1 ++ [_]) ≤ 120
        rw [totW_app]
        exact hg.2.2.1
      · have hq : (A.2.1 ++ [_]).getLast? = some q := hq
        rw [List.getLast?_concat] at hq
        cases hq
        rfl
    · cases h
  · cases h
theorem tagW_ok (hA : AOk n A) {t : Nm} (ht : t ≠ []) (h : tagW A t = some B) : AOk n B := by
  unfold tagW at h
  split at h
  · cases h
  · rename_i hok
    have hok : okN t = true := by simpa using hok
    split at h
    · rename_i hc
      obtain ⟨ss, ks, k, rfl, hsu⟩ := hA.inK hc
      simp only [List.getLast?_concat, List.dropLast_concat] at h
      split at h
      · cases h
      · rename_i hg
        cases h
        have hk := hA.2.2.2.2.1 k (by show k ∈ ks ++ [k]; simp)
        obtain ⟨h1, h2, h3, h4, h5, h6, h7, h8, h9⟩ := hk
        have e : atg ss (k_su k, k_nm k, k_ln k, k_sz k, k_rs k, k_fl k, k_tg k ++ [t], k_ps k) = atg ss k ++ [t] := by
          show stg ss (k_su k) ++ (k_tg k ++ [t]) = stg ss (k_su k) ++ k_tg k ++ [t]
          rw [List.append_assoc]
        refine hA.setLast ⟨h1, h2, h3, h4, h5, ?_, ?_, ?_, h9⟩ rfl ?_
        · intro u hu
          rcases List.mem_append.mp hu with z | z
          · exact h6 u z
          · rw [List.mem_singleton.mp z]; exact ⟨hok, ht⟩
        · rw [e, List.length_append]
          have : ¬ 8 ≤ (atg ss k).length := fun z => hg (Or.inr z)
          show _ + 1 ≤ 8
          omega
        · rw [e, List.nodup_append]
          refine ⟨h8, by simp, fun u hu v hv => ?_⟩
          have : v = t := by simpa using hv
          rw [this]
          exact fun z => hg (Or.inl (z ▸ hu))
        · have := hA.2.2.2.2.2.1
          have this : totW (ks ++ [k]) ≤ 120 := this
          rw [totW_app] at this ⊢
          exact this
    · rename_i hc
      have hc : A.2.2 = false := by simpa using hc
      by_cases hn : A.1 = []
      · rw [hn] at h
        cases h
      · obtain ⟨ss, s, ks, rfl⟩ := AOk.noK hc hn
        simp only [List.getLast?_concat, List.dropLast_concat] at h
        split at h
        · cases h
        · rename_i hg
          cases h
          obtain ⟨a1, a2, a3, a4, a5, a6, a7, a8⟩ := hA
          have hs := a2 s (by show s ∈ ss ++ [s]; simp)
          refine ⟨?_, ?_, ?_, a4, fun q hq => ?_, a6, (fun z => by cases z), fun _ q hq => ?_⟩
          · have a1 : (ss ++ [s]).length ≤ 10 := a1
            show (ss ++ [_]).length ≤ 10
            rw [List.length_append] at a1 ⊢
            exact a1
          · intro u hu
            rcases List.mem_append.mp hu with z | z
            · exact a2 u (List.mem_append.mpr (Or.inl z))
            · rw [List.mem_singleton.mp z]
              refine ⟨hs.1, hs.2.1, ?_, ?_, ?_⟩
              · rw [List.length_append]
                have : ¬ 8 ≤ s.2.length := fun z => hg (Or.inr z)
                show _ + 1 ≤ 8
                omega
              · rw [List.nodup_append]
                refine ⟨hs.2.2.2.1, by simp, fun u hu v hv => ?_⟩
                have : v = t := by simpa using hv
                rw [this]
                exact fun z => hg (Or.inl (z ▸ hu))
              · intro v hv
                rcases List.mem_append.mp hv with z | z
                · exact hs.2.2.2.2 v z
                · rw [List.mem_singleton.mp z]; exact ⟨hok, ht⟩
          · have a3 : ((ss ++ [s]).map (·.1)).Nodup := a3
            show ((ss ++ [(s.1, s.2 ++ [t])]).map (·.1)).Nodup
            rw [List.map_append] at a3 ⊢
            exact a3
          · have := a8 rfl q hq
            have this : (ss ++ [s]).length = 0 ∨ k_su q < (ss ++ [s]).length := this
            rw [List.length_append] at this
            refine (a5 q hq).ungrow ?_
            rcases this with z | z
            · exact absurd z (by simp)
            · exact Nat.lt_succ_iff.mp z
          · have := a8 rfl q hq
            have this : (ss ++ [s]).length = 0 ∨ k_su q < (ss ++ [s]).length := this
            show (ss ++ [(s.1, s.2 ++ [t])]).length = 0 ∨ k_su q < (ss ++ [(s.1, s.2 ++ [t])]).length
            rw [List.length_append] at this ⊢
            exact this
theorem tagsW_ok : ∀ {ts : List Nm} {A B : AS}, AOk n A → (∀ t ∈ ts, t ≠ []) → tagsW A ts = some B → AOk n B
  | [], A, B, hA, _, h => by cases h; exact hA
  | t :: ts, A, B, hA, ht, h => by
    unfold tagsW at h
    split at h
    · cases h
    · rename_i C hC
      exact tagsW_ok (tagW_ok hA (ht t (by simp)) hC) (fun u hu => ht u (List.mem_cons_of_mem _ hu)) h
theorem valsOk_ok : ∀ (vs acc : List Nm), valsOk acc vs = true → (∀ v ∈ vs, okV v = true ∧ v ∉ acc) ∧ vs.Nodup
  | [], acc, _ => ⟨(fun v hv => by cases hv), List.nodup_nil⟩
  | v :: vs, acc, h => by
    unfold valsOk at h
    rw [Bool.and_eq_true, Bool.and_eq_true] at h
    obtain ⟨i1, i2⟩ := valsOk_ok vs (acc ++ [v]) h.2
    refine ⟨fun u hu => ?_, List.nodup_cons.mpr ⟨fun z => ?_, i2⟩⟩
    · rcases List.mem_cons.mp hu with z | z
      · rw [z]; exact ⟨h.1.1, of_decide_eq_true h.1.2⟩
      · exact ⟨(i1 u z).1, fun y => (i1 u z).2 (List.mem_append.mpr (Or.inl y))⟩
    · exact (i1 v z).2 (by simp)
theorem withL_ok (hA : AOk n A) {ts : List Nm} (ht : ∀ t ∈ ts, t ≠ []) (h : withL A ts = some B) : AOk n B := by
  by_cases hc : A.2.2 = true
  · obtain ⟨ss, ks, k, rfl, hsu⟩ := hA.inK hc
    match ts, ht, h with
    | [], _, h => cases h
    | t :: vs, ht, h =>
      rw [withL_eq] at h
      split at h
      · rename_i hg
        cases h
        obtain ⟨⟨g1, g2, g3, g4⟩, ⟨g5, g6, g7⟩, g8⟩ := hg
        obtain ⟨h1, h2, h3, h4, h5, h6, h7, h8, h9, h10, h11, h12⟩ := hA.2.2.2.2.1 k (by show k ∈ ks ++ [k]; simp)
        obtain ⟨v1, v2⟩ := valsOk_ok vs [] g4
        have ew : ways (k_ps k ++ [(t, vs)]) = ways (k_ps k) * vs.length := ways_app _ _
        refine hA.setLast ⟨h1, h2, h3, h4, h5, h6, h7, h8, ?_, ?_, ?_, ?_⟩ rfl ?_
        · show (k_ps k ++ [(t, vs)]).length ≤ 4
          rw [List.length_append]; exact g5
        · intro p hp
          rcases List.mem_append.mp hp with z | z
          · exact h10 p z
          · rw [List.mem_singleton.mp z]
            exact ⟨g1, ht t (by simp), g2, g3, fun v hv => ⟨(v1 v hv).1, ht v (List.mem_cons_of_mem _ hv)⟩, v2⟩
        · show ((k_ps k ++ [(t, vs)]).map (·.1)).Nodup
          rw [List.map_append, List.nodup_append]
          refine ⟨h11, by simp, fun u hu v hv => ?_⟩
          have : v = t := by simpa using hv
          rw [this]
          exact fun z => g6 (z ▸ hu)
        · show ways (k_ps k ++ [(t, vs)]) ≤ 24
          rw [ew]; exact g7
        · rw [totW_app]
          show totW ks + ways (k_ps k ++ [(t, vs)]) ≤ 120
          rw [ew]; exact g8
      · cases h
  · rw [withL_shut (by simpa using hc)] at h
    cases h
theorem totW_same (ks : List KS) {k k' : KS} (h : k_ps k' = k_ps k) : totW (ks ++ [k']) = totW (ks ++ [k]) := by rw [totW_app, totW_app, h]
theorem sizeL_ok (hA : AOk n A) {r : List (Nat × Nat)} (h : sizeL x A r = some B) : AOk n B := by
  by_cases hc : A.2.2 = true
  · obtain ⟨ss, ks, k, rfl, hsu⟩ := hA.inK hc
    unfold sizeL at h
    split at h
    · rename_i w
      split at h
      · cases h
      · rw [onLast_app] at h
        by_cases hz : k_sz k = 0
        · rw [if_pos hz] at h
          cases h
          obtain ⟨h1, h2, h3, h4, h5⟩ := hA.2.2.2.2.1 k (by show k ∈ ks ++ [k]; simp)
          exact hA.setLast ⟨h1, h2, h3, wnum_le x w, h5⟩ rfl (Nat.le_trans (Nat.le_of_eq (totW_same ks (k := k) rfl)) hA.2.2.2.2.2.1)
        · rw [if_neg hz] at h; cases h
    · cases h
  · rw [sizeL_shut (by simpa using hc)] at h
    cases h
theorem skipL_ok (hA : AOk n A) {w0 : Nat × Nat} {r : List (Nat × Nat)} (hw : wok n (w0 :: r)) (hs : wsrt (w0 :: r)) (h : skipL A (w0 :: r) r = some B) : AOk n B := by
  by_cases hc : A.2.2 = true
  · obtain ⟨ss, ks, k, rfl, hsu⟩ := hA.inK hc
    unfold skipL at h
    split at h
    · cases h
    · rename_i w r'
      rw [onLast_app] at h
      by_cases hz : k_rs k = none
      · rw [if_pos hz] at h
        cases h
        obtain ⟨h1, h2, h3, h4, h5, h6⟩ := hA.2.2.2.2.1 k (by show k ∈ ks ++ [k]; simp)
        refine hA.setLast ⟨h1, h2, h3, h4, fun q hq => ?_, h6⟩ rfl (Nat.le_trans (Nat.le_of_eq (totW_same ks (k := k) rfl)) hA.2.2.2.2.2.1)
        cases hq
        have hlast : (w0 :: w :: r').getLastD (0, 0) = (w :: r').getLast (by simp) := by
          simp [List.getLastD]
        rw [hlast]
        have hm := List.getLast_mem (l := w :: r') (by simp)
        refine ⟨?_, (hw.1 _ (List.mem_cons_of_mem _ hm)).2⟩
        have hw1 := hw.1 w (by simp)
        unfold wsrt at hs
        rw [List.pairwise_cons, List.pairwise_cons] at hs
        rcases List.mem_cons.mp hm with z | z
        · rw [z]; exact hw1.1
        · have := hs.2.1 _ z
          have h9 := (hw.1 _ (List.mem_cons_of_mem _ hm)).1
          show w.1 < _
          omega
      · rw [if_neg hz] at h; cases h
  · rw [skipL_shut (by simpa using hc)] at h
    cases h
theorem failL_ok (hA : AOk n A) {r : List (Nat × Nat)} (h : failL A r = some B) : AOk n B := by
  by_cases hc : A.2.2 = true
  · obtain ⟨ss, ks, k, rfl, hsu⟩ := hA.inK hc
    unfold failL at h
    split at h
    · rw [onLast_app] at h
      by_cases hz : k_fl k = false
      · rw [if_pos hz] at h
        cases h
        obtain ⟨h1, h2, h3, h4, h5⟩ := hA.2.2.2.2.1 k (by show k ∈ ks ++ [k]; simp)
        exact hA.setLast ⟨h1, h2, h3, h4, h5⟩ rfl (Nat.le_trans (Nat.le_of_eq (totW_same ks (k := k) rfl)) hA.2.2.2.2.2.1)
      · rw [if_neg hz] at h; cases h
    · cases h
  · rw [failL_shut (by simpa using hc)] at h
    cases h
theorem lineW_ok (hA : AOk n A) {ws : List (Nat × Nat)} {line : Nat} (hw : wok n ws) (hs : wsrt ws) (h : lineW x A line ws = some B) : AOk n B := by
  match ws, hw, hs, h with
  | [], _, _, h => cases h; exact hA
  | w0 :: rest, hw, hs, h =>
    have ht : ∀ t ∈ rest.map (wd x), t ≠ [] := by
      intro t ht
      obtain ⟨w, hw2, rfl⟩ := List.mem_map.mp ht
      exact wd_ne (hw.1 w (List.mem_cons_of_mem _ hw2)).1
    rw [lineW_eq] at h
    split at h
    · cases h; exact hA
    · split at h
      · exact suiteL_ok hA ht h
      · split at h
        · exact caseL_ok hA ht h
        · split at h
          · unfold tagL at h
            split at h
            · cases h
            · exact tagsW_ok hA ht h
          · split at h
            · exact withL_ok hA ht h
            · split at h
              · exact sizeL_ok hA h
              · split at h
                · exact skipL_ok hA hw hs h
                · split at h
                  · exact failL_ok hA h
                  · cases h
end AK
