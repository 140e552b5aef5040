/-! ScriptReader: tags -/
theorem eqvN {w : List Nm} {t : Nm} {cap : Nat} (hok : ∀ s ∈ w, okV s = true) (hne : t ≠ []) : (ncode t = 0 ∨ cap ≤ (w.map enc).length ∨ ncode t ∈ w.map enc) ↔ ¬ (okN t = true ∧ t ∉ w ∧ w.length < cap) := by
  rw [List.length_map]
  cases h : okN t with
  | false => rw [ncode_no h]; simp
  | true =>
    rw [ncode_ok h, mem_enc hok (okN_okV h)]
    have h0 := enc_pos (okN_okV h) hne
    constructor
    · rintro (z | z | z) ⟨-, z1, z2⟩
      · exact h0 z
      · omega
      · exact z1 z
    · intro z
      by_cases h10 : cap ≤ w.length
      · exact Or.inr (Or.inl h10)
      · refine Or.inr (Or.inr ?_)
        by_cases hm2 : t ∈ w
        · exact hm2
        · exact absurd ⟨rfl, hm2, by omega⟩ z
theorem TXr.keep {fi fi' : Nat → Nat → Int32} {x : Nat → Nat} {n : Nat} (h : TXr fi x n) (e : ∀ k, fi' 20 k = fi 20 k) : TXr fi' x n := ⟨fun k hk => by rw [e]; exact h.1 k hk, h.2⟩
theorem WDr.keep {fi fi' : Nat → Nat → Int32} {ws : List (Nat × Nat)} (h : WDr fi ws) (e : ∀ a k, 588 ≤ a → fi' a k = fi a k) : WDr fi' ws := ⟨by rw [e 588 2 (by decide)]; exact h.1, fun k hk => by rw [e 589 k (by decide), e 590 k (by decide)]; exact h.2 k hk⟩
section RD
variable {d L : Nat} {fi : Nat → Nat → Int32} {fl : Nat → Nat → Int64} {fr : Nat → Nat → Option Nat} {F G : Nat} {x : Nat → Nat} {n : Nat} {ws : List (Nat × Nat)}
/-- names come into a row, one behind another, each right, none twice, no more than eight -/
def addNs : List Nm → List Nm → Option (List Nm)
  | w, [] => some w
  | w, t :: ts => if okN t = true ∧ t ∉ w ∧ w.length < 8 then addNs (w ++ [t]) ts else none
/-- the loop of addTags, over whatever row r -/
theorem ct_tagLoop (hF : FRok F G fr) {r c : Nat} (hr : (SH L)[r]? = some (3, 2)) (hc : (SH L)[c]? = some (101, 8)) (hf : fr r 0 = some c) (hrn : ¬ rdF r) (hcn : ¬ rdF c) (hw : wok n ws) : ∀ (m i : Nat) (w : List Nm) (gi : Nat → Nat → Int32) (gl : Nat → Nat → Int64), i + m = ws.length → 1 ≤ i → TXr gi x n → WDr gi ws → NRr gi gl r c (w.map enc) → (∀ t ∈ w, okV t = true) → w.length ≤ 8 → ∀ Q : Option Value → am_H → Prop,
    (∀ gi' gl', (∀ a k, a ≠ r → gi' a k = gi a k) → (∀ a k, a ≠ c → gl' a k = gl a k) → addNs w ((ws.drop i).map (wd x)) = none → Q (some (.int 0)) (SH L, gi', gl', fr)) →
    (∀ gi' gl' w', (∀ a k, a ≠ r → gi' a k = gi a k) → (∀ k, k ≠ 1 → gi' r k = gi r k) → (∀ a k, a ≠ c → gl' a k = gl a k) → addNs w ((ws.drop i).map (wd x)) = some w' → NRr gi' gl' r c (w'.map enc) → Q (some (.int 1)) (SH L, gi', gl', fr)) →
    Rn (d + 3) 119 78 [some (.ref 585), some (.ref r), some (.int (nI i))] [] (SH L, gi, gl, fr) Q := by
  intro m
  induction m with
  | zero =>
    intro i w gi gl hi h1i hT hW hN hok hlen Q kf kt
    have hl6 := hw.2
    refine Rn.iload_n k_119 rfl rfl ?_
    refine Rn.aload_n k_119 rfl rfl ?_
    refine Rn.getA k_119 rfl rfl (s585 L) (hF.l 14 rfl) ?_
    refine Rn.getI k_119 rfl rfl (s588 L) ?_
    rw [hW.1]
    refine Rn.icmp_ge 112 k_119 rfl rfl (fun h1 => ?_) (fun h1 => ?_)
    · refine Rn.iconst (1) k_119 rfl rfl ?_
      refine Rn.reti k_119 rfl q_119 rfl (rfl) ?_
      refine kt gi gl w (fun _ _ _ => rfl) (fun _ _ => rfl) (fun _ _ _ => rfl) ?_ hN
      rw [List.drop_eq_nil_of_le (by omega)]
      rfl
    · exact absurd ((nI_leI (by omega) (by omega)).mpr (by omega)) h1
  | succ m ih =>
    intro i w gi gl hi h1i hT hW hN hok hlen Q kf kt
    have hl6 := hw.2
    have hil : i < ws.length := by omega
    have hww := wok_at hw hil
    have hne := wd_ne (x := x) hww.1
    have ed : (ws.drop i).map (wd x) = wd x (ws.getD i (0, 0)) :: (ws.drop (i + 1)).map (wd x) := by
      rw [List.drop_eq_getElem_cons hil, List.map_cons, List.getD_eq_getElem?_getD, List.getElem?_eq_getElem hil]
      rfl
    rw [ed] at kf kt
    have hr1 : r ≠ 20 ∧ r < 588 := by
      refine ⟨fun z => hrn (Or.inr (Or.inl z)), ?_⟩
      rcases Nat.lt_or_ge r 588 with z | z
      · exact z
      · exact absurd (Or.inr (Or.inr z)) hrn
    refine Rn.iload_n k_119 rfl rfl ?_
    refine Rn.aload_n k_119 rfl rfl ?_
    refine Rn.getA k_119 rfl rfl (s585 L) (hF.l 14 rfl) ?_
    refine Rn.getI k_119 rfl rfl (s588 L) ?_
    rw [hW.1]
    refine Rn.icmp_ge 112 k_119 rfl rfl (fun h1 => ?_) (fun h1 => ?_)
    · exact absurd ((nI_leI (by omega) (by omega)).mp h1) (by omega)
    · refine Rn.aload_n k_119 rfl rfl ?_
      refine Rn.aload_n k_119 rfl rfl ?_
      refine Rn.getA k_119 rfl rfl (s585 L) (hF.l 14 rfl) ?_
      refine Rn.iload_n k_119 rfl rfl ?_
      refine Rn.cV2L k_119 rfl rfl q_137 rfl (Nat.le_of_ble_eq_true rfl) (Nat.le_of_ble_eq_true rfl) (s588 L) (ct_name (k := i) hF hT hW hw (by omega)) ?_
      rw [if_pos hil]
      refine Rn.cV2 k_119 rfl rfl q_98 rfl (Nat.le_of_ble_eq_true rfl) (Nat.le_of_ble_eq_true rfl) hr (ct_add hr hc hf (by decide) hN (by rw [List.length_map]; exact hlen) (ncode_lt _)) (fun v h3 hq => ?_)
      generalize wd x (ws.getD i (0, 0)) = t at hne ed kf kt hq
      have eqv := eqvN (cap := 8) hok hne
      by_cases hgood : okN t = true ∧ t ∉ w ∧ w.length < 8
      · rw [if_neg (fun z => eqv.mp z hgood)] at hq
        obtain ⟨rfl, rfl⟩ := hq
        show Rn _ _ _ _ (Value.int 1 :: []) _ _
        refine Rn.if_ne 106 k_119 rfl rfl (fun h2 => ?_) (fun h2 => ?_)
        · refine Rn.iinc2 (1) k_119 rfl rfl rfl ?_
          rw [c_add 1 1 rfl]
          refine Rn.goto 78 k_119 rfl rfl ?_
          have e2 : addNs w (t :: (ws.drop (i + 1)).map (wd x)) = addNs (w ++ [t]) ((ws.drop (i + 1)).map (wd x)) := by
            rw [addNs, if_pos hgood]
          rw [e2] at kf kt
          refine ih (i + 1) (w ++ [t]) _ _ (by omega) (by omega) (hT.keep (fun k => up2_row _ _ (Ne.symm hr1.1))) (hW.keep (fun a k ha => up2_row _ _ (by omega))) ?_ ?_ ?_ Q ?_ ?_
          · have := hN.add (ncode_lt t) (by rw [List.length_map]; omega)
            rw [ncode_ok hgood.1] at this ⊢
            rw [List.map_append]
            exact this
          · intro s hs
            rcases List.mem_append.mp hs with z | z
            · exact hok s z
            · rw [List.mem_singleton.mp z]; exact okN_okV hgood.1
          · rw [List.length_append]; exact hgood.2.2
          · intro gi' gl' z1 z2 z3
            exact kf gi' gl' (fun a k ha => (z1 a k ha).trans (up2_row _ _ ha)) (fun a k ha => (z2 a k ha).trans (up2_row _ _ ha)) z3
          · intro gi' gl' w' z1 z1' z2 z3 z4
            exact kt gi' gl' w' (fun a k ha => (z1 a k ha).trans (up2_row _ _ ha)) (fun k hk => (z1' k hk).trans (up2_col _ _ hk)) (fun a k ha => (z2 a k ha).trans (up2_row _ _ ha)) z3 z4
        · exact absurd h2 (by decide)
      · rw [if_pos (eqv.mpr hgood)] at hq
        obtain ⟨rfl, rfl⟩ := hq
        show Rn _ _ _ _ (Value.int 0 :: []) _ _
        refine Rn.if_ne 106 k_119 rfl rfl (fun h2 => ?_) (fun h2 => ?_)
        · exact absurd rfl h2
        · refine Rn.iconst (0) k_119 rfl rfl ?_
          refine Rn.reti k_119 rfl q_119 rfl (rfl) ?_
          exact kf gi gl (fun _ _ _ => rfl) (fun _ _ _ => rfl) (by rw [addNs, if_neg hgood])
/-- tags into the open case -/
theorem tagsW_case (ss : List (Nm × List Nm)) (ks : List KS) : ∀ (ts : List Nm) (k : KS), tagsW (ss, ks ++ [k], true) ts = (match addNs (atg ss k) ts with
  | none => none
  | some w => some (ss, ks ++ [(k_su k, k_nm k, k_ln k, k_sz k, k_rs k, k_fl k, w.drop (stg ss (k_su k)).length, k_ps k)], true)) := by
  intro ts
  induction ts with
  | nil =>
    intro k
    show some _ = some _
    congr 4
    show [k] = [(k_su k, k_nm k, k_ln k, k_sz k, k_rs k, k_fl k, (atg ss k).drop (stg ss (k_su k)).length, k_ps k)]
    unfold atg
    rw [List.drop_append_of_le_length (Nat.le_refl _), List.drop_length, List.nil_append]
    rfl
  | cons t ts ih =>
    intro k
    show (match tagW (ss, ks ++ [k], true) t with
      | none => none
      | some B => tagsW B ts) = _
    unfold tagW addNs
    by_cases h1 : okN t = false
    · rw [if_pos h1, if_neg (by rw [h1]; simp)]
    · rw [if_neg h1]
      have h1 : okN t = true := by simpa using h1
      simp only [if_true, List.getLast?_concat, List.dropLast_concat]
      by_cases h2 : t ∈ atg ss k ∨ 8 ≤ (atg ss k).length
      · rw [if_pos h2, if_neg]
        rintro ⟨-, z1, z2⟩
        rcases h2 with h2 | h2
        · exact z1 h2
        · omega
      · rw [if_neg h2, if_pos ⟨h1, fun z => h2 (Or.inl z), by omega⟩]
        dsimp only
        rw [ih]
        have e : atg ss (k_su k, k_nm k, k_ln k, k_sz k, k_rs k, k_fl k, k_tg k ++ [t], k_ps k) = atg ss k ++ [t] := by
          show stg ss (k_su k) ++ (k_tg k ++ [t]) = stg ss (k_su k) ++ k_tg k ++ [t]
          rw [List.append_assoc]
        rw [e]
        rfl
/-- tags into the last suite -/
theorem tagsW_suite (ss : List (Nm × List Nm)) (ks : List KS) : ∀ (ts : List Nm) (s : Nm × List Nm), tagsW (ss ++ [s], ks, false) ts = (match addNs s.2 ts with
  | none => none
  | some w => some (ss ++ [(s.1, w)], ks, false)) := by
  intro ts
  induction ts with
  | nil => intro s; rfl
  | cons t ts ih =>
    intro s
    show (match tagW (ss ++ [s], ks, false) t with
      | none => none
      | some B => tagsW B ts) = _
    unfold tagW addNs
    by_cases h1 : okN t = false
    · rw [if_pos h1, if_neg (by rw [h1]; simp)]
    · rw [if_neg h1]
      have h1 : okN t = true := by simpa using h1
      simp only [Bool.false_eq_true, if_false, List.getLast?_concat, List.dropLast_concat]
      by_cases h2 : t ∈ s.2 ∨ 8 ≤ s.2.length
      · rw [if_pos h2, if_neg]
        rintro ⟨-, z1, z2⟩
        rcases h2 with h2 | h2
        · exact z1 h2
        · omega
      · rw [if_neg h2, if_pos ⟨h1, fun z => h2 (Or.inl z), by omega⟩]
        dsimp only
        rw [ih]
end RD
