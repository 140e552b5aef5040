/-! Words.add, Words.cut -/
/-- the words of what is left, k characters from i on; one that began at s may be open -/
def cw (x : Nat → Nat) : Nat → Nat → Nat → List (Nat × Nat)
  | 0, i, s => if s < i then [(s, i)] else []
  | k + 1, i, s => if x i = 32 then (if s < i then [(s, i)] else []) ++ cw x k (i + 1) (i + 1) else cw x k (i + 1) s
theorem cw_ok (x : Nat → Nat) : ∀ (k i s : Nat), ∀ p ∈ cw x k i s, p.1 < p.2 ∧ p.2 ≤ i + k := by
  intro k
  induction k with
  | zero =>
    intro i s p hp
    unfold cw at hp
    split at hp
    · rw [List.mem_singleton.mp hp]; exact ⟨by assumption, by simp⟩
    · cases hp
  | succ k ih =>
    intro i s p hp
    unfold cw at hp
    split at hp
    · rcases List.mem_append.mp hp with z | z
      · split at z
        · rw [List.mem_singleton.mp z]; exact ⟨by assumption, by simp⟩
        · cases z
      · have := ih _ _ p z
        exact ⟨this.1, by omega⟩
    · have := ih _ _ p hp
      exact ⟨this.1, by omega⟩
theorem cw_len (x : Nat → Nat) : ∀ (k i s : Nat), s ≤ i → 2 * (cw x k i s).length ≤ k + (i - s) + 1 := by
  intro k
  induction k with
  | zero =>
    intro i s h
    unfold cw
    split <;> simp <;> omega
  | succ k ih =>
    intro i s h
    unfold cw
    split
    · rw [List.length_append]
      have := ih (i + 1) (i + 1) (Nat.le_refl _)
      split
      · simp only [List.length_singleton]; omega
      · simp only [List.length_nil]; omega
    · have := ih (i + 1) s (by omega)
      omega
/-- the words from a up to b -/
def cutW (x : Nat → Nat) (a b : Nat) : List (Nat × Nat) := cw x (b - a) a a
theorem cutW_ok (x : Nat → Nat) {a b n : Nat} (h : a ≤ b) (hb : b ≤ n) (hn : n ≤ 1200) : wok n (cutW x a b) := by
  refine ⟨fun p hp => ?_, ?_⟩
  · have := cw_ok x _ _ _ p hp
    exact ⟨this.1, by omega⟩
  · have := cw_len x (b - a) a a (Nat.le_refl _)
    unfold cutW
    omega
def wdF (a : Nat) : Prop := a ≠ 588 ∧ a ≠ 589 ∧ a ≠ 590
theorem WDr.add {fi : Nat → Nat → Int32} {ws : List (Nat × Nat)} (h : WDr fi ws) (s e : Nat) : WDr (up2 (up2 (up2 fi 589 ws.length (nI s)) 590 ws.length (nI e)) 588 2 (nI (ws.length + 1))) (ws ++ [(s, e)]) := by
  refine ⟨by rw [up2_same, List.length_append]; rfl, fun k hk => ?_⟩
  rw [List.length_append] at hk
  have hk : k < ws.length + 1 := hk
  rw [up2_row _ _ (show (589 : Nat) ≠ 588 by decide), up2_row _ _ (show (589 : Nat) ≠ 590 by decide), up2_row _ _ (show (590 : Nat) ≠ 588 by decide)]
  by_cases e1 : k = ws.length
  · subst e1
    rw [up2_same, up2_same, List.getD_eq_getElem?_getD, List.getElem?_append_right (Nat.le_refl _), Nat.sub_self]
    exact ⟨rfl, rfl⟩
  · rw [up2_col _ _ e1, up2_col _ _ e1, up2_row _ _ (show (590 : Nat) ≠ 589 by decide), List.getD_eq_getElem?_getD, List.getElem?_append_left (by omega), ← List.getD_eq_getElem?_getD]
    exact h.2 k (by omega)
section WD
variable {d L : Nat} {fi : Nat → Nat → Int32} {fl : Nat → Nat → Int64} {fr : Nat → Nat → Option Nat} {F G : Nat} {x : Nat → Nat} {n : Nat} {ws : List (Nat × Nat)}
theorem ct_wadd (hF : FRok F G fr) (hW : WDr fi ws) {s e : Nat} (hs : s < 2 ^ 30) (he : e < 2 ^ 30) (hl : s < e → ws.length < 600) (hl2 : ws.length ≤ 600) : Rn d 134 0 [some (.ref 588), some (.int (nI s)), some (.int (nI e))] [] (SH L, fi, fl, fr) (fun v h' => v = none ∧ ∃ fi', h' = (SH L, fi', fl, fr) ∧ WDr fi' (ws ++ (if s < e then [(s, e)] else [])) ∧ ∀ a k, wdF a → fi' a k = fi a k) := by
  refine Rn.iload_n k_134 rfl rfl ?_
  refine Rn.iload_n k_134 rfl rfl ?_
  refine Rn.icmp_ge 47 k_134 rfl rfl (fun h1 => ?_) (fun h1 => ?_)
  · rw [nI_leI (by omega) (by omega)] at h1
    refine Rn.retv k_134 rfl q_134 rfl ?_
    rw [if_neg (by omega), List.append_nil]
    exact ⟨rfl, fi, rfl, hW, fun _ _ _ => rfl⟩
  · rw [nI_leI (by omega) (by omega)] at h1
    have hl := hl (by omega)
    refine Rn.aload_n k_134 rfl rfl ?_
    refine Rn.getI k_134 rfl rfl (s588 L) ?_
    refine Rn.aload_n k_134 rfl rfl ?_
    refine Rn.getA k_134 rfl rfl (s588 L) (hF.l 11 rfl) ?_
    refine Rn.alen k_134 rfl (s589 L) rfl (by decide) ?_
    rw [hW.1]
    refine Rn.icmp_ge 47 k_134 rfl rfl (fun h2 => ?_) (fun h2 => ?_)
    · exact absurd ((nI_leI (by omega) (by omega)).mp h2) (by omega)
    · refine Rn.aload_n k_134 rfl rfl ?_
      refine Rn.getA k_134 rfl rfl (s588 L) (hF.l 11 rfl) ?_
      refine Rn.aload_n k_134 rfl rfl ?_
      refine Rn.getI k_134 rfl rfl (s588 L) ?_
      refine Rn.iload_n k_134 rfl rfl ?_
      refine Rn.iastore (ws.length) k_134 rfl (s589 L) (hW.1) (by omega) (by decide) (rfl) ?_
      refine Rn.aload_n k_134 rfl rfl ?_
      refine Rn.getA k_134 rfl rfl (s588 L) (hF.l 12 rfl) ?_
      refine Rn.aload_n k_134 rfl rfl ?_
      refine Rn.getI k_134 rfl rfl (s588 L) ?_
      refine Rn.iload_n k_134 rfl rfl ?_
      refine Rn.iastore (ws.length) k_134 rfl (s590 L) (hW.1) (by omega) (by decide) (rfl) ?_
      refine Rn.aload_n k_134 rfl rfl ?_
      refine Rn.dupa k_134 rfl ?_
      refine Rn.getI k_134 rfl rfl (s588 L) ?_
      refine Rn.iconst (1) k_134 rfl rfl ?_
      rw [show up2 (up2 fi 589 ws.length (nI s)) 590 ws.length (nI e) 588 2 = nI ws.length from hW.1]
      refine Rn.iadd k_134 rfl ?_
      rw [c_add 1 1 rfl]
      refine Rn.putI k_134 rfl (rfl) (s588 L) ?_
      refine Rn.retv k_134 rfl q_134 rfl ?_
      rw [if_pos (by omega)]
      refine ⟨rfl, _, rfl, hW.add s e, fun a k ha => ?_⟩
      rw [up2_row _ _ ha.1, up2_row _ _ ha.2.2, up2_row _ _ ha.2.1]
theorem ct_cut (hF : FRok F G fr) (hT : TXr fi x n) {a b : Nat} (hab : a ≤ b) (hb : b ≤ n) : Rn (d + 1) 133 0 [some (.ref 588), some (.int (nI a)), some (.int (nI b)), none, none] [] (SH L, fi, fl, fr) (fun v h' => v = none ∧ ∃ fi', h' = (SH L, fi', fl, fr) ∧ WDr fi' (cutW x a b) ∧ ∀ a k, wdF a → fi' a k = fi a k) := by
  have hn := hT.2
  have loop : ∀ (k i s : Nat) (acc : List (Nat × Nat)) (gi : Nat → Nat → Int32), i + k = b → s ≤ i → a ≤ s → 2 * acc.length + (k + (i - s) + 1) ≤ 1201 → WDr gi acc → (∀ a k, wdF a → gi a k = fi a k) → acc ++ cw x k i s = cutW x a b → Rn (d + 1) 133 10 [some (.ref 588), some (.int (nI a)), some (.int (nI b)), some (.int (nI s)), some (.int (nI i))] [] (SH L, gi, fl, fr) (fun v h' => v = none ∧ ∃ fi', h' = (SH L, fi', fl, fr) ∧ WDr fi' (cutW x a b) ∧ ∀ a k, wdF a → fi' a k = fi a k) := by
    intro k
    induction k with
    | zero =>
      intro i s acc gi hi hsi has hq hW hg he
      have : i = b := by omega
      subst this
      refine Rn.iload k_133 rfl rfl ?_
      refine Rn.iload_n k_133 rfl rfl ?_
      refine Rn.icmp_gt 52 k_133 rfl rfl (fun h1 => ?_) (fun h1 => ?_)
      · exact absurd ((nI_ltI (by omega) (by omega)).mp h1) (by omega)
      · refine Rn.iload k_133 rfl rfl ?_
        refine Rn.iload_n k_133 rfl rfl ?_
        refine Rn.icmp_eq 34 k_133 rfl rfl (fun h2 => ?_) (fun h2 => ?_)
        · refine Rn.aload_n k_133 rfl rfl ?_
          refine Rn.iload_n k_133 rfl rfl ?_
          refine Rn.iload k_133 rfl rfl ?_
          refine Rn.cV3 k_133 rfl rfl q_134 rfl (Nat.le_of_ble_eq_true rfl) (Nat.le_of_ble_eq_true rfl) (s588 L) (ct_wadd hF hW (by omega) (by omega) (by omega) (by omega)) (fun v h1' hq' => ?_)
          obtain ⟨rfl, fi', rfl, hW', hg'⟩ := hq'
          show Rn _ _ _ _ [] _ _
          refine Rn.iload k_133 rfl rfl ?_
          refine Rn.iconst (1) k_133 rfl rfl ?_
          refine Rn.iadd k_133 rfl ?_
          rw [c_add 1 1 rfl]
          refine Rn.istore_n3 k_133 rfl rfl ?_
          refine Rn.iinc4 (1) k_133 rfl rfl rfl ?_
          rw [c_add 1 1 rfl]
          refine Rn.goto 10 k_133 rfl rfl ?_
          refine Rn.iload k_133 rfl rfl ?_
          refine Rn.iload_n k_133 rfl rfl ?_
          refine Rn.icmp_gt 52 k_133 rfl rfl (fun h1 => ?_) (fun h1 => ?_)
          · refine Rn.retv k_133 rfl q_133 rfl ?_
            refine ⟨rfl, fi', rfl, ?_, fun a k ha => (hg' a k ha).trans (hg a k ha)⟩
            rw [← he]
            exact hW'
          · exact absurd ((nI_ltI (by omega) (by omega)).mpr (by omega)) h1
        · exact absurd rfl h2
    | succ k ih =>
      intro i s acc gi hi hsi has hq hW hg he
      obtain ⟨t1, t2⟩ := hT.1 i (by omega)
      have t1 : gi 20 i = nI (x i) := (hg 20 i ⟨by decide, by decide, by decide⟩).trans t1
      refine Rn.iload k_133 rfl rfl ?_
      refine Rn.iload_n k_133 rfl rfl ?_
      refine Rn.icmp_gt 52 k_133 rfl rfl (fun h1 => ?_) (fun h1 => ?_)
      · exact absurd ((nI_ltI (by omega) (by omega)).mp h1) (by omega)
      · refine Rn.iload k_133 rfl rfl ?_
        refine Rn.iload_n k_133 rfl rfl ?_
        refine Rn.icmp_eq 34 k_133 rfl rfl (fun h2 => ?_) (fun h2 => ?_)
        · exact absurd ((nI_eq (by omega) (by omega)).mp h2) (by omega)
        · refine Rn.aload_n k_133 rfl rfl ?_
          refine Rn.getA k_133 rfl rfl (s588 L) (hF.l 13 rfl) ?_
          refine Rn.iload k_133 rfl rfl ?_
          refine Rn.caload (i) k_133 rfl (s20 L) (rfl) (by omega) (by decide) ?_
          rw [t1]
          refine Rn.bipush (32) k_133 rfl rfl ?_
          refine Rn.icmp_ne 46 k_133 rfl rfl (fun h3 => ?_) (fun h3 => ?_)
          · have h3 : ¬ x i = 32 := fun z => h3 ((c_eq 32 32 rfl (by omega) (by decide)).mpr z)
            refine Rn.iinc4 (1) k_133 rfl rfl rfl ?_
            rw [c_add 1 1 rfl]
            refine Rn.goto 10 k_133 rfl rfl ?_
            refine ih (i + 1) s acc gi (by omega) (by omega) has (by omega) hW hg ?_
            rw [← he, cw, if_neg h3]
          · rw [c_eq 32 32 rfl (by omega) (by decide)] at h3
            refine Rn.aload_n k_133 rfl rfl ?_
            refine Rn.iload_n k_133 rfl rfl ?_
            refine Rn.iload k_133 rfl rfl ?_
            refine Rn.cV3 k_133 rfl rfl q_134 rfl (Nat.le_of_ble_eq_true rfl) (Nat.le_of_ble_eq_true rfl) (s588 L) (ct_wadd hF hW (by omega) (by omega) (by omega) (by omega)) (fun v h1' hq' => ?_)
            obtain ⟨rfl, fi', rfl, hW', hg'⟩ := hq'
            show Rn _ _ _ _ [] _ _
            refine Rn.iload k_133 rfl rfl ?_
            refine Rn.iconst (1) k_133 rfl rfl ?_
            refine Rn.iadd k_133 rfl ?_
            rw [c_add 1 1 rfl]
            refine Rn.istore_n3 k_133 rfl rfl ?_
            refine Rn.iinc4 (1) k_133 rfl rfl rfl ?_
            rw [c_add 1 1 rfl]
            refine Rn.goto 10 k_133 rfl rfl ?_
            refine ih (i + 1) (i + 1) _ fi' (by omega) (Nat.le_refl _) (by omega) ?_ hW' (fun a k ha => (hg' a k ha).trans (hg a k ha)) ?_
            · rw [List.length_append]
              split
              · simp only [List.length_singleton]; omega
              · simp only [List.length_nil]; omega
            · rw [← he, cw, if_pos h3, List.append_assoc]
  refine Rn.aload_n k_133 rfl rfl ?_
  refine Rn.iconst (0) k_133 rfl rfl ?_
  refine Rn.putI k_133 rfl (rfl) (s588 L) ?_
  refine Rn.iload_n k_133 rfl rfl ?_
  refine Rn.istore_n3 k_133 rfl rfl ?_
  refine Rn.iload_n k_133 rfl rfl ?_
  refine Rn.istore4 k_133 rfl rfl ?_
  refine loop (b - a) a a [] _ (by omega) (Nat.le_refl _) (Nat.le_refl _) (by simp only [List.length_nil]; omega) ?_ ?_ rfl
  · exact ⟨up2_same _ _ _ _, fun k hk => absurd hk (Nat.not_lt_zero k)⟩
  · intro a k ha
    exact up2_row _ _ ha.1
end WD
