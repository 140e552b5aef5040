/-! THE REFERENCE: filter -/
/-- the filter in force: none, or the steps S -/
def MFl (fi : Nat → Nat → Int32) (S : List FS) : Prop := (S = [] ∧ fi 604 38 = 0) ∨ (S ≠ [] ∧ ∃ y n, n ≤ 120 ∧ (∀ k, k < n → fi 634 k = nI (y k) ∧ y k < 128) ∧ fi 604 38 = 1 ∧ fi 604 40 = nI S.length ∧ MSt fi y n 635 S)
theorem MFl.keep {fi fi' : Nat → Nat → Int32} {S : List FS} (h : MFl fi S) (e1 : fi' 604 38 = fi 604 38) (e2 : fi' 604 40 = fi 604 40) (e3 : ∀ a k, 634 ≤ a → a ≤ 639 → fi' a k = fi a k) : MFl fi' S := by
  rcases h with ⟨h1, h2⟩ | ⟨h1, y, n, h2, h3, h4, h5, h6⟩
  · exact Or.inl ⟨h1, e1.trans h2⟩
  · exact Or.inr ⟨h1, y, n, h2, fun k hk => by rw [e3 _ _ (by omega) (by omega)]; exact h3 k hk, e1.trans h4, e2.trans h5, h6.keep (fun a j z1 z2 _ => e3 a j (by omega) (by omega))⟩
/-- what a filter leaves as it was, whatever comes of it -/
def gF (a k : Nat) : Prop := (a ≠ 604 ∨ (k ≠ 0 ∧ k ≠ 1 ∧ k ≠ 46 ∧ k ≠ 47 ∧ k ≠ 54 ∧ k ≠ 55 ∧ k ≠ 56 ∧ k ≠ 57)) ∧ (a < 640 ∨ 646 < a)
def hF38 (a k : Nat) : Prop := (a ≠ 604 ∨ (k ≠ 38 ∧ k ≠ 40)) ∧ (a < 634 ∨ 639 < a)
def mflQ (L : Nat) (fi : Nat → Nat → Int32) (fl : Nat → Nat → Int64) (fr : Nat → Nat → Option Nat) (n : Nat) (r : List FS ⊕ Nat) : Option Value → am_H → Prop := fun v h' => ∃ fi', h' = (SH L, fi', fl, fr) ∧ fi' 604 0 = 0 ∧ fi' 604 1 = 0 ∧ (∀ a k, gF a k → hF38 a k → fi' a k = fi a k) ∧ ((120 < n ∧ v = some (.int 120) ∧ ∀ a k, gF a k → fi' a k = fi a k) ∨ (n ≤ 120 ∧ v = some (.int (fltI r)) ∧ (∀ p, r = .inr p → ∀ a k, gF a k → fi' a k = fi a k) ∧ ∀ S, r = .inl S → MFl fi' S))
theorem gF_fF {a k : Nat} (h : gF a k) : fF a k := ⟨by have := h.1; omega, by have := h.2; omega⟩
section MK
variable {d L : Nat} {fi : Nat → Nat → Int32} {fl : Nat → Nat → Int64} {fr : Nat → Nat → Option Nat} {F G : Nat} {y : Nat → Nat} {n : Nat}
set_option maxHeartbeats 2000000 in
theorem cm_filter (hF : FRok F G fr) (hm : fi 604 1 = nI n) (hn : n ≤ 1200) (ht : ∀ k, k < n → fi 605 k = nI (y k) ∧ y k < 128) {r : List FS ⊕ Nat} (hr : n ≤ 120 → ∃ f, mrun y n f (1, 0, [], [], 0) = some r) : Rn (d + 6) 64 0 [some (.ref 604), none, none] [] (SH L, fi, fl, fr) (mflQ L fi fl fr n r) := by
  -- behind the copy
  have aft : ∀ (f1 : Nat → Nat → Int32) (q2 : Int32), f1 604 0 = 0 → f1 604 1 = 0 → f1 604 46 = nI (min n 120) → (∀ a k, gF a k → f1 a k = fi a k) → (∀ k, k < min n 120 → f1 640 k = nI (y k)) → Rn (d + 6) 64 59 [some (.ref 604), some (.int (nI n)), some (.int q2)] [] (SH L, f1, fl, fr) (mflQ L fi fl fr n r) := by
    intro f1 q2 g0 g1 g46 k1 hc
    refine Rn.iload_n k_64 rfl rfl ?_
    refine Rn.bipush (120) k_64 rfl rfl ?_
    refine Rn.icmp_le 68 k_64 rfl rfl (fun h3 => ?_) (fun h3 => ?_)
    · rw [c_le 120 120 rfl (by omega) (by decide)] at h3
      have em : min n 120 = n := by omega
      rw [em] at g46 hc
      obtain ⟨f, hrun⟩ := hr h3
      refine Rn.aload_n k_64 rfl rfl ?_
      refine Rn.cV1 k_64 rfl rfl q_63 rfl (Nat.le_of_ble_eq_true rfl) (Nat.le_of_ble_eq_true rfl) (s604 L) (cm_readFilter hF (fun k hk => ⟨hc k hk, (ht k hk).2⟩) g46 h3 hrun) (fun v h' hq => ?_)
      obtain ⟨rfl, f2, rfl, k2, ka, kb⟩ := hq
      show Rn _ _ _ _ [] _ _
      have e0 : f2 604 0 = 0 := (k2 604 0 ⟨Or.inr (by decide), by decide⟩).trans g0
      have e1 : f2 604 1 = 0 := (k2 604 1 ⟨Or.inr (by decide), by decide⟩).trans g1
      have e46 : f2 604 46 = nI n := (k2 604 46 ⟨Or.inr (by decide), by decide⟩).trans g46
      have k3 : ∀ a k, gF a k → f2 a k = fi a k := fun a k ha => (k2 a k (gF_fF ha)).trans (k1 a k ha)
      have hc2 : ∀ k, k < n → f2 640 k = nI (y k) := fun k hk => (k2 640 k ⟨Or.inl (by decide), by decide⟩).trans (hc k hk)
      cases r with
      | inr p =>
        obtain ⟨hpn, e55⟩ := ka p rfl
        refine Rn.aload_n k_64 rfl rfl ?_
        refine Rn.getI k_64 rfl rfl (s604 L) ?_
        rw [e55]
        refine Rn.iconst (-1) k_64 rfl rfl ?_
        refine Rn.icmp_eq 85 k_64 rfl rfl (fun h4 => ?_) (fun h4 => ?_)
        · exact absurd h4 (c_m1 (by omega))
        · refine Rn.aload_n k_64 rfl rfl ?_
          refine Rn.getI k_64 rfl rfl (s604 L) ?_
          rw [e55]
          refine Rn.reti k_64 rfl q_64 rfl (rfl) ?_
          exact ⟨f2, rfl, e0, e1, fun a k ha _ => k3 a k ha, Or.inr ⟨h3, rfl, fun _ _ => k3, fun S hS => by cases hS⟩⟩
      | inl S =>
        obtain ⟨e55, hM⟩ := kb S rfl
        obtain ⟨hS1, hSn⟩ := mrun_ok f _ S mInv0 hrun
        have hne : S ≠ [] := fun z => by
          have := hS1.1
          rw [z] at this
          cases this
        -- the last loop
        have last : ∀ (m i : Nat) (g : Nat → Nat → Int32), i + m = S.length → (∀ a k, (a ≠ 604 ∨ (k ≠ 38 ∧ k ≠ 40)) → (a < 634 ∨ 639 < a) → g a k = f2 a k) → g 604 38 = 1 → g 604 40 = nI S.length → (∀ k, k < n → g 634 k = nI (y k)) → (∀ a j, 635 ≤ a → a ≤ 639 → j < i → g a j = f2 (a + 6) j) → Rn (d + 6) 64 128 [some (.ref 604), some (.int (nI n)), some (.int (nI i))] [] (SH L, g, fl, fr) (mflQ L fi fl fr n (.inl S)) := by
          intro m
          induction m with
          | zero =>
            intro i g hi kg g38 g40 hs hcol
            have g47 : g 604 47 = nI S.length := (kg _ _ (Or.inr (by decide)) (by decide)).trans hM.1
            refine Rn.iload_n k_64 rfl rfl ?_
            refine Rn.aload_n k_64 rfl rfl ?_
            refine Rn.getI k_64 rfl rfl (s604 L) ?_
            rw [g47]
            refine Rn.icmp_ge 202 k_64 rfl rfl (fun h6 => ?_) (fun h6 => ?_)
            · refine Rn.iconst (-1) k_64 rfl rfl ?_
              refine Rn.reti k_64 rfl q_64 rfl (rfl) ?_
              refine ⟨g, rfl, (kg _ _ (Or.inr (by decide)) (by decide)).trans e0, (kg _ _ (Or.inr (by decide)) (by decide)).trans e1, fun a k ha hb => (kg a k hb.1 hb.2).trans (k3 a k ha), Or.inr ⟨h3, rfl, (fun p hp => by cases hp), fun T hT => ?_⟩⟩
              cases hT
              refine Or.inr ⟨hne, y, n, h3, fun k hk => ⟨hs k hk, (ht k hk).2⟩, g38, g40, fun j hj => ?_⟩
              obtain ⟨m1, m2, m3, m4⟩ := hM.2 j hj
              have cp : ∀ a, 635 ≤ a → a ≤ 639 → g a j = f2 (a + 6) j := fun a z1 z2 => hcol a j z1 z2 (by omega)
              refine ⟨(cp 635 (by decide) (by decide)).trans m1, ?_, fun z => ?_, fun z => (cp 638 (by decide) (by decide)).trans (m4 z)⟩
              · obtain ⟨a, b, u1, u2, u3⟩ := m2
                exact ⟨a, b, (cp 636 (by decide) (by decide)).trans u1, (cp 637 (by decide) (by decide)).trans u2, u3⟩
              · obtain ⟨a, b, u1, u2, u3⟩ := m3 z
                exact ⟨a, b, (cp 638 (by decide) (by decide)).trans u1, (cp 639 (by decide) (by decide)).trans u2, u3⟩
            · rw [nI_leI (by omega) (by omega)] at h6
              omega
          | succ m ih =>
            intro i g hi kg g38 g40 hs hcol
            have g47 : g 604 47 = nI S.length := (kg _ _ (Or.inr (by decide)) (by decide)).trans hM.1
            have gr : ∀ a, 641 ≤ a → a ≤ 645 → g a i = f2 a i := fun a z1 z2 => kg _ _ (Or.inl (by omega)) (by omega)
            refine Rn.iload_n k_64 rfl rfl ?_
            refine Rn.aload_n k_64 rfl rfl ?_
            refine Rn.getI k_64 rfl rfl (s604 L) ?_
            rw [g47]
            refine Rn.icmp_ge 202 k_64 rfl rfl (fun h6 => ?_) (fun h6 => ?_)
            · rw [nI_leI (by omega) (by omega)] at h6
              omega
            · refine Rn.aload_n k_64 rfl rfl ?_
              refine Rn.getA k_64 rfl rfl (s604 L) (hF.l 59 rfl) ?_
              refine Rn.iload_n k_64 rfl rfl ?_
              refine Rn.aload_n k_64 rfl rfl ?_
              refine Rn.getA k_64 rfl rfl (s604 L) (hF.l 65 rfl) ?_
              refine Rn.iload_n k_64 rfl rfl ?_
              refine Rn.iaload (i) k_64 rfl (s641 L) (rfl) (by omega) (by decide) ?_
              refine Rn.iastore (i) k_64 rfl (s635 L) (rfl) (by omega) (by decide) (rfl) ?_
              refine Rn.aload_n k_64 rfl rfl ?_
              refine Rn.getA k_64 rfl rfl (s604 L) (hF.l 60 rfl) ?_
              refine Rn.iload_n k_64 rfl rfl ?_
              refine Rn.aload_n k_64 rfl rfl ?_
              refine Rn.getA k_64 rfl rfl (s604 L) (hF.l 66 rfl) ?_
              refine Rn.iload_n k_64 rfl rfl ?_
              refine Rn.iaload (i) k_64 rfl (s642 L) (rfl) (by omega) (by decide) ?_
              refine Rn.iastore (i) k_64 rfl (s636 L) (rfl) (by omega) (by decide) (rfl) ?_
              refine Rn.aload_n k_64 rfl rfl ?_
              refine Rn.getA k_64 rfl rfl (s604 L) (hF.l 61 rfl) ?_
              refine Rn.iload_n k_64 rfl rfl ?_
              refine Rn.aload_n k_64 rfl rfl ?_
              refine Rn.getA k_64 rfl rfl (s604 L) (hF.l 67 rfl) ?_
              refine Rn.iload_n k_64 rfl rfl ?_
              refine Rn.iaload (i) k_64 rfl (s643 L) (rfl) (by omega) (by decide) ?_
              refine Rn.iastore (i) k_64 rfl (s637 L) (rfl) (by omega) (by decide) (rfl) ?_
              refine Rn.aload_n k_64 rfl rfl ?_
              refine Rn.getA k_64 rfl rfl (s604 L) (hF.l 62 rfl) ?_
              refine Rn.iload_n k_64 rfl rfl ?_
              refine Rn.aload_n k_64 rfl rfl ?_
              refine Rn.getA k_64 rfl rfl (s604 L) (hF.l 68 rfl) ?_
              refine Rn.iload_n k_64 rfl rfl ?_
              refine Rn.iaload (i) k_64 rfl (s644 L) (rfl) (by omega) (by decide) ?_
              refine Rn.iastore (i) k_64 rfl (s638 L) (rfl) (by omega) (by decide) (rfl) ?_
              refine Rn.aload_n k_64 rfl rfl ?_
              refine Rn.getA k_64 rfl rfl (s604 L) (hF.l 63 rfl) ?_
              refine Rn.iload_n k_64 rfl rfl ?_
              refine Rn.aload_n k_64 rfl rfl ?_
              refine Rn.getA k_64 rfl rfl (s604 L) (hF.l 69 rfl) ?_
              refine Rn.iload_n k_64 rfl rfl ?_
              refine Rn.iaload (i) k_64 rfl (s645 L) (rfl) (by omega) (by decide) ?_
              refine Rn.iastore (i) k_64 rfl (s639 L) (rfl) (by omega) (by decide) (rfl) ?_
              refine Rn.iinc2 (1) k_64 rfl rfl rfl ?_
              rw [c_add 1 1 rfl]
              refine Rn.goto 128 k_64 rfl rfl ?_
              refine ih (i + 1) _ (by omega) (fun a k ha hb => ?_) g38 g40 (fun k hk => ?_) (fun a j z1 z2 z3 => ?_)
              · rw [up2_row _ _ (by omega), up2_row _ _ (by omega), up2_row _ _ (by omega), up2_row _ _ (by omega), up2_row _ _ (by omega)]
                exact kg a k ha hb
              · exact hs k hk
              · by_cases ej : j = i
                · subst ej
                  have ha : a = 635 ∨ a = 636 ∨ a = 637 ∨ a = 638 ∨ a = 639 := by omega
                  rcases ha with rfl | rfl | rfl | rfl | rfl
                  · rw [up2_row _ _ (by omega), up2_row _ _ (by omega), up2_row _ _ (by omega), up2_row _ _ (by omega), up2_same]; exact gr 641 (by omega) (by omega)
                  · rw [up2_row _ _ (by omega), up2_row _ _ (by omega), up2_row _ _ (by omega), up2_same]; exact gr 642 (by omega) (by omega)
                  · rw [up2_row _ _ (by omega), up2_row _ _ (by omega), up2_same]; exact gr 643 (by omega) (by omega)
                  · rw [up2_row _ _ (by omega), up2_same]; exact gr 644 (by omega) (by omega)
                  · rw [up2_same]; exact gr 645 (by omega) (by omega)
                · rw [up2_col _ _ ej, up2_col _ _ ej, up2_col _ _ ej, up2_col _ _ ej, up2_col _ _ ej]
                  exact hcol a j z1 z2 (by omega)
        have mid : ∀ (m i : Nat) (g : Nat → Nat → Int32), i + m = n → (∀ a k, (a ≠ 604 ∨ (k ≠ 38 ∧ k ≠ 40)) → a ≠ 634 → g a k = f2 a k) → g 604 38 = 1 → g 604 40 = nI S.length → (∀ k, k < i → g 634 k = nI (y k)) → Rn (d + 6) 64 100 [some (.ref 604), some (.int (nI n)), some (.int (nI i))] [] (SH L, g, fl, fr) (mflQ L fi fl fr n (.inl S)) := by
          intro m
          induction m with
          | zero =>
            intro i g hi kg g38 g40 hs
            have g46 : g 604 46 = nI n := (kg _ _ (Or.inr (by decide)) (by decide)).trans e46
            refine Rn.iload_n k_64 rfl rfl ?_
            refine Rn.aload_n k_64 rfl rfl ?_
            refine Rn.getI k_64 rfl rfl (s604 L) ?_
            rw [g46]
            refine Rn.icmp_ge 126 k_64 rfl rfl (fun h5 => ?_) (fun h5 => ?_)
            · refine Rn.iconst (0) k_64 rfl rfl ?_
              refine Rn.istore_n2 k_64 rfl rfl ?_
              exact last S.length 0 g (Nat.zero_add _) (fun a k ha hb => kg a k ha (by omega)) g38 g40 (fun k hk => hs k (by omega)) (fun a j _ _ z => absurd z (Nat.not_lt_zero j))
            · rw [nI_leI (by omega) (by omega)] at h5
              omega
          | succ m ih =>
            intro i g hi kg g38 g40 hs
            have g46 : g 604 46 = nI n := (kg _ _ (Or.inr (by decide)) (by decide)).trans e46
            refine Rn.iload_n k_64 rfl rfl ?_
            refine Rn.aload_n k_64 rfl rfl ?_
            refine Rn.getI k_64 rfl rfl (s604 L) ?_
            rw [g46]
            refine Rn.icmp_ge 126 k_64 rfl rfl (fun h5 => ?_) (fun h5 => ?_)
            · rw [nI_leI (by omega) (by omega)] at h5
              omega
            · refine Rn.aload_n k_64 rfl rfl ?_
              refine Rn.getA k_64 rfl rfl (s604 L) (hF.l 58 rfl) ?_
              refine Rn.iload_n k_64 rfl rfl ?_
              refine Rn.aload_n k_64 rfl rfl ?_
              refine Rn.getA k_64 rfl rfl (s604 L) (hF.l 64 rfl) ?_
              refine Rn.iload_n k_64 rfl rfl ?_
              refine Rn.iaload (i) k_64 rfl (s640 L) (rfl) (by omega) (by decide) ?_
              rw [kg 640 i (Or.inl (by decide)) (by decide), hc2 i (by omega)]
              refine Rn.iastore (i) k_64 rfl (s634 L) (rfl) (by omega) (by decide) (rfl) ?_
              refine Rn.iinc2 (1) k_64 rfl rfl rfl ?_
              rw [c_add 1 1 rfl]
              refine Rn.goto 100 k_64 rfl rfl ?_
              refine ih (i + 1) _ (by omega) (fun a k ha hb => (up2_row _ _ hb).trans (kg a k ha hb)) g38 g40 (fun k hk => ?_)
              by_cases ek : k = i
              · subst ek; exact up2_same _ _ _ _
              · rw [up2_col _ _ ek]; exact hs k (by omega)
        refine Rn.aload_n k_64 rfl rfl ?_
        refine Rn.getI k_64 rfl rfl (s604 L) ?_
        rw [e55]
        refine Rn.iconst (-1) k_64 rfl rfl ?_
        refine Rn.icmp_eq 85 k_64 rfl rfl (fun h4 => ?_) (fun h4 => ?_)
        · refine Rn.aload_n k_64 rfl rfl ?_
          refine Rn.iconst (1) k_64 rfl rfl ?_
          refine Rn.putI k_64 rfl (rfl) (s604 L) ?_
          refine Rn.aload_n k_64 rfl rfl ?_
          refine Rn.aload_n k_64 rfl rfl ?_
          refine Rn.getI k_64 rfl rfl (s604 L) ?_
          rw [show up2 f2 604 38 1 604 47 = nI S.length from hM.1]
          refine Rn.putI k_64 rfl (rfl) (s604 L) ?_
          refine Rn.iconst (0) k_64 rfl rfl ?_
          refine Rn.istore_n2 k_64 rfl rfl ?_
          refine mid n 0 _ (Nat.zero_add _) (fun a k ha hb => ?_) rfl rfl (fun k hk => absurd hk (Nat.not_lt_zero k))
          rcases ha with ha | ha
          · rw [up2_row _ _ ha, up2_row _ _ ha]
          · rw [up2_col _ _ ha.2, up2_col _ _ ha.1]
        · exact absurd rfl h4
    · rw [c_le 120 120 rfl (by omega) (by decide)] at h3
      refine Rn.bipush (120) k_64 rfl rfl ?_
      refine Rn.reti k_64 rfl q_64 rfl (rfl) ?_
      exact ⟨f1, rfl, g0, g1, fun a k ha _ => k1 a k ha, Or.inl ⟨by omega, rfl, k1⟩⟩
  have copy : ∀ (m i : Nat) (f1 : Nat → Nat → Int32), i + m = min n 120 → f1 604 0 = 0 → f1 604 1 = 0 → f1 604 46 = nI (min n 120) → (∀ a k, gF a k → f1 a k = fi a k) → (∀ k, k < i → f1 640 k = nI (y k)) → Rn (d + 6) 64 33 [some (.ref 604), some (.int (nI n)), some (.int (nI i))] [] (SH L, f1, fl, fr) (mflQ L fi fl fr n r) := by
    intro m
    induction m with
    | zero =>
      intro i f1 hi g0 g1 g46 k1 hc
      refine Rn.iload_n k_64 rfl rfl ?_
      refine Rn.aload_n k_64 rfl rfl ?_
      refine Rn.getI k_64 rfl rfl (s604 L) ?_
      rw [g46]
      refine Rn.icmp_ge 59 k_64 rfl rfl (fun h2 => ?_) (fun h2 => ?_)
      · exact aft f1 _ g0 g1 g46 k1 (fun k hk => hc k (by omega))
      · rw [nI_leI (by omega) (by omega)] at h2
        omega
    | succ m ih =>
      intro i f1 hi g0 g1 g46 k1 hc
      refine Rn.iload_n k_64 rfl rfl ?_
      refine Rn.aload_n k_64 rfl rfl ?_
      refine Rn.getI k_64 rfl rfl (s604 L) ?_
      rw [g46]
      refine Rn.icmp_ge 59 k_64 rfl rfl (fun h2 => ?_) (fun h2 => ?_)
      · rw [nI_leI (by omega) (by omega)] at h2
        omega
      · refine Rn.aload_n k_64 rfl rfl ?_
        refine Rn.getA k_64 rfl rfl (s604 L) (hF.l 64 rfl) ?_
        refine Rn.iload_n k_64 rfl rfl ?_
        refine Rn.aload_n k_64 rfl rfl ?_
        refine Rn.getA k_64 rfl rfl (s604 L) (hF.l 29 rfl) ?_
        refine Rn.iload_n k_64 rfl rfl ?_
        refine Rn.iaload (i) k_64 rfl (s605 L) (rfl) (by omega) (by decide) ?_
        rw [k1 605 i ⟨Or.inl (by decide), by decide⟩, (ht i (by omega)).1]
        refine Rn.iastore (i) k_64 rfl (s640 L) (rfl) (by omega) (by decide) (rfl) ?_
        refine Rn.iinc2 (1) k_64 rfl rfl rfl ?_
        rw [c_add 1 1 rfl]
        refine Rn.goto 33 k_64 rfl rfl ?_
        refine ih (i + 1) _ (by omega) g0 g1 g46 (fun a k ha => ?_) (fun k hk => ?_)
        · rw [up2_row _ _ (by have := ha.2; omega)]; exact k1 a k ha
        · by_cases ek : k = i
          · subst ek; exact up2_same _ _ _ _
          · rw [up2_col _ _ ek]; exact hc k (by omega)
  have k0' : ∀ (v : Int32), ∀ a k, gF a k → up2 (up2 (up2 fi 604 0 0) 604 1 0) 604 46 v a k = fi a k := by
    intro v a k ha
    rcases ha.1 with z | z
    · rw [up2_row _ _ z, up2_row _ _ z, up2_row _ _ z]
    · rw [up2_col _ _ (by omega), up2_col _ _ (by omega), up2_col _ _ (by omega)]
  refine Rn.aload_n k_64 rfl rfl ?_
  refine Rn.iconst (0) k_64 rfl rfl ?_
  refine Rn.putI k_64 rfl (rfl) (s604 L) ?_
  refine Rn.aload_n k_64 rfl rfl ?_
  refine Rn.getI k_64 rfl rfl (s604 L) ?_
  rw [show up2 fi 604 0 0 604 1 = nI n from hm]
  refine Rn.istore_n1 k_64 rfl rfl ?_
  refine Rn.aload_n k_64 rfl rfl ?_
  refine Rn.iconst (0) k_64 rfl rfl ?_
  refine Rn.putI k_64 rfl (rfl) (s604 L) ?_
  refine Rn.aload_n k_64 rfl rfl ?_
  refine Rn.iload_n k_64 rfl rfl ?_
  refine Rn.bipush (120) k_64 rfl rfl ?_
  refine Rn.icmp_le 27 k_64 rfl rfl (fun h1 => ?_) (fun h1 => ?_)
  · rw [c_le 120 120 rfl (by omega) (by decide)] at h1
    refine Rn.iload_n k_64 rfl rfl ?_
    refine Rn.putI k_64 rfl (rfl) (s604 L) ?_
    refine Rn.iconst (0) k_64 rfl rfl ?_
    refine Rn.istore_n2 k_64 rfl rfl ?_
    have em : min n 120 = n := by omega
    exact copy (min n 120) 0 _ (Nat.zero_add _) rfl rfl (by rw [em]; exact up2_same _ _ _ _) (k0' _) (fun k hk => absurd hk (Nat.not_lt_zero k))
  · rw [c_le 120 120 rfl (by omega) (by decide)] at h1
    refine Rn.bipush (120) k_64 rfl rfl ?_
    refine Rn.goto 28 k_64 rfl rfl ?_
    refine Rn.putI k_64 rfl (rfl) (s604 L) ?_
    refine Rn.iconst (0) k_64 rfl rfl ?_
    refine Rn.istore_n2 k_64 rfl rfl ?_
    have em : min n 120 = 120 := by omega
    exact copy (min n 120) 0 _ (Nat.zero_add _) rfl rfl (by rw [em]; exact up2_same _ _ _ _) (k0' _) (fun k hk => absurd hk (Nat.not_lt_zero k))
end MK
