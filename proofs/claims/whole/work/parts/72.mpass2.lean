/-! THE REFERENCE: passes, passing -/
def mpQ (L : Nat) (fi : Nat → Nat → Int32) (fl : Nat → Nat → Int64) (fr : Nat → Nat → Option Nat) (y : Int32) : Option Value → am_H → Prop := fun v h' => v = some (.int y) ∧ ∃ fi', h' = (SH L, fi', fl, fr) ∧ fi' 604 0 = 0 ∧ ∀ a k, a ≠ 647 → (a ≠ 604 ∨ k ≠ 0) → fi' a k = fi a k
section MI
variable {d L : Nat} {fi : Nat → Nat → Int32} {fl : Nat → Nat → Int64} {fr : Nat → Nat → Option Nat} {F G : Nat} {x : Nat → Nat} {n : Nat} {A : AS} {S : List FS}
/-- the question whether a test goes through, as both ask it -/
theorem cm_through (hF : FRok F G fr) (hS : MFr fi x n A) (hA : AOk n A) (hM : MFl fi S) (hl : S.length ≤ 120) (hok : S = [] ∨ sOk S 1) {t : Nat} (ht : t < totW A.2.1) : (fi 604 38 = 0 ∧ psW A S t = true) ∨ (fi 604 38 = 1 ∧ Rn (d + 3) 69 0 [some (.ref 604), some (.int (nI t)), none, none] [] (SH L, fi, fl, fr) (mhQ L fi fl fr (psW A S t))) := by
  rcases hM with ⟨rfl, h2⟩ | ⟨h1, y, m, h2, h3, h4, h5, h6⟩
  · exact Or.inl ⟨h2, rfl⟩
  · exact Or.inr ⟨h4, cm_isThrough hF hS hA ⟨h2, h3⟩ h5 h6 hl (hok.resolve_left h1) ht⟩
theorem cm_passes (hF : FRok F G fr) (hS : MFr fi x n A) (hA : AOk n A) (hM : MFl fi S) (hl : S.length ≤ 120) (hok : S = [] ∨ sOk S 1) {t : Int32} : Rn (d + 4) 70 0 [some (.ref 604), some (.int t)] [] (SH L, fi, fl, fr) (mpQ L fi fl fr (bI (pasW A S t))) := by
  have h120 := hA.2.2.2.2.2.1
  have hS' := hS.keep0 hA
  have hM' : MFl (up2 fi 604 0 0) S := hM.keep (up2_col _ _ (by decide)) (up2_col _ _ (by decide)) (fun a k z1 z2 => up2_row _ _ (by omega))
  have k0 : ∀ a k, a ≠ 647 → (a ≠ 604 ∨ k ≠ 0) → up2 fi 604 0 0 a k = fi a k := fun a k _ h => by
    rcases h with h | h
    · exact up2_row _ _ h
    · exact up2_col _ _ h
  rcases tno_of A (by omega) t with ⟨e1, e2⟩ | ⟨q, hq, rfl, e1, e2⟩
  · refine Rn.aload_n k_70 rfl rfl ?_
    refine Rn.iconst (0) k_70 rfl rfl ?_
    refine Rn.putI k_70 rfl (rfl) (s604 L) ?_
    refine Rn.aload_n k_70 rfl rfl ?_
    refine Rn.iload_n k_70 rfl rfl ?_
    refine Rn.cV2I k_70 rfl rfl q_37 rfl (Nat.le_of_ble_eq_true rfl) (Nat.le_of_ble_eq_true rfl) (s604 L) (cm_isTest hS'.2.2.2.1) ?_
    rw [e2]
    refine Rn.if_eq 32 k_70 rfl rfl (fun h1 => ?_) (fun h1 => ?_)
    · refine Rn.iconst (0) k_70 rfl rfl ?_
      refine Rn.reti k_70 rfl q_70 rfl (rfl) ?_
      exact ⟨by unfold pasW; rw [e1]; rfl, _, rfl, up2_same _ _ _ _, k0⟩
    · exact absurd rfl h1
  · have ep : pasW A S (nI q) = psW A S q := by unfold pasW; rw [e1]
    rw [ep]
    refine Rn.aload_n k_70 rfl rfl ?_
    refine Rn.iconst (0) k_70 rfl rfl ?_
    refine Rn.putI k_70 rfl (rfl) (s604 L) ?_
    refine Rn.aload_n k_70 rfl rfl ?_
    refine Rn.iload_n k_70 rfl rfl ?_
    refine Rn.cV2I k_70 rfl rfl q_37 rfl (Nat.le_of_ble_eq_true rfl) (Nat.le_of_ble_eq_true rfl) (s604 L) (cm_isTest hS'.2.2.2.1) ?_
    rw [e2]
    refine Rn.if_eq 32 k_70 rfl rfl (fun h1 => ?_) (fun h1 => ?_)
    · exact absurd h1 (by decide)
    · rcases cm_through (d := d) (L := L) (fl := fl) hF hS' hA hM' hl hok hq with ⟨z1, z2⟩ | ⟨z1, z2⟩
      · refine Rn.aload_n k_70 rfl rfl ?_
        refine Rn.getI k_70 rfl rfl (s604 L) ?_
        rw [z1, z2]
        refine Rn.if_eq 28 k_70 rfl rfl (fun h2 => ?_) (fun h2 => ?_)
        · refine Rn.iconst (1) k_70 rfl rfl ?_
          refine Rn.goto 33 k_70 rfl rfl ?_
          refine Rn.reti k_70 rfl q_70 rfl (rfl) ?_
          exact ⟨rfl, _, rfl, up2_same _ _ _ _, k0⟩
        · exact absurd rfl h2
      · refine Rn.aload_n k_70 rfl rfl ?_
        refine Rn.getI k_70 rfl rfl (s604 L) ?_
        rw [z1]
        refine Rn.if_eq 28 k_70 rfl rfl (fun h2 => ?_) (fun h2 => ?_)
        · exact absurd h2 (by decide)
        · refine Rn.aload_n k_70 rfl rfl ?_
          refine Rn.iload_n k_70 rfl rfl ?_
          refine Rn.cV2 k_70 rfl rfl q_69 rfl (Nat.le_of_ble_eq_true rfl) (Nat.le_of_ble_eq_true rfl) (s604 L) (z2) (fun v h' hq => ?_)
          obtain ⟨rfl, g1, rfl, f1⟩ := hq
          show Rn _ _ _ _ (Value.int _ :: []) _ _
          have f0 : g1 604 0 = 0 := (f1 604 0 (by decide)).trans (up2_same _ _ _ _)
          have f2 : ∀ a k, a ≠ 647 → (a ≠ 604 ∨ k ≠ 0) → g1 a k = fi a k := fun a k ha hb => (f1 a k ha).trans (k0 a k ha hb)
          refine Rn.if_eq 32 k_70 rfl rfl (fun h3 => ?_) (fun h3 => ?_)
          · (try rw [bI_0] at h3)
            (try rw [Bool.not_eq_false] at h3)
            refine Rn.iconst (0) k_70 rfl rfl ?_
            refine Rn.reti k_70 rfl q_70 rfl (rfl) ?_
            rw [h3]
            exact ⟨rfl, g1, rfl, f0, f2⟩
          · (try rw [bI_0] at h3)
            (try rw [Bool.not_eq_false] at h3)
            refine Rn.iconst (1) k_70 rfl rfl ?_
            refine Rn.goto 33 k_70 rfl rfl ?_
            refine Rn.reti k_70 rfl q_70 rfl (rfl) ?_
            rw [h3]
            exact ⟨rfl, g1, rfl, f0, f2⟩
theorem cm_passing (hF : FRok F G fr) (hS : MFr fi x n A) (hA : AOk n A) (hM : MFl fi S) (hl : S.length ≤ 120) (hok : S = [] ∨ sOk S 1) : Rn (d + 4) 71 0 [some (.ref 604), none, none] [] (SH L, fi, fl, fr) (mpQ L fi fl fr (nI (pngW A S (totW A.2.1)))) := by
  have h120 := hA.2.2.2.2.2.1
  have loop : ∀ (p t : Nat) (gi : Nat → Nat → Int32), t + p = totW A.2.1 → gi 604 0 = 0 → (∀ a k, a ≠ 647 → (a ≠ 604 ∨ k ≠ 0) → gi a k = fi a k) → Rn (d + 4) 71 9 [some (.ref 604), some (.int (nI (pngW A S t))), some (.int (nI t))] [] (SH L, gi, fl, fr) (mpQ L fi fl fr (nI (pngW A S (totW A.2.1)))) := by
    intro p
    induction p with
    | zero =>
      intro t gi ht g0 hg
      refine Rn.iload_n k_71 rfl rfl ?_
      refine Rn.aload_n k_71 rfl rfl ?_
      refine Rn.getI k_71 rfl rfl (s604 L) ?_
      rw [hg 604 33 (by decide) (Or.inr (by decide)), hS.2.2.2.1]
      refine Rn.icmp_ge 46 k_71 rfl rfl (fun h1 => ?_) (fun h1 => ?_)
      · refine Rn.iload_n k_71 rfl rfl ?_
        refine Rn.reti k_71 rfl q_71 rfl (rfl) ?_
        exact ⟨by rw [show t = totW A.2.1 by omega], gi, rfl, g0, hg⟩
      · rw [nI_leI (by omega) (by omega)] at h1
        omega
    | succ p ih =>
      intro t gi ht g0 hg
      have hS' : MFr gi x n A := hS.keep hA (fun a k z => hg a k (by omega) (Or.inl (by omega))) (fun k z => hg 604 k (by decide) (Or.inr (by omega)))
      have hM' : MFl gi S := hM.keep (hg _ _ (by decide) (Or.inr (by decide))) (hg _ _ (by decide) (Or.inr (by decide))) (fun a k z1 z2 => hg _ _ (by omega) (Or.inl (by omega)))
      have hq : t < totW A.2.1 := by omega
      have ep : pngW A S (t + 1) = pngW A S t + (if psW A S t = true then 1 else 0) := rfl
      have back : ∀ (g : Nat → Nat → Int32) (b : Bool), b = psW A S t → g 604 0 = 0 → (∀ a k, a ≠ 647 → (a ≠ 604 ∨ k ≠ 0) → g a k = fi a k) → Rn (d + 4) 71 38 [some (.ref 604), some (.int (nI (pngW A S t))), some (.int (nI t))] [.int (bI b), .int (nI (pngW A S t))] (SH L, g, fl, fr) (mpQ L fi fl fr (nI (pngW A S (totW A.2.1)))) := by
        intro g b hb g0 hg
        have eb : bI b = nI (if psW A S t = true then 1 else 0) := by
          rw [hb]
          cases psW A S t <;> rfl
        rw [eb]
        refine Rn.iadd k_71 rfl ?_
        rw [nI_add, ← ep]
        refine Rn.istore_n1 k_71 rfl rfl ?_
        refine Rn.iinc2 (1) k_71 rfl rfl rfl ?_
        rw [c_add 1 1 rfl]
        refine Rn.goto 9 k_71 rfl rfl ?_
        exact ih (t + 1) g (by omega) g0 hg
      refine Rn.iload_n k_71 rfl rfl ?_
      refine Rn.aload_n k_71 rfl rfl ?_
      refine Rn.getI k_71 rfl rfl (s604 L) ?_
      rw [hg 604 33 (by decide) (Or.inr (by decide)), hS.2.2.2.1]
      refine Rn.icmp_ge 46 k_71 rfl rfl (fun h1 => ?_) (fun h1 => ?_)
      · rw [nI_leI (by omega) (by omega)] at h1
        omega
      · rcases cm_through (d := d) (L := L) (fl := fl) hF hS' hA hM' hl hok hq with ⟨z1, z2⟩ | ⟨z1, z2⟩
        · refine Rn.iload_n k_71 rfl rfl ?_
          refine Rn.aload_n k_71 rfl rfl ?_
          refine Rn.getI k_71 rfl rfl (s604 L) ?_
          rw [z1]
          refine Rn.if_eq 33 k_71 rfl rfl (fun h2 => ?_) (fun h2 => ?_)
          · refine Rn.iconst (1) k_71 rfl rfl ?_
            refine Rn.goto 38 k_71 rfl rfl ?_
            exact back gi true z2.symm g0 hg
          · exact absurd rfl h2
        · refine Rn.iload_n k_71 rfl rfl ?_
          refine Rn.aload_n k_71 rfl rfl ?_
          refine Rn.getI k_71 rfl rfl (s604 L) ?_
          rw [z1]
          refine Rn.if_eq 33 k_71 rfl rfl (fun h2 => ?_) (fun h2 => ?_)
          · exact absurd h2 (by decide)
          · refine Rn.aload_n k_71 rfl rfl ?_
            refine Rn.iload_n k_71 rfl rfl ?_
            refine Rn.cV2 k_71 rfl rfl q_69 rfl (Nat.le_of_ble_eq_true rfl) (Nat.le_of_ble_eq_true rfl) (s604 L) (z2) (fun v h' hq => ?_)
            obtain ⟨rfl, g1, rfl, f1⟩ := hq
            show Rn _ _ _ _ (Value.int _ :: Value.int _ :: []) _ _
            have f0 : g1 604 0 = 0 := (f1 604 0 (by decide)).trans g0
            have f2 : ∀ a k, a ≠ 647 → (a ≠ 604 ∨ k ≠ 0) → g1 a k = fi a k := fun a k ha hb => (f1 a k ha).trans (hg a k ha hb)
            refine Rn.if_eq 37 k_71 rfl rfl (fun h3 => ?_) (fun h3 => ?_)
            · (try rw [bI_0] at h3)
              (try rw [Bool.not_eq_false] at h3)
              refine Rn.iconst (0) k_71 rfl rfl ?_
              exact back g1 false h3.symm f0 f2
            · (try rw [bI_0] at h3)
              (try rw [Bool.not_eq_false] at h3)
              refine Rn.iconst (1) k_71 rfl rfl ?_
              refine Rn.goto 38 k_71 rfl rfl ?_
              exact back g1 true h3.symm f0 f2
  refine Rn.aload_n k_71 rfl rfl ?_
  refine Rn.iconst (0) k_71 rfl rfl ?_
  refine Rn.putI k_71 rfl (rfl) (s604 L) ?_
  refine Rn.iconst (0) k_71 rfl rfl ?_
  refine Rn.istore_n1 k_71 rfl rfl ?_
  refine Rn.iconst (0) k_71 rfl rfl ?_
  refine Rn.istore_n2 k_71 rfl rfl ?_
  refine loop (totW A.2.1) 0 _ (Nat.zero_add _) (up2_same _ _ _ _) (fun a k _ h => ?_)
  rcases h with h | h
  · exact up2_row _ _ h
  · exact up2_col _ _ h
end MI
