/-! passes, passing of the class -/
def psW (A : AS) (S : List FS) (t : Nat) : Bool := thr (atm A.1 (A.2.1.getD (tix A.2.1 t).1 dK) (tix A.2.1 t).2) S
def pasW (A : AS) (S : List FS) (x : Int32) : Bool := match tno A x with
  | none => false
  | some t => psW A S t
/-- how many of the first t tests go through -/
def pngW (A : AS) (S : List FS) : Nat → Nat
  | 0 => 0
  | t + 1 => pngW A S t + (if psW A S t = true then 1 else 0)
theorem pngW_le (A : AS) (S : List FS) : ∀ t, pngW A S t ≤ t
  | 0 => Nat.le_refl _
  | t + 1 => by
    have := pngW_le A S t
    unfold pngW
    split <;> omega
section PA
variable {d L : Nat} {fi : Nat → Nat → Int32} {fl : Nat → Nat → Int64} {fr : Nat → Nat → Option Nat} {F G : Nat} {x : Nat → Nat} {n : Nat} {A : AS} {S : List FS}
theorem ct_passes (hF : FRok F G fr) (hFG : FG F G) (hS : FSr fi fl x n A) (hA : AOk n A) (hT : STp fi fl F S) (hl : S.length ≤ 120) (hok : S = [] ∨ sOk S 1) {t : Int32} : Rn (d + 5) 10 0 [some (.ref 16), some (.int t)] [] (SH L, fi, fl, fr) (hoQ L fi fl fr F (pasW A S t)) := by
  have h120 := hA.2.2.2.2.2.1
  rcases tno_of A (by omega) t with ⟨e1, e2⟩ | ⟨q, hq, rfl, e1, e2⟩
  · refine Rn.aload_n k_10 rfl rfl ?_
    refine Rn.getA k_10 rfl rfl (s16 L) (hF.l 7 rfl) ?_
    refine Rn.iload_n k_10 rfl rfl ?_
    refine Rn.cV2I k_10 rfl rfl q_111 rfl (Nat.le_of_ble_eq_true rfl) (Nat.le_of_ble_eq_true rfl) (s19 L) (ct_has' hS hA) ?_
    rw [e2]
    refine Rn.if_eq 34 k_10 rfl rfl (fun h1 => ?_) (fun h1 => ?_)
    · refine Rn.iconst (0) k_10 rfl rfl ?_
      refine Rn.reti k_10 rfl q_10 rfl (rfl) ?_
      exact ⟨by unfold pasW; rw [e1]; rfl, fi, rfl, fun _ _ _ => rfl⟩
    · exact absurd rfl h1
  · obtain ⟨t1, t2, t3⟩ := tix_ok _ _ hq
    have ep : pasW A S (nI q) = psW A S q := by unfold pasW; rw [e1]
    refine Rn.aload_n k_10 rfl rfl ?_
    refine Rn.getA k_10 rfl rfl (s16 L) (hF.l 7 rfl) ?_
    refine Rn.iload_n k_10 rfl rfl ?_
    refine Rn.cV2I k_10 rfl rfl q_111 rfl (Nat.le_of_ble_eq_true rfl) (Nat.le_of_ble_eq_true rfl) (s19 L) (ct_has' hS hA) ?_
    rw [e2]
    refine Rn.if_eq 34 k_10 rfl rfl (fun h1 => ?_) (fun h1 => ?_)
    · exact absurd h1 (by decide)
    · refine Rn.aload_n k_10 rfl rfl ?_
      refine Rn.getA k_10 rfl rfl (s16 L) hF.2.2.2.2 ?_
      refine Rn.aload_n k_10 rfl rfl ?_
      refine Rn.getA k_10 rfl rfl (s16 L) (hF.l 7 rfl) ?_
      refine Rn.iload_n k_10 rfl rfl ?_
      refine Rn.cV2A k_10 rfl rfl q_112 rfl (Nat.le_of_ble_eq_true rfl) (Nat.le_of_ble_eq_true rfl) (s19 L) (ct_caseOf' hF hS hA hq) ?_
      refine Rn.iload_n k_10 rfl rfl ?_
      rw [show nI q = nI (totW (A.2.1.take (tix A.2.1 q).1) + (tix A.2.1 q).2) by rw [t3]]
      refine Rn.cV3 k_10 rfl rfl q_78 rfl (Nat.le_of_ble_eq_true rfl) (Nat.le_of_ble_eq_true rfl) (hFG.sF L) (ct_holds hF hFG.xF hS hA hT hl hok t1 t2) (fun v h' hq => ?_)
      obtain ⟨rfl, g1, rfl, f1⟩ := hq
      rw [t3, ep]
      show Rn _ _ _ _ (Value.int (bI (psW A S q)) :: []) _ _
      refine Rn.if_eq 34 k_10 rfl rfl (fun h2 => ?_) (fun h2 => ?_)
      · (try rw [bI_0] at h2)
        (try rw [Bool.not_eq_false] at h2)
        refine Rn.iconst (0) k_10 rfl rfl ?_
        refine Rn.reti k_10 rfl q_10 rfl (rfl) ?_
        exact ⟨by rw [h2]; rfl, g1, rfl, f1⟩
      · (try rw [bI_0] at h2)
        (try rw [Bool.not_eq_false] at h2)
        refine Rn.iconst (1) k_10 rfl rfl ?_
        refine Rn.goto 35 k_10 rfl rfl ?_
        refine Rn.reti k_10 rfl q_10 rfl (rfl) ?_
        exact ⟨by rw [h2]; rfl, g1, rfl, f1⟩
theorem ct_passing (hF : FRok F G fr) (hFG : FG F G) (hS : FSr fi fl x n A) (hA : AOk n A) (hT : STp fi fl F S) (hl : S.length ≤ 120) (hok : S = [] ∨ sOk S 1) : Rn (d + 5) 11 0 [some (.ref 16), none, none] [] (SH L, fi, fl, fr) (fun v h' => v = some (.int (nI (pngW A S (totW A.2.1)))) ∧ ∃ fi', h' = (SH L, fi', fl, fr) ∧ ∀ a k, a ≠ F + 4 → fi' a k = fi a k) := by
  have h120 := hA.2.2.2.2.2.1
  have hXo := hFG.xF.out
  have loop : ∀ (m t : Nat) (gi : Nat → Nat → Int32), t + m = totW A.2.1 → (∀ a k, a ≠ F + 4 → gi a k = fi a k) → Rn (d + 5) 11 4 [some (.ref 16), some (.int (nI (pngW A S t))), some (.int (nI t))] [] (SH L, gi, fl, fr) (fun v h' => v = some (.int (nI (pngW A S (totW A.2.1)))) ∧ ∃ fi', h' = (SH L, fi', fl, fr) ∧ ∀ a k, a ≠ F + 4 → fi' a k = fi a k) := by
    intro m
    induction m with
    | zero =>
      intro t gi ht hg
      have hS' : FSr gi fl x n A := hS.keep hA (fun a q u1 u2 => hg a q (by omega)) (fun _ _ _ _ => rfl)
      refine Rn.iload_n k_11 rfl rfl ?_
      refine Rn.aload_n k_11 rfl rfl ?_
      refine Rn.getA k_11 rfl rfl (s16 L) (hF.l 7 rfl) ?_
      refine Rn.getI k_11 rfl rfl (s19 L) ?_
      rw [hS'.2.2.2.1]
      refine Rn.icmp_ge 43 k_11 rfl rfl (fun h1 => ?_) (fun h1 => ?_)
      · refine Rn.iload_n k_11 rfl rfl ?_
        refine Rn.reti k_11 rfl q_11 rfl (rfl) ?_
        exact ⟨by rw [show t = totW A.2.1 by omega], gi, rfl, hg⟩
      · rw [nI_leI (by omega) (by omega)] at h1
        omega
    | succ m ih =>
      intro t gi ht hg
      have hS' : FSr gi fl x n A := hS.keep hA (fun a q u1 u2 => hg a q (by omega)) (fun _ _ _ _ => rfl)
      have hT' : STp gi fl F S := hT.keep (hg _ _ (by omega)) (fun q => hg _ _ (by omega)) (fun _ _ _ _ => rfl)
      have hq : t < totW A.2.1 := by omega
      obtain ⟨t1, t2, t3⟩ := tix_ok _ _ hq
      have ep : pngW A S (t + 1) = pngW A S t + (if psW A S t = true then 1 else 0) := rfl
      refine Rn.iload_n k_11 rfl rfl ?_
      refine Rn.aload_n k_11 rfl rfl ?_
      refine Rn.getA k_11 rfl rfl (s16 L) (hF.l 7 rfl) ?_
      refine Rn.getI k_11 rfl rfl (s19 L) ?_
      rw [hS'.2.2.2.1]
      refine Rn.icmp_ge 43 k_11 rfl rfl (fun h1 => ?_) (fun h1 => ?_)
      · rw [nI_leI (by omega) (by omega)] at h1
        omega
      · refine Rn.aload_n k_11 rfl rfl ?_
        refine Rn.getA k_11 rfl rfl (s16 L) hF.2.2.2.2 ?_
        refine Rn.aload_n k_11 rfl rfl ?_
        refine Rn.getA k_11 rfl rfl (s16 L) (hF.l 7 rfl) ?_
        refine Rn.iload_n k_11 rfl rfl ?_
        refine Rn.cV2A k_11 rfl rfl q_112 rfl (Nat.le_of_ble_eq_true rfl) (Nat.le_of_ble_eq_true rfl) (s19 L) (ct_caseOf' hF hS' hA hq) ?_
        refine Rn.iload_n k_11 rfl rfl ?_
        rw [show (Value.int (nI t) :: Value.ref (25 + 14 * (tix A.2.1 t).1) :: Value.ref F :: []) = (Value.int (nI (totW (A.2.1.take (tix A.2.1 t).1) + (tix A.2.1 t).2)) :: Value.ref (25 + 14 * (tix A.2.1 t).1) :: Value.ref F :: []) by rw [t3]]
        refine Rn.cV3 k_11 rfl rfl q_78 rfl (Nat.le_of_ble_eq_true rfl) (Nat.le_of_ble_eq_true rfl) (hFG.sF L) (ct_holds hF hFG.xF hS' hA hT' hl hok t1 t2) (fun v h' hq => ?_)
        obtain ⟨rfl, g1, rfl, f1⟩ := hq
        show Rn _ _ _ _ (Value.int (bI (psW A S t)) :: []) _ _
        have f1 : ∀ a k, a ≠ F + 4 → g1 a k = fi a k := fun a k ha => (f1 a k ha).trans (hg a k ha)
        refine Rn.if_eq 37 k_11 rfl rfl (fun h2 => ?_) (fun h2 => ?_)
        · (try rw [bI_0] at h2)
          (try rw [Bool.not_eq_false] at h2)
          have ep : pngW A S (t + 1) = pngW A S t := by rw [ep, h2]; rfl
          refine Rn.iinc2 (1) k_11 rfl rfl rfl ?_
          rw [c_add 1 1 rfl]
          refine Rn.goto 4 k_11 rfl rfl ?_
          rw [← ep]
          exact ih (t + 1) g1 (by omega) f1
        · (try rw [bI_0] at h2)
          (try rw [Bool.not_eq_false] at h2)
          rw [h2, if_pos rfl] at ep
          refine Rn.iinc1 (1) k_11 rfl rfl rfl ?_
          rw [c_add 1 1 rfl]
          refine Rn.iinc2 (1) k_11 rfl rfl rfl ?_
          rw [c_add 1 1 rfl]
          refine Rn.goto 4 k_11 rfl rfl ?_
          rw [← ep]
          exact ih (t + 1) g1 (by omega) f1
  refine Rn.iconst (0) k_11 rfl rfl ?_
  refine Rn.istore_n1 k_11 rfl rfl ?_
  refine Rn.iconst (0) k_11 rfl rfl ?_
  refine Rn.istore_n2 k_11 rfl rfl ?_
  exact loop (totW A.2.1) 0 fi (Nat.zero_add _) (fun _ _ _ => rfl)
end PA
