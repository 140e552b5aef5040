/-! FilterReader.read, exchange; TestFinder.filter -/
def fltI (r : List FS ⊕ Nat) : Int32 := match r with
  | .inl _ => -1
  | .inr p => nI p
section FF
variable {d L : Nat} {fi : Nat → Nat → Int32} {fl : Nat → Nat → Int64} {fr : Nat → Nat → Option Nat} {F G : Nat} {y : Nat → Nat} {n : Nat}
theorem ct_notAll (hF : FRok F G fr) (hFG : FG F G) : ∀ (r o : Nat), o + r = 12 → NotC L fr G y n (4 * r + 7) o
  | 0, o, h => ct_not (D := 0) hF hFG (by omega) (fun z => by omega) (fun z => by omega)
  | r + 1, o, h => by
    have i := ct_notAll hF hFG r (o + 1) (by omega)
    exact ct_not (D := 4 * r + 4) hF hFG (by omega) (fun _ => i.up 2) (fun _ => ct_either hF hFG (ct_also hF hFG (D := 4 * r + 6) i))
theorem ct_eitherAll (hF : FRok F G fr) (hFG : FG F G) : EitherC L fr G y n 57 0 := ct_either (D := 55) hF hFG (ct_also (D := 54) hF hFG (ct_notAll hF hFG 12 0 rfl))
theorem mr_end {p : Nat} {S : List FS} (hp : skip y n p = p) (h1 : lok y n (skip y n p) ≠ 38) (h2 : lok y n (skip y n p) ≠ 124) : ∀ f, mrun y n (f + 1) (2, p, S, [], 0) = some (if p = n then .inl S else .inr p) := by
  intro f
  rw [mrun, if_neg (by decide : ¬ (2 : Nat) = 1)]
  dsimp only
  by_cases e : p = n
  · rw [hp, if_pos e, if_pos e, if_pos (show (drp (lok y n p) [] S).2 = [] from rfl)]
    rfl
  · rw [if_neg (by rw [hp]; exact e), if_neg (fun z => z.elim h1 h2), if_neg e, hp]
    rfl
def fltQ (L : Nat) (fi : Nat → Nat → Int32) (fl : Nat → Nat → Int64) (fr : Nat → Nat → Option Nat) (G : Nat) (y : Nat → Nat) (n : Nat) : Option Value → am_H → Prop := fun v h' => ∃ fi' fl', h' = (SH L, fi', fl', fr) ∧ (∀ a k, frI G a k → (a ≠ 591 ∨ k ≠ 2) → fi' a k = fi a k) ∧ (∀ a k, frL G a → fl' a k = fl a k) ∧ ((120 < n ∧ v = some (.int 120)) ∨ (n ≤ 120 ∧ ∃ r, (∃ f, mrun y n f (1, 0, [], [], 0) = some r) ∧ v = some (.int (fltI r)) ∧ (∀ p, r = .inr p → p ≤ n) ∧ ∀ S, r = .inl S → STp fi' fl' G S))
theorem ct_fread (hF : FRok F G fr) (hFG : FG F G) (hm : fi 17 1 = nI n) (hn : n ≤ 1200) (ht : ∀ k, k < n → fi 18 k = nI (y k) ∧ y k < 128) : Rn (d + 58) 84 0 [some (.ref 591)] [] (SH L, fi, fl, fr) (fltQ L fi fl fr G y n) := by
  have hG : G = 592 ∨ G = 599 := hFG.xG
  refine Rn.aload_n k_84 rfl rfl ?_
  refine Rn.getA k_84 rfl rfl (s591 L) (hF.l 16 rfl) ?_
  refine Rn.getI k_84 rfl rfl (s17 L) ?_
  rw [hm]
  refine Rn.bipush (120) k_84 rfl rfl ?_
  refine Rn.icmp_le 15 k_84 rfl rfl (fun h1 => ?_) (fun h1 => ?_)
  · rw [c_le 120 120 rfl (by omega) (by decide)] at h1
    refine Rn.aload_n k_84 rfl rfl ?_
    refine Rn.aload_n k_84 rfl rfl ?_
    refine Rn.getA k_84 rfl rfl (s591 L) (hF.l 16 rfl) ?_
    refine Rn.getI k_84 rfl rfl (s17 L) ?_
    rw [hm]
    refine Rn.putI k_84 rfl (rfl) (s591 L) ?_
    refine Rn.aload_n k_84 rfl rfl ?_
    refine Rn.iconst (0) k_84 rfl rfl ?_
    refine Rn.putI k_84 rfl (rfl) (s591 L) ?_
    refine Rn.aload_n k_84 rfl rfl ?_
    refine Rn.getA k_84 rfl rfl (s591 L) hF.2.2.2.1 ?_
    refine Rn.iconst (0) k_84 rfl rfl ?_
    refine Rn.putI k_84 rfl (rfl) (hFG.sG L) ?_
    refine Rn.aload_n k_84 rfl rfl ?_
    refine Rn.iconst (0) k_84 rfl rfl ?_
    have h0 : FRd (up2 (up2 (up2 fi 591 2 (nI n)) 591 3 0) G 4 0) y n 0 := by
      refine ⟨fun k hk => ?_, ?_, ?_, h1, Nat.zero_le _⟩
      · rw [up2_row _ _ (by omega), up2_row _ _ (by omega), up2_row _ _ (by omega)]; exact ht k hk
      · rw [up2_row _ _ (by omega), up2_col _ _ (by decide), up2_same]
      · rw [up2_row _ _ (by omega), up2_same]; rfl
    have hS0 : STp (up2 (up2 (up2 fi 591 2 (nI n)) 591 3 0) G 4 0) fl G [] := ⟨up2_same _ _ _ _, fun i hi => absurd hi (Nat.not_lt_zero i)⟩
    have f0 : ∀ a k, frI G a k → (a ≠ 591 ∨ k ≠ 2) → up2 (up2 (up2 fi 591 2 (nI n)) 591 3 0) G 4 0 a k = fi a k := by
      intro a k h1 h2
      obtain ⟨z1, z2, z3⟩ := h1
      unfold up2
      by_cases e : a = 591
      · have k3 : k ≠ 3 := z1.resolve_left (fun z => z e)
        have k2 : k ≠ 2 := h2.resolve_left (fun z => z e)
        rw [if_neg (show ¬ a = G by omega), if_pos e, if_neg k3, if_pos e, if_neg k2]
      · rw [if_neg e, if_neg e]
        rcases z2 with z2 | z2
        · rw [if_neg z2]
        · rw [if_neg z2]; split <;> rfl
    refine Rn.cV2 k_84 rfl rfl q_86 rfl (Nat.le_of_ble_eq_true rfl) (Nat.le_of_ble_eq_true rfl) (s591 L) (ct_eitherAll hF hFG d _ fl 0 [] h0 hS0 (Nat.le_refl _)) (fun v h'' hq => ?_)
    obtain ⟨ki, kl, rfl, k1, k2, p', k3, k4⟩ := hq
    have k1' : ∀ a k, frI G a k → (a ≠ 591 ∨ k ≠ 2) → ki a k = fi a k := fun a k ha hb => (k1 a k ha).trans (f0 a k ha hb)
    have hp' := k3.2.2.2.2
    rcases k4 with ⟨rfl, S', k5, k6, k8, k7, k9, k10, k11⟩ | ⟨rfl, k5⟩
    · show Rn _ _ _ _ (Value.int 1 :: []) _ _
      obtain ⟨kk, hk⟩ := k6 [] (by decide) (by decide) (by decide)
      have hrun : mrun y n (0 + 1 + kk) (1, 0, [], [], 0) = some (if p' = n then .inl S' else .inr p') := by rw [hk]; exact mr_end k11 k9 k10 0
      refine Rn.if_eq 62 k_84 rfl rfl (fun h2 => ?_) (fun h2 => ?_)
      · exact absurd h2 (by decide)
      · refine Rn.aload_n k_84 rfl rfl ?_
        refine Rn.getI k_84 rfl rfl (s591 L) ?_
        refine Rn.aload_n k_84 rfl rfl ?_
        refine Rn.getI k_84 rfl rfl (s591 L) ?_
        rw [k3.2.1, k3.2.2.1]
        refine Rn.icmp_ne 62 k_84 rfl rfl (fun h3 => ?_) (fun h3 => ?_)
        · rw [nI_eq (by omega) (by omega)] at h3
          rw [if_neg h3] at hrun
          refine Rn.aload_n k_84 rfl rfl ?_
          refine Rn.getI k_84 rfl rfl (s591 L) ?_
          rw [k3.2.2.1]
          refine Rn.reti k_84 rfl q_84 rfl (rfl) ?_
          exact ⟨ki, kl, rfl, k1', k2, Or.inr ⟨h1, _, ⟨_, hrun⟩, rfl, fun p hp => by cases hp; exact hp', fun S hS => by cases hS⟩⟩
        · rw [nI_eq (by omega) (by omega)] at h3
          rw [if_pos h3] at hrun
          refine Rn.iconst (-1) k_84 rfl rfl ?_
          refine Rn.goto 66 k_84 rfl rfl ?_
          refine Rn.reti k_84 rfl q_84 rfl (rfl) ?_
          exact ⟨ki, kl, rfl, k1', k2, Or.inr ⟨h1, _, ⟨_, hrun⟩, rfl, (fun p hp => by cases hp), fun S hS => by cases hS; exact k5⟩⟩
    · show Rn _ _ _ _ (Value.int 0 :: []) _ _
      obtain ⟨kk, hk⟩ := k5 [] (by decide) (by decide) (by decide)
      refine Rn.if_eq 62 k_84 rfl rfl (fun h2 => ?_) (fun h2 => ?_)
      · refine Rn.aload_n k_84 rfl rfl ?_
        refine Rn.getI k_84 rfl rfl (s591 L) ?_
        rw [k3.2.2.1]
        refine Rn.reti k_84 rfl q_84 rfl (rfl) ?_
        exact ⟨ki, kl, rfl, k1', k2, Or.inr ⟨h1, _, ⟨_, hk 0⟩, rfl, fun p hp => by cases hp; exact hp', fun S hS => by cases hS⟩⟩
      · exact absurd rfl h2
  · rw [c_le 120 120 rfl (by omega) (by decide)] at h1
    refine Rn.bipush (120) k_84 rfl rfl ?_
    refine Rn.reti k_84 rfl q_84 rfl (rfl) ?_
    exact ⟨fi, fl, rfl, fun _ _ _ _ => rfl, fun _ _ _ => rfl, Or.inl ⟨by omega, rfl⟩⟩
theorem ct_exchange (hF : FRok F G fr) (hFG : FG F G) {X : Nat} : Rn d 85 0 [some (.ref 591), some (.ref X), none] [] (SH L, fi, fl, fr) (Ret (SH L, fi, fl, up2 fr 591 4 (some X)) (some (.ref G))) := by
  refine Rn.aload_n k_85 rfl rfl ?_
  refine Rn.getA k_85 rfl rfl (s591 L) hF.2.2.2.1 ?_
  refine Rn.astore_n2 k_85 rfl rfl ?_
  refine Rn.aload_n k_85 rfl rfl ?_
  refine Rn.aload_n k_85 rfl rfl ?_
  refine Rn.putA k_85 rfl rfl (s591 L) ?_
  refine Rn.aload_n k_85 rfl rfl ?_
  refine Rn.reta k_85 rfl q_85 rfl ?_
  exact ⟨rfl, rfl⟩
theorem FRok.swap {fr : Nat → Nat → Option Nat} (hF : FRok F G fr) : FRok G F (up2 (up2 fr 591 4 (some F)) 16 5 (some G)) := by
  have e1 : ∀ q ∈ FRl, ¬ (q.1 = 591 ∧ q.2.1 = 4) ∧ ¬ (q.1 = 16 ∧ q.2.1 = 5) := by decide
  have e2 : ∀ q ∈ FRk, q.1 < 14 := by decide
  have e : ∀ a k, ¬ (a = 591 ∧ k = 4) → ¬ (a = 16 ∧ k = 5) → up2 (up2 fr 591 4 (some F)) 16 5 (some G) a k = fr a k := by
    intro a k z1 z2
    unfold up2
    split
    · rename_i h1
      split
      · rename_i h2; exact absurd ⟨h1, h2⟩ z2
      · rw [if_neg (by omega)]
    · split
      · rename_i h1
        split
        · rename_i h2; exact absurd ⟨h1, h2⟩ z1
        · rfl
      · rfl
  refine ⟨fun q hq => (e _ _ (e1 q hq).1 (e1 q hq).2).trans (hF.1 q hq), fun i hi q hq => (e _ _ (by have := e2 q hq; omega) (by omega)).trans (hF.2.1 i hi q hq), fun i hi => (e _ _ (by omega) (by omega)).trans (hF.2.2.1 i hi), ?_, ?_⟩
  · rw [up2_row _ _ (by decide), up2_same]
  · rw [up2_same]
def flQ (L : Nat) (fi : Nat → Nat → Int32) (fl : Nat → Nat → Int64) (fr : Nat → Nat → Option Nat) (F G : Nat) (y : Nat → Nat) (n : Nat) : Option Value → am_H → Prop := fun v h' => ∃ fi' fl' fr', h' = (SH L, fi', fl', fr') ∧ fi' 17 1 = 0 ∧ (∀ a k, frI G a k → (a ≠ 591 ∨ k ≠ 2) → (a ≠ 17 ∨ k ≠ 1) → fi' a k = fi a k) ∧ (∀ a k, frL G a → fl' a k = fl a k) ∧ ((120 < n ∧ v = some (.int 120) ∧ fr' = fr) ∨ (n ≤ 120 ∧ ∃ r, (∃ f, mrun y n f (1, 0, [], [], 0) = some r) ∧ v = some (.int (fltI r)) ∧ (∀ p, r = .inr p → p ≤ n ∧ fr' = fr) ∧ ∀ S, r = .inl S → STp fi' fl' G S ∧ FRok G F fr' ∧ fr' = up2 (up2 fr 591 4 (some F)) 16 5 (some G)))
theorem ct_filter (hF : FRok F G fr) (hFG : FG F G) (hm : fi 17 1 = nI n) (hn : n ≤ 1200) (ht : ∀ k, k < n → fi 18 k = nI (y k) ∧ y k < 128) : Rn (d + 59) 9 0 [some (.ref 16), none] [] (SH L, fi, fl, fr) (flQ L fi fl fr F G y n) := by
  have hG : G = 592 ∨ G = 599 := hFG.xG
  refine Rn.aload_n k_9 rfl rfl ?_
  refine Rn.getA k_9 rfl rfl (s16 L) (hF.l 22 rfl) ?_
  refine Rn.cV1 k_9 rfl rfl q_84 rfl (Nat.le_of_ble_eq_true rfl) (Nat.le_of_ble_eq_true rfl) (s591 L) (ct_fread hF hFG hm hn ht) (fun v h'' hq => ?_)
  obtain ⟨ki, kl, rfl, k1, k2, k3⟩ := hq
  have k1' : ∀ a k, frI G a k → (a ≠ 591 ∨ k ≠ 2) → (a ≠ 17 ∨ k ≠ 1) → up2 ki 17 1 0 a k = fi a k := by
    intro a k z1 z2 z3
    refine Eq.trans ?_ (k1 a k z1 z2)
    unfold up2
    rcases z3 with z3 | z3
    · rw [if_neg z3]
    · rw [if_neg z3]; split <;> rfl
  have e17 : up2 ki 17 1 0 17 1 = 0 := up2_same _ _ _ _
  rcases k3 with ⟨k3, rfl⟩ | ⟨k3, r, k4, rfl, k5, k6⟩
  · show Rn _ _ _ _ (Value.int 120 :: []) _ _
    refine Rn.istore_n1 k_9 rfl rfl ?_
    refine Rn.aload_n k_9 rfl rfl ?_
    refine Rn.getA k_9 rfl rfl (s16 L) (hF.l 1 rfl) ?_
    refine Rn.iconst (0) k_9 rfl rfl ?_
    refine Rn.putI k_9 rfl (rfl) (s17 L) ?_
    refine Rn.iload_n k_9 rfl rfl ?_
    refine Rn.iconst (-1) k_9 rfl rfl ?_
    refine Rn.icmp_ne 36 k_9 rfl rfl (fun h1 => ?_) (fun h1 => ?_)
    · refine Rn.iload_n k_9 rfl rfl ?_
      refine Rn.reti k_9 rfl q_9 rfl (rfl) ?_
      exact ⟨_, kl, fr, rfl, e17, k1', k2, Or.inl ⟨k3, rfl, rfl⟩⟩
    · exact absurd h1 (by decide)
  · show Rn _ _ _ _ (Value.int _ :: []) _ _
    cases r with
    | inr p =>
      have hp := k5 p rfl
      show Rn _ _ _ _ (Value.int (nI p) :: []) _ _
      refine Rn.istore_n1 k_9 rfl rfl ?_
      refine Rn.aload_n k_9 rfl rfl ?_
      refine Rn.getA k_9 rfl rfl (s16 L) (hF.l 1 rfl) ?_
      refine Rn.iconst (0) k_9 rfl rfl ?_
      refine Rn.putI k_9 rfl (rfl) (s17 L) ?_
      refine Rn.iload_n k_9 rfl rfl ?_
      refine Rn.iconst (-1) k_9 rfl rfl ?_
      refine Rn.icmp_ne 36 k_9 rfl rfl (fun h1 => ?_) (fun h1 => ?_)
      · refine Rn.iload_n k_9 rfl rfl ?_
        refine Rn.reti k_9 rfl q_9 rfl (rfl) ?_
        exact ⟨_, kl, fr, rfl, e17, k1', k2, Or.inr ⟨k3, _, k4, rfl, fun q hq => ⟨by cases hq; exact hp, rfl⟩, fun S hS => by cases hS⟩⟩
      · exact absurd h1 (c_m1 (by omega))
    | inl S =>
      show Rn _ _ _ _ (Value.int (-1) :: []) _ _
      have hS := k6 S rfl
      refine Rn.istore_n1 k_9 rfl rfl ?_
      refine Rn.aload_n k_9 rfl rfl ?_
      refine Rn.getA k_9 rfl rfl (s16 L) (hF.l 1 rfl) ?_
      refine Rn.iconst (0) k_9 rfl rfl ?_
      refine Rn.putI k_9 rfl (rfl) (s17 L) ?_
      refine Rn.iload_n k_9 rfl rfl ?_
      refine Rn.iconst (-1) k_9 rfl rfl ?_
      refine Rn.icmp_ne 36 k_9 rfl rfl (fun h1 => ?_) (fun h1 => ?_)
      · exact absurd rfl h1
      · refine Rn.aload_n k_9 rfl rfl ?_
        refine Rn.aload_n k_9 rfl rfl ?_
        refine Rn.getA k_9 rfl rfl (s16 L) (hF.l 22 rfl) ?_
        refine Rn.aload_n k_9 rfl rfl ?_
        refine Rn.getA k_9 rfl rfl (s16 L) hF.2.2.2.2 ?_
        refine Rn.cV2 k_9 rfl rfl q_85 rfl (Nat.le_of_ble_eq_true rfl) (Nat.le_of_ble_eq_true rfl) (s591 L) (ct_exchange hF hFG) (fun v h'' hq => ?_)
        obtain ⟨rfl, rfl⟩ := hq
        show Rn _ _ _ _ (Value.ref G :: Value.ref 16 :: []) _ _
        refine Rn.putA k_9 rfl rfl (s16 L) ?_
        refine Rn.iload_n k_9 rfl rfl ?_
        refine Rn.reti k_9 rfl q_9 rfl (rfl) ?_
        exact ⟨_, kl, _, rfl, e17, k1', k2, Or.inr ⟨k3, _, k4, rfl, fun q hq => (by cases hq), fun T hT => by cases hT; exact ⟨hS.keep (up2_row _ _ (by omega)) (fun q => up2_row _ _ (by omega)) (fun _ _ _ _ => rfl), hF.swap, rfl⟩⟩⟩
end FF
