/-! FilterReader.either, not -/
section FP
variable {L : Nat} {fr : Nat → Nat → Option Nat} {F G : Nat} {y : Nat → Nat} {n : Nat}
set_option maxHeartbeats 1000000 in
theorem ct_either (hF : FRok F G fr) (hFG : FG F G) {D o : Nat} (hN : AlsoC L fr G y n (D + 1) o) : EitherC L fr G y n (D + 2) o := by
  intro d fi fl p S hp hS hl
  have hn := hp.2.2.2.1
  have hpn := hp.2.2.2.2
  have loop : ∀ (m q0 : Nat) (T : List FS) (gi : Nat → Nat → Int32) (gl : Nat → Nat → Int64), n ≤ q0 + m → p ≤ q0 → lok y n (skip y n q0) ≠ 38 → FRd gi y n q0 → STp gi gl G T → T.length + p ≤ S.length + q0 → (∀ a k, frI G a k → gi a k = fi a k) → (∀ a k, frL G a → gl a k = fl a k) → (∀ q, tp q ≠ 38 → tp q ≠ 33 → tp q ≠ 124 → MTo y n (1, p, S, q, o) (2, q0, T, q, o)) → Rn (d + (D + 2)) 86 10 [some (.ref 591), some (.int (nI o))] [] (SH L, gi, gl, fr) (PQ L fi fl fr G y n (fun p' S' => (∀ q, tp q ≠ 38 → tp q ≠ 33 → tp q ≠ 124 → MTo y n (1, p, S, q, o) (2, p', S', q, o)) ∧ p ≤ p' ∧ S'.length + p ≤ S.length + p' ∧ lok y n (skip y n p') ≠ 38 ∧ lok y n (skip y n p') ≠ 124 ∧ skip y n p' = p') (fun p' => ∀ q, tp q ≠ 38 → tp q ≠ 33 → tp q ≠ 124 → MIll y n (1, p, S, q, o) p')) := by
    intro m
    induction m with
    | zero =>
      intro q0 T gi gl hm hpq h38 hg hT hTl g1 g2 hM
      have hq := hg.2.2.2.2
      refine Rn.aload_n k_86 rfl rfl ?_
      refine Rn.getI k_86 rfl rfl (s591 L) ?_
      refine Rn.aload_n k_86 rfl rfl ?_
      refine Rn.getI k_86 rfl rfl (s591 L) ?_
      rw [hg.2.1, hg.2.2.1]
      refine Rn.icmp_ge 64 k_86 rfl rfl (fun h2 => ?_) (fun h2 => ?_)
      · refine Rn.iconst (1) k_86 rfl rfl ?_
        refine Rn.reti k_86 rfl q_86 rfl (rfl) ?_
        exact ⟨gi, gl, rfl, g1, g2, q0, hg, Or.inl ⟨rfl, T, hT, hM, hpq, hTl, h38, by rw [lok_end (by omega)]; decide, skip_end (by omega)⟩⟩
      · rw [nI_leI (by omega) (by omega)] at h2
        omega
    | succ m ih =>
      intro q0 T gi gl hm hpq h38 hg hT hTl g1 g2 hM
      have hq := hg.2.2.2.2
      refine Rn.aload_n k_86 rfl rfl ?_
      refine Rn.getI k_86 rfl rfl (s591 L) ?_
      refine Rn.aload_n k_86 rfl rfl ?_
      refine Rn.getI k_86 rfl rfl (s591 L) ?_
      rw [hg.2.1, hg.2.2.1]
      refine Rn.icmp_ge 64 k_86 rfl rfl (fun h2 => ?_) (fun h2 => ?_)
      · rw [nI_leI (by omega) (by omega)] at h2
        refine Rn.iconst (1) k_86 rfl rfl ?_
        refine Rn.reti k_86 rfl q_86 rfl (rfl) ?_
        exact ⟨gi, gl, rfl, g1, g2, q0, hg, Or.inl ⟨rfl, T, hT, hM, hpq, hTl, h38, by rw [lok_end (by omega)]; decide, skip_end (by omega)⟩⟩
      · rw [nI_leI (by omega) (by omega)] at h2
        refine Rn.aload_n k_86 rfl rfl ?_
        refine Rn.cV1 k_86 rfl rfl q_96 rfl (Nat.le_of_ble_eq_true rfl) (Nat.le_of_ble_eq_true rfl) (s591 L) (ct_next hF hg) (fun v h'' hq => ?_)
        obtain ⟨rfl, rfl⟩ := hq
        show Rn _ _ _ _ (Value.int _ :: []) _ _
        have hs := skip_le y hq
        have hsg := skip_ge y n q0
        have hlk := hg.lk (skip y n q0)
        have hM1 : ∀ q, tp q ≠ 38 → tp q ≠ 33 → tp q ≠ 124 → MTo y n (1, p, S, q, o) (2, skip y n q0, T, q, o) := fun q z1 z2 z3 => (hM q z1 z2 z3).trans mt_skip
        refine Rn.bipush (124) k_86 rfl rfl ?_
        refine Rn.icmp_ne 64 k_86 rfl rfl (fun h3 => ?_) (fun h3 => ?_)
        · rw [c_eq 124 124 rfl (by omega) (by decide)] at h3
          refine Rn.iconst (1) k_86 rfl rfl ?_
          refine Rn.reti k_86 rfl q_86 rfl (rfl) ?_
          exact ⟨_, gl, rfl, fun a k ha => (fr_at a k ha).trans (g1 a k ha), g2, _, hg.at hs, Or.inl ⟨rfl, T, hT.at hFG.xG _, hM1, by omega, by omega, by rw [skip_skip]; exact h38, by rw [skip_skip]; exact h3, skip_skip _⟩⟩
        · rw [c_eq 124 124 rfl (by omega) (by decide)] at h3
          have hsn := lok_lt h3 (by decide)
          refine Rn.aload_n k_86 rfl rfl ?_
          refine Rn.dupa k_86 rfl ?_
          refine Rn.getI k_86 rfl rfl (s591 L) ?_
          rw [up2_same]
          refine Rn.iconst (1) k_86 rfl rfl ?_
          refine Rn.iadd k_86 rfl ?_
          rw [c_add 1 1 rfl]
          refine Rn.putI k_86 rfl (rfl) (s591 L) ?_
          refine Rn.aload_n k_86 rfl rfl ?_
          refine Rn.iload_n k_86 rfl rfl ?_
          rw [up2_up2]
          have hg3 := hg.at (q := skip y n q0 + 1) (by omega)
          refine Rn.cV2 k_86 rfl rfl q_87 rfl (Nat.le_of_ble_eq_true rfl) (Nat.le_of_ble_eq_true rfl) (s591 L) (hN d _ gl _ T hg3 (hT.at hFG.xG _) (by omega)) (fun v h'' hq => ?_)
          obtain ⟨ki, kl, rfl, k1, k2, p', k3, k4⟩ := hq
          have k1' : ∀ a k, frI G a k → ki a k = fi a k := fun a k ha => (k1 a k ha).trans ((fr_at a k ha).trans (g1 a k ha))
          have k2' : ∀ a k, frL G a → kl a k = fl a k := fun a k ha => (k2 a k ha).trans (g2 a k ha)
          have hM2 : ∀ q, tp q ≠ 38 → tp q ≠ 33 → tp q ≠ 124 → MTo y n (1, p, S, q, o) (1, skip y n q0 + 1, T, 124 :: q, o) := fun q z1 z2 z3 => (hM q z1 z2 z3).trans (mt_sign h3 (Or.inr rfl) (drp_id z1 (fun z => absurd z z3)))
          rcases k4 with ⟨rfl, S', k5, k6, k8, k7, k9⟩ | ⟨rfl, k5⟩
          · show Rn _ _ _ _ (Value.int 1 :: []) _ _
            refine Rn.if_ne 50 k_86 rfl rfl (fun h4 => ?_) (fun h4 => ?_)
            · have hp' := k3.2.2.2.2
              refine Rn.aload_n k_86 rfl rfl ?_
              refine Rn.getA k_86 rfl rfl (s591 L) hF.2.2.2.1 ?_
              refine Rn.bipush (124) k_86 rfl rfl ?_
              refine Rn.lconst 0 k_86 rfl rfl ?_
              refine Rn.lconst 0 k_86 rfl rfl ?_
              refine Rn.cV4 k_86 rfl rfl q_77 rfl (Nat.le_of_ble_eq_true rfl) (Nat.le_of_ble_eq_true rfl) (hFG.sG L) (ct_fadd (s := fop 124) hF hFG.xG k5 (by omega) (show 124 < 128 by decide) rfl rfl) (fun v h'' hq => ?_)
              obtain ⟨rfl, ji, jl, rfl, j1, j2, j3⟩ := hq
              show Rn _ _ _ _ [] _ _
              refine Rn.goto 10 k_86 rfl rfl ?_
              have hlen : (S' ++ [fop 124]).length = S'.length + 1 := by rw [List.length_append]; rfl
              refine ih p' (S' ++ [fop 124]) ji jl (by omega) (by omega) k9 (k3.step hFG j2) j1 (by rw [hlen]; omega) (fun a k ha => (j2 a k ha.2.1 ha.2.2).trans (k1' a k ha)) (fun a k ha => (j3 a k ha).trans (k2' a k ha)) (fun q z1 z2 z3 => ?_)
              exact ((hM2 q z1 z2 z3).trans (k6 (124 :: q) (by show (124 : Nat) ≠ 38; decide) (by show (124 : Nat) ≠ 33; decide))).trans (mt_or k9)
            · exact absurd h4 (by decide)
          · show Rn _ _ _ _ (Value.int 0 :: []) _ _
            refine Rn.if_ne 50 k_86 rfl rfl (fun h4 => ?_) (fun h4 => ?_)
            · exact absurd rfl h4
            · refine Rn.iconst (0) k_86 rfl rfl ?_
              refine Rn.reti k_86 rfl q_86 rfl (rfl) ?_
              exact ⟨ki, kl, rfl, k1', k2', p', k3, Or.inr ⟨rfl, fun q z1 z2 z3 => (hM2 q z1 z2 z3).ill (k5 (124 :: q) (by show (124 : Nat) ≠ 38; decide) (by show (124 : Nat) ≠ 33; decide))⟩⟩
  refine Rn.aload_n k_86 rfl rfl ?_
  refine Rn.iload_n k_86 rfl rfl ?_
  refine Rn.cV2 k_86 rfl rfl q_87 rfl (Nat.le_of_ble_eq_true rfl) (Nat.le_of_ble_eq_true rfl) (s591 L) (hN d fi fl p S hp hS hl) (fun v h'' hq => ?_)
  obtain ⟨ki, kl, rfl, k1, k2, p', k3, k4⟩ := hq
  rcases k4 with ⟨rfl, S', k5, k6, k8, k7, k9⟩ | ⟨rfl, k5⟩
  · show Rn _ _ _ _ (Value.int 1 :: []) _ _
    refine Rn.if_ne 10 k_86 rfl rfl (fun h1 => ?_) (fun h1 => ?_)
    · exact loop n p' S' ki kl (by omega) k8 k9 k3 k5 k7 k1 k2 (fun q z1 z2 z3 => k6 q z1 z2)
    · exact absurd h1 (by decide)
  · show Rn _ _ _ _ (Value.int 0 :: []) _ _
    refine Rn.if_ne 10 k_86 rfl rfl (fun h1 => ?_) (fun h1 => ?_)
    · exact absurd rfl h1
    · refine Rn.iconst (0) k_86 rfl rfl ?_
      refine Rn.reti k_86 rfl q_86 rfl (rfl) ?_
      exact ⟨ki, kl, rfl, k1, k2, p', k3, Or.inr ⟨rfl, fun q z1 z2 _ => k5 q z1 z2⟩⟩
theorem NotC.up {D o : Nat} (k : Nat) (h : NotC L fr G y n D o) : NotC L fr G y n (D + k) o := by
  intro d fi fl p S h1 h2 h3
  have := h (d + k) fi fl p S h1 h2 h3
  rw [show d + k + D = d + (D + k) by omega] at this
  exact this
theorem ct_negated (hF : FRok F G fr) (hFG : FG F G) {D o d p : Nat} {fi : Nat → Nat → Int32} {fl : Nat → Nat → Int64} {S : List FS} (hN : NotC L fr G y n D o) (hp : FRd fi y n p) (hpn : p < n) (hS : STp fi fl G S) (hl : S.length ≤ p) (hD : 0 < d + D) : Rn (d + D + 1) 89 0 [some (.ref 591), some (.int (nI o))] [] (SH L, fi, fl, fr) (PQ L fi fl fr G y n (fun p' S' => (∀ q, MTo y n (1, p + 1, S, 33 :: q, o) (ms2 p' (turn q S' (o - 1)))) ∧ p ≤ p' ∧ S'.length + p ≤ S.length + p') (fun p' => ∀ q, MIll y n (1, p + 1, S, q, o) p')) := by
  have hn := hp.2.2.2.1
  refine Rn.aload_n k_89 rfl rfl ?_
  refine Rn.dupa k_89 rfl ?_
  refine Rn.getI k_89 rfl rfl (s591 L) ?_
  rw [hp.2.2.1]
  refine Rn.iconst (1) k_89 rfl rfl ?_
  refine Rn.iadd k_89 rfl ?_
  rw [c_add 1 1 rfl]
  refine Rn.putI k_89 rfl (rfl) (s591 L) ?_
  refine Rn.aload_n k_89 rfl rfl ?_
  refine Rn.iload_n k_89 rfl rfl ?_
  refine Rn.cV2 k_89 rfl rfl q_88 rfl (Nat.le_of_ble_eq_true rfl) (Nat.le_of_ble_eq_true rfl) (s591 L) (hN d _ fl (p + 1) S (hp.at (by omega)) (hS.at hFG.xG _) (by omega)) (fun v h'' hq => ?_)
  obtain ⟨ki, kl, rfl, k1, k2, p', k3, k4⟩ := hq
  have k1' : ∀ a k, frI G a k → ki a k = fi a k := fun a k ha => (k1 a k ha).trans (fr_at a k ha)
  rcases k4 with ⟨rfl, S', k5, k6, k8, k7⟩ | ⟨rfl, k5⟩
  · show Rn _ _ _ _ (Value.int 1 :: []) _ _
    refine Rn.if_ne 20 k_89 rfl rfl (fun h1 => ?_) (fun h1 => ?_)
    · have hp' := k3.2.2.2.2
      obtain ⟨e, he⟩ : ∃ e, d + D = e + 1 := ⟨d + D - 1, by omega⟩
      rw [he]
      refine Rn.aload_n k_89 rfl rfl ?_
      refine Rn.getA k_89 rfl rfl (s591 L) hF.2.2.2.1 ?_
      refine Rn.bipush (33) k_89 rfl rfl ?_
      refine Rn.lconst 0 k_89 rfl rfl ?_
      refine Rn.lconst 0 k_89 rfl rfl ?_
      refine Rn.cV4 k_89 rfl rfl q_77 rfl (Nat.le_of_ble_eq_true rfl) (Nat.le_of_ble_eq_true rfl) (hFG.sG L) (ct_fadd (s := fop 33) hF hFG.xG k5 (by omega) (show 33 < 128 by decide) rfl rfl) (fun v h'' hq => ?_)
      obtain ⟨rfl, ji, jl, rfl, j1, j2, j3⟩ := hq
      show Rn _ _ _ _ [] _ _
      refine Rn.iconst (1) k_89 rfl rfl ?_
      refine Rn.reti k_89 rfl q_89 rfl (rfl) ?_
      refine ⟨ji, jl, rfl, fun a k ha => (j2 a k ha.2.1 ha.2.2).trans (k1' a k ha), fun a k ha => (j3 a k ha).trans (k2 a k ha), p', k3.step hFG j2, Or.inl ⟨rfl, _, j1, fun q => ?_, by omega, by rw [List.length_append]; show S'.length + 1 + p ≤ _; omega⟩⟩
      have := k6 (33 :: q)
      rw [turn, if_pos rfl] at this
      exact this
    · exact absurd h1 (by decide)
  · show Rn _ _ _ _ (Value.int 0 :: []) _ _
    refine Rn.if_ne 20 k_89 rfl rfl (fun h1 => ?_) (fun h1 => ?_)
    · exact absurd rfl h1
    · refine Rn.iconst (0) k_89 rfl rfl ?_
      refine Rn.reti k_89 rfl q_89 rfl (rfl) ?_
      exact ⟨ki, kl, rfl, k1', k2, p', k3, Or.inr ⟨rfl, k5⟩⟩
theorem ct_enclosed (hF : FRok F G fr) (hFG : FG F G) {D o d p : Nat} {fi : Nat → Nat → Int32} {fl : Nat → Nat → Int64} {S : List FS} (hE : EitherC L fr G y n (D + 1) o) (hp : FRd fi y n p) (hpn : p < n) (hS : STp fi fl G S) (hl : S.length ≤ p) : Rn (d + (D + 1) + 1) 90 0 [some (.ref 591), some (.int (nI o))] [] (SH L, fi, fl, fr) (PQ L fi fl fr G y n (fun p' S' => (∀ q, MTo y n (1, p + 1, S, 40 :: q, o) (ms2 p' (turn q S' (o - 1)))) ∧ p ≤ p' ∧ S'.length + p ≤ S.length + p') (fun p' => ∀ q, MIll y n (1, p + 1, S, 40 :: q, o) p')) := by
  have hn := hp.2.2.2.1
  refine Rn.aload_n k_90 rfl rfl ?_
  refine Rn.dupa k_90 rfl ?_
  refine Rn.getI k_90 rfl rfl (s591 L) ?_
  rw [hp.2.2.1]
  refine Rn.iconst (1) k_90 rfl rfl ?_
  refine Rn.iadd k_90 rfl ?_
  rw [c_add 1 1 rfl]
  refine Rn.putI k_90 rfl (rfl) (s591 L) ?_
  refine Rn.aload_n k_90 rfl rfl ?_
  refine Rn.iload_n k_90 rfl rfl ?_
  refine Rn.cV2 k_90 rfl rfl q_86 rfl (Nat.le_of_ble_eq_true rfl) (Nat.le_of_ble_eq_true rfl) (s591 L) (hE d _ fl (p + 1) S (hp.at (by omega)) (hS.at hFG.xG _) (by omega)) (fun v h'' hq => ?_)
  obtain ⟨ki, kl, rfl, k1, k2, p', k3, k4⟩ := hq
  have k1' : ∀ a k, frI G a k → ki a k = fi a k := fun a k ha => (k1 a k ha).trans (fr_at a k ha)
  have t40 : ∀ q : List Nat, tp (40 :: q) ≠ 38 ∧ tp (40 :: q) ≠ 33 ∧ tp (40 :: q) ≠ 124 := fun q => by
    show (40 : Nat) ≠ 38 ∧ (40 : Nat) ≠ 33 ∧ (40 : Nat) ≠ 124
    decide
  rcases k4 with ⟨rfl, S', k5, k6, k8, k7, k9, k10, -⟩ | ⟨rfl, k5⟩
  · show Rn _ _ _ _ (Value.int 1 :: []) _ _
    refine Rn.if_eq 27 k_90 rfl rfl (fun h1 => ?_) (fun h1 => ?_)
    · exact absurd h1 (by decide)
    · refine Rn.aload_n k_90 rfl rfl ?_
      refine Rn.cV1 k_90 rfl rfl q_96 rfl (Nat.le_of_ble_eq_true rfl) (Nat.le_of_ble_eq_true rfl) (s591 L) (ct_next hF k3) (fun v h'' hq => ?_)
      obtain ⟨rfl, rfl⟩ := hq
      show Rn _ _ _ _ (Value.int _ :: []) _ _
      have hs := skip_le y k3.2.2.2.2
      have hsg := skip_ge y n p'
      have hlk := k3.lk (skip y n p')
      refine Rn.bipush (41) k_90 rfl rfl ?_
      refine Rn.icmp_eq 29 k_90 rfl rfl (fun h2 => ?_) (fun h2 => ?_)
      · rw [c_eq 41 41 rfl (by omega) (by decide)] at h2
        have hsn := lok_lt h2 (by decide)
        refine Rn.aload_n k_90 rfl rfl ?_
        refine Rn.dupa k_90 rfl ?_
        refine Rn.getI k_90 rfl rfl (s591 L) ?_
        rw [up2_same]
        refine Rn.iconst (1) k_90 rfl rfl ?_
        refine Rn.iadd k_90 rfl ?_
        rw [c_add 1 1 rfl]
        refine Rn.putI k_90 rfl (rfl) (s591 L) ?_
        refine Rn.iconst (1) k_90 rfl rfl ?_
        rw [up2_up2]
        refine Rn.reti k_90 rfl q_90 rfl (rfl) ?_
        refine ⟨_, kl, rfl, fun a k ha => (fr_at a k ha).trans (k1' a k ha), k2, _, k3.at (by omega), Or.inl ⟨rfl, S', k5.at hFG.xG _, fun q => ?_, by omega, by omega⟩⟩
        exact (k6 (40 :: q) (t40 q).1 (t40 q).2.1 (t40 q).2.2).trans (mt_close h2)
      · rw [c_eq 41 41 rfl (by omega) (by decide)] at h2
        refine Rn.iconst (0) k_90 rfl rfl ?_
        refine Rn.reti k_90 rfl q_90 rfl (rfl) ?_
        exact ⟨_, kl, rfl, fun a k ha => (fr_at a k ha).trans (k1' a k ha), k2, _, k3.at hs, Or.inr ⟨rfl, fun q => (k6 (40 :: q) (t40 q).1 (t40 q).2.1 (t40 q).2.2).ill (mi_close k9 k10 h2)⟩⟩
  · show Rn _ _ _ _ (Value.int 0 :: []) _ _
    refine Rn.if_eq 27 k_90 rfl rfl (fun h1 => ?_) (fun h1 => ?_)
    · refine Rn.iconst (0) k_90 rfl rfl ?_
      refine Rn.reti k_90 rfl q_90 rfl (rfl) ?_
      exact ⟨ki, kl, rfl, k1', k2, p', k3, Or.inr ⟨rfl, fun q => k5 (40 :: q) (t40 q).1 (t40 q).2.1 (t40 q).2.2⟩⟩
    · exact absurd rfl h1
theorem atom_ge {p : Nat} {a : FS} {e : Nat} (h : atomW y n p = .inl (a, e)) : p + 1 ≤ e := by
  unfold atomW at h
  split at h
  · rename_i hL
    have hgt := wend_gt (isL_N hL)
    have hsg := skip_ge y n (wend y n p)
    split at h
    · split at h
      · cases h
        have h1 := skip_ge y n (skip y n (wend y n p) + 1)
        have h2 := (wnd_ge (y := y) (n := n) 12 (skip y n (skip y n (wend y n p) + 1))).1
        have h2 : skip y n (skip y n (wend y n p) + 1) ≤ wend y n (skip y n (skip y n (wend y n p) + 1)) := h2
        omega
      · cases h
    · cases h
      omega
  · split at h
    · split at h
      · cases h
        have h1 := skip_ge y n (p + 1)
        have h2 : skip y n (p + 1) ≤ wend y n (skip y n (p + 1)) := (wnd_ge (y := y) (n := n) 12 (skip y n (p + 1))).1
        omega
      · cases h
    · split at h
      · split at h
        · cases h
          have h1 := skip_ge y n (p + 1)
          omega
        · cases h
      · split at h
        · cases h; omega
        · cases h
set_option maxHeartbeats 2000000 in
theorem ct_not (hF : FRok F G fr) (hFG : FG F G) {D o : Nat} (ho : o ≤ 12) (hN : o < 12 → NotC L fr G y n (D + 5) (o + 1)) (hE : o < 12 → EitherC L fr G y n (D + 5) (o + 1)) : NotC L fr G y n (D + 7) o := by
  intro d fi fl p S hp hS hl
  have hn := hp.2.2.2.1
  have hpn := hp.2.2.2.2
  refine Rn.aload_n k_88 rfl rfl ?_
  refine Rn.cV1 k_88 rfl rfl q_96 rfl (Nat.le_of_ble_eq_true rfl) (Nat.le_of_ble_eq_true rfl) (s591 L) (ct_next hF hp) (fun v h'' hq => ?_)
  obtain ⟨rfl, rfl⟩ := hq
  show Rn _ _ _ _ (Value.int _ :: []) _ _
  have hs := skip_le y hpn
  have hsg := skip_ge y n p
  have hlk := hp.lk (skip y n p)
  have hss : skip y n (skip y n p) = skip y n p := skip_skip p
  have hr := hp.at hs
  have hSt := hS.at hFG.xG (nI (skip y n p))
  -- an atom's answer is that of a term
  have fin : ∀ (v : Option Value) (h : am_H), ¬ (lok y n (skip y n p) = 33 ∨ lok y n (skip y n p) = 40) → atQ L (up2 fi 591 3 (nI (skip y n p))) fl fr G y n (skip y n p) S v h → (v = some (.int 1) ∨ v = some (.int 0)) ∧ PQ L fi fl fr G y n (fun p' S' => (∀ q, MTo y n (1, p, S, q, o) (ms2 p' (turn q S' o))) ∧ p ≤ p' ∧ S'.length + p ≤ S.length + p') (fun p' => ∀ q, MIll y n (1, p, S, q, o) p') v h := by
    intro v h hc q
    refine ⟨?_, (q.base fr_at (fun _ _ _ => rfl)).mono ?_ ?_⟩
    · obtain ⟨u1, u2, u3, u4, u5, p', u6, q4⟩ := q
      exact q4.elim (fun z => Or.inl z.1) (fun z => Or.inr z.1)
    · rintro p' S' ⟨a, z1, rfl⟩
      have := atom_ge z1
      refine ⟨fun q => mt_atom hc z1, by omega, ?_⟩
      rw [List.length_append]
      show S.length + 1 + p ≤ _
      omega
    · intro p' z q
      exact mi_atom hc z
  refine Rn.istore_n2 k_88 rfl rfl ?_
  refine Rn.iload_n k_88 rfl rfl ?_
  by_cases c33 : lok y n (skip y n p) = 33
  · rw [c33]
    rw [c33] at hlk
    refine Rn.lks 72 (33) k_88 rfl (by decide) (rfl) rfl ?_
    have hsn := lok_lt c33 (by decide)
    refine Rn.iload_n k_88 rfl rfl ?_
    refine Rn.bipush (12) k_88 rfl rfl ?_
    refine Rn.icmp_ge 92 k_88 rfl rfl (fun h1 => ?_) (fun h1 => ?_)
    · rw [c_ge 12 12 rfl (by omega) (by decide)] at h1
      have : o = 12 := by omega
      subst this
      refine Rn.iconst (0) k_88 rfl rfl ?_
      refine Rn.reti k_88 rfl q_88 rfl (rfl) ?_
      exact ⟨_, fl, rfl, fr_at, fun _ _ _ => rfl, _, hr, Or.inr ⟨rfl, fun q => mi_open (Or.inl c33)⟩⟩
    · rw [c_ge 12 12 rfl (by omega) (by decide)] at h1
      have ho : o < 12 := by omega
      refine Rn.aload_n k_88 rfl rfl ?_
      refine Rn.iload_n k_88 rfl rfl ?_
      refine Rn.iconst (1) k_88 rfl rfl ?_
      refine Rn.iadd k_88 rfl ?_
      rw [c_add 1 1 rfl]
      refine Rn.cV2 k_88 rfl rfl q_89 rfl (Nat.le_of_ble_eq_true rfl) (Nat.le_of_ble_eq_true rfl) (s591 L) (ct_negated (d := d) (D := D + 5) hF hFG (hN ho) hr hsn hSt (by omega) (by omega)) (fun v h'' hq => ?_)
      obtain ⟨ki, kl, rfl, k1, k2, p', k3, k4⟩ := hq
      have k1' : ∀ a k, frI G a k → ki a k = fi a k := fun a k ha => (k1 a k ha).trans (fr_at a k ha)
      have hM : ∀ q, MTo y n (1, p, S, q, o) (1, skip y n p + 1, S, 33 :: q, o + 1) := fun q => mt_open c33 (Or.inl rfl) (by omega)
      rcases k4 with ⟨rfl, S', k5, k6, k8, k7⟩ | ⟨rfl, k5⟩
      · show Rn _ _ _ _ (Value.int 1 :: []) _ _
        refine Rn.if_eq 92 k_88 rfl rfl (fun h2 => ?_) (fun h2 => ?_)
        · exact absurd h2 (by decide)
        · refine Rn.iconst (1) k_88 rfl rfl ?_
          refine Rn.goto 93 k_88 rfl rfl ?_
          refine Rn.reti k_88 rfl q_88 rfl (rfl) ?_
          exact ⟨ki, kl, rfl, k1', k2, p', k3, Or.inl ⟨rfl, S', k5, fun q => (hM q).trans (k6 q), by omega, by omega⟩⟩
      · show Rn _ _ _ _ (Value.int 0 :: []) _ _
        refine Rn.if_eq 92 k_88 rfl rfl (fun h2 => ?_) (fun h2 => ?_)
        · refine Rn.iconst (0) k_88 rfl rfl ?_
          refine Rn.reti k_88 rfl q_88 rfl (rfl) ?_
          exact ⟨ki, kl, rfl, k1', k2, p', k3, Or.inr ⟨rfl, fun q => (hM q).ill (k5 (33 :: q))⟩⟩
        · exact absurd rfl h2
  · by_cases c40 : lok y n (skip y n p) = 40
    · rw [c40]
      rw [c40] at hlk
      refine Rn.lks 94 (40) k_88 rfl (by decide) (rfl) rfl ?_
      have hsn := lok_lt c40 (by decide)
      refine Rn.iload_n k_88 rfl rfl ?_
      refine Rn.bipush (12) k_88 rfl rfl ?_
      refine Rn.icmp_ge 114 k_88 rfl rfl (fun h3 => ?_) (fun h3 => ?_)
      · rw [c_ge 12 12 rfl (by omega) (by decide)] at h3
        have : o = 12 := by omega
        subst this
        refine Rn.iconst (0) k_88 rfl rfl ?_
        refine Rn.reti k_88 rfl q_88 rfl (rfl) ?_
        exact ⟨_, fl, rfl, fr_at, fun _ _ _ => rfl, _, hr, Or.inr ⟨rfl, fun q => mi_open (Or.inr c40)⟩⟩
      · rw [c_ge 12 12 rfl (by omega) (by decide)] at h3
        have ho : o < 12 := by omega
        refine Rn.aload_n k_88 rfl rfl ?_
        refine Rn.iload_n k_88 rfl rfl ?_
        refine Rn.iconst (1) k_88 rfl rfl ?_
        refine Rn.iadd k_88 rfl ?_
        rw [c_add 1 1 rfl]
        refine Rn.cV2 k_88 rfl rfl q_90 rfl (Nat.le_of_ble_eq_true rfl) (Nat.le_of_ble_eq_true rfl) (s591 L) (ct_enclosed (d := d) (D := D + 4) hF hFG (hE ho) hr hsn hSt (by omega)) (fun v h'' hq => ?_)
        obtain ⟨ki, kl, rfl, k1, k2, p', k3, k4⟩ := hq
        have k1' : ∀ a k, frI G a k → ki a k = fi a k := fun a k ha => (k1 a k ha).trans (fr_at a k ha)
        have hM : ∀ q, MTo y n (1, p, S, q, o) (1, skip y n p + 1, S, 40 :: q, o + 1) := fun q => mt_open c40 (Or.inr rfl) (by omega)
        rcases k4 with ⟨rfl, S', k5, k6, k8, k7⟩ | ⟨rfl, k5⟩
        · show Rn _ _ _ _ (Value.int 1 :: []) _ _
          refine Rn.if_eq 114 k_88 rfl rfl (fun h4 => ?_) (fun h4 => ?_)
          · exact absurd h4 (by decide)
          · refine Rn.iconst (1) k_88 rfl rfl ?_
            refine Rn.goto 115 k_88 rfl rfl ?_
            refine Rn.reti k_88 rfl q_88 rfl (rfl) ?_
            exact ⟨ki, kl, rfl, k1', k2, p', k3, Or.inl ⟨rfl, S', k5, fun q => (hM q).trans (k6 q), by omega, by omega⟩⟩
        · show Rn _ _ _ _ (Value.int 0 :: []) _ _
          refine Rn.if_eq 114 k_88 rfl rfl (fun h4 => ?_) (fun h4 => ?_)
          · refine Rn.iconst (0) k_88 rfl rfl ?_
            refine Rn.reti k_88 rfl q_88 rfl (rfl) ?_
            exact ⟨ki, kl, rfl, k1', k2, p', k3, Or.inr ⟨rfl, fun q => (hM q).ill (k5 q)⟩⟩
          · exact absurd rfl h4
    · have hc : ¬ (lok y n (skip y n p) = 33 ∨ lok y n (skip y n p) = 40) := fun z => z.elim c33 c40
      by_cases c60 : lok y n (skip y n p) = 60
      · rw [c60]
        refine Rn.lks 128 (60) k_88 rfl (by decide) (rfl) rfl ?_
        refine Rn.aload_n k_88 rfl rfl ?_
        refine Rn.cV1 k_88 rfl rfl q_93 rfl (Nat.le_of_ble_eq_true rfl) (Nat.le_of_ble_eq_true rfl) (s591 L) (ct_less hF hFG hr hSt (by omega) c60) (fun v h'' hq => ?_)
        obtain ⟨z1 | z1, z2⟩ := fin v h'' hc hq
        · rw [z1]
          rw [z1] at z2
          show Rn _ _ _ _ (Value.int 1 :: []) _ _
          refine Rn.reti k_88 rfl q_88 rfl (rfl) ?_
          exact z2
        · rw [z1]
          rw [z1] at z2
          show Rn _ _ _ _ (Value.int 0 :: []) _ _
          refine Rn.reti k_88 rfl q_88 rfl (rfl) ?_
          exact z2
      · by_cases c61 : lok y n (skip y n p) = 61
        · rw [c61]
          refine Rn.lks 139 (61) k_88 rfl (by decide) (rfl) rfl ?_
          refine Rn.aload_n k_88 rfl rfl ?_
          refine Rn.iload_n k_88 rfl rfl ?_
          refine Rn.cV2 k_88 rfl rfl q_92 rfl (Nat.le_of_ble_eq_true rfl) (Nat.le_of_ble_eq_true rfl) (s591 L) (ct_named hF hFG hr hSt (by omega) c61 (Or.inr rfl)) (fun v h'' hq => ?_)
          obtain ⟨z1 | z1, z2⟩ := fin v h'' hc hq
          · rw [z1]
            rw [z1] at z2
            show Rn _ _ _ _ (Value.int 1 :: []) _ _
            refine Rn.reti k_88 rfl q_88 rfl (rfl) ?_
            exact z2
          · rw [z1]
            rw [z1] at z2
            show Rn _ _ _ _ (Value.int 0 :: []) _ _
            refine Rn.reti k_88 rfl q_88 rfl (rfl) ?_
            exact z2
        · by_cases c63 : lok y n (skip y n p) = 63
          · rw [c63]
            refine Rn.lks 116 (63) k_88 rfl (by decide) (rfl) rfl ?_
            refine Rn.aload_n k_88 rfl rfl ?_
            refine Rn.iload_n k_88 rfl rfl ?_
            refine Rn.cV2 k_88 rfl rfl q_91 rfl (Nat.le_of_ble_eq_true rfl) (Nat.le_of_ble_eq_true rfl) (s591 L) (ct_plain hF hFG hr hSt (by omega) c63 (Or.inl rfl)) (fun v h'' hq => ?_)
            obtain ⟨z1 | z1, z2⟩ := fin v h'' hc hq
            · rw [z1]
              rw [z1] at z2
              show Rn _ _ _ _ (Value.int 1 :: []) _ _
              refine Rn.reti k_88 rfl q_88 rfl (rfl) ?_
              exact z2
            · rw [z1]
              rw [z1] at z2
              show Rn _ _ _ _ (Value.int 0 :: []) _ _
              refine Rn.reti k_88 rfl q_88 rfl (rfl) ?_
              exact z2
          · by_cases c64 : lok y n (skip y n p) = 64
            · rw [c64]
              refine Rn.lks 133 (64) k_88 rfl (by decide) (rfl) rfl ?_
              refine Rn.aload_n k_88 rfl rfl ?_
              refine Rn.iload_n k_88 rfl rfl ?_
              refine Rn.cV2 k_88 rfl rfl q_92 rfl (Nat.le_of_ble_eq_true rfl) (Nat.le_of_ble_eq_true rfl) (s591 L) (ct_named hF hFG hr hSt (by omega) c64 (Or.inl rfl)) (fun v h'' hq => ?_)
              obtain ⟨z1 | z1, z2⟩ := fin v h'' hc hq
              · rw [z1]
                rw [z1] at z2
                show Rn _ _ _ _ (Value.int 1 :: []) _ _
                refine Rn.reti k_88 rfl q_88 rfl (rfl) ?_
                exact z2
              · rw [z1]
                rw [z1] at z2
                show Rn _ _ _ _ (Value.int 0 :: []) _ _
                refine Rn.reti k_88 rfl q_88 rfl (rfl) ?_
                exact z2
            · by_cases c126 : lok y n (skip y n p) = 126
              · rw [c126]
                refine Rn.lks 122 (126) k_88 rfl (by decide) (rfl) rfl ?_
                refine Rn.aload_n k_88 rfl rfl ?_
                refine Rn.iload_n k_88 rfl rfl ?_
                refine Rn.cV2 k_88 rfl rfl q_91 rfl (Nat.le_of_ble_eq_true rfl) (Nat.le_of_ble_eq_true rfl) (s591 L) (ct_plain hF hFG hr hSt (by omega) c126 (Or.inr rfl)) (fun v h'' hq => ?_)
                obtain ⟨z1 | z1, z2⟩ := fin v h'' hc hq
                · rw [z1]
                  rw [z1] at z2
                  show Rn _ _ _ _ (Value.int 1 :: []) _ _
                  refine Rn.reti k_88 rfl q_88 rfl (rfl) ?_
                  exact z2
                · rw [z1]
                  rw [z1] at z2
                  show Rn _ _ _ _ (Value.int 0 :: []) _ _
                  refine Rn.reti k_88 rfl q_88 rfl (rfl) ?_
                  exact z2
              · have hout : ∀ q ∈ (#[(33, 66), (40, 88), (60, 122), (61, 133), (63, 110), (64, 127), (126, 116)] : Array (Int × Int)).toList, q.1 ≠ (nI (lok y n (skip y n p))).toInt := by
                  rw [nI_toInt (by omega)]
                  intro q hq
                  simp only [List.mem_cons, List.not_mem_nil, or_false] at hq
                  rcases hq with rfl | rfl | rfl | rfl | rfl | rfl | rfl <;> dsimp only <;> omega
                refine Rn.lkso 145 k_88 rfl (hout) rfl ?_
                refine Rn.aload_n k_88 rfl rfl ?_
                refine Rn.cV1 k_88 rfl rfl q_94 rfl (Nat.le_of_ble_eq_true rfl) (Nat.le_of_ble_eq_true rfl) (s591 L) (ct_tagOrValue hF hFG hr hss hSt (by omega) ⟨c64, c61, c60, c63, c126⟩) (fun v h'' hq => ?_)
                obtain ⟨z1 | z1, z2⟩ := fin v h'' hc hq
                · rw [z1]
                  rw [z1] at z2
                  show Rn _ _ _ _ (Value.int 1 :: []) _ _
                  refine Rn.reti k_88 rfl q_88 rfl (rfl) ?_
                  exact z2
                · rw [z1]
                  rw [z1] at z2
                  show Rn _ _ _ _ (Value.int 0 :: []) _ _
                  refine Rn.reti k_88 rfl q_88 rfl (rfl) ?_
                  exact z2
end FP
