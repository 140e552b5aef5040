/-! FilterReader: not, negated, enclosed, also, either, read; TestFinder.filter -/
section MC
variable {y : Nat → Nat} {n p : Nat} {S : List FS} {q : List Nat} {o : Nat}
def tp (q : List Nat) : Nat := q.getD 0 0
/-- with the same mark ahead two states do the same -/
theorem mr_sign {p p' : Nat} {S S' : List FS} {q q' : List Nat} {o : Nat} (hp : skip y n p = skip y n p') (hd : drp (lok y n (skip y n p)) q S = drp (lok y n (skip y n p)) q' S') : ∀ f, mrun y n f (2, p, S, q, o) = mrun y n f (2, p', S', q', o)
  | 0 => rfl
  | f + 1 => by
    unfold mrun
    dsimp only
    rw [if_neg (by decide : ¬ (2 : Nat) = 1), if_neg (by decide : ¬ (2 : Nat) = 1), ← hp, hd]
theorem mt_skip : MTo y n (2, p, S, q, o) (2, skip y n p, S, q, o) := ⟨0, mr_sign (skip_skip p).symm rfl⟩
theorem mt_and : MTo y n (2, p, S, 38 :: q, o) (2, p, S ++ [fop 38], q, o) := ⟨0, mr_sign rfl (by rw [drp, if_pos (Or.inl rfl)])⟩
theorem mt_or (h : lok y n (skip y n p) ≠ 38) : MTo y n (2, p, S, 124 :: q, o) (2, p, S ++ [fop 124], q, o) := ⟨0, mr_sign rfl (by rw [drp, if_pos (Or.inr ⟨rfl, h⟩)])⟩
theorem drp_id {c : Nat} (h1 : tp q ≠ 38) (h2 : tp q = 124 → c = 38) : drp c q S = (S, q) := by
  cases q with
  | nil => rfl
  | cons t q =>
    unfold drp
    rw [if_neg]
    rintro (z | z)
    · exact h1 z
    · exact z.2 (h2 z.1)
theorem drp40 {c : Nat} : drp c (40 :: q) S = (S, 40 :: q) := by
  unfold drp
  rw [if_neg (fun z => z.elim (by decide) (fun w => absurd w.1 (by decide)))]
theorem turn_id (h : tp q ≠ 33) : turn q S o = (S, q, o) := by
  cases q with
  | nil => rfl
  | cons t q =>
    have h : t ≠ 33 := h
    unfold turn
    rw [if_neg h]
theorem mt_open {c : Nat} (hc : lok y n (skip y n p) = c) (hc2 : c = 33 ∨ c = 40) (ho : o ≠ 12) : MTo y n (1, p, S, q, o) (1, skip y n p + 1, S, c :: q, o + 1) := by
  refine ⟨1, fun f => ?_⟩
  show mrun y n (f + 1) _ = _
  rw [mrun, if_pos rfl]
  dsimp only
  rw [hc, if_pos hc2, if_neg ho]
theorem mi_open (hc2 : lok y n (skip y n p) = 33 ∨ lok y n (skip y n p) = 40) : MIll y n (1, p, S, q, 12) (skip y n p) := by
  refine ⟨1, fun f => ?_⟩
  show mrun y n (f + 1) _ = _
  rw [mrun, if_pos rfl]
  dsimp only
  rw [if_pos hc2, if_pos rfl]
theorem mt_atom {a : FS} {e : Nat} (hc : ¬ (lok y n (skip y n p) = 33 ∨ lok y n (skip y n p) = 40)) (h : atomW y n (skip y n p) = .inl (a, e)) : MTo y n (1, p, S, q, o) (ms2 e (turn q (S ++ [a]) o)) := by
  refine ⟨1, fun f => ?_⟩
  show mrun y n (f + 1) _ = _
  rw [mrun, if_pos rfl]
  dsimp only
  rw [if_neg hc, h]
theorem mi_atom {e : Nat} (hc : ¬ (lok y n (skip y n p) = 33 ∨ lok y n (skip y n p) = 40)) (h : atomW y n (skip y n p) = .inr e) : MIll y n (1, p, S, q, o) e := by
  refine ⟨1, fun f => ?_⟩
  show mrun y n (f + 1) _ = _
  rw [mrun, if_pos rfl]
  dsimp only
  rw [if_neg hc, h]
theorem lok_n {s : Nat} (hs : lok y n s ≠ 0) : s ≠ n := by
  intro e
  rw [e] at hs
  unfold lok at hs
  rw [if_neg (Nat.lt_irrefl n)] at hs
  exact hs rfl
theorem mt_sign {c : Nat} (hc : lok y n (skip y n p) = c) (hc2 : c = 38 ∨ c = 124) (hd : drp c q S = (S, q)) : MTo y n (2, p, S, q, o) (1, skip y n p + 1, S, c :: q, o) := by
  refine ⟨1, fun f => ?_⟩
  show mrun y n (f + 1) _ = _
  rw [mrun, if_neg (by decide : ¬ (2 : Nat) = 1)]
  dsimp only
  rw [if_neg (lok_n (by rw [hc]; omega)), hc, hd, if_pos hc2]
theorem mt_close (hc : lok y n (skip y n p) = 41) : MTo y n (2, p, S, 40 :: q, o) (ms2 (skip y n p + 1) (turn q S (o - 1))) := by
  refine ⟨1, fun f => ?_⟩
  show mrun y n (f + 1) _ = _
  rw [mrun, if_neg (by decide : ¬ (2 : Nat) = 1)]
  dsimp only
  rw [if_neg (lok_n (by rw [hc]; decide)), hc, drp40]
  rfl
theorem mi_close (h1 : lok y n (skip y n p) ≠ 38) (h2 : lok y n (skip y n p) ≠ 124) (h3 : lok y n (skip y n p) ≠ 41) : MIll y n (2, p, S, 40 :: q, o) (skip y n p) := by
  refine ⟨1, fun f => ?_⟩
  show mrun y n (f + 1) _ = _
  rw [mrun, if_neg (by decide : ¬ (2 : Nat) = 1)]
  dsimp only
  rw [drp40]
  by_cases e : skip y n p = n
  · rw [if_pos e, e]
    rfl
  · rw [if_neg e, if_neg (fun z => z.elim h1 h2)]
    show (if lok y n (skip y n p) = 41 then _ else _) = _
    rw [if_neg h3]
end MC
section FP
variable {L : Nat} {fr : Nat → Nat → Option Nat} {F G : Nat} {y : Nat → Nat} {n : Nat}
def NotC (L : Nat) (fr : Nat → Nat → Option Nat) (G : Nat) (y : Nat → Nat) (n D o : Nat) : Prop := ∀ (d : Nat) (fi : Nat → Nat → Int32) (fl : Nat → Nat → Int64) (p : Nat) (S : List FS), FRd fi y n p → STp fi fl G S → S.length ≤ p → Rn (d + D) 88 0 [some (.ref 591), some (.int (nI o)), none] [] (SH L, fi, fl, fr) (PQ L fi fl fr G y n (fun p' S' => (∀ q, MTo y n (1, p, S, q, o) (ms2 p' (turn q S' o))) ∧ p ≤ p' ∧ S'.length + p ≤ S.length + p') (fun p' => ∀ q, MIll y n (1, p, S, q, o) p'))
def AlsoC (L : Nat) (fr : Nat → Nat → Option Nat) (G : Nat) (y : Nat → Nat) (n D o : Nat) : Prop := ∀ (d : Nat) (fi : Nat → Nat → Int32) (fl : Nat → Nat → Int64) (p : Nat) (S : List FS), FRd fi y n p → STp fi fl G S → S.length ≤ p → Rn (d + D) 87 0 [some (.ref 591), some (.int (nI o))] [] (SH L, fi, fl, fr) (PQ L fi fl fr G y n (fun p' S' => (∀ q, tp q ≠ 38 → tp q ≠ 33 → MTo y n (1, p, S, q, o) (2, p', S', q, o)) ∧ p ≤ p' ∧ S'.length + p ≤ S.length + p' ∧ lok y n (skip y n p') ≠ 38) (fun p' => ∀ q, tp q ≠ 38 → tp q ≠ 33 → MIll y n (1, p, S, q, o) p'))
def EitherC (L : Nat) (fr : Nat → Nat → Option Nat) (G : Nat) (y : Nat → Nat) (n D o : Nat) : Prop := ∀ (d : Nat) (fi : Nat → Nat → Int32) (fl : Nat → Nat → Int64) (p : Nat) (S : List FS), FRd fi y n p → STp fi fl G S → S.length ≤ p → Rn (d + D) 86 0 [some (.ref 591), some (.int (nI o))] [] (SH L, fi, fl, fr) (PQ L fi fl fr G y n (fun p' S' => (∀ q, tp q ≠ 38 → tp q ≠ 33 → tp q ≠ 124 → MTo y n (1, p, S, q, o) (2, p', S', q, o)) ∧ p ≤ p' ∧ S'.length + p ≤ S.length + p' ∧ lok y n (skip y n p') ≠ 38 ∧ lok y n (skip y n p') ≠ 124 ∧ skip y n p' = p') (fun p' => ∀ q, tp q ≠ 38 → tp q ≠ 33 → tp q ≠ 124 → MIll y n (1, p, S, q, o) p'))
theorem frI_fadd {gi fi : Nat → Nat → Int32} (g2 : ∀ a k, (a ≠ G ∨ k ≠ 4) → a ≠ G + 1 → gi a k = fi a k) : ∀ a k, frI G a k → gi a k = fi a k := fun a k ha => g2 a k ha.2.1 ha.2.2
theorem skip_end {p : Nat} (h : n ≤ p) : skip y n p = p := by unfold skip; rw [Nat.sub_eq_zero_of_le h]; rfl
theorem lok_end {p : Nat} (h : n ≤ p) : lok y n (skip y n p) = 0 := by
  have := skip_ge y n p
  unfold lok
  rw [if_neg (by omega)]
set_option maxHeartbeats 1000000 in
theorem ct_also (hF : FRok F G fr) (hFG : FG F G) {D o : Nat} (hN : NotC L fr G y n (D + 1) o) : AlsoC L fr G y n (D + 2) o := by
  intro d fi fl p S hp hS hl
  have hn := hp.2.2.2.1
  have hpn := hp.2.2.2.2
  have loop : ∀ (m q0 : Nat) (T : List FS) (gi : Nat → Nat → Int32) (gl : Nat → Nat → Int64), n ≤ q0 + m → p ≤ q0 → FRd gi y n q0 → STp gi gl G T → T.length + p ≤ S.length + q0 → (∀ a k, frI G a k → gi a k = fi a k) → (∀ a k, frL G a → gl a k = fl a k) → (∀ q, tp q ≠ 38 → tp q ≠ 33 → MTo y n (1, p, S, q, o) (2, q0, T, q, o)) → Rn (d + (D + 2)) 87 10 [some (.ref 591), some (.int (nI o))] [] (SH L, gi, gl, fr) (PQ L fi fl fr G y n (fun p' S' => (∀ q, tp q ≠ 38 → tp q ≠ 33 → MTo y n (1, p, S, q, o) (2, p', S', q, o)) ∧ p ≤ p' ∧ S'.length + p ≤ S.length + p' ∧ lok y n (skip y n p') ≠ 38) (fun p' => ∀ q, tp q ≠ 38 → tp q ≠ 33 → MIll y n (1, p, S, q, o) p')) := by
    intro m
    induction m with
    | zero =>
      intro q0 T gi gl hm hpq hg hT hTl g1 g2 hM
      have hq := hg.2.2.2.2
      refine Rn.aload_n k_87 rfl rfl ?_
      refine Rn.getI k_87 rfl rfl (s591 L) ?_
      refine Rn.aload_n k_87 rfl rfl ?_
      refine Rn.getI k_87 rfl rfl (s591 L) ?_
      rw [hg.2.1, hg.2.2.1]
      refine Rn.icmp_ge 64 k_87 rfl rfl (fun h2 => ?_) (fun h2 => ?_)
      · refine Rn.iconst (1) k_87 rfl rfl ?_
        refine Rn.reti k_87 rfl q_87 rfl (rfl) ?_
        exact ⟨gi, gl, rfl, g1, g2, q0, hg, Or.inl ⟨rfl, T, hT, hM, hpq, hTl, by rw [lok_end (by omega)]; decide⟩⟩
      · rw [nI_leI (by omega) (by omega)] at h2
        omega
    | succ m ih =>
      intro q0 T gi gl hm hpq hg hT hTl g1 g2 hM
      have hq := hg.2.2.2.2
      refine Rn.aload_n k_87 rfl rfl ?_
      refine Rn.getI k_87 rfl rfl (s591 L) ?_
      refine Rn.aload_n k_87 rfl rfl ?_
      refine Rn.getI k_87 rfl rfl (s591 L) ?_
      rw [hg.2.1, hg.2.2.1]
      refine Rn.icmp_ge 64 k_87 rfl rfl (fun h2 => ?_) (fun h2 => ?_)
      · rw [nI_leI (by omega) (by omega)] at h2
        refine Rn.iconst (1) k_87 rfl rfl ?_
        refine Rn.reti k_87 rfl q_87 rfl (rfl) ?_
        exact ⟨gi, gl, rfl, g1, g2, q0, hg, Or.inl ⟨rfl, T, hT, hM, hpq, hTl, by rw [lok_end (by omega)]; decide⟩⟩
      · rw [nI_leI (by omega) (by omega)] at h2
        refine Rn.aload_n k_87 rfl rfl ?_
        refine Rn.cV1 k_87 rfl rfl q_96 rfl (Nat.le_of_ble_eq_true rfl) (Nat.le_of_ble_eq_true rfl) (s591 L) (ct_next hF hg) (fun v h'' hq => ?_)
        obtain ⟨rfl, rfl⟩ := hq
        show Rn _ _ _ _ (Value.int _ :: []) _ _
        have hs := skip_le y hq
        have hsg := skip_ge y n q0
        have hlk := hg.lk (skip y n q0)
        have hM1 : ∀ q, tp q ≠ 38 → tp q ≠ 33 → MTo y n (1, p, S, q, o) (2, skip y n q0, T, q, o) := fun q z1 z2 => (hM q z1 z2).trans mt_skip
        refine Rn.bipush (38) k_87 rfl rfl ?_
        refine Rn.icmp_ne 64 k_87 rfl rfl (fun h3 => ?_) (fun h3 => ?_)
        · rw [c_eq 38 38 rfl (by omega) (by decide)] at h3
          refine Rn.iconst (1) k_87 rfl rfl ?_
          refine Rn.reti k_87 rfl q_87 rfl (rfl) ?_
          exact ⟨_, gl, rfl, fun a k ha => (fr_at a k ha).trans (g1 a k ha), g2, _, hg.at hs, Or.inl ⟨rfl, T, hT.at hFG.xG _, hM1, by omega, by omega, by rw [skip_skip]; exact h3⟩⟩
        · rw [c_eq 38 38 rfl (by omega) (by decide)] at h3
          have hsn := lok_lt h3 (by decide)
          refine Rn.aload_n k_87 rfl rfl ?_
          refine Rn.dupa k_87 rfl ?_
          refine Rn.getI k_87 rfl rfl (s591 L) ?_
          rw [up2_same]
          refine Rn.iconst (1) k_87 rfl rfl ?_
          refine Rn.iadd k_87 rfl ?_
          rw [c_add 1 1 rfl]
          refine Rn.putI k_87 rfl (rfl) (s591 L) ?_
          refine Rn.aload_n k_87 rfl rfl ?_
          refine Rn.iload_n k_87 rfl rfl ?_
          rw [up2_up2]
          have hg3 := hg.at (q := skip y n q0 + 1) (by omega)
          refine Rn.cV2 k_87 rfl rfl q_88 rfl (Nat.le_of_ble_eq_true rfl) (Nat.le_of_ble_eq_true rfl) (s591 L) (hN d _ gl _ T hg3 (hT.at hFG.xG _) (by omega)) (fun v h'' hq => ?_)
          obtain ⟨ki, kl, rfl, k1, k2, p', k3, k4⟩ := hq
          have k1' : ∀ a k, frI G a k → ki a k = fi a k := fun a k ha => (k1 a k ha).trans ((fr_at a k ha).trans (g1 a k ha))
          have k2' : ∀ a k, frL G a → kl a k = fl a k := fun a k ha => (k2 a k ha).trans (g2 a k ha)
          have hM2 : ∀ q, tp q ≠ 38 → tp q ≠ 33 → MTo y n (1, p, S, q, o) (1, skip y n q0 + 1, T, 38 :: q, o) := fun q z1 z2 => (hM q z1 z2).trans (mt_sign h3 (Or.inl rfl) (drp_id z1 (fun _ => rfl)))
          rcases k4 with ⟨rfl, S', k5, k6, k8, k7⟩ | ⟨rfl, k5⟩
          · show Rn _ _ _ _ (Value.int 1 :: []) _ _
            refine Rn.if_ne 50 k_87 rfl rfl (fun h4 => ?_) (fun h4 => ?_)
            · have hp' := k3.2.2.2.2
              refine Rn.aload_n k_87 rfl rfl ?_
              refine Rn.getA k_87 rfl rfl (s591 L) hF.2.2.2.1 ?_
              refine Rn.bipush (38) k_87 rfl rfl ?_
              refine Rn.lconst 0 k_87 rfl rfl ?_
              refine Rn.lconst 0 k_87 rfl rfl ?_
              refine Rn.cV4 k_87 rfl rfl q_77 rfl (Nat.le_of_ble_eq_true rfl) (Nat.le_of_ble_eq_true rfl) (hFG.sG L) (ct_fadd (s := fop 38) hF hFG.xG k5 (by omega) (show 38 < 128 by decide) rfl rfl) (fun v h'' hq => ?_)
              obtain ⟨rfl, ji, jl, rfl, j1, j2, j3⟩ := hq
              show Rn _ _ _ _ [] _ _
              refine Rn.goto 10 k_87 rfl rfl ?_
              have hlen : (S' ++ [fop 38]).length = S'.length + 1 := by rw [List.length_append]; rfl
              refine ih p' (S' ++ [fop 38]) ji jl (by omega) (by omega) (k3.step hFG j2) j1 (by rw [hlen]; omega) (fun a k ha => (j2 a k ha.2.1 ha.2.2).trans (k1' a k ha)) (fun a k ha => (j3 a k ha).trans (k2' a k ha)) (fun q z1 z2 => ?_)
              refine ((hM2 q z1 z2).trans (k6 (38 :: q))).trans ?_
              rw [turn_id (by show (38 : Nat) ≠ 33; decide)]
              exact mt_and
            · exact absurd h4 (by decide)
          · show Rn _ _ _ _ (Value.int 0 :: []) _ _
            refine Rn.if_ne 50 k_87 rfl rfl (fun h4 => ?_) (fun h4 => ?_)
            · exact absurd rfl h4
            · refine Rn.iconst (0) k_87 rfl rfl ?_
              refine Rn.reti k_87 rfl q_87 rfl (rfl) ?_
              exact ⟨ki, kl, rfl, k1', k2', p', k3, Or.inr ⟨rfl, fun q z1 z2 => (hM2 q z1 z2).ill (k5 (38 :: q))⟩⟩
  refine Rn.aload_n k_87 rfl rfl ?_
  refine Rn.iload_n k_87 rfl rfl ?_
  refine Rn.cV2 k_87 rfl rfl q_88 rfl (Nat.le_of_ble_eq_true rfl) (Nat.le_of_ble_eq_true rfl) (s591 L) (hN d fi fl p S hp hS hl) (fun v h'' hq => ?_)
  obtain ⟨ki, kl, rfl, k1, k2, p', k3, k4⟩ := hq
  rcases k4 with ⟨rfl, S', k5, k6, k8, k7⟩ | ⟨rfl, k5⟩
  · show Rn _ _ _ _ (Value.int 1 :: []) _ _
    refine Rn.if_ne 10 k_87 rfl rfl (fun h1 => ?_) (fun h1 => ?_)
    · refine loop n p' S' ki kl (by omega) k8 k3 k5 k7 k1 k2 (fun q z1 z2 => ?_)
      have := k6 q
      rw [turn_id z2] at this
      exact this
    · exact absurd h1 (by decide)
  · show Rn _ _ _ _ (Value.int 0 :: []) _ _
    refine Rn.if_ne 10 k_87 rfl rfl (fun h1 => ?_) (fun h1 => ?_)
    · exact absurd rfl h1
    · refine Rn.iconst (0) k_87 rfl rfl ?_
      refine Rn.reti k_87 rfl q_87 rfl (rfl) ?_
      exact ⟨ki, kl, rfl, k1, k2, p', k3, Or.inr ⟨rfl, fun q _ _ => k5 q⟩⟩
end FP
