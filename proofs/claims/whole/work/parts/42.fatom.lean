/-! FilterReader: plain, named, less, tagOrValue -/
def PQ (L : Nat) (fi : Nat → Nat → Int32) (fl : Nat → Nat → Int64) (fr : Nat → Nat → Option Nat) (G : Nat) (y : Nat → Nat) (n : Nat) (ok : Nat → List FS → Prop) (ill : Nat → Prop) : Option Value → am_H → Prop := fun v h' => ∃ fi' fl', h' = (SH L, fi', fl', fr) ∧ (∀ a k, frI G a k → fi' a k = fi a k) ∧ (∀ a k, frL G a → fl' a k = fl a k) ∧ ∃ p', FRd fi' y n p' ∧ ((v = some (.int 1) ∧ ∃ S', STp fi' fl' G S' ∧ ok p' S') ∨ (v = some (.int 0) ∧ ill p'))
theorem PQ.base {L : Nat} {fi gi : Nat → Nat → Int32} {fl gl : Nat → Nat → Int64} {fr : Nat → Nat → Option Nat} {G : Nat} {y : Nat → Nat} {n : Nat} {ok : Nat → List FS → Prop} {ill : Nat → Prop} {v : Option Value} {h : am_H} (q : PQ L gi gl fr G y n ok ill v h) (h1 : ∀ a k, frI G a k → gi a k = fi a k) (h2 : ∀ a k, frL G a → gl a k = fl a k) : PQ L fi fl fr G y n ok ill v h := by
  obtain ⟨fi', fl', e, q1, q2, q3⟩ := q
  exact ⟨fi', fl', e, fun a k ha => (q1 a k ha).trans (h1 a k ha), fun a k ha => (q2 a k ha).trans (h2 a k ha), q3⟩
theorem PQ.mono {L : Nat} {fi : Nat → Nat → Int32} {fl : Nat → Nat → Int64} {fr : Nat → Nat → Option Nat} {G : Nat} {y : Nat → Nat} {n : Nat} {ok ok' : Nat → List FS → Prop} {ill ill' : Nat → Prop} {v : Option Value} {h : am_H} (q : PQ L fi fl fr G y n ok ill v h) (h1 : ∀ p S, ok p S → ok' p S) (h2 : ∀ p, ill p → ill' p) : PQ L fi fl fr G y n ok' ill' v h := by
  obtain ⟨fi', fl', e, q1, q2, p', q3, q4⟩ := q
  refine ⟨fi', fl', e, q1, q2, p', q3, ?_⟩
  rcases q4 with ⟨a, S', b, c⟩ | ⟨a, b⟩
  · exact Or.inl ⟨a, S', b, h1 _ _ c⟩
  · exact Or.inr ⟨a, h2 _ b⟩
/-- what an atom at p does -/
def atQ (L : Nat) (fi : Nat → Nat → Int32) (fl : Nat → Nat → Int64) (fr : Nat → Nat → Option Nat) (G : Nat) (y : Nat → Nat) (n p : Nat) (S : List FS) : Option Value → am_H → Prop := PQ L fi fl fr G y n (fun p' S' => ∃ a, atomW y n p = .inl (a, p') ∧ S' = S ++ [a]) (fun p' => atomW y n p = .inr p')
section FA
variable {d L : Nat} {fi : Nat → Nat → Int32} {fl : Nat → Nat → Int64} {fr : Nat → Nat → Option Nat} {F G : Nat} {y : Nat → Nat} {n p : Nat} {S : List FS}
theorem STp.at {X : Nat} (hX : FX X) (h : STp fi fl X S) (v : Int32) : STp (up2 fi 591 3 v) fl X S := by
  have : X ≠ 591 ∧ X + 1 ≠ 591 := by rcases hX with rfl | rfl <;> decide
  exact h.keep (up2_row _ _ this.1) (fun q => up2_row _ _ this.2) (fun _ _ _ _ => rfl)
theorem fr_at {v : Int32} : ∀ a k, frI G a k → up2 fi 591 3 v a k = fi a k := by
  intro a k ha
  unfold up2
  rcases ha.1 with h | h
  · rw [if_neg h]
  · rw [if_neg h]; split <;> rfl
theorem lok_lt {c : Nat} (h : lok y n p = c) (hc : c ≠ 0) : p < n := by
  unfold lok at h
  split at h
  · assumption
  · exact absurd h.symm hc
theorem FRd.step {gi : Nat → Nat → Int32} (hFG : FG F G) (h : FRd fi y n p) (e : ∀ a k, (a ≠ G ∨ k ≠ 4) → a ≠ G + 1 → gi a k = fi a k) : FRd gi y n p := by
  have : G = 592 ∨ G = 599 := hFG.xG
  refine ⟨fun k hk => ?_, ?_, ?_, h.2.2.2⟩
  · rw [e 18 k (Or.inl (by omega)) (by omega)]; exact h.1 k hk
  · rw [e 591 2 (Or.inl (by omega)) (by omega)]; exact h.2.1
  · rw [e 591 3 (Or.inl (by omega)) (by omega)]; exact h.2.2.1
theorem ct_plain (hF : FRok F G fr) (hFG : FG F G) (h : FRd fi y n p) (hS : STp fi fl G S) (hl : S.length ≤ p) {c : Nat} (hc : lok y n p = c) (hc2 : c = 63 ∨ c = 126) : Rn (d + 1) 91 0 [some (.ref 591), some (.int (nI c))] [] (SH L, fi, fl, fr) (atQ L fi fl fr G y n p S) := by
  have hpn := lok_lt hc (by omega)
  have hn := h.2.2.2.1
  refine Rn.aload_n k_91 rfl rfl ?_
  refine Rn.dupa k_91 rfl ?_
  refine Rn.getI k_91 rfl rfl (s591 L) ?_
  rw [h.2.2.1]
  refine Rn.iconst (1) k_91 rfl rfl ?_
  refine Rn.iadd k_91 rfl ?_
  rw [c_add 1 1 rfl]
  have h' := h.at (q := p + 1) (by omega)
  refine Rn.putI k_91 rfl (rfl) (s591 L) ?_
  refine Rn.aload_n k_91 rfl rfl ?_
  refine Rn.getA k_91 rfl rfl (s591 L) hF.2.2.2.1 ?_
  refine Rn.iload_n k_91 rfl rfl ?_
  refine Rn.lconst 0 k_91 rfl rfl ?_
  refine Rn.lconst 0 k_91 rfl rfl ?_
  refine Rn.cV4 k_91 rfl rfl q_77 rfl (Nat.le_of_ble_eq_true rfl) (Nat.le_of_ble_eq_true rfl) (hFG.sG L) (ct_fadd (s := (c, [], [])) hF hFG.xG (hS.at hFG.xG _) (by omega) (show c < 128 by omega) rfl (by unfold fvl; rw [if_neg (show ¬ c = 60 by omega)]; rfl)) (fun v h'' hq => ?_)
  obtain ⟨rfl, gi, gl, rfl, g1, g2, g3⟩ := hq
  show Rn _ _ _ _ [] _ _
  refine Rn.iconst (1) k_91 rfl rfl ?_
  refine Rn.reti k_91 rfl q_91 rfl (rfl) ?_
  refine ⟨gi, gl, rfl, fun a k ha => (g2 a k ha.2.1 ha.2.2).trans (fr_at a k ha), g3, p + 1, h'.step hFG g2, Or.inl ⟨rfl, _, g1, (c, [], []), ?_, rfl⟩⟩
  unfold atomW
  rw [hc, if_neg, if_neg (by omega), if_neg (by omega), if_pos hc2]
  rcases hc2 with rfl | rfl <;> decide
theorem ct_named (hF : FRok F G fr) (hFG : FG F G) (h : FRd fi y n p) (hS : STp fi fl G S) (hl : S.length ≤ p) {c : Nat} (hc : lok y n p = c) (hc2 : c = 64 ∨ c = 61) : Rn (d + 2) 92 0 [some (.ref 591), some (.int (nI c)), none, none] [] (SH L, fi, fl, fr) (atQ L fi fl fr G y n p S) := by
  have hpn := lok_lt hc (by omega)
  have hn := h.2.2.2.1
  refine Rn.aload_n k_92 rfl rfl ?_
  refine Rn.dupa k_92 rfl ?_
  refine Rn.getI k_92 rfl rfl (s591 L) ?_
  rw [h.2.2.1]
  refine Rn.iconst (1) k_92 rfl rfl ?_
  refine Rn.iadd k_92 rfl ?_
  rw [c_add 1 1 rfl]
  have h' := h.at (q := p + 1) (by omega)
  refine Rn.putI k_92 rfl (rfl) (s591 L) ?_
  refine Rn.aload_n k_92 rfl rfl ?_
  refine Rn.iconst (1) k_92 rfl rfl ?_
  refine Rn.cV2 k_92 rfl rfl q_95 rfl (Nat.le_of_ble_eq_true rfl) (Nat.le_of_ble_eq_true rfl) (s591 L) (ct_word (b := true) hF h') (fun v h'' hq => ?_)
  obtain ⟨rfl, rfl⟩ := hq
  show Rn _ _ _ _ (Value.long _ :: []) _ _
  rw [up2_up2]
  have ea : atomW y n p = if isL (lok y n (skip y n (p + 1))) = true then .inl ((c, sl y (skip y n (p + 1)) (wend y n (skip y n (p + 1))), []), wend y n (skip y n (p + 1))) else .inr (skip y n (p + 1)) := by
    unfold atomW
    rw [hc, if_neg, if_pos hc2]
    rcases hc2 with rfl | rfl <;> decide
  have hs := skip_le y (show p + 1 ≤ n by omega)
  generalize skip y n (p + 1) = s at hs ea ⊢
  cases hL : isL (lok y n s) with
  | false =>
    rw [hL, if_neg (by decide)] at ea
    rw [if_pos ⟨rfl, rfl⟩, if_pos ⟨rfl, rfl⟩]
    refine Rn.lstore_n2 k_92 rfl rfl ?_
    refine Rn.aload_n k_92 rfl rfl ?_
    refine Rn.getA k_92 rfl rfl (s591 L) hF.2.2.2.1 ?_
    refine Rn.iload_n k_92 rfl rfl ?_
    refine Rn.lload_n k_92 rfl rfl ?_
    refine Rn.lconst 0 k_92 rfl rfl ?_
    refine Rn.cV4 k_92 rfl rfl q_77 rfl (Nat.le_of_ble_eq_true rfl) (Nat.le_of_ble_eq_true rfl) (hFG.sG L) (ct_fadd (s := (c, [], [])) hF hFG.xG (hS.at hFG.xG _) (by omega) (show c < 128 by omega) rfl (by unfold fvl; rw [if_neg (show ¬ c = 60 by omega)]; rfl)) (fun v h'' hq => ?_)
    obtain ⟨rfl, gi, gl, rfl, g1, g2, g3⟩ := hq
    show Rn _ _ _ _ [] _ _
    refine Rn.lload_n k_92 rfl rfl ?_
    refine Rn.lconst 0 k_92 rfl rfl ?_
    refine Rn.lcmp k_92 rfl ?_
    refine Rn.if_eq 36 k_92 rfl rfl (fun h1 => ?_) (fun h1 => ?_)
    · refine Rn.iconst (0) k_92 rfl rfl ?_
      refine Rn.reti k_92 rfl q_92 rfl (rfl) ?_
      exact ⟨gi, gl, rfl, fun a k ha => (g2 a k ha.2.1 ha.2.2).trans (fr_at a k ha), g3, s, (h.at hs).step hFG g2, Or.inr ⟨rfl, ea⟩⟩
    · exact absurd rfl h1
  | true =>
    rw [hL, if_pos rfl] at ea
    rw [if_neg (fun z => by cases z.2), if_neg (fun z => by cases z.2)]
    have hw := wnd_ge (y := y) (n := n) 12 s
    have hw : wend y n s ≤ n := hw.2.2 hs
    have hok := sl_okV (y := y) (n := n) s
    have hgt := wend_gt (isL_N hL)
    have hne : sl y s (wend y n s) ≠ [] := by
      intro z
      have := sl_len y s (wend y n s)
      rw [z] at this
      simp only [List.length_nil] at this
      omega
    have h0 := enc_pos hok hne
    refine Rn.lstore_n2 k_92 rfl rfl ?_
    refine Rn.aload_n k_92 rfl rfl ?_
    refine Rn.getA k_92 rfl rfl (s591 L) hF.2.2.2.1 ?_
    refine Rn.iload_n k_92 rfl rfl ?_
    refine Rn.lload_n k_92 rfl rfl ?_
    refine Rn.lconst 0 k_92 rfl rfl ?_
    refine Rn.cV4 k_92 rfl rfl q_77 rfl (Nat.le_of_ble_eq_true rfl) (Nat.le_of_ble_eq_true rfl) (hFG.sG L) (ct_fadd (s := (c, sl y s (wend y n s), [])) hF hFG.xG (hS.at hFG.xG _) (by omega) (show c < 128 by omega) rfl (by unfold fvl; rw [if_neg (show ¬ c = 60 by omega)]; rfl)) (fun v h'' hq => ?_)
    obtain ⟨rfl, gi, gl, rfl, g1, g2, g3⟩ := hq
    show Rn _ _ _ _ [] _ _
    refine Rn.lload_n k_92 rfl rfl ?_
    refine Rn.lconst 0 k_92 rfl rfl ?_
    refine Rn.lcmp k_92 rfl ?_
    refine Rn.if_eq 36 k_92 rfl rfl (fun h1 => ?_) (fun h1 => ?_)
    · exact absurd ((pk_lEQ (enc_lt63 (okV_len hok)) (by decide)).mp ((lg_cmp_eq _ _).mp h1)) h0
    · refine Rn.iconst (1) k_92 rfl rfl ?_
      refine Rn.goto 37 k_92 rfl rfl ?_
      refine Rn.reti k_92 rfl q_92 rfl (rfl) ?_
      exact ⟨gi, gl, rfl, fun a k ha => (g2 a k ha.2.1 ha.2.2).trans (fr_at a k ha), g3, _, (h.at hw).step hFG g2, Or.inl ⟨rfl, _, g1, _, ea, rfl⟩⟩
theorem ct_less (hF : FRok F G fr) (hFG : FG F G) (h : FRd fi y n p) (hS : STp fi fl G S) (hl : S.length ≤ p) (hc : lok y n p = 60) : Rn (d + 1) 93 0 [some (.ref 591), none] [] (SH L, fi, fl, fr) (atQ L fi fl fr G y n p S) := by
  have hpn := lok_lt hc (by decide)
  have hn := h.2.2.2.1
  refine Rn.aload_n k_93 rfl rfl ?_
  refine Rn.dupa k_93 rfl ?_
  refine Rn.getI k_93 rfl rfl (s591 L) ?_
  rw [h.2.2.1]
  refine Rn.iconst (1) k_93 rfl rfl ?_
  refine Rn.iadd k_93 rfl ?_
  rw [c_add 1 1 rfl]
  have h' := h.at (q := p + 1) (by omega)
  refine Rn.putI k_93 rfl (rfl) (s591 L) ?_
  refine Rn.aload_n k_93 rfl rfl ?_
  refine Rn.cV1 k_93 rfl rfl q_96 rfl (Nat.le_of_ble_eq_true rfl) (Nat.le_of_ble_eq_true rfl) (s591 L) (ct_next hF h') (fun v h'' hq => ?_)
  obtain ⟨rfl, rfl⟩ := hq
  show Rn _ _ _ _ (Value.int _ :: []) _ _
  rw [up2_up2]
  have ea : atomW y n p = if 49 ≤ lok y n (skip y n (p + 1)) ∧ lok y n (skip y n (p + 1)) ≤ 57 then .inl ((60, [], [lok y n (skip y n (p + 1))]), skip y n (p + 1) + 1) else .inr (skip y n (p + 1)) := by
    unfold atomW
    rw [hc, if_neg (by decide), if_neg (by decide), if_pos rfl]
  have hs := skip_le y (show p + 1 ≤ n by omega)
  have hsg := skip_ge y n (p + 1)
  have hlk := h.lk (skip y n (p + 1))
  generalize skip y n (p + 1) = s at hs hsg hlk ea ⊢
  have no : ¬ (49 ≤ lok y n s ∧ lok y n s ≤ 57) → Rn (d + 1) 93 27 [some (.ref 591), some (.int (nI (lok y n s)))] [] (SH L, up2 fi 591 3 (nI s), fl, fr) (atQ L fi fl fr G y n p S) := by
    intro z
    rw [if_neg z] at ea
    refine Rn.iconst (0) k_93 rfl rfl ?_
    refine Rn.reti k_93 rfl q_93 rfl (rfl) ?_
    exact ⟨_, fl, rfl, fr_at, fun _ _ _ => rfl, s, h.at hs, Or.inr ⟨rfl, ea⟩⟩
  refine Rn.istore_n1 k_93 rfl rfl ?_
  refine Rn.iload_n k_93 rfl rfl ?_
  refine Rn.bipush (49) k_93 rfl rfl ?_
  refine Rn.icmp_lt 27 k_93 rfl rfl (fun h1 => ?_) (fun h1 => ?_)
  · rw [c_lt 49 49 rfl (by omega) (by decide)] at h1
    exact no (by omega)
  · rw [c_lt 49 49 rfl (by omega) (by decide)] at h1
    refine Rn.iload_n k_93 rfl rfl ?_
    refine Rn.bipush (57) k_93 rfl rfl ?_
    refine Rn.icmp_le 29 k_93 rfl rfl (fun h2 => ?_) (fun h2 => ?_)
    · rw [c_le 57 57 rfl (by omega) (by decide)] at h2
      rw [if_pos ⟨by omega, h2⟩] at ea
      have hsn : s < n := lok_lt (c := lok y n s) rfl (by omega)
      refine Rn.aload_n k_93 rfl rfl ?_
      refine Rn.dupa k_93 rfl ?_
      refine Rn.getI k_93 rfl rfl (s591 L) ?_
      rw [up2_same]
      refine Rn.iconst (1) k_93 rfl rfl ?_
      refine Rn.iadd k_93 rfl ?_
      rw [c_add 1 1 rfl]
      refine Rn.putI k_93 rfl (rfl) (s591 L) ?_
      refine Rn.aload_n k_93 rfl rfl ?_
      refine Rn.getA k_93 rfl rfl (s591 L) hF.2.2.2.1 ?_
      refine Rn.bipush (60) k_93 rfl rfl ?_
      refine Rn.lconst 0 k_93 rfl rfl ?_
      refine Rn.iload_n k_93 rfl rfl ?_
      refine Rn.bipush (48) k_93 rfl rfl ?_
      rw [up2_up2]
      refine Rn.isub k_93 rfl ?_
      rw [c_sub 48 48 rfl (by omega)]
      refine Rn.i2l k_93 rfl ?_
      rw [nI_l (by omega)]
      refine Rn.cV4 k_93 rfl rfl q_77 rfl (Nat.le_of_ble_eq_true rfl) (Nat.le_of_ble_eq_true rfl) (hFG.sG L) (ct_fadd (s := (60, [], [lok y n s])) hF hFG.xG (hS.at hFG.xG _) (by omega) (show 60 < 128 by decide) rfl rfl) (fun v h'' hq => ?_)
      obtain ⟨rfl, gi, gl, rfl, g1, g2, g3⟩ := hq
      show Rn _ _ _ _ [] _ _
      refine Rn.iconst (1) k_93 rfl rfl ?_
      refine Rn.reti k_93 rfl q_93 rfl (rfl) ?_
      exact ⟨gi, gl, rfl, fun a k ha => (g2 a k ha.2.1 ha.2.2).trans (fr_at a k ha), g3, s + 1, (h.at (by omega)).step hFG g2, Or.inl ⟨rfl, _, g1, _, ea, rfl⟩⟩
    · rw [c_le 57 57 rfl (by omega) (by decide)] at h2
      exact no (by omega)
theorem ct_tagOrValue (hF : FRok F G fr) (hFG : FG F G) (h : FRd fi y n p) (hp : skip y n p = p) (hS : STp fi fl G S) (hl : S.length ≤ p) (hc : lok y n p ≠ 64 ∧ lok y n p ≠ 61 ∧ lok y n p ≠ 60 ∧ lok y n p ≠ 63 ∧ lok y n p ≠ 126) : Rn (d + 2) 94 0 [some (.ref 591), none, none, none, none] [] (SH L, fi, fl, fr) (atQ L fi fl fr G y n p S) := by
  have hn := h.2.2.2.1
  have hpn := h.2.2.2.2
  refine Rn.aload_n k_94 rfl rfl ?_
  refine Rn.iconst (1) k_94 rfl rfl ?_
  refine Rn.cV2 k_94 rfl rfl q_95 rfl (Nat.le_of_ble_eq_true rfl) (Nat.le_of_ble_eq_true rfl) (s591 L) (ct_word (b := true) hF h) (fun v h'' hq => ?_)
  obtain ⟨rfl, rfl⟩ := hq
  show Rn _ _ _ _ (Value.long _ :: []) _ _
  rw [hp]
  cases hL : isL (lok y n p) with
  | false =>
    have ea : atomW y n p = .inr p := by
      unfold atomW
      rw [hL, if_neg (by decide), if_neg (fun z => z.elim hc.1 hc.2.1), if_neg hc.2.2.1, if_neg (fun z => z.elim hc.2.2.2.1 hc.2.2.2.2)]
    rw [if_pos ⟨rfl, rfl⟩, if_pos ⟨rfl, rfl⟩]
    refine Rn.lstore_n1 k_94 rfl rfl ?_
    refine Rn.lload_n k_94 rfl rfl ?_
    refine Rn.lconst 0 k_94 rfl rfl ?_
    refine Rn.lcmp k_94 rfl ?_
    refine Rn.if_ne 14 k_94 rfl rfl (fun h1 => ?_) (fun h1 => ?_)
    · exact absurd rfl h1
    · refine Rn.iconst (0) k_94 rfl rfl ?_
      refine Rn.reti k_94 rfl q_94 rfl (rfl) ?_
      exact ⟨_, fl, rfl, fr_at, fun _ _ _ => rfl, p, h.at hpn, Or.inr ⟨rfl, ea⟩⟩
  | true =>
    rw [if_neg (fun z => by cases z.2), if_neg (fun z => by cases z.2)]
    have hw := wnd_ge (y := y) (n := n) 12 p
    have hw : wend y n p ≤ n := hw.2.2 hpn
    have hok := sl_okV (y := y) (n := n) p
    have hgt := wend_gt (isL_N hL)
    have hne : sl y p (wend y n p) ≠ [] := by
      intro z
      have := sl_len y p (wend y n p)
      rw [z] at this
      simp only [List.length_nil] at this
      omega
    have h0 := enc_pos hok hne
    have ea : atomW y n p = (if lok y n (skip y n (wend y n p)) = 58 then
      (if isN (lok y n (skip y n (skip y n (wend y n p) + 1))) = true then .inl ((58, sl y p (wend y n p), sl y (skip y n (skip y n (wend y n p) + 1)) (wend y n (skip y n (skip y n (wend y n p) + 1)))), wend y n (skip y n (skip y n (wend y n p) + 1)))
      else .inr (skip y n (skip y n (wend y n p) + 1)))
      else .inl ((35, sl y p (wend y n p), []), skip y n (wend y n p))) := by
      unfold atomW
      rw [hL, if_pos rfl]
    have hr := h.at hw
    generalize sl y p (wend y n p) = nm at hok hne h0 ea ⊢
    generalize wend y n p = e at hw hgt ea hr ⊢
    refine Rn.lstore_n1 k_94 rfl rfl ?_
    refine Rn.lload_n k_94 rfl rfl ?_
    refine Rn.lconst 0 k_94 rfl rfl ?_
    refine Rn.lcmp k_94 rfl ?_
    refine Rn.if_ne 14 k_94 rfl rfl (fun h1 => ?_) (fun h1 => ?_)
    · refine Rn.aload_n k_94 rfl rfl ?_
      refine Rn.cV1 k_94 rfl rfl q_96 rfl (Nat.le_of_ble_eq_true rfl) (Nat.le_of_ble_eq_true rfl) (s591 L) (ct_next hF hr) (fun v h'' hq => ?_)
      obtain ⟨rfl, rfl⟩ := hq
      show Rn _ _ _ _ (Value.int _ :: []) _ _
      rw [up2_up2]
      have hs := skip_le y hw
      have hsg := skip_ge y n e
      have hlk := h.lk (skip y n e)
      generalize skip y n e = s at hs hsg hlk ea ⊢
      refine Rn.bipush (58) k_94 rfl rfl ?_
      refine Rn.icmp_eq 36 k_94 rfl rfl (fun h2 => ?_) (fun h2 => ?_)
      · rw [c_eq 58 58 rfl (by omega) (by decide)] at h2
        rw [if_pos h2] at ea
        have hsn := lok_lt h2 (by decide)
        refine Rn.aload_n k_94 rfl rfl ?_
        refine Rn.dupa k_94 rfl ?_
        refine Rn.getI k_94 rfl rfl (s591 L) ?_
        rw [up2_same]
        refine Rn.iconst (1) k_94 rfl rfl ?_
        refine Rn.iadd k_94 rfl ?_
        rw [c_add 1 1 rfl]
        have hr2 := h.at (q := s + 1) (by omega)
        refine Rn.putI k_94 rfl (rfl) (s591 L) ?_
        rw [up2_up2]
        refine Rn.aload_n k_94 rfl rfl ?_
        refine Rn.iconst (0) k_94 rfl rfl ?_
        refine Rn.cV2 k_94 rfl rfl q_95 rfl (Nat.le_of_ble_eq_true rfl) (Nat.le_of_ble_eq_true rfl) (s591 L) (ct_word (b := false) hF hr2) (fun v h'' hq => ?_)
        obtain ⟨rfl, rfl⟩ := hq
        show Rn _ _ _ _ (Value.long _ :: []) _ _
        rw [if_neg (fun z => by cases z.1), if_neg (fun z => by cases z.1), up2_up2]
        have hs2 := skip_le y (show s + 1 ≤ n by omega)
        generalize skip y n (s + 1) = q at hs2 ea ⊢
        have hw2 := wnd_ge (y := y) (n := n) 12 q
        have hwq : wend y n q ≤ n := hw2.2.2 hs2
        have hok2 := sl_okV (y := y) (n := n) q
        refine Rn.lstore_n3 k_94 rfl rfl ?_
        refine Rn.aload_n k_94 rfl rfl ?_
        refine Rn.getA k_94 rfl rfl (s591 L) hF.2.2.2.1 ?_
        refine Rn.bipush (58) k_94 rfl rfl ?_
        refine Rn.lload_n k_94 rfl rfl ?_
        refine Rn.lload_n k_94 rfl rfl ?_
        refine Rn.cV4 k_94 rfl rfl q_77 rfl (Nat.le_of_ble_eq_true rfl) (Nat.le_of_ble_eq_true rfl) (hFG.sG L) (ct_fadd (s := (58, nm, sl y q (wend y n q))) hF hFG.xG (hS.at hFG.xG _) (by omega) (show 58 < 128 by decide) rfl rfl) (fun v h'' hq => ?_)
        obtain ⟨rfl, gi, gl, rfl, g1, g2, g3⟩ := hq
        show Rn _ _ _ _ [] _ _
        cases hN : isN (lok y n q) with
        | true =>
          rw [hN, if_pos rfl] at ea
          have hgt2 := wend_gt hN
          have hne2 : sl y q (wend y n q) ≠ [] := by
            intro z
            have := sl_len y q (wend y n q)
            rw [z] at this
            simp only [List.length_nil] at this
            omega
          have h02 := enc_pos hok2 hne2
          refine Rn.lload_n k_94 rfl rfl ?_
          refine Rn.lconst 0 k_94 rfl rfl ?_
          refine Rn.lcmp k_94 rfl ?_
          refine Rn.if_eq 73 k_94 rfl rfl (fun h3 => ?_) (fun h3 => ?_)
          · exact absurd ((pk_lEQ (enc_lt63 (okV_len hok2)) (by decide)).mp ((lg_cmp_eq _ _).mp h3)) h02
          · refine Rn.iconst (1) k_94 rfl rfl ?_
            refine Rn.goto 74 k_94 rfl rfl ?_
            refine Rn.reti k_94 rfl q_94 rfl (rfl) ?_
            exact ⟨gi, gl, rfl, fun a k ha => (g2 a k ha.2.1 ha.2.2).trans (fr_at a k ha), g3, _, (h.at hwq).step hFG g2, Or.inl ⟨rfl, _, g1, _, ea, rfl⟩⟩
        | false =>
          rw [hN, if_neg (by decide)] at ea
          have hwe : wend y n q = q := by
            unfold wend wnd
            rw [if_neg]
            rintro ⟨z1, z2⟩
            unfold lok at hN
            rw [if_pos z1, z2] at hN
            cases hN
          rw [hwe, sl_nil y (Nat.le_refl q)]
          rw [hwe] at g2
          refine Rn.lload_n k_94 rfl rfl ?_
          refine Rn.lconst 0 k_94 rfl rfl ?_
          refine Rn.lcmp k_94 rfl ?_
          refine Rn.if_eq 73 k_94 rfl rfl (fun h3 => ?_) (fun h3 => ?_)
          · refine Rn.iconst (0) k_94 rfl rfl ?_
            refine Rn.reti k_94 rfl q_94 rfl (rfl) ?_
            exact ⟨gi, gl, rfl, fun a k ha => (g2 a k ha.2.1 ha.2.2).trans (fr_at a k ha), g3, q, (h.at hs2).step hFG g2, Or.inr ⟨rfl, ea⟩⟩
          · exact absurd rfl h3
      · rw [c_eq 58 58 rfl (by omega) (by decide)] at h2
        rw [if_neg h2] at ea
        refine Rn.aload_n k_94 rfl rfl ?_
        refine Rn.getA k_94 rfl rfl (s591 L) hF.2.2.2.1 ?_
        refine Rn.bipush (35) k_94 rfl rfl ?_
        refine Rn.lload_n k_94 rfl rfl ?_
        refine Rn.lconst 0 k_94 rfl rfl ?_
        refine Rn.cV4 k_94 rfl rfl q_77 rfl (Nat.le_of_ble_eq_true rfl) (Nat.le_of_ble_eq_true rfl) (hFG.sG L) (ct_fadd (s := (35, nm, [])) hF hFG.xG (hS.at hFG.xG _) (by omega) (show 35 < 128 by decide) rfl rfl) (fun v h'' hq => ?_)
        obtain ⟨rfl, gi, gl, rfl, g1, g2, g3⟩ := hq
        show Rn _ _ _ _ [] _ _
        refine Rn.iconst (1) k_94 rfl rfl ?_
        refine Rn.reti k_94 rfl q_94 rfl (rfl) ?_
        exact ⟨gi, gl, rfl, fun a k ha => (g2 a k ha.2.1 ha.2.2).trans (fr_at a k ha), g3, s, (h.at hs).step hFG g2, Or.inl ⟨rfl, _, g1, _, ea, rfl⟩⟩
    · exact absurd ((pk_lEQ (enc_lt63 (okV_len hok)) (by decide)).mp ((lg_cmp_eq _ _).mp h1)) h0
end FA
