/-! THE CALLS: what both hold between calls -/
def Gd (n : Nat) (A : AS) (T : List Nat) (S : List FS) : Prop := AOk n A ∧ TOk T ∧ S.length ≤ 120 ∧ (S = [] ∨ sOk S 1)
/-- the class holds T, A (of the text x, n) and S -/
def CLs (L : Nat) (xs : Nat → Int32) (F G : Nat) (T : List Nat) (A : AS) (x : Nat → Nat) (n : Nat) (S : List FS) (fi : Nat → Nat → Int32) (fl : Nat → Nat → Int64) (fr : Nat → Nat → Option Nat) : Prop := FG F G ∧ FRok F G fr ∧ STs L fi fr ∧ (∀ j, fi 0 j = xs j) ∧ FSr fi fl x n A ∧ TPr fi T ∧ STp fi fl F S
/-- the reference holds them -/
def MLs (T : List Nat) (A : AS) (x : Nat → Nat) (n : Nat) (S : List FS) (fi : Nat → Nat → Int32) : Prop := MFr fi x n A ∧ MTP fi T ∧ MFl fi S
theorem MLs.low {T : List Nat} {A : AS} {x : Nat → Nat} {n : Nat} {S : List FS} {fi fi' : Nat → Nat → Int32} (hA : AOk n A) (h : MLs T A x n S fi) (e : ∀ a k, 604 ≤ a → fi' a k = fi a k) : MLs T A x n S fi' := ⟨h.1.keep hA (fun a k z => e _ _ (by omega)) (fun k _ => e _ _ (by omega)), h.2.1.keep (e _ _ (by omega)) (fun k => e _ _ (by omega)), h.2.2.keep (e _ _ (by omega)) (e _ _ (by omega)) (fun a k z1 z2 => e _ _ (by omega))⟩
theorem CLs.keep {L : Nat} {xs : Nat → Int32} {F G : Nat} {T : List Nat} {A : AS} {x : Nat → Nat} {n : Nat} {S : List FS} {fi fi' : Nat → Nat → Int32} {fl : Nat → Nat → Int64} {fr : Nat → Nat → Option Nat} (hA : AOk n A) (h : CLs L xs F G T A x n S fi fl fr) (e : ∀ a k, a < 585 ∨ (a = F ∧ k = 4) ∨ a = F + 1 → fi' a k = fi a k) : CLs L xs F G T A x n S fi' fl fr := by
  obtain ⟨h1, h2, h3, h4, h5, h6, h7⟩ := h
  exact ⟨h1, h2, h3.keep (fun a q z => e _ _ (by omega)), fun j => (e _ _ (by omega)).trans (h4 j), h5.keep hA (fun a q z1 z2 => e _ _ (by omega)) (fun _ _ _ _ => rfl), ⟨(e _ _ (by omega)).trans h6.1, fun k hk => (e _ _ (by omega)).trans (h6.2 k hk)⟩, h7.keep (e _ _ (by omega)) (fun q => e _ _ (by omega)) (fun _ _ _ _ => rfl)⟩
def cQ (L : Nat) (xs : Nat → Int32) (T : List Nat) (A : AS) (x : Nat → Nat) (n : Nat) (S : List FS) (fi : Nat → Nat → Int32) (y : Int32) : Option Value → am_H → Prop := fun v h' => v = some (.int y) ∧ ∃ F G fi' fl' fr', h' = (SH L, fi', fl', fr') ∧ CLs L xs F G T A x n S fi' fl' fr' ∧ ∀ a k, 604 ≤ a → fi' a k = fi a k
def mQ (L : Nat) (fl : Nat → Nat → Int64) (fr : Nat → Nat → Option Nat) (T : List Nat) (A : AS) (x : Nat → Nat) (n : Nat) (S : List FS) (fi : Nat → Nat → Int32) (y : Int32) : Option Value → am_H → Prop := fun v h' => v = some (.int y) ∧ ∃ fi', h' = (SH L, fi', fl, fr) ∧ MLs T A x n S fi' ∧ ∀ a k, a < 604 → fi' a k = fi a k
theorem TOk.app {T : List Nat} {w : Int64} (h : TOk T) (hw : txtOk w T) : TOk (T ++ bys w 8) := by
  refine ⟨by rw [List.length_append]; exact hw.2, fun c hc => ?_⟩
  rcases List.mem_append.mp hc with z | z
  · exact h.2 c z
  · exact ⟨ok_c_lt (hw.1 c z), hw.1 c z⟩
theorem TOk.nil : TOk [] := ⟨Nat.zero_le _, fun c hc => by cases hc⟩
theorem TOk.at {T : List Nat} (h : TOk T) {k : Nat} (hk : k < T.length) : T.getD k 0 < 128 := (h.2 _ (gD_mem hk)).1
section CC
variable {d L : Nat} {xs : Nat → Int32} {F G : Nat} {T : List Nat} {A : AS} {x : Nat → Nat} {n : Nat} {S : List FS} {fi : Nat → Nat → Int32} {fl : Nat → Nat → Int64} {fr : Nat → Nat → Option Nat}
theorem cc_text (g : Gd n A T S) (h : CLs L xs F G T A x n S fi fl fr) {w : Int64} : Rn (d + 2) 2 0 [some (.ref 16), some (.long w), none] [] (SH L, fi, fl, fr) (fun v h' => (txtOk w T ∧ cQ L xs (T ++ bys w 8) A x n S fi 1 v h') ∨ (¬ txtOk w T ∧ cQ L xs T A x n S fi 0 v h')) := by
  have h0 := h
  obtain ⟨h1, h2, h3, h4, h5, h6, h7⟩ := h
  refine (ct_text h2 h6 g.2.1.1).mono ?_
  rintro v h' (⟨a1, rfl, fi', rfl, a2, a3⟩ | ⟨a1, rfl, rfl⟩)
  · have hX := h1.xF.out
    refine Or.inl ⟨a1, rfl, F, G, fi', fl, fr, rfl, ⟨h1, h2, h3.keep (fun a q z => a3 _ _ (by omega) (by omega)), fun j => (a3 _ _ (by omega) (by omega)).trans (h4 j), h5.keep g.1 (fun a q z1 z2 => a3 _ _ (by omega) (by omega)) (fun _ _ _ _ => rfl), a2, h7.keep (a3 _ _ (by omega) (by omega)) (fun q => a3 _ _ (by omega) (by omega)) (fun _ _ _ _ => rfl)⟩, fun a k ha => a3 _ _ (by omega) (by omega)⟩
  · exact Or.inr ⟨a1, rfl, F, G, fi, fl, fr, rfl, h0, fun _ _ _ => rfl⟩
theorem cc_script (g : Gd n A T S) (h : CLs L xs F G T A x n S fi fl fr) : Rn (d + 7) 3 0 [some (.ref 16), none] [] (SH L, fi, fl, fr) (cQ L xs [] (scrA (scrW (fun k => T.getD k 0) T.length)) (fun k => T.getD k 0) T.length [] fi (scrI (scrW (fun k => T.getD k 0) T.length))) := by
  obtain ⟨h1, h2, h3, h4, h5, h6, h7⟩ := h
  have hX := h1.xF.out
  refine (ct_script (x := fun k => T.getD k 0) h2 h1 h3 h6.1 g.2.1.1 (fun k hk => ⟨h6.2 k hk, g.2.1.at hk⟩)).mono ?_
  rintro v h' ⟨rfl, fi', fl', rfl, a1, a2, a3, a4, a5⟩
  refine ⟨rfl, F, G, fi', fl', fr, rfl, ⟨h1, h2, h3.keep (fun a q z => a4 _ _ (by omega) (by omega) (by omega)), fun j => (a4 _ _ (by omega) (by omega) (by omega)).trans (h4 j), a1, ⟨a2, fun k hk => absurd hk (Nat.not_lt_zero k)⟩, ⟨a3, fun k hk => absurd hk (Nat.not_lt_zero k)⟩⟩, fun a k ha => a4 _ _ (by omega) (by omega) (by omega)⟩
theorem cc_ret (h : CLs L xs F G T A x n S fi fl fr) {y : Int32} {v : Option Value} {h' : am_H} (hq : Ret (SH L, fi, fl, fr) (some (.int y)) v h') : cQ L xs T A x n S fi y v h' := by
  obtain ⟨rfl, rfl⟩ := hq
  exact ⟨rfl, F, G, fi, fl, fr, rfl, h, fun _ _ _ => rfl⟩
theorem cc_q (g : Gd n A T S) (h : CLs L xs F G T A x n S fi fl fr) {y : Int32} {v : Option Value} {h' : am_H} (hq : qQ L fi fl fr y v h') : cQ L xs T A x n S fi y v h' := by
  have hX := h.1.xF.out
  have hX2 := h.1.xF
  unfold FX at hX2
  obtain ⟨rfl, fi', rfl, a1⟩ := hq
  exact ⟨rfl, F, G, fi', fl, fr, rfl, h.keep g.1 (fun a k z => a1 _ _ ⟨by omega, by omega⟩), fun a k ha => a1 _ _ ⟨by omega, by omega⟩⟩
theorem cc_find (g : Gd n A T S) (h : CLs L xs F G T A x n S fi fl fr) : Rn (d + 3) 8 0 [some (.ref 16), none, none] [] (SH L, fi, fl, fr) (cQ L xs [] A x n S fi (fndW A T (totW A.2.1) 0)) := by
  obtain ⟨h1, h2, h3, h4, h5, h6, h7⟩ := h
  have hX := h1.xF
  unfold FX at hX
  refine (ct_find h2 h5 g.1 h6 g.2.1).mono ?_
  rintro v h' ⟨rfl, fi', rfl, a1, a2⟩
  have e : ∀ a k, a ≠ 597 → a ≠ 598 → (a ≠ 17 ∨ k ≠ 1) → fi' a k = fi a k := fun a k z1 z2 z3 => a2 a k ⟨z1, z2⟩ z3
  exact ⟨rfl, F, G, fi', fl, fr, rfl, ⟨h1, h2, h3.keep (fun a q z => e _ _ (by omega) (by omega) (by omega)), fun j => (e _ _ (by omega) (by omega) (by omega)).trans (h4 j), h5.keep g.1 (fun a q z1 z2 => e _ _ (by omega) (by omega) (by omega)) (fun _ _ _ _ => rfl), ⟨a1, fun k hk => absurd hk (Nat.not_lt_zero k)⟩, h7.keep (e _ _ (by omega) (by omega) (by omega)) (fun q => e _ _ (by omega) (by omega) (by omega)) (fun _ _ _ _ => rfl)⟩, fun a k ha => e _ _ (by omega) (by omega) (by omega)⟩
theorem cc_ho (g : Gd n A T S) (h : CLs L xs F G T A x n S fi fl fr) {y : Int32} {v : Option Value} {fi' : Nat → Nat → Int32} {h' : am_H} (hv : v = some (.int y)) (hh : h' = (SH L, fi', fl, fr)) (a1 : ∀ a k, a ≠ F + 4 → fi' a k = fi a k) : cQ L xs T A x n S fi y v h' := by
  have hX := h.1.xF
  unfold FX at hX
  exact ⟨hv, F, G, fi', fl, fr, hh, h.keep g.1 (fun a k z => a1 _ _ (by omega)), fun a k ha => a1 _ _ (by omega)⟩
theorem cc_filter (g : Gd n A T S) (h : CLs L xs F G T A x n S fi fl fr) : Rn (d + 59) 9 0 [some (.ref 16), none] [] (SH L, fi, fl, fr) (fun v h' => (120 < T.length ∧ cQ L xs [] A x n S fi 120 v h') ∨ (T.length ≤ 120 ∧ ∃ r, (∃ f, mrun (fun k => T.getD k 0) T.length f (1, 0, [], [], 0) = some r) ∧ ((∃ p, r = .inr p ∧ cQ L xs [] A x n S fi (nI p) v h') ∨ ∃ S', r = .inl S' ∧ cQ L xs [] A x n S' fi (-1) v h'))) := by
  obtain ⟨h1, h2, h3, h4, h5, h6, h7⟩ := h
  have hFG := h1
  unfold FG at hFG
  refine (ct_filter (y := fun k => T.getD k 0) h2 h1 h6.1 g.2.1.1 (fun k hk => ⟨h6.2 k hk, g.2.1.at hk⟩)).mono ?_
  rintro v h' ⟨fi', fl', fr', rfl, a1, a2, a3, a4⟩
  have e : ∀ a k, (a ≠ 591) → (a ≠ G) → a ≠ G + 1 → (a ≠ 17 ∨ k ≠ 1) → fi' a k = fi a k := fun a k z1 z2 z3 z4 => a2 a k ⟨Or.inl z1, Or.inl z2, z3⟩ (Or.inl z1) z4
  have e2 : ∀ a k, a ≠ G + 2 → a ≠ G + 3 → fl' a k = fl a k := fun a k z1 z2 => a3 a k ⟨z1, z2⟩
  have st : STs L fi' fr := h3.keep (fun a q z => e _ _ (by omega) (by omega) (by omega) (by omega))
  have x0 : ∀ j, fi' 0 j = xs j := fun j => (e _ _ (by omega) (by omega) (by omega) (by omega)).trans (h4 j)
  have fs : FSr fi' fl' x n A := h5.keep g.1 (fun a q z1 z2 => e _ _ (by omega) (by omega) (by omega) (by omega)) (fun a q z1 z2 => e2 _ _ (by omega) (by omega))
  have tp : TPr fi' [] := ⟨a1, fun k hk => absurd hk (Nat.not_lt_zero k)⟩
  have sp : STp fi' fl' F S := h7.keep (e _ _ (by omega) (by omega) (by omega) (by omega)) (fun q => e _ _ (by omega) (by omega) (by omega) (by omega)) (fun a q z1 z2 => e2 _ _ (by omega) (by omega))
  have hi : ∀ a k, 604 ≤ a → fi' a k = fi a k := fun a k ha => e _ _ (by omega) (by omega) (by omega) (by omega)
  rcases a4 with ⟨b1, rfl, rfl⟩ | ⟨b1, r, b2, rfl, b3, b4⟩
  · exact Or.inl ⟨b1, rfl, F, G, fi', fl', fr', rfl, ⟨h1, h2, st, x0, fs, tp, sp⟩, hi⟩
  · refine Or.inr ⟨b1, r, b2, ?_⟩
    cases r with
    | inr p =>
      obtain ⟨c1, rfl⟩ := b3 p rfl
      exact Or.inl ⟨p, rfl, rfl, F, G, fi', fl', fr', rfl, ⟨h1, h2, st, x0, fs, tp, sp⟩, hi⟩
    | inl S' =>
      obtain ⟨c1, c2, rfl⟩ := b4 S' rfl
      have hGF : FG G F := by unfold FG; omega
      have st2 : STs L fi' (up2 (up2 fr 591 4 (some F)) 16 5 (some G)) := by
        have rr : ∀ k, k < 16 → up2 (up2 fr 591 4 (some F)) 16 5 (some G) k 0 = fr k 0 := fun k hk => by rw [up2_row _ _ (by omega), up2_row _ _ (by omega)]
        obtain ⟨s1, s2, s3, s4, s5, s6, s7⟩ := st
        exact ⟨⟨s1.1, s1.2.1, (rr 1 (by decide)).trans s1.2.2.1, s1.2.2.2⟩, ⟨s2.1, s2.2.1, (rr 2 (by decide)).trans s2.2.2.1, s2.2.2.2⟩, ⟨s3.1, s3.2.1, (rr 3 (by decide)).trans s3.2.2.1, s3.2.2.2⟩, ⟨s4.1, s4.2.1, (rr 4 (by decide)).trans s4.2.2.1, s4.2.2.2⟩, ⟨s5.1, s5.2.1, (rr 5 (by decide)).trans s5.2.2.1, s5.2.2.2⟩, ⟨s6.1, s6.2.1, (rr 6 (by decide)).trans s6.2.2.1, s6.2.2.2⟩, ⟨s7.1, s7.2.1, (rr 7 (by decide)).trans s7.2.2.1, s7.2.2.2⟩⟩
      exact Or.inr ⟨S', rfl, rfl, G, F, fi', fl', _, rfl, ⟨hGF, c2, st2, x0, fs, tp, c1⟩, hi⟩
end CC
