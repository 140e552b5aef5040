/-! THE CALLS of the reference -/
section MM
variable {d L : Nat} {F G : Nat} {T : List Nat} {A : AS} {x : Nat → Nat} {n : Nat} {S : List FS} {fi : Nat → Nat → Int32} {fl : Nat → Nat → Int64} {fr : Nat → Nat → Option Nat}
theorem mm_text (hF : FRok F G fr) (g : Gd n A T S) (h : MLs T A x n S fi) {w : Int64} : Rn d 14 0 [some (.ref 604), some (.long w), none, none, none, none, none] [] (SH L, fi, fl, fr) (fun v h' => (txtOk w T ∧ mQ L fl fr (T ++ bys w 8) A x n S fi 1 v h') ∨ (¬ txtOk w T ∧ mQ L fl fr T A x n S fi 0 v h')) := by
  refine (cm_text hF h.2.1 g.2.1.1).mono ?_
  rintro v h' ⟨fi', rfl, a1, a2, a3⟩
  have k1 : MFr fi' x n A := h.1.keep g.1 (fun a k z => a2 _ _ (by omega) (Or.inl (by omega))) (fun k z => a2 _ _ (by omega) (Or.inr (by omega)))
  have k2 : MFl fi' S := h.2.2.keep (a2 _ _ (by omega) (Or.inr (by omega))) (a2 _ _ (by omega) (Or.inr (by omega))) (fun a k z1 z2 => a2 _ _ (by omega) (Or.inl (by omega)))
  have k3 : ∀ a k, a < 604 → fi' a k = fi a k := fun a k ha => a2 _ _ (by omega) (Or.inl (by omega))
  rcases a3 with ⟨b1, rfl, b2⟩ | ⟨b1, rfl, b2⟩
  · exact Or.inl ⟨b1, rfl, fi', rfl, ⟨k1, b2, k2⟩, k3⟩
  · exact Or.inr ⟨b1, rfl, fi', rfl, ⟨k1, b2, k2⟩, k3⟩
theorem mm_script (hF : FRok F G fr) (g : Gd n A T S) (h : MLs T A x n S fi) : Rn (d + 6) 36 0 [some (.ref 604), none, none, none, none] [] (SH L, fi, fl, fr) (mQ L fl fr [] (scrA (scrW (fun k => T.getD k 0) T.length)) (fun k => T.getD k 0) T.length [] fi (scrI (scrW (fun k => T.getD k 0) T.length))) := by
  refine (cm_script (x := fun k => T.getD k 0) hF h.2.1.1 g.2.1.1 (fun k hk => ⟨h.2.1.2 k hk, g.2.1.at hk⟩)).mono ?_
  rintro v h' ⟨rfl, fi', rfl, a1, a2, a3, a4, a5⟩
  exact ⟨rfl, fi', rfl, ⟨a1, ⟨a3, fun k hk => absurd hk (Nat.not_lt_zero k)⟩, Or.inl ⟨rfl, a4⟩⟩, a5⟩
theorem mm_q (g : Gd n A T S) (h : MLs T A x n S fi) {y : Int32} {v : Option Value} {h' : am_H} (hq : mqQ L fi fl fr y v h') : mQ L fl fr T A x n S fi y v h' := by
  obtain ⟨rfl, fi', rfl, a1, a2⟩ := hq
  have e : ∀ a k, a ≠ 633 → (a ≠ 604 ∨ (k ≠ 36 ∧ k ≠ 0)) → fi' a k = fi a k := fun a k z1 z2 => a2 a k ⟨by omega, z1⟩ (by omega)
  exact ⟨rfl, fi', rfl, ⟨h.1.keep g.1 (fun a k z => e _ _ (by omega) (Or.inl (by omega))) (fun k z => e _ _ (by omega) (Or.inr (by omega))), h.2.1.keep (e _ _ (by omega) (Or.inr (by omega))) (fun k => e _ _ (by omega) (Or.inl (by omega))), h.2.2.keep (e _ _ (by omega) (Or.inr (by omega))) (e _ _ (by omega) (Or.inr (by omega))) (fun a k z1 z2 => e _ _ (by omega) (Or.inl (by omega)))⟩, fun a k ha => e _ _ (by omega) (Or.inl (by omega))⟩
theorem mm_p (g : Gd n A T S) (h : MLs T A x n S fi) {y : Int32} {v : Option Value} {h' : am_H} (hq : mpQ L fi fl fr y v h') : mQ L fl fr T A x n S fi y v h' := by
  obtain ⟨rfl, fi', rfl, a1, a2⟩ := hq
  exact ⟨rfl, fi', rfl, ⟨h.1.keep g.1 (fun a k z => a2 _ _ (by omega) (Or.inl (by omega))) (fun k z => a2 _ _ (by omega) (Or.inr (by omega))), h.2.1.keep (a2 _ _ (by omega) (Or.inr (by omega))) (fun k => a2 _ _ (by omega) (Or.inl (by omega))), h.2.2.keep (a2 _ _ (by omega) (Or.inr (by omega))) (a2 _ _ (by omega) (Or.inr (by omega))) (fun a k z1 z2 => a2 _ _ (by omega) (Or.inl (by omega)))⟩, fun a k ha => a2 _ _ (by omega) (Or.inl (by omega))⟩
theorem mm_find (hF : FRok F G fr) (g : Gd n A T S) (h : MLs T A x n S fi) : Rn (d + 3) 48 0 [some (.ref 604), none, none, none, none] [] (SH L, fi, fl, fr) (mQ L fl fr [] A x n S fi (fndW A T (totW A.2.1) 0)) := by
  refine (cm_find hF h.1 g.1 h.2.1 g.2.1).mono ?_
  rintro v h' ⟨rfl, fi', rfl, a0, a1, a2⟩
  have e : ∀ a k, a ≠ 633 → (a ≠ 604 ∨ (k ≠ 36 ∧ k ≠ 0 ∧ k ≠ 1)) → fi' a k = fi a k := fun a k z1 z2 => a2 a k ⟨by omega, z1⟩ (by omega)
  exact ⟨rfl, fi', rfl, ⟨h.1.keep g.1 (fun a k z => e _ _ (by omega) (Or.inl (by omega))) (fun k z => e _ _ (by omega) (Or.inr (by omega))), ⟨a1, fun k hk => absurd hk (Nat.not_lt_zero k)⟩, h.2.2.keep (e _ _ (by omega) (Or.inr (by omega))) (e _ _ (by omega) (Or.inr (by omega))) (fun a k z1 z2 => e _ _ (by omega) (Or.inl (by omega)))⟩, fun a k ha => e _ _ (by omega) (Or.inl (by omega))⟩
theorem mm_filter (hF : FRok F G fr) (g : Gd n A T S) (h : MLs T A x n S fi) {r : List FS ⊕ Nat} (hr : T.length ≤ 120 → ∃ f, mrun (fun k => T.getD k 0) T.length f (1, 0, [], [], 0) = some r) : Rn (d + 6) 64 0 [some (.ref 604), none, none] [] (SH L, fi, fl, fr) (fun v h' => (120 < T.length ∧ mQ L fl fr [] A x n S fi 120 v h') ∨ (T.length ≤ 120 ∧ ((∃ p, r = .inr p ∧ mQ L fl fr [] A x n S fi (nI p) v h') ∨ ∃ S', r = .inl S' ∧ mQ L fl fr [] A x n S' fi (-1) v h'))) := by
  refine (cm_filter (y := fun k => T.getD k 0) hF h.2.1.1 g.2.1.1 (fun k hk => ⟨h.2.1.2 k hk, g.2.1.at hk⟩) hr).mono ?_
  rintro v h' ⟨fi', rfl, a0, a1, a2, a3⟩
  have tp : MTP fi' [] := ⟨a1, fun k hk => absurd hk (Nat.not_lt_zero k)⟩
  have e : ∀ a k, (a < 634 ∨ 646 < a) → (a ≠ 604 ∨ (k = 8 ∨ k = 14 ∨ k = 33)) → fi' a k = fi a k := fun a k z1 z2 => a2 a k ⟨by omega, by omega⟩ ⟨by omega, by omega⟩
  have k1 : MFr fi' x n A := h.1.keep g.1 (fun a k z => e _ _ (by omega) (Or.inl (by omega))) (fun k z => e _ _ (by omega) (Or.inr z))
  have k3 : ∀ a k, a < 604 → fi' a k = fi a k := fun a k ha => e _ _ (by omega) (Or.inl (by omega))
  have k2 : (∀ a k, gF a k → fi' a k = fi a k) → MFl fi' S := fun z => h.2.2.keep (z _ _ ⟨Or.inr (by decide), by decide⟩) (z _ _ ⟨Or.inr (by decide), by decide⟩) (fun a k z1 z2 => z _ _ ⟨Or.inl (by omega), by omega⟩)
  rcases a3 with ⟨b1, rfl, b2⟩ | ⟨b1, rfl, b2, b3⟩
  · exact Or.inl ⟨b1, rfl, fi', rfl, ⟨k1, tp, k2 b2⟩, k3⟩
  · refine Or.inr ⟨b1, ?_⟩
    cases r with
    | inr p => exact Or.inl ⟨p, rfl, rfl, fi', rfl, ⟨k1, tp, k2 (b2 p rfl)⟩, k3⟩
    | inl S' => exact Or.inr ⟨S', rfl, rfl, fi', rfl, ⟨k1, tp, b3 S' rfl⟩, k3⟩
end MM
