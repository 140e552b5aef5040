/-! THE REFERENCE: how it holds a script; waysOf, testMany -/
/-- place i of the rows cA, cE holds the name nm, as a part of the text -/
def SL (fi : Nat → Nat → Int32) (x : Nat → Nat) (n cA cE i : Nat) (nm : Nm) : Prop := ∃ a e, fi cA i = nI a ∧ fi cE i = nI e ∧ a ≤ e ∧ e ≤ n ∧ sl x a e = nm
theorem SL.keep {fi fi' : Nat → Nat → Int32} {x : Nat → Nat} {n cA cE i : Nat} {nm : Nm} (h : SL fi x n cA cE i nm) (e1 : fi' cA i = fi cA i) (e2 : fi' cE i = fi cE i) : SL fi' x n cA cE i nm := by
  obtain ⟨a, e, h1, h2, h3⟩ := h
  exact ⟨a, e, e1.trans h1, e2.trans h2, h3⟩
def MUr (fi : Nat → Nat → Int32) (x : Nat → Nat) (n s : Nat) (u : Nm × List Nm) : Prop := SL fi x n 609 610 s u.1 ∧ fi 611 s = nI u.2.length ∧ ∀ t, t < u.2.length → SL fi x n 612 613 (8 * s + t) (u.2.getD t [])
def MPr (fi : Nat → Nat → Int32) (x : Nat → Nat) (n q : Nat) (p : Nm × List Nm) : Prop := SL fi x n 626 627 q p.1 ∧ fi 628 q = nI p.2.length ∧ ∀ v, v < p.2.length → SL fi x n 629 630 (6 * q + v) (p.2.getD v [])
def MKr (fi : Nat → Nat → Int32) (x : Nat → Nat) (n c : Nat) (k : KS) : Prop := fi 614 c = nI (k_su k) - 1 ∧ SL fi x n 615 616 c (k_nm k) ∧ fi 617 c = nI (k_ln k) ∧ fi 618 c = nI (k_sz k) ∧ (k_rs k = none → fi 620 c = -1) ∧ (∀ r, k_rs k = some r → fi 619 c = nI r.1 ∧ fi 620 c = nI r.2) ∧ fi 621 c = bI (k_fl k) ∧ fi 622 c = nI (k_tg k).length ∧ (∀ t, t < (k_tg k).length → SL fi x n 623 624 (8 * c + t) ((k_tg k).getD t [])) ∧ fi 625 c = nI (k_ps k).length ∧ ∀ p, p < (k_ps k).length → MPr fi x n (4 * c + p) ((k_ps k).getD p ([], []))
def dU : Nm × List Nm := ([], [])
/-- suites and cases -/
def MSU (fi : Nat → Nat → Int32) (x : Nat → Nat) (n : Nat) (ss : List (Nm × List Nm)) : Prop := fi 604 8 = nI ss.length ∧ ∀ s, s < ss.length → MUr fi x n s (ss.getD s dU)
def MKS (fi : Nat → Nat → Int32) (x : Nat → Nat) (n : Nat) (ks : List KS) : Prop := fi 604 14 = nI ks.length ∧ ∀ c, c < ks.length → MKr fi x n c (ks.getD c dK)
def MSr (fi : Nat → Nat → Int32) (x : Nat → Nat) (n : Nat) (A : AS) : Prop := MTX fi x n ∧ MSU fi x n A.1 ∧ MKS fi x n A.2.1 ∧ fi 604 32 = bI A.2.2
theorem MUr.keep {fi fi' : Nat → Nat → Int32} {x : Nat → Nat} {n s : Nat} {u : Nm × List Nm} (h : MUr fi x n s u) (e : ∀ a k, 609 ≤ a → a ≤ 613 → (a ≤ 611 → k = s) → (612 ≤ a → 8 * s ≤ k ∧ k < 8 * s + u.2.length) → fi' a k = fi a k) : MUr fi' x n s u := by
  obtain ⟨h1, h2, h3⟩ := h
  exact ⟨h1.keep (e _ _ (by decide) (by decide) (fun _ => rfl) (by omega)) (e _ _ (by decide) (by decide) (fun _ => rfl) (by omega)), (e _ _ (by decide) (by decide) (fun _ => rfl) (by omega)).trans h2, fun t ht => (h3 t ht).keep (e _ _ (by decide) (by decide) (by omega) (by omega)) (e _ _ (by decide) (by decide) (by omega) (by omega))⟩
theorem MKr.keep {fi fi' : Nat → Nat → Int32} {x : Nat → Nat} {n c : Nat} {k : KS} (h : MKr fi x n c k) (hps : (k_ps k).length ≤ 4) (hpv : ∀ p, p < (k_ps k).length → ((k_ps k).getD p ([], [])).2.length ≤ 6) (e : ∀ a j, 614 ≤ a → a ≤ 630 → ((a ≤ 622 ∨ a = 625) → j = c) → ((a = 623 ∨ a = 624) → 8 * c ≤ j ∧ j < 8 * c + (k_tg k).length) → ((626 ≤ a ∧ a ≤ 628) → 4 * c ≤ j ∧ j < 4 * c + (k_ps k).length) → (629 ≤ a → 24 * c ≤ j ∧ j < 24 * c + 6 * (k_ps k).length) → fi' a j = fi a j) : MKr fi' x n c k := by
  obtain ⟨a1, a2, a3, a4, a5, a6, a7, a8, a9, a10, a11⟩ := h
  have e0 : ∀ a, 614 ≤ a → (a ≤ 622 ∨ a = 625) → fi' a c = fi a c := fun a h1 h2 => e a c h1 (by omega) (fun _ => rfl) (by omega) (by omega) (by omega)
  refine ⟨(e0 614 (by decide) (by decide)).trans a1, a2.keep (e0 615 (by decide) (by decide)) (e0 616 (by decide) (by decide)), (e0 617 (by decide) (by decide)).trans a3, (e0 618 (by decide) (by decide)).trans a4, fun z => (e0 620 (by decide) (by decide)).trans (a5 z), fun r hr => ⟨(e0 619 (by decide) (by decide)).trans (a6 r hr).1, (e0 620 (by decide) (by decide)).trans (a6 r hr).2⟩, (e0 621 (by decide) (by decide)).trans a7, (e0 622 (by decide) (by decide)).trans a8, fun t ht => (a9 t ht).keep (e _ _ (by decide) (by decide) (by omega) (by omega) (by omega) (by omega)) (e _ _ (by decide) (by decide) (by omega) (by omega) (by omega) (by omega)), (e0 625 (by decide) (by decide)).trans a10, fun p hp => ?_⟩
  obtain ⟨b1, b2, b3⟩ := a11 p hp
  refine ⟨b1.keep (e _ _ (by decide) (by decide) (by omega) (by omega) (by omega) (by omega)) (e _ _ (by decide) (by decide) (by omega) (by omega) (by omega) (by omega)), (e _ _ (by decide) (by decide) (by omega) (by omega) (by omega) (by omega)).trans b2, fun v hv => ?_⟩
  have := hpv p hp
  exact (b3 v hv).keep (e _ _ (by decide) (by decide) (by omega) (by omega) (by omega) (by omega)) (e _ _ (by decide) (by decide) (by omega) (by omega) (by omega) (by omega))
theorem KOk.pv {ss : List (Nm × List Nm)} {n : Nat} {k : KS} (h : KOk ss n k) {p : Nat} (hp : p < (k_ps k).length) : 1 ≤ ((k_ps k).getD p ([], [])).2.length ∧ ((k_ps k).getD p ([], [])).2.length ≤ 6 := by
  have hm : (k_ps k).getD p ([], []) ∈ k_ps k := by
    rw [List.getD_eq_getElem?_getD, List.getElem?_eq_getElem hp]
    exact List.getElem_mem _
  have := h.2.2.2.2.2.2.2.2.2.1 _ hm
  exact ⟨this.2.2.1, this.2.2.2.1⟩
/-- what a line leaves as it was -/
def mF (a k : Nat) : Prop := (a ≤ 603 ∨ (605 ≤ a ∧ a ≤ 608) ∨ 631 ≤ a) ∨ (a = 604 ∧ k ≠ 8 ∧ k ≠ 14 ∧ k ≠ 32)
def MacQ (L : Nat) (fi : Nat → Nat → Int32) (fl : Nat → Nat → Int64) (fr : Nat → Nat → Option Nat) (x : Nat → Nat) (n : Nat) (o : Option AS) : Option Value → am_H → Prop := fun v h' => ∃ fi', h' = (SH L, fi', fl, fr) ∧ (∀ a k, mF a k → fi' a k = fi a k) ∧ v = some (.int (bI o.isSome)) ∧ ∀ B, o = some B → MSr fi' x n B
def wysT (ps : List (Nm × List Nm)) (j : Nat) : Nat := ways (ps.take j)
theorem wysT_succ {ps : List (Nm × List Nm)} {j : Nat} (h : j < ps.length) : wysT ps (j + 1) = wysT ps j * (ps.getD j ([], [])).2.length := by
  unfold wysT
  rw [List.take_succ_eq_append_getElem h, ways_app, List.getD_eq_getElem?_getD, List.getElem?_eq_getElem h]
  rfl
section MW
variable {d L : Nat} {fi : Nat → Nat → Int32} {fl : Nat → Nat → Int64} {fr : Nat → Nat → Option Nat} {F G : Nat} {x : Nat → Nat} {n : Nat}
theorem wysT_le (ps : List (Nm × List Nm)) (h : ∀ p, p < ps.length → (ps.getD p ([], [])).2.length ≤ 6) : ∀ j, j ≤ ps.length → wysT ps j ≤ 6 ^ j
  | 0, _ => Nat.le_refl _
  | j + 1, hj => by
    rw [wysT_succ (by omega), Nat.pow_succ]
    exact Nat.mul_le_mul (wysT_le ps h j (by omega)) (h j (by omega))
/-- how many ways a case has, of whose parameters and values so much is known -/
theorem cm_waysOf (hF : FRok F G fr) {c : Nat} (hc : c < 40) {ps : List (Nm × List Nm)} (hps : ps.length ≤ 4) (hpv : ∀ p, p < ps.length → (ps.getD p ([], [])).2.length ≤ 6) (h25 : fi 625 c = nI ps.length) (h28 : ∀ p, p < ps.length → fi 628 (4 * c + p) = nI (ps.getD p ([], [])).2.length) : Rn d 33 0 [some (.ref 604), some (.int (nI c)), none, none] [] (SH L, fi, fl, fr) (Ret (SH L, fi, fl, fr) (some (.int (nI (ways ps))))) := by
  have loop : ∀ (m j : Nat), j + m = ps.length → Rn d 33 6 [some (.ref 604), some (.int (nI c)), some (.int (nI (wysT ps j))), some (.int (nI (4 * c + j)))] [] (SH L, fi, fl, fr) (Ret (SH L, fi, fl, fr) (some (.int (nI (ways ps))))) := by
    intro m
    induction m with
    | zero =>
      intro j hj
      refine Rn.iload_n k_33 rfl rfl ?_
      refine Rn.iconst (4) k_33 rfl rfl ?_
      refine Rn.iload_n k_33 rfl rfl ?_
      refine Rn.imul k_33 rfl ?_
      refine Rn.aload_n k_33 rfl rfl ?_
      refine Rn.getA k_33 rfl rfl (s604 L) (hF.l 49 rfl) ?_
      refine Rn.iload_n k_33 rfl rfl ?_
      refine Rn.iaload (c) k_33 rfl (s625 L) (rfl) (hc) (by decide) ?_
      rw [h25, show (4 : Int32) = nI 4 from rfl, pk_mul]
      refine Rn.iadd k_33 rfl ?_
      rw [nI_add]
      refine Rn.icmp_ge 35 k_33 rfl rfl (fun h1 => ?_) (fun h1 => ?_)
      · refine Rn.iload_n k_33 rfl rfl ?_
        refine Rn.reti k_33 rfl q_33 rfl (rfl) ?_
        have : wysT ps j = ways ps := by unfold wysT; rw [List.take_of_length_le (by omega)]
        rw [this]
        exact ⟨rfl, rfl⟩
      · rw [nI_leI (by omega) (by omega)] at h1
        omega
    | succ m ih =>
      intro j hj
      have hjl : j < ps.length := by omega
      refine Rn.iload_n k_33 rfl rfl ?_
      refine Rn.iconst (4) k_33 rfl rfl ?_
      refine Rn.iload_n k_33 rfl rfl ?_
      refine Rn.imul k_33 rfl ?_
      refine Rn.aload_n k_33 rfl rfl ?_
      refine Rn.getA k_33 rfl rfl (s604 L) (hF.l 49 rfl) ?_
      refine Rn.iload_n k_33 rfl rfl ?_
      refine Rn.iaload (c) k_33 rfl (s625 L) (rfl) (hc) (by decide) ?_
      rw [h25, show (4 : Int32) = nI 4 from rfl, pk_mul]
      refine Rn.iadd k_33 rfl ?_
      rw [nI_add]
      refine Rn.icmp_ge 35 k_33 rfl rfl (fun h1 => ?_) (fun h1 => ?_)
      · rw [nI_leI (by omega) (by omega)] at h1
        omega
      · refine Rn.iload_n k_33 rfl rfl ?_
        refine Rn.aload_n k_33 rfl rfl ?_
        refine Rn.getA k_33 rfl rfl (s604 L) (hF.l 52 rfl) ?_
        refine Rn.iload_n k_33 rfl rfl ?_
        refine Rn.iaload (4 * c + j) k_33 rfl (s628 L) (rfl) (by omega) (by decide) ?_
        rw [h28 j hjl]
        refine Rn.imul k_33 rfl ?_
        rw [pk_mul, ← wysT_succ hjl]
        refine Rn.istore_n2 k_33 rfl rfl ?_
        refine Rn.iinc3 (1) k_33 rfl rfl rfl ?_
        rw [c_add 1 1 rfl]
        refine Rn.goto 6 k_33 rfl rfl ?_
        exact ih (j + 1) (by omega)
  refine Rn.iconst (1) k_33 rfl rfl ?_
  refine Rn.istore_n2 k_33 rfl rfl ?_
  refine Rn.iconst (4) k_33 rfl rfl ?_
  refine Rn.iload_n k_33 rfl rfl ?_
  refine Rn.imul k_33 rfl ?_
  rw [show (4 : Int32) = nI 4 from rfl, pk_mul]
  refine Rn.istore_n3 k_33 rfl rfl ?_
  exact loop ps.length 0 (Nat.zero_add _)
end MW
