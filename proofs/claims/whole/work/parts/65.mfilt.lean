/-! THE REFERENCE: reading a filter: look, blanks, fail, emit, word -/
section CM
variable {d mid pc : Nat} {l : am_L} {h : am_H} {Q : Option Value → am_H → Prop} {c : am_C} {r1 r2 : Nat}
theorem Rn.cV1M {ix : Nat} {a nn : Nat} {rest : List Value} {q : am_M} {h2 : am_H} (hc : am_code mid = c) (hf : am_find c pc = some (.invokevirtual ix, r1, r2)) (hk : am_kind (.invokevirtual ix) r1 = 2) (hq : at_tab[r1]? = some q) (hn : q.2.2.2.2.1 = 1) (hcat : am_cat rest ≤ 8) (hml : (am_args [.ref a]).length ≤ q.2.2.1) (ha : h.1[a]? = some (q.2.2.2.2.2.1, nn)) (ct : Rn d r1 0 (am_ent q.2.2.1 [.ref a]) [] h (Ret h2 (none))) (k : Rn (d + 1) mid (pc + 3) l (rest) h2 Q) : Rn (d + 1) mid pc l (.ref a :: rest) h Q := Rn.cV1 hc hf hk hq hn hcat hml ha ct (fun v h' z => by obtain ⟨rfl, rfl⟩ := z; exact k)
theorem Rn.cV2M {ix : Nat} {a nn : Nat} {x1 : Value} {rest : List Value} {q : am_M} {h2 : am_H} (hc : am_code mid = c) (hf : am_find c pc = some (.invokevirtual ix, r1, r2)) (hk : am_kind (.invokevirtual ix) r1 = 2) (hq : at_tab[r1]? = some q) (hn : q.2.2.2.2.1 = 2) (hcat : am_cat rest ≤ 8) (hml : (am_args [.ref a, x1]).length ≤ q.2.2.1) (ha : h.1[a]? = some (q.2.2.2.2.2.1, nn)) (ct : Rn d r1 0 (am_ent q.2.2.1 [.ref a, x1]) [] h (Ret h2 (none))) (k : Rn (d + 1) mid (pc + 3) l (rest) h2 Q) : Rn (d + 1) mid pc l (x1 :: .ref a :: rest) h Q := Rn.cV2 hc hf hk hq hn hcat hml ha ct (fun v h' z => by obtain ⟨rfl, rfl⟩ := z; exact k)
end CM
/-- the text that is read, and the place -/
def MRd (fi : Nat → Nat → Int32) (y : Nat → Nat) (n p : Nat) : Prop := (∀ k, k < n → fi 640 k = nI (y k) ∧ y k < 128) ∧ fi 604 46 = nI n ∧ fi 604 54 = nI p ∧ n ≤ 120 ∧ p ≤ n
def fcd (c : Nat) : Nat := if c = 35 then 1 else if c = 64 then 2 else if c = 61 then 3 else if c = 58 then 4 else if c = 60 then 5 else if c = 63 then 6 else if c = 126 then 7 else c
/-- the steps in the rows from b on; y, n: the text of which names are parts -/
def MSt (fi : Nat → Nat → Int32) (y : Nat → Nat) (n b : Nat) (S : List FS) : Prop := ∀ i, i < S.length → fi b i = nI (fcd (S.getD i dF).1) ∧ SL fi y n (b + 1) (b + 2) i (S.getD i dF).2.1 ∧ ((S.getD i dF).1 ≠ 60 → SL fi y n (b + 3) (b + 4) i (S.getD i dF).2.2) ∧ ((S.getD i dF).1 = 60 → fi (b + 3) i = nI ((S.getD i dF).2.2.getD 0 0 - 48))
def MMd (fi : Nat → Nat → Int32) (y : Nat → Nat) (n : Nat) (S : List FS) : Prop := fi 604 47 = nI S.length ∧ MSt fi y n 641 S
theorem MRd.keep {fi fi' : Nat → Nat → Int32} {y : Nat → Nat} {n p q : Nat} (h : MRd fi y n p) (e1 : ∀ k, fi' 640 k = fi 640 k) (e2 : fi' 604 46 = fi 604 46) (e3 : fi' 604 54 = nI q) (hq : q ≤ n) : MRd fi' y n q := ⟨fun k hk => by rw [e1]; exact h.1 k hk, e2.trans h.2.1, e3, h.2.2.2.1, hq⟩
theorem MSt.keep {fi fi' : Nat → Nat → Int32} {y : Nat → Nat} {n b : Nat} {S : List FS} (h : MSt fi y n b S) (e : ∀ a j, b ≤ a → a ≤ b + 4 → j < S.length → fi' a j = fi a j) : MSt fi' y n b S := by
  intro i hi
  obtain ⟨h1, h2, h3, h4⟩ := h i hi
  exact ⟨(e _ _ (by omega) (by omega) hi).trans h1, h2.keep (e _ _ (by omega) (by omega) hi) (e _ _ (by omega) (by omega) hi), fun z => (h3 z).keep (e _ _ (by omega) (by omega) hi) (e _ _ (by omega) (by omega) hi), fun z => (e _ _ (by omega) (by omega) hi).trans (h4 z)⟩
theorem MMd.snoc {fi fi' : Nat → Nat → Int32} {y : Nat → Nat} {n : Nat} {S : List FS} {s : FS} (h : MMd fi y n S) (e : ∀ a j, 641 ≤ a → a ≤ 645 → j < S.length → fi' a j = fi a j) (h47 : fi' 604 47 = nI (S.length + 1)) (c1 : fi' 641 S.length = nI (fcd s.1)) (c2 : SL fi' y n 642 643 S.length s.2.1) (c3 : s.1 ≠ 60 → SL fi' y n 644 645 S.length s.2.2) (c4 : s.1 = 60 → fi' 644 S.length = nI (s.2.2.getD 0 0 - 48)) : MMd fi' y n (S ++ [s]) := by
  refine ⟨by rw [h47, List.length_append]; rfl, fun i hi => ?_⟩
  rw [List.length_append] at hi
  have hi : i < S.length + 1 := hi
  by_cases ei : i = S.length
  · subst ei
    rw [gD_last]
    exact ⟨c1, c2, c3, c4⟩
  · rw [gD_lt (by omega)]
    exact (h.2.keep e) i (by omega)
/-- a step is made -/
def emt (fi : Nat → Nat → Int32) (k c : Nat) : Nat → Nat → Int32 := up2 (up2 (up2 (up2 (up2 (up2 fi 641 k (nI c)) 642 k 0) 643 k 0) 644 k 0) 645 k 0) 604 47 (nI (k + 1))
theorem emt_row {fi : Nat → Nat → Int32} {k c a j : Nat} (h : a ≠ 604) (h2 : a < 641 ∨ 645 < a ∨ j ≠ k) : emt fi k c a j = fi a j := by
  unfold emt up2
  rw [if_neg h]
  by_cases hj : j = k
  · rw [if_neg (by omega), if_neg (by omega), if_neg (by omega), if_neg (by omega), if_neg (by omega)]
  · rw [if_neg hj, if_neg hj, if_neg hj, if_neg hj, if_neg hj]
    simp
theorem emt_col {fi : Nat → Nat → Int32} {k c j : Nat} (h : j ≠ 47) : emt fi k c 604 j = fi 604 j := by
  unfold emt
  rw [up2_col _ _ h, up2_row _ _ (by decide), up2_row _ _ (by decide), up2_row _ _ (by decide), up2_row _ _ (by decide), up2_row _ _ (by decide)]
theorem emt_47 (fi : Nat → Nat → Int32) (k c : Nat) : emt fi k c 604 47 = nI (k + 1) := up2_same _ _ _ _
theorem emt_c (fi : Nat → Nat → Int32) (k c : Nat) : emt fi k c 641 k = nI c := by
  unfold emt
  rw [up2_row _ _ (by decide), up2_row _ _ (by decide), up2_row _ _ (by decide), up2_row _ _ (by decide), up2_row _ _ (by decide), up2_same]
theorem emt_0 (fi : Nat → Nat → Int32) (k c : Nat) {a : Nat} (h : 642 ≤ a ∧ a ≤ 645) : emt fi k c a k = nI 0 := by
  unfold emt up2
  rw [if_neg (by omega), if_pos rfl, if_pos rfl, if_pos rfl, if_pos rfl, if_pos rfl]
  split
  · rfl
  · split
    · rfl
    · split
      · rfl
      · split
        · rfl
        · omega
theorem sl_00 (y : Nat → Nat) : sl y 0 0 = [] := rfl
theorem SL.zero {fi : Nat → Nat → Int32} {y : Nat → Nat} {n a b i : Nat} (h1 : fi a i = nI 0) (h2 : fi b i = nI 0) : SL fi y n a b i [] := ⟨0, 0, h1, h2, Nat.le_refl _, Nat.zero_le _, rfl⟩
theorem MMd.emit {fi : Nat → Nat → Int32} {y : Nat → Nat} {n : Nat} {S : List FS} (h : MMd fi y n S) {c : Nat} (hc : c ≠ 60) : MMd (emt fi S.length (fcd c)) y n (S ++ [(c, [], [])]) := h.snoc (fun a j z1 z2 z3 => emt_row (by omega) (by omega)) (emt_47 _ _ _) (emt_c _ _ _) (SL.zero (emt_0 _ _ _ (by omega)) (emt_0 _ _ _ (by omega))) (fun _ => SL.zero (emt_0 _ _ _ (by omega)) (emt_0 _ _ _ (by omega))) (fun z => absurd z hc)
section MF
variable {d L : Nat} {fi : Nat → Nat → Int32} {fl : Nat → Nat → Int64} {fr : Nat → Nat → Option Nat} {F G : Nat} {y : Nat → Nat} {n p : Nat} {S : List FS}
theorem lok_128 (h : MRd fi y n p) (q : Nat) : lok y n q < 128 := by
  unfold lok
  split
  · exact (h.1 q (by assumption)).2
  · decide
theorem cm_look (hF : FRok F G fr) (h : MRd fi y n p) : Rn d 49 0 [some (.ref 604)] [] (SH L, fi, fl, fr) (Ret (SH L, fi, fl, fr) (some (.int (nI (lok y n p))))) := by
  obtain ⟨t1, t2, t3, t4, t5⟩ := h
  refine Rn.aload_n k_49 rfl rfl ?_
  refine Rn.getI k_49 rfl rfl (s604 L) ?_
  refine Rn.aload_n k_49 rfl rfl ?_
  refine Rn.getI k_49 rfl rfl (s604 L) ?_
  rw [t2, t3]
  unfold lok
  refine Rn.icmp_ge 23 k_49 rfl rfl (fun h1 => ?_) (fun h1 => ?_)
  · rw [nI_leI (by omega) (by omega)] at h1
    refine Rn.iconst (0) k_49 rfl rfl ?_
    refine Rn.reti k_49 rfl q_49 rfl (rfl) ?_
    rw [if_neg (by omega)]
    exact ⟨rfl, rfl⟩
  · rw [nI_leI (by omega) (by omega)] at h1
    refine Rn.aload_n k_49 rfl rfl ?_
    refine Rn.getA k_49 rfl rfl (s604 L) (hF.l 64 rfl) ?_
    refine Rn.aload_n k_49 rfl rfl ?_
    refine Rn.getI k_49 rfl rfl (s604 L) ?_
    rw [t3]
    refine Rn.iaload (p) k_49 rfl (s640 L) (rfl) (by omega) (by decide) ?_
    refine Rn.goto 24 k_49 rfl rfl ?_
    rw [(t1 p (by omega)).1]
    refine Rn.reti k_49 rfl q_49 rfl (rfl) ?_
    rw [if_pos (by omega)]
    exact ⟨rfl, rfl⟩
theorem MRd.at (h : MRd fi y n p) {q : Nat} (hq : q ≤ n) : MRd (up2 fi 604 54 (nI q)) y n q := h.keep (fun k => up2_row _ _ (by decide)) (up2_col _ _ (by decide)) (up2_same _ _ _ _) hq
theorem cm_blanks (hF : FRok F G fr) (h : MRd fi y n p) : Rn (d + 1) 50 0 [some (.ref 604)] [] (SH L, fi, fl, fr) (Ret (SH L, up2 fi 604 54 (nI (skip y n p)), fl, fr) none) := by
  have hn := h.2.2.2.1
  have loop : ∀ (k q : Nat), q + k = n → skp y k q = skip y n p → Rn (d + 1) 50 0 [some (.ref 604)] [] (SH L, up2 fi 604 54 (nI q), fl, fr) (Ret (SH L, up2 fi 604 54 (nI (skip y n p)), fl, fr) none) := by
    intro k
    induction k with
    | zero =>
      intro q hq e
      have hR := h.at (q := q) (by omega)
      refine Rn.aload_n k_50 rfl rfl ?_
      refine Rn.cV1I k_50 rfl rfl q_49 rfl (Nat.le_of_ble_eq_true rfl) (Nat.le_of_ble_eq_true rfl) (s604 L) (cm_look hF hR) ?_
      refine Rn.bipush (32) k_50 rfl rfl ?_
      rw [show lok y n q = 0 by unfold lok; rw [if_neg (by omega)]]
      refine Rn.icmp_ne 22 k_50 rfl rfl (fun h1 => ?_) (fun h1 => ?_)
      · refine Rn.retv k_50 rfl q_50 rfl ?_
        rw [← e]
        exact ⟨rfl, rfl⟩
      · exact absurd h1 (by decide)
    | succ k ih =>
      intro q hq e
      have hR := h.at (q := q) (by omega)
      have hlk : lok y n q = y q := by unfold lok; rw [if_pos (by omega)]
      have h128 := (h.1 q (by omega)).2
      refine Rn.aload_n k_50 rfl rfl ?_
      refine Rn.cV1I k_50 rfl rfl q_49 rfl (Nat.le_of_ble_eq_true rfl) (Nat.le_of_ble_eq_true rfl) (s604 L) (cm_look hF hR) ?_
      refine Rn.bipush (32) k_50 rfl rfl ?_
      rw [hlk]
      rw [skp] at e
      refine Rn.icmp_ne 22 k_50 rfl rfl (fun h1 => ?_) (fun h1 => ?_)
      · rw [c_eq 32 32 rfl (by omega) (by decide)] at h1
        rw [if_neg h1] at e
        refine Rn.retv k_50 rfl q_50 rfl ?_
        rw [← e]
        exact ⟨rfl, rfl⟩
      · rw [c_eq 32 32 rfl (by omega) (by decide)] at h1
        rw [if_pos h1] at e
        refine Rn.aload_n k_50 rfl rfl ?_
        refine Rn.dupa k_50 rfl ?_
        refine Rn.getI k_50 rfl rfl (s604 L) ?_
        rw [hR.2.2.1]
        refine Rn.iconst (1) k_50 rfl rfl ?_
        refine Rn.iadd k_50 rfl ?_
        rw [c_add 1 1 rfl]
        refine Rn.putI k_50 rfl (rfl) (s604 L) ?_
        refine Rn.goto 0 k_50 rfl rfl ?_
        rw [up2_up2]
        exact ih (q + 1) (by omega) e
  have := loop (n - p) p (by have := h.2.2.2.2; omega) rfl
  rw [up2_self _ _ _ _ h.2.2.1] at this
  exact this
theorem cm_fail (hF : FRok F G fr) (h : fi 604 55 = -1) (hp : fi 604 54 = nI p) : Rn d 51 0 [some (.ref 604)] [] (SH L, fi, fl, fr) (Ret (SH L, up2 fi 604 55 (nI p), fl, fr) none) := by
  refine Rn.aload_n k_51 rfl rfl ?_
  refine Rn.getI k_51 rfl rfl (s604 L) ?_
  rw [h]
  refine Rn.iconst (-1) k_51 rfl rfl ?_
  refine Rn.icmp_ne 16 k_51 rfl rfl (fun h1 => ?_) (fun h1 => ?_)
  · exact absurd rfl h1
  · refine Rn.aload_n k_51 rfl rfl ?_
    refine Rn.aload_n k_51 rfl rfl ?_
    refine Rn.getI k_51 rfl rfl (s604 L) ?_
    rw [hp]
    refine Rn.putI k_51 rfl (rfl) (s604 L) ?_
    refine Rn.retv k_51 rfl q_51 rfl ?_
    exact ⟨rfl, rfl⟩
theorem cm_emit (hF : FRok F G fr) {k : Nat} (h : fi 604 47 = nI k) (hk : k < 121) {c : Nat} : Rn d 52 0 [some (.ref 604), some (.int (nI c))] [] (SH L, fi, fl, fr) (Ret (SH L, emt fi k c, fl, fr) none) := by
  refine Rn.aload_n k_52 rfl rfl ?_
  refine Rn.getA k_52 rfl rfl (s604 L) (hF.l 65 rfl) ?_
  refine Rn.aload_n k_52 rfl rfl ?_
  refine Rn.getI k_52 rfl rfl (s604 L) ?_
  refine Rn.iload_n k_52 rfl rfl ?_
  refine Rn.iastore (k) k_52 rfl (s641 L) (h) (hk) (by decide) (rfl) ?_
  refine Rn.aload_n k_52 rfl rfl ?_
  refine Rn.getA k_52 rfl rfl (s604 L) (hF.l 66 rfl) ?_
  refine Rn.aload_n k_52 rfl rfl ?_
  refine Rn.getI k_52 rfl rfl (s604 L) ?_
  refine Rn.iconst (0) k_52 rfl rfl ?_
  refine Rn.iastore (k) k_52 rfl (s642 L) (h) (hk) (by decide) (rfl) ?_
  refine Rn.aload_n k_52 rfl rfl ?_
  refine Rn.getA k_52 rfl rfl (s604 L) (hF.l 67 rfl) ?_
  refine Rn.aload_n k_52 rfl rfl ?_
  refine Rn.getI k_52 rfl rfl (s604 L) ?_
  refine Rn.iconst (0) k_52 rfl rfl ?_
  refine Rn.iastore (k) k_52 rfl (s643 L) (h) (hk) (by decide) (rfl) ?_
  refine Rn.aload_n k_52 rfl rfl ?_
  refine Rn.getA k_52 rfl rfl (s604 L) (hF.l 68 rfl) ?_
  refine Rn.aload_n k_52 rfl rfl ?_
  refine Rn.getI k_52 rfl rfl (s604 L) ?_
  refine Rn.iconst (0) k_52 rfl rfl ?_
  refine Rn.iastore (k) k_52 rfl (s644 L) (h) (hk) (by decide) (rfl) ?_
  refine Rn.aload_n k_52 rfl rfl ?_
  refine Rn.getA k_52 rfl rfl (s604 L) (hF.l 69 rfl) ?_
  refine Rn.aload_n k_52 rfl rfl ?_
  refine Rn.getI k_52 rfl rfl (s604 L) ?_
  refine Rn.iconst (0) k_52 rfl rfl ?_
  refine Rn.iastore (k) k_52 rfl (s645 L) (h) (hk) (by decide) (rfl) ?_
  refine Rn.aload_n k_52 rfl rfl ?_
  refine Rn.dupa k_52 rfl ?_
  refine Rn.getI k_52 rfl rfl (s604 L) ?_
  rw [show up2 (up2 (up2 (up2 (up2 fi 641 k (nI c)) 642 k 0) 643 k 0) 644 k 0) 645 k 0 604 47 = nI k from h]
  refine Rn.iconst (1) k_52 rfl rfl ?_
  refine Rn.iadd k_52 rfl ?_
  rw [c_add 1 1 rfl]
  refine Rn.putI k_52 rfl (rfl) (s604 L) ?_
  refine Rn.retv k_52 rfl q_52 rfl ?_
  exact ⟨rfl, rfl⟩
def wdQ (L : Nat) (fi : Nat → Nat → Int32) (fl : Nat → Nat → Int64) (fr : Nat → Nat → Option Nat) (y : Nat → Nat) (n q : Nat) (ok : Bool) : Option Value → am_H → Prop := fun v h' => v = some (.int (nI q)) ∧ ∃ fi', h' = (SH L, fi', fl, fr) ∧ (∀ a k, (a ≠ 604 ∨ (k ≠ 54 ∧ k ≠ 55)) → fi' a k = fi a k) ∧ ((ok = false ∧ fi' 604 54 = nI q ∧ fi' 604 55 = nI q) ∨ (ok = true ∧ fi' 604 54 = nI (wend y n q) ∧ isN (lok y n (wend y n q)) = true ∧ fi' 604 55 = nI (wend y n q)) ∨ (ok = true ∧ fi' 604 54 = nI (wend y n q) ∧ isN (lok y n (wend y n q)) = false ∧ fi' 604 55 = -1))
set_option maxHeartbeats 1000000 in
theorem cm_word (hF : FRok F G fr) (h : MRd fi y n p) (hi : fi 604 55 = -1) {b : Bool} : Rn (d + 2) 53 0 [some (.ref 604), some (.int (bI b)), none] [] (SH L, fi, fl, fr) (wdQ L fi fl fr y n (skip y n p) (if b = true then isL (lok y n (skip y n p)) else isN (lok y n (skip y n p)))) := by
  have hn := h.2.2.2.1
  have hqn := skip_le y h.2.2.2.2
  refine Rn.aload_n k_53 rfl rfl ?_
  refine Rn.cV1M k_53 rfl rfl q_50 rfl (Nat.le_of_ble_eq_true rfl) (Nat.le_of_ble_eq_true rfl) (s604 L) (cm_blanks hF h) ?_
  generalize skip y n p = q at hqn ⊢
  have hR := h.at hqn
  have h128 := lok_128 h
  have hi2 : ∀ e, up2 fi 604 54 (nI e) 604 55 = -1 := fun e => (up2_col _ _ (by decide)).trans hi
  have k54 : ∀ (e : Nat) (v : Int32) (a k : Nat), (a ≠ 604 ∨ (k ≠ 54 ∧ k ≠ 55)) → up2 (up2 fi 604 54 (nI e)) 604 55 v a k = fi a k := by
    intro e v a k z
    rcases z with z | z
    · rw [up2_row _ _ z, up2_row _ _ z]
    · rw [up2_col _ _ z.2, up2_col _ _ z.1]
  have k54' : ∀ (e : Nat) (a k : Nat), (a ≠ 604 ∨ (k ≠ 54 ∧ k ≠ 55)) → up2 fi 604 54 (nI e) a k = fi a k := by
    intro e a k z
    rcases z with z | z
    · rw [up2_row _ _ z]
    · rw [up2_col _ _ z.1]
  have bad : Rn (d + 2) 53 36 [some (.ref 604), some (.int (bI b)), some (.int (nI q))] [] (SH L, up2 fi 604 54 (nI q), fl, fr) (wdQ L fi fl fr y n q false) := by
    refine Rn.aload_n k_53 rfl rfl ?_
    refine Rn.cV1M k_53 rfl rfl q_51 rfl (Nat.le_of_ble_eq_true rfl) (Nat.le_of_ble_eq_true rfl) (s604 L) (cm_fail hF (hi2 q) (up2_same _ _ _ _)) ?_
    refine Rn.iload_n k_53 rfl rfl ?_
    refine Rn.reti k_53 rfl q_53 rfl (rfl) ?_
    exact ⟨rfl, _, rfl, k54 _ _, Or.inl ⟨rfl, by rw [up2_col _ _ (by decide), up2_same], up2_same _ _ _ _⟩⟩
  have good : Rn (d + 2) 53 42 [some (.ref 604), some (.int (bI b)), some (.int (nI q))] [] (SH L, up2 fi 604 54 (nI q), fl, fr) (wdQ L fi fl fr y n q true) := by
    have loop : ∀ (k e : Nat), e + k = q + 12 → e ≤ n → wnd y n k e = wend y n q → Rn (d + 2) 53 42 [some (.ref 604), some (.int (bI b)), some (.int (nI q))] [] (SH L, up2 fi 604 54 (nI e), fl, fr) (wdQ L fi fl fr y n q true) := by
      have fin : ∀ e, e ≤ n → e = wend y n q → Rn (d + 2) 53 76 [some (.ref 604), some (.int (bI b)), some (.int (nI q))] [] (SH L, up2 fi 604 54 (nI e), fl, fr) (wdQ L fi fl fr y n q true) := by
        intro e hen he
        have hRe := h.at hen
        have := h128 e
        refine Rn.aload_n k_53 rfl rfl ?_
        refine Rn.cV1I k_53 rfl rfl q_49 rfl (Nat.le_of_ble_eq_true rfl) (Nat.le_of_ble_eq_true rfl) (s604 L) (cm_look hF hRe) ?_
        refine Rn.cS1I k_53 rfl rfl q_16 rfl (Nat.le_of_ble_eq_true rfl) (Nat.le_of_ble_eq_true rfl) (cm_isOfName (by omega)) ?_
        refine Rn.if_eq 90 k_53 rfl rfl (fun h6 => ?_) (fun h6 => ?_)
        · (try rw [bI_0] at h6)
          (try rw [Bool.not_eq_false] at h6)
          refine Rn.iload_n k_53 rfl rfl ?_
          refine Rn.reti k_53 rfl q_53 rfl (rfl) ?_
          rw [he] at h6 ⊢
          exact ⟨rfl, _, rfl, k54' _, Or.inr (Or.inr ⟨rfl, up2_same _ _ _ _, h6, hi2 _⟩)⟩
        · (try rw [bI_0] at h6)
          (try rw [Bool.not_eq_false] at h6)
          refine Rn.aload_n k_53 rfl rfl ?_
          refine Rn.cV1M k_53 rfl rfl q_51 rfl (Nat.le_of_ble_eq_true rfl) (Nat.le_of_ble_eq_true rfl) (s604 L) (cm_fail hF (hi2 e) (up2_same _ _ _ _)) ?_
          refine Rn.iload_n k_53 rfl rfl ?_
          refine Rn.reti k_53 rfl q_53 rfl (rfl) ?_
          rw [he] at h6 ⊢
          exact ⟨rfl, _, rfl, k54 _ _, Or.inr (Or.inl ⟨rfl, by rw [up2_col _ _ (by decide), up2_same], h6, up2_same _ _ _ _⟩)⟩
      intro k
      induction k with
      | zero =>
        intro e he hen hw
        have hRe := h.at hen
        have := h128 e
        refine Rn.aload_n k_53 rfl rfl ?_
        refine Rn.cV1I k_53 rfl rfl q_49 rfl (Nat.le_of_ble_eq_true rfl) (Nat.le_of_ble_eq_true rfl) (s604 L) (cm_look hF hRe) ?_
        refine Rn.cS1I k_53 rfl rfl q_16 rfl (Nat.le_of_ble_eq_true rfl) (Nat.le_of_ble_eq_true rfl) (cm_isOfName (by omega)) ?_
        refine Rn.if_eq 76 k_53 rfl rfl (fun h4 => ?_) (fun h4 => ?_)
        · exact fin e hen hw
        · refine Rn.aload_n k_53 rfl rfl ?_
          refine Rn.getI k_53 rfl rfl (s604 L) ?_
          rw [hRe.2.2.1]
          refine Rn.iload_n k_53 rfl rfl ?_
          refine Rn.bipush (12) k_53 rfl rfl ?_
          refine Rn.iadd k_53 rfl ?_
          rw [c_add 12 12 rfl]
          refine Rn.icmp_ge 76 k_53 rfl rfl (fun h5 => ?_) (fun h5 => ?_)
          · exact fin e hen hw
          · rw [nI_leI (by omega) (by omega)] at h5
            omega
      | succ k ih =>
        intro e he hen hw
        have hRe := h.at hen
        have := h128 e
        refine Rn.aload_n k_53 rfl rfl ?_
        refine Rn.cV1I k_53 rfl rfl q_49 rfl (Nat.le_of_ble_eq_true rfl) (Nat.le_of_ble_eq_true rfl) (s604 L) (cm_look hF hRe) ?_
        refine Rn.cS1I k_53 rfl rfl q_16 rfl (Nat.le_of_ble_eq_true rfl) (Nat.le_of_ble_eq_true rfl) (cm_isOfName (by omega)) ?_
        have elk : (e < n ∧ isN (y e) = true) ↔ isN (lok y n e) = true := by
          unfold lok
          constructor
          · rintro ⟨z1, z2⟩; rw [if_pos z1]; exact z2
          · intro z
            split at z
            · exact ⟨by assumption, z⟩
            · exact absurd z (by decide)
        refine Rn.if_eq 76 k_53 rfl rfl (fun h4 => ?_) (fun h4 => ?_)
        · (try rw [bI_0] at h4)
          (try rw [Bool.not_eq_false] at h4)
          refine fin e hen ?_
          rw [wnd, if_neg (fun z => by rw [elk.mp z] at h4; cases h4)] at hw
          exact hw
        · (try rw [bI_0] at h4)
          (try rw [Bool.not_eq_false] at h4)
          have hz := elk.mpr h4
          rw [wnd, if_pos hz] at hw
          refine Rn.aload_n k_53 rfl rfl ?_
          refine Rn.getI k_53 rfl rfl (s604 L) ?_
          rw [hRe.2.2.1]
          refine Rn.iload_n k_53 rfl rfl ?_
          refine Rn.bipush (12) k_53 rfl rfl ?_
          refine Rn.iadd k_53 rfl ?_
          rw [c_add 12 12 rfl]
          refine Rn.icmp_ge 76 k_53 rfl rfl (fun h5 => ?_) (fun h5 => ?_)
          · rw [nI_leI (by omega) (by omega)] at h5
            omega
          · refine Rn.aload_n k_53 rfl rfl ?_
            refine Rn.dupa k_53 rfl ?_
            refine Rn.getI k_53 rfl rfl (s604 L) ?_
            rw [hRe.2.2.1]
            refine Rn.iconst (1) k_53 rfl rfl ?_
            refine Rn.iadd k_53 rfl ?_
            rw [c_add 1 1 rfl]
            refine Rn.putI k_53 rfl (rfl) (s604 L) ?_
            refine Rn.goto 42 k_53 rfl rfl ?_
            rw [up2_up2]
            exact ih (e + 1) (by omega) (by omega) hw
    exact loop 12 q rfl hqn rfl
  refine Rn.aload_n k_53 rfl rfl ?_
  refine Rn.getI k_53 rfl rfl (s604 L) ?_
  rw [hR.2.2.1]
  refine Rn.istore_n2 k_53 rfl rfl ?_
  refine Rn.iload_n k_53 rfl rfl ?_
  have := h128 q
  refine Rn.if_eq 26 k_53 rfl rfl (fun h1 => ?_) (fun h1 => ?_)
  · (try rw [bI_0] at h1)
    (try rw [Bool.not_eq_false] at h1)
    rw [h1, if_neg (by decide)]
    rw [h1] at bad good
    refine Rn.aload_n k_53 rfl rfl ?_
    refine Rn.cV1I k_53 rfl rfl q_49 rfl (Nat.le_of_ble_eq_true rfl) (Nat.le_of_ble_eq_true rfl) (s604 L) (cm_look hF hR) ?_
    refine Rn.cS1I k_53 rfl rfl q_16 rfl (Nat.le_of_ble_eq_true rfl) (Nat.le_of_ble_eq_true rfl) (cm_isOfName (by omega)) ?_
    refine Rn.if_ne 42 k_53 rfl rfl (fun h3 => ?_) (fun h3 => ?_)
    · (try rw [bI_0] at h3)
      (try rw [Bool.not_eq_false] at h3)
      rw [h3]
      exact good
    · (try rw [bI_0] at h3)
      (try rw [Bool.not_eq_false] at h3)
      rw [h3]
      exact bad
  · (try rw [bI_0] at h1)
    (try rw [Bool.not_eq_false] at h1)
    rw [h1, if_pos rfl]
    rw [h1] at bad good
    refine Rn.aload_n k_53 rfl rfl ?_
    refine Rn.cV1I k_53 rfl rfl q_49 rfl (Nat.le_of_ble_eq_true rfl) (Nat.le_of_ble_eq_true rfl) (s604 L) (cm_look hF hR) ?_
    refine Rn.cS1I k_53 rfl rfl q_15 rfl (Nat.le_of_ble_eq_true rfl) (Nat.le_of_ble_eq_true rfl) (cm_isLetter (by omega)) ?_
    refine Rn.if_ne 42 k_53 rfl rfl (fun h2 => ?_) (fun h2 => ?_)
    · (try rw [bI_0] at h2)
      (try rw [Bool.not_eq_false] at h2)
      rw [h2]
      exact good
    · (try rw [bI_0] at h2)
      (try rw [Bool.not_eq_false] at h2)
      rw [h2]
      refine Rn.goto 36 k_53 rfl rfl ?_
      exact bad
end MF
