/-! FilterReader: next, word; Filter.add -/
/-- what the reader has before it -/
def FRd (fi : Nat → Nat → Int32) (y : Nat → Nat) (n p : Nat) : Prop := (∀ k, k < n → fi 18 k = nI (y k) ∧ y k < 128) ∧ fi 591 2 = nI n ∧ fi 591 3 = nI p ∧ n ≤ 120 ∧ p ≤ n
def FX (X : Nat) : Prop := X = 592 ∨ X = 599
theorem FG.xG {F G : Nat} (h : FG F G) : FX G := h.elim (fun z => Or.inr z.2) (fun z => Or.inl z.2)
theorem FG.xF {F G : Nat} (h : FG F G) : FX F := h.elim (fun z => Or.inl z.1) (fun z => Or.inr z.1)
theorem FX.s0 {X : Nat} (h : FX X) (L : Nat) : (SH L)[X]? = some (8, 5) := by rcases h with rfl | rfl; exact s592 L; exact s599 L
theorem FX.s1 {X : Nat} (h : FX X) (L : Nat) : (SH L)[X + 1]? = some (102, 120) := by rcases h with rfl | rfl; exact s593 L; exact s600 L
theorem FX.s2 {X : Nat} (h : FX X) (L : Nat) : (SH L)[X + 2]? = some (101, 120) := by rcases h with rfl | rfl; exact s594 L; exact s601 L
theorem FX.s3 {X : Nat} (h : FX X) (L : Nat) : (SH L)[X + 3]? = some (101, 120) := by rcases h with rfl | rfl; exact s595 L; exact s602 L
theorem FX.s4 {X : Nat} (h : FX X) (L : Nat) : (SH L)[X + 4]? = some (103, 120) := by rcases h with rfl | rfl; exact s596 L; exact s603 L
theorem FX.r {X F G : Nat} {fr : Nat → Nat → Option Nat} (h : FX X) (hF : FRok F G fr) {k : Nat} (hk : k < 4) : fr X k = some (X + 1 + k) := by
  have : (X, k, X + 1 + k) ∈ FRl := by
    rcases h with rfl | rfl
    · match k, hk with
      | 0, _ => decide
      | 1, _ => decide
      | 2, _ => decide
      | 3, _ => decide
    · match k, hk with
      | 0, _ => decide
      | 1, _ => decide
      | 2, _ => decide
      | 3, _ => decide
  exact hF.1 _ this
def fvl (s : FS) : Nat := if s.1 = 60 then s.2.2.getD 0 0 - 48 else enc s.2.2
def dF : FS := (0, [], [])
/-- the filter X holds the steps S -/
def STp (fi : Nat → Nat → Int32) (fl : Nat → Nat → Int64) (X : Nat) (S : List FS) : Prop := fi X 4 = nI S.length ∧ ∀ i, i < S.length → fi (X + 1) i = nI (S.getD i dF).1 ∧ fl (X + 2) i = lN (enc (S.getD i dF).2.1) ∧ fl (X + 3) i = lN (fvl (S.getD i dF))
theorem STp.keep {fi fi' : Nat → Nat → Int32} {fl fl' : Nat → Nat → Int64} {X : Nat} {S : List FS} (h : STp fi fl X S) (h1 : fi' X 4 = fi X 4) (h2 : ∀ q, fi' (X + 1) q = fi (X + 1) q) (h3 : ∀ a q, X ≤ a → a ≤ X + 3 → fl' a q = fl a q) : STp fi' fl' X S := ⟨h1.trans h.1, fun i hi => ⟨(h2 i).trans (h.2 i hi).1, (h3 _ _ (by omega) (by omega)).trans (h.2 i hi).2.1, (h3 _ _ (by omega) (by omega)).trans (h.2 i hi).2.2⟩⟩
theorem getD_F {S : List FS} {s : FS} {i : Nat} (h : i < S.length) : (S ++ [s]).getD i dF = S.getD i dF := by
  rw [List.getD_eq_getElem?_getD, List.getElem?_append_left h, ← List.getD_eq_getElem?_getD]
theorem getD_Fl (S : List FS) (s : FS) : (S ++ [s]).getD S.length dF = s := by
  rw [List.getD_eq_getElem?_getD, List.getElem?_append_right (Nat.le_refl _), Nat.sub_self]; rfl
/-- what a part of the reader leaves as it was -/
def frI (G a k : Nat) : Prop := (a ≠ 591 ∨ k ≠ 3) ∧ (a ≠ G ∨ k ≠ 4) ∧ a ≠ G + 1
def frL (G a : Nat) : Prop := a ≠ G + 2 ∧ a ≠ G + 3
section FR
variable {d L : Nat} {fi : Nat → Nat → Int32} {fl : Nat → Nat → Int64} {fr : Nat → Nat → Option Nat} {F G : Nat} {y : Nat → Nat} {n p : Nat}
theorem FRd.at {q : Nat} (h : FRd fi y n p) (hq : q ≤ n) : FRd (up2 fi 591 3 (nI q)) y n q := ⟨fun k hk => by rw [up2_row _ _ (by decide)]; exact h.1 k hk, by rw [up2_col _ _ (by decide)]; exact h.2.1, up2_same _ _ _ _, h.2.2.2.1, hq⟩
theorem FRd.lk (h : FRd fi y n p) (q : Nat) : lok y n q < 128 := by
  unfold lok
  split
  · exact (h.1 q (by assumption)).2
  · decide
theorem up2_up2 {α : Type} (f : Nat → Nat → α) (a k : Nat) (v w : α) : up2 (up2 f a k v) a k w = up2 f a k w := by
  funext i j
  unfold up2
  split
  · split <;> rfl
  · rfl
theorem up2_self {α : Type} (f : Nat → Nat → α) (a k : Nat) (v : α) (h : f a k = v) : up2 f a k v = f := by
  funext i j
  unfold up2
  split
  · split
    · rename_i h1 h2; rw [h1, h2, h]
    · rfl
  · rfl
theorem ct_next (hF : FRok F G fr) (h : FRd fi y n p) : Rn d 96 0 [some (.ref 591)] [] (SH L, fi, fl, fr) (Ret (SH L, up2 fi 591 3 (nI (skip y n p)), fl, fr) (some (.int (nI (lok y n (skip y n p)))))) := by
  have hn := h.2.2.2.1
  have ex : ∀ (gi : Nat → Nat → Int32) (q : Nat), FRd gi y n q → Rn d 96 38 [some (.ref 591)] [] (SH L, gi, fl, fr) (Ret (SH L, gi, fl, fr) (some (.int (nI (lok y n q))))) := by
    intro gi q hg
    refine Rn.aload_n k_96 rfl rfl ?_
    refine Rn.getI k_96 rfl rfl (s591 L) ?_
    refine Rn.aload_n k_96 rfl rfl ?_
    refine Rn.getI k_96 rfl rfl (s591 L) ?_
    rw [hg.2.1, hg.2.2.1]
    have hqn := hg.2.2.2.2
    refine Rn.icmp_ge 61 k_96 rfl rfl (fun h3 => ?_) (fun h3 => ?_)
    · rw [nI_leI (by omega) (by omega)] at h3
      refine Rn.iconst (0) k_96 rfl rfl ?_
      refine Rn.reti k_96 rfl q_96 rfl (rfl) ?_
      exact ⟨by unfold lok; rw [if_neg (by omega)]; rfl, rfl⟩
    · rw [nI_leI (by omega) (by omega)] at h3
      obtain ⟨t1, t2⟩ := hg.1 q (by omega)
      refine Rn.aload_n k_96 rfl rfl ?_
      refine Rn.getA k_96 rfl rfl (s591 L) (hF.l 17 rfl) ?_
      refine Rn.aload_n k_96 rfl rfl ?_
      refine Rn.getI k_96 rfl rfl (s591 L) ?_
      refine Rn.caload (q) k_96 rfl (s18 L) (hg.2.2.1) (by omega) (by decide) ?_
      rw [t1]
      refine Rn.goto 62 k_96 rfl rfl ?_
      refine Rn.reti k_96 rfl q_96 rfl (fit_c (by omega)) ?_
      exact ⟨by unfold lok; rw [if_pos (by omega)], rfl⟩
  have loop : ∀ (m q : Nat), q + m = n → Rn d 96 0 [some (.ref 591)] [] (SH L, up2 fi 591 3 (nI q), fl, fr) (Ret (SH L, up2 fi 591 3 (nI (skp y m q)), fl, fr) (some (.int (nI (lok y n (skp y m q)))))) := by
    intro m
    induction m with
    | zero =>
      intro q hq
      have hg := h.at (q := q) (by omega)
      refine Rn.aload_n k_96 rfl rfl ?_
      refine Rn.getI k_96 rfl rfl (s591 L) ?_
      refine Rn.aload_n k_96 rfl rfl ?_
      refine Rn.getI k_96 rfl rfl (s591 L) ?_
      rw [hg.2.1, hg.2.2.1]
      refine Rn.icmp_ge 38 k_96 rfl rfl (fun h1 => ?_) (fun h1 => ?_)
      · exact ex _ q hg
      · rw [nI_leI (by omega) (by omega)] at h1
        omega
    | succ m ih =>
      intro q hq
      have hg := h.at (q := q) (by omega)
      obtain ⟨t1, t2⟩ := hg.1 q (by omega)
      refine Rn.aload_n k_96 rfl rfl ?_
      refine Rn.getI k_96 rfl rfl (s591 L) ?_
      refine Rn.aload_n k_96 rfl rfl ?_
      refine Rn.getI k_96 rfl rfl (s591 L) ?_
      rw [hg.2.1, hg.2.2.1]
      refine Rn.icmp_ge 38 k_96 rfl rfl (fun h1 => ?_) (fun h1 => ?_)
      · rw [nI_leI (by omega) (by omega)] at h1
        omega
      · refine Rn.aload_n k_96 rfl rfl ?_
        refine Rn.getA k_96 rfl rfl (s591 L) (hF.l 17 rfl) ?_
        refine Rn.aload_n k_96 rfl rfl ?_
        refine Rn.getI k_96 rfl rfl (s591 L) ?_
        refine Rn.caload (q) k_96 rfl (s18 L) (hg.2.2.1) (by omega) (by decide) ?_
        rw [t1]
        refine Rn.bipush (32) k_96 rfl rfl ?_
        unfold skp
        refine Rn.icmp_ne 38 k_96 rfl rfl (fun h2 => ?_) (fun h2 => ?_)
        · rw [c_eq 32 32 rfl (by omega) (by decide)] at h2
          rw [if_neg h2]
          exact ex _ q hg
        · rw [c_eq 32 32 rfl (by omega) (by decide)] at h2
          rw [if_pos h2]
          refine Rn.aload_n k_96 rfl rfl ?_
          refine Rn.dupa k_96 rfl ?_
          refine Rn.getI k_96 rfl rfl (s591 L) ?_
          rw [hg.2.2.1]
          refine Rn.iconst (1) k_96 rfl rfl ?_
          refine Rn.iadd k_96 rfl ?_
          rw [c_add 1 1 rfl]
          refine Rn.putI k_96 rfl (rfl) (s591 L) ?_
          refine Rn.goto 0 k_96 rfl rfl ?_
          rw [up2_up2]
          exact ih (q + 1) (by omega)
  have := loop (n - p) p (by have := h.2.2.2.2; omega)
  rw [up2_self fi 591 3 (nI p) h.2.2.1] at this
  exact this
theorem ct_word (hF : FRok F G fr) (h : FRd fi y n p) {b : Bool} : Rn (d + 1) 95 0 [some (.ref 591), some (.int (bI b)), none, none, none, none] [] (SH L, fi, fl, fr) (Ret (SH L, up2 fi 591 3 (nI (if b = true ∧ isL (lok y n (skip y n p)) = false then skip y n p else wend y n (skip y n p))), fl, fr) (some (.long (lN (if b = true ∧ isL (lok y n (skip y n p)) = false then 0 else enc (sl y (skip y n p) (wend y n (skip y n p)))))))) := by
  have hn := h.2.2.2.1
  have hp := h.2.2.2.2
  have hs := skip_le y hp
  refine Rn.aload_n k_95 rfl rfl ?_
  refine Rn.cV1 k_95 rfl rfl q_96 rfl (Nat.le_of_ble_eq_true rfl) (Nat.le_of_ble_eq_true rfl) (s591 L) (ct_next hF h) (fun v h' hq => ?_)
  obtain ⟨rfl, rfl⟩ := hq
  show Rn _ _ _ _ (Value.int _ :: []) _ _
  have hg := h.at hs
  have hlk := h.lk (skip y n p)
  generalize skip y n p = s at hs hg hlk
  -- behind the look at the first character
  have main : ¬ (b = true ∧ isL (lok y n s) = false) → Rn (d + 1) 95 18 [some (.ref 591), some (.int (bI b)), some (.int (nI (lok y n s))), none, none, none] [] (SH L, up2 fi 591 3 (nI s), fl, fr) (Ret (SH L, up2 fi 591 3 (nI (if b = true ∧ isL (lok y n s) = false then s else wend y n s)), fl, fr) (some (.long (lN (if b = true ∧ isL (lok y n s) = false then 0 else enc (sl y s (wend y n s))))))) := by
    intro hb
    rw [if_neg hb, if_neg hb]
    refine Rn.aload_n k_95 rfl rfl ?_
    refine Rn.getI k_95 rfl rfl (s591 L) ?_
    refine Rn.aload_n k_95 rfl rfl ?_
    refine Rn.getI k_95 rfl rfl (s591 L) ?_
    refine Rn.bipush (12) k_95 rfl rfl ?_
    rw [hg.2.1, hg.2.2.1]
    refine Rn.iadd k_95 rfl ?_
    rw [c_add 12 12 rfl]
    refine Rn.min0 k_95 rfl (Nat.le_of_ble_eq_true rfl) ?_
    have emin : (if nI (s + 12) < nI n then nI (s + 12) else nI n) = nI (min n (s + 12)) := by
      by_cases z : s + 12 < n
      · rw [if_pos ((nI_ltI (by omega) (by omega)).mpr z), Nat.min_eq_right (by omega)]
      · rw [if_neg (fun y => z ((nI_ltI (by omega) (by omega)).mp y)), Nat.min_eq_left (by omega)]
    rw [emin]
    have loop : ∀ (m q : Nat), q + m = s + 12 → s ≤ q → q ≤ n → wend y n s = wnd y n m q → Rn (d + 1) 95 36 [some (.ref 591), some (.int (bI b)), some (.int (nI (lok y n s))), some (.int (nI (min n (s + 12)))), some (.long (lN (enc (sl y s q)))), none] [] (SH L, up2 fi 591 3 (nI q), fl, fr) (Ret (SH L, up2 fi 591 3 (nI (wend y n s)), fl, fr) (some (.long (lN (enc (sl y s (wend y n s))))))) := by
      intro m
      induction m with
      | zero =>
        intro q hq hsq hqn he
        have hgq := h.at (q := q) hqn
        have he : wend y n s = q := he
        refine Rn.aload_n k_95 rfl rfl ?_
        refine Rn.getI k_95 rfl rfl (s591 L) ?_
        refine Rn.iload_n k_95 rfl rfl ?_
        rw [hgq.2.2.1]
        refine Rn.icmp_ge 94 k_95 rfl rfl (fun h3 => ?_) (fun h3 => ?_)
        · refine Rn.lload k_95 rfl rfl ?_
          refine Rn.retl k_95 rfl q_95 rfl ?_
          rw [he]
          exact ⟨rfl, rfl⟩
        · rw [nI_leI (by omega) (by omega)] at h3
          omega
      | succ m ih =>
        intro q hq hsq hqn he
        have hgq := h.at (q := q) hqn
        unfold wnd at he
        have done : wend y n s = q → Rn (d + 1) 95 94 [some (.ref 591), some (.int (bI b)), some (.int (nI (lok y n s))), some (.int (nI (min n (s + 12)))), some (.long (lN (enc (sl y s q)))), none] [] (SH L, up2 fi 591 3 (nI q), fl, fr) (Ret (SH L, up2 fi 591 3 (nI (wend y n s)), fl, fr) (some (.long (lN (enc (sl y s (wend y n s))))))) := by
          intro he
          refine Rn.lload k_95 rfl rfl ?_
          refine Rn.retl k_95 rfl q_95 rfl ?_
          rw [he]
          exact ⟨rfl, rfl⟩
        refine Rn.aload_n k_95 rfl rfl ?_
        refine Rn.getI k_95 rfl rfl (s591 L) ?_
        refine Rn.iload_n k_95 rfl rfl ?_
        rw [hgq.2.2.1]
        refine Rn.icmp_ge 94 k_95 rfl rfl (fun h3 => ?_) (fun h3 => ?_)
        · rw [nI_leI (by omega) (by omega)] at h3
          rw [if_neg (fun z => by have := z.1; omega)] at he
          exact done he
        · rw [nI_leI (by omega) (by omega)] at h3
          have hqn2 : q < n := by omega
          obtain ⟨t1, t2⟩ := hgq.1 q hqn2
          refine Rn.aload_n k_95 rfl rfl ?_
          refine Rn.getA k_95 rfl rfl (s591 L) (hF.l 17 rfl) ?_
          refine Rn.aload_n k_95 rfl rfl ?_
          refine Rn.getI k_95 rfl rfl (s591 L) ?_
          refine Rn.caload (q) k_95 rfl (s18 L) (hgq.2.2.1) (by omega) (by decide) ?_
          rw [t1]
          have hdl := dg_lt (y q)
          refine Rn.cS1I k_95 rfl rfl q_103 rfl (Nat.le_of_ble_eq_true rfl) (Nat.le_of_ble_eq_true rfl) (ct_digitOf (by omega)) ?_
          refine Rn.if_eq 94 k_95 rfl rfl (fun h4 => ?_) (fun h4 => ?_)
          · rw [c_eq 0 0 rfl (by omega) (by decide)] at h4
            have h4 := (dg_0 _).mp h4
            rw [if_neg (fun z => by rw [h4] at z; cases z.2)] at he
            exact done he
          · rw [c_eq 0 0 rfl (by omega) (by decide)] at h4
            have h4 : isN (y q) = true := by
              cases hz : isN (y q) with
              | true => rfl
              | false => exact absurd ((dg_0 _).mpr hz) h4
            rw [if_pos ⟨hqn2, h4⟩] at he
            refine Rn.lload k_95 rfl rfl ?_
            refine Rn.ldc2 38 k_95 rfl rfl ?_
            refine Rn.lmul k_95 rfl ?_
            refine Rn.aload_n k_95 rfl rfl ?_
            refine Rn.getA k_95 rfl rfl (s591 L) (hF.l 17 rfl) ?_
            refine Rn.aload_n k_95 rfl rfl ?_
            refine Rn.getI k_95 rfl rfl (s591 L) ?_
            refine Rn.caload (q) k_95 rfl (s18 L) (hgq.2.2.1) (by omega) (by decide) ?_
            rw [t1]
            refine Rn.cS1I k_95 rfl rfl q_103 rfl (Nat.le_of_ble_eq_true rfl) (Nat.le_of_ble_eq_true rfl) (ct_digitOf (by omega)) ?_
            refine Rn.i2l k_95 rfl ?_
            rw [nI_l (by omega), show (38 : Int64) = lN 38 from rfl, lN_mul]
            refine Rn.ladd k_95 rfl ?_
            rw [lN_add, ← enc_app, ← sl_succ y hsq]
            refine Rn.lstore4 k_95 rfl rfl ?_
            refine Rn.aload_n k_95 rfl rfl ?_
            refine Rn.dupa k_95 rfl ?_
            refine Rn.getI k_95 rfl rfl (s591 L) ?_
            rw [hgq.2.2.1]
            refine Rn.iconst (1) k_95 rfl rfl ?_
            refine Rn.iadd k_95 rfl ?_
            rw [c_add 1 1 rfl]
            refine Rn.putI k_95 rfl (rfl) (s591 L) ?_
            refine Rn.goto 36 k_95 rfl rfl ?_
            rw [up2_up2]
            exact ih (q + 1) (by omega) (by omega) (by omega) he
    refine Rn.istore_n3 k_95 rfl rfl ?_
    refine Rn.lconst 0 k_95 rfl rfl ?_
    refine Rn.lstore4 k_95 rfl rfl ?_
    have := loop 12 s rfl (Nat.le_refl _) hs rfl
    rw [sl_nil y (Nat.le_refl s)] at this
    exact this
  refine Rn.istore_n2 k_95 rfl rfl ?_
  refine Rn.iload_n k_95 rfl rfl ?_
  refine Rn.if_eq 18 k_95 rfl rfl (fun h1 => ?_) (fun h1 => ?_)
  · (try rw [bI_0] at h1)
    (try rw [Bool.not_eq_false] at h1)
    exact main (fun z => by rw [h1] at z; cases z.1)
  · (try rw [bI_0] at h1)
    (try rw [Bool.not_eq_false] at h1)
    refine Rn.iload_n k_95 rfl rfl ?_
    refine Rn.cS1I k_95 rfl rfl q_102 rfl (Nat.le_of_ble_eq_true rfl) (Nat.le_of_ble_eq_true rfl) (ct_isLetter (by omega)) ?_
    refine Rn.if_ne 18 k_95 rfl rfl (fun h2 => ?_) (fun h2 => ?_)
    · (try rw [bI_0] at h2)
      (try rw [Bool.not_eq_false] at h2)
      exact main (fun z => by rw [h2] at z; cases z.2)
    · (try rw [bI_0] at h2)
      (try rw [Bool.not_eq_false] at h2)
      refine Rn.lconst 0 k_95 rfl rfl ?_
      refine Rn.retl k_95 rfl q_95 rfl ?_
      rw [if_pos ⟨h1, h2⟩, if_pos ⟨h1, h2⟩]
      exact ⟨rfl, rfl⟩
theorem ct_fadd (hF : FRok F G fr) {X : Nat} (hX : FX X) {S : List FS} (hS : STp fi fl X S) (hl : S.length < 120) {s : FS} (hk : s.1 < 128) {v1 v2 : Int64} (e1 : v1 = lN (enc s.2.1)) (e2 : v2 = lN (fvl s)) : Rn d 77 0 [some (.ref X), some (.int (nI s.1)), some (.long v1), none, some (.long v2), none] [] (SH L, fi, fl, fr) (fun v h' => v = none ∧ ∃ fi' fl', h' = (SH L, fi', fl', fr) ∧ STp fi' fl' X (S ++ [s]) ∧ (∀ a k, (a ≠ X ∨ k ≠ 4) → a ≠ X + 1 → fi' a k = fi a k) ∧ ∀ a k, frL X a → fl' a k = fl a k) := by
  subst e1 e2
  refine Rn.aload_n k_77 rfl rfl ?_
  refine Rn.getI k_77 rfl rfl (hX.s0 L) ?_
  rw [hS.1]
  refine Rn.aload_n k_77 rfl rfl ?_
  refine Rn.getA k_77 rfl rfl (hX.s0 L) (hX.r hF (k := 0) (by decide)) ?_
  refine Rn.alen k_77 rfl (hX.s1 L) rfl (by decide) ?_
  refine Rn.icmp_ge 53 k_77 rfl rfl (fun h1 => ?_) (fun h1 => ?_)
  · rw [nI_leI (by omega) (by omega)] at h1
    omega
  · have c4 : up2 fi (X + 1) S.length (nI s.1) X 4 = nI S.length := by rw [up2_row _ _ (by omega)]; exact hS.1
    refine Rn.aload_n k_77 rfl rfl ?_
    refine Rn.getA k_77 rfl rfl (hX.s0 L) (hX.r hF (k := 0) (by decide)) ?_
    refine Rn.aload_n k_77 rfl rfl ?_
    refine Rn.getI k_77 rfl rfl (hX.s0 L) ?_
    refine Rn.iload_n k_77 rfl rfl ?_
    refine Rn.castore (S.length) k_77 rfl (hX.s1 L) (hS.1) (by omega) (by decide) (fit_c (by omega)) ?_
    refine Rn.aload_n k_77 rfl rfl ?_
    refine Rn.getA k_77 rfl rfl (hX.s0 L) (hX.r hF (k := 1) (by decide)) ?_
    refine Rn.aload_n k_77 rfl rfl ?_
    refine Rn.getI k_77 rfl rfl (hX.s0 L) ?_
    refine Rn.lload_n k_77 rfl rfl ?_
    refine Rn.lastore (S.length) k_77 rfl (hX.s2 L) (c4) (by omega) (by decide) ?_
    refine Rn.aload_n k_77 rfl rfl ?_
    refine Rn.getA k_77 rfl rfl (hX.s0 L) (hX.r hF (k := 2) (by decide)) ?_
    refine Rn.aload_n k_77 rfl rfl ?_
    refine Rn.getI k_77 rfl rfl (hX.s0 L) ?_
    refine Rn.lload k_77 rfl rfl ?_
    refine Rn.lastore (S.length) k_77 rfl (hX.s3 L) (c4) (by omega) (by decide) ?_
    refine Rn.aload_n k_77 rfl rfl ?_
    refine Rn.dupa k_77 rfl ?_
    refine Rn.getI k_77 rfl rfl (hX.s0 L) ?_
    rw [c4]
    refine Rn.iconst (1) k_77 rfl rfl ?_
    refine Rn.iadd k_77 rfl ?_
    rw [c_add 1 1 rfl]
    refine Rn.putI k_77 rfl (rfl) (hX.s0 L) ?_
    refine Rn.retv k_77 rfl q_77 rfl ?_
    refine ⟨rfl, _, _, rfl, ⟨by rw [up2_same, List.length_append]; rfl, fun i hi => ?_⟩, fun a k h1 h2 => ?_, fun a k ha => ?_⟩
    · rw [List.length_append] at hi
      have hi : i < S.length + 1 := hi
      rw [up2_row _ _ (show X + 1 ≠ X by omega)]
      by_cases e : i = S.length
      · subst e
        rw [getD_Fl, up2_same, up2_row _ _ (show X + 2 ≠ X + 3 by omega), up2_same, up2_same]
        exact ⟨rfl, rfl, rfl⟩
      · rw [getD_F (by omega), up2_col _ _ e, up2_col _ _ e, up2_col _ _ e, up2_col _ _ e, up2_col _ _ e]
        exact hS.2 i (by omega)
    · refine Eq.trans ?_ (up2_row (a := X + 1) (k := S.length) (v := nI s.1) fi h2)
      unfold up2
      rcases h1 with h1 | h1
      · rw [if_neg h1]
      · rw [if_neg h1]; split <;> rfl
    · rw [up2_row _ _ ha.2, up2_row _ _ ha.1]
end FR
