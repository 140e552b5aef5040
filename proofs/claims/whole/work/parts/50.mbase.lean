/-! THE REFERENCE: words -/
def MTX (fi : Nat → Nat → Int32) (x : Nat → Nat) (n : Nat) : Prop := (∀ k, k < n → fi 606 k = nI (x k) ∧ x k < 128) ∧ n ≤ 1200
def MWD (fi : Nat → Nat → Int32) (ws : List (Nat × Nat)) : Prop := fi 604 5 = nI ws.length ∧ ∀ k, k < ws.length → fi 607 k = nI (ws.getD k (0, 0)).1 ∧ fi 608 k = nI (ws.getD k (0, 0)).2
theorem MTX.keep {fi fi' : Nat → Nat → Int32} {x : Nat → Nat} {n : Nat} (h : MTX fi x n) (e : ∀ k, fi' 606 k = fi 606 k) : MTX fi' x n := ⟨fun k hk => by rw [e]; exact h.1 k hk, h.2⟩
theorem MWD.keep {fi fi' : Nat → Nat → Int32} {ws : List (Nat × Nat)} (h : MWD fi ws) (e0 : fi' 604 5 = fi 604 5) (e1 : ∀ k, fi' 607 k = fi 607 k) (e2 : ∀ k, fi' 608 k = fi 608 k) : MWD fi' ws := ⟨e0.trans h.1, fun k hk => by rw [e1, e2]; exact h.2 k hk⟩
section MB
variable {d L : Nat} {fi : Nat → Nat → Int32} {fl : Nat → Nat → Int64} {fr : Nat → Nat → Option Nat} {F G : Nat} {x : Nat → Nat} {n : Nat} {ws : List (Nat × Nat)}
theorem cm_isLetter {h : am_H} {c : Nat} (hc : c < 65536) : Rn d 15 0 [some (.int (nI c))] [] h (Ret h (some (.int (bI (isL c))))) := by
  have no : isL c = false → Rn d 15 16 [some (.int (nI c))] [] h (Ret h (some (.int (bI (isL c))))) := by
    intro z
    refine Rn.iconst (0) k_15 rfl rfl ?_
    refine Rn.reti k_15 rfl q_15 rfl (rfl) ?_
    rw [z]
    exact ⟨rfl, rfl⟩
  refine Rn.iload_n k_15 rfl rfl ?_
  refine Rn.bipush (97) k_15 rfl rfl ?_
  refine Rn.icmp_lt 16 k_15 rfl rfl (fun h1 => ?_) (fun h1 => ?_)
  · rw [c_lt 97 97 rfl (by omega) (by decide)] at h1
    exact no (by unfold isL; rw [decide_eq_false (show ¬ 97 ≤ c by omega), Bool.false_and])
  · rw [c_lt 97 97 rfl (by omega) (by decide)] at h1
    refine Rn.iload_n k_15 rfl rfl ?_
    refine Rn.bipush (122) k_15 rfl rfl ?_
    refine Rn.icmp_gt 16 k_15 rfl rfl (fun h2 => ?_) (fun h2 => ?_)
    · rw [c_gt 122 122 rfl (by omega) (by decide)] at h2
      exact no (by unfold isL; rw [decide_eq_false (show ¬ c ≤ 122 by omega), Bool.and_false])
    · rw [c_gt 122 122 rfl (by omega) (by decide)] at h2
      refine Rn.iconst (1) k_15 rfl rfl ?_
      refine Rn.goto 17 k_15 rfl rfl ?_
      refine Rn.reti k_15 rfl q_15 rfl (rfl) ?_
      have : isL c = true := by unfold isL; rw [decide_eq_true (show 97 ≤ c by omega), decide_eq_true (show c ≤ 122 by omega)]; rfl
      rw [this]
      exact ⟨rfl, rfl⟩
theorem cm_isOfName {h : am_H} {c : Nat} (hc : c < 65536) : Rn (d + 1) 16 0 [some (.int (nI c))] [] h (Ret h (some (.int (bI (isN c))))) := by
  have yes : isN c = true → Rn (d + 1) 16 25 [some (.int (nI c))] [] h (Ret h (some (.int (bI (isN c))))) := by
    intro z
    refine Rn.iconst (1) k_16 rfl rfl ?_
    refine Rn.goto 30 k_16 rfl rfl ?_
    refine Rn.reti k_16 rfl q_16 rfl (rfl) ?_
    rw [z]
    exact ⟨rfl, rfl⟩
  have last : isL c = false → (decide (48 ≤ c) && decide (c ≤ 57)) = false → Rn (d + 1) 16 19 [some (.int (nI c))] [] h (Ret h (some (.int (bI (isN c))))) := by
    intro z1 z2
    refine Rn.iload_n k_16 rfl rfl ?_
    refine Rn.bipush (95) k_16 rfl rfl ?_
    refine Rn.icmp_ne 29 k_16 rfl rfl (fun h4 => ?_) (fun h4 => ?_)
    · rw [c_eq 95 95 rfl (by omega) (by decide)] at h4
      refine Rn.iconst (0) k_16 rfl rfl ?_
      refine Rn.reti k_16 rfl q_16 rfl (rfl) ?_
      have : isN c = false := by unfold isN; rw [z1, z2, decide_eq_false h4]; rfl
      rw [this]
      exact ⟨rfl, rfl⟩
    · rw [c_eq 95 95 rfl (by omega) (by decide)] at h4
      exact yes (by unfold isN; rw [decide_eq_true h4]; simp)
  refine Rn.iload_n k_16 rfl rfl ?_
  refine Rn.cS1I k_16 rfl rfl q_15 rfl (Nat.le_of_ble_eq_true rfl) (Nat.le_of_ble_eq_true rfl) (cm_isLetter hc) ?_
  refine Rn.if_ne 25 k_16 rfl rfl (fun h1 => ?_) (fun h1 => ?_)
  · (try rw [bI_0] at h1)
    (try rw [Bool.not_eq_false] at h1)
    exact yes (isL_N h1)
  · (try rw [bI_0] at h1)
    (try rw [Bool.not_eq_false] at h1)
    refine Rn.iload_n k_16 rfl rfl ?_
    refine Rn.bipush (48) k_16 rfl rfl ?_
    refine Rn.icmp_lt 19 k_16 rfl rfl (fun h2 => ?_) (fun h2 => ?_)
    · rw [c_lt 48 48 rfl (by omega) (by decide)] at h2
      exact last h1 (by rw [decide_eq_false (show ¬ 48 ≤ c by omega), Bool.false_and])
    · rw [c_lt 48 48 rfl (by omega) (by decide)] at h2
      refine Rn.iload_n k_16 rfl rfl ?_
      refine Rn.bipush (57) k_16 rfl rfl ?_
      refine Rn.icmp_le 25 k_16 rfl rfl (fun h3 => ?_) (fun h3 => ?_)
      · rw [c_le 57 57 rfl (by omega) (by decide)] at h3
        exact yes (by unfold isN; rw [decide_eq_true (show 48 ≤ c by omega), decide_eq_true h3]; simp)
      · rw [c_le 57 57 rfl (by omega) (by decide)] at h3
        exact last h1 (by rw [decide_eq_false (show ¬ c ≤ 57 by omega), Bool.and_false])
def mcF (a k : Nat) : Prop := (a ≠ 604 ∨ k ≠ 5) ∧ a ≠ 607 ∧ a ≠ 608
theorem cm_cut (hF : FRok F G fr) (hT : MTX fi x n) {a b : Nat} (hab : a ≤ b) (hb : b ≤ n) : Rn d 17 0 [some (.ref 604), some (.int (nI a)), some (.int (nI b)), none] [] (SH L, fi, fl, fr) (fun v h' => v = none ∧ ∃ fi', h' = (SH L, fi', fl, fr) ∧ MWD fi' (cutW x a b) ∧ ∀ a k, mcF a k → fi' a k = fi a k) := by
  have hn := hT.2
  have loop : ∀ (m k p : Nat) (acc : List (Nat × Nat)) (gi : Nat → Nat → Int32), k ≤ m → p + k = b → 2 * acc.length ≤ p + 1 → (acc ≠ [] → p < b → x p = 32 ∨ 2 * acc.length ≤ p) → MWD gi acc → (∀ a k, mcF a k → gi a k = fi a k) → acc ++ cw x k p p = cutW x a b → Rn d 17 7 [some (.ref 604), some (.int (nI a)), some (.int (nI b)), some (.int (nI p))] [] (SH L, gi, fl, fr) (fun v h' => v = none ∧ ∃ fi', h' = (SH L, fi', fl, fr) ∧ MWD fi' (cutW x a b) ∧ ∀ a k, mcF a k → fi' a k = fi a k) := by
    intro m
    induction m with
    | zero =>
      intro k p acc gi hkm hk hlen hsp hW hg he
      have : k = 0 := by omega
      subst this
      refine Rn.iload_n k_17 rfl rfl ?_
      refine Rn.iload_n k_17 rfl rfl ?_
      refine Rn.icmp_ge 84 k_17 rfl rfl (fun h1 => ?_) (fun h1 => ?_)
      · refine Rn.retv k_17 rfl q_17 rfl ?_
        refine ⟨rfl, gi, rfl, ?_, hg⟩
        rw [← he, cw, if_neg (Nat.lt_irrefl p), List.append_nil]
        exact hW
      · rw [nI_leI (by omega) (by omega)] at h1
        omega
    | succ m ih =>
      intro k p acc gi hkm hk hlen hsp hW hg he
      cases k with
      | zero =>
        refine Rn.iload_n k_17 rfl rfl ?_
        refine Rn.iload_n k_17 rfl rfl ?_
        refine Rn.icmp_ge 84 k_17 rfl rfl (fun h1 => ?_) (fun h1 => ?_)
        · refine Rn.retv k_17 rfl q_17 rfl ?_
          refine ⟨rfl, gi, rfl, ?_, hg⟩
          rw [← he, cw, if_neg (Nat.lt_irrefl p), List.append_nil]
          exact hW
        · rw [nI_leI (by omega) (by omega)] at h1
          omega
      | succ k =>
        obtain ⟨t1, t2⟩ := hT.1 p (by omega)
        have t1 : gi 606 p = nI (x p) := (hg 606 p ⟨Or.inl (by decide), by decide, by decide⟩).trans t1
        refine Rn.iload_n k_17 rfl rfl ?_
        refine Rn.iload_n k_17 rfl rfl ?_
        refine Rn.icmp_ge 84 k_17 rfl rfl (fun h1 => ?_) (fun h1 => ?_)
        · rw [nI_leI (by omega) (by omega)] at h1
          omega
        · refine Rn.aload_n k_17 rfl rfl ?_
          refine Rn.getA k_17 rfl rfl (s604 L) (hF.l 30 rfl) ?_
          refine Rn.iload_n k_17 rfl rfl ?_
          refine Rn.iaload (p) k_17 rfl (s606 L) (rfl) (by omega) (by decide) ?_
          rw [t1]
          refine Rn.bipush (32) k_17 rfl rfl ?_
          refine Rn.icmp_ne 29 k_17 rfl rfl (fun h2 => ?_) (fun h2 => ?_)
          · rw [c_eq 32 32 rfl (by omega) (by decide)] at h2
            -- a word begins here
            have hlen2 : 2 * acc.length ≤ p := by
              cases acc with
              | nil => exact Nat.zero_le _
              | cons q r => exact (hsp (by simp) (by omega)).resolve_left h2
            have ecw : cw x (k + 1) p p = cw x k (p + 1) p := by rw [cw, if_neg h2]
            have hW1 : gi 604 5 = nI acc.length := hW.1
            refine Rn.aload_n k_17 rfl rfl ?_
            refine Rn.getA k_17 rfl rfl (s604 L) (hF.l 31 rfl) ?_
            refine Rn.aload_n k_17 rfl rfl ?_
            refine Rn.getI k_17 rfl rfl (s604 L) ?_
            refine Rn.iload_n k_17 rfl rfl ?_
            refine Rn.iastore (acc.length) k_17 rfl (s607 L) (hW1) (by omega) (by decide) (rfl) ?_
            have inner : ∀ (j q : Nat), q + j = b → p ≤ q → (p < q ∨ (p = q ∧ p < b ∧ x p ≠ 32)) → acc ++ cw x j q p = cutW x a b → Rn d 17 39 [some (.ref 604), some (.int (nI a)), some (.int (nI b)), some (.int (nI q))] [] (SH L, up2 gi 607 acc.length (nI p), fl, fr) (fun v h' => v = none ∧ ∃ fi', h' = (SH L, fi', fl, fr) ∧ MWD fi' (cutW x a b) ∧ ∀ a k, mcF a k → fi' a k = fi a k) := by
              have close : ∀ (j q : Nat), q + j = b → p < q → (q < b → x q = 32) → acc ++ [(p, q)] ++ cw x j q q = cutW x a b → Rn d 17 61 [some (.ref 604), some (.int (nI a)), some (.int (nI b)), some (.int (nI q))] [] (SH L, up2 gi 607 acc.length (nI p), fl, fr) (fun v h' => v = none ∧ ∃ fi', h' = (SH L, fi', fl, fr) ∧ MWD fi' (cutW x a b) ∧ ∀ a k, mcF a k → fi' a k = fi a k) := by
                intro j q hq hpq h32 he
                refine Rn.aload_n k_17 rfl rfl ?_
                refine Rn.getA k_17 rfl rfl (s604 L) (hF.l 32 rfl) ?_
                refine Rn.aload_n k_17 rfl rfl ?_
                refine Rn.getI k_17 rfl rfl (s604 L) ?_
                refine Rn.iload_n k_17 rfl rfl ?_
                refine Rn.iastore (acc.length) k_17 rfl (s608 L) (hW1) (by omega) (by decide) (rfl) ?_
                refine Rn.aload_n k_17 rfl rfl ?_
                refine Rn.dupa k_17 rfl ?_
                refine Rn.getI k_17 rfl rfl (s604 L) ?_
                rw [show up2 (up2 gi 607 acc.length (nI p)) 608 acc.length (nI q) 604 5 = nI acc.length from hW1]
                refine Rn.iconst (1) k_17 rfl rfl ?_
                refine Rn.iadd k_17 rfl ?_
                rw [c_add 1 1 rfl]
                refine Rn.putI k_17 rfl (rfl) (s604 L) ?_
                refine Rn.goto 7 k_17 rfl rfl ?_
                have hl1 : (acc ++ [(p, q)]).length = acc.length + 1 := by rw [List.length_append]; rfl
                refine ih j q (acc ++ [(p, q)]) _ (by omega) hq (by rw [hl1]; omega) (fun _ z => Or.inl (h32 z)) ⟨by rw [up2_same, hl1], fun t ht => ?_⟩ (fun a k ha => ?_) he
                · rw [hl1] at ht
                  rw [up2_row _ _ (show (607 : Nat) ≠ 604 by decide), up2_row _ _ (show (607 : Nat) ≠ 608 by decide), up2_row _ _ (show (608 : Nat) ≠ 604 by decide)]
                  by_cases e1 : t = acc.length
                  · subst e1
                    rw [up2_same, up2_same, List.getD_eq_getElem?_getD, List.getElem?_append_right (Nat.le_refl _), Nat.sub_self]
                    exact ⟨rfl, rfl⟩
                  · rw [up2_col _ _ e1, up2_col _ _ e1, up2_row _ _ (show (608 : Nat) ≠ 607 by decide), List.getD_eq_getElem?_getD, List.getElem?_append_left (by omega), ← List.getD_eq_getElem?_getD]
                    exact hW.2 t (by omega)
                · refine Eq.trans ?_ (hg a k ha)
                  obtain ⟨z1, z2, z3⟩ := ha
                  unfold up2
                  rcases z1 with z1 | z1
                  · rw [if_neg z1, if_neg z3, if_neg z2]
                  · rw [if_neg z1, if_neg z3, if_neg z2]; split <;> rfl
              intro j
              induction j with
              | zero =>
                intro q hq hpq hor he
                have hlt : p < q := by omega
                refine Rn.iload_n k_17 rfl rfl ?_
                refine Rn.iload_n k_17 rfl rfl ?_
                refine Rn.icmp_ge 61 k_17 rfl rfl (fun h3 => ?_) (fun h3 => ?_)
                · refine close 0 q hq hlt (fun z => by omega) ?_
                  rw [← he, cw, if_neg (Nat.lt_irrefl q), List.append_nil, cw, if_pos hlt]
                · rw [nI_leI (by omega) (by omega)] at h3
                  omega
              | succ j ihj =>
                intro q hq hpq hor he
                obtain ⟨u1, u2⟩ := hT.1 q (by omega)
                have u1 : up2 gi 607 acc.length (nI p) 606 q = nI (x q) := (hg 606 q ⟨Or.inl (by decide), by decide, by decide⟩).trans u1
                refine Rn.iload_n k_17 rfl rfl ?_
                refine Rn.iload_n k_17 rfl rfl ?_
                refine Rn.icmp_ge 61 k_17 rfl rfl (fun h3 => ?_) (fun h3 => ?_)
                · rw [nI_leI (by omega) (by omega)] at h3
                  omega
                · refine Rn.aload_n k_17 rfl rfl ?_
                  refine Rn.getA k_17 rfl rfl (s604 L) (hF.l 30 rfl) ?_
                  refine Rn.iload_n k_17 rfl rfl ?_
                  refine Rn.iaload (q) k_17 rfl (s606 L) (rfl) (by omega) (by decide) ?_
                  rw [u1]
                  refine Rn.bipush (32) k_17 rfl rfl ?_
                  refine Rn.icmp_eq 61 k_17 rfl rfl (fun h4 => ?_) (fun h4 => ?_)
                  · rw [c_eq 32 32 rfl (by omega) (by decide)] at h4
                    have hlt : p < q := by
                      rcases hor with z | z
                      · exact z
                      · rw [z.1] at z; exact absurd h4 z.2.2
                    refine close (j + 1) q hq hlt (fun _ => h4) ?_
                    rw [← he, cw, if_pos h4, if_neg (Nat.lt_irrefl q), List.nil_append, cw, if_pos h4, if_pos hlt, List.append_assoc]
                  · rw [c_eq 32 32 rfl (by omega) (by decide)] at h4
                    refine Rn.iinc3 (1) k_17 rfl rfl rfl ?_
                    rw [c_add 1 1 rfl]
                    refine Rn.goto 39 k_17 rfl rfl ?_
                    refine ihj (q + 1) (by omega) (by omega) (Or.inl (by omega)) ?_
                    rw [← he, cw, if_neg h4]
            refine inner (k + 1) p hk (Nat.le_refl _) (Or.inr ⟨rfl, by omega, h2⟩) he
          · rw [c_eq 32 32 rfl (by omega) (by decide)] at h2
            refine Rn.iinc3 (1) k_17 rfl rfl rfl ?_
            rw [c_add 1 1 rfl]
            refine Rn.goto 7 k_17 rfl rfl ?_
            refine ih k (p + 1) acc gi (by omega) (by omega) (by omega) (fun _ _ => Or.inr (by omega)) hW hg ?_
            rw [← he, cw, if_pos h2, if_neg (Nat.lt_irrefl p), List.nil_append]
  refine Rn.aload_n k_17 rfl rfl ?_
  refine Rn.iconst (0) k_17 rfl rfl ?_
  refine Rn.putI k_17 rfl (rfl) (s604 L) ?_
  refine Rn.iload_n k_17 rfl rfl ?_
  refine Rn.istore_n3 k_17 rfl rfl ?_
  refine loop (b - a) (b - a) a [] _ (Nat.le_refl _) (by omega) (by simp) (fun z => absurd rfl z) ⟨up2_same _ _ _ _, fun k hk => absurd hk (Nat.not_lt_zero k)⟩ (fun a k ha => ?_) rfl
  unfold up2
  rcases ha.1 with z1 | z1
  · rw [if_neg z1]
  · rw [if_neg z1]; split <;> rfl
end MB
