/-! THE REFERENCE: begins, isRight, isSame -/
section MB
variable {d L : Nat} {fi : Nat → Nat → Int32} {fl : Nat → Nat → Int64} {fr : Nat → Nat → Option Nat} {F G : Nat} {x : Nat → Nat} {n : Nat} {ws : List (Nat × Nat)}
theorem cm_begins (hF : FRok F G fr) (hT : MTX fi x n) (hW : MWD fi ws) (hw : wok n ws) (h0 : 0 < ws.length) {w : Int64} : Rn d 18 0 [some (.ref 604), some (.long w), none, none, none, none] [] (SH L, fi, fl, fr) (Ret (SH L, fi, fl, fr) (some (.int (bI (decide (wd x (ws.getD 0 (0, 0)) = bys w 8)))))) := by
  have hn := hT.2
  obtain ⟨w1, w2⟩ := hW.2 0 h0
  obtain ⟨w3, w4⟩ := wok_at hw h0
  unfold wd
  generalize (ws.getD 0 (0, 0)).1 = s at w1 w3 ⊢
  generalize (ws.getD 0 (0, 0)).2 = e at w2 w3 w4 ⊢
  have loop : ∀ (j : Nat), j ≤ 8 → ∀ (p : Nat) (sh : Int32) (o5 : Option Value), s ≤ p → p ≤ e → (∀ q, j = q + 1 → sh = nI (8 * q)) → (j = 0 → sh = -8) → decide (sl x s e = bys w 8) = decide (sl x p e = bys w j) → Rn d 18 11 [some (.ref 604), some (.long w), none, some (.int (nI p)), some (.int sh), o5] [] (SH L, fi, fl, fr) (Ret (SH L, fi, fl, fr) (some (.int (bI (decide (sl x s e = bys w 8)))))) := by
    intro j
    induction j with
    | zero =>
      intro hj p sh o5 hsp hpe hs hs0 he
      rw [hs0 rfl, he]
      refine Rn.iload k_18 rfl rfl ?_
      refine Rn.if_lt 67 k_18 rfl rfl (fun h1 => ?_) (fun h1 => ?_)
      · refine Rn.iload_n k_18 rfl rfl ?_
        refine Rn.aload_n k_18 rfl rfl ?_
        refine Rn.getA k_18 rfl rfl (s604 L) (hF.l 32 rfl) ?_
        refine Rn.iconst (0) k_18 rfl rfl ?_
        refine Rn.iaload (0) k_18 rfl (s608 L) (rfl) (by omega) (by decide) ?_
        rw [w2]
        refine Rn.icmp_ne 81 k_18 rfl rfl (fun h5 => ?_) (fun h5 => ?_)
        · rw [nI_eq (by omega) (by omega)] at h5
          refine Rn.iconst (0) k_18 rfl rfl ?_
          refine Rn.reti k_18 rfl q_18 rfl (rfl) ?_
          have : ¬ sl x p e = bys w 0 := by
            intro z
            have := congrArg List.length z
            rw [sl_len] at this
            have this : e - p = 0 := this
            omega
          rw [decide_eq_false this]
          exact ⟨rfl, rfl⟩
        · rw [nI_eq (by omega) (by omega)] at h5
          refine Rn.iconst (1) k_18 rfl rfl ?_
          refine Rn.goto 82 k_18 rfl rfl ?_
          refine Rn.reti k_18 rfl q_18 rfl (rfl) ?_
          rw [h5, sl_nil x (Nat.le_refl e), show bys w 0 = [] from rfl]
          exact ⟨rfl, rfl⟩
      · exact absurd (by decide) h1
    | succ j ih =>
      intro hj p sh o5 hsp hpe hs hs0 he
      rw [hs j rfl]
      have e1 : bys w (j + 1) = (if bt w (8 * j) = 0 then [] else [bt w (8 * j)]) ++ bys w j := rfl
      have hb := bt_lt w (8 * j)
      have step : ∀ (p' : Nat), s ≤ p' → p' ≤ e → decide (sl x s e = bys w 8) = decide (sl x p' e = bys w j) → Rn d 18 61 [some (.ref 604), some (.long w), none, some (.int (nI p')), some (.int (nI (8 * j))), some (.int (nI (bt w (8 * j))))] [] (SH L, fi, fl, fr) (Ret (SH L, fi, fl, fr) (some (.int (bI (decide (sl x s e = bys w 8)))))) := by
        intro p' z1 z2 z3
        refine Rn.iinc4 (-8) k_18 rfl rfl rfl ?_
        refine Rn.goto 11 k_18 rfl rfl ?_
        refine ih (by omega) p' _ _ z1 z2 (fun q hq => ?_) (fun h0 => ?_) z3
        · rw [hq]; exact m8 q
        · rw [h0]; decide
      refine Rn.iload k_18 rfl rfl ?_
      refine Rn.if_lt 67 k_18 rfl rfl (fun h1 => ?_) (fun h1 => ?_)
      · exact absurd h1 (c_neg (by omega))
      · refine Rn.lload_n k_18 rfl rfl ?_
        refine Rn.iload k_18 rfl rfl ?_
        refine Rn.lshr k_18 rfl ?_
        refine Rn.ldc2 255 k_18 rfl rfl ?_
        refine Rn.land k_18 rfl ?_
        refine Rn.l2i k_18 rfl ?_
        rw [bt_mod w (by omega)]
        refine Rn.istore5 k_18 rfl rfl ?_
        refine Rn.iload k_18 rfl rfl ?_
        refine Rn.if_ne 35 k_18 rfl rfl (fun h2 => ?_) (fun h2 => ?_)
        · rw [c_eq 0 0 rfl (by omega) (by decide)] at h2
          rw [e1, if_neg h2] at he
          have no : ¬ (sl x p e = [bt w (8 * j)] ++ bys w j) → Rn d 18 56 [some (.ref 604), some (.long w), none, some (.int (nI p)), some (.int (nI (8 * j))), some (.int (nI (bt w (8 * j))))] [] (SH L, fi, fl, fr) (Ret (SH L, fi, fl, fr) (some (.int (bI (decide (sl x s e = bys w 8)))))) := by
            intro z
            refine Rn.iconst (0) k_18 rfl rfl ?_
            refine Rn.reti k_18 rfl q_18 rfl (rfl) ?_
            rw [he, decide_eq_false z]
            exact ⟨rfl, rfl⟩
          refine Rn.iload_n k_18 rfl rfl ?_
          refine Rn.aload_n k_18 rfl rfl ?_
          refine Rn.getA k_18 rfl rfl (s604 L) (hF.l 32 rfl) ?_
          refine Rn.iconst (0) k_18 rfl rfl ?_
          refine Rn.iaload (0) k_18 rfl (s608 L) (rfl) (by omega) (by decide) ?_
          rw [w2]
          refine Rn.icmp_ge 56 k_18 rfl rfl (fun h3 => ?_) (fun h3 => ?_)
          · rw [nI_leI (by omega) (by omega)] at h3
            refine no ?_
            rw [sl_nil x h3]
            intro z
            cases z
          · rw [nI_leI (by omega) (by omega)] at h3
            obtain ⟨t1, t2⟩ := hT.1 p (by omega)
            have esl := sl_cons x (show p < e by omega)
            refine Rn.aload_n k_18 rfl rfl ?_
            refine Rn.getA k_18 rfl rfl (s604 L) (hF.l 30 rfl) ?_
            refine Rn.iload_n k_18 rfl rfl ?_
            refine Rn.iaload (p) k_18 rfl (s606 L) (rfl) (by omega) (by decide) ?_
            rw [t1]
            refine Rn.iload k_18 rfl rfl ?_
            refine Rn.icmp_eq 58 k_18 rfl rfl (fun h4 => ?_) (fun h4 => ?_)
            · rw [nI_eq (by omega) (by omega)] at h4
              refine Rn.iinc3 (1) k_18 rfl rfl rfl ?_
              rw [c_add 1 1 rfl]
              refine step (p + 1) (by omega) (by omega) ?_
              rw [he, esl, h4, List.singleton_append]
              simp
            · rw [nI_eq (by omega) (by omega)] at h4
              refine no ?_
              rw [esl, List.singleton_append]
              intro z
              exact h4 (List.cons.inj z).1
        · rw [c_eq 0 0 rfl (by omega) (by decide)] at h2
          rw [e1, if_pos h2, List.nil_append] at he
          refine Rn.goto 61 k_18 rfl rfl ?_
          exact step p hsp hpe he
  refine Rn.aload_n k_18 rfl rfl ?_
  refine Rn.getA k_18 rfl rfl (s604 L) (hF.l 31 rfl) ?_
  refine Rn.iconst (0) k_18 rfl rfl ?_
  refine Rn.iaload (0) k_18 rfl (s607 L) (rfl) (by omega) (by decide) ?_
  rw [w1]
  refine Rn.istore_n3 k_18 rfl rfl ?_
  refine Rn.bipush (56) k_18 rfl rfl ?_
  refine Rn.istore4 k_18 rfl rfl ?_
  exact loop 8 (Nat.le_refl _) s _ _ (Nat.le_refl _) (by omega) (fun q hq => by have : q = 7 := by omega
                                                                                rw [this]; rfl) (fun h0 => absurd h0 (by decide)) rfl
theorem okV_sl (x : Nat → Nat) (s e : Nat) : okV (sl x s e) = (decide (e - s ≤ 12) && (sl x s e).all isN) := by unfold okV; rw [sl_len]
theorem cm_isRight (hF : FRok F G fr) (hT : MTX fi x n) (hW : MWD fi ws) (hw : wok n ws) {k : Nat} (hk : k < ws.length) {b : Bool} : Rn (d + 2) 19 0 [some (.ref 604), some (.int (nI k)), some (.int (bI b)), none, none, none] [] (SH L, fi, fl, fr) (Ret (SH L, fi, fl, fr) (some (.int (bI (if b = true then okN (wd x (ws.getD k (0, 0))) else okV (wd x (ws.getD k (0, 0)))))))) := by
  have hn := hT.2
  have hl6 := hw.2
  obtain ⟨w1, w2⟩ := hW.2 k hk
  obtain ⟨w3, w4⟩ := wok_at hw hk
  unfold wd
  generalize (ws.getD k (0, 0)).1 = s at w1 w3 ⊢
  generalize (ws.getD k (0, 0)).2 = e at w2 w3 w4 ⊢
  obtain ⟨t1, t2⟩ := hT.1 s (by omega)
  have e0 : (sl x s e).getD 0 0 = x s := by rw [sl_at (by omega)]; rfl
  -- the loop
  have loop : ∀ (m p : Nat) (c : Bool), p + m = e → s ≤ p → (c && (sl x p e).all isN) = (if b = true then okN (sl x s e) else okV (sl x s e)) → Rn (d + 2) 19 56 [some (.ref 604), some (.int (nI k)), some (.int (bI b)), some (.int (nI (e - s))), some (.int (bI c)), some (.int (nI p))] [] (SH L, fi, fl, fr) (Ret (SH L, fi, fl, fr) (some (.int (bI (if b = true then okN (sl x s e) else okV (sl x s e)))))) := by
    intro m
    induction m with
    | zero =>
      intro p c hp hsp he
      have : p = e := by omega
      subst this
      refine Rn.iload k_19 rfl rfl ?_
      refine Rn.aload_n k_19 rfl rfl ?_
      refine Rn.getA k_19 rfl rfl (s604 L) (hF.l 32 rfl) ?_
      refine Rn.iload_n k_19 rfl rfl ?_
      refine Rn.iaload (k) k_19 rfl (s608 L) (rfl) (by omega) (by decide) ?_
      rw [w2]
      refine Rn.icmp_ge 98 k_19 rfl rfl (fun h4 => ?_) (fun h4 => ?_)
      · refine Rn.iload k_19 rfl rfl ?_
        refine Rn.reti k_19 rfl q_19 rfl (bI_fit _) ?_
        rw [← he, sl_nil x (Nat.le_refl p)]
        simp only [List.all_nil, Bool.and_true]
        exact ⟨rfl, rfl⟩
      · rw [nI_leI (by omega) (by omega)] at h4
        omega
    | succ m ih =>
      intro p c hp hsp he
      obtain ⟨u1, u2⟩ := hT.1 p (by omega)
      have esl := sl_cons x (show p < e by omega)
      rw [esl, List.all_cons] at he
      have next : ∀ c' : Bool, c' = (c && isN (x p)) → Rn (d + 2) 19 90 [some (.ref 604), some (.int (nI k)), some (.int (bI b)), some (.int (nI (e - s))), some (.int (bI c)), some (.int (nI p))] [.int (bI c')] (SH L, fi, fl, fr) (Ret (SH L, fi, fl, fr) (some (.int (bI (if b = true then okN (sl x s e) else okV (sl x s e)))))) := by
        intro c' hc'
        refine Rn.istore4 k_19 rfl rfl ?_
        refine Rn.iinc5 (1) k_19 rfl rfl rfl ?_
        rw [c_add 1 1 rfl]
        refine Rn.goto 56 k_19 rfl rfl ?_
        refine ih (p + 1) c' (by omega) (by omega) ?_
        rw [← he, hc', Bool.and_assoc]
      refine Rn.iload k_19 rfl rfl ?_
      refine Rn.aload_n k_19 rfl rfl ?_
      refine Rn.getA k_19 rfl rfl (s604 L) (hF.l 32 rfl) ?_
      refine Rn.iload_n k_19 rfl rfl ?_
      refine Rn.iaload (k) k_19 rfl (s608 L) (rfl) (by omega) (by decide) ?_
      rw [w2]
      refine Rn.icmp_ge 98 k_19 rfl rfl (fun h4 => ?_) (fun h4 => ?_)
      · rw [nI_leI (by omega) (by omega)] at h4
        omega
      · refine Rn.iload k_19 rfl rfl ?_
        refine Rn.if_eq 89 k_19 rfl rfl (fun h5 => ?_) (fun h5 => ?_)
        · (try rw [bI_0] at h5)
          (try rw [Bool.not_eq_false] at h5)
          refine Rn.iconst (0) k_19 rfl rfl ?_
          exact next false (by rw [h5]; rfl)
        · (try rw [bI_0] at h5)
          (try rw [Bool.not_eq_false] at h5)
          refine Rn.aload_n k_19 rfl rfl ?_
          refine Rn.getA k_19 rfl rfl (s604 L) (hF.l 30 rfl) ?_
          refine Rn.iload k_19 rfl rfl ?_
          refine Rn.iaload (p) k_19 rfl (s606 L) (rfl) (by omega) (by decide) ?_
          rw [u1]
          refine Rn.cS1I k_19 rfl rfl q_16 rfl (Nat.le_of_ble_eq_true rfl) (Nat.le_of_ble_eq_true rfl) (cm_isOfName (by omega)) ?_
          refine Rn.if_eq 89 k_19 rfl rfl (fun h6 => ?_) (fun h6 => ?_)
          · (try rw [bI_0] at h6)
            (try rw [Bool.not_eq_false] at h6)
            refine Rn.iconst (0) k_19 rfl rfl ?_
            exact next false (by rw [h5, h6]; rfl)
          · (try rw [bI_0] at h6)
            (try rw [Bool.not_eq_false] at h6)
            refine Rn.iconst (1) k_19 rfl rfl ?_
            refine Rn.goto 90 k_19 rfl rfl ?_
            exact next true (by rw [h5, h6]; rfl)
  have main : ∀ c : Bool, c = (decide (e - s ≤ 12) && (!b || isL (x s))) → Rn (d + 2) 19 46 [some (.ref 604), some (.int (nI k)), some (.int (bI b)), some (.int (nI (e - s))), none, none] [.int (bI c)] (SH L, fi, fl, fr) (Ret (SH L, fi, fl, fr) (some (.int (bI (if b = true then okN (sl x s e) else okV (sl x s e)))))) := by
    intro c hc
    refine Rn.istore4 k_19 rfl rfl ?_
    refine Rn.aload_n k_19 rfl rfl ?_
    refine Rn.getA k_19 rfl rfl (s604 L) (hF.l 31 rfl) ?_
    refine Rn.iload_n k_19 rfl rfl ?_
    refine Rn.iaload (k) k_19 rfl (s607 L) (rfl) (by omega) (by decide) ?_
    rw [w1]
    refine Rn.istore5 k_19 rfl rfl ?_
    refine loop (e - s) s c (by omega) (Nat.le_refl _) ?_
    rw [hc, okV_sl]
    unfold okN
    rw [okV_sl, e0]
    cases b with
    | false => simp
    | true =>
      simp only [Bool.not_true, Bool.false_or, if_true]
      rw [Bool.and_assoc, Bool.and_assoc]
      congr 1
      exact Bool.and_comm _ _
  refine Rn.aload_n k_19 rfl rfl ?_
  refine Rn.getA k_19 rfl rfl (s604 L) (hF.l 32 rfl) ?_
  refine Rn.iload_n k_19 rfl rfl ?_
  refine Rn.iaload (k) k_19 rfl (s608 L) (rfl) (by omega) (by decide) ?_
  refine Rn.aload_n k_19 rfl rfl ?_
  refine Rn.getA k_19 rfl rfl (s604 L) (hF.l 31 rfl) ?_
  refine Rn.iload_n k_19 rfl rfl ?_
  refine Rn.iaload (k) k_19 rfl (s607 L) (rfl) (by omega) (by decide) ?_
  rw [w1, w2]
  refine Rn.isub k_19 rfl ?_
  rw [pk_sub (by omega)]
  refine Rn.istore_n3 k_19 rfl rfl ?_
  refine Rn.iload_n k_19 rfl rfl ?_
  refine Rn.bipush (12) k_19 rfl rfl ?_
  refine Rn.icmp_gt 45 k_19 rfl rfl (fun h1 => ?_) (fun h1 => ?_)
  · rw [c_gt 12 12 rfl (by omega) (by decide)] at h1
    refine Rn.iconst (0) k_19 rfl rfl ?_
    exact main false (by rw [decide_eq_false (show ¬ e - s ≤ 12 by omega), Bool.false_and])
  · rw [c_gt 12 12 rfl (by omega) (by decide)] at h1
    refine Rn.iload_n k_19 rfl rfl ?_
    refine Rn.if_eq 41 k_19 rfl rfl (fun h2 => ?_) (fun h2 => ?_)
    · (try rw [bI_0] at h2)
      (try rw [Bool.not_eq_false] at h2)
      refine Rn.iconst (1) k_19 rfl rfl ?_
      refine Rn.goto 46 k_19 rfl rfl ?_
      exact main true (by rw [decide_eq_true (show e - s ≤ 12 by omega), h2]; rfl)
    · (try rw [bI_0] at h2)
      (try rw [Bool.not_eq_false] at h2)
      refine Rn.aload_n k_19 rfl rfl ?_
      refine Rn.getA k_19 rfl rfl (s604 L) (hF.l 30 rfl) ?_
      refine Rn.aload_n k_19 rfl rfl ?_
      refine Rn.getA k_19 rfl rfl (s604 L) (hF.l 31 rfl) ?_
      refine Rn.iload_n k_19 rfl rfl ?_
      refine Rn.iaload (k) k_19 rfl (s607 L) (rfl) (by omega) (by decide) ?_
      rw [w1]
      refine Rn.iaload (s) k_19 rfl (s606 L) (rfl) (by omega) (by decide) ?_
      rw [t1]
      refine Rn.cS1I k_19 rfl rfl q_15 rfl (Nat.le_of_ble_eq_true rfl) (Nat.le_of_ble_eq_true rfl) (cm_isLetter (by omega)) ?_
      refine Rn.if_eq 45 k_19 rfl rfl (fun h3 => ?_) (fun h3 => ?_)
      · (try rw [bI_0] at h3)
        (try rw [Bool.not_eq_false] at h3)
        refine Rn.iconst (0) k_19 rfl rfl ?_
        exact main false (by rw [h2, h3]; simp)
      · (try rw [bI_0] at h3)
        (try rw [Bool.not_eq_false] at h3)
        refine Rn.iconst (1) k_19 rfl rfl ?_
        refine Rn.goto 46 k_19 rfl rfl ?_
        exact main true (by rw [decide_eq_true (show e - s ≤ 12 by omega), h3]; simp)
theorem sl_ext {x z : Nat → Nat} {a b s e : Nat} (hl : b - a = e - s) (h : ∀ k, k < b - a → x (a + k) = z (s + k)) : sl x a b = sl z s e := by
  unfold sl
  rw [← hl]
  apply List.map_congr_left
  intro k hk
  exact h k (List.mem_range.mp hk)
theorem sl_inj {x z : Nat → Nat} {a b s e : Nat} (h : sl x a b = sl z s e) : b - a = e - s ∧ ∀ k, k < b - a → x (a + k) = z (s + k) := by
  have hl := congrArg List.length h
  rw [sl_len, sl_len] at hl
  refine ⟨hl, fun k hk => ?_⟩
  have h1 := sl_at (x := x) hk
  have h2 := sl_at (x := z) (show k < e - s by omega)
  rw [← h1, ← h2, h]
theorem cm_isSame (hF : FRok F G fr) (hT : MTX fi x n) (hW : MWD fi ws) (hw : wok n ws) {k a b : Nat} (hk : k < ws.length) (hab : a ≤ b) (hb : b ≤ n) : Rn d 20 0 [some (.ref 604), some (.int (nI a)), some (.int (nI b)), some (.int (nI k)), none, none] [] (SH L, fi, fl, fr) (Ret (SH L, fi, fl, fr) (some (.int (bI (decide (sl x a b = wd x (ws.getD k (0, 0)))))))) := by
  have hn := hT.2
  have hl6 := hw.2
  obtain ⟨w1, w2⟩ := hW.2 k hk
  obtain ⟨w3, w4⟩ := wok_at hw hk
  unfold wd
  generalize (ws.getD k (0, 0)).1 = s at w1 w3 ⊢
  generalize (ws.getD k (0, 0)).2 = e at w2 w3 w4 ⊢
  have fin : ∀ (c : Bool) (o5 : Option Value), c = decide (sl x a b = sl x s e) → Rn d 20 81 [some (.ref 604), some (.int (nI a)), some (.int (nI b)), some (.int (nI k)), some (.int (bI c)), o5] [] (SH L, fi, fl, fr) (Ret (SH L, fi, fl, fr) (some (.int (bI (decide (sl x a b = sl x s e)))))) := by
    intro c o5 hc
    refine Rn.iload k_20 rfl rfl ?_
    refine Rn.reti k_20 rfl q_20 rfl (bI_fit _) ?_
    rw [hc]
    exact ⟨rfl, rfl⟩
  have stop : ∀ (q : Nat), q ≤ b - a → decide (sl x a b = sl x s e) = false → Rn d 20 29 [some (.ref 604), some (.int (nI a)), some (.int (nI b)), some (.int (nI k)), some (.int (bI false)), some (.int (nI q))] [] (SH L, fi, fl, fr) (Ret (SH L, fi, fl, fr) (some (.int (bI (decide (sl x a b = sl x s e)))))) := by
    intro q hq hf
    refine Rn.iload k_20 rfl rfl ?_
    refine Rn.iload_n k_20 rfl rfl ?_
    refine Rn.iload_n k_20 rfl rfl ?_
    refine Rn.isub k_20 rfl ?_
    rw [pk_sub hab]
    refine Rn.icmp_ge 81 k_20 rfl rfl (fun h2 => ?_) (fun h2 => ?_)
    · exact fin false _ hf.symm
    · refine Rn.iload k_20 rfl rfl ?_
      refine Rn.if_eq 81 k_20 rfl rfl (fun h3 => ?_) (fun h3 => ?_)
      · exact fin false _ hf.symm
      · exact absurd rfl h3
  have loop : ∀ (m q : Nat), q + m = b - a → b - a = e - s → (∀ j, j < q → x (a + j) = x (s + j)) → Rn d 20 29 [some (.ref 604), some (.int (nI a)), some (.int (nI b)), some (.int (nI k)), some (.int (bI true)), some (.int (nI q))] [] (SH L, fi, fl, fr) (Ret (SH L, fi, fl, fr) (some (.int (bI (decide (sl x a b = sl x s e)))))) := by
    intro m
    induction m with
    | zero =>
      intro q hq hl hj
      refine Rn.iload k_20 rfl rfl ?_
      refine Rn.iload_n k_20 rfl rfl ?_
      refine Rn.iload_n k_20 rfl rfl ?_
      refine Rn.isub k_20 rfl ?_
      rw [pk_sub hab]
      refine Rn.icmp_ge 81 k_20 rfl rfl (fun h2 => ?_) (fun h2 => ?_)
      · exact fin true _ (decide_eq_true (sl_ext hl (fun j h => hj j (by omega)))).symm
      · rw [nI_leI (by omega) (by omega)] at h2
        omega
    | succ m ih =>
      intro q hq hl hj
      obtain ⟨t1, t2⟩ := hT.1 (a + q) (by omega)
      obtain ⟨u1, u2⟩ := hT.1 (s + q) (by omega)
      refine Rn.iload k_20 rfl rfl ?_
      refine Rn.iload_n k_20 rfl rfl ?_
      refine Rn.iload_n k_20 rfl rfl ?_
      refine Rn.isub k_20 rfl ?_
      rw [pk_sub hab]
      refine Rn.icmp_ge 81 k_20 rfl rfl (fun h2 => ?_) (fun h2 => ?_)
      · rw [nI_leI (by omega) (by omega)] at h2
        omega
      · refine Rn.iload k_20 rfl rfl ?_
        refine Rn.if_eq 81 k_20 rfl rfl (fun h3 => ?_) (fun h3 => ?_)
        · exact absurd h3 (by decide)
        · refine Rn.aload_n k_20 rfl rfl ?_
          refine Rn.getA k_20 rfl rfl (s604 L) (hF.l 30 rfl) ?_
          refine Rn.iload_n k_20 rfl rfl ?_
          refine Rn.iload k_20 rfl rfl ?_
          refine Rn.iadd k_20 rfl ?_
          rw [nI_add]
          refine Rn.iaload (a + q) k_20 rfl (s606 L) (rfl) (by omega) (by decide) ?_
          refine Rn.aload_n k_20 rfl rfl ?_
          refine Rn.getA k_20 rfl rfl (s604 L) (hF.l 30 rfl) ?_
          refine Rn.aload_n k_20 rfl rfl ?_
          refine Rn.getA k_20 rfl rfl (s604 L) (hF.l 31 rfl) ?_
          refine Rn.iload_n k_20 rfl rfl ?_
          refine Rn.iaload (k) k_20 rfl (s607 L) (rfl) (by omega) (by decide) ?_
          rw [t1, w1]
          refine Rn.iload k_20 rfl rfl ?_
          refine Rn.iadd k_20 rfl ?_
          rw [nI_add]
          refine Rn.iaload (s + q) k_20 rfl (s606 L) (rfl) (by omega) (by decide) ?_
          rw [u1]
          refine Rn.icmp_ne 72 k_20 rfl rfl (fun h4 => ?_) (fun h4 => ?_)
          · rw [nI_eq (by omega) (by omega)] at h4
            refine Rn.iconst (0) k_20 rfl rfl ?_
            refine Rn.istore4 k_20 rfl rfl ?_
            refine Rn.iinc5 (1) k_20 rfl rfl rfl ?_
            rw [c_add 1 1 rfl]
            refine Rn.goto 29 k_20 rfl rfl ?_
            exact stop (q + 1) (by omega) (decide_eq_false (fun z => h4 ((sl_inj z).2 q (by omega))))
          · rw [nI_eq (by omega) (by omega)] at h4
            refine Rn.iconst (1) k_20 rfl rfl ?_
            refine Rn.goto 73 k_20 rfl rfl ?_
            refine Rn.istore4 k_20 rfl rfl ?_
            refine Rn.iinc5 (1) k_20 rfl rfl rfl ?_
            rw [c_add 1 1 rfl]
            refine Rn.goto 29 k_20 rfl rfl ?_
            refine ih (q + 1) (by omega) hl (fun j h => ?_)
            by_cases e5 : j = q
            · rw [e5]; exact h4
            · exact hj j (by omega)
  refine Rn.iload_n k_20 rfl rfl ?_
  refine Rn.iload_n k_20 rfl rfl ?_
  refine Rn.isub k_20 rfl ?_
  rw [pk_sub hab]
  refine Rn.aload_n k_20 rfl rfl ?_
  refine Rn.getA k_20 rfl rfl (s604 L) (hF.l 32 rfl) ?_
  refine Rn.iload_n k_20 rfl rfl ?_
  refine Rn.iaload (k) k_20 rfl (s608 L) (rfl) (by omega) (by decide) ?_
  refine Rn.aload_n k_20 rfl rfl ?_
  refine Rn.getA k_20 rfl rfl (s604 L) (hF.l 31 rfl) ?_
  refine Rn.iload_n k_20 rfl rfl ?_
  refine Rn.iaload (k) k_20 rfl (s607 L) (rfl) (by omega) (by decide) ?_
  rw [w1, w2]
  refine Rn.isub k_20 rfl ?_
  rw [pk_sub (by omega)]
  refine Rn.icmp_ne 23 k_20 rfl rfl (fun h1 => ?_) (fun h1 => ?_)
  · rw [nI_eq (by omega) (by omega)] at h1
    refine Rn.iconst (0) k_20 rfl rfl ?_
    refine Rn.istore4 k_20 rfl rfl ?_
    refine Rn.iconst (0) k_20 rfl rfl ?_
    refine Rn.istore5 k_20 rfl rfl ?_
    exact stop 0 (Nat.zero_le _) (decide_eq_false (fun z => h1 (sl_inj z).1))
  · rw [nI_eq (by omega) (by omega)] at h1
    refine Rn.iconst (1) k_20 rfl rfl ?_
    refine Rn.goto 24 k_20 rfl rfl ?_
    refine Rn.istore4 k_20 rfl rfl ?_
    refine Rn.iconst (0) k_20 rfl rfl ?_
    refine Rn.istore5 k_20 rfl rfl ?_
    exact loop (b - a) 0 (Nat.zero_add _) h1 (fun j h => absurd h (Nat.not_lt_zero j))
end MB
