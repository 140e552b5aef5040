/-! Words: the words of a line -/
/-- the characters from s up to e -/
def sl (x : Nat → Nat) (s e : Nat) : List Nat := (List.range (e - s)).map (fun k => x (s + k))
theorem sl_len (x : Nat → Nat) (s e : Nat) : (sl x s e).length = e - s := by simp [sl]
theorem sl_nil (x : Nat → Nat) {s e : Nat} (h : e ≤ s) : sl x s e = [] := by unfold sl; rw [Nat.sub_eq_zero_of_le h]; rfl
theorem sl_succ (x : Nat → Nat) {s e : Nat} (h : s ≤ e) : sl x s (e + 1) = sl x s e ++ [x e] := by
  unfold sl
  rw [show e + 1 - s = (e - s) + 1 by omega, List.range_succ, List.map_append]
  simp only [List.map_cons, List.map_nil]
  rw [show s + (e - s) = e by omega]
theorem sl_cons (x : Nat → Nat) {s e : Nat} (h : s < e) : sl x s e = x s :: sl x (s + 1) e := by
  unfold sl
  rw [show e - s = (e - (s + 1)) + 1 by omega, List.range_succ_eq_map, List.map_cons, List.map_map]
  congr 1
  apply List.map_congr_left
  intro k _
  show x (s + (k + 1)) = x (s + 1 + k)
  congr 1
  omega
theorem sl_mem {x : Nat → Nat} {s e c : Nat} : c ∈ sl x s e ↔ ∃ k, s ≤ k ∧ k < e ∧ x k = c := by
  unfold sl
  rw [List.mem_map]
  constructor
  · rintro ⟨k, hk, rfl⟩
    rw [List.mem_range] at hk
    exact ⟨s + k, by omega, by omega, rfl⟩
  · rintro ⟨k, h1, h2, rfl⟩
    exact ⟨k - s, List.mem_range.mpr (by omega), by rw [show s + (k - s) = k by omega]⟩
theorem sl_at {x : Nat → Nat} {s e k : Nat} (h : k < e - s) : (sl x s e).getD k 0 = x (s + k) := by
  unfold sl
  rw [List.getD_eq_getElem?_getD, List.getElem?_map, List.getElem?_range h]
  rfl
def okV (w : List Nat) : Bool := decide (w.length ≤ 12) && w.all isN
def okN (w : List Nat) : Bool := okV w && isL (w.getD 0 0)
/-- a value's number, or 0 -/
def vcode (w : List Nat) : Nat := if okV w = true then enc w else 0
def ncode (w : List Nat) : Nat := if okN w = true then enc w else 0
theorem okV_len {w : List Nat} (h : okV w = true) : w.length ≤ 12 := by
  unfold okV at h; rw [Bool.and_eq_true] at h; exact of_decide_eq_true h.1
theorem okV_isN {w : List Nat} (h : okV w = true) : ∀ c ∈ w, isN c = true := by
  unfold okV at h; rw [Bool.and_eq_true] at h; exact List.all_eq_true.mp h.2
theorem okN_okV {w : List Nat} (h : okN w = true) : okV w = true := by
  unfold okN at h; rw [Bool.and_eq_true] at h; exact h.1
theorem vcode_lt (w : List Nat) : vcode w < 2 ^ 63 := by
  unfold vcode
  split
  · rename_i h; exact enc_lt63 (okV_len h)
  · decide
theorem ncode_lt (w : List Nat) : ncode w < 2 ^ 63 := by
  unfold ncode
  split
  · rename_i h; exact enc_lt63 (okV_len (okN_okV h))
  · decide
/-- the text that the class holds: n characters -/
def TXr (fi : Nat → Nat → Int32) (x : Nat → Nat) (n : Nat) : Prop := (∀ k, k < n → fi 20 k = nI (x k) ∧ x k < 128) ∧ n ≤ 1200
/-- the words that the class holds -/
def WDr (fi : Nat → Nat → Int32) (ws : List (Nat × Nat)) : Prop := fi 588 2 = nI ws.length ∧ ∀ k, k < ws.length → fi 589 k = nI (ws.getD k (0, 0)).1 ∧ fi 590 k = nI (ws.getD k (0, 0)).2
def wok (n : Nat) (ws : List (Nat × Nat)) : Prop := (∀ p ∈ ws, p.1 < p.2 ∧ p.2 ≤ n) ∧ ws.length ≤ 600
/-- a word's characters -/
def wd (x : Nat → Nat) (p : Nat × Nat) : List Nat := sl x p.1 p.2
theorem wok_at {n : Nat} {ws : List (Nat × Nat)} (h : wok n ws) {k : Nat} (hk : k < ws.length) : (ws.getD k (0, 0)).1 < (ws.getD k (0, 0)).2 ∧ (ws.getD k (0, 0)).2 ≤ n := by
  refine h.1 _ ?_
  rw [List.getD_eq_getElem?_getD, List.getElem?_eq_getElem hk]
  exact List.getElem_mem hk
section WD
variable {d L : Nat} {fi : Nat → Nat → Int32} {fl : Nat → Nat → Int64} {fr : Nat → Nat → Option Nat} {F G : Nat} {x : Nat → Nat} {n : Nat} {ws : List (Nat × Nat)}
theorem ct_value (hF : FRok F G fr) (hT : TXr fi x n) (hW : WDr fi ws) (hw : wok n ws) {k : Nat} (hk : k < 2 ^ 30) : Rn (d + 1) 138 0 [some (.ref 588), some (.int (nI k)), none, none, none, none] [] (SH L, fi, fl, fr) (Ret (SH L, fi, fl, fr) (some (.long (lN (if k < ws.length then vcode (wd x (ws.getD k (0, 0))) else 0))))) := by
  have hn := hT.2
  have hc := hw.2
  have no : (¬ k < ws.length ∨ vcode (wd x (ws.getD k (0, 0))) = 0) → Rn (d + 1) 138 30 [some (.ref 588), some (.int (nI k)), none, none, none, none] [] (SH L, fi, fl, fr) (Ret (SH L, fi, fl, fr) (some (.long (lN (if k < ws.length then vcode (wd x (ws.getD k (0, 0))) else 0))))) := by
    intro z
    refine Rn.lconst 0 k_138 rfl rfl ?_
    refine Rn.retl k_138 rfl q_138 rfl ?_
    refine ⟨?_, rfl⟩
    rcases z with z | z
    · rw [if_neg z]; rfl
    · rw [z]; split <;> rfl
  refine Rn.iload_n k_138 rfl rfl ?_
  refine Rn.if_lt 30 k_138 rfl rfl (fun h1 => ?_) (fun h1 => ?_)
  · exact absurd h1 (c_neg (by omega))
  · refine Rn.iload_n k_138 rfl rfl ?_
    refine Rn.aload_n k_138 rfl rfl ?_
    refine Rn.getI k_138 rfl rfl (s588 L) ?_
    rw [hW.1]
    refine Rn.icmp_ge 30 k_138 rfl rfl (fun h2 => ?_) (fun h2 => ?_)
    · rw [nI_leI (by omega) (by omega)] at h2
      exact no (Or.inl (by omega))
    · rw [nI_leI (by omega) (by omega)] at h2
      have hkl : k < ws.length := by omega
      obtain ⟨w1, w2⟩ := hW.2 k hkl
      obtain ⟨w3, w4⟩ := wok_at hw hkl
      rw [if_pos hkl]
      rw [if_pos hkl] at no
      unfold wd
      unfold wd at no
      generalize (ws.getD k (0, 0)).1 = s at w1 w3 no ⊢
      generalize (ws.getD k (0, 0)).2 = e at w2 w3 w4 no ⊢
      refine Rn.aload_n k_138 rfl rfl ?_
      refine Rn.getA k_138 rfl rfl (s588 L) (hF.l 12 rfl) ?_
      refine Rn.iload_n k_138 rfl rfl ?_
      refine Rn.iaload (k) k_138 rfl (s590 L) (rfl) (by omega) (by decide) ?_
      refine Rn.aload_n k_138 rfl rfl ?_
      refine Rn.getA k_138 rfl rfl (s588 L) (hF.l 11 rfl) ?_
      refine Rn.iload_n k_138 rfl rfl ?_
      refine Rn.iaload (k) k_138 rfl (s589 L) (rfl) (by omega) (by decide) ?_
      rw [w1, w2]
      refine Rn.isub k_138 rfl ?_
      rw [pk_sub (by omega)]
      refine Rn.bipush (12) k_138 rfl rfl ?_
      refine Rn.icmp_le 32 k_138 rfl rfl (fun h3 => ?_) (fun h3 => ?_)
      · rw [c_le 12 12 rfl (by omega) (by decide)] at h3
        have loop : ∀ (q i : Nat), i + q = e → s ≤ i → (∀ c ∈ sl x s i, isN c = true) → Rn (d + 1) 138 42 [some (.ref 588), some (.int (nI k)), some (.long (lN (enc (sl x s i)))), none, some (.int (nI i)), none] [] (SH L, fi, fl, fr) (Ret (SH L, fi, fl, fr) (some (.long (lN (vcode (sl x s e)))))) ∧ ∀ o : Int32, Rn (d + 1) 138 42 [some (.ref 588), some (.int (nI k)), some (.long (lN (enc (sl x s i)))), none, some (.int (nI i)), some (.int o)] [] (SH L, fi, fl, fr) (Ret (SH L, fi, fl, fr) (some (.long (lN (vcode (sl x s e)))))) := by
          intro q
          induction q with
          | zero =>
            intro i hi hsi hN
            have : i = e := by omega
            subst this
            have ev : vcode (sl x s i) = enc (sl x s i) := by
              unfold vcode
              rw [if_pos]
              unfold okV
              rw [Bool.and_eq_true]
              exact ⟨decide_eq_true (by rw [sl_len]; omega), List.all_eq_true.mpr hN⟩
            have both : ∀ o5, Rn (d + 1) 138 42 [some (.ref 588), some (.int (nI k)), some (.long (lN (enc (sl x s i)))), none, some (.int (nI i)), o5] [] (SH L, fi, fl, fr) (Ret (SH L, fi, fl, fr) (some (.long (lN (vcode (sl x s i)))))) := by
              intro o5
              refine Rn.iload k_138 rfl rfl ?_
              refine Rn.aload_n k_138 rfl rfl ?_
              refine Rn.getA k_138 rfl rfl (s588 L) (hF.l 12 rfl) ?_
              refine Rn.iload_n k_138 rfl rfl ?_
              refine Rn.iaload (k) k_138 rfl (s590 L) (rfl) (by omega) (by decide) ?_
              rw [w2]
              refine Rn.icmp_ge 88 k_138 rfl rfl (fun h4 => ?_) (fun h4 => ?_)
              · refine Rn.lload_n k_138 rfl rfl ?_
                refine Rn.retl k_138 rfl q_138 rfl ?_
                exact ⟨by rw [ev], rfl⟩
              · exact absurd ((nI_leI (by omega) (by omega)).mpr (Nat.le_refl _)) h4
            exact ⟨both none, fun o => both _⟩
          | succ q ih =>
            intro i hi hsi hN
            obtain ⟨t1, t2⟩ := hT.1 i (by omega)
            have both : ∀ o5, Rn (d + 1) 138 42 [some (.ref 588), some (.int (nI k)), some (.long (lN (enc (sl x s i)))), none, some (.int (nI i)), o5] [] (SH L, fi, fl, fr) (Ret (SH L, fi, fl, fr) (some (.long (lN (vcode (sl x s e)))))) := by
              intro o5
              refine Rn.iload k_138 rfl rfl ?_
              refine Rn.aload_n k_138 rfl rfl ?_
              refine Rn.getA k_138 rfl rfl (s588 L) (hF.l 12 rfl) ?_
              refine Rn.iload_n k_138 rfl rfl ?_
              refine Rn.iaload (k) k_138 rfl (s590 L) (rfl) (by omega) (by decide) ?_
              rw [w2]
              refine Rn.icmp_ge 88 k_138 rfl rfl (fun h4 => ?_) (fun h4 => ?_)
              · exact absurd ((nI_leI (by omega) (by omega)).mp h4) (by omega)
              · refine Rn.aload_n k_138 rfl rfl ?_
                refine Rn.getA k_138 rfl rfl (s588 L) (hF.l 13 rfl) ?_
                refine Rn.iload k_138 rfl rfl ?_
                refine Rn.caload (i) k_138 rfl (s20 L) (rfl) (by omega) (by decide) ?_
                rw [t1]
                refine Rn.cS1I k_138 rfl rfl q_103 rfl (Nat.le_of_ble_eq_true rfl) (Nat.le_of_ble_eq_true rfl) (ct_digitOf (by omega)) ?_
                refine Rn.istore5 k_138 rfl rfl ?_
                refine Rn.iload k_138 rfl rfl ?_
                refine Rn.if_ne 72 k_138 rfl rfl (fun h5 => ?_) (fun h5 => ?_)
                · have h5 : ¬ dg (x i) = 0 := fun z => h5 (by rw [z]; rfl)
                  have hl := dg_lt (x i)
                  refine Rn.lload_n k_138 rfl rfl ?_
                  refine Rn.ldc2 38 k_138 rfl rfl ?_
                  refine Rn.lmul k_138 rfl ?_
                  refine Rn.iload k_138 rfl rfl ?_
                  refine Rn.i2l k_138 rfl ?_
                  rw [nI_l (by omega), show (38 : Int64) = lN 38 from rfl, lN_mul]
                  refine Rn.ladd k_138 rfl ?_
                  rw [lN_add, ← enc_app, ← sl_succ x hsi]
                  refine Rn.lstore_n2 k_138 rfl rfl ?_
                  refine Rn.iinc4 (1) k_138 rfl rfl rfl ?_
                  rw [c_add 1 1 rfl]
                  refine Rn.goto 42 k_138 rfl rfl ?_
                  refine (ih (i + 1) (by omega) (by omega) ?_).2 _
                  intro c hc
                  rw [sl_succ x hsi] at hc
                  rcases List.mem_append.mp hc with z | z
                  · exact hN c z
                  · rw [List.mem_singleton.mp z]
                    cases hz : isN (x i) with
                    | true => rfl
                    | false => exact absurd ((dg_0 (x i)).mpr hz) h5
                · refine Rn.lconst 0 k_138 rfl rfl ?_
                  refine Rn.retl k_138 rfl q_138 rfl ?_
                  refine ⟨?_, rfl⟩
                  have h5 : dg (x i) = 0 := by
                    have hl := dg_lt (x i)
                    exact (c_eq 0 0 rfl (by omega) (by decide)).mp h5
                  have : vcode (sl x s e) = 0 := by
                    unfold vcode
                    rw [if_neg]
                    intro z
                    have := okV_isN z (x i) (sl_mem.mpr ⟨i, hsi, by omega, rfl⟩)
                    rw [(dg_0 (x i)).mp h5] at this
                    cases this
                  rw [this]
                  rfl
            exact ⟨both none, fun o => both _⟩
        refine Rn.lconst 0 k_138 rfl rfl ?_
        refine Rn.lstore_n2 k_138 rfl rfl ?_
        refine Rn.aload_n k_138 rfl rfl ?_
        refine Rn.getA k_138 rfl rfl (s588 L) (hF.l 11 rfl) ?_
        refine Rn.iload_n k_138 rfl rfl ?_
        refine Rn.iaload (k) k_138 rfl (s589 L) (rfl) (by omega) (by decide) ?_
        rw [w1]
        refine Rn.istore4 k_138 rfl rfl ?_
        have := (loop (e - s) s (by omega) (Nat.le_refl _) (by rw [sl_nil x (Nat.le_refl s)]; intro c hc; cases hc)).1
        rw [sl_nil x (Nat.le_refl s)] at this
        exact this
      · rw [c_le 12 12 rfl (by omega) (by decide)] at h3
        refine no (Or.inr ?_)
        unfold vcode
        rw [if_neg]
        intro z
        have := okV_len z
        rw [sl_len] at this
        omega
end WD
