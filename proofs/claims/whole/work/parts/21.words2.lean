/-! the string constants, and what is left of Words -/
/-- the string constant of the cell k has the characters w -/
def STr (L : Nat) (fi : Nat → Nat → Int32) (fr : Nat → Nat → Option Nat) (k : Nat) (w : List Nat) : Prop := (SH L)[k]? = some (901, 0) ∧ (SH L)[k + 7]? = some (902, w.length) ∧ fr k 0 = some (k + 7) ∧ fi k 1 = 0 ∧ (∀ j, j < w.length → fi (k + 7) j = nI (w.getD j 0) ∧ w.getD j 0 < 128) ∧ w.length < 100
section ST
variable {d L : Nat} {fi : Nat → Nat → Int32} {fl : Nat → Nat → Int64} {fr : Nat → Nat → Option Nat} {k : Nat} {w : List Nat}
theorem ct_coder (hS : STr L fi fr k w) : Rn d 141 0 [some (.ref k)] [] (SH L, fi, fl, fr) (Ret (SH L, fi, fl, fr) (some (.int 0))) := by
  refine Rn.gets0 k_141 rfl ?_
  refine Rn.if_eq 13 k_141 rfl rfl (fun h1 => ?_) (fun h1 => ?_)
  · exact absurd h1 (by decide)
  · refine Rn.aload_n k_141 rfl rfl ?_
    refine Rn.getI k_141 rfl rfl hS.1 ?_
    refine Rn.goto 14 k_141 rfl rfl ?_
    rw [hS.2.2.2.1]
    refine Rn.reti k_141 rfl q_141 rfl (rfl) ?_
    exact ⟨rfl, rfl⟩
theorem ct_isLatin1 (hS : STr L fi fr k w) : Rn d 143 0 [some (.ref k)] [] (SH L, fi, fl, fr) (Ret (SH L, fi, fl, fr) (some (.int 1))) := by
  refine Rn.gets0 k_143 rfl ?_
  refine Rn.if_eq 17 k_143 rfl rfl (fun h1 => ?_) (fun h1 => ?_)
  · exact absurd h1 (by decide)
  · refine Rn.aload_n k_143 rfl rfl ?_
    refine Rn.getI k_143 rfl rfl hS.1 ?_
    rw [hS.2.2.2.1]
    refine Rn.if_ne 17 k_143 rfl rfl (fun h2 => ?_) (fun h2 => ?_)
    · exact absurd rfl h2
    · refine Rn.iconst (1) k_143 rfl rfl ?_
      refine Rn.goto 18 k_143 rfl rfl ?_
      refine Rn.reti k_143 rfl q_143 rfl (rfl) ?_
      exact ⟨rfl, rfl⟩
theorem ct_strlen (hS : STr L fi fr k w) : Rn (d + 1) 140 0 [some (.ref k)] [] (SH L, fi, fl, fr) (Ret (SH L, fi, fl, fr) (some (.int (nI w.length)))) := by
  have hl := hS.2.2.2.2.2
  refine Rn.aload_n k_140 rfl rfl ?_
  refine Rn.getA k_140 rfl rfl hS.1 hS.2.2.1 ?_
  refine Rn.alen k_140 rfl hS.2.1 rfl (by omega) ?_
  refine Rn.aload_n k_140 rfl rfl ?_
  refine Rn.cV1I k_140 rfl rfl q_141 rfl (Nat.le_of_ble_eq_true rfl) (Nat.le_of_ble_eq_true rfl) hS.1 (ct_coder hS) ?_
  refine Rn.ishr k_140 rfl ?_
  rw [sc_shr0 (by omega)]
  refine Rn.reti k_140 rfl q_140 rfl (rfl) ?_
  exact ⟨rfl, rfl⟩
theorem ct_preIndex {i n : Nat} (hi : i < n) (hn : n < 2 ^ 31) {h : am_H} : Rn d 146 0 [some (.int (nI i)), some (.int (nI n)), some (.retAddr 0)] [] h (Ret h (some (.int (nI i)))) := by
  refine Rn.iload_n k_146 rfl rfl ?_
  refine Rn.if_lt 9 k_146 rfl rfl (fun h1 => ?_) (fun h1 => ?_)
  · exact absurd h1 (c_neg (by omega))
  · refine Rn.iload_n k_146 rfl rfl ?_
    refine Rn.iload_n k_146 rfl rfl ?_
    refine Rn.icmp_lt 16 k_146 rfl rfl (fun h2 => ?_) (fun h2 => ?_)
    · refine Rn.iload_n k_146 rfl rfl ?_
      refine Rn.reti k_146 rfl q_146 rfl (rfl) ?_
      exact ⟨rfl, rfl⟩
    · exact absurd ((nI_ltI (by omega) hn).mpr hi) h2
theorem ct_strIndex {i n : Nat} (hi : i < n) (hn : n < 2 ^ 31) {h : am_H} : Rn (d + 1) 145 0 [some (.int (nI i)), some (.int (nI n))] [] h (Ret h none) := by
  refine Rn.iload_n k_145 rfl rfl ?_
  refine Rn.iload_n k_145 rfl rfl ?_
  refine Rn.gets1 k_145 rfl ?_
  refine Rn.cS3I k_145 rfl rfl q_146 rfl (Nat.le_of_ble_eq_true rfl) (Nat.le_of_ble_eq_true rfl) (ct_preIndex hi hn) ?_
  refine Rn.popi k_145 rfl ?_
  refine Rn.retv k_145 rfl q_145 rfl ?_
  exact ⟨rfl, rfl⟩
theorem ct_latinChar (hS : STr L fi fr k w) {i : Nat} (hi : i < w.length) : Rn (d + 2) 144 0 [some (.ref (k + 7)), some (.int (nI i))] [] (SH L, fi, fl, fr) (Ret (SH L, fi, fl, fr) (some (.int (nI (w.getD i 0))))) := by
  have hl := hS.2.2.2.2.2
  obtain ⟨e1, e2⟩ := hS.2.2.2.2.1 i hi
  refine Rn.iload_n k_144 rfl rfl ?_
  refine Rn.aload_n k_144 rfl rfl ?_
  refine Rn.alen k_144 rfl hS.2.1 rfl (by omega) ?_
  refine Rn.cS2N k_144 rfl rfl q_145 rfl (Nat.le_of_ble_eq_true rfl) (Nat.le_of_ble_eq_true rfl) (ct_strIndex hi (by omega)) ?_
  refine Rn.aload_n k_144 rfl rfl ?_
  refine Rn.iload_n k_144 rfl rfl ?_
  refine Rn.baload2 (i) k_144 rfl hS.2.1 (rfl) (hi) (by omega) ?_
  refine Rn.sipush (255) k_144 rfl rfl ?_
  rw [e1]
  refine Rn.iand k_144 rfl ?_
  rw [show nI (w.getD i 0) &&& 255 = nI (w.getD i 0) by rw [pk_andN (by omega) 8 rfl, Nat.mod_eq_of_lt (by omega)]]
  refine Rn.i2c k_144 rfl ?_
  rw [i2c_id (by omega)]
  refine Rn.reti k_144 rfl q_144 rfl (fit_c (by omega)) ?_
  exact ⟨rfl, rfl⟩
theorem ct_charAt (hS : STr L fi fr k w) {i : Nat} (hi : i < w.length) : Rn (d + 3) 142 0 [some (.ref k), some (.int (nI i))] [] (SH L, fi, fl, fr) (Ret (SH L, fi, fl, fr) (some (.int (nI (w.getD i 0))))) := by
  obtain ⟨e1, e2⟩ := hS.2.2.2.2.1 i hi
  refine Rn.aload_n k_142 rfl rfl ?_
  refine Rn.cV1I k_142 rfl rfl q_143 rfl (Nat.le_of_ble_eq_true rfl) (Nat.le_of_ble_eq_true rfl) hS.1 (ct_isLatin1 hS) ?_
  refine Rn.if_eq 16 k_142 rfl rfl (fun h1 => ?_) (fun h1 => ?_)
  · exact absurd h1 (by decide)
  · refine Rn.aload_n k_142 rfl rfl ?_
    refine Rn.getA k_142 rfl rfl hS.1 hS.2.2.1 ?_
    refine Rn.iload_n k_142 rfl rfl ?_
    refine Rn.cS2I k_142 rfl rfl q_144 rfl (Nat.le_of_ble_eq_true rfl) (Nat.le_of_ble_eq_true rfl) (ct_latinChar hS hi) ?_
    refine Rn.reti k_142 rfl q_142 rfl (fit_c (by omega)) ?_
    exact ⟨rfl, rfl⟩
end ST
section WD
variable {d L : Nat} {fi : Nat → Nat → Int32} {fl : Nat → Nat → Int64} {fr : Nat → Nat → Option Nat} {F G : Nat} {x : Nat → Nat} {n : Nat} {ws : List (Nat × Nat)}
theorem ct_name (hF : FRok F G fr) (hT : TXr fi x n) (hW : WDr fi ws) (hw : wok n ws) {k : Nat} (hk : k < 2 ^ 30) : Rn (d + 2) 137 0 [some (.ref 588), some (.int (nI k)), none] [] (SH L, fi, fl, fr) (Ret (SH L, fi, fl, fr) (some (.long (lN (if k < ws.length then ncode (wd x (ws.getD k (0, 0))) else 0))))) := by
  have hn := hT.2
  have hc := hw.2
  have no : (¬ k < ws.length ∨ ncode (wd x (ws.getD k (0, 0))) = 0) → Rn (d + 2) 137 33 [some (.ref 588), some (.int (nI k)), none] [] (SH L, fi, fl, fr) (Ret (SH L, fi, fl, fr) (some (.long (lN (if k < ws.length then ncode (wd x (ws.getD k (0, 0))) else 0))))) := by
    intro z
    refine Rn.iconst (0) k_137 rfl rfl ?_
    refine Rn.istore_n2 k_137 rfl rfl ?_
    refine Rn.iload_n k_137 rfl rfl ?_
    refine Rn.if_eq 47 k_137 rfl rfl (fun h4 => ?_) (fun h4 => ?_)
    · refine Rn.lconst 0 k_137 rfl rfl ?_
      refine Rn.retl k_137 rfl q_137 rfl ?_
      refine ⟨?_, rfl⟩
      rcases z with z | z
      · rw [if_neg z]; rfl
      · rw [z]; split <;> rfl
    · exact absurd rfl h4
  refine Rn.iload_n k_137 rfl rfl ?_
  refine Rn.if_lt 33 k_137 rfl rfl (fun h1 => ?_) (fun h1 => ?_)
  · exact absurd h1 (c_neg (by omega))
  · refine Rn.iload_n k_137 rfl rfl ?_
    refine Rn.aload_n k_137 rfl rfl ?_
    refine Rn.getI k_137 rfl rfl (s588 L) ?_
    rw [hW.1]
    refine Rn.icmp_ge 33 k_137 rfl rfl (fun h2 => ?_) (fun h2 => ?_)
    · rw [nI_leI (by omega) (by omega)] at h2
      exact no (Or.inl (by omega))
    · rw [nI_leI (by omega) (by omega)] at h2
      have hkl : k < ws.length := by omega
      obtain ⟨w1, w2⟩ := hW.2 k hkl
      obtain ⟨w3, w4⟩ := wok_at hw hkl
      obtain ⟨t1, t2⟩ := hT.1 _ (Nat.lt_of_lt_of_le w3 w4)
      have e0 : (wd x (ws.getD k (0, 0))).getD 0 0 = x (ws.getD k (0, 0)).1 := by unfold wd; rw [sl_at (by omega)]; rfl
      refine Rn.aload_n k_137 rfl rfl ?_
      refine Rn.getA k_137 rfl rfl (s588 L) (hF.l 13 rfl) ?_
      refine Rn.aload_n k_137 rfl rfl ?_
      refine Rn.getA k_137 rfl rfl (s588 L) (hF.l 11 rfl) ?_
      refine Rn.iload_n k_137 rfl rfl ?_
      refine Rn.iaload (k) k_137 rfl (s589 L) (rfl) (by omega) (by decide) ?_
      refine Rn.caload ((ws.getD k (0, 0)).1) k_137 rfl (s20 L) (w1) (by omega) (by decide) ?_
      rw [t1]
      refine Rn.cS1I k_137 rfl rfl q_102 rfl (Nat.le_of_ble_eq_true rfl) (Nat.le_of_ble_eq_true rfl) (ct_isLetter (by omega)) ?_
      refine Rn.if_eq 33 k_137 rfl rfl (fun h3 => ?_) (fun h3 => ?_)
      · refine no (Or.inr ?_)
        unfold ncode
        rw [if_neg]
        intro z
        unfold okN at z
        rw [Bool.and_eq_true, e0, (bI_0 _).mp h3] at z
        cases z.2
      · have h3 : isL (x (ws.getD k (0, 0)).1) = true := by
          cases hz : isL (x (ws.getD k (0, 0)).1) with
          | true => rfl
          | false => exact absurd ((bI_0 _).mpr hz) h3
        refine Rn.iconst (1) k_137 rfl rfl ?_
        refine Rn.goto 34 k_137 rfl rfl ?_
        refine Rn.istore_n2 k_137 rfl rfl ?_
        refine Rn.iload_n k_137 rfl rfl ?_
        refine Rn.if_eq 47 k_137 rfl rfl (fun h4 => ?_) (fun h4 => ?_)
        · exact absurd h4 (by decide)
        · refine Rn.aload_n k_137 rfl rfl ?_
          refine Rn.iload_n k_137 rfl rfl ?_
          refine Rn.cV2L k_137 rfl rfl q_138 rfl (Nat.le_of_ble_eq_true rfl) (Nat.le_of_ble_eq_true rfl) (s588 L) (ct_value hF hT hW hw hk) ?_
          refine Rn.goto 48 k_137 rfl rfl ?_
          refine Rn.retl k_137 rfl q_137 rfl ?_
          refine ⟨?_, rfl⟩
          rw [if_pos hkl, if_pos hkl]
          unfold vcode ncode okN
          rw [e0, h3, Bool.and_true]
/-- a digit 1 to 9, or 0 -/
def wnum (x : Nat → Nat) (p : Nat × Nat) : Nat := if p.2 - p.1 = 1 ∧ 49 ≤ x p.1 ∧ x p.1 ≤ 57 then x p.1 - 48 else 0
theorem ct_number (hF : FRok F G fr) (hT : TXr fi x n) (hW : WDr fi ws) (hw : wok n ws) {k : Nat} (hk : k < 2 ^ 30) : Rn d 139 0 [some (.ref 588), some (.int (nI k)), none] [] (SH L, fi, fl, fr) (Ret (SH L, fi, fl, fr) (some (.int (nI (if k < ws.length then wnum x (ws.getD k (0, 0)) else 0))))) := by
  have hn := hT.2
  have hc := hw.2
  have no : (¬ k < ws.length ∨ wnum x (ws.getD k (0, 0)) = 0) → Rn d 139 29 [some (.ref 588), some (.int (nI k)), none] [] (SH L, fi, fl, fr) (Ret (SH L, fi, fl, fr) (some (.int (nI (if k < ws.length then wnum x (ws.getD k (0, 0)) else 0))))) := by
    intro z
    refine Rn.iconst (0) k_139 rfl rfl ?_
    refine Rn.reti k_139 rfl q_139 rfl (rfl) ?_
    refine ⟨?_, rfl⟩
    rcases z with z | z
    · rw [if_neg z]; rfl
    · rw [z]; split <;> rfl
  refine Rn.iload_n k_139 rfl rfl ?_
  refine Rn.if_lt 29 k_139 rfl rfl (fun h1 => ?_) (fun h1 => ?_)
  · exact absurd h1 (c_neg (by omega))
  · refine Rn.iload_n k_139 rfl rfl ?_
    refine Rn.aload_n k_139 rfl rfl ?_
    refine Rn.getI k_139 rfl rfl (s588 L) ?_
    rw [hW.1]
    refine Rn.icmp_ge 29 k_139 rfl rfl (fun h2 => ?_) (fun h2 => ?_)
    · rw [nI_leI (by omega) (by omega)] at h2
      exact no (Or.inl (by omega))
    · rw [nI_leI (by omega) (by omega)] at h2
      have hkl : k < ws.length := by omega
      obtain ⟨w1, w2⟩ := hW.2 k hkl
      obtain ⟨w3, w4⟩ := wok_at hw hkl
      rw [if_pos hkl]
      rw [if_pos hkl] at no
      unfold wnum
      unfold wnum at no
      generalize (ws.getD k (0, 0)).1 = s at w1 w3 no ⊢
      generalize (ws.getD k (0, 0)).2 = e at w2 w3 w4 no ⊢
      obtain ⟨t1, t2⟩ := hT.1 s (by omega)
      refine Rn.aload_n k_139 rfl rfl ?_
      refine Rn.getA k_139 rfl rfl (s588 L) (hF.l 12 rfl) ?_
      refine Rn.iload_n k_139 rfl rfl ?_
      refine Rn.iaload (k) k_139 rfl (s590 L) (rfl) (by omega) (by decide) ?_
      refine Rn.aload_n k_139 rfl rfl ?_
      refine Rn.getA k_139 rfl rfl (s588 L) (hF.l 11 rfl) ?_
      refine Rn.iload_n k_139 rfl rfl ?_
      refine Rn.iaload (k) k_139 rfl (s589 L) (rfl) (by omega) (by decide) ?_
      rw [w1, w2]
      refine Rn.isub k_139 rfl ?_
      rw [pk_sub (by omega)]
      refine Rn.iconst (1) k_139 rfl rfl ?_
      refine Rn.icmp_eq 31 k_139 rfl rfl (fun h3 => ?_) (fun h3 => ?_)
      · rw [c_eq 1 1 rfl (by omega) (by decide)] at h3
        refine Rn.aload_n k_139 rfl rfl ?_
        refine Rn.getA k_139 rfl rfl (s588 L) (hF.l 13 rfl) ?_
        refine Rn.aload_n k_139 rfl rfl ?_
        refine Rn.getA k_139 rfl rfl (s588 L) (hF.l 11 rfl) ?_
        refine Rn.iload_n k_139 rfl rfl ?_
        refine Rn.iaload (k) k_139 rfl (s589 L) (rfl) (by omega) (by decide) ?_
        refine Rn.caload (s) k_139 rfl (s20 L) (w1) (by omega) (by decide) ?_
        rw [t1]
        refine Rn.istore_n2 k_139 rfl rfl ?_
        refine Rn.iload_n k_139 rfl rfl ?_
        refine Rn.bipush (49) k_139 rfl rfl ?_
        refine Rn.icmp_lt 62 k_139 rfl rfl (fun h4 => ?_) (fun h4 => ?_)
        · rw [c_lt 49 49 rfl (by omega) (by decide)] at h4
          refine Rn.iconst (0) k_139 rfl rfl ?_
          refine Rn.reti k_139 rfl q_139 rfl (rfl) ?_
          exact ⟨by rw [if_neg (by omega)]; rfl, rfl⟩
        · rw [c_lt 49 49 rfl (by omega) (by decide)] at h4
          refine Rn.iload_n k_139 rfl rfl ?_
          refine Rn.bipush (57) k_139 rfl rfl ?_
          refine Rn.icmp_gt 62 k_139 rfl rfl (fun h5 => ?_) (fun h5 => ?_)
          · rw [c_gt 57 57 rfl (by omega) (by decide)] at h5
            refine Rn.iconst (0) k_139 rfl rfl ?_
            refine Rn.reti k_139 rfl q_139 rfl (rfl) ?_
            exact ⟨by rw [if_neg (by omega)]; rfl, rfl⟩
          · rw [c_gt 57 57 rfl (by omega) (by decide)] at h5
            refine Rn.iload_n k_139 rfl rfl ?_
            refine Rn.bipush (48) k_139 rfl rfl ?_
            refine Rn.isub k_139 rfl ?_
            refine Rn.goto 63 k_139 rfl rfl ?_
            rw [c_sub 48 48 rfl (by omega)]
            refine Rn.reti k_139 rfl q_139 rfl (rfl) ?_
            exact ⟨by rw [if_pos (by omega)], rfl⟩
      · have h3 : ¬ e - s = 1 := fun z => h3 ((c_eq 1 1 rfl (by omega) (by decide)).mpr z)
        exact no (Or.inr (by rw [if_neg (by omega)]))
theorem ct_isComment (hF : FRok F G fr) (hT : TXr fi x n) (hW : WDr fi ws) (hw : wok n ws) : Rn d 135 0 [some (.ref 588)] [] (SH L, fi, fl, fr) (Ret (SH L, fi, fl, fr) (some (.int (bI (decide (0 < ws.length) && decide (x (ws.getD 0 (0, 0)).1 = 35)))))) := by
  have hn := hT.2
  have hc := hw.2
  have no : (decide (0 < ws.length) && decide (x (ws.getD 0 (0, 0)).1 = 35)) = false → Rn d 135 27 [some (.ref 588)] [] (SH L, fi, fl, fr) (Ret (SH L, fi, fl, fr) (some (.int (bI (decide (0 < ws.length) && decide (x (ws.getD 0 (0, 0)).1 = 35)))))) := by
    intro z
    refine Rn.iconst (0) k_135 rfl rfl ?_
    refine Rn.reti k_135 rfl q_135 rfl (rfl) ?_
    exact ⟨by rw [z]; rfl, rfl⟩
  refine Rn.aload_n k_135 rfl rfl ?_
  refine Rn.getI k_135 rfl rfl (s588 L) ?_
  rw [hW.1]
  refine Rn.if_le 27 k_135 rfl rfl (fun h1 => ?_) (fun h1 => ?_)
  · rw [c_le 0 0 rfl (by omega) (by decide)] at h1
    exact no (by rw [decide_eq_false (show ¬ 0 < ws.length by omega)]; rfl)
  · rw [c_le 0 0 rfl (by omega) (by decide)] at h1
    have hkl : 0 < ws.length := by omega
    obtain ⟨w1, w2⟩ := hW.2 0 hkl
    obtain ⟨w3, w4⟩ := wok_at hw hkl
    obtain ⟨t1, t2⟩ := hT.1 _ (Nat.lt_of_lt_of_le w3 w4)
    refine Rn.aload_n k_135 rfl rfl ?_
    refine Rn.getA k_135 rfl rfl (s588 L) (hF.l 13 rfl) ?_
    refine Rn.aload_n k_135 rfl rfl ?_
    refine Rn.getA k_135 rfl rfl (s588 L) (hF.l 11 rfl) ?_
    refine Rn.iconst (0) k_135 rfl rfl ?_
    refine Rn.iaload (0) k_135 rfl (s589 L) (rfl) (by omega) (by decide) ?_
    refine Rn.caload ((ws.getD 0 (0, 0)).1) k_135 rfl (s20 L) (w1) (by omega) (by decide) ?_
    rw [t1]
    refine Rn.bipush (35) k_135 rfl rfl ?_
    refine Rn.icmp_ne 27 k_135 rfl rfl (fun h2 => ?_) (fun h2 => ?_)
    · have h2 : ¬ x (ws.getD 0 (0, 0)).1 = 35 := fun z => h2 ((c_eq 35 35 rfl (by omega) (by decide)).mpr z)
      exact no (by rw [decide_eq_false h2, Bool.and_false])
    · rw [c_eq 35 35 rfl (by omega) (by decide)] at h2
      refine Rn.iconst (1) k_135 rfl rfl ?_
      refine Rn.goto 28 k_135 rfl rfl ?_
      refine Rn.reti k_135 rfl q_135 rfl (rfl) ?_
      exact ⟨by rw [decide_eq_true hkl, decide_eq_true h2]; rfl, rfl⟩
theorem ct_beginWith (hF : FRok F G fr) (hT : TXr fi x n) (hW : WDr fi ws) (hw : wok n ws) (h0 : 0 < ws.length) {k : Nat} {w : List Nat} (hS : STr L fi fr k w) : Rn (d + 4) 136 0 [some (.ref 588), some (.ref k), none] [] (SH L, fi, fl, fr) (Ret (SH L, fi, fl, fr) (some (.int (bI (decide (wd x (ws.getD 0 (0, 0)) = w)))))) := by
  have hn := hT.2
  have hc := hw.2
  have hl := hS.2.2.2.2.2
  obtain ⟨w1, w2⟩ := hW.2 0 h0
  obtain ⟨w3, w4⟩ := wok_at hw h0
  unfold wd
  generalize (ws.getD 0 (0, 0)).1 = s at w1 w3 ⊢
  generalize (ws.getD 0 (0, 0)).2 = e at w2 w3 w4 ⊢
  refine Rn.aload_n k_136 rfl rfl ?_
  refine Rn.getI k_136 rfl rfl (s588 L) ?_
  rw [hW.1]
  refine Rn.if_eq 27 k_136 rfl rfl (fun h1 => ?_) (fun h1 => ?_)
  · exact absurd ((c_eq 0 0 rfl (by omega) (by decide)).mp h1) (by omega)
  · refine Rn.aload_n k_136 rfl rfl ?_
    refine Rn.getA k_136 rfl rfl (s588 L) (hF.l 12 rfl) ?_
    refine Rn.iconst (0) k_136 rfl rfl ?_
    refine Rn.iaload (0) k_136 rfl (s590 L) (rfl) (by omega) (by decide) ?_
    refine Rn.aload_n k_136 rfl rfl ?_
    refine Rn.getA k_136 rfl rfl (s588 L) (hF.l 11 rfl) ?_
    refine Rn.iconst (0) k_136 rfl rfl ?_
    refine Rn.iaload (0) k_136 rfl (s589 L) (rfl) (by omega) (by decide) ?_
    rw [w1, w2]
    refine Rn.isub k_136 rfl ?_
    rw [pk_sub (by omega)]
    refine Rn.aload_n k_136 rfl rfl ?_
    refine Rn.cV1I k_136 rfl rfl q_140 rfl (Nat.le_of_ble_eq_true rfl) (Nat.le_of_ble_eq_true rfl) hS.1 (ct_strlen hS) ?_
    refine Rn.icmp_eq 29 k_136 rfl rfl (fun h2 => ?_) (fun h2 => ?_)
    · rw [nI_eq (by omega) (by omega)] at h2
      have loop : ∀ (q i : Nat), i + q = w.length → (∀ j, j < i → x (s + j) = w.getD j 0) → Rn (d + 4) 136 31 [some (.ref 588), some (.ref k), some (.int (nI i))] [] (SH L, fi, fl, fr) (Ret (SH L, fi, fl, fr) (some (.int (bI (decide (sl x s e = w)))))) := by
        intro q
        induction q with
        | zero =>
          intro i hi hj
          refine Rn.iload_n k_136 rfl rfl ?_
          refine Rn.aload_n k_136 rfl rfl ?_
          refine Rn.cV1I k_136 rfl rfl q_140 rfl (Nat.le_of_ble_eq_true rfl) (Nat.le_of_ble_eq_true rfl) hS.1 (ct_strlen hS) ?_
          refine Rn.icmp_ge 68 k_136 rfl rfl (fun h3 => ?_) (fun h3 => ?_)
          · refine Rn.iconst (1) k_136 rfl rfl ?_
            refine Rn.reti k_136 rfl q_136 rfl (rfl) ?_
            refine ⟨?_, rfl⟩
            have : sl x s e = w := by
              apply List.ext_getElem
              · rw [sl_len, h2]
              · intro j j1 j2
                have := hj j (by omega)
                rw [sl_len] at j1
                have a1 := sl_at (x := x) (s := s) (e := e) j1
                rw [List.getD_eq_getElem?_getD, List.getElem?_eq_getElem (by rw [sl_len]; exact j1)] at a1
                rw [List.getD_eq_getElem?_getD, List.getElem?_eq_getElem j2] at this
                exact a1.trans this
            rw [decide_eq_true this]
            rfl
          · exact absurd ((nI_leI (by omega) (by omega)).mpr (by omega)) h3
        | succ q ih =>
          intro i hi hj
          obtain ⟨t1, t2⟩ := hT.1 (s + i) (by omega)
          obtain ⟨u1, u2⟩ := hS.2.2.2.2.1 i (by omega)
          refine Rn.iload_n k_136 rfl rfl ?_
          refine Rn.aload_n k_136 rfl rfl ?_
          refine Rn.cV1I k_136 rfl rfl q_140 rfl (Nat.le_of_ble_eq_true rfl) (Nat.le_of_ble_eq_true rfl) hS.1 (ct_strlen hS) ?_
          refine Rn.icmp_ge 68 k_136 rfl rfl (fun h3 => ?_) (fun h3 => ?_)
          · exact absurd ((nI_leI (by omega) (by omega)).mp h3) (by omega)
          · refine Rn.aload_n k_136 rfl rfl ?_
            refine Rn.getA k_136 rfl rfl (s588 L) (hF.l 13 rfl) ?_
            refine Rn.aload_n k_136 rfl rfl ?_
            refine Rn.getA k_136 rfl rfl (s588 L) (hF.l 11 rfl) ?_
            refine Rn.iconst (0) k_136 rfl rfl ?_
            refine Rn.iaload (0) k_136 rfl (s589 L) (rfl) (by omega) (by decide) ?_
            refine Rn.iload_n k_136 rfl rfl ?_
            rw [w1]
            refine Rn.iadd k_136 rfl ?_
            rw [nI_add]
            refine Rn.caload (s + i) k_136 rfl (s20 L) (rfl) (by omega) (by decide) ?_
            rw [t1]
            refine Rn.aload_n k_136 rfl rfl ?_
            refine Rn.iload_n k_136 rfl rfl ?_
            refine Rn.cV2I k_136 rfl rfl q_142 rfl (Nat.le_of_ble_eq_true rfl) (Nat.le_of_ble_eq_true rfl) hS.1 (ct_charAt hS (by omega)) ?_
            refine Rn.icmp_eq 62 k_136 rfl rfl (fun h4 => ?_) (fun h4 => ?_)
            · rw [nI_eq (by omega) (by omega)] at h4
              refine Rn.iinc2 (1) k_136 rfl rfl rfl ?_
              rw [c_add 1 1 rfl]
              refine Rn.goto 31 k_136 rfl rfl ?_
              refine ih (i + 1) (by omega) (fun j hji => ?_)
              by_cases e1 : j = i
              · rw [e1]; exact h4
              · exact hj j (by omega)
            · have h4 : ¬ x (s + i) = w.getD i 0 := fun z => h4 (by rw [z])
              refine Rn.iconst (0) k_136 rfl rfl ?_
              refine Rn.reti k_136 rfl q_136 rfl (rfl) ?_
              refine ⟨?_, rfl⟩
              rw [decide_eq_false]
              · rfl
              · intro z
                apply h4
                rw [← z, sl_at (by omega)]
      refine Rn.iconst (0) k_136 rfl rfl ?_
      refine Rn.istore_n2 k_136 rfl rfl ?_
      exact loop w.length 0 (Nat.zero_add _) (fun j hj => absurd hj (Nat.not_lt_zero j))
    · have h2 : ¬ e - s = w.length := fun z => h2 (by rw [z])
      refine Rn.iconst (0) k_136 rfl rfl ?_
      refine Rn.reti k_136 rfl q_136 rfl (rfl) ?_
      refine ⟨?_, rfl⟩
      rw [decide_eq_false]
      · rfl
      · intro z
        apply h2
        rw [← z, sl_len]
end WD
