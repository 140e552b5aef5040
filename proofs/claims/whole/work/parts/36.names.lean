/-! TestName: the name of a test -/
def pseg (ps : List (Nm × List Nm)) (w p : Nat) : List Nat := (if p = 0 then 91 else 44) :: ((ps.getD p ([], [])).1 ++ 61 :: vsel ps w p)
def psegs (ps : List (Nm × List Nm)) (w : Nat) : Nat → List Nat
  | 0 => []
  | p + 1 => psegs ps w p ++ pseg ps w p
/-- the name of the test that is way w of the case k -/
def tnm (ss : List (Nm × List Nm)) (k : KS) (w : Nat) : List Nat := (if k_su k = 0 then [] else snm ss (k_su k) ++ [46]) ++ k_nm k ++ psegs (k_ps k) w (k_ps k).length ++ (if (k_ps k).length = 0 then [] else [93])
/-- the written name -/
def NMr (fi : Nat → Nat → Int32) (U : List Nat) : Prop := fi 597 1 = nI U.length ∧ ∀ k, k < U.length → fi 598 k = nI (U.getD k 0)
def nmF (a : Nat) : Prop := a ≠ 597 ∧ a ≠ 598
theorem NMr.add {fi : Nat → Nat → Int32} {T : List Nat} (h : NMr fi T) (c : Nat) : NMr (up2 (up2 fi 598 T.length (nI c)) 597 1 (nI (T.length + 1))) (T ++ [c]) := by
  refine ⟨by rw [up2_same, List.length_append]; rfl, fun k hk => ?_⟩
  rw [List.length_append] at hk
  have hk : k < T.length + 1 := hk
  rw [up2_row _ _ (by decide)]
  by_cases e : k = T.length
  · subst e
    rw [up2_same, List.getD_eq_getElem?_getD, List.getElem?_append_right (Nat.le_refl _), Nat.sub_self]
    rfl
  · rw [up2_col _ _ e, List.getD_eq_getElem?_getD, List.getElem?_append_left (by omega), ← List.getD_eq_getElem?_getD]
    exact h.2 k (by omega)
def namQ (L : Nat) (fi : Nat → Nat → Int32) (fl : Nat → Nat → Int64) (fr : Nat → Nat → Option Nat) (U : List Nat) : Option Value → am_H → Prop := fun v h' => v = none ∧ ∃ fi', h' = (SH L, fi', fl, fr) ∧ NMr fi' U ∧ ∀ a k, nmF a → fi' a k = fi a k
theorem getD_appL {l m : List Nat} {k : Nat} (h : k < l.length) : (l ++ m).getD k 0 = l.getD k 0 := by
  rw [List.getD_eq_getElem?_getD, List.getElem?_append_left h, ← List.getD_eq_getElem?_getD]
theorem getD_appR {l m : List Nat} {k : Nat} (h : l.length ≤ k) : (l ++ m).getD k 0 = m.getD (k - l.length) 0 := by
  rw [List.getD_eq_getElem?_getD, List.getElem?_append_right h, ← List.getD_eq_getElem?_getD]
theorem i_m1 (x : Int32) : x + (-1) = x - 1 := (Int32.sub_eq_add_neg x 1).symm
section NM
variable {d L : Nat} {fi : Nat → Nat → Int32} {fl : Nat → Nat → Int64} {fr : Nat → Nat → Option Nat} {F G : Nat}
theorem ct_addMark (hF : FRok F G fr) {U : List Nat} (hU : NMr fi U) (hl : U.length < 130) {c : Nat} (hc : c < 65536) : Rn d 129 0 [some (.ref 597), some (.int (nI c))] [] (SH L, fi, fl, fr) (namQ L fi fl fr (U ++ [c])) := by
  refine Rn.aload_n k_129 rfl rfl ?_
  refine Rn.getI k_129 rfl rfl (s597 L) ?_
  rw [hU.1]
  refine Rn.aload_n k_129 rfl rfl ?_
  refine Rn.getA k_129 rfl rfl (s597 L) (hF.l 23 rfl) ?_
  refine Rn.alen k_129 rfl (s598 L) rfl (by decide) ?_
  refine Rn.icmp_ge 32 k_129 rfl rfl (fun h1 => ?_) (fun h1 => ?_)
  · rw [nI_leI (by omega) (by omega)] at h1
    omega
  · refine Rn.aload_n k_129 rfl rfl ?_
    refine Rn.getA k_129 rfl rfl (s597 L) (hF.l 23 rfl) ?_
    refine Rn.aload_n k_129 rfl rfl ?_
    refine Rn.getI k_129 rfl rfl (s597 L) ?_
    refine Rn.iload_n k_129 rfl rfl ?_
    refine Rn.castore (U.length) k_129 rfl (s598 L) (hU.1) (by omega) (by decide) (fit_c hc) ?_
    refine Rn.aload_n k_129 rfl rfl ?_
    refine Rn.dupa k_129 rfl ?_
    refine Rn.getI k_129 rfl rfl (s597 L) ?_
    rw [show up2 fi 598 U.length (nI c) 597 1 = nI U.length from hU.1]
    refine Rn.iconst (1) k_129 rfl rfl ?_
    refine Rn.iadd k_129 rfl ?_
    rw [c_add 1 1 rfl]
    refine Rn.putI k_129 rfl (rfl) (s597 L) ?_
    refine Rn.retv k_129 rfl q_129 rfl ?_
    exact ⟨rfl, _, rfl, hU.add c, fun a k ha => by rw [up2_row _ _ ha.1, up2_row _ _ ha.2]⟩
theorem ct_addName (hF : FRok F G fr) {U : List Nat} (hU : NMr fi U) {w : Nm} (hw : okV w = true) (hl : U.length + w.length ≤ 130) : Rn (d + 1) 130 0 [some (.ref 597), some (.long (lN (enc w))), none, none, none, none, none] [] (SH L, fi, fl, fr) (namQ L fi fl fr (U ++ w)) := by
  have hwl := okV_len hw
  have hwn := okV_isN hw
  have h63 := enc_lt63 hwl
  have hdl := dlen_enc 12 w hwl hwn
  have h38 : enc w < 38 ^ 12 := Nat.lt_of_lt_of_le (enc_lt w) (Nat.pow_le_pow_right (by decide) hwl)
  refine Rn.lload_n k_130 rfl rfl ?_
  refine Rn.cS1I k_130 rfl rfl q_104 rfl (Nat.le_of_ble_eq_true rfl) (Nat.le_of_ble_eq_true rfl) (ct_length h63 (by rw [hdl]; omega) h38) ?_
  refine Rn.istore_n3 k_130 rfl rfl ?_
  refine Rn.iload_n k_130 rfl rfl ?_
  refine Rn.aload_n k_130 rfl rfl ?_
  refine Rn.getA k_130 rfl rfl (s597 L) (hF.l 23 rfl) ?_
  refine Rn.alen k_130 rfl (s598 L) rfl (by decide) ?_
  refine Rn.aload_n k_130 rfl rfl ?_
  refine Rn.getI k_130 rfl rfl (s597 L) ?_
  rw [hdl, hU.1]
  refine Rn.isub k_130 rfl ?_
  rw [pk_sub (by omega)]
  refine Rn.icmp_le 20 k_130 rfl rfl (fun h1 => ?_) (fun h1 => ?_)
  · refine Rn.lload_n k_130 rfl rfl ?_
    refine Rn.lstore4 k_130 rfl rfl ?_
    refine Rn.aload_n k_130 rfl rfl ?_
    refine Rn.getI k_130 rfl rfl (s597 L) ?_
    refine Rn.iload_n k_130 rfl rfl ?_
    rw [hU.1]
    refine Rn.iadd k_130 rfl ?_
    rw [nI_add]
    refine Rn.iconst (1) k_130 rfl rfl ?_
    refine Rn.isub k_130 rfl ?_
    have loop : ∀ (m : Nat) (v : Nm), v.length = m → (∃ u, w = v ++ u) → ∀ (gi : Nat → Nat → Int32), gi 597 1 = nI U.length → (∀ k, k < U.length → gi 598 k = nI (U.getD k 0)) → (∀ k, v.length ≤ k → k < w.length → gi 598 (U.length + k) = nI (w.getD k 0)) → (∀ a k, nmF a → gi a k = fi a k) → Rn (d + 1) 130 33 [some (.ref 597), some (.long (lN (enc w))), none, some (.int (nI w.length)), some (.long (lN (enc v))), none, some (.int (nI (U.length + v.length) - 1))] [] (SH L, gi, fl, fr) (namQ L fi fl fr (U ++ w)) := by
      intro m
      induction m with
      | zero =>
        intro v hv hvu gi g0 g1 g2 g3
        have : v = [] := List.eq_nil_of_length_eq_zero hv
        subst this
        refine Rn.iload k_130 rfl rfl ?_
        refine Rn.aload_n k_130 rfl rfl ?_
        refine Rn.getI k_130 rfl rfl (s597 L) ?_
        rw [g0]
        refine Rn.icmp_lt 68 k_130 rfl rfl (fun h2 => ?_) (fun h2 => ?_)
        · refine Rn.aload_n k_130 rfl rfl ?_
          refine Rn.dupa k_130 rfl ?_
          refine Rn.getI k_130 rfl rfl (s597 L) ?_
          rw [g0]
          refine Rn.iload_n k_130 rfl rfl ?_
          refine Rn.iadd k_130 rfl ?_
          rw [nI_add]
          refine Rn.putI k_130 rfl (rfl) (s597 L) ?_
          refine Rn.retv k_130 rfl q_130 rfl ?_
          refine ⟨rfl, _, rfl, ⟨by rw [up2_same, List.length_append], fun k hk => ?_⟩, fun a k ha => by rw [up2_row _ _ ha.1]; exact g3 a k ha⟩
          rw [up2_row _ _ (by decide)]
          rw [List.length_append] at hk
          by_cases e : k < U.length
          · rw [getD_appL e]; exact g1 k e
          · rw [getD_appR (by omega)]
            have := g2 (k - U.length) (Nat.zero_le _) (by omega)
            rw [show U.length + (k - U.length) = k by omega] at this
            exact this
        · refine absurd ?_ h2
          rw [List.length_nil, Nat.add_zero]
          cases hz : U.length with
          | zero => decide
          | succ q =>
            rw [show nI (q + 1) - 1 = nI q from nI_pred q]
            exact (nI_ltI (by omega) (by omega)).mpr (by omega)
      | succ m ih =>
        intro v hv hvu gi g0 g1 g2 g3
        obtain ⟨u, hu⟩ := hvu
        have hwv : w.length = v.length + u.length := by rw [hu, List.length_append]
        have hne : v ≠ [] := fun z => by rw [z] at hv; cases hv
        have hvd := List.dropLast_concat_getLast hne
        have hvl : v.dropLast.length = m := by rw [List.length_dropLast]; omega
        generalize v.dropLast = v' at hvd hvl
        generalize v.getLast hne = c at hvd
        subst hvd
        have hvN : ∀ y ∈ v' ++ [c], isN y = true := fun y hy => hwn y (by rw [hu]; exact List.mem_append.mpr (Or.inl hy))
        have hcN : isN c = true := hvN c (by simp)
        have henc : enc (v' ++ [c]) < 2 ^ 63 := enc_lt63 (by omega)
        have hap : (v' ++ [c]).length = v'.length + 1 := by rw [List.length_append]; rfl
        have hdg := dg_lt c
        have hcc : c < 128 := by
          have := chr_dg hcN
          unfold chr at this
          split at this
          · omega
          · split at this <;> omega
        rw [hap, show nI (U.length + (v'.length + 1)) - 1 = nI (U.length + v'.length) from nI_pred _]
        refine Rn.iload k_130 rfl rfl ?_
        refine Rn.aload_n k_130 rfl rfl ?_
        refine Rn.getI k_130 rfl rfl (s597 L) ?_
        rw [g0]
        refine Rn.icmp_lt 68 k_130 rfl rfl (fun h2 => ?_) (fun h2 => ?_)
        · rw [nI_ltI (by omega) (by omega)] at h2
          omega
        · refine Rn.aload_n k_130 rfl rfl ?_
          refine Rn.getA k_130 rfl rfl (s597 L) (hF.l 23 rfl) ?_
          refine Rn.iload k_130 rfl rfl ?_
          refine Rn.lload k_130 rfl rfl ?_
          refine Rn.cS1I k_130 rfl rfl q_105 rfl (Nat.le_of_ble_eq_true rfl) (Nat.le_of_ble_eq_true rfl) (ct_lastCharacter henc) ?_
          rw [enc_app, show (enc v' * 38 + dg c) % 38 = dg c by omega, chr_dg hcN]
          refine Rn.castore (U.length + v'.length) k_130 rfl (s598 L) (rfl) (by omega) (by decide) (fit_c (by omega)) ?_
          refine Rn.lload k_130 rfl rfl ?_
          refine Rn.ldc2 38 k_130 rfl rfl ?_
          refine Rn.ldiv k_130 rfl (by decide) ?_
          rw [← enc_app, show (38 : Int64) = lN 38 from rfl, pk_lDiv henc (by decide) (by decide), enc_app, show (enc v' * 38 + dg c) / 38 = enc v' by omega]
          refine Rn.lstore4 k_130 rfl rfl ?_
          refine Rn.iinc6 (-1) k_130 rfl rfl rfl ?_
          refine Rn.goto 33 k_130 rfl rfl ?_
          rw [i_m1]
          refine ih v' hvl ⟨c :: u, by rw [hu, List.append_assoc]; rfl⟩ _ g0 (fun k hk => ?_) (fun k hk1 hk2 => ?_) (fun a k ha => ?_)
          · rw [up2_col _ _ (by omega)]; exact g1 k hk
          · by_cases e : k = v'.length
            · subst e
              rw [up2_same, hu, List.append_assoc, getD_appR (Nat.le_refl _), Nat.sub_self]
              rfl
            · rw [up2_col _ _ (by omega)]
              exact g2 k (by omega) hk2
          · rw [up2_row _ _ ha.2]; exact g3 a k ha
    refine Rn.istore6 k_130 rfl rfl ?_
    exact loop w.length w rfl ⟨[], by simp⟩ fi hU.1 hU.2 (fun k h1 h2 => by omega) (fun _ _ _ => rfl)
  · rw [nI_leI (by omega) (by omega)] at h1
    omega
end NM
