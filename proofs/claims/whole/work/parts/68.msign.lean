/-! THE REFERENCE: sign, readFilter -/
def sgQ (L : Nat) (fi : Nat → Nat → Int32) (fl : Nat → Nat → Int64) (fr : Nat → Nat → Option Nat) (y : Nat → Nat) (n q : Nat) (D : List FS × List Nat) (o : Nat) : Option Value → am_H → Prop := fun v h' => ∃ fi', h' = (SH L, fi', fl, fr) ∧ (∀ a k, fF a k → fi' a k = fi a k) ∧
  ((v = some (.int 0) ∧ q = n ∧ D.2 = [] ∧ fi' 604 55 = -1 ∧ MMd fi' y n D.1) ∨
   (v = some (.int 0) ∧ q = n ∧ D.2 ≠ [] ∧ fi' 604 55 = nI n) ∨
   (v = some (.int 1) ∧ q < n ∧ (lok y n q = 38 ∨ lok y n q = 124) ∧ MZ fi' y n (q + 1) D.1 (lok y n q :: D.2) o) ∨
   (v = some (.int 0) ∧ q < n ∧ ¬ (lok y n q = 38 ∨ lok y n q = 124) ∧ (∀ π', D.2 = 40 :: π' → lok y n q ≠ 41) ∧ fi' 604 55 = nI q) ∨
   (v = some (.int 2) ∧ q < n ∧ ¬ (lok y n q = 38 ∨ lok y n q = 124) ∧ ∃ π', D.2 = 40 :: π' ∧ lok y n q = 41 ∧ MZ fi' y n (q + 1) (turn π' D.1 (o - 1)).1 (turn π' D.1 (o - 1)).2.1 (turn π' D.1 (o - 1)).2.2))
section MG
variable {d L : Nat} {fi : Nat → Nat → Int32} {fl : Nat → Nat → Int64} {fr : Nat → Nat → Option Nat} {F G : Nat} {y : Nat → Nat} {n p o : Nat} {S : List FS} {π : List Nat}
set_option maxHeartbeats 2000000 in
theorem cm_sign (hF : FRok F G fr) (h : MZ fi y n p S π o) (hb : S.length + π.length ≤ p) (hco : co π = o) (ho : o ≤ 12) : Rn (d + 3) 62 0 [some (.ref 604), none] [] (SH L, fi, fl, fr) (sgQ L fi fl fr y n (skip y n p) (drp (lok y n (skip y n p)) π S) o) := by
  have hn := h.1.2.2.2.1
  have hpn := h.1.2.2.2.2
  have hge := skip_ge y n p
  have hqn := skip_le y hpn
  have h128 := lok_128 h.1
  refine Rn.aload_n k_62 rfl rfl ?_
  refine Rn.cV1M k_62 rfl rfl q_50 rfl (Nat.le_of_ble_eq_true rfl) (Nat.le_of_ble_eq_true rfl) (s604 L) (cm_blanks hF h.1) ?_
  generalize skip y n p = q at hge hqn ⊢
  have hz := h.at hqn
  have kq : ∀ a k, fF a k → up2 fi 604 54 (nI q) a k = fi a k := fun a k ha => fF_col (by omega) ha
  generalize up2 fi 604 54 (nI q) = f0 at hz kq ⊢
  have hlk := h128 q
  refine Rn.aload_n k_62 rfl rfl ?_
  refine Rn.cV1I k_62 rfl rfl q_49 rfl (Nat.le_of_ble_eq_true rfl) (Nat.le_of_ble_eq_true rfl) (s604 L) (cm_look hF hz.1) ?_
  refine Rn.istore_n1 k_62 rfl rfl ?_
  -- behind the loop
  have aft : ∀ (τ : List Nat) (T : List FS) (f1 : Nat → Nat → Int32), MZ f1 y n q T τ o → T.length + τ.length ≤ q → co τ = o → (∀ a k, fF a k → f1 a k = fi a k) → drp (lok y n q) π S = (T, τ) → Rn (d + 3) 62 40 [some (.ref 604), some (.int (nI (lok y n q)))] [] (SH L, f1, fl, fr) (sgQ L fi fl fr y n q (drp (lok y n q) π S) o) := by
    intro τ T f1 hz hb hco k1 e
    rw [e]
    obtain ⟨hR, hi, hM, h56, hP⟩ := hz
    refine Rn.aload_n k_62 rfl rfl ?_
    refine Rn.getI k_62 rfl rfl (s604 L) ?_
    refine Rn.aload_n k_62 rfl rfl ?_
    refine Rn.getI k_62 rfl rfl (s604 L) ?_
    rw [hR.2.1, hR.2.2.1]
    refine Rn.icmp_ne 64 k_62 rfl rfl (fun h4 => ?_) (fun h4 => ?_)
    · rw [nI_eq (by omega) (by omega)] at h4
      have hql : q < n := by omega
      have bad : ¬ (lok y n q = 38 ∨ lok y n q = 124) → (∀ π', τ = 40 :: π' → lok y n q ≠ 41) → Rn (d + 3) 62 123 [some (.ref 604), some (.int (nI (lok y n q)))] [] (SH L, f1, fl, fr) (sgQ L fi fl fr y n q (T, τ) o) := by
        intro z1 z2
        refine Rn.aload_n k_62 rfl rfl ?_
        refine Rn.cV1M k_62 rfl rfl q_51 rfl (Nat.le_of_ble_eq_true rfl) (Nat.le_of_ble_eq_true rfl) (s604 L) (cm_fail hF hi hR.2.2.1) ?_
        refine Rn.iconst (0) k_62 rfl rfl ?_
        refine Rn.reti k_62 rfl q_62 rfl (rfl) ?_
        exact ⟨_, rfl, fun a k ha => (fF_col (by omega) ha).trans (k1 a k ha), Or.inr (Or.inr (Or.inr (Or.inl ⟨rfl, hql, z1, z2, up2_same _ _ _ _⟩)))⟩
      have bin : (lok y n q = 38 ∨ lok y n q = 124) → Rn (d + 3) 62 76 [some (.ref 604), some (.int (nI (lok y n q)))] [] (SH L, f1, fl, fr) (sgQ L fi fl fr y n q (T, τ) o) := by
        intro hc
        refine Rn.aload_n k_62 rfl rfl ?_
        refine Rn.getA k_62 rfl rfl (s604 L) (hF.l 70 rfl) ?_
        refine Rn.aload_n k_62 rfl rfl ?_
        refine Rn.getI k_62 rfl rfl (s604 L) ?_
        refine Rn.iload_n k_62 rfl rfl ?_
        refine Rn.iastore (τ.length) k_62 rfl (s646 L) (hP.1) (by omega) (by decide) (rfl) ?_
        refine Rn.aload_n k_62 rfl rfl ?_
        refine Rn.dupa k_62 rfl ?_
        refine Rn.getI k_62 rfl rfl (s604 L) ?_
        rw [show up2 f1 646 τ.length (nI (lok y n q)) 604 57 = nI τ.length from hP.1]
        refine Rn.iconst (1) k_62 rfl rfl ?_
        refine Rn.iadd k_62 rfl ?_
        rw [c_add 1 1 rfl]
        refine Rn.putI k_62 rfl (rfl) (s604 L) ?_
        refine Rn.aload_n k_62 rfl rfl ?_
        refine Rn.dupa k_62 rfl ?_
        refine Rn.getI k_62 rfl rfl (s604 L) ?_
        rw [show up2 (up2 f1 646 τ.length (nI (lok y n q))) 604 57 (nI (τ.length + 1)) 604 54 = nI q from hR.2.2.1]
        refine Rn.iconst (1) k_62 rfl rfl ?_
        refine Rn.iadd k_62 rfl ?_
        rw [c_add 1 1 rfl]
        refine Rn.putI k_62 rfl (rfl) (s604 L) ?_
        refine Rn.iconst (1) k_62 rfl rfl ?_
        refine Rn.reti k_62 rfl q_62 rfl (rfl) ?_
        refine ⟨_, rfl, fun a k ha => ?_, Or.inr (Or.inr (Or.inl ⟨rfl, hql, hc, ?_, hi, ?_, h56, ?_⟩))⟩
        · rw [fF_col (by omega) ha, fF_col (by omega) ha, fF_row (by omega) ha]; exact k1 a k ha
        · exact hR.keep (fun k => rfl) rfl rfl (by omega)
        · exact hM.keep rfl (fun a j z1 z2 => by rw [up2_row _ _ (by omega), up2_row _ _ (by omega), up2_row _ _ (by omega)])
        · refine hP.push hlk rfl ?_ (fun j hj => ?_)
          · rw [up2_row _ _ (by omega), up2_row _ _ (by omega), up2_same]
          · rw [up2_row _ _ (by omega), up2_row _ _ (by omega), up2_col _ _ (by omega)]
      refine Rn.iload_n k_62 rfl rfl ?_
      refine Rn.bipush (38) k_62 rfl rfl ?_
      refine Rn.icmp_eq 76 k_62 rfl rfl (fun h6 => ?_) (fun h6 => ?_)
      · rw [c_eq 38 38 rfl (by omega) (by decide)] at h6
        exact bin (Or.inl h6)
      · rw [c_eq 38 38 rfl (by omega) (by decide)] at h6
        refine Rn.iload_n k_62 rfl rfl ?_
        refine Rn.bipush (124) k_62 rfl rfl ?_
        refine Rn.icmp_ne 108 k_62 rfl rfl (fun h7 => ?_) (fun h7 => ?_)
        · rw [c_eq 124 124 rfl (by omega) (by decide)] at h7
          have hno : ¬ (lok y n q = 38 ∨ lok y n q = 124) := by omega
          refine Rn.iload_n k_62 rfl rfl ?_
          refine Rn.bipush (41) k_62 rfl rfl ?_
          refine Rn.icmp_ne 123 k_62 rfl rfl (fun h8 => ?_) (fun h8 => ?_)
          · rw [c_eq 41 41 rfl (by omega) (by decide)] at h8
            exact bad hno (fun _ _ => h8)
          · rw [c_eq 41 41 rfl (by omega) (by decide)] at h8
            refine Rn.aload_n k_62 rfl rfl ?_
            refine Rn.cV1I k_62 rfl rfl q_59 rfl (Nat.le_of_ble_eq_true rfl) (Nat.le_of_ble_eq_true rfl) (s604 L) (cm_top hF hP (by omega)) ?_
            refine Rn.bipush (40) k_62 rfl rfl ?_
            have hhd : τ.headD 0 < 128 := by
              cases τ with
              | nil => decide
              | cons c τ => exact hP.top.2
            refine Rn.icmp_eq 129 k_62 rfl rfl (fun h9 => ?_) (fun h9 => ?_)
            · rw [c_eq 40 40 rfl (by omega) (by decide)] at h9
              match τ, h9, hb, hco, hP, e, bad, bin with
              | [], h9, _, _, _, _, _, _ => exact absurd h9 (by decide)
              | c :: τ, h9, hb, hco, hP, e, bad, bin =>
                have h9 : c = 40 := h9
                subst h9
                rw [List.length_cons] at hb
                have hc1 : co (40 :: τ) = 1 + co τ := rfl
                refine Rn.aload_n k_62 rfl rfl ?_
                refine Rn.dupa k_62 rfl ?_
                refine Rn.getI k_62 rfl rfl (s604 L) ?_
                rw [hP.1, List.length_cons]
                refine Rn.iconst (1) k_62 rfl rfl ?_
                refine Rn.isub k_62 rfl ?_
                rw [c_sub 1 1 rfl (by omega), Nat.add_sub_cancel]
                refine Rn.putI k_62 rfl (rfl) (s604 L) ?_
                refine Rn.aload_n k_62 rfl rfl ?_
                refine Rn.dupa k_62 rfl ?_
                refine Rn.getI k_62 rfl rfl (s604 L) ?_
                rw [show up2 f1 604 57 (nI τ.length) 604 56 = nI o from h56]
                refine Rn.iconst (1) k_62 rfl rfl ?_
                refine Rn.isub k_62 rfl ?_
                rw [c_sub 1 1 rfl (by omega)]
                refine Rn.putI k_62 rfl (rfl) (s604 L) ?_
                refine Rn.aload_n k_62 rfl rfl ?_
                refine Rn.dupa k_62 rfl ?_
                refine Rn.getI k_62 rfl rfl (s604 L) ?_
                rw [show up2 (up2 f1 604 57 (nI τ.length)) 604 56 (nI (o - 1)) 604 54 = nI q from hR.2.2.1]
                refine Rn.iconst (1) k_62 rfl rfl ?_
                refine Rn.iadd k_62 rfl ?_
                rw [c_add 1 1 rfl]
                refine Rn.putI k_62 rfl (rfl) (s604 L) ?_
                refine Rn.aload_n k_62 rfl rfl ?_
                have hz3 : MZ (up2 (up2 (up2 f1 604 57 (nI τ.length)) 604 56 (nI (o - 1))) 604 54 (nI (q + 1))) y n (q + 1) T τ (o - 1) := by
                  refine ⟨hR.keep (fun k => rfl) rfl rfl (by omega), hi, hM.keep rfl (fun a j z1 z2 => ?_), rfl, hP.pop rfl (fun j => ?_)⟩
                  · rw [up2_row _ _ (by omega), up2_row _ _ (by omega), up2_row _ _ (by omega)]
                  · rw [up2_row _ _ (by omega), up2_row _ _ (by omega), up2_row _ _ (by omega)]
                refine Rn.cV1 k_62 rfl rfl q_61 rfl (Nat.le_of_ble_eq_true rfl) (Nat.le_of_ble_eq_true rfl) (s604 L) (cm_turnRound hF τ _ T (o - 1) hz3 (by omega) (by omega) (by omega)) (fun v h' hq => ?_)
                obtain ⟨rfl, f2, rfl, k2, hz4⟩ := hq
                show Rn _ _ _ _ [] _ _
                refine Rn.iconst (2) k_62 rfl rfl ?_
                refine Rn.reti k_62 rfl q_62 rfl (rfl) ?_
                refine ⟨f2, rfl, fun a k ha => ?_, Or.inr (Or.inr (Or.inr (Or.inr ⟨rfl, hql, hno, τ, rfl, h8, hz4⟩)))⟩
                rw [k2 a k ha, fF_col (by omega) ha, fF_col (by omega) ha, fF_col (by omega) ha]
                exact k1 a k ha
            · rw [c_eq 40 40 rfl (by omega) (by decide)] at h9
              refine bad hno (fun π' e1 _ => h9 ?_)
              rw [e1]
              rfl
        · rw [c_eq 124 124 rfl (by omega) (by decide)] at h7
          exact bin (Or.inr h7)
    · rw [nI_eq (by omega) (by omega)] at h4
      refine Rn.aload_n k_62 rfl rfl ?_
      refine Rn.getI k_62 rfl rfl (s604 L) ?_
      rw [hP.1]
      refine Rn.if_le 62 k_62 rfl rfl (fun h5 => ?_) (fun h5 => ?_)
      · rw [c_le 0 0 rfl (by omega) (by decide)] at h5
        have : τ = [] := List.eq_nil_of_length_eq_zero (by omega)
        subst this
        refine Rn.iconst (0) k_62 rfl rfl ?_
        refine Rn.reti k_62 rfl q_62 rfl (rfl) ?_
        exact ⟨f1, rfl, k1, Or.inl ⟨rfl, h4, rfl, hi, hM⟩⟩
      · rw [c_le 0 0 rfl (by omega) (by decide)] at h5
        refine Rn.aload_n k_62 rfl rfl ?_
        refine Rn.cV1M k_62 rfl rfl q_51 rfl (Nat.le_of_ble_eq_true rfl) (Nat.le_of_ble_eq_true rfl) (s604 L) (cm_fail hF hi hR.2.2.1) ?_
        refine Rn.iconst (0) k_62 rfl rfl ?_
        refine Rn.reti k_62 rfl q_62 rfl (rfl) ?_
        refine ⟨_, rfl, fun a k ha => (fF_col (by omega) ha).trans (k1 a k ha), Or.inr (Or.inl ⟨rfl, h4, fun z => ?_, ?_⟩)⟩
        · have z : τ = [] := z
          rw [z] at h5
          exact h5 (Nat.le_refl _)
        · rw [up2_same, h4]
  have loop : ∀ (τ : List Nat) (T : List FS) (f1 : Nat → Nat → Int32), MZ f1 y n q T τ o → T.length + τ.length ≤ q → co τ = o → (∀ a k, fF a k → f1 a k = fi a k) → drp (lok y n q) π S = drp (lok y n q) τ T → Rn (d + 3) 62 9 [some (.ref 604), some (.int (nI (lok y n q)))] [] (SH L, f1, fl, fr) (sgQ L fi fl fr y n q (drp (lok y n q) π S) o) := by
    intro τ
    induction τ with
    | nil =>
      intro T f1 hz hb hco k1 e
      refine Rn.aload_n k_62 rfl rfl ?_
      refine Rn.cV1I k_62 rfl rfl q_59 rfl (Nat.le_of_ble_eq_true rfl) (Nat.le_of_ble_eq_true rfl) (s604 L) (cm_top hF hz.2.2.2.2 (by omega)) ?_
      refine Rn.bipush (38) k_62 rfl rfl ?_
      refine Rn.icmp_eq 33 k_62 rfl rfl (fun h1 => ?_) (fun h1 => ?_)
      · exact absurd h1 (by decide)
      · refine Rn.aload_n k_62 rfl rfl ?_
        refine Rn.cV1I k_62 rfl rfl q_59 rfl (Nat.le_of_ble_eq_true rfl) (Nat.le_of_ble_eq_true rfl) (s604 L) (cm_top hF hz.2.2.2.2 (by omega)) ?_
        refine Rn.bipush (124) k_62 rfl rfl ?_
        refine Rn.icmp_ne 40 k_62 rfl rfl (fun h2 => ?_) (fun h2 => ?_)
        · exact aft [] T f1 hz hb hco k1 e
        · exact absurd h2 (by decide)
    | cons t τ ih =>
      intro T f1 hz hb hco k1 e
      rw [List.length_cons] at hb
      have ht := hz.2.2.2.2.top.2
      have drop : (t = 38 ∨ (t = 124 ∧ lok y n q ≠ 38)) → Rn (d + 3) 62 33 [some (.ref 604), some (.int (nI (lok y n q)))] [] (SH L, f1, fl, fr) (sgQ L fi fl fr y n q (drp (lok y n q) π S) o) := by
        intro hc
        have hz2 := hz.drop (by omega)
        refine Rn.aload_n k_62 rfl rfl ?_
        refine Rn.cV1M k_62 rfl rfl q_60 rfl (Nat.le_of_ble_eq_true rfl) (Nat.le_of_ble_eq_true rfl) (s604 L) (cm_drop hF hz.2.2.2.2 hz.2.2.1.1 (by omega)) ?_
        refine Rn.goto 9 k_62 rfl rfl ?_
        refine ih _ _ hz2 (by rw [List.length_append]; show T.length + 1 + _ ≤ q; omega) ?_ (fun a k ha => ?_) ?_
        · rw [← hco]
          show co τ = (if t = 33 ∨ t = 40 then 1 else 0) + co τ
          rw [if_neg (by omega), Nat.zero_add]
        · rw [fF_emt ha, fF_col (by omega) ha]; exact k1 a k ha
        · rw [e, drp, if_pos hc]
      have stop : ¬ (t = 38 ∨ (t = 124 ∧ lok y n q ≠ 38)) → Rn (d + 3) 62 40 [some (.ref 604), some (.int (nI (lok y n q)))] [] (SH L, f1, fl, fr) (sgQ L fi fl fr y n q (drp (lok y n q) π S) o) := by
        intro hc
        refine aft (t :: τ) T f1 hz (by rw [List.length_cons]; omega) hco k1 ?_
        rw [e, drp, if_neg hc]
      refine Rn.aload_n k_62 rfl rfl ?_
      refine Rn.cV1I k_62 rfl rfl q_59 rfl (Nat.le_of_ble_eq_true rfl) (Nat.le_of_ble_eq_true rfl) (s604 L) (cm_top hF hz.2.2.2.2 (by rw [List.length_cons]; omega)) ?_
      refine Rn.bipush (38) k_62 rfl rfl ?_
      rw [List.headD_cons]
      refine Rn.icmp_eq 33 k_62 rfl rfl (fun h1 => ?_) (fun h1 => ?_)
      · rw [c_eq 38 38 rfl (by omega) (by decide)] at h1
        exact drop (Or.inl h1)
      · rw [c_eq 38 38 rfl (by omega) (by decide)] at h1
        refine Rn.aload_n k_62 rfl rfl ?_
        refine Rn.cV1I k_62 rfl rfl q_59 rfl (Nat.le_of_ble_eq_true rfl) (Nat.le_of_ble_eq_true rfl) (s604 L) (cm_top hF hz.2.2.2.2 (by rw [List.length_cons]; omega)) ?_
        refine Rn.bipush (124) k_62 rfl rfl ?_
        rw [List.headD_cons]
        refine Rn.icmp_ne 40 k_62 rfl rfl (fun h2 => ?_) (fun h2 => ?_)
        · rw [c_eq 124 124 rfl (by omega) (by decide)] at h2
          exact stop (by omega)
        · rw [c_eq 124 124 rfl (by omega) (by decide)] at h2
          refine Rn.iload_n k_62 rfl rfl ?_
          refine Rn.bipush (38) k_62 rfl rfl ?_
          refine Rn.icmp_eq 40 k_62 rfl rfl (fun h3 => ?_) (fun h3 => ?_)
          · rw [c_eq 38 38 rfl (by omega) (by decide)] at h3
            exact stop (by omega)
          · rw [c_eq 38 38 rfl (by omega) (by decide)] at h3
            exact drop (Or.inr ⟨h2, h3⟩)
  exact loop π S f0 hz (by omega) hco kq rfl
/-- a name's character where a sign should be -/
theorem mr_bad {f e : Nat} {t : List FS × List Nat × Nat} {r : List FS ⊕ Nat} (h : mrun y n f (ms2 e t) = some r) (he : isN (lok y n e) = true) : r = .inr e := by
  cases f with
  | zero => cases h
  | succ f =>
    have hsk : skip y n e = e := skip_id (fun z => by rw [z] at he; cases he)
    have hne : e < n := lok_pos (y := y) (fun z => by rw [z] at he; cases he)
    rw [mrun, if_neg (show ¬ (ms2 e t).1 = 1 by show ¬ (2 : Nat) = 1; decide)] at h
    have e1 : (ms2 e t).2.1 = e := rfl
    rw [e1, hsk, if_neg (by omega), if_neg (by intro z; rcases z with z | z <;> rw [z] at he <;> cases he)] at h
    split at h
    · rw [if_neg (fun z => by rw [z] at he; cases he)] at h
      cases h; rfl
    · cases h; rfl
def rfQ (L : Nat) (fi : Nat → Nat → Int32) (fl : Nat → Nat → Int64) (fr : Nat → Nat → Option Nat) (y : Nat → Nat) (n : Nat) (r : List FS ⊕ Nat) : Option Value → am_H → Prop := fun v h' => v = none ∧ ∃ fi', h' = (SH L, fi', fl, fr) ∧ (∀ a k, fF a k → fi' a k = fi a k) ∧ (∀ p, r = .inr p → p ≤ n ∧ fi' 604 55 = nI p) ∧ ∀ S, r = .inl S → fi' 604 55 = -1 ∧ MMd fi' y n S
set_option maxHeartbeats 2000000 in
theorem cm_readLoop (hF : FRok F G fr) {r : List FS ⊕ Nat} : ∀ (f m p : Nat) (S : List FS) (π : List Nat) (o : Nat) (f1 : Nat → Nat → Int32) (o2 : Option Value), (m = 1 ∨ m = 2) → mInv n (m, p, S, π, o) → MZ f1 y n p S π o → (∀ a k, fF a k → f1 a k = fi a k) → mrun y n f (m, p, S, π, o) = some r → Rn (d + 5) 63 27 [some (.ref 604), some (.int (nI m)), o2] [] (SH L, f1, fl, fr) (rfQ L fi fl fr y n r) := by
  intro f
  induction f with
  | zero => intro m p S π o f1 o2 _ _ _ _ h; cases h
  | succ f ih =>
    intro m p S π o f1 o2 hm hi hz k1 hr
    have hpn : p ≤ n := hi.2.2.2.1
    have hsk := skip_le y hpn
    have hsg := skip_ge y n p
    have hb : S.length + π.length ≤ p := hi.2.2.1
    have hco : co π = o := hi.2.1
    have ho : o ≤ 12 := hi.2.2.2.2
    have hn := hz.1.2.2.2.1
    -- the end: it is ill
    have ill : ∀ (f2 : Nat → Nat → Int32) (p' : Nat) (o2 : Option Value) (m' : Nat), m' < 3 → p' ≤ n → r = .inr p' → f2 604 55 = nI p' → (∀ a k, fF a k → f2 a k = fi a k) → Rn (d + 5) 63 27 [some (.ref 604), some (.int (nI m')), o2] [] (SH L, f2, fl, fr) (rfQ L fi fl fr y n r) := by
      intro f2 p' o2 m' hm' hp' e e55 k2
      have out : Rn (d + 5) 63 78 [some (.ref 604), some (.int (nI m')), o2] [] (SH L, f2, fl, fr) (rfQ L fi fl fr y n r) := by
        refine Rn.retv k_63 rfl q_63 rfl ?_
        refine ⟨rfl, f2, rfl, k2, fun q hq => ?_, fun T hT => ?_⟩
        · rw [e] at hq; cases hq; exact ⟨hp', e55⟩
        · rw [e] at hT; cases hT
      refine Rn.iload_n k_63 rfl rfl ?_
      refine Rn.if_le 78 k_63 rfl rfl (fun h1 => ?_) (fun h1 => ?_)
      · exact out
      · refine Rn.aload_n k_63 rfl rfl ?_
        refine Rn.getI k_63 rfl rfl (s604 L) ?_
        rw [e55]
        refine Rn.iconst (-1) k_63 rfl rfl ?_
        refine Rn.icmp_ne 78 k_63 rfl rfl (fun h2 => ?_) (fun h2 => ?_)
        · exact out
        · exact absurd h2 (c_m1 (by omega))
    rcases hm with rfl | rfl
    · -- a term
      rw [mrun, if_pos rfl] at hr
      dsimp only at hr
      refine Rn.iload_n k_63 rfl rfl ?_
      refine Rn.if_le 78 k_63 rfl rfl (fun h1 => ?_) (fun h1 => ?_)
      · exact absurd h1 (by decide)
      · refine Rn.aload_n k_63 rfl rfl ?_
        refine Rn.getI k_63 rfl rfl (s604 L) ?_
        rw [hz.2.1]
        refine Rn.iconst (-1) k_63 rfl rfl ?_
        refine Rn.icmp_ne 78 k_63 rfl rfl (fun h2 => ?_) (fun h2 => ?_)
        · exact absurd rfl h2
        · refine Rn.iload_n k_63 rfl rfl ?_
          refine Rn.iconst (1) k_63 rfl rfl ?_
          refine Rn.icmp_ne 70 k_63 rfl rfl (fun h3 => ?_) (fun h3 => ?_)
          · exact absurd rfl h3
          · refine Rn.aload_n k_63 rfl rfl ?_
            refine Rn.cV1 k_63 rfl rfl q_58 rfl (Nat.le_of_ble_eq_true rfl) (Nat.le_of_ble_eq_true rfl) (s604 L) (cm_term hF hz hb ho) (fun v h' hq => ?_)
            obtain ⟨f2, rfl, k2, hw⟩ := hq
            have k2 : ∀ a k, fF a k → f2 a k = fi a k := fun a k ha => (k2 a k ha).trans (k1 a k ha)
            have st1 : Rn (d + 5) 63 27 [some (.ref 604), some (.int (nI 1)), some (.int 0)] [] (SH L, f2, fl, fr) (rfQ L fi fl fr y n r) → Rn (d + 5) 63 48 [some (.ref 604), some (.int (nI 1)), o2] [.int 0] (SH L, f2, fl, fr) (rfQ L fi fl fr y n r) := by
              intro k
              refine Rn.istore_n2 k_63 rfl rfl ?_
              refine Rn.iload_n k_63 rfl rfl ?_
              refine Rn.if_eq 57 k_63 rfl rfl (fun h4 => ?_) (fun h4 => ?_)
              · refine Rn.iload_n k_63 rfl rfl ?_
                refine Rn.if_eq 65 k_63 rfl rfl (fun h5 => ?_) (fun h5 => ?_)
                · refine Rn.iconst (1) k_63 rfl rfl ?_
                  refine Rn.istore_n1 k_63 rfl rfl ?_
                  refine Rn.goto 27 k_63 rfl rfl ?_
                  exact k
                · exact absurd rfl h5
              · exact absurd rfl h4
            rcases hw with ⟨rfl, w1, w2, w3⟩ | ⟨rfl, w1, w2, w3⟩ | ⟨rfl, w1, q', w0, w2, w3⟩ | ⟨rfl, w1, a, e, w2, w3⟩
            · show Rn _ _ _ _ (Value.int 0 :: []) _ _
              rw [if_pos w1, if_pos w2] at hr
              cases hr
              exact st1 (ill f2 _ _ 1 (by decide) hsk rfl w3 k2)
            · show Rn _ _ _ _ (Value.int 0 :: []) _ _
              rw [if_pos w1, if_neg w2] at hr
              exact st1 (ih 1 _ _ _ _ f2 _ (Or.inl rfl) (mi_push hi w1 w2 hsg (lok_pos (y := y) (by omega))) w3 k2 hr)
            · show Rn _ _ _ _ (Value.int 0 :: []) _ _
              rw [if_neg w1] at hr
              rcases w3 with w3 | ⟨a, w3, w4⟩
              · rw [w3] at hr
                cases hr
                exact st1 (ill f2 _ _ 1 (by decide) w0 rfl w2 k2)
              · rw [w3] at hr
                exact st1 (ill f2 q' _ 1 (by decide) w0 (mr_bad hr w4) w2 k2)
            · show Rn _ _ _ _ (Value.int 1 :: []) _ _
              rw [if_neg w1, w2] at hr
              dsimp only at hr
              obtain ⟨a1, a2, a3, a4⟩ := atom_ok hsk w2
              have a5 := atom_ge w2
              have hi2 := mi_term hi a1 a2 (by omega) a4
              refine Rn.istore_n2 k_63 rfl rfl ?_
              refine Rn.iload_n k_63 rfl rfl ?_
              refine Rn.if_eq 57 k_63 rfl rfl (fun h4 => ?_) (fun h4 => ?_)
              · exact absurd h4 (by decide)
              · refine Rn.aload_n k_63 rfl rfl ?_
                refine Rn.cV1 k_63 rfl rfl q_61 rfl (Nat.le_of_ble_eq_true rfl) (Nat.le_of_ble_eq_true rfl) (s604 L) (cm_turnRound hF π f2 (S ++ [a]) o w3 (by rw [List.length_append, List.length_singleton]; omega) hco ho) (fun v h' hq => ?_)
                obtain ⟨rfl, f3, rfl, k3, hz3⟩ := hq
                show Rn _ _ _ _ [] _ _
                refine Rn.iload_n k_63 rfl rfl ?_
                refine Rn.if_eq 65 k_63 rfl rfl (fun h5 => ?_) (fun h5 => ?_)
                · exact absurd h5 (by decide)
                · refine Rn.iconst (2) k_63 rfl rfl ?_
                  refine Rn.goto 66 k_63 rfl rfl ?_
                  refine Rn.istore_n1 k_63 rfl rfl ?_
                  refine Rn.goto 27 k_63 rfl rfl ?_
                  exact ih 2 _ _ _ _ f3 _ (Or.inr rfl) hi2 hz3 (fun a k ha => (k3 a k ha).trans (k2 a k ha)) hr
    · -- a sign
      rw [mrun, if_neg (by decide : ¬ (2 : Nat) = 1)] at hr
      dsimp only at hr
      refine Rn.iload_n k_63 rfl rfl ?_
      refine Rn.if_le 78 k_63 rfl rfl (fun h1 => ?_) (fun h1 => ?_)
      · exact absurd h1 (by decide)
      · refine Rn.aload_n k_63 rfl rfl ?_
        refine Rn.getI k_63 rfl rfl (s604 L) ?_
        rw [hz.2.1]
        refine Rn.iconst (-1) k_63 rfl rfl ?_
        refine Rn.icmp_ne 78 k_63 rfl rfl (fun h2 => ?_) (fun h2 => ?_)
        · exact absurd rfl h2
        · refine Rn.iload_n k_63 rfl rfl ?_
          refine Rn.iconst (1) k_63 rfl rfl ?_
          refine Rn.icmp_ne 70 k_63 rfl rfl (fun h3 => ?_) (fun h3 => ?_)
          · refine Rn.aload_n k_63 rfl rfl ?_
            refine Rn.cV1 k_63 rfl rfl q_62 rfl (Nat.le_of_ble_eq_true rfl) (Nat.le_of_ble_eq_true rfl) (s604 L) (cm_sign hF hz hb hco ho) (fun v h' hq => ?_)
            obtain ⟨f2, rfl, k2, hw⟩ := hq
            have k2 : ∀ a k, fF a k → f2 a k = fi a k := fun a k ha => (k2 a k ha).trans (k1 a k ha)
            rcases hw with ⟨rfl, w1, w2, w3, w4⟩ | ⟨rfl, w1, w2, w3⟩ | ⟨rfl, w1, w2, w3⟩ | ⟨rfl, w1, w2, w3, w4⟩ | ⟨rfl, w1, w2, π', w3, w4, w5⟩
            · show Rn _ _ _ _ (Value.int 0 :: []) _ _
              rw [if_pos w1, if_pos w2] at hr
              cases hr
              refine Rn.istore_n1 k_63 rfl rfl ?_
              refine Rn.goto 27 k_63 rfl rfl ?_
              refine Rn.iload_n k_63 rfl rfl ?_
              refine Rn.if_le 78 k_63 rfl rfl (fun h1 => ?_) (fun h1 => ?_)
              · refine Rn.retv k_63 rfl q_63 rfl ?_
                exact ⟨rfl, f2, rfl, k2, (fun q hq => by cases hq), fun T hT => by cases hT; exact ⟨w3, w4⟩⟩
              · exact absurd (by decide) h1
            · show Rn _ _ _ _ (Value.int 0 :: []) _ _
              rw [if_pos w1, if_neg w2] at hr
              cases hr
              refine Rn.istore_n1 k_63 rfl rfl ?_
              refine Rn.goto 27 k_63 rfl rfl ?_
              exact ill f2 n _ 0 (by decide) (Nat.le_refl _) rfl w3 k2
            · show Rn _ _ _ _ (Value.int 1 :: []) _ _
              rw [if_neg (by omega), if_pos w2] at hr
              refine Rn.istore_n1 k_63 rfl rfl ?_
              refine Rn.goto 27 k_63 rfl rfl ?_
              exact ih 1 _ _ _ _ f2 _ (Or.inl rfl) (mi_sign hi w2 hsg w1) w3 k2 hr
            · show Rn _ _ _ _ (Value.int 0 :: []) _ _
              rw [if_neg (by omega), if_neg w2] at hr
              have hr : r = .inr (skip y n p) := by
                split at hr
                · rename_i q' hq'
                  rw [if_neg (w3 q' hq')] at hr
                  cases hr; rfl
                · cases hr; rfl
              refine Rn.istore_n1 k_63 rfl rfl ?_
              refine Rn.goto 27 k_63 rfl rfl ?_
              exact ill f2 _ _ 0 (by decide) hsk hr w4 k2
            · show Rn _ _ _ _ (Value.int 2 :: []) _ _
              rw [if_neg (by omega), if_neg w2] at hr
              rw [w3] at hr
              have hr : (if lok y n (skip y n p) = 41 then mrun y n f (ms2 (skip y n p + 1) (turn π' (drp (lok y n (skip y n p)) π S).1 (o - 1))) else some (Sum.inr (skip y n p))) = some r := hr
              rw [if_pos w4] at hr
              refine Rn.istore_n1 k_63 rfl rfl ?_
              refine Rn.goto 27 k_63 rfl rfl ?_
              exact ih 2 _ _ _ _ f2 _ (Or.inr rfl) (mi_shut hi w3 hsg w1) w5 k2 hr
          · exact absurd h3 (by decide)
theorem cm_readFilter (hF : FRok F G fr) (ht : ∀ k, k < n → fi 640 k = nI (y k) ∧ y k < 128) (h46 : fi 604 46 = nI n) (hn : n ≤ 120) {r : List FS ⊕ Nat} {f : Nat} (hr : mrun y n f (1, 0, [], [], 0) = some r) : Rn (d + 5) 63 0 [some (.ref 604), none, none] [] (SH L, fi, fl, fr) (rfQ L fi fl fr y n r) := by
  refine Rn.aload_n k_63 rfl rfl ?_
  refine Rn.iconst (0) k_63 rfl rfl ?_
  refine Rn.putI k_63 rfl (rfl) (s604 L) ?_
  refine Rn.aload_n k_63 rfl rfl ?_
  refine Rn.iconst (-1) k_63 rfl rfl ?_
  refine Rn.putI k_63 rfl (rfl) (s604 L) ?_
  refine Rn.aload_n k_63 rfl rfl ?_
  refine Rn.iconst (0) k_63 rfl rfl ?_
  refine Rn.putI k_63 rfl (rfl) (s604 L) ?_
  refine Rn.aload_n k_63 rfl rfl ?_
  refine Rn.iconst (0) k_63 rfl rfl ?_
  refine Rn.putI k_63 rfl (rfl) (s604 L) ?_
  refine Rn.aload_n k_63 rfl rfl ?_
  refine Rn.iconst (0) k_63 rfl rfl ?_
  refine Rn.putI k_63 rfl (rfl) (s604 L) ?_
  refine Rn.iconst (1) k_63 rfl rfl ?_
  refine Rn.istore_n1 k_63 rfl rfl ?_
  refine cm_readLoop hF f 1 0 [] [] 0 _ _ (Or.inl rfl) mInv0 ?_ (fun a k ha => ?_) hr
  · exact ⟨⟨ht, h46, rfl, hn, Nat.zero_le _⟩, rfl, ⟨rfl, fun i hi => absurd hi (Nat.not_lt_zero i)⟩, rfl, rfl, fun i hi => absurd hi (Nat.not_lt_zero i)⟩
  · rw [fF_col (by omega) ha, fF_col (by omega) ha, fF_col (by omega) ha, fF_col (by omega) ha, fF_col (by omega) ha]
end MG
