/-! Filter.atomHolds, negate, join, holds; passes, passing -/
section HO
variable {d L : Nat} {fi : Nat → Nat → Int32} {fl : Nat → Nat → Int64} {fr : Nat → Nat → Option Nat} {F G : Nat} {x : Nat → Nat} {n : Nat} {A : AS} {X : Nat} {S : List FS}
set_option maxHeartbeats 1000000 in
theorem ct_atomHolds (hF : FRok F G fr) (hX : FX X) (hS : FSr fi fl x n A) (hA : AOk n A) (hT : STp fi fl X S) (hl : S.length ≤ 120) {i w j : Nat} (hi : i < A.2.1.length) (hw : w < ways (k_ps (A.2.1.getD i dK))) (hj : j < S.length) (hso : fsok (S.getD j dF)) (hop : ¬ isOp (S.getD j dF).1) : Rn (d + 3) 81 0 [some (.ref X), some (.int (nI j)), some (.ref (25 + 14 * i)), some (.int (nI (totW (A.2.1.take i) + w)))] [] (SH L, fi, fl, fr) (Ret (SH L, fi, fl, fr) (some (.int (bI (atm A.1 (A.2.1.getD i dK) w (S.getD j dF)))))) := by
  have hi4 : i < 40 := Nat.lt_of_lt_of_le hi hA.2.2.2.1
  have hC := hS.2.2.2.2.1 i hi
  have hk := hA.k hi
  have hV := fun (h58 : (S.getD j dF).1 = 58) => ct_fhasValue (d := d) (L := L) hF hX hS hA hT hl hi hw hj hso h58
  have hto := atg_ok hA hi
  have hA1 := hA.1
  have hsno := fun (h0 : k_su (A.2.1.getD i dK) ≠ 0) => okN_okV (snm_ok hA hk.1 h0).1
  generalize A.2.1.getD i dK = k at hC hk hw hV hto hsno ⊢
  obtain ⟨t1, t2, t3⟩ := hT.2 j hj
  generalize S.getD j dF = s at t1 t2 t3 hso hop hV ⊢
  refine Rn.aload_n k_81 rfl rfl ?_
  refine Rn.getA k_81 rfl rfl (hX.s0 L) (hX.r hF (k := 0) (by decide)) ?_
  refine Rn.iload_n k_81 rfl rfl ?_
  refine Rn.caload (j) k_81 rfl (hX.s1 L) (rfl) (by omega) (by decide) ?_
  rw [t1]
  have hk3 := hso.2.2.1
  unfold fkd at hk3
  unfold isOp at hop
  have hk1 := hk.1
  by_cases c35 : s.1 = 35
  · have ea : atm A.1 k w s = decide (s.2.1 ∈ atg A.1 k) := by unfold atm; rw [if_pos c35]
    rw [c35, ea]
    refine Rn.lks 72 (35) k_81 rfl (by decide) (rfl) rfl ?_
    refine Rn.aload_n k_81 rfl rfl ?_
    refine Rn.getA k_81 rfl rfl (sk0 L hi4) (hF.k hi4 1 rfl) ?_
    refine Rn.aload_n k_81 rfl rfl ?_
    refine Rn.getA k_81 rfl rfl (hX.s0 L) (hX.r hF (k := 1) (by decide)) ?_
    refine Rn.iload_n k_81 rfl rfl ?_
    refine Rn.laload (j) k_81 rfl (hX.s2 L) (rfl) (by omega) (by decide) ?_
    rw [t2]
    refine Rn.cV2I k_81 rfl rfl q_99 rfl (Nat.le_of_ble_eq_true rfl) (Nat.le_of_ble_eq_true rfl) (sk1 L hi4) (ct_indexOf (w := (stg A.1 (k_su k) ++ k_tg k).map enc) (sk1 L hi4) (sk2 L hi4) (hF.k hi4 0 rfl) (by decide) hC.2.2.2.2.2.2.2.2.2.2.1 (by rw [List.length_map]; exact hk.2.2.2.2.2.2.1) (enc_lt63 (okV_len hso.1))) ?_
    refine Rn.iconst (-1) k_81 rfl rfl ?_
    have hm := mem_enc hto hso.1
    unfold atg at hm
    cases hx : ixf ((stg A.1 (k_su k) ++ k_tg k).map enc) (enc s.2.1) 0 with
    | none =>
      have hno := (ixf_none _ _ _).mp hx
      show Rn _ _ _ _ (Value.int _ :: Value.int (-1) :: []) _ _
      refine Rn.icmp_eq 93 k_81 rfl rfl (fun h1 => ?_) (fun h1 => ?_)
      · refine Rn.iconst (0) k_81 rfl rfl ?_
        refine Rn.reti k_81 rfl q_81 rfl (rfl) ?_
        rw [decide_eq_false (show ¬ s.2.1 ∈ atg A.1 k from fun z => hno (hm.mpr z))]
        exact ⟨rfl, rfl⟩
      · exact absurd rfl h1
    | some p =>
      obtain ⟨z1, z2, z3⟩ := ixf_some _ _ _ _ hx
      have h8 : (stg A.1 (k_su k) ++ k_tg k).length ≤ 8 := hk.2.2.2.2.2.2.1
      have hin : enc s.2.1 ∈ (stg A.1 (k_su k) ++ k_tg k).map enc := by
        rw [← z3]; exact getD_mem (by omega)
      rw [List.length_map] at z2
      show Rn _ _ _ _ (Value.int _ :: Value.int (nI p) :: []) _ _
      refine Rn.icmp_eq 93 k_81 rfl rfl (fun h1 => ?_) (fun h1 => ?_)
      · exact absurd h1 (c_m1 (by omega))
      · refine Rn.iconst (1) k_81 rfl rfl ?_
        refine Rn.goto 94 k_81 rfl rfl ?_
        refine Rn.reti k_81 rfl q_81 rfl (rfl) ?_
        rw [decide_eq_true (show s.2.1 ∈ atg A.1 k from hm.mp hin)]
        exact ⟨rfl, rfl⟩
  · by_cases c64 : s.1 = 64
    · have ea : atm A.1 k w s = decide (k_su k ≠ 0 ∧ snm A.1 (k_su k) = s.2.1) := by unfold atm; rw [if_neg c35, if_pos c64]
      rw [c64, ea]
      refine Rn.lks 95 (64) k_81 rfl (by decide) (rfl) rfl ?_
      refine Rn.aload_n k_81 rfl rfl ?_
      refine Rn.getI k_81 rfl rfl (sk0 L hi4) ?_
      rw [hC.2.2.1]
      refine Rn.iconst (-1) k_81 rfl rfl ?_
      refine Rn.icmp_eq 121 k_81 rfl rfl (fun h2 => ?_) (fun h2 => ?_)
      · rw [sub1_m1 (by omega)] at h2
        refine Rn.iconst (0) k_81 rfl rfl ?_
        refine Rn.reti k_81 rfl q_81 rfl (rfl) ?_
        rw [decide_eq_false (fun z => z.1 h2)]
        exact ⟨rfl, rfl⟩
      · rw [sub1_m1 (by omega)] at h2
        refine Rn.aload_n k_81 rfl rfl ?_
        refine Rn.getL k_81 rfl rfl (sk0 L hi4) ?_
        refine Rn.aload_n k_81 rfl rfl ?_
        refine Rn.getA k_81 rfl rfl (hX.s0 L) (hX.r hF (k := 1) (by decide)) ?_
        refine Rn.iload_n k_81 rfl rfl ?_
        refine Rn.laload (j) k_81 rfl (hX.s2 L) (rfl) (by omega) (by decide) ?_
        rw [t2, hC.2.1]
        refine Rn.lcmp k_81 rfl ?_
        refine Rn.if_ne 121 k_81 rfl rfl (fun h3 => ?_) (fun h3 => ?_)
        · rw [lg_cmp_eq, enc_eq (hsno h2) hso.1] at h3
          refine Rn.iconst (0) k_81 rfl rfl ?_
          refine Rn.reti k_81 rfl q_81 rfl (rfl) ?_
          rw [decide_eq_false (fun z => h3 z.2)]
          exact ⟨rfl, rfl⟩
        · rw [lg_cmp_eq, enc_eq (hsno h2) hso.1] at h3
          refine Rn.iconst (1) k_81 rfl rfl ?_
          refine Rn.goto 122 k_81 rfl rfl ?_
          refine Rn.reti k_81 rfl q_81 rfl (rfl) ?_
          rw [decide_eq_true ⟨h2, h3⟩]
          exact ⟨rfl, rfl⟩
    · by_cases c61 : s.1 = 61
      · have ea : atm A.1 k w s = decide (k_nm k = s.2.1) := by unfold atm; rw [if_neg c35, if_neg c64, if_pos c61]
        rw [c61, ea]
        refine Rn.lks 123 (61) k_81 rfl (by decide) (rfl) rfl ?_
        refine Rn.aload_n k_81 rfl rfl ?_
        refine Rn.getL k_81 rfl rfl (sk0 L hi4) ?_
        refine Rn.aload_n k_81 rfl rfl ?_
        refine Rn.getA k_81 rfl rfl (hX.s0 L) (hX.r hF (k := 1) (by decide)) ?_
        refine Rn.iload_n k_81 rfl rfl ?_
        refine Rn.laload (j) k_81 rfl (hX.s2 L) (rfl) (by omega) (by decide) ?_
        rw [t2, hC.1]
        refine Rn.lcmp k_81 rfl ?_
        refine Rn.if_ne 141 k_81 rfl rfl (fun h4 => ?_) (fun h4 => ?_)
        · rw [lg_cmp_eq, enc_eq (okN_okV hk.2.1) hso.1] at h4
          refine Rn.iconst (0) k_81 rfl rfl ?_
          refine Rn.reti k_81 rfl q_81 rfl (rfl) ?_
          rw [decide_eq_false h4]
          exact ⟨rfl, rfl⟩
        · rw [lg_cmp_eq, enc_eq (okN_okV hk.2.1) hso.1] at h4
          refine Rn.iconst (1) k_81 rfl rfl ?_
          refine Rn.goto 142 k_81 rfl rfl ?_
          refine Rn.reti k_81 rfl q_81 rfl (rfl) ?_
          rw [decide_eq_true h4]
          exact ⟨rfl, rfl⟩
      · by_cases c58 : s.1 = 58
        · rw [c58]
          refine Rn.lks 143 (58) k_81 rfl (by decide) (rfl) rfl ?_
          refine Rn.aload_n k_81 rfl rfl ?_
          refine Rn.iload_n k_81 rfl rfl ?_
          refine Rn.aload_n k_81 rfl rfl ?_
          refine Rn.iload_n k_81 rfl rfl ?_
          refine Rn.cV4I k_81 rfl rfl q_82 rfl (Nat.le_of_ble_eq_true rfl) (Nat.le_of_ble_eq_true rfl) (hX.s0 L) (hV c58) ?_
          refine Rn.reti k_81 rfl q_81 rfl (bI_fit _) ?_
          exact ⟨rfl, rfl⟩
        · by_cases c60 : s.1 = 60
          · have ea : atm A.1 k w s = decide ((if k_sz k = 0 then 1 else k_sz k) < s.2.2.getD 0 0 - 48) := by unfold atm; rw [if_neg c35, if_neg c64, if_neg c61, if_neg c58, if_pos c60]
            obtain ⟨c, e1, e2, e3⟩ := hso.2.2.2 c60
            have ev : fvl s = s.2.2.getD 0 0 - 48 := by unfold fvl; rw [if_pos c60]
            have hc2 : s.2.2.getD 0 0 - 48 ≤ 9 := by rw [e1]; show c - 48 ≤ 9; omega
            rw [c60, ea]
            rw [ev] at t3
            generalize s.2.2.getD 0 0 - 48 = q at t3 hc2 ⊢
            refine Rn.lks 151 (60) k_81 rfl (by decide) (rfl) rfl ?_
            refine Rn.aload_n k_81 rfl rfl ?_
            refine Rn.getI k_81 rfl rfl (sk0 L hi4) ?_
            rw [hC.2.2.2.2.1]
            have hz9 := hk.2.2.2.1
            have hz : (if k_sz k = 0 then 1 else k_sz k) ≤ 9 := by split <;> omega
            generalize (if k_sz k = 0 then 1 else k_sz k) = z at hz ⊢
            refine Rn.i2l k_81 rfl ?_
            rw [nI_l (by omega)]
            refine Rn.aload_n k_81 rfl rfl ?_
            refine Rn.getA k_81 rfl rfl (hX.s0 L) (hX.r hF (k := 2) (by decide)) ?_
            refine Rn.iload_n k_81 rfl rfl ?_
            refine Rn.laload (j) k_81 rfl (hX.s3 L) (rfl) (by omega) (by decide) ?_
            rw [t3]
            refine Rn.lcmp k_81 rfl ?_
            refine Rn.if_ge 170 k_81 rfl rfl (fun h5 => ?_) (fun h5 => ?_)
            · refine Rn.iconst (0) k_81 rfl rfl ?_
              refine Rn.reti k_81 rfl q_81 rfl (rfl) ?_
              have h5 : ¬ z < q := by
                intro y
                have := (pk_lLT (by omega) (by omega)).mpr y
                exact absurd ((lg_cmp_ge _ _).mp h5) (Int64.not_le.mpr this)
              rw [decide_eq_false h5]
              exact ⟨rfl, rfl⟩
            · refine Rn.iconst (1) k_81 rfl rfl ?_
              refine Rn.goto 171 k_81 rfl rfl ?_
              refine Rn.reti k_81 rfl q_81 rfl (rfl) ?_
              have h5 : z < q := by
                have h5 : ¬ lN q ≤ lN z := fun y => h5 ((lg_cmp_ge _ _).mpr y)
                exact (pk_lLT (by omega) (by omega)).mp (Int64.not_le.mp h5)
              rw [decide_eq_true h5]
              exact ⟨rfl, rfl⟩
          · by_cases c63 : s.1 = 63
            · have ea : atm A.1 k w s = (k_rs k).isSome := by unfold atm; rw [if_neg c35, if_neg c64, if_neg c61, if_neg c58, if_neg c60, if_pos c63]
              rw [c63, ea]
              refine Rn.lks 172 (63) k_81 rfl (by decide) (rfl) rfl ?_
              refine Rn.aload_n k_81 rfl rfl ?_
              refine Rn.getI k_81 rfl rfl (sk0 L hi4) ?_
              rw [hC.2.2.2.2.2.1]
              refine Rn.reti k_81 rfl q_81 rfl (bI_fit _) ?_
              exact ⟨rfl, rfl⟩
            · have c126 : s.1 = 126 := by omega
              have ea : atm A.1 k w s = k_fl k := by unfold atm; rw [if_neg c35, if_neg c64, if_neg c61, if_neg c58, if_neg c60, if_neg c63]
              rw [c126, ea]
              refine Rn.lks 177 (126) k_81 rfl (by decide) (rfl) rfl ?_
              refine Rn.aload_n k_81 rfl rfl ?_
              refine Rn.getI k_81 rfl rfl (sk0 L hi4) ?_
              rw [hC.2.2.2.2.2.2.1]
              refine Rn.reti k_81 rfl q_81 rfl (bI_fit _) ?_
              exact ⟨rfl, rfl⟩
theorem ct_negate (hF : FRok F G fr) (hX : FX X) {a : Bool} {st : List Bool} (hN : ANr fi (X + 4) (a :: st)) (hl : st.length < 120) : Rn d 79 0 [some (.ref X), some (.int (nI st.length))] [] (SH L, fi, fl, fr) (Ret (SH L, up2 fi (X + 4) st.length (bI (!a)), fl, fr) none) := by
  refine Rn.iload_n k_79 rfl rfl ?_
  refine Rn.if_lt 33 k_79 rfl rfl (fun h1 => ?_) (fun h1 => ?_)
  · exact absurd h1 (c_neg (by omega))
  · refine Rn.iload_n k_79 rfl rfl ?_
    refine Rn.aload_n k_79 rfl rfl ?_
    refine Rn.getA k_79 rfl rfl (hX.s0 L) (hX.r hF (k := 3) (by decide)) ?_
    refine Rn.alen k_79 rfl (hX.s4 L) rfl (by decide) ?_
    refine Rn.icmp_ge 33 k_79 rfl rfl (fun h2 => ?_) (fun h2 => ?_)
    · rw [nI_leI (by omega) (by omega)] at h2
      omega
    · refine Rn.aload_n k_79 rfl rfl ?_
      refine Rn.getA k_79 rfl rfl (hX.s0 L) (hX.r hF (k := 3) (by decide)) ?_
      refine Rn.iload_n k_79 rfl rfl ?_
      refine Rn.aload_n k_79 rfl rfl ?_
      refine Rn.getA k_79 rfl rfl (hX.s0 L) (hX.r hF (k := 3) (by decide)) ?_
      refine Rn.iload_n k_79 rfl rfl ?_
      refine Rn.baload (st.length) k_79 rfl (hX.s4 L) (rfl) (by omega) (by decide) ?_
      rw [hN.top]
      refine Rn.if_ne 31 k_79 rfl rfl (fun h3 => ?_) (fun h3 => ?_)
      · (try rw [bI_0] at h3)
        (try rw [Bool.not_eq_false] at h3)
        refine Rn.iconst (0) k_79 rfl rfl ?_
        refine Rn.bastore (st.length) k_79 rfl (hX.s4 L) (rfl) (by omega) (by decide) (rfl) ?_
        refine Rn.retv k_79 rfl q_79 rfl ?_
        rw [h3]
        exact ⟨rfl, rfl⟩
      · (try rw [bI_0] at h3)
        (try rw [Bool.not_eq_false] at h3)
        refine Rn.iconst (1) k_79 rfl rfl ?_
        refine Rn.goto 32 k_79 rfl rfl ?_
        refine Rn.bastore (st.length) k_79 rfl (hX.s4 L) (rfl) (by omega) (by decide) (rfl) ?_
        refine Rn.retv k_79 rfl q_79 rfl ?_
        rw [h3]
        exact ⟨rfl, rfl⟩
theorem ct_join (hF : FRok F G fr) (hX : FX X) {a b : Bool} {st : List Bool} (hN : ANr fi (X + 4) (b :: a :: st)) (hl : st.length + 1 < 120) {c : Nat} (hc : c < 128) : Rn d 80 0 [some (.ref X), some (.int (nI c)), some (.int (nI st.length)), none, none] [] (SH L, fi, fl, fr) (Ret (SH L, up2 fi (X + 4) st.length (bI (if c = 38 then a && b else a || b)), fl, fr) none) := by
  have e1 : fi (X + 4) st.length = bI a := hN.pop.top
  have e2 : fi (X + 4) (st.length + 1) = bI b := hN.top
  refine Rn.iload_n k_80 rfl rfl ?_
  refine Rn.if_lt 75 k_80 rfl rfl (fun h1 => ?_) (fun h1 => ?_)
  · exact absurd h1 (c_neg (by omega))
  · refine Rn.iload_n k_80 rfl rfl ?_
    refine Rn.iconst (1) k_80 rfl rfl ?_
    refine Rn.iadd k_80 rfl ?_
    rw [c_add 1 1 rfl]
    refine Rn.aload_n k_80 rfl rfl ?_
    refine Rn.getA k_80 rfl rfl (hX.s0 L) (hX.r hF (k := 3) (by decide)) ?_
    refine Rn.alen k_80 rfl (hX.s4 L) rfl (by decide) ?_
    refine Rn.icmp_ge 75 k_80 rfl rfl (fun h2 => ?_) (fun h2 => ?_)
    · rw [nI_leI (by omega) (by omega)] at h2
      omega
    · refine Rn.aload_n k_80 rfl rfl ?_
      refine Rn.getA k_80 rfl rfl (hX.s0 L) (hX.r hF (k := 3) (by decide)) ?_
      refine Rn.iload_n k_80 rfl rfl ?_
      refine Rn.baload (st.length) k_80 rfl (hX.s4 L) (rfl) (by omega) (by decide) ?_
      refine Rn.istore_n3 k_80 rfl rfl ?_
      refine Rn.aload_n k_80 rfl rfl ?_
      refine Rn.getA k_80 rfl rfl (hX.s0 L) (hX.r hF (k := 3) (by decide)) ?_
      refine Rn.iload_n k_80 rfl rfl ?_
      refine Rn.iconst (1) k_80 rfl rfl ?_
      refine Rn.iadd k_80 rfl ?_
      rw [c_add 1 1 rfl]
      refine Rn.baload (st.length + 1) k_80 rfl (hX.s4 L) (rfl) (by omega) (by decide) ?_
      refine Rn.istore4 k_80 rfl rfl ?_
      rw [e1, e2]
      refine Rn.aload_n k_80 rfl rfl ?_
      refine Rn.getA k_80 rfl rfl (hX.s0 L) (hX.r hF (k := 3) (by decide)) ?_
      refine Rn.iload_n k_80 rfl rfl ?_
      refine Rn.iload_n k_80 rfl rfl ?_
      refine Rn.bipush (38) k_80 rfl rfl ?_
      refine Rn.icmp_ne 60 k_80 rfl rfl (fun h3 => ?_) (fun h3 => ?_)
      · rw [c_eq 38 38 rfl (by omega) (by decide)] at h3
        rw [if_neg h3]
        refine Rn.iload_n k_80 rfl rfl ?_
        refine Rn.if_ne 69 k_80 rfl rfl (fun h6 => ?_) (fun h6 => ?_)
        · (try rw [bI_0] at h6)
          (try rw [Bool.not_eq_false] at h6)
          refine Rn.iconst (1) k_80 rfl rfl ?_
          refine Rn.goto 74 k_80 rfl rfl ?_
          refine Rn.bastore (st.length) k_80 rfl (hX.s4 L) (rfl) (by omega) (by decide) (rfl) ?_
          refine Rn.retv k_80 rfl q_80 rfl ?_
          rw [h6]
          exact ⟨rfl, rfl⟩
        · (try rw [bI_0] at h6)
          (try rw [Bool.not_eq_false] at h6)
          refine Rn.iload k_80 rfl rfl ?_
          refine Rn.if_eq 73 k_80 rfl rfl (fun h7 => ?_) (fun h7 => ?_)
          · (try rw [bI_0] at h7)
            (try rw [Bool.not_eq_false] at h7)
            refine Rn.iconst (0) k_80 rfl rfl ?_
            refine Rn.bastore (st.length) k_80 rfl (hX.s4 L) (rfl) (by omega) (by decide) (rfl) ?_
            refine Rn.retv k_80 rfl q_80 rfl ?_
            rw [h6, h7]
            exact ⟨rfl, rfl⟩
          · (try rw [bI_0] at h7)
            (try rw [Bool.not_eq_false] at h7)
            refine Rn.iconst (1) k_80 rfl rfl ?_
            refine Rn.goto 74 k_80 rfl rfl ?_
            refine Rn.bastore (st.length) k_80 rfl (hX.s4 L) (rfl) (by omega) (by decide) (rfl) ?_
            refine Rn.retv k_80 rfl q_80 rfl ?_
            rw [h6, h7]
            exact ⟨rfl, rfl⟩
      · rw [c_eq 38 38 rfl (by omega) (by decide)] at h3
        rw [if_pos h3]
        refine Rn.iload_n k_80 rfl rfl ?_
        refine Rn.if_eq 56 k_80 rfl rfl (fun h4 => ?_) (fun h4 => ?_)
        · (try rw [bI_0] at h4)
          (try rw [Bool.not_eq_false] at h4)
          refine Rn.iconst (0) k_80 rfl rfl ?_
          refine Rn.goto 74 k_80 rfl rfl ?_
          refine Rn.bastore (st.length) k_80 rfl (hX.s4 L) (rfl) (by omega) (by decide) (rfl) ?_
          refine Rn.retv k_80 rfl q_80 rfl ?_
          rw [h4]
          exact ⟨rfl, rfl⟩
        · (try rw [bI_0] at h4)
          (try rw [Bool.not_eq_false] at h4)
          refine Rn.iload k_80 rfl rfl ?_
          refine Rn.if_eq 56 k_80 rfl rfl (fun h5 => ?_) (fun h5 => ?_)
          · (try rw [bI_0] at h5)
            (try rw [Bool.not_eq_false] at h5)
            refine Rn.iconst (0) k_80 rfl rfl ?_
            refine Rn.goto 74 k_80 rfl rfl ?_
            refine Rn.bastore (st.length) k_80 rfl (hX.s4 L) (rfl) (by omega) (by decide) (rfl) ?_
            refine Rn.retv k_80 rfl q_80 rfl ?_
            rw [h4, h5]
            exact ⟨rfl, rfl⟩
          · (try rw [bI_0] at h5)
            (try rw [Bool.not_eq_false] at h5)
            refine Rn.iconst (1) k_80 rfl rfl ?_
            refine Rn.goto 74 k_80 rfl rfl ?_
            refine Rn.bastore (st.length) k_80 rfl (hX.s4 L) (rfl) (by omega) (by decide) (rfl) ?_
            refine Rn.retv k_80 rfl q_80 rfl ?_
            rw [h4, h5]
            exact ⟨rfl, rfl⟩
theorem FX.out {X : Nat} (hX : FX X) : 591 < X ∧ X < 600 := by rcases hX with rfl | rfl <;> decide
def hoQ (L : Nat) (fi : Nat → Nat → Int32) (fl : Nat → Nat → Int64) (fr : Nat → Nat → Option Nat) (X : Nat) (b : Bool) : Option Value → am_H → Prop := fun v h' => v = some (.int (bI b)) ∧ ∃ fi', h' = (SH L, fi', fl, fr) ∧ ∀ a k, a ≠ X + 4 → fi' a k = fi a k
set_option maxHeartbeats 2000000 in
theorem ct_holds (hF : FRok F G fr) (hX : FX X) (hS : FSr fi fl x n A) (hA : AOk n A) (hT : STp fi fl X S) (hl : S.length ≤ 120) (hok : S = [] ∨ sOk S 1) {i w : Nat} (hi : i < A.2.1.length) (hw : w < ways (k_ps (A.2.1.getD i dK))) : Rn (d + 4) 78 0 [some (.ref X), some (.ref (25 + 14 * i)), some (.int (nI (totW (A.2.1.take i) + w))), none, none] [] (SH L, fi, fl, fr) (hoQ L fi fl fr X (thr (atm A.1 (A.2.1.getD i dK) w) S)) := by
  have hXo := hX.out
  rcases hok with rfl | hok
  · refine Rn.iconst (0) k_78 rfl rfl ?_
    refine Rn.istore_n3 k_78 rfl rfl ?_
    refine Rn.iconst (0) k_78 rfl rfl ?_
    refine Rn.istore4 k_78 rfl rfl ?_
    refine Rn.iload k_78 rfl rfl ?_
    refine Rn.aload_n k_78 rfl rfl ?_
    refine Rn.getI k_78 rfl rfl (hX.s0 L) ?_
    rw [hT.1]
    refine Rn.icmp_ge 116 k_78 rfl rfl (fun h1 => ?_) (fun h1 => ?_)
    · refine Rn.iload_n k_78 rfl rfl ?_
      refine Rn.iconst (1) k_78 rfl rfl ?_
      refine Rn.icmp_lt 141 k_78 rfl rfl (fun h7 => ?_) (fun h7 => ?_)
      · refine Rn.iconst (1) k_78 rfl rfl ?_
        refine Rn.goto 146 k_78 rfl rfl ?_
        refine Rn.reti k_78 rfl q_78 rfl (rfl) ?_
        exact ⟨rfl, fi, rfl, fun _ _ _ => rfl⟩
      · exact absurd (by decide) h7
    · exact absurd (by decide) h1
  · have eth : thr (atm A.1 (A.2.1.getD i dK) w) S = (evs (atm A.1 (A.2.1.getD i dK) w) S []).getD 0 true := by
      cases S with
      | nil => cases hok.1
      | cons s S => rfl
    rw [eth]
    have loop : ∀ (m j : Nat) (st : List Bool) (gi : Nat → Nat → Int32), j + m = S.length → dps (S.drop j) st.length = some 1 → st.length ≤ j → ANr gi (X + 4) st → (∀ a k, a ≠ X + 4 → gi a k = fi a k) → evs (atm A.1 (A.2.1.getD i dK) w) S [] = evs (atm A.1 (A.2.1.getD i dK) w) (S.drop j) st → Rn (d + 4) 78 5 [some (.ref X), some (.ref (25 + 14 * i)), some (.int (nI (totW (A.2.1.take i) + w))), some (.int (nI st.length)), some (.int (nI j))] [] (SH L, gi, fl, fr) (hoQ L fi fl fr X ((evs (atm A.1 (A.2.1.getD i dK) w) S []).getD 0 true)) := by
      intro m
      induction m with
      | zero =>
        intro j st gi hj hd hst hN hg he
        have hT' : STp gi fl X S := hT.keep (hg _ _ (by omega)) (fun q => hg _ _ (by omega)) (fun _ _ _ _ => rfl)
        rw [List.drop_eq_nil_of_le (by omega)] at hd he
        have hd : st.length = 1 := Option.some.inj (show some st.length = some 1 from hd)
        match st, hd, hN, he with
        | [b], _, hN, he =>
          have he : evs (atm A.1 (A.2.1.getD i dK) w) S [] = [b] := he
          rw [he]
          have hb : gi (X + 4) 0 = bI b := hN.top
          show Rn (d + 4) 78 5 [some (.ref X), some (.ref (25 + 14 * i)), some (.int (nI (totW (A.2.1.take i) + w))), some (.int 1), some (.int (nI j))] [] _ _
          refine Rn.iload k_78 rfl rfl ?_
          refine Rn.aload_n k_78 rfl rfl ?_
          refine Rn.getI k_78 rfl rfl (hX.s0 L) ?_
          rw [hT'.1]
          refine Rn.icmp_ge 116 k_78 rfl rfl (fun h1 => ?_) (fun h1 => ?_)
          · refine Rn.iload_n k_78 rfl rfl ?_
            refine Rn.iconst (1) k_78 rfl rfl ?_
            refine Rn.icmp_lt 141 k_78 rfl rfl (fun h7 => ?_) (fun h7 => ?_)
            · exact absurd h7 (by decide)
            · refine Rn.iload_n k_78 rfl rfl ?_
              refine Rn.aload_n k_78 rfl rfl ?_
              refine Rn.getA k_78 rfl rfl (hX.s0 L) (hX.r hF (k := 3) (by decide)) ?_
              refine Rn.alen k_78 rfl (hX.s4 L) rfl (by decide) ?_
              refine Rn.icmp_gt 141 k_78 rfl rfl (fun h8 => ?_) (fun h8 => ?_)
              · exact absurd h8 (by decide)
              · refine Rn.aload_n k_78 rfl rfl ?_
                refine Rn.getA k_78 rfl rfl (hX.s0 L) (hX.r hF (k := 3) (by decide)) ?_
                refine Rn.iload_n k_78 rfl rfl ?_
                refine Rn.iconst (1) k_78 rfl rfl ?_
                refine Rn.isub k_78 rfl ?_
                refine Rn.baload (0) k_78 rfl (hX.s4 L) (by decide) (by omega) (by decide) ?_
                rw [hb]
                refine Rn.if_eq 145 k_78 rfl rfl (fun h9 => ?_) (fun h9 => ?_)
                · (try rw [bI_0] at h9)
                  (try rw [Bool.not_eq_false] at h9)
                  refine Rn.iconst (0) k_78 rfl rfl ?_
                  refine Rn.reti k_78 rfl q_78 rfl (rfl) ?_
                  exact ⟨by rw [h9]; rfl, gi, rfl, hg⟩
                · (try rw [bI_0] at h9)
                  (try rw [Bool.not_eq_false] at h9)
                  refine Rn.iconst (1) k_78 rfl rfl ?_
                  refine Rn.goto 146 k_78 rfl rfl ?_
                  refine Rn.reti k_78 rfl q_78 rfl (rfl) ?_
                  exact ⟨by rw [h9]; rfl, gi, rfl, hg⟩
          · rw [nI_leI (by omega) (by omega)] at h1
            omega
      | succ m ih =>
        intro j st gi hj hd hst hN hg he
        have hT' : STp gi fl X S := hT.keep (hg _ _ (by omega)) (fun q => hg _ _ (by omega)) (fun _ _ _ _ => rfl)
        have hS' : FSr gi fl x n A := hS.keep hA (fun a q u1 u2 => hg a q (by omega)) (fun _ _ _ _ => rfl)
        have hjl : j < S.length := by omega
        have ed : S.drop j = S.getD j dF :: S.drop (j + 1) := by
          rw [List.drop_eq_getElem_cons hjl, List.getD_eq_getElem?_getD, List.getElem?_eq_getElem hjl]
          rfl
        have hso : fsok (S.getD j dF) := by
          refine hok.2 _ ?_
          rw [List.getD_eq_getElem?_getD, List.getElem?_eq_getElem hjl]
          exact List.getElem_mem _
        rw [ed] at hd he
        obtain ⟨d1, d2, d3, d4⟩ := est_len (at' := atm A.1 (A.2.1.getD i dK) w) hd
        have he : evs (atm A.1 (A.2.1.getD i dK) w) S [] = evs (atm A.1 (A.2.1.getD i dK) w) (S.drop (j + 1)) (est (atm A.1 (A.2.1.getD i dK) w) (S.getD j dF) st) := he
        obtain ⟨t1, t2, t3⟩ := hT'.2 j hjl
        have hat := fun hop => ct_atomHolds (d := d) (L := L) hF hX hS' hA hT' hl hi hw hjl hso hop
        have hk3 := hso.2.2.1
        generalize S.getD j dF = s at t1 hso hk3 d1 d2 d3 d4 he hat
        unfold fkd at hk3
        have back : ∀ (st' : List Bool) (gi' : Nat → Nat → Int32), st' = est (atm A.1 (A.2.1.getD i dK) w) s st → ANr gi' (X + 4) st' → (∀ a k, a ≠ X + 4 → gi' a k = fi a k) → Rn (d + 4) 78 110 [some (.ref X), some (.ref (25 + 14 * i)), some (.int (nI (totW (A.2.1.take i) + w))), some (.int (nI st'.length)), some (.int (nI j))] [] (SH L, gi', fl, fr) (hoQ L fi fl fr X ((evs (atm A.1 (A.2.1.getD i dK) w) S []).getD 0 true)) := by
          intro st' gi' e1 e2 e3
          rw [← e1] at d1 d4 he
          refine Rn.iinc4 (1) k_78 rfl rfl rfl ?_
          rw [c_add 1 1 rfl]
          refine Rn.goto 5 k_78 rfl rfl ?_
          exact ih (j + 1) st' gi' (by omega) d1 (by omega) e2 e3 he
        refine Rn.iload k_78 rfl rfl ?_
        refine Rn.aload_n k_78 rfl rfl ?_
        refine Rn.getI k_78 rfl rfl (hX.s0 L) ?_
        rw [hT'.1]
        refine Rn.icmp_ge 116 k_78 rfl rfl (fun h1 => ?_) (fun h1 => ?_)
        · rw [nI_leI (by omega) (by omega)] at h1
          omega
        · refine Rn.aload_n k_78 rfl rfl ?_
          refine Rn.getA k_78 rfl rfl (hX.s0 L) (hX.r hF (k := 0) (by decide)) ?_
          refine Rn.iload k_78 rfl rfl ?_
          refine Rn.caload (j) k_78 rfl (hX.s1 L) (rfl) (by omega) (by decide) ?_
          rw [t1]
          refine Rn.bipush (33) k_78 rfl rfl ?_
          refine Rn.icmp_ne 36 k_78 rfl rfl (fun h2 => ?_) (fun h2 => ?_)
          · rw [c_eq 33 33 rfl (by omega) (by decide)] at h2
            refine Rn.aload_n k_78 rfl rfl ?_
            refine Rn.getA k_78 rfl rfl (hX.s0 L) (hX.r hF (k := 0) (by decide)) ?_
            refine Rn.iload k_78 rfl rfl ?_
            refine Rn.caload (j) k_78 rfl (hX.s1 L) (rfl) (by omega) (by decide) ?_
            rw [t1]
            refine Rn.bipush (38) k_78 rfl rfl ?_
            have join : (s.1 = 38 ∨ s.1 = 124) → Rn (d + 4) 78 60 [some (.ref X), some (.ref (25 + 14 * i)), some (.int (nI (totW (A.2.1.take i) + w))), some (.int (nI st.length)), some (.int (nI j))] [] (SH L, gi, fl, fr) (hoQ L fi fl fr X ((evs (atm A.1 (A.2.1.getD i dK) w) S []).getD 0 true)) := by
              intro hc
              have h2l := d3 hc
              match st, h2l, hN, hst, back with
              | [b], h2l, _, _, _ => exact absurd h2l (by simp)
              | b :: a :: st, _, hN, hst, back =>
                have hst : st.length + 2 ≤ j := hst
                have eq : est (atm A.1 (A.2.1.getD i dK) w) s (b :: a :: st) = (if s.1 = 38 then a && b else a || b) :: st := by
                  unfold est
                  rw [if_neg h2, if_pos hc]
                refine Rn.iinc3 (-1) k_78 rfl rfl rfl ?_
                rw [show nI (b :: a :: st).length + (-1) = nI (st.length + 1) from pk_m1 (st.length + 1)]
                refine Rn.aload_n k_78 rfl rfl ?_
                refine Rn.aload_n k_78 rfl rfl ?_
                refine Rn.getA k_78 rfl rfl (hX.s0 L) (hX.r hF (k := 0) (by decide)) ?_
                refine Rn.iload k_78 rfl rfl ?_
                refine Rn.caload (j) k_78 rfl (hX.s1 L) (rfl) (by omega) (by decide) ?_
                rw [t1]
                refine Rn.iload_n k_78 rfl rfl ?_
                refine Rn.iconst (1) k_78 rfl rfl ?_
                refine Rn.isub k_78 rfl ?_
                rw [show nI (st.length + 1) - 1 = nI st.length from nI_pred st.length]
                refine Rn.cV3 k_78 rfl rfl q_80 rfl (Nat.le_of_ble_eq_true rfl) (Nat.le_of_ble_eq_true rfl) (hX.s0 L) (ct_join hF hX hN (by omega) (show s.1 < 128 by omega)) (fun v h' hq => ?_)
                obtain ⟨rfl, rfl⟩ := hq
                show Rn _ _ _ _ [] _ _
                refine Rn.goto 110 k_78 rfl rfl ?_
                exact back _ _ eq.symm hN.pop.set (fun a k ha => by rw [up2_row _ _ ha]; exact hg a k ha)
            refine Rn.icmp_eq 60 k_78 rfl rfl (fun h3 => ?_) (fun h3 => ?_)
            · rw [c_eq 38 38 rfl (by omega) (by decide)] at h3
              exact join (Or.inl h3)
            · rw [c_eq 38 38 rfl (by omega) (by decide)] at h3
              refine Rn.aload_n k_78 rfl rfl ?_
              refine Rn.getA k_78 rfl rfl (hX.s0 L) (hX.r hF (k := 0) (by decide)) ?_
              refine Rn.iload k_78 rfl rfl ?_
              refine Rn.caload (j) k_78 rfl (hX.s1 L) (rfl) (by omega) (by decide) ?_
              rw [t1]
              refine Rn.bipush (124) k_78 rfl rfl ?_
              refine Rn.icmp_ne 80 k_78 rfl rfl (fun h4 => ?_) (fun h4 => ?_)
              · rw [c_eq 124 124 rfl (by omega) (by decide)] at h4
                have hop : ¬ isOp s.1 := by unfold isOp; omega
                have eq : est (atm A.1 (A.2.1.getD i dK) w) s st = atm A.1 (A.2.1.getD i dK) w s :: st := by
                  unfold est
                  rw [if_neg h2, if_neg (by omega)]
                refine Rn.iload_n k_78 rfl rfl ?_
                refine Rn.if_lt 110 k_78 rfl rfl (fun h5 => ?_) (fun h5 => ?_)
                · exact absurd h5 (c_neg (by omega))
                · refine Rn.iload_n k_78 rfl rfl ?_
                  refine Rn.aload_n k_78 rfl rfl ?_
                  refine Rn.getA k_78 rfl rfl (hX.s0 L) (hX.r hF (k := 3) (by decide)) ?_
                  refine Rn.alen k_78 rfl (hX.s4 L) rfl (by decide) ?_
                  refine Rn.icmp_ge 110 k_78 rfl rfl (fun h6 => ?_) (fun h6 => ?_)
                  · rw [nI_leI (by omega) (by omega)] at h6
                    omega
                  · refine Rn.aload_n k_78 rfl rfl ?_
                    refine Rn.getA k_78 rfl rfl (hX.s0 L) (hX.r hF (k := 3) (by decide)) ?_
                    refine Rn.iload_n k_78 rfl rfl ?_
                    refine Rn.aload_n k_78 rfl rfl ?_
                    refine Rn.iload k_78 rfl rfl ?_
                    refine Rn.aload_n k_78 rfl rfl ?_
                    refine Rn.iload_n k_78 rfl rfl ?_
                    refine Rn.cV4I k_78 rfl rfl q_81 rfl (Nat.le_of_ble_eq_true rfl) (Nat.le_of_ble_eq_true rfl) (hX.s0 L) (hat hop) ?_
                    refine Rn.bastore (st.length) k_78 rfl (hX.s4 L) (rfl) (by omega) (by decide) (bI_fit _) ?_
                    refine Rn.iinc3 (1) k_78 rfl rfl rfl ?_
                    rw [show nI st.length + 1 = nI (st.length + 1) from (nI_succ st.length).symm]
                    exact back _ _ eq.symm (hN.push _) (fun a k ha => by rw [up2_row _ _ ha]; exact hg a k ha)
              · rw [c_eq 124 124 rfl (by omega) (by decide)] at h4
                exact join (Or.inr h4)
          · rw [c_eq 33 33 rfl (by omega) (by decide)] at h2
            have h1l := d2 h2
            match st, h1l, hN, hst, back with
            | a :: st, _, hN, hst, back =>
              have hst : st.length + 1 ≤ j := hst
              have eq : est (atm A.1 (A.2.1.getD i dK) w) s (a :: st) = (!a) :: st := by
                unfold est
                rw [if_pos h2]
              refine Rn.aload_n k_78 rfl rfl ?_
              refine Rn.iload_n k_78 rfl rfl ?_
              refine Rn.iconst (1) k_78 rfl rfl ?_
              refine Rn.isub k_78 rfl ?_
              rw [show nI (a :: st).length - 1 = nI st.length from nI_pred st.length]
              refine Rn.cV2 k_78 rfl rfl q_79 rfl (Nat.le_of_ble_eq_true rfl) (Nat.le_of_ble_eq_true rfl) (hX.s0 L) (ct_negate hF hX hN (by omega)) (fun v h' hq => ?_)
              obtain ⟨rfl, rfl⟩ := hq
              show Rn _ _ _ _ [] _ _
              refine Rn.goto 110 k_78 rfl rfl ?_
              exact back ((!a) :: st) _ eq.symm hN.set (fun a k ha => by rw [up2_row _ _ ha]; exact hg a k ha)
    refine Rn.iconst (0) k_78 rfl rfl ?_
    refine Rn.istore_n3 k_78 rfl rfl ?_
    refine Rn.iconst (0) k_78 rfl rfl ?_
    refine Rn.istore4 k_78 rfl rfl ?_
    refine loop S.length 0 [] fi (Nat.zero_add _) ?_ (Nat.le_refl _) (ANr.nil _ _) (fun _ _ _ => rfl) rfl
    exact hok.1
end HO
