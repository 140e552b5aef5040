/-! THE REFERENCE: withLine -/
theorem valsOk_iff : ∀ (vs acc : List Nm), valsOk acc vs = true ↔ ∀ i, i < vs.length → okV (vs.getD i []) = true ∧ vs.getD i [] ∉ acc ++ vs.take i
  | [], acc => ⟨fun _ i hi => absurd hi (Nat.not_lt_zero i), fun _ => rfl⟩
  | v :: vs, acc => by
    unfold valsOk
    rw [Bool.and_eq_true, Bool.and_eq_true, valsOk_iff vs (acc ++ [v])]
    constructor
    · rintro ⟨⟨h1, h2⟩, h3⟩ i hi
      cases i with
      | zero => exact ⟨h1, by rw [List.take_zero, List.append_nil]; exact of_decide_eq_true h2⟩
      | succ i =>
        have := h3 i (by simp only [List.length_cons] at hi; omega)
        rw [List.getD_cons_succ, List.take_succ_cons]
        rw [List.append_assoc] at this
        exact this
    · intro h
      refine ⟨⟨?_, ?_⟩, fun i hi => ?_⟩
      · exact (h 0 (by simp)).1
      · have := (h 0 (by simp)).2
        rw [List.take_zero, List.append_nil] at this
        exact decide_eq_true this
      · have := h (i + 1) (by simp only [List.length_cons]; omega)
        rw [List.getD_cons_succ, List.take_succ_cons] at this
        rw [List.append_assoc]
        exact this
section MH
variable {d L : Nat} {fi : Nat → Nat → Int32} {fl : Nat → Nat → Int64} {fr : Nat → Nat → Option Nat} {F G : Nat} {x : Nat → Nat} {n : Nat} {A : AS} {ws : List (Nat × Nat)}
theorem drop_getD {i : Nat} (h : i + 2 < ws.length) : ((ws.drop 2).map (wd x)).getD i [] = wd x (ws.getD (i + 2) (0, 0)) := by
  rw [List.getD_eq_getElem?_getD, List.getElem?_map, List.getElem?_drop, List.getD_eq_getElem?_getD, Nat.add_comm 2 i, List.getElem?_eq_getElem h]
  rfl
set_option maxHeartbeats 4000000 in
theorem cm_withLine (hF : FRok F G fr) (hS : MSr fi x n A) (hA : AOk n A) (hW : MWD fi ws) (hw : wok n ws) {w0 : Nat × Nat} {rest : List (Nat × Nat)} (hws : ws = w0 :: rest) : Rn (d + 3) 28 0 [some (.ref 604), none, none, none, none, none] [] (SH L, fi, fl, fr) (MacQ L fi fl fr x n (withL A (rest.map (wd x)))) := by
  have hl : ws.length = rest.length + 1 := by rw [hws]; rfl
  have hl6 := hw.2
  have hn := hS.1.2
  have no : withL A (rest.map (wd x)) = none → ∀ o1 o2 o3 o4 o5, Rn (d + 3) 28 33 [some (.ref 604), o1, o2, o3, o4, o5] [] (SH L, fi, fl, fr) (MacQ L fi fl fr x n (withL A (rest.map (wd x)))) := by
    intro e o1 o2 o3 o4 o5
    refine Rn.iconst (0) k_28 rfl rfl ?_
    refine Rn.reti k_28 rfl q_28 rfl (rfl) ?_
    rw [e]
    exact ⟨fi, rfl, fun _ _ _ => rfl, rfl, fun B hB => by cases hB⟩
  refine Rn.aload_n k_28 rfl rfl ?_
  refine Rn.getI k_28 rfl rfl (s604 L) ?_
  rw [hW.1]
  refine Rn.iconst (3) k_28 rfl rfl ?_
  refine Rn.icmp_lt 33 k_28 rfl rfl (fun h1 => ?_) (fun h1 => ?_)
  · rw [c_lt 3 3 rfl (by omega) (by decide)] at h1
    refine no ?_ _ _ _ _ _
    match rest, hl with
    | [], _ => rfl
    | [w], _ =>
      show (if _ then _ else _) = _
      rw [if_neg (fun z => absurd z.2.1 (by simp))]
    | w :: w' :: r, hl => exact absurd hl (by simp only [List.length_cons]; omega)
  · rw [c_lt 3 3 rfl (by omega) (by decide)] at h1
    match rest, hl, hws, no with
    | [], hl, _, _ => exact absurd hl (by simp; omega)
    | w :: vr, hl, hws, no =>
      have hvl : ws.length = vr.length + 2 := by rw [hl, List.length_cons]
      have hd2 : ws.drop 2 = vr := by rw [hws]; rfl
      have hg : ws.getD 1 (0, 0) = w := by rw [hws]; rfl
      have hvs : (vr.map (wd x)).length = vr.length := List.length_map ..
      have hvg : ∀ i, i < vr.length → (vr.map (wd x)).getD i [] = wd x (ws.getD (i + 2) (0, 0)) := fun i hi => by rw [← hd2]; exact drop_getD (by omega)
      have eL0 : withL A ((w :: vr).map (wd x)) = withL A (wd x w :: vr.map (wd x)) := rfl
      rw [eL0] at no ⊢
      refine Rn.aload_n k_28 rfl rfl ?_
      refine Rn.getI k_28 rfl rfl (s604 L) ?_
      rw [hW.1]
      refine Rn.bipush (8) k_28 rfl rfl ?_
      refine Rn.icmp_gt 33 k_28 rfl rfl (fun h2 => ?_) (fun h2 => ?_)
      · rw [c_gt 8 8 rfl (by omega) (by decide)] at h2
        refine no ?_ _ _ _ _ _
        show (if _ then _ else _) = _
        rw [if_neg (fun z => by have := z.2.2.1; omega)]
      · rw [c_gt 8 8 rfl (by omega) (by decide)] at h2
        refine Rn.aload_n k_28 rfl rfl ?_
        refine Rn.getI k_28 rfl rfl (s604 L) ?_
        rw [hS.2.2.2]
        refine Rn.if_eq 33 k_28 rfl rfl (fun h3 => ?_) (fun h3 => ?_)
        · (try rw [bI_0] at h3)
          (try rw [Bool.not_eq_false] at h3)
          exact no (withL_shut h3 _) _ _ _ _ _
        · (try rw [bI_0] at h3)
          (try rw [Bool.not_eq_false] at h3)
          obtain ⟨ss, ks, k, rfl, hsu⟩ := hA.inK h3
          rw [withL_eq] at no ⊢
          obtain ⟨hT, hU, hK, hC⟩ := hS
          obtain ⟨w1, w2⟩ := hW.2 1 (by omega)
          have hww := wok_at hw (show 1 < ws.length by omega)
          rw [hg] at hww w1 w2
          obtain ⟨hi, hk⟩ := ckl hA
          have hlk : (ks ++ [k]).length = ks.length + 1 := by simp
          have hKk : MKr fi x n ks.length ((ks ++ [k]).getD ks.length dK) := hK.2 ks.length (by show _ < (ks ++ [k]).length; omega)
          rw [gD_last] at hKk
          have hK1 : fi 604 14 = nI (ks.length + 1) := by rw [hK.1]; show nI (ks ++ [k]).length = _; rw [hlk]
          have h25 := hKk.2.2.2.2.2.2.2.2.2.1
          have h26 := hKk.2.2.2.2.2.2.2.2.2.2
          have hps := hk.2.2.2.2.2.2.2.2.1
          have hways := hk.2.2.2.2.2.2.2.2.2.2.2
          have h120 : totW ks + ways (k_ps k) ≤ 120 := by
            have := hA.2.2.2.2.2.1
            have this : totW (ks ++ [k]) ≤ 120 := this
            rwa [totW_app] at this
          refine Rn.aload_n k_28 rfl rfl ?_
          refine Rn.iconst (1) k_28 rfl rfl ?_
          refine Rn.iconst (1) k_28 rfl rfl ?_
          refine Rn.cV3I k_28 rfl rfl q_19 rfl (Nat.le_of_ble_eq_true rfl) (Nat.le_of_ble_eq_true rfl) (s604 L) (cm_isRight (k := 1) (b := true) hF hT hW hw (by omega)) ?_
          rw [if_pos rfl, hg]
          refine Rn.if_ne 35 k_28 rfl rfl (fun h4 => ?_) (fun h4 => ?_)
          · (try rw [bI_0] at h4)
            (try rw [Bool.not_eq_false] at h4)
            generalize hP : k_ps k = ps at *
            refine Rn.aload_n k_28 rfl rfl ?_
            refine Rn.getI k_28 rfl rfl (s604 L) ?_
            rw [hK1]
            refine Rn.iconst (1) k_28 rfl rfl ?_
            refine Rn.isub k_28 rfl ?_
            rw [c_sub 1 1 rfl (by omega), Nat.add_sub_cancel]
            refine Rn.istore_n1 k_28 rfl rfl ?_
            refine Rn.iconst (4) k_28 rfl rfl ?_
            refine Rn.iload_n k_28 rfl rfl ?_
            refine Rn.imul k_28 rfl ?_
            refine Rn.aload_n k_28 rfl rfl ?_
            refine Rn.getA k_28 rfl rfl (s604 L) (hF.l 49 rfl) ?_
            refine Rn.iload_n k_28 rfl rfl ?_
            refine Rn.iaload (ks.length) k_28 rfl (s625 L) (rfl) (hi) (by decide) ?_
            rw [h25, show (4 : Int32) = nI 4 from rfl, pk_mul]
            refine Rn.iadd k_28 rfl ?_
            rw [nI_add]
            refine Rn.istore_n2 k_28 rfl rfl ?_
            refine Rn.aload_n k_28 rfl rfl ?_
            refine Rn.getA k_28 rfl rfl (s604 L) (hF.l 49 rfl) ?_
            refine Rn.iload_n k_28 rfl rfl ?_
            refine Rn.iaload (ks.length) k_28 rfl (s625 L) (rfl) (hi) (by decide) ?_
            rw [h25]
            refine Rn.iconst (4) k_28 rfl rfl ?_
            refine Rn.icmp_ne 65 k_28 rfl rfl (fun h5 => ?_) (fun h5 => ?_)
            · rw [c_eq 4 4 rfl (by omega) (by decide)] at h5
              have hp4 : ps.length < 4 := by omega
              generalize hq : 4 * ks.length + ps.length = q
              have hq160 : q < 160 := by omega
              generalize hR : (if (okN (wd x w) = true ∧ 1 ≤ (vr.map (wd x)).length ∧ (vr.map (wd x)).length ≤ 6 ∧ valsOk [] (vr.map (wd x)) = true) ∧ (ps.length < 4 ∧ wd x w ∉ ps.map (·.1) ∧ ways ps * (vr.map (wd x)).length ≤ 24) ∧ totW ks + ways ps * (vr.map (wd x)).length ≤ 120 then some (ss, ks ++ [(k_su k, k_nm k, k_ln k, k_sz k, k_rs k, k_fl k, k_tg k, ps ++ [(wd x w, vr.map (wd x))])], true) else none) = R at *
              -- the third loop's state: the values up to wi are written
              have third : ∀ (m wi : Nat) (gi : Nat → Nat → Int32) (o4 o5 : Option Value), wi + m = ws.length → 2 ≤ wi → wd x w ∉ ps.map (·.1) → (∀ i, i < wi - 2 → okV ((vr.map (wd x)).getD i []) = true ∧ (vr.map (wd x)).getD i [] ∉ (vr.map (wd x)).take i) → (∀ a j, a ≠ 629 → a ≠ 630 → gi a j = fi a j) → (∀ j, (j < 6 * q ∨ 6 * q + 6 ≤ j) → gi 629 j = fi 629 j ∧ gi 630 j = fi 630 j) → (∀ i, i < wi - 2 → gi 629 (6 * q + i) = nI (ws.getD (i + 2) (0, 0)).1 ∧ gi 630 (6 * q + i) = nI (ws.getD (i + 2) (0, 0)).2) → Rn (d + 3) 28 104 [some (.ref 604), some (.int (nI ks.length)), some (.int (nI q)), some (.int (nI wi)), o4, o5] [] (SH L, gi, fl, fr) (MacQ L fi fl fr x n R) := by
                intro m
                induction m with
                | zero =>
                  intro wi gi o4 o5 hwi h2w hnm hvals g1 g2 g3
                  have hTg : MTX gi x n := hT.keep (fun j => g1 _ _ (by decide) (by decide))
                  have g5 : gi 604 5 = nI ws.length := (g1 _ _ (by decide) (by decide)).trans hW.1
                  have v1 : gi 607 1 = nI w.1 := (g1 _ _ (by decide) (by decide)).trans w1
                  have v2 : gi 608 1 = nI w.2 := (g1 _ _ (by decide) (by decide)).trans w2
                  have v25 : gi 625 ks.length = nI ps.length := (g1 _ _ (by decide) (by decide)).trans h25
                  have hvok : valsOk [] (vr.map (wd x)) = true := (valsOk_iff _ _).mpr (fun i hi => by
                    rw [List.nil_append]
                    exact hvals i (by omega))
                  refine Rn.iload_n k_28 rfl rfl ?_
                  refine Rn.aload_n k_28 rfl rfl ?_
                  refine Rn.getI k_28 rfl rfl (s604 L) ?_
                  rw [g5]
                  refine Rn.icmp_ge 220 k_28 rfl rfl (fun h8 => ?_) (fun h8 => ?_)
                  · refine Rn.aload_n k_28 rfl rfl ?_
                    refine Rn.getA k_28 rfl rfl (s604 L) (hF.l 50 rfl) ?_
                    refine Rn.iload_n k_28 rfl rfl ?_
                    refine Rn.aload_n k_28 rfl rfl ?_
                    refine Rn.getA k_28 rfl rfl (s604 L) (hF.l 31 rfl) ?_
                    refine Rn.iconst (1) k_28 rfl rfl ?_
                    refine Rn.iaload (1) k_28 rfl (s607 L) (rfl) (by omega) (by decide) ?_
                    rw [v1]
                    refine Rn.iastore (q) k_28 rfl (s626 L) (rfl) (by omega) (by decide) (rfl) ?_
                    refine Rn.aload_n k_28 rfl rfl ?_
                    refine Rn.getA k_28 rfl rfl (s604 L) (hF.l 51 rfl) ?_
                    refine Rn.iload_n k_28 rfl rfl ?_
                    refine Rn.aload_n k_28 rfl rfl ?_
                    refine Rn.getA k_28 rfl rfl (s604 L) (hF.l 32 rfl) ?_
                    refine Rn.iconst (1) k_28 rfl rfl ?_
                    refine Rn.iaload (1) k_28 rfl (s608 L) (rfl) (by omega) (by decide) ?_
                    rw [show up2 gi 626 q (nI w.1) 608 1 = nI w.2 from v2]
                    refine Rn.iastore (q) k_28 rfl (s627 L) (rfl) (by omega) (by decide) (rfl) ?_
                    refine Rn.aload_n k_28 rfl rfl ?_
                    refine Rn.getA k_28 rfl rfl (s604 L) (hF.l 52 rfl) ?_
                    refine Rn.iload_n k_28 rfl rfl ?_
                    refine Rn.aload_n k_28 rfl rfl ?_
                    refine Rn.getI k_28 rfl rfl (s604 L) ?_
                    rw [show up2 (up2 gi 626 q (nI w.1)) 627 q (nI w.2) 604 5 = nI ws.length from g5]
                    refine Rn.iconst (2) k_28 rfl rfl ?_
                    refine Rn.isub k_28 rfl ?_
                    rw [c_sub 2 2 rfl (by omega), show ws.length - 2 = vr.length by omega]
                    refine Rn.iastore (q) k_28 rfl (s628 L) (rfl) (by omega) (by decide) (rfl) ?_
                    refine Rn.aload_n k_28 rfl rfl ?_
                    refine Rn.getA k_28 rfl rfl (s604 L) (hF.l 49 rfl) ?_
                    refine Rn.iload_n k_28 rfl rfl ?_
                    refine Rn.dup2 k_28 rfl ?_
                    refine Rn.iaload (ks.length) k_28 rfl (s625 L) (rfl) (hi) (by decide) ?_
                    rw [show up2 (up2 (up2 gi 626 q (nI w.1)) 627 q (nI w.2)) 628 q (nI vr.length) 625 ks.length = nI ps.length from v25]
                    refine Rn.iconst (1) k_28 rfl rfl ?_
                    refine Rn.iadd k_28 rfl ?_
                    rw [c_add 1 1 rfl]
                    refine Rn.iastore (ks.length) k_28 rfl (s625 L) (rfl) (hi) (by decide) (rfl) ?_
                    generalize hE : up2 (up2 (up2 (up2 gi 626 q (nI w.1)) 627 q (nI w.2)) 628 q (nI vr.length)) 625 ks.length (nI (ps.length + 1)) = E
                    have hEr : ∀ a j, a ≠ 625 → a ≠ 626 → a ≠ 627 → a ≠ 628 → E a j = gi a j := fun a j z1 z2 z3 z4 => by rw [← hE, up2_row _ _ z1, up2_row _ _ z4, up2_row _ _ z3, up2_row _ _ z2]
                    have hE25 : ∀ j, j ≠ ks.length → E 625 j = gi 625 j := fun j z => by rw [← hE, up2_col _ _ z, up2_row _ _ (by decide), up2_row _ _ (by decide), up2_row _ _ (by decide)]
                    have hEq : ∀ j, j ≠ q → E 626 j = gi 626 j ∧ E 627 j = gi 627 j ∧ E 628 j = gi 628 j := fun j z => by
                      refine ⟨?_, ?_, ?_⟩
                      · rw [← hE, up2_row _ _ (by decide), up2_row _ _ (by decide), up2_row _ _ (by decide), up2_col _ _ z]
                      · rw [← hE, up2_row _ _ (by decide), up2_row _ _ (by decide), up2_col _ _ z, up2_row _ _ (by decide)]
                      · rw [← hE, up2_row _ _ (by decide), up2_col _ _ z, up2_row _ _ (by decide), up2_row _ _ (by decide)]
                    have hE1 : E 625 ks.length = nI (ps.length + 1) := by rw [← hE, up2_same]
                    have hE2 : E 626 q = nI w.1 := by rw [← hE, up2_row _ _ (by decide), up2_row _ _ (by decide), up2_row _ _ (by decide), up2_same]
                    have hE3 : E 627 q = nI w.2 := by rw [← hE, up2_row _ _ (by decide), up2_row _ _ (by decide), up2_same]
                    have hE4 : E 628 q = nI vr.length := by rw [← hE, up2_row _ _ (by decide), up2_same]
                    have hall : ∀ a j, (a < 625 ∨ 630 < a) → E a j = fi a j := fun a j z => (hEr a j (by omega) (by omega) (by omega) (by omega)).trans (g1 a j (by omega) (by omega))
                    have epl : (ps ++ [(wd x w, vr.map (wd x))]).length = ps.length + 1 := by rw [List.length_append]; rfl
                    have ep6 : ∀ p, p < (ps ++ [(wd x w, vr.map (wd x))]).length → ((ps ++ [(wd x w, vr.map (wd x))]).getD p ([], [])).2.length ≤ 6 := by
                      intro p hp
                      rw [epl] at hp
                      by_cases e : p = ps.length
                      · subst e; rw [gD_last]; show (vr.map (wd x)).length ≤ 6; omega
                      · rw [gD_lt (by omega)]
                        have := hk.pv (p := p) (by rw [hP]; omega)
                        rw [hP] at this
                        exact this.2
                    have e28 : ∀ p, p < (ps ++ [(wd x w, vr.map (wd x))]).length → E 628 (4 * ks.length + p) = nI ((ps ++ [(wd x w, vr.map (wd x))]).getD p ([], [])).2.length := by
                      intro p hp
                      rw [epl] at hp
                      by_cases e : p = ps.length
                      · subst e; rw [gD_last, hq, hE4]; show _ = nI (vr.map (wd x)).length; rw [hvs]
                      · rw [gD_lt (by omega), (hEq _ (by omega)).2.2, g1 _ _ (by decide) (by decide)]
                        exact (h26 p (by omega)).2.1
                    have ewy : ways (ps ++ [(wd x w, vr.map (wd x))]) = ways ps * vr.length := by rw [ways_app]; show ways ps * (vr.map (wd x)).length = _; rw [hvs]
                    have hle : ways ps * vr.length ≤ 24 * 6 := Nat.mul_le_mul hways (by omega)
                    -- what is held of the new case
                    have hnew : MSr E x n (ss, ks ++ [(k_su k, k_nm k, k_ln k, k_sz k, k_rs k, k_fl k, k_tg k, ps ++ [(wd x w, vr.map (wd x))])], true) := by
                      refine ⟨hT.keep (fun j => hall _ _ (by decide)), ⟨(hall _ _ (by decide)).trans hU.1, fun s hs => (hU.2 s hs).keep (fun a j z1 z2 _ _ => hall a j (by omega))⟩, ⟨?_, fun c hc => ?_⟩, (hall _ _ (by decide)).trans hC⟩
                      · rw [hall _ _ (by decide), hK1]
                        show _ = nI (ks ++ [_]).length
                        rw [List.length_append]; rfl
                      · have hc : c < (ks ++ [(k_su k, k_nm k, k_ln k, k_sz k, k_rs k, k_fl k, k_tg k, ps ++ [(wd x w, vr.map (wd x))])]).length := hc
                        rw [List.length_append] at hc
                        have hc : c < ks.length + 1 := hc
                        show MKr E x n c ((ks ++ [(k_su k, k_nm k, k_ln k, k_sz k, k_rs k, k_fl k, k_tg k, ps ++ [(wd x w, vr.map (wd x))])]).getD c dK)
                        by_cases e : c = ks.length
                        · subst e
                          rw [gD_last]
                          obtain ⟨a1, a2, a3, a4, a5, a6, a7, a8, a9, a10, a11⟩ := hKk
                          have r0 : ∀ a j, a < 625 → E a j = fi a j := fun a j z => hall a j (Or.inl z)
                          refine ⟨(r0 _ _ (by decide)).trans a1, a2.keep (r0 _ _ (by decide)) (r0 _ _ (by decide)), (r0 _ _ (by decide)).trans a3, (r0 _ _ (by decide)).trans a4, fun z => (r0 _ _ (by decide)).trans (a5 z), fun r hr => ⟨(r0 _ _ (by decide)).trans (a6 r hr).1, (r0 _ _ (by decide)).trans (a6 r hr).2⟩, (r0 _ _ (by decide)).trans a7, (r0 _ _ (by decide)).trans a8, fun t ht => (a9 t ht).keep (r0 _ _ (by decide)) (r0 _ _ (by decide)), ?_, fun p hp => ?_⟩
                          · rw [hE1]
                            show _ = nI (ps ++ [(wd x w, vr.map (wd x))]).length
                            rw [epl]
                          · have hp : p < (ps ++ [(wd x w, vr.map (wd x))]).length := hp
                            have e28p := e28 p hp
                            rw [epl] at hp
                            show MPr E x n (4 * ks.length + p) ((ps ++ [(wd x w, vr.map (wd x))]).getD p ([], []))
                            by_cases ep : p = ps.length
                            · subst ep
                              rw [gD_last] at e28p ⊢
                              rw [hq] at e28p ⊢
                              refine ⟨⟨w.1, w.2, hE2, hE3, by omega, hww.2, rfl⟩, e28p, fun v hv => ?_⟩
                              have hv : v < (vr.map (wd x)).length := hv
                              rw [hvs] at hv
                              have hwv := wok_at hw (show v + 2 < ws.length by omega)
                              show SL E x n 629 630 (6 * q + v) ((vr.map (wd x)).getD v [])
                              rw [hvg v hv]
                              exact ⟨_, _, (hEr _ _ (by decide) (by decide) (by decide) (by decide)).trans (g3 v (by omega)).1, (hEr _ _ (by decide) (by decide) (by decide) (by decide)).trans (g3 v (by omega)).2, by omega, hwv.2, rfl⟩
                            · rw [gD_lt (by omega)] at e28p ⊢
                              have hp6 := hk.pv (p := p) (by rw [hP]; omega)
                              rw [hP] at hp6
                              obtain ⟨b1, b2, b3⟩ := h26 p (by omega)
                              refine ⟨b1.keep ?_ ?_, e28p, fun v hv => (b3 v hv).keep ?_ ?_⟩
                              · rw [(hEq _ (by omega)).1, g1 _ _ (by decide) (by decide)]
                              · rw [(hEq _ (by omega)).2.1, g1 _ _ (by decide) (by decide)]
                              · rw [hEr _ _ (by decide) (by decide) (by decide) (by decide), (g2 _ (by omega)).1]
                              · rw [hEr _ _ (by decide) (by decide) (by decide) (by decide), (g2 _ (by omega)).2]
                        · rw [gD_lt (by omega)]
                          have hcc : c < (ks ++ [k]).length := by omega
                          have hkc : KOk ss n ((ks ++ [k]).getD c dK) := hA.k (show c < (ss, ks ++ [k], true).2.1.length from hcc)
                          have hKc : MKr fi x n c ((ks ++ [k]).getD c dK) := hK.2 c hcc
                          rw [gD_lt (by omega)] at hKc hkc
                          have hpc := hkc.2.2.2.2.2.2.2.2.1
                          refine hKc.keep hpc (fun p hp => (hkc.pv hp).2) (fun a j z1 z2 z3 z4 z5 z6 => ?_)
                          by_cases ea : a < 625
                          · exact hall a j (Or.inl ea)
                          · by_cases eb : a = 625
                            · subst eb; rw [hE25 j (by omega), g1 _ _ (by decide) (by decide)]
                            · by_cases ec : a ≤ 628
                              · have := hEq j (by omega)
                                have h3 : a = 626 ∨ a = 627 ∨ a = 628 := by omega
                                rcases h3 with rfl | rfl | rfl
                                · rw [this.1, g1 _ _ (by decide) (by decide)]
                                · rw [this.2.1, g1 _ _ (by decide) (by decide)]
                                · rw [this.2.2, g1 _ _ (by decide) (by decide)]
                              · rw [hEr a j (by omega) (by omega) (by omega) (by omega)]
                                have h3 : a = 629 ∨ a = 630 := by omega
                                rcases h3 with rfl | rfl
                                · exact (g2 j (by omega)).1
                                · exact (g2 j (by omega)).2
                    have hfr : ∀ a j, mF a j → E a j = fi a j := by
                      intro a j ha
                      unfold mF at ha
                      exact hall a j (by omega)
                    have hPW : PWs E (ks ++ [(k_su k, k_nm k, k_ln k, k_sz k, k_rs k, k_fl k, k_tg k, ps ++ [(wd x w, vr.map (wd x))])]) := by
                      intro c hc
                      obtain ⟨-, -, -, -, -, -, -, -, -, q25, q26⟩ := hnew.2.2.1.2 c hc
                      have hc2 : c < ks.length + 1 := by
                        rw [List.length_append] at hc; exact hc
                      by_cases e : c = ks.length
                      · subst e
                        rw [gD_last]
                        exact ⟨by show (ps ++ [_]).length ≤ 4; rw [epl]; omega, ep6, by rw [hE1]; show _ = nI (ps ++ [_]).length; rw [epl], e28⟩
                      · have hcc : c < (ks ++ [k]).length := by omega
                        have hkc : KOk ss n ((ks ++ [k]).getD c dK) := hA.k (show c < (ss, ks ++ [k], true).2.1.length from hcc)
                        rw [gD_lt (by omega)] at hkc
                        have q25 : E 625 c = nI (k_ps ((ks ++ [(k_su k, k_nm k, k_ln k, k_sz k, k_rs k, k_fl k, k_tg k, ps ++ [(wd x w, vr.map (wd x))])]).getD c dK)).length := q25
                        have q26 : ∀ p, p < (k_ps ((ks ++ [(k_su k, k_nm k, k_ln k, k_sz k, k_rs k, k_fl k, k_tg k, ps ++ [(wd x w, vr.map (wd x))])]).getD c dK)).length → MPr E x n (4 * c + p) ((k_ps ((ks ++ [(k_su k, k_nm k, k_ln k, k_sz k, k_rs k, k_fl k, k_tg k, ps ++ [(wd x w, vr.map (wd x))])]).getD c dK)).getD p ([], [])) := q26
                        rw [gD_lt (by omega)] at q25 q26 ⊢
                        exact ⟨hkc.2.2.2.2.2.2.2.2.1, fun p hp => (hkc.pv hp).2, q25, fun p hp => (q26 p hp).2.1⟩
                    have htm := cm_testMany (d := d + 1) (L := L) (fl := fl) hF (ks := ks ++ [(k_su k, k_nm k, k_ln k, k_sz k, k_rs k, k_fl k, k_tg k, ps ++ [(wd x w, vr.map (wd x))])]) (by rw [List.length_append]; show ks.length + 1 ≤ 40; omega) hnew.2.2.1.1 hPW
                    have etot : totW (ks ++ [(k_su k, k_nm k, k_ln k, k_sz k, k_rs k, k_fl k, k_tg k, ps ++ [(wd x w, vr.map (wd x))])]) = totW ks + ways ps * vr.length := by
                      rw [totW_app]
                      show totW ks + ways (ps ++ [(wd x w, vr.map (wd x))]) = _
                      rw [ewy]
                    rw [etot] at htm
                    have hwy := cm_waysOf (d := d + 2) (L := L) (fl := fl) (fi := E) hF hi (by rw [epl]; omega) ep6 (by rw [hE1, epl]) e28
                    rw [ewy] at hwy
                    have bad : ¬ (ways ps * vr.length ≤ 24 ∧ totW ks + ways ps * vr.length ≤ 120) → ∀ o3 o4 o5, Rn (d + 3) 28 289 [some (.ref 604), some (.int (nI ks.length)), some (.int (nI q)), o3, o4, o5] [] (SH L, E, fl, fr) (MacQ L fi fl fr x n R) := by
                      intro hb o3 o4 o5
                      refine Rn.iconst (0) k_28 rfl rfl ?_
                      refine Rn.reti k_28 rfl q_28 rfl (rfl) ?_
                      rw [← hR, if_neg (fun z => hb (by rw [hvs] at z; exact ⟨z.2.1.2.2, z.2.2⟩))]
                      exact ⟨E, rfl, hfr, rfl, fun B hB => by cases hB⟩
                    refine Rn.aload_n k_28 rfl rfl ?_
                    refine Rn.iload_n k_28 rfl rfl ?_
                    refine Rn.cV2I k_28 rfl rfl q_33 rfl (Nat.le_of_ble_eq_true rfl) (Nat.le_of_ble_eq_true rfl) (s604 L) (hwy) ?_
                    refine Rn.bipush (24) k_28 rfl rfl ?_
                    refine Rn.icmp_gt 289 k_28 rfl rfl (fun h13 => ?_) (fun h13 => ?_)
                    · rw [c_gt 24 24 rfl (by omega) (by decide)] at h13
                      exact bad (fun z => by omega) _ _ _
                    · rw [c_gt 24 24 rfl (by omega) (by decide)] at h13
                      refine Rn.aload_n k_28 rfl rfl ?_
                      refine Rn.cV1I k_28 rfl rfl q_34 rfl (Nat.le_of_ble_eq_true rfl) (Nat.le_of_ble_eq_true rfl) (s604 L) (htm) ?_
                      refine Rn.bipush (120) k_28 rfl rfl ?_
                      refine Rn.icmp_gt 289 k_28 rfl rfl (fun h14 => ?_) (fun h14 => ?_)
                      · rw [c_gt 120 120 rfl (by omega) (by decide)] at h14
                        exact bad (fun z => by omega) _ _ _
                      · rw [c_gt 120 120 rfl (by omega) (by decide)] at h14
                        refine Rn.iconst (1) k_28 rfl rfl ?_
                        refine Rn.goto 290 k_28 rfl rfl ?_
                        refine Rn.reti k_28 rfl q_28 rfl (rfl) ?_
                        rw [← hR, if_pos ⟨⟨h4, by omega, by omega, hvok⟩, ⟨hp4, hnm, by rw [hvs]; omega⟩, by rw [hvs]; omega⟩]
                        exact ⟨E, rfl, hfr, rfl, fun B hB => by cases hB; exact hnew⟩
                  · rw [nI_leI (by omega) (by omega)] at h8
                    omega
                | succ m ih =>
                  intro wi gi o4 o5 hwi h2w hnm hvals g1 g2 g3
                  have hTg : MTX gi x n := hT.keep (fun j => g1 _ _ (by decide) (by decide))
                  have g5 : gi 604 5 = nI ws.length := (g1 _ _ (by decide) (by decide)).trans hW.1
                  have hWg : MWD gi ws := hW.keep (g1 _ _ (by decide) (by decide)) (fun j => g1 _ _ (by decide) (by decide)) (fun j => g1 _ _ (by decide) (by decide))
                  have hwl : wi < ws.length := by omega
                  have hwwi := wok_at hw hwl
                  have evi : (vr.map (wd x)).getD (wi - 2) [] = wd x (ws.getD wi (0, 0)) := by rw [hvg _ (by omega), show wi - 2 + 2 = wi by omega]
                  -- the inner loop
                  have inner : ∀ (m2 u : Nat), u + m2 = wi → 2 ≤ u → Rn (d + 3) 28 123 [some (.ref 604), some (.int (nI ks.length)), some (.int (nI q)), some (.int (nI wi)), some (.int (bI (okV (wd x (ws.getD wi (0, 0))) && !decide (wd x (ws.getD wi (0, 0)) ∈ (vr.map (wd x)).take (u - 2))))), some (.int (nI u))] [] (SH L, gi, fl, fr) (MacQ L fi fl fr x n R) := by
                    intro m2
                    induction m2 with
                    | zero =>
                      intro u hu hu2
                      have : u = wi := by omega
                      subst this
                      refine Rn.iload k_28 rfl rfl ?_
                      refine Rn.iload_n k_28 rfl rfl ?_
                      refine Rn.icmp_ge 169 k_28 rfl rfl (fun h9 => ?_) (fun h9 => ?_)
                      · refine Rn.iload k_28 rfl rfl ?_
                        refine Rn.if_ne 176 k_28 rfl rfl (fun h12 => ?_) (fun h12 => ?_)
                        · (try rw [bI_0] at h12)
                          (try rw [Bool.not_eq_false] at h12)
                          rw [Bool.and_eq_true] at h12
                          have hno : wd x (ws.getD u (0, 0)) ∉ (vr.map (wd x)).take (u - 2) := by
                            intro z
                            rw [decide_eq_true z] at h12
                            exact absurd h12.2 (by decide)
                          refine Rn.aload_n k_28 rfl rfl ?_
                          refine Rn.getA k_28 rfl rfl (s604 L) (hF.l 53 rfl) ?_
                          refine Rn.bipush (6) k_28 rfl rfl ?_
                          refine Rn.iload_n k_28 rfl rfl ?_
                          refine Rn.imul k_28 rfl ?_
                          rw [show (6 : Int32) = nI 6 from rfl, pk_mul]
                          refine Rn.iload_n k_28 rfl rfl ?_
                          refine Rn.iadd k_28 rfl ?_
                          rw [nI_add]
                          refine Rn.iconst (2) k_28 rfl rfl ?_
                          refine Rn.isub k_28 rfl ?_
                          rw [c_sub 2 2 rfl (by omega), show 6 * q + u - 2 = 6 * q + (u - 2) by omega]
                          refine Rn.aload_n k_28 rfl rfl ?_
                          refine Rn.getA k_28 rfl rfl (s604 L) (hF.l 31 rfl) ?_
                          refine Rn.iload_n k_28 rfl rfl ?_
                          refine Rn.iaload (u) k_28 rfl (s607 L) (rfl) (by omega) (by decide) ?_
                          rw [(hWg.2 u hwl).1]
                          refine Rn.iastore (6 * q + (u - 2)) k_28 rfl (s629 L) (rfl) (by omega) (by decide) (rfl) ?_
                          refine Rn.aload_n k_28 rfl rfl ?_
                          refine Rn.getA k_28 rfl rfl (s604 L) (hF.l 54 rfl) ?_
                          refine Rn.bipush (6) k_28 rfl rfl ?_
                          refine Rn.iload_n k_28 rfl rfl ?_
                          refine Rn.imul k_28 rfl ?_
                          rw [show (6 : Int32) = nI 6 from rfl, pk_mul]
                          refine Rn.iload_n k_28 rfl rfl ?_
                          refine Rn.iadd k_28 rfl ?_
                          rw [nI_add]
                          refine Rn.iconst (2) k_28 rfl rfl ?_
                          refine Rn.isub k_28 rfl ?_
                          rw [c_sub 2 2 rfl (by omega), show 6 * q + u - 2 = 6 * q + (u - 2) by omega]
                          refine Rn.aload_n k_28 rfl rfl ?_
                          refine Rn.getA k_28 rfl rfl (s604 L) (hF.l 32 rfl) ?_
                          refine Rn.iload_n k_28 rfl rfl ?_
                          refine Rn.iaload (u) k_28 rfl (s608 L) (rfl) (by omega) (by decide) ?_
                          rw [show up2 gi 629 (6 * q + (u - 2)) (nI (ws.getD u (0, 0)).1) 608 u = nI (ws.getD u (0, 0)).2 from (hWg.2 u hwl).2]
                          refine Rn.iastore (6 * q + (u - 2)) k_28 rfl (s630 L) (rfl) (by omega) (by decide) (rfl) ?_
                          refine Rn.iinc3 (1) k_28 rfl rfl rfl ?_
                          rw [c_add 1 1 rfl]
                          refine Rn.goto 104 k_28 rfl rfl ?_
                          refine ih (u + 1) _ _ _ (by omega) (by omega) hnm (fun i hi => ?_) (fun a j z1 z2 => ?_) (fun j z => ⟨?_, ?_⟩) (fun i hi => ⟨?_, ?_⟩)
                          · by_cases ei : i = u - 2
                            · subst ei
                              rw [evi]
                              exact ⟨h12.1, hno⟩
                            · exact hvals i (by omega)
                          · rw [up2_row _ _ z2, up2_row _ _ z1]; exact g1 a j z1 z2
                          · rw [up2_row _ _ (by decide), up2_col _ _ (by omega)]; exact (g2 j z).1
                          · rw [up2_col _ _ (by omega), up2_row _ _ (by decide)]; exact (g2 j z).2
                          · by_cases ei : i = u - 2
                            · subst ei
                              rw [up2_row _ _ (by decide), up2_same, show u - 2 + 2 = u by omega]
                            · rw [up2_row _ _ (by decide), up2_col _ _ (by omega)]; exact (g3 i (by omega)).1
                          · by_cases ei : i = u - 2
                            · subst ei
                              rw [up2_same, show u - 2 + 2 = u by omega]
                            · rw [up2_col _ _ (by omega), up2_row _ _ (by decide)]; exact (g3 i (by omega)).2
                        · (try rw [bI_0] at h12)
                          (try rw [Bool.not_eq_false] at h12)
                          refine Rn.iconst (0) k_28 rfl rfl ?_
                          refine Rn.reti k_28 rfl q_28 rfl (rfl) ?_
                          rw [← hR, if_neg]
                          · refine ⟨gi, rfl, fun a j ha => g1 a j ?_ ?_, rfl, fun B hB => by cases hB⟩
                            · unfold mF at ha; omega
                            · unfold mF at ha; omega
                          · rintro ⟨⟨-, -, -, z⟩, -⟩
                            have := (valsOk_iff _ _).mp z (u - 2) (by omega)
                            rw [List.nil_append, evi] at this
                            rw [this.1, decide_eq_false this.2] at h12
                            cases h12
                      · rw [nI_leI (by omega) (by omega)] at h9
                        omega
                    | succ m2 ih2 =>
                      intro u hu hu2
                      have hul : u < ws.length := by omega
                      have hwu := wok_at hw hul
                      have emt := mem_take_succ (l := vr.map (wd x)) (t := wd x (ws.getD wi (0, 0))) (j := u - 2) (by omega)
                      rw [hvg _ (by omega), show u - 2 + 2 = u by omega, show u - 2 + 1 = u + 1 - 2 by omega] at emt
                      have next : ∀ b : Bool, b = (okV (wd x (ws.getD wi (0, 0))) && !decide (wd x (ws.getD wi (0, 0)) ∈ (vr.map (wd x)).take (u + 1 - 2))) → Rn (d + 3) 28 161 [some (.ref 604), some (.int (nI ks.length)), some (.int (nI q)), some (.int (nI wi)), some (.int (bI (okV (wd x (ws.getD wi (0, 0))) && !decide (wd x (ws.getD wi (0, 0)) ∈ (vr.map (wd x)).take (u - 2))))), some (.int (nI u))] [.int (bI b)] (SH L, gi, fl, fr) (MacQ L fi fl fr x n R) := by
                        intro b hb
                        refine Rn.istore4 k_28 rfl rfl ?_
                        refine Rn.iinc5 (1) k_28 rfl rfl rfl ?_
                        rw [c_add 1 1 rfl]
                        refine Rn.goto 123 k_28 rfl rfl ?_
                        rw [hb]
                        exact ih2 (u + 1) (by omega) (by omega)
                      refine Rn.iload k_28 rfl rfl ?_
                      refine Rn.iload_n k_28 rfl rfl ?_
                      refine Rn.icmp_ge 169 k_28 rfl rfl (fun h9 => ?_) (fun h9 => ?_)
                      · rw [nI_leI (by omega) (by omega)] at h9
                        omega
                      · refine Rn.iload k_28 rfl rfl ?_
                        refine Rn.if_eq 160 k_28 rfl rfl (fun h10 => ?_) (fun h10 => ?_)
                        · (try rw [bI_0] at h10)
                          (try rw [Bool.not_eq_false] at h10)
                          refine Rn.iconst (0) k_28 rfl rfl ?_
                          refine next false ?_
                          rw [emt]
                          cases hz1 : okV (wd x (ws.getD wi (0, 0))) with
                          | false => rfl
                          | true =>
                            rw [hz1] at h10
                            cases hz2 : decide (wd x (ws.getD wi (0, 0)) ∈ (vr.map (wd x)).take (u - 2)) with
                            | true => rfl
                            | false => rw [hz2] at h10; cases h10
                        · (try rw [bI_0] at h10)
                          (try rw [Bool.not_eq_false] at h10)
                          refine Rn.aload_n k_28 rfl rfl ?_
                          refine Rn.aload_n k_28 rfl rfl ?_
                          refine Rn.getA k_28 rfl rfl (s604 L) (hF.l 31 rfl) ?_
                          refine Rn.iload k_28 rfl rfl ?_
                          refine Rn.iaload (u) k_28 rfl (s607 L) (rfl) (by omega) (by decide) ?_
                          refine Rn.aload_n k_28 rfl rfl ?_
                          refine Rn.getA k_28 rfl rfl (s604 L) (hF.l 32 rfl) ?_
                          refine Rn.iload k_28 rfl rfl ?_
                          refine Rn.iaload (u) k_28 rfl (s608 L) (rfl) (by omega) (by decide) ?_
                          refine Rn.iload_n k_28 rfl rfl ?_
                          rw [(hWg.2 u hul).1, (hWg.2 u hul).2]
                          refine Rn.cV4I k_28 rfl rfl q_20 rfl (Nat.le_of_ble_eq_true rfl) (Nat.le_of_ble_eq_true rfl) (s604 L) (cm_isSame hF hTg hWg hw hwl (by omega) hwu.2) ?_
                          rw [show sl x (ws.getD u (0, 0)).1 (ws.getD u (0, 0)).2 = wd x (ws.getD u (0, 0)) from rfl]
                          rw [Bool.and_eq_true] at h10
                          refine Rn.if_ne 160 k_28 rfl rfl (fun h11 => ?_) (fun h11 => ?_)
                          · (try rw [bI_0] at h11)
                            (try rw [Bool.not_eq_false] at h11)
                            refine Rn.iconst (0) k_28 rfl rfl ?_
                            exact next false (by rw [emt, h11]; simp)
                          · (try rw [bI_0] at h11)
                            (try rw [Bool.not_eq_false] at h11)
                            refine Rn.iconst (1) k_28 rfl rfl ?_
                            refine Rn.goto 161 k_28 rfl rfl ?_
                            refine next true ?_
                            rw [emt, h11, h10.1, Bool.or_false, Bool.true_and]
                            exact h10.2.symm
                  refine Rn.iload_n k_28 rfl rfl ?_
                  refine Rn.aload_n k_28 rfl rfl ?_
                  refine Rn.getI k_28 rfl rfl (s604 L) ?_
                  rw [g5]
                  refine Rn.icmp_ge 220 k_28 rfl rfl (fun h8 => ?_) (fun h8 => ?_)
                  · rw [nI_leI (by omega) (by omega)] at h8
                    omega
                  · refine Rn.aload_n k_28 rfl rfl ?_
                    refine Rn.iload_n k_28 rfl rfl ?_
                    refine Rn.iconst (0) k_28 rfl rfl ?_
                    refine Rn.cV3I k_28 rfl rfl q_19 rfl (Nat.le_of_ble_eq_true rfl) (Nat.le_of_ble_eq_true rfl) (s604 L) (cm_isRight (b := false) hF hTg hWg hw hwl) ?_
                    refine Rn.istore4 k_28 rfl rfl ?_
                    refine Rn.iconst (2) k_28 rfl rfl ?_
                    refine Rn.istore5 k_28 rfl rfl ?_
                    rw [if_neg (by decide)]
                    have := inner (wi - 2) 2 (by omega) (Nat.le_refl _)
                    rw [Nat.sub_self, List.take_zero, decide_eq_false (fun z => by cases z), Bool.not_false, Bool.and_true] at this
                    exact this
              -- the second loop: the parameters
              have second : ∀ (m j : Nat), j + m = ps.length → (∀ i, i < j → (ps.getD i ([], [])).1 ≠ wd x w) → Rn (d + 3) 28 69 [some (.ref 604), some (.int (nI ks.length)), some (.int (nI q)), some (.int (nI (4 * ks.length + j))), none, none] [] (SH L, fi, fl, fr) (MacQ L fi fl fr x n R) := by
                intro m
                induction m with
                | zero =>
                  intro j hj hno
                  have hnm : wd x w ∉ ps.map (·.1) := by
                    intro z
                    obtain ⟨u, hu, e⟩ := List.mem_map.mp z
                    obtain ⟨i, hil, ei⟩ := List.getElem_of_mem hu
                    refine hno i (by omega) ?_
                    rw [List.getD_eq_getElem?_getD, List.getElem?_eq_getElem hil]
                    show (ps[i]).1 = _
                    rw [ei]
                    exact e
                  refine Rn.iload_n k_28 rfl rfl ?_
                  refine Rn.iload_n k_28 rfl rfl ?_
                  refine Rn.icmp_ge 102 k_28 rfl rfl (fun h6 => ?_) (fun h6 => ?_)
                  · refine Rn.iconst (2) k_28 rfl rfl ?_
                    refine Rn.istore_n3 k_28 rfl rfl ?_
                    exact third (ws.length - 2) 2 fi _ _ (by omega) (Nat.le_refl _) hnm (fun i hi => absurd hi (Nat.not_lt_zero i)) (fun _ _ _ _ => rfl) (fun _ _ => ⟨rfl, rfl⟩) (fun i hi => absurd hi (Nat.not_lt_zero i))
                  · rw [nI_leI (by omega) (by omega)] at h6
                    omega
                | succ m ih =>
                  intro j hj hno
                  obtain ⟨⟨a, e, u1, u2, u3, u4, u5⟩, -⟩ := h26 j (by omega)
                  refine Rn.iload_n k_28 rfl rfl ?_
                  refine Rn.iload_n k_28 rfl rfl ?_
                  refine Rn.icmp_ge 102 k_28 rfl rfl (fun h6 => ?_) (fun h6 => ?_)
                  · rw [nI_leI (by omega) (by omega)] at h6
                    omega
                  · refine Rn.aload_n k_28 rfl rfl ?_
                    refine Rn.aload_n k_28 rfl rfl ?_
                    refine Rn.getA k_28 rfl rfl (s604 L) (hF.l 50 rfl) ?_
                    refine Rn.iload_n k_28 rfl rfl ?_
                    refine Rn.iaload (4 * ks.length + j) k_28 rfl (s626 L) (rfl) (by omega) (by decide) ?_
                    refine Rn.aload_n k_28 rfl rfl ?_
                    refine Rn.getA k_28 rfl rfl (s604 L) (hF.l 51 rfl) ?_
                    refine Rn.iload_n k_28 rfl rfl ?_
                    refine Rn.iaload (4 * ks.length + j) k_28 rfl (s627 L) (rfl) (by omega) (by decide) ?_
                    refine Rn.iconst (1) k_28 rfl rfl ?_
                    rw [u1, u2]
                    refine Rn.cV4I k_28 rfl rfl q_20 rfl (Nat.le_of_ble_eq_true rfl) (Nat.le_of_ble_eq_true rfl) (s604 L) (cm_isSame (k := 1) hF hT hW hw (by omega) u3 u4) ?_
                    rw [hg, u5]
                    refine Rn.if_eq 96 k_28 rfl rfl (fun h7 => ?_) (fun h7 => ?_)
                    · (try rw [bI_0] at h7)
                      (try rw [Bool.not_eq_false] at h7)
                      have h7 := of_decide_eq_false h7
                      refine Rn.iinc3 (1) k_28 rfl rfl rfl ?_
                      rw [c_add 1 1 rfl]
                      refine Rn.goto 69 k_28 rfl rfl ?_
                      refine ih (j + 1) (by omega) (fun i hi => ?_)
                      by_cases ei : i = j
                      · rw [ei]; exact h7
                      · exact hno i (by omega)
                    · (try rw [bI_0] at h7)
                      (try rw [Bool.not_eq_false] at h7)
                      have h7 := of_decide_eq_true h7
                      refine Rn.iconst (0) k_28 rfl rfl ?_
                      refine Rn.reti k_28 rfl q_28 rfl (rfl) ?_
                      rw [← hR, if_neg]
                      · exact ⟨fi, rfl, fun _ _ _ => rfl, rfl, fun B hB => by cases hB⟩
                      · rintro ⟨-, ⟨-, z, -⟩, -⟩
                        exact z (List.mem_map.mpr ⟨ps.getD j ([], []), gD_mem (by omega), h7⟩)
              refine Rn.iconst (4) k_28 rfl rfl ?_
              refine Rn.iload_n k_28 rfl rfl ?_
              refine Rn.imul k_28 rfl ?_
              rw [show (4 : Int32) = nI 4 from rfl, pk_mul]
              refine Rn.istore_n3 k_28 rfl rfl ?_
              exact second ps.length 0 (Nat.zero_add _) (fun i hi => absurd hi (Nat.not_lt_zero i))
            · rw [c_eq 4 4 rfl (by omega) (by decide)] at h5
              refine Rn.iconst (0) k_28 rfl rfl ?_
              refine Rn.reti k_28 rfl q_28 rfl (rfl) ?_
              rw [if_neg (fun z => by have := z.2.1.1; omega)]
              exact ⟨fi, rfl, fun _ _ _ => rfl, rfl, fun B hB => by cases hB⟩
          · (try rw [bI_0] at h4)
            (try rw [Bool.not_eq_false] at h4)
            exact no (if_neg (fun z => by rw [h4] at z; cases z.1.1)) _ _ _ _ _
end MH
