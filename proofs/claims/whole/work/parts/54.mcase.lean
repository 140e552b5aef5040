/-! THE REFERENCE: caseLine -/
section ML
variable {d L : Nat} {fi : Nat → Nat → Int32} {fl : Nat → Nat → Int64} {fr : Nat → Nat → Option Nat} {F G : Nat} {x : Nat → Nat} {n : Nat} {A : AS} {ws : List (Nat × Nat)}
set_option maxHeartbeats 4000000 in
theorem cm_caseLine (hF : FRok F G fr) (hS : MSr fi x n A) (hA : AOk n A) (hW : MWD fi ws) (hw : wok n ws) {w0 : Nat × Nat} {rest : List (Nat × Nat)} (hws : ws = w0 :: rest) {line : Nat} : Rn (d + 3) 22 0 [some (.ref 604), some (.int (nI line)), none] [] (SH L, fi, fl, fr) (MacQ L fi fl fr x n (caseL A line (rest.map (wd x)))) := by
  obtain ⟨hT, hU, hK, hC⟩ := hS
  have hl : ws.length = rest.length + 1 := by rw [hws]; rfl
  have hl6 := hw.2
  have hn := hT.2
  have h10 := hA.1
  have h40 := hA.2.2.2.1
  have h120 := hA.2.2.2.2.2.1
  have no : caseL A line (rest.map (wd x)) = none → ∀ o2, Rn (d + 3) 22 35 [some (.ref 604), some (.int (nI line)), o2] [] (SH L, fi, fl, fr) (MacQ L fi fl fr x n (caseL A line (rest.map (wd x)))) := by
    intro e o2
    refine Rn.iconst (0) k_22 rfl rfl ?_
    refine Rn.reti k_22 rfl q_22 rfl (rfl) ?_
    rw [e]
    exact ⟨fi, rfl, fun _ _ _ => rfl, rfl, fun B hB => by cases hB⟩
  refine Rn.aload_n k_22 rfl rfl ?_
  refine Rn.getI k_22 rfl rfl (s604 L) ?_
  rw [hW.1]
  refine Rn.iconst (2) k_22 rfl rfl ?_
  refine Rn.icmp_ne 35 k_22 rfl rfl (fun h1 => ?_) (fun h1 => ?_)
  · rw [c_eq 2 2 rfl (by omega) (by decide)] at h1
    refine no ?_ _
    match rest, hl with
    | [], _ => rfl
    | [w], hl => exact absurd hl h1
    | w :: w' :: r, _ => rfl
  · rw [c_eq 2 2 rfl (by omega) (by decide)] at h1
    match rest, hl, hws, no with
    | [], hl, _, _ => exact absurd hl (by simp; omega)
    | w :: w' :: r, hl, _, _ => exact absurd hl (by simp only [List.length_cons]; omega)
    | [w], hl, hws, no =>
      have hg : ws.getD 1 (0, 0) = w := by rw [hws]; rfl
      obtain ⟨w1, w2⟩ := hW.2 1 (by omega)
      have hww := wok_at hw (show 1 < ws.length by omega)
      rw [hg] at hww w1 w2
      have eL : caseL A line ([w].map (wd x)) = if okN (wd x w) = true ∧ A.2.1.length < 40 ∧ totW A.2.1 < 120 ∧ (∀ k ∈ A.2.1, ¬ (k_su k = A.1.length ∧ k_nm k = wd x w)) then some (A.1, A.2.1 ++ [(A.1.length, wd x w, line, 0, none, false, [], [])], true) else none := rfl
      rw [eL] at no ⊢
      refine Rn.aload_n k_22 rfl rfl ?_
      refine Rn.iconst (1) k_22 rfl rfl ?_
      refine Rn.iconst (1) k_22 rfl rfl ?_
      refine Rn.cV3I k_22 rfl rfl q_19 rfl (Nat.le_of_ble_eq_true rfl) (Nat.le_of_ble_eq_true rfl) (s604 L) (cm_isRight (k := 1) (b := true) hF hT hW hw (by omega)) ?_
      rw [if_pos rfl, hg]
      refine Rn.if_eq 35 k_22 rfl rfl (fun h2 => ?_) (fun h2 => ?_)
      · (try rw [bI_0] at h2)
        (try rw [Bool.not_eq_false] at h2)
        exact no (if_neg (fun z => by rw [h2] at z; cases z.1)) _
      · (try rw [bI_0] at h2)
        (try rw [Bool.not_eq_false] at h2)
        refine Rn.aload_n k_22 rfl rfl ?_
        refine Rn.getI k_22 rfl rfl (s604 L) ?_
        rw [hK.1]
        refine Rn.bipush (40) k_22 rfl rfl ?_
        refine Rn.icmp_eq 35 k_22 rfl rfl (fun h3 => ?_) (fun h3 => ?_)
        · rw [c_eq 40 40 rfl (by omega) (by decide)] at h3
          exact no (if_neg (fun z => by omega)) _
        · rw [c_eq 40 40 rfl (by omega) (by decide)] at h3
          have hlt : A.2.1.length < 40 := by omega
          refine Rn.aload_n k_22 rfl rfl ?_
          refine Rn.cV1I k_22 rfl rfl q_34 rfl (Nat.le_of_ble_eq_true rfl) (Nat.le_of_ble_eq_true rfl) (s604 L) (cm_testMany hF h40 hK.1 (hK.pws hA)) ?_
          refine Rn.bipush (120) k_22 rfl rfl ?_
          refine Rn.icmp_ne 37 k_22 rfl rfl (fun h4 => ?_) (fun h4 => ?_)
          · rw [c_eq 120 120 rfl (by omega) (by decide)] at h4
            have ht120 : totW A.2.1 < 120 := by omega
            -- the loop over the cases
            have loop : ∀ (m c : Nat), c + m = A.2.1.length → (∀ j, j < c → ¬ (k_su (A.2.1.getD j dK) = A.1.length ∧ k_nm (A.2.1.getD j dK) = wd x w)) → Rn (d + 3) 22 39 [some (.ref 604), some (.int (nI line)), some (.int (nI c))] [] (SH L, fi, fl, fr) (MacQ L fi fl fr x n (if okN (wd x w) = true ∧ A.2.1.length < 40 ∧ totW A.2.1 < 120 ∧ (∀ k ∈ A.2.1, ¬ (k_su k = A.1.length ∧ k_nm k = wd x w)) then some (A.1, A.2.1 ++ [(A.1.length, wd x w, line, 0, none, false, [], [])], true) else none)) := by
              intro m
              induction m with
              | zero =>
                intro c hc hj
                have hnm : ∀ k ∈ A.2.1, ¬ (k_su k = A.1.length ∧ k_nm k = wd x w) := by
                  intro k hk
                  obtain ⟨j, hjl, ej⟩ := List.getElem_of_mem hk
                  have := hj j (by omega)
                  rw [List.getD_eq_getElem?_getD, List.getElem?_eq_getElem hjl] at this
                  rw [← ej]
                  exact this
                rw [if_pos ⟨h2, hlt, ht120, hnm⟩]
                refine Rn.iload_n k_22 rfl rfl ?_
                refine Rn.aload_n k_22 rfl rfl ?_
                refine Rn.getI k_22 rfl rfl (s604 L) ?_
                rw [hK.1]
                refine Rn.icmp_ge 90 k_22 rfl rfl (fun h5 => ?_) (fun h5 => ?_)
                · refine Rn.aload_n k_22 rfl rfl ?_
                  refine Rn.getA k_22 rfl rfl (s604 L) (hF.l 38 rfl) ?_
                  refine Rn.aload_n k_22 rfl rfl ?_
                  refine Rn.getI k_22 rfl rfl (s604 L) ?_
                  refine Rn.aload_n k_22 rfl rfl ?_
                  refine Rn.getI k_22 rfl rfl (s604 L) ?_
                  rw [hU.1]
                  refine Rn.iconst (1) k_22 rfl rfl ?_
                  refine Rn.isub k_22 rfl ?_
                  refine Rn.iastore (A.2.1.length) k_22 rfl (s614 L) (hK.1) (by omega) (by decide) (rfl) ?_
                  refine Rn.aload_n k_22 rfl rfl ?_
                  refine Rn.getA k_22 rfl rfl (s604 L) (hF.l 39 rfl) ?_
                  refine Rn.aload_n k_22 rfl rfl ?_
                  refine Rn.getI k_22 rfl rfl (s604 L) ?_
                  refine Rn.aload_n k_22 rfl rfl ?_
                  refine Rn.getA k_22 rfl rfl (s604 L) (hF.l 31 rfl) ?_
                  refine Rn.iconst (1) k_22 rfl rfl ?_
                  refine Rn.iaload (1) k_22 rfl (s607 L) (rfl) (by omega) (by decide) ?_
                  rw [show up2 fi 614 A.2.1.length (nI A.1.length - 1) 607 1 = nI w.1 from w1]
                  refine Rn.iastore (A.2.1.length) k_22 rfl (s615 L) (hK.1) (by omega) (by decide) (rfl) ?_
                  refine Rn.aload_n k_22 rfl rfl ?_
                  refine Rn.getA k_22 rfl rfl (s604 L) (hF.l 40 rfl) ?_
                  refine Rn.aload_n k_22 rfl rfl ?_
                  refine Rn.getI k_22 rfl rfl (s604 L) ?_
                  refine Rn.aload_n k_22 rfl rfl ?_
                  refine Rn.getA k_22 rfl rfl (s604 L) (hF.l 32 rfl) ?_
                  refine Rn.iconst (1) k_22 rfl rfl ?_
                  refine Rn.iaload (1) k_22 rfl (s608 L) (rfl) (by omega) (by decide) ?_
                  rw [show up2 (up2 fi 614 A.2.1.length (nI A.1.length - 1)) 615 A.2.1.length (nI w.1) 608 1 = nI w.2 from w2]
                  generalize hE : up2 (up2 (up2 fi 614 A.2.1.length (nI A.1.length - 1)) 615 A.2.1.length (nI w.1)) 616 A.2.1.length (nI w.2) = E
                  have hEr : ∀ a k, a ≠ 614 → a ≠ 615 → a ≠ 616 → E a k = fi a k := fun a k z1 z2 z3 => by rw [← hE, up2_row _ _ z3, up2_row _ _ z2, up2_row _ _ z1]
                  have hEc : ∀ a k, k ≠ A.2.1.length → E a k = fi a k := fun a k z => by rw [← hE, up2_col _ _ z, up2_col _ _ z, up2_col _ _ z]
                  have hE4 : E 614 A.2.1.length = nI A.1.length - 1 := by rw [← hE, up2_row _ _ (by decide), up2_row _ _ (by decide), up2_same]
                  have hE5 : E 615 A.2.1.length = nI w.1 := by rw [← hE, up2_row _ _ (by decide), up2_same]
                  have hE6 : E 616 A.2.1.length = nI w.2 := by rw [← hE, up2_same]
                  have hE0 : E 604 14 = nI A.2.1.length := (hEr 604 14 (by decide) (by decide) (by decide)).trans hK.1
                  refine Rn.iastore (A.2.1.length) k_22 rfl (s616 L) (hK.1) (by omega) (by decide) (rfl) ?_
                  rw [hE]
                  refine Rn.aload_n k_22 rfl rfl ?_
                  refine Rn.getA k_22 rfl rfl (s604 L) (hF.l 41 rfl) ?_
                  refine Rn.aload_n k_22 rfl rfl ?_
                  refine Rn.getI k_22 rfl rfl (s604 L) ?_
                  refine Rn.iload_n k_22 rfl rfl ?_
                  refine Rn.iastore (A.2.1.length) k_22 rfl (s617 L) (hE0) (by omega) (by decide) (rfl) ?_
                  refine Rn.aload_n k_22 rfl rfl ?_
                  refine Rn.getA k_22 rfl rfl (s604 L) (hF.l 42 rfl) ?_
                  refine Rn.aload_n k_22 rfl rfl ?_
                  refine Rn.getI k_22 rfl rfl (s604 L) ?_
                  refine Rn.iconst (0) k_22 rfl rfl ?_
                  refine Rn.iastore (A.2.1.length) k_22 rfl (s618 L) (hE0) (by omega) (by decide) (rfl) ?_
                  refine Rn.aload_n k_22 rfl rfl ?_
                  refine Rn.getA k_22 rfl rfl (s604 L) (hF.l 44 rfl) ?_
                  refine Rn.aload_n k_22 rfl rfl ?_
                  refine Rn.getI k_22 rfl rfl (s604 L) ?_
                  refine Rn.iconst (-1) k_22 rfl rfl ?_
                  refine Rn.iastore (A.2.1.length) k_22 rfl (s620 L) (hE0) (by omega) (by decide) (rfl) ?_
                  refine Rn.aload_n k_22 rfl rfl ?_
                  refine Rn.getA k_22 rfl rfl (s604 L) (hF.l 45 rfl) ?_
                  refine Rn.aload_n k_22 rfl rfl ?_
                  refine Rn.getI k_22 rfl rfl (s604 L) ?_
                  refine Rn.iconst (0) k_22 rfl rfl ?_
                  refine Rn.bastore (A.2.1.length) k_22 rfl (s621 L) (hE0) (by omega) (by decide) (rfl) ?_
                  refine Rn.aload_n k_22 rfl rfl ?_
                  refine Rn.getA k_22 rfl rfl (s604 L) (hF.l 46 rfl) ?_
                  refine Rn.aload_n k_22 rfl rfl ?_
                  refine Rn.getI k_22 rfl rfl (s604 L) ?_
                  refine Rn.iconst (0) k_22 rfl rfl ?_
                  refine Rn.iastore (A.2.1.length) k_22 rfl (s622 L) (hE0) (by omega) (by decide) (rfl) ?_
                  refine Rn.aload_n k_22 rfl rfl ?_
                  refine Rn.getA k_22 rfl rfl (s604 L) (hF.l 49 rfl) ?_
                  refine Rn.aload_n k_22 rfl rfl ?_
                  refine Rn.getI k_22 rfl rfl (s604 L) ?_
                  refine Rn.iconst (0) k_22 rfl rfl ?_
                  refine Rn.iastore (A.2.1.length) k_22 rfl (s625 L) (hE0) (by omega) (by decide) (rfl) ?_
                  refine Rn.aload_n k_22 rfl rfl ?_
                  refine Rn.dupa k_22 rfl ?_
                  refine Rn.getI k_22 rfl rfl (s604 L) ?_
                  rw [show up2 (up2 (up2 (up2 (up2 (up2 E 617 A.2.1.length (nI line)) 618 A.2.1.length 0) 620 A.2.1.length (-1)) 621 A.2.1.length 0) 622 A.2.1.length 0) 625 A.2.1.length 0 604 14 = nI A.2.1.length from hE0]
                  refine Rn.iconst (1) k_22 rfl rfl ?_
                  refine Rn.iadd k_22 rfl ?_
                  rw [c_add 1 1 rfl]
                  refine Rn.putI k_22 rfl (rfl) (s604 L) ?_
                  refine Rn.aload_n k_22 rfl rfl ?_
                  refine Rn.iconst (1) k_22 rfl rfl ?_
                  refine Rn.putI k_22 rfl (rfl) (s604 L) ?_
                  refine Rn.iconst (1) k_22 rfl rfl ?_
                  refine Rn.reti k_22 rfl q_22 rfl (rfl) ?_
                  generalize hH : up2 (up2 (up2 (up2 (up2 (up2 E 617 A.2.1.length (nI line)) 618 A.2.1.length 0) 620 A.2.1.length (-1)) 621 A.2.1.length 0) 622 A.2.1.length 0) 625 A.2.1.length 0 = H
                  have hHr : ∀ a k, a ≠ 617 → a ≠ 618 → a ≠ 620 → a ≠ 621 → a ≠ 622 → a ≠ 625 → H a k = E a k := fun a k z1 z2 z3 z4 z5 z6 => by rw [← hH, up2_row _ _ z6, up2_row _ _ z5, up2_row _ _ z4, up2_row _ _ z3, up2_row _ _ z2, up2_row _ _ z1]
                  have hHc : ∀ a k, k ≠ A.2.1.length → H a k = E a k := fun a k z => by rw [← hH, up2_col _ _ z, up2_col _ _ z, up2_col _ _ z, up2_col _ _ z, up2_col _ _ z, up2_col _ _ z]
                  have hH7 : H 617 A.2.1.length = nI line := by
                    rw [← hH]
                    show up2 E 617 A.2.1.length (nI line) 617 A.2.1.length = _
                    exact up2_same _ _ _ _
                  have hH8 : H 618 A.2.1.length = 0 := by
                    rw [← hH]
                    show up2 (up2 E 617 A.2.1.length (nI line)) 618 A.2.1.length 0 618 A.2.1.length = _
                    exact up2_same _ _ _ _
                  have hH20 : H 620 A.2.1.length = -1 := by
                    rw [← hH]
                    show up2 (up2 (up2 E 617 A.2.1.length (nI line)) 618 A.2.1.length 0) 620 A.2.1.length (-1) 620 A.2.1.length = _
                    exact up2_same _ _ _ _
                  have hH21 : H 621 A.2.1.length = 0 := by
                    rw [← hH]
                    show up2 (up2 (up2 (up2 E 617 A.2.1.length (nI line)) 618 A.2.1.length 0) 620 A.2.1.length (-1)) 621 A.2.1.length 0 621 A.2.1.length = _
                    exact up2_same _ _ _ _
                  have hH22 : H 622 A.2.1.length = 0 := by
                    rw [← hH]
                    show up2 (up2 (up2 (up2 (up2 E 617 A.2.1.length (nI line)) 618 A.2.1.length 0) 620 A.2.1.length (-1)) 621 A.2.1.length 0) 622 A.2.1.length 0 622 A.2.1.length = _
                    exact up2_same _ _ _ _
                  have hH25 : H 625 A.2.1.length = 0 := by
                    rw [← hH]
                    exact up2_same _ _ _ _
                  have hall : ∀ a k, a ≠ 604 → (a < 614 ∨ 622 < a ∧ a ≠ 625 ∨ k ≠ A.2.1.length) → up2 (up2 H 604 14 (nI (A.2.1.length + 1))) 604 32 1 a k = fi a k := by
                    intro a k z1 z2
                    rw [up2_row _ _ z1, up2_row _ _ z1]
                    by_cases e : k = A.2.1.length
                    · rw [hHr _ _ (by omega) (by omega) (by omega) (by omega) (by omega) (by omega), hEr _ _ (by omega) (by omega) (by omega)]
                    · rw [hHc _ _ e, hEc _ _ e]
                  refine ⟨_, rfl, fun a k ha => ?_, rfl, fun B hB => ?_⟩
                  · unfold mF at ha
                    rcases ha with ha | ha
                    · exact hall a k (by omega) (by omega)
                    · rw [ha.1, up2_col _ _ ha.2.2.2, up2_col _ _ ha.2.2.1, hHr _ _ (by decide) (by decide) (by decide) (by decide) (by decide) (by decide), hEr _ _ (by decide) (by decide) (by decide)]
                  · cases hB
                    refine ⟨hT.keep (fun k => hall _ _ (by decide) (by omega)), ⟨?_, fun s hs => (hU.2 s hs).keep (fun a k z1 z2 z3 z4 => hall _ _ (by omega) (by omega))⟩, ⟨?_, fun c hc => ?_⟩, up2_same _ _ _ _⟩
                    · rw [up2_col _ _ (by decide), up2_col _ _ (by decide), hHr _ _ (by decide) (by decide) (by decide) (by decide) (by decide) (by decide), hEr _ _ (by decide) (by decide) (by decide)]
                      exact hU.1
                    · rw [up2_col _ _ (by decide), up2_same]
                      show _ = nI (A.2.1 ++ [_]).length
                      rw [List.length_append]
                      rfl
                    · have hc : c < (A.2.1 ++ [(A.1.length, wd x w, line, 0, none, false, [], [])]).length := hc
                      rw [List.length_append] at hc
                      have hc : c < A.2.1.length + 1 := hc
                      show MKr _ x n c ((A.2.1 ++ [(A.1.length, wd x w, line, 0, none, false, [], [])]).getD c dK)
                      by_cases e : c = A.2.1.length
                      · subst e
                        rw [gD_last]
                        have q0 : ∀ a k, a ≠ 604 → up2 (up2 H 604 14 (nI (A.2.1.length + 1))) 604 32 1 a k = H a k := fun a k z => by rw [up2_row _ _ z, up2_row _ _ z]
                        refine ⟨?_, ⟨w.1, w.2, ?_, ?_, by omega, hww.2, rfl⟩, ?_, ?_, fun _ => ?_, (fun r hr => by cases hr), ?_, ?_, fun t ht => absurd ht (Nat.not_lt_zero t), ?_, fun p hp => absurd hp (Nat.not_lt_zero p)⟩
                        · rw [q0 _ _ (by decide), hHr _ _ (by decide) (by decide) (by decide) (by decide) (by decide) (by decide), hE4]; rfl
                        · rw [q0 _ _ (by decide), hHr _ _ (by decide) (by decide) (by decide) (by decide) (by decide) (by decide), hE5]
                        · rw [q0 _ _ (by decide), hHr _ _ (by decide) (by decide) (by decide) (by decide) (by decide) (by decide), hE6]
                        · rw [q0 _ _ (by decide), hH7]; rfl
                        · rw [q0 _ _ (by decide), hH8]; rfl
                        · rw [q0 _ _ (by decide), hH20]
                        · rw [q0 _ _ (by decide), hH21]; rfl
                        · rw [q0 _ _ (by decide), hH22]; rfl
                        · rw [q0 _ _ (by decide), hH25]; rfl
                      · rw [gD_lt (by omega)]
                        have hk := hA.k (show c < A.2.1.length by omega)
                        exact (hK.2 c (by omega)).keep hk.2.2.2.2.2.2.2.2.1 (fun p hp => (hk.pv hp).2) (fun a j z1 z2 z3 z4 z5 z6 => hall a j (by omega) (by omega))
                · rw [nI_leI (by omega) (by omega)] at h5
                  omega
              | succ m ih =>
                intro c hc hj
                have hcl : c < A.2.1.length := by omega
                have hk := hA.k hcl
                have hk1 := hk.1
                obtain ⟨u0, ⟨a, e, u1, u2, u3, u4, u5⟩, -⟩ := hK.2 c hcl
                have next : ¬ (k_su (A.2.1.getD c dK) = A.1.length ∧ k_nm (A.2.1.getD c dK) = wd x w) → Rn (d + 3) 22 84 [some (.ref 604), some (.int (nI line)), some (.int (nI c))] [] (SH L, fi, fl, fr) (MacQ L fi fl fr x n (if okN (wd x w) = true ∧ A.2.1.length < 40 ∧ totW A.2.1 < 120 ∧ (∀ k ∈ A.2.1, ¬ (k_su k = A.1.length ∧ k_nm k = wd x w)) then some (A.1, A.2.1 ++ [(A.1.length, wd x w, line, 0, none, false, [], [])], true) else none)) := by
                  intro hnot
                  refine Rn.iinc2 (1) k_22 rfl rfl rfl ?_
                  rw [c_add 1 1 rfl]
                  refine Rn.goto 39 k_22 rfl rfl ?_
                  refine ih (c + 1) (by omega) (fun j hjs => ?_)
                  by_cases ej : j = c
                  · rw [ej]; exact hnot
                  · exact hj j (by omega)
                refine Rn.iload_n k_22 rfl rfl ?_
                refine Rn.aload_n k_22 rfl rfl ?_
                refine Rn.getI k_22 rfl rfl (s604 L) ?_
                rw [hK.1]
                refine Rn.icmp_ge 90 k_22 rfl rfl (fun h5 => ?_) (fun h5 => ?_)
                · rw [nI_leI (by omega) (by omega)] at h5
                  omega
                · refine Rn.aload_n k_22 rfl rfl ?_
                  refine Rn.getA k_22 rfl rfl (s604 L) (hF.l 38 rfl) ?_
                  refine Rn.iload_n k_22 rfl rfl ?_
                  refine Rn.iaload (c) k_22 rfl (s614 L) (rfl) (by omega) (by decide) ?_
                  refine Rn.aload_n k_22 rfl rfl ?_
                  refine Rn.getI k_22 rfl rfl (s604 L) ?_
                  rw [u0, hU.1]
                  refine Rn.iconst (1) k_22 rfl rfl ?_
                  refine Rn.isub k_22 rfl ?_
                  refine Rn.icmp_ne 84 k_22 rfl rfl (fun h6 => ?_) (fun h6 => ?_)
                  · rw [sub1_inj (by omega) (by omega)] at h6
                    exact next (fun z => h6 z.1)
                  · rw [sub1_inj (by omega) (by omega)] at h6
                    refine Rn.aload_n k_22 rfl rfl ?_
                    refine Rn.aload_n k_22 rfl rfl ?_
                    refine Rn.getA k_22 rfl rfl (s604 L) (hF.l 39 rfl) ?_
                    refine Rn.iload_n k_22 rfl rfl ?_
                    refine Rn.iaload (c) k_22 rfl (s615 L) (rfl) (by omega) (by decide) ?_
                    refine Rn.aload_n k_22 rfl rfl ?_
                    refine Rn.getA k_22 rfl rfl (s604 L) (hF.l 40 rfl) ?_
                    refine Rn.iload_n k_22 rfl rfl ?_
                    refine Rn.iaload (c) k_22 rfl (s616 L) (rfl) (by omega) (by decide) ?_
                    refine Rn.iconst (1) k_22 rfl rfl ?_
                    rw [u1, u2]
                    refine Rn.cV4I k_22 rfl rfl q_20 rfl (Nat.le_of_ble_eq_true rfl) (Nat.le_of_ble_eq_true rfl) (s604 L) (cm_isSame (k := 1) hF hT hW hw (by omega) u3 u4) ?_
                    rw [hg, u5]
                    refine Rn.if_eq 84 k_22 rfl rfl (fun h7 => ?_) (fun h7 => ?_)
                    · (try rw [bI_0] at h7)
                      (try rw [Bool.not_eq_false] at h7)
                      have h7 := of_decide_eq_false h7
                      exact next (fun z => h7 z.2)
                    · (try rw [bI_0] at h7)
                      (try rw [Bool.not_eq_false] at h7)
                      have h7 := of_decide_eq_true h7
                      refine Rn.iconst (0) k_22 rfl rfl ?_
                      refine Rn.reti k_22 rfl q_22 rfl (rfl) ?_
                      rw [if_neg]
                      · exact ⟨fi, rfl, fun _ _ _ => rfl, rfl, fun B hB => by cases hB⟩
                      · rintro ⟨-, -, -, z⟩
                        exact z _ (gD_mem hcl) ⟨h6, h7⟩
            refine Rn.iconst (0) k_22 rfl rfl ?_
            refine Rn.istore_n2 k_22 rfl rfl ?_
            exact loop A.2.1.length 0 (Nat.zero_add _) (fun j hj => absurd hj (Nat.not_lt_zero j))
          · rw [c_eq 120 120 rfl (by omega) (by decide)] at h4
            exact no (if_neg (fun z => by omega)) _
end ML
