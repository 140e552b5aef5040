/-! THE REFERENCE: sizeLine, skipLine, failsLine -/
section MU
variable {d L : Nat} {fi : Nat → Nat → Int32} {fl : Nat → Nat → Int64} {fr : Nat → Nat → Option Nat} {F G : Nat} {x : Nat → Nat} {n : Nat} {A : AS} {ws : List (Nat × Nat)}
theorem MSr.lastK {fi' : Nat → Nat → Int32} {ss : List (Nm × List Nm)} {ks : List KS} {k k' : KS} (hA : AOk n (ss, ks ++ [k], true)) (hS : MSr fi x n (ss, ks ++ [k], true)) (e : ∀ a j, (a < 618 ∨ 621 < a ∨ j ≠ ks.length) → fi' a j = fi a j) (hk : MKr fi' x n ks.length k') : MSr fi' x n (ss, ks ++ [k'], true) := by
  obtain ⟨hT, hU, hK, hC⟩ := hS
  refine ⟨hT.keep (fun j => e _ _ (by omega)), ⟨(e _ _ (by omega)).trans hU.1, fun s hs => (hU.2 s hs).keep (fun a j z1 z2 z3 z4 => e _ _ (by omega))⟩, ⟨(e _ _ (by omega)).trans ?_, fun c hc => ?_⟩, (e _ _ (by omega)).trans hC⟩
  · have := hK.1
    show _ = nI (ks ++ [k']).length
    rw [List.length_append]
    have h2 : fi 604 14 = nI (ks ++ [k]).length := this
    rw [List.length_append] at h2
    exact h2
  · have hc1 : c < (ks ++ [k']).length := hc
    rw [List.length_append] at hc1
    have hc1 : c < ks.length + 1 := hc1
    show MKr fi' x n c ((ks ++ [k']).getD c dK)
    by_cases ec : c = ks.length
    · subst ec
      rw [gD_last]
      exact hk
    · have hcc : c < (ks ++ [k]).length := by rw [List.length_append]; show c < ks.length + 1; omega
      have h1 : MKr fi x n c ((ks ++ [k]).getD c dK) := hK.2 c hcc
      have h2 : KOk ss n ((ks ++ [k]).getD c dK) := hA.k (show c < (ss, ks ++ [k], true).2.1.length from hcc)
      rw [gD_lt (by omega)] at h1 h2 ⊢
      exact h1.keep h2.2.2.2.2.2.2.2.2.1 (fun p hp => (h2.pv hp).2) (fun a j z1 z2 z3 z4 z5 z6 => e _ _ (by omega))
theorem MSr.lastOf {ss : List (Nm × List Nm)} {ks : List KS} {k : KS} (hS : MSr fi x n (ss, ks ++ [k], true)) : fi 604 14 = nI (ks.length + 1) ∧ MKr fi x n ks.length k := by
  obtain ⟨hT, hU, hK, hC⟩ := hS
  have h1 : fi 604 14 = nI (ks ++ [k]).length := hK.1
  have h2 : MKr fi x n ks.length ((ks ++ [k]).getD ks.length dK) := hK.2 ks.length (by show _ < (ks ++ [k]).length; rw [List.length_append]; exact Nat.lt_succ_self _)
  rw [List.length_append] at h1
  rw [gD_last] at h2
  exact ⟨h1, h2⟩
theorem onLast_at {ss : List (Nm × List Nm)} {ks : List KS} {k : KS} (f : KS → Option KS) : onLast (ss, ks ++ [k], true) f = Option.map (fun k' => (ss, ks ++ [k'], true)) (f k) := by
  unfold onLast
  simp only [if_true, List.getLast?_concat, List.dropLast_concat]
  cases f k <;> rfl
set_option maxHeartbeats 2000000 in
theorem cm_failsLine (hF : FRok F G fr) (hS : MSr fi x n A) (hA : AOk n A) (hW : MWD fi ws) (hw : wok n ws) {w0 : Nat × Nat} {rest : List (Nat × Nat)} (hws : ws = w0 :: rest) : Rn d 31 0 [some (.ref 604)] [] (SH L, fi, fl, fr) (MacQ L fi fl fr x n (failL A rest)) := by
  have hl : ws.length = rest.length + 1 := by rw [hws]; rfl
  have hl6 := hw.2
  have hC := hS.2.2.2
  have no : failL A rest = none → Rn d 31 29 [some (.ref 604)] [] (SH L, fi, fl, fr) (MacQ L fi fl fr x n (failL A rest)) := by
    intro e
    refine Rn.iconst (0) k_31 rfl rfl ?_
    refine Rn.reti k_31 rfl q_31 rfl (rfl) ?_
    rw [e]
    exact ⟨fi, rfl, fun _ _ _ => rfl, rfl, fun B hB => by cases hB⟩
  refine Rn.aload_n k_31 rfl rfl ?_
  refine Rn.getI k_31 rfl rfl (s604 L) ?_
  rw [hW.1]
  refine Rn.iconst (1) k_31 rfl rfl ?_
  refine Rn.icmp_ne 29 k_31 rfl rfl (fun h1 => ?_) (fun h1 => ?_)
  · rw [c_eq 1 1 rfl (by omega) (by decide)] at h1
    refine no ?_
    unfold failL
    rw [if_neg]
    intro e
    rw [e] at hl
    exact h1 hl
  · rw [c_eq 1 1 rfl (by omega) (by decide)] at h1
    have hr : rest = [] := List.eq_nil_of_length_eq_zero (by omega)
    refine Rn.aload_n k_31 rfl rfl ?_
    refine Rn.getI k_31 rfl rfl (s604 L) ?_
    rw [hC]
    refine Rn.if_eq 29 k_31 rfl rfl (fun h2 => ?_) (fun h2 => ?_)
    · (try rw [bI_0] at h2)
      (try rw [Bool.not_eq_false] at h2)
      exact no (failL_shut h2 _)
    · (try rw [bI_0] at h2)
      (try rw [Bool.not_eq_false] at h2)
      obtain ⟨ss, ks, k, rfl, hsu⟩ := hA.inK h2
      obtain ⟨hi, hk⟩ := ckl hA
      obtain ⟨h14, hK⟩ := hS.lastOf
      have eL : failL (ss, ks ++ [k], true) rest = Option.map (fun k' => (ss, ks ++ [k'], true)) ((if k_fl k = false then some (k_su k, k_nm k, k_ln k, k_sz k, k_rs k, true, k_tg k, k_ps k) else none)) := by
        unfold failL
        rw [if_pos hr, onLast_at]
      refine Rn.aload_n k_31 rfl rfl ?_
      refine Rn.getA k_31 rfl rfl (s604 L) (hF.l 45 rfl) ?_
      refine Rn.aload_n k_31 rfl rfl ?_
      refine Rn.getI k_31 rfl rfl (s604 L) ?_
      rw [h14]
      refine Rn.iconst (1) k_31 rfl rfl ?_
      refine Rn.isub k_31 rfl ?_
      rw [c_sub 1 1 rfl (by omega), Nat.add_sub_cancel]
      refine Rn.baload (ks.length) k_31 rfl (s621 L) (rfl) (hi) (by decide) ?_
      rw [hK.2.2.2.2.2.2.1]
      refine Rn.if_eq 31 k_31 rfl rfl (fun h3 => ?_) (fun h3 => ?_)
      · (try rw [bI_0] at h3)
        (try rw [Bool.not_eq_false] at h3)
        refine Rn.aload_n k_31 rfl rfl ?_
        refine Rn.getA k_31 rfl rfl (s604 L) (hF.l 45 rfl) ?_
        refine Rn.aload_n k_31 rfl rfl ?_
        refine Rn.getI k_31 rfl rfl (s604 L) ?_
        rw [h14]
        refine Rn.iconst (1) k_31 rfl rfl ?_
        refine Rn.isub k_31 rfl ?_
        rw [c_sub 1 1 rfl (by omega), Nat.add_sub_cancel]
        refine Rn.iconst (1) k_31 rfl rfl ?_
        refine Rn.bastore (ks.length) k_31 rfl (s621 L) (rfl) (hi) (by decide) (rfl) ?_
        refine Rn.iconst (1) k_31 rfl rfl ?_
        refine Rn.reti k_31 rfl q_31 rfl (rfl) ?_
        rw [eL, if_pos h3]
        refine ⟨_, rfl, fun a j ha => ?_, rfl, fun B hB => ?_⟩
        · unfold mF at ha
          exact up2_row _ _ (by omega)
        · cases hB
          refine hS.lastK hA (fun a j z => ?_) ?_
          · by_cases ea : a = 621
            · subst ea; exact up2_col _ _ (by omega)
            · exact up2_row _ _ ea
          · obtain ⟨a1, a2, a3, a4, a5, a6, a7, a8, a9, a10, a11⟩ := hK
            have e0 : ∀ a j, a ≠ 621 → up2 fi 621 ks.length 1 a j = fi a j := fun a j z => up2_row _ _ z
            exact ⟨a1, a2, a3, a4, a5, a6, up2_same _ _ _ _, a8, a9, a10, a11⟩
      · (try rw [bI_0] at h3)
        (try rw [Bool.not_eq_false] at h3)
        refine no ?_
        rw [eL, if_neg (by rw [h3]; decide)]
        rfl
set_option maxHeartbeats 2000000 in
theorem cm_skipLine (hF : FRok F G fr) (hS : MSr fi x n A) (hA : AOk n A) (hW : MWD fi ws) (hw : wok n ws) {w0 : Nat × Nat} {rest : List (Nat × Nat)} (hws : ws = w0 :: rest) : Rn d 30 0 [some (.ref 604)] [] (SH L, fi, fl, fr) (MacQ L fi fl fr x n (skipL A ws rest)) := by
  have hl : ws.length = rest.length + 1 := by rw [hws]; rfl
  have hl6 := hw.2
  have hC := hS.2.2.2
  have hn := hS.1.2
  have no : skipL A ws rest = none → Rn d 30 30 [some (.ref 604)] [] (SH L, fi, fl, fr) (MacQ L fi fl fr x n (skipL A ws rest)) := by
    intro e
    refine Rn.iconst (0) k_30 rfl rfl ?_
    refine Rn.reti k_30 rfl q_30 rfl (rfl) ?_
    rw [e]
    exact ⟨fi, rfl, fun _ _ _ => rfl, rfl, fun B hB => by cases hB⟩
  refine Rn.aload_n k_30 rfl rfl ?_
  refine Rn.getI k_30 rfl rfl (s604 L) ?_
  rw [hW.1]
  refine Rn.iconst (2) k_30 rfl rfl ?_
  refine Rn.icmp_lt 30 k_30 rfl rfl (fun h1 => ?_) (fun h1 => ?_)
  · rw [c_lt 2 2 rfl (by omega) (by decide)] at h1
    have : rest = [] := List.eq_nil_of_length_eq_zero (by omega)
    subst this
    exact no rfl
  · rw [c_lt 2 2 rfl (by omega) (by decide)] at h1
    match rest, hl, hws, no with
    | [], hl, _, _ => exact absurd hl (by simp; omega)
    | w :: r, hl, hws, no =>
      refine Rn.aload_n k_30 rfl rfl ?_
      refine Rn.getI k_30 rfl rfl (s604 L) ?_
      rw [hC]
      refine Rn.if_eq 30 k_30 rfl rfl (fun h2 => ?_) (fun h2 => ?_)
      · (try rw [bI_0] at h2)
        (try rw [Bool.not_eq_false] at h2)
        exact no (skipL_shut h2 _ _)
      · (try rw [bI_0] at h2)
        (try rw [Bool.not_eq_false] at h2)
        obtain ⟨ss, ks, k, rfl, hsu⟩ := hA.inK h2
        obtain ⟨hi, hk⟩ := ckl hA
        obtain ⟨h14, hK⟩ := hS.lastOf
        have eL : skipL (ss, ks ++ [k], true) ws (w :: r) = Option.map (fun k' => (ss, ks ++ [k'], true)) ((if k_rs k = none then some (k_su k, k_nm k, k_ln k, k_sz k, some (w.1, (ws.getLastD (0, 0)).2), k_fl k, k_tg k, k_ps k) else none)) := by
          unfold skipL
          exact onLast_at _
        have hg : ws.getD 1 (0, 0) = w := by rw [hws]; rfl
        have hgl : ws.getLastD (0, 0) = ws.getD (ws.length - 1) (0, 0) := by
          rw [List.getLastD_eq_getLast?, List.getLast?_eq_getElem?, List.getD_eq_getElem?_getD]
        obtain ⟨v1, v2⟩ := hW.2 (ws.length - 1) (by omega)
        rw [← hgl] at v1 v2
        obtain ⟨w1, w2⟩ := hW.2 1 (by omega)
        rw [hg] at w1 w2
        refine Rn.aload_n k_30 rfl rfl ?_
        refine Rn.getA k_30 rfl rfl (s604 L) (hF.l 44 rfl) ?_
        refine Rn.aload_n k_30 rfl rfl ?_
        refine Rn.getI k_30 rfl rfl (s604 L) ?_
        rw [h14]
        refine Rn.iconst (1) k_30 rfl rfl ?_
        refine Rn.isub k_30 rfl ?_
        rw [c_sub 1 1 rfl (by omega), Nat.add_sub_cancel]
        refine Rn.iaload (ks.length) k_30 rfl (s620 L) (rfl) (hi) (by decide) ?_
        refine Rn.iconst (-1) k_30 rfl rfl ?_
        refine Rn.icmp_eq 32 k_30 rfl rfl (fun h3 => ?_) (fun h3 => ?_)
        · -- none yet
          have hrs : k_rs k = none := by
            cases hz : k_rs k with
            | none => rfl
            | some q =>
              have := (hK.2.2.2.2.2.1 q hz).2
              have hq := hk.2.2.2.2.1 q hz
              rw [this] at h3
              exact absurd h3 (c_m1 (by omega))
          refine Rn.aload_n k_30 rfl rfl ?_
          refine Rn.getA k_30 rfl rfl (s604 L) (hF.l 43 rfl) ?_
          refine Rn.aload_n k_30 rfl rfl ?_
          refine Rn.getI k_30 rfl rfl (s604 L) ?_
          rw [h14]
          refine Rn.iconst (1) k_30 rfl rfl ?_
          refine Rn.isub k_30 rfl ?_
          rw [c_sub 1 1 rfl (by omega), Nat.add_sub_cancel]
          refine Rn.aload_n k_30 rfl rfl ?_
          refine Rn.getA k_30 rfl rfl (s604 L) (hF.l 31 rfl) ?_
          refine Rn.iconst (1) k_30 rfl rfl ?_
          refine Rn.iaload (1) k_30 rfl (s607 L) (rfl) (by omega) (by decide) ?_
          rw [w1]
          refine Rn.iastore (ks.length) k_30 rfl (s619 L) (rfl) (hi) (by decide) (rfl) ?_
          refine Rn.aload_n k_30 rfl rfl ?_
          refine Rn.getA k_30 rfl rfl (s604 L) (hF.l 44 rfl) ?_
          refine Rn.aload_n k_30 rfl rfl ?_
          refine Rn.getI k_30 rfl rfl (s604 L) ?_
          rw [show up2 fi 619 ks.length (nI w.1) 604 14 = nI (ks.length + 1) from h14]
          refine Rn.iconst (1) k_30 rfl rfl ?_
          refine Rn.isub k_30 rfl ?_
          rw [c_sub 1 1 rfl (by omega), Nat.add_sub_cancel]
          refine Rn.aload_n k_30 rfl rfl ?_
          refine Rn.getA k_30 rfl rfl (s604 L) (hF.l 32 rfl) ?_
          refine Rn.aload_n k_30 rfl rfl ?_
          refine Rn.getI k_30 rfl rfl (s604 L) ?_
          rw [show up2 fi 619 ks.length (nI w.1) 604 5 = nI ws.length from hW.1]
          refine Rn.iconst (1) k_30 rfl rfl ?_
          refine Rn.isub k_30 rfl ?_
          rw [c_sub 1 1 rfl (by omega)]
          refine Rn.iaload (ws.length - 1) k_30 rfl (s608 L) (rfl) (by omega) (by decide) ?_
          rw [show up2 fi 619 ks.length (nI w.1) 608 (ws.length - 1) = nI (ws.getLastD (0, 0)).2 from v2]
          refine Rn.iastore (ks.length) k_30 rfl (s620 L) (rfl) (hi) (by decide) (rfl) ?_
          refine Rn.iconst (1) k_30 rfl rfl ?_
          refine Rn.reti k_30 rfl q_30 rfl (rfl) ?_
          rw [eL, if_pos hrs]
          refine ⟨_, rfl, fun a j ha => ?_, rfl, fun B hB => ?_⟩
          · unfold mF at ha
            rw [up2_row _ _ (by omega), up2_row _ _ (by omega)]
          · cases hB
            refine hS.lastK hA (fun a j z => ?_) ?_
            · unfold up2
              by_cases ea : a = 620
              · rw [if_pos ea, if_neg (by omega), if_neg (by omega)]
              · rw [if_neg ea]
                by_cases eb : a = 619
                · rw [if_pos eb, if_neg (by omega)]
                · rw [if_neg eb]
            · obtain ⟨a1, a2, a3, a4, a5, a6, a7, a8, a9, a10, a11⟩ := hK
              refine ⟨a1, a2, a3, a4, (fun z => by cases z), fun q hq => ?_, a7, a8, a9, a10, a11⟩
              cases hq
              exact ⟨by rw [up2_row _ _ (by decide), up2_same], up2_same _ _ _ _⟩
        · refine no ?_
          rw [eL, if_neg (fun z => h3 (hK.2.2.2.2.1 z))]
          rfl
set_option maxHeartbeats 2000000 in
theorem cm_sizeLine (hF : FRok F G fr) (hS : MSr fi x n A) (hA : AOk n A) (hW : MWD fi ws) (hw : wok n ws) {w0 : Nat × Nat} {rest : List (Nat × Nat)} (hws : ws = w0 :: rest) : Rn d 29 0 [some (.ref 604), none, none] [] (SH L, fi, fl, fr) (MacQ L fi fl fr x n (sizeL x A rest)) := by
  have hl : ws.length = rest.length + 1 := by rw [hws]; rfl
  have hl6 := hw.2
  have hC := hS.2.2.2
  have hn := hS.1.2
  have no : sizeL x A rest = none → ∀ o1 o2, Rn d 29 56 [some (.ref 604), o1, o2] [] (SH L, fi, fl, fr) (MacQ L fi fl fr x n (sizeL x A rest)) := by
    intro e o1 o2
    refine Rn.iconst (0) k_29 rfl rfl ?_
    refine Rn.reti k_29 rfl q_29 rfl (rfl) ?_
    rw [e]
    exact ⟨fi, rfl, fun _ _ _ => rfl, rfl, fun B hB => by cases hB⟩
  have no2 : sizeL x A rest = none → Rn d 29 36 [some (.ref 604), none, none] [] (SH L, fi, fl, fr) (MacQ L fi fl fr x n (sizeL x A rest)) := by
    intro e
    refine Rn.iconst (0) k_29 rfl rfl ?_
    refine Rn.istore_n1 k_29 rfl rfl ?_
    refine Rn.iload_n k_29 rfl rfl ?_
    refine Rn.if_eq 56 k_29 rfl rfl (fun h4 => ?_) (fun h4 => ?_)
    · exact no e _ _
    · exact absurd rfl h4
  refine Rn.aload_n k_29 rfl rfl ?_
  refine Rn.getI k_29 rfl rfl (s604 L) ?_
  rw [hW.1]
  refine Rn.iconst (2) k_29 rfl rfl ?_
  refine Rn.icmp_ne 36 k_29 rfl rfl (fun h1 => ?_) (fun h1 => ?_)
  · rw [c_eq 2 2 rfl (by omega) (by decide)] at h1
    refine no2 ?_
    match rest, hl with
    | [], _ => rfl
    | [w], hl => exact absurd hl h1
    | w :: w' :: r, _ => rfl
  · rw [c_eq 2 2 rfl (by omega) (by decide)] at h1
    match rest, hl, hws, no, no2 with
    | [], hl, _, _, _ => exact absurd hl (by simp; omega)
    | w :: w' :: r, hl, _, _, _ => exact absurd hl (by simp only [List.length_cons]; omega)
    | [w], hl, hws, no, no2 =>
      refine Rn.aload_n k_29 rfl rfl ?_
      refine Rn.getI k_29 rfl rfl (s604 L) ?_
      rw [hC]
      refine Rn.if_eq 36 k_29 rfl rfl (fun h2 => ?_) (fun h2 => ?_)
      · (try rw [bI_0] at h2)
        (try rw [Bool.not_eq_false] at h2)
        exact no2 (sizeL_shut h2 _ _)
      · (try rw [bI_0] at h2)
        (try rw [Bool.not_eq_false] at h2)
        obtain ⟨ss, ks, k, rfl, hsu⟩ := hA.inK h2
        obtain ⟨hi, hk⟩ := ckl hA
        obtain ⟨h14, hK⟩ := hS.lastOf
        have eL : sizeL x (ss, ks ++ [k], true) [w] = if wnum x w = 0 then none else Option.map (fun k' => (ss, ks ++ [k'], true)) ((if k_sz k = 0 then some (k_su k, k_nm k, k_ln k, wnum x w, k_rs k, k_fl k, k_tg k, k_ps k) else none)) := by
          unfold sizeL
          show (if wnum x w = 0 then none else onLast _ _) = _
          rw [onLast_at]
        have hg : ws.getD 1 (0, 0) = w := by rw [hws]; rfl
        obtain ⟨w1, w2⟩ := hW.2 1 (by omega)
        have hww := wok_at hw (show 1 < ws.length by omega)
        rw [hg] at w1 w2 hww
        refine Rn.aload_n k_29 rfl rfl ?_
        refine Rn.getA k_29 rfl rfl (s604 L) (hF.l 32 rfl) ?_
        refine Rn.iconst (1) k_29 rfl rfl ?_
        refine Rn.iaload (1) k_29 rfl (s608 L) (rfl) (by omega) (by decide) ?_
        refine Rn.aload_n k_29 rfl rfl ?_
        refine Rn.getA k_29 rfl rfl (s604 L) (hF.l 31 rfl) ?_
        refine Rn.iconst (1) k_29 rfl rfl ?_
        refine Rn.iaload (1) k_29 rfl (s607 L) (rfl) (by omega) (by decide) ?_
        rw [w1, w2]
        refine Rn.iconst (1) k_29 rfl rfl ?_
        refine Rn.iadd k_29 rfl ?_
        rw [c_add 1 1 rfl]
        refine Rn.icmp_ne 36 k_29 rfl rfl (fun h3 => ?_) (fun h3 => ?_)
        · rw [nI_eq (by omega) (by omega)] at h3
          refine no2 ?_
          rw [eL, if_pos]
          unfold wnum
          rw [if_neg (by omega)]
        · rw [nI_eq (by omega) (by omega)] at h3
          refine Rn.iconst (1) k_29 rfl rfl ?_
          refine Rn.goto 37 k_29 rfl rfl ?_
          refine Rn.istore_n1 k_29 rfl rfl ?_
          refine Rn.iload_n k_29 rfl rfl ?_
          refine Rn.if_eq 56 k_29 rfl rfl (fun h4 => ?_) (fun h4 => ?_)
          · exact absurd h4 (by decide)
          · refine Rn.aload_n k_29 rfl rfl ?_
            refine Rn.getA k_29 rfl rfl (s604 L) (hF.l 42 rfl) ?_
            refine Rn.aload_n k_29 rfl rfl ?_
            refine Rn.getI k_29 rfl rfl (s604 L) ?_
            rw [h14]
            refine Rn.iconst (1) k_29 rfl rfl ?_
            refine Rn.isub k_29 rfl ?_
            rw [c_sub 1 1 rfl (by omega), Nat.add_sub_cancel]
            refine Rn.iaload (ks.length) k_29 rfl (s618 L) (rfl) (hi) (by decide) ?_
            rw [hK.2.2.2.1]
            have h9 := hk.2.2.2.1
            refine Rn.if_eq 58 k_29 rfl rfl (fun h5 => ?_) (fun h5 => ?_)
            · rw [c_eq 0 0 rfl (by omega) (by decide)] at h5
              obtain ⟨t1, t2⟩ := hS.1.1 w.1 (by omega)
              refine Rn.aload_n k_29 rfl rfl ?_
              refine Rn.getA k_29 rfl rfl (s604 L) (hF.l 30 rfl) ?_
              refine Rn.aload_n k_29 rfl rfl ?_
              refine Rn.getA k_29 rfl rfl (s604 L) (hF.l 31 rfl) ?_
              refine Rn.iconst (1) k_29 rfl rfl ?_
              refine Rn.iaload (1) k_29 rfl (s607 L) (rfl) (by omega) (by decide) ?_
              rw [w1]
              refine Rn.iaload (w.1) k_29 rfl (s606 L) (rfl) (by omega) (by decide) ?_
              rw [t1]
              refine Rn.istore_n2 k_29 rfl rfl ?_
              refine Rn.aload_n k_29 rfl rfl ?_
              refine Rn.getA k_29 rfl rfl (s604 L) (hF.l 42 rfl) ?_
              refine Rn.aload_n k_29 rfl rfl ?_
              refine Rn.getI k_29 rfl rfl (s604 L) ?_
              rw [h14]
              refine Rn.iconst (1) k_29 rfl rfl ?_
              refine Rn.isub k_29 rfl ?_
              rw [c_sub 1 1 rfl (by omega), Nat.add_sub_cancel]
              have bad : ¬ (49 ≤ x w.1 ∧ x w.1 ≤ 57) → Rn d 29 101 [some (.ref 604), some (.int 1), some (.int (nI (x w.1)))] [] (SH L, up2 fi 618 ks.length (nI (x w.1) - 48), fl, fr) (MacQ L fi fl fr x n (sizeL x (ss, ks ++ [k], true) [w])) := by
                intro z
                refine Rn.iconst (0) k_29 rfl rfl ?_
                refine Rn.reti k_29 rfl q_29 rfl (rfl) ?_
                have ew : wnum x w = 0 := by
                  unfold wnum
                  rw [if_neg (fun q => z q.2)]
                rw [eL, if_pos ew]
                refine ⟨_, rfl, fun a j ha => ?_, rfl, fun B hB => by cases hB⟩
                unfold mF at ha
                exact up2_row _ _ (by omega)
              refine Rn.iload_n k_29 rfl rfl ?_
              refine Rn.bipush (48) k_29 rfl rfl ?_
              refine Rn.isub k_29 rfl ?_
              refine Rn.iastore (ks.length) k_29 rfl (s618 L) (rfl) (hi) (by decide) (rfl) ?_
              refine Rn.iload_n k_29 rfl rfl ?_
              refine Rn.bipush (49) k_29 rfl rfl ?_
              refine Rn.icmp_lt 101 k_29 rfl rfl (fun h6 => ?_) (fun h6 => ?_)
              · rw [c_lt 49 49 rfl (by omega) (by decide)] at h6
                exact bad (by omega)
              · rw [c_lt 49 49 rfl (by omega) (by decide)] at h6
                refine Rn.iload_n k_29 rfl rfl ?_
                refine Rn.bipush (57) k_29 rfl rfl ?_
                refine Rn.icmp_gt 101 k_29 rfl rfl (fun h7 => ?_) (fun h7 => ?_)
                · rw [c_gt 57 57 rfl (by omega) (by decide)] at h7
                  exact bad (by omega)
                · rw [c_gt 57 57 rfl (by omega) (by decide)] at h7
                  refine Rn.iconst (1) k_29 rfl rfl ?_
                  refine Rn.goto 102 k_29 rfl rfl ?_
                  refine Rn.reti k_29 rfl q_29 rfl (rfl) ?_
                  have ew : wnum x w = x w.1 - 48 := by
                    unfold wnum
                    rw [if_pos (by omega)]
                  rw [eL, if_neg (by omega), if_pos h5]
                  refine ⟨_, rfl, fun a j ha => ?_, rfl, fun B hB => ?_⟩
                  · unfold mF at ha
                    exact up2_row _ _ (by omega)
                  · cases hB
                    refine hS.lastK hA (fun a j z => ?_) ?_
                    · by_cases ea : a = 618
                      · subst ea; exact up2_col _ _ (by omega)
                      · exact up2_row _ _ ea
                    · obtain ⟨a1, a2, a3, a4, a5, a6, a7, a8, a9, a10, a11⟩ := hK
                      refine ⟨a1, a2, a3, ?_, a5, a6, a7, a8, a9, a10, a11⟩
                      rw [up2_same, c_sub 48 48 rfl (by omega), ← ew]
                      rfl
            · rw [c_eq 0 0 rfl (by omega) (by decide)] at h5
              refine no ?_ _ _
              rw [eL, if_neg (show ¬ k_sz k = 0 from h5)]
              split <;> rfl
end MU
