/-! THE REFERENCE: tagWord, tagLine -/
section MT
variable {d L : Nat} {fi : Nat → Nat → Int32} {fl : Nat → Nat → Int64} {fr : Nat → Nat → Option Nat} {F G : Nat} {x : Nat → Nat} {n : Nat} {A : AS} {ws : List (Nat × Nat)}
set_option maxHeartbeats 4000000 in
theorem cm_tagWord (hF : FRok F G fr) (hS : MSr fi x n A) (hA : AOk n A) (hW : MWD fi ws) (hw : wok n ws) {k : Nat} (hk : k < ws.length) (hor : A.2.2 = true ∨ A.1 ≠ []) : Rn (d + 3) 26 0 [some (.ref 604), some (.int (nI k)), none] [] (SH L, fi, fl, fr) (MacQ L fi fl fr x n (tagW A (wd x (ws.getD k (0, 0))))) := by
  have hS0 := hS
  obtain ⟨hT, hU, hK, hC⟩ := hS
  have hl6 := hw.2
  have hn := hT.2
  have h10 := hA.1
  have h40 := hA.2.2.2.1
  obtain ⟨w1, w2⟩ := hW.2 k hk
  obtain ⟨w3, w4⟩ := wok_at hw hk
  have hsl : sl x (ws.getD k (0, 0)).1 (ws.getD k (0, 0)).2 = wd x (ws.getD k (0, 0)) := rfl
  have hRt := cm_isRight (d := d) (L := L) (fl := fl) (b := true) hF hT hW hw hk
  rw [if_pos rfl] at hRt
  have hsu := fun {s : Nat} (hs : s < 10) {tg : List Nm} (h8 : tg.length ≤ 8) h11 h12 => cm_suiteHas (d := d + 1) (L := L) (fl := fl) hF hT hW hw hk (s := s) hs (tg := tg) h8 h11 h12
  have hca := fun {s : Nat} (hs : s < 40) {tg : List Nm} (h8 : tg.length ≤ 8) h11 h12 => cm_caseHas (d := d + 1) (L := L) (fl := fl) hF hT hW hw hk (s := s) hs (tg := tg) h8 h11 h12
  generalize wd x (ws.getD k (0, 0)) = t at hsl hRt hsu hca ⊢
  generalize (ws.getD k (0, 0)).1 = ws1 at w1 w3 hsl
  generalize (ws.getD k (0, 0)).2 = ws2 at w2 w3 w4 hsl
  have no : tagW A t = none → Rn (d + 3) 26 30 [some (.ref 604), some (.int (nI k)), none] [] (SH L, fi, fl, fr) (MacQ L fi fl fr x n (tagW A t)) := by
    intro e
    refine Rn.iconst (0) k_26 rfl rfl ?_
    refine Rn.reti k_26 rfl q_26 rfl (rfl) ?_
    rw [e]
    exact ⟨fi, rfl, fun _ _ _ => rfl, rfl, fun B hB => by cases hB⟩
  have notag : ∀ (_ : Option Nat), tagW A t = none → MacQ L fi fl fr x n (tagW A t) (some (.int 0)) (SH L, fi, fl, fr) := fun _ e => by
    rw [e]
    exact ⟨fi, rfl, fun _ _ _ => rfl, rfl, fun B hB => by cases hB⟩
  refine Rn.aload_n k_26 rfl rfl ?_
  refine Rn.iload_n k_26 rfl rfl ?_
  refine Rn.iconst (1) k_26 rfl rfl ?_
  refine Rn.cV3I k_26 rfl rfl q_19 rfl (Nat.le_of_ble_eq_true rfl) (Nat.le_of_ble_eq_true rfl) (s604 L) (hRt) ?_
  refine Rn.if_eq 30 k_26 rfl rfl (fun h1 => ?_) (fun h1 => ?_)
  · (try rw [bI_0] at h1)
    (try rw [Bool.not_eq_false] at h1)
    refine no ?_
    unfold tagW
    rw [if_pos h1]
  · (try rw [bI_0] at h1)
    (try rw [Bool.not_eq_false] at h1)
    have hstl : stg A.1 A.1.length = (if A.1.length = 0 then [] else (A.1.getD (A.1.length - 1) dU).2) := by
      split
      · rename_i h; rw [h]; rfl
      · rename_i h; exact stg_at h
    -- where the tag is none of the suite's
    have main : t ∉ stg A.1 A.1.length → Rn (d + 3) 26 32 [some (.ref 604), some (.int (nI k)), none] [] (SH L, fi, fl, fr) (MacQ L fi fl fr x n (tagW A t)) := by
      intro hnt
      refine Rn.aload_n k_26 rfl rfl ?_
      refine Rn.getI k_26 rfl rfl (s604 L) ?_
      rw [hC]
      refine Rn.if_ne 115 k_26 rfl rfl (fun h4 => ?_) (fun h4 => ?_)
      · (try rw [bI_0] at h4)
        (try rw [Bool.not_eq_false] at h4)
        obtain ⟨ss, ks, q, rfl, hsu2⟩ := hA.inK h4
        have hlk : (ks ++ [q]).length = ks.length + 1 := by simp
        have h40 : (ks ++ [q]).length ≤ 40 := h40
        have hcl : ks.length < (ks ++ [q]).length := by omega
        obtain ⟨-, hkq⟩ := ckl hA
        have hKq := hK.2 ks.length hcl
        have hKq : MKr fi x n ks.length ((ks ++ [q]).getD ks.length dK) := hKq
        rw [gD_last] at hKq
        have hK1 : fi 604 14 = nI (ks.length + 1) := by rw [hK.1]; show nI (ks ++ [q]).length = _; rw [hlk]
        have h8a := hkq.2.2.2.2.2.2.1
        have h8b : (atg ss q).length = (stg ss ss.length).length + (k_tg q).length := by
          unfold atg; rw [List.length_append, hsu2]
        have etag : tagW (ss, ks ++ [q], true) t = if t ∈ atg ss q ∨ 8 ≤ (atg ss q).length then none else some (ss, ks ++ [(k_su q, k_nm q, k_ln q, k_sz q, k_rs q, k_fl q, k_tg q ++ [t], k_ps q)], true) := by
          unfold tagW
          rw [if_neg (by rw [h1]; decide)]
          simp only [if_true, List.getLast?_concat, List.dropLast_concat]
        have hmem : t ∈ atg ss q ↔ t ∈ k_tg q := by
          unfold atg
          rw [List.mem_append, hsu2]
          exact ⟨fun z => z.resolve_left hnt, Or.inr⟩
        have htg := hKq.2.2.2.2.2.2.2.1
        have hta := hKq.2.2.2.2.2.2.2.2.1
        have hto := cm_tagsOf (d := d + 2) (L := L) (fl := fl) hF hU hK hA hcl
        have hto : Rn (d + 2) 25 0 [some (.ref 604), some (.int (nI ks.length))] [] (SH L, fi, fl, fr) (Ret (SH L, fi, fl, fr) (some (.int (nI (atg ss ((ks ++ [q]).getD ks.length dK)).length)))) := hto
        rw [gD_last] at hto
        refine Rn.aload_n k_26 rfl rfl ?_
        refine Rn.getI k_26 rfl rfl (s604 L) ?_
        rw [hK1]
        refine Rn.iconst (1) k_26 rfl rfl ?_
        refine Rn.isub k_26 rfl ?_
        rw [c_sub 1 1 rfl (by omega), Nat.add_sub_cancel]
        refine Rn.istore_n2 k_26 rfl rfl ?_
        refine Rn.aload_n k_26 rfl rfl ?_
        refine Rn.iload_n k_26 rfl rfl ?_
        refine Rn.iload_n k_26 rfl rfl ?_
        refine Rn.cV3I k_26 rfl rfl q_24 rfl (Nat.le_of_ble_eq_true rfl) (Nat.le_of_ble_eq_true rfl) (s604 L) (hca (by omega) (by omega) htg hta) ?_
        rw [etag] at notag ⊢
        refine Rn.if_ne 141 k_26 rfl rfl (fun h6 => ?_) (fun h6 => ?_)
        · (try rw [bI_0] at h6)
          (try rw [Bool.not_eq_false] at h6)
          have h6 := of_decide_eq_true h6
          refine Rn.iconst (0) k_26 rfl rfl ?_
          refine Rn.reti k_26 rfl q_26 rfl (rfl) ?_
          exact notag none (if_pos (Or.inl (hmem.mpr h6)))
        · (try rw [bI_0] at h6)
          (try rw [Bool.not_eq_false] at h6)
          have h6 := of_decide_eq_false h6
          refine Rn.aload_n k_26 rfl rfl ?_
          refine Rn.iload_n k_26 rfl rfl ?_
          refine Rn.cV2I k_26 rfl rfl q_25 rfl (Nat.le_of_ble_eq_true rfl) (Nat.le_of_ble_eq_true rfl) (s604 L) (hto) ?_
          refine Rn.bipush (8) k_26 rfl rfl ?_
          refine Rn.icmp_ne 143 k_26 rfl rfl (fun h7 => ?_) (fun h7 => ?_)
          · rw [c_eq 8 8 rfl (by omega) (by decide)] at h7
            rw [if_neg (fun z => z.elim (fun y => h6 (hmem.mp y)) (fun y => by omega))]
            refine Rn.aload_n k_26 rfl rfl ?_
            refine Rn.getA k_26 rfl rfl (s604 L) (hF.l 47 rfl) ?_
            refine Rn.bipush (8) k_26 rfl rfl ?_
            refine Rn.iload_n k_26 rfl rfl ?_
            refine Rn.imul k_26 rfl ?_
            refine Rn.aload_n k_26 rfl rfl ?_
            refine Rn.getA k_26 rfl rfl (s604 L) (hF.l 46 rfl) ?_
            refine Rn.iload_n k_26 rfl rfl ?_
            refine Rn.iaload (ks.length) k_26 rfl (s622 L) (rfl) (by omega) (by decide) ?_
            rw [htg, show (8 : Int32) = nI 8 from rfl, pk_mul]
            refine Rn.iadd k_26 rfl ?_
            rw [nI_add]
            refine Rn.aload_n k_26 rfl rfl ?_
            refine Rn.getA k_26 rfl rfl (s604 L) (hF.l 31 rfl) ?_
            refine Rn.iload_n k_26 rfl rfl ?_
            refine Rn.iaload (k) k_26 rfl (s607 L) (rfl) (by omega) (by decide) ?_
            rw [w1]
            refine Rn.iastore (8 * ks.length + (k_tg q).length) k_26 rfl (s623 L) (rfl) (by omega) (by decide) (rfl) ?_
            refine Rn.aload_n k_26 rfl rfl ?_
            refine Rn.getA k_26 rfl rfl (s604 L) (hF.l 48 rfl) ?_
            refine Rn.bipush (8) k_26 rfl rfl ?_
            refine Rn.iload_n k_26 rfl rfl ?_
            refine Rn.imul k_26 rfl ?_
            refine Rn.aload_n k_26 rfl rfl ?_
            refine Rn.getA k_26 rfl rfl (s604 L) (hF.l 46 rfl) ?_
            refine Rn.iload_n k_26 rfl rfl ?_
            refine Rn.iaload (ks.length) k_26 rfl (s622 L) (rfl) (by omega) (by decide) ?_
            rw [show up2 fi 623 (8 * ks.length + (k_tg q).length) (nI ws1) 622 ks.length = nI (k_tg q).length from htg, show (8 : Int32) = nI 8 from rfl, pk_mul]
            refine Rn.iadd k_26 rfl ?_
            rw [nI_add]
            refine Rn.aload_n k_26 rfl rfl ?_
            refine Rn.getA k_26 rfl rfl (s604 L) (hF.l 32 rfl) ?_
            refine Rn.iload_n k_26 rfl rfl ?_
            refine Rn.iaload (k) k_26 rfl (s608 L) (rfl) (by omega) (by decide) ?_
            rw [show up2 fi 623 (8 * ks.length + (k_tg q).length) (nI ws1) 608 k = nI ws2 from w2]
            refine Rn.iastore (8 * ks.length + (k_tg q).length) k_26 rfl (s624 L) (rfl) (by omega) (by decide) (rfl) ?_
            refine Rn.aload_n k_26 rfl rfl ?_
            refine Rn.getA k_26 rfl rfl (s604 L) (hF.l 46 rfl) ?_
            refine Rn.iload_n k_26 rfl rfl ?_
            refine Rn.dup2 k_26 rfl ?_
            refine Rn.iaload (ks.length) k_26 rfl (s622 L) (rfl) (by omega) (by decide) ?_
            rw [show up2 (up2 fi 623 (8 * ks.length + (k_tg q).length) (nI ws1)) 624 (8 * ks.length + (k_tg q).length) (nI ws2) 622 ks.length = nI (k_tg q).length from htg]
            refine Rn.iconst (1) k_26 rfl rfl ?_
            refine Rn.iadd k_26 rfl ?_
            rw [c_add 1 1 rfl]
            refine Rn.iastore (ks.length) k_26 rfl (s622 L) (rfl) (by omega) (by decide) (rfl) ?_
            refine Rn.iconst (1) k_26 rfl rfl ?_
            refine Rn.reti k_26 rfl q_26 rfl (rfl) ?_
            generalize hE : up2 (up2 (up2 fi 623 (8 * ks.length + (k_tg q).length) (nI ws1)) 624 (8 * ks.length + (k_tg q).length) (nI ws2)) 622 ks.length (nI ((k_tg q).length + 1)) = E
            have hEr : ∀ a j, a ≠ 622 → a ≠ 623 → a ≠ 624 → E a j = fi a j := fun a j z1 z2 z3 => by rw [← hE, up2_row _ _ z1, up2_row _ _ z3, up2_row _ _ z2]
            have hE2 : ∀ j, j ≠ ks.length → E 622 j = fi 622 j := fun j z => by rw [← hE, up2_col _ _ z, up2_row _ _ (by decide), up2_row _ _ (by decide)]
            have hE3 : ∀ j, j ≠ 8 * ks.length + (k_tg q).length → E 623 j = fi 623 j ∧ E 624 j = fi 624 j := fun j z => by
              refine ⟨?_, ?_⟩
              · rw [← hE, up2_row _ _ (by decide), up2_row _ _ (by decide), up2_col _ _ z]
              · rw [← hE, up2_row _ _ (by decide), up2_col _ _ z, up2_row _ _ (by decide)]
            have hE4 : E 622 ks.length = nI ((k_tg q).length + 1) := by rw [← hE, up2_same]
            have hE5 : E 623 (8 * ks.length + (k_tg q).length) = nI ws1 := by rw [← hE, up2_row _ _ (by decide), up2_row _ _ (by decide), up2_same]
            have hE6 : E 624 (8 * ks.length + (k_tg q).length) = nI ws2 := by rw [← hE, up2_row _ _ (by decide), up2_same]
            refine ⟨E, rfl, fun a j ha => ?_, rfl, fun B hB => ?_⟩
            · unfold mF at ha
              exact hEr a j (by omega) (by omega) (by omega)
            · cases hB
              refine ⟨hT.keep (fun j => hEr _ _ (by decide) (by decide) (by decide)), ⟨(hEr _ _ (by decide) (by decide) (by decide)).trans hU.1, fun s hs => (hU.2 s hs).keep (fun a j z1 z2 _ _ => hEr a j (by omega) (by omega) (by omega))⟩, ⟨?_, fun c hc => ?_⟩, (hEr _ _ (by decide) (by decide) (by decide)).trans hC⟩
              · rw [hEr _ _ (by decide) (by decide) (by decide), hK1]
                show _ = nI (ks ++ [_]).length
                rw [List.length_append]; rfl
              · have hc : c < (ks ++ [(k_su q, k_nm q, k_ln q, k_sz q, k_rs q, k_fl q, k_tg q ++ [t], k_ps q)]).length := hc
                rw [List.length_append] at hc
                have hc : c < ks.length + 1 := hc
                show MKr E x n c ((ks ++ [(k_su q, k_nm q, k_ln q, k_sz q, k_rs q, k_fl q, k_tg q ++ [t], k_ps q)]).getD c dK)
                by_cases e : c = ks.length
                · subst e
                  rw [gD_last]
                  obtain ⟨a1, a2, a3, a4, a5, a6, a7, a8, a9, a10, a11⟩ := hKq
                  have r0 : ∀ a j, a ≠ 622 → a ≠ 623 → a ≠ 624 → E a j = fi a j := hEr
                  refine ⟨(r0 _ _ (by decide) (by decide) (by decide)).trans a1, a2.keep (r0 _ _ (by decide) (by decide) (by decide)) (r0 _ _ (by decide) (by decide) (by decide)), (r0 _ _ (by decide) (by decide) (by decide)).trans a3, (r0 _ _ (by decide) (by decide) (by decide)).trans a4, fun z => (r0 _ _ (by decide) (by decide) (by decide)).trans (a5 z), fun r hr => ⟨(r0 _ _ (by decide) (by decide) (by decide)).trans (a6 r hr).1, (r0 _ _ (by decide) (by decide) (by decide)).trans (a6 r hr).2⟩, (r0 _ _ (by decide) (by decide) (by decide)).trans a7, ?_, fun t' ht' => ?_, (r0 _ _ (by decide) (by decide) (by decide)).trans a10, fun p hp => ?_⟩
                  · rw [hE4]
                    show _ = nI (k_tg q ++ [t]).length
                    rw [List.length_append]; rfl
                  · have ht' : t' < (k_tg q ++ [t]).length := ht'
                    rw [List.length_append] at ht'
                    have ht' : t' < (k_tg q).length + 1 := ht'
                    show SL E x n 623 624 (8 * ks.length + t') ((k_tg q ++ [t]).getD t' [])
                    by_cases et : t' = (k_tg q).length
                    · subst et
                      rw [gD_last]
                      exact ⟨ws1, ws2, hE5, hE6, by omega, w4, hsl⟩
                    · rw [gD_lt (by omega)]
                      exact (a9 t' (by omega)).keep (hE3 _ (by omega)).1 (hE3 _ (by omega)).2
                  · obtain ⟨b1, b2, b3⟩ := a11 p hp
                    exact ⟨b1.keep (r0 _ _ (by decide) (by decide) (by decide)) (r0 _ _ (by decide) (by decide) (by decide)), (r0 _ _ (by decide) (by decide) (by decide)).trans b2, fun v hv => (b3 v hv).keep (r0 _ _ (by decide) (by decide) (by decide)) (r0 _ _ (by decide) (by decide) (by decide))⟩
                · rw [gD_lt (by omega)]
                  have hcc : c < (ks ++ [q]).length := by omega
                  have hkc := hA.k (show c < (ss, ks ++ [q], true).2.1.length from hcc)
                  have hkc : KOk ss n ((ks ++ [q]).getD c dK) := hkc
                  have hKc := hK.2 c hcc
                  have hKc : MKr fi x n c ((ks ++ [q]).getD c dK) := hKc
                  rw [gD_lt (by omega)] at hKc hkc
                  have htl : (k_tg (ks.getD c dK)).length ≤ 8 := by
                    have := hkc.2.2.2.2.2.2.1
                    unfold atg at this
                    rw [List.length_append] at this
                    omega
                  refine hKc.keep hkc.2.2.2.2.2.2.2.2.1 (fun p hp => (hkc.pv hp).2) (fun a j z1 z2 z3 z4 z5 z6 => ?_)
                  by_cases ea : a = 622
                  · subst ea; exact hE2 j (by omega)
                  · by_cases eb : a = 623
                    · subst eb; exact (hE3 j (by omega)).1
                    · by_cases ec : a = 624
                      · subst ec; exact (hE3 j (by omega)).2
                      · exact hEr a j ea eb ec
          · rw [c_eq 8 8 rfl (by omega) (by decide)] at h7
            refine Rn.iconst (0) k_26 rfl rfl ?_
            refine Rn.reti k_26 rfl q_26 rfl (rfl) ?_
            exact notag none (if_pos (Or.inr (by omega)))
      · (try rw [bI_0] at h4)
        (try rw [Bool.not_eq_false] at h4)
        obtain ⟨ss, u, ks, rfl⟩ := AOk.noK h4 (hor.resolve_left (fun z => by rw [h4] at z; cases z))
        have hls : (ss ++ [u]).length = ss.length + 1 := by simp
        have h10 : (ss ++ [u]).length ≤ 10 := h10
        have hU1 : fi 604 8 = nI (ss.length + 1) := by rw [hU.1]; show nI (ss ++ [u]).length = _; rw [hls]
        have hUu : MUr fi x n ss.length ((ss ++ [u]).getD ss.length dU) := hU.2 ss.length (by show _ < (ss ++ [u]).length; omega)
        rw [gD_last] at hUu
        have huA := hA.2.1 u (by show u ∈ ss ++ [u]; simp)
        have h8 := huA.2.2.1
        have elt : stg (ss ++ [u]) (ss ++ [u]).length = u.2 := by
          rw [hls, stg_at (by omega), Nat.add_sub_cancel, gD_last]
        have hnt : t ∉ u.2 := by rw [← elt]; exact hnt
        have etag : tagW (ss ++ [u], ks, false) t = if t ∈ u.2 ∨ 8 ≤ u.2.length then none else some (ss ++ [(u.1, u.2 ++ [t])], ks, false) := by
          unfold tagW
          rw [if_neg (by rw [h1]; decide)]
          simp only [Bool.false_eq_true, if_false, List.getLast?_concat, List.dropLast_concat]
        have h11 := hUu.2.1
        rw [etag] at notag ⊢
        refine Rn.aload_n k_26 rfl rfl ?_
        refine Rn.getI k_26 rfl rfl (s604 L) ?_
        rw [hU1]
        refine Rn.iconst (1) k_26 rfl rfl ?_
        refine Rn.isub k_26 rfl ?_
        rw [c_sub 1 1 rfl (by omega), Nat.add_sub_cancel]
        refine Rn.istore_n2 k_26 rfl rfl ?_
        refine Rn.aload_n k_26 rfl rfl ?_
        refine Rn.getA k_26 rfl rfl (s604 L) (hF.l 35 rfl) ?_
        refine Rn.iload_n k_26 rfl rfl ?_
        refine Rn.iaload (ss.length) k_26 rfl (s611 L) (rfl) (by omega) (by decide) ?_
        rw [h11]
        refine Rn.bipush (8) k_26 rfl rfl ?_
        refine Rn.icmp_ne 59 k_26 rfl rfl (fun h5 => ?_) (fun h5 => ?_)
        · rw [c_eq 8 8 rfl (by omega) (by decide)] at h5
          rw [if_neg (fun z => z.elim hnt (fun y => by omega))]
          refine Rn.aload_n k_26 rfl rfl ?_
          refine Rn.getA k_26 rfl rfl (s604 L) (hF.l 36 rfl) ?_
          refine Rn.bipush (8) k_26 rfl rfl ?_
          refine Rn.iload_n k_26 rfl rfl ?_
          refine Rn.imul k_26 rfl ?_
          refine Rn.aload_n k_26 rfl rfl ?_
          refine Rn.getA k_26 rfl rfl (s604 L) (hF.l 35 rfl) ?_
          refine Rn.iload_n k_26 rfl rfl ?_
          refine Rn.iaload (ss.length) k_26 rfl (s611 L) (rfl) (by omega) (by decide) ?_
          rw [h11, show (8 : Int32) = nI 8 from rfl, pk_mul]
          refine Rn.iadd k_26 rfl ?_
          rw [nI_add]
          refine Rn.aload_n k_26 rfl rfl ?_
          refine Rn.getA k_26 rfl rfl (s604 L) (hF.l 31 rfl) ?_
          refine Rn.iload_n k_26 rfl rfl ?_
          refine Rn.iaload (k) k_26 rfl (s607 L) (rfl) (by omega) (by decide) ?_
          rw [w1]
          refine Rn.iastore (8 * ss.length + u.2.length) k_26 rfl (s612 L) (rfl) (by omega) (by decide) (rfl) ?_
          refine Rn.aload_n k_26 rfl rfl ?_
          refine Rn.getA k_26 rfl rfl (s604 L) (hF.l 37 rfl) ?_
          refine Rn.bipush (8) k_26 rfl rfl ?_
          refine Rn.iload_n k_26 rfl rfl ?_
          refine Rn.imul k_26 rfl ?_
          refine Rn.aload_n k_26 rfl rfl ?_
          refine Rn.getA k_26 rfl rfl (s604 L) (hF.l 35 rfl) ?_
          refine Rn.iload_n k_26 rfl rfl ?_
          refine Rn.iaload (ss.length) k_26 rfl (s611 L) (rfl) (by omega) (by decide) ?_
          rw [show up2 fi 612 (8 * ss.length + u.2.length) (nI ws1) 611 ss.length = nI u.2.length from h11, show (8 : Int32) = nI 8 from rfl, pk_mul]
          refine Rn.iadd k_26 rfl ?_
          rw [nI_add]
          refine Rn.aload_n k_26 rfl rfl ?_
          refine Rn.getA k_26 rfl rfl (s604 L) (hF.l 32 rfl) ?_
          refine Rn.iload_n k_26 rfl rfl ?_
          refine Rn.iaload (k) k_26 rfl (s608 L) (rfl) (by omega) (by decide) ?_
          rw [show up2 fi 612 (8 * ss.length + u.2.length) (nI ws1) 608 k = nI ws2 from w2]
          refine Rn.iastore (8 * ss.length + u.2.length) k_26 rfl (s613 L) (rfl) (by omega) (by decide) (rfl) ?_
          refine Rn.aload_n k_26 rfl rfl ?_
          refine Rn.getA k_26 rfl rfl (s604 L) (hF.l 35 rfl) ?_
          refine Rn.iload_n k_26 rfl rfl ?_
          refine Rn.dup2 k_26 rfl ?_
          refine Rn.iaload (ss.length) k_26 rfl (s611 L) (rfl) (by omega) (by decide) ?_
          rw [show up2 (up2 fi 612 (8 * ss.length + u.2.length) (nI ws1)) 613 (8 * ss.length + u.2.length) (nI ws2) 611 ss.length = nI u.2.length from h11]
          refine Rn.iconst (1) k_26 rfl rfl ?_
          refine Rn.iadd k_26 rfl ?_
          rw [c_add 1 1 rfl]
          refine Rn.iastore (ss.length) k_26 rfl (s611 L) (rfl) (by omega) (by decide) (rfl) ?_
          refine Rn.iconst (1) k_26 rfl rfl ?_
          refine Rn.reti k_26 rfl q_26 rfl (rfl) ?_
          generalize hE : up2 (up2 (up2 fi 612 (8 * ss.length + u.2.length) (nI ws1)) 613 (8 * ss.length + u.2.length) (nI ws2)) 611 ss.length (nI (u.2.length + 1)) = E
          have hEr : ∀ a j, a ≠ 611 → a ≠ 612 → a ≠ 613 → E a j = fi a j := fun a j z1 z2 z3 => by rw [← hE, up2_row _ _ z1, up2_row _ _ z3, up2_row _ _ z2]
          have hE2 : ∀ j, j ≠ ss.length → E 611 j = fi 611 j := fun j z => by rw [← hE, up2_col _ _ z, up2_row _ _ (by decide), up2_row _ _ (by decide)]
          have hE3 : ∀ j, j ≠ 8 * ss.length + u.2.length → E 612 j = fi 612 j ∧ E 613 j = fi 613 j := fun j z => by
            refine ⟨?_, ?_⟩
            · rw [← hE, up2_row _ _ (by decide), up2_row _ _ (by decide), up2_col _ _ z]
            · rw [← hE, up2_row _ _ (by decide), up2_col _ _ z, up2_row _ _ (by decide)]
          have hE4 : E 611 ss.length = nI (u.2.length + 1) := by rw [← hE, up2_same]
          have hE5 : E 612 (8 * ss.length + u.2.length) = nI ws1 := by rw [← hE, up2_row _ _ (by decide), up2_row _ _ (by decide), up2_same]
          have hE6 : E 613 (8 * ss.length + u.2.length) = nI ws2 := by rw [← hE, up2_row _ _ (by decide), up2_same]
          refine ⟨E, rfl, fun a j ha => ?_, rfl, fun B hB => ?_⟩
          · unfold mF at ha
            exact hEr a j (by omega) (by omega) (by omega)
          · cases hB
            refine ⟨hT.keep (fun j => hEr _ _ (by decide) (by decide) (by decide)), ⟨?_, fun s hs => ?_⟩, ⟨(hEr _ _ (by decide) (by decide) (by decide)).trans hK.1, fun c hc => ?_⟩, (hEr _ _ (by decide) (by decide) (by decide)).trans hC⟩
            · rw [hEr _ _ (by decide) (by decide) (by decide), hU1]
              show _ = nI (ss ++ [_]).length
              rw [List.length_append]; rfl
            · have hs : s < (ss ++ [(u.1, u.2 ++ [t])]).length := hs
              rw [List.length_append] at hs
              have hs : s < ss.length + 1 := hs
              show MUr E x n s ((ss ++ [(u.1, u.2 ++ [t])]).getD s dU)
              by_cases e : s = ss.length
              · subst e
                rw [gD_last]
                obtain ⟨a1, a2, a3⟩ := hUu
                refine ⟨a1.keep (hEr _ _ (by decide) (by decide) (by decide)) (hEr _ _ (by decide) (by decide) (by decide)), ?_, fun t' ht' => ?_⟩
                · rw [hE4]
                  show _ = nI (u.2 ++ [t]).length
                  rw [List.length_append]; rfl
                · have ht' : t' < (u.2 ++ [t]).length := ht'
                  rw [List.length_append] at ht'
                  have ht' : t' < u.2.length + 1 := ht'
                  show SL E x n 612 613 (8 * ss.length + t') ((u.2 ++ [t]).getD t' [])
                  by_cases et : t' = u.2.length
                  · subst et
                    rw [gD_last]
                    exact ⟨ws1, ws2, hE5, hE6, by omega, w4, hsl⟩
                  · rw [gD_lt (by omega)]
                    exact (a3 t' (by omega)).keep (hE3 _ (by omega)).1 (hE3 _ (by omega)).2
              · rw [gD_lt (by omega)]
                have hUs : MUr fi x n s ((ss ++ [u]).getD s dU) := hU.2 s (by show _ < (ss ++ [u]).length; omega)
                rw [gD_lt (by omega)] at hUs
                have hsA := hA.2.1 (ss.getD s dU) (by show _ ∈ ss ++ [u]; exact List.mem_append.mpr (Or.inl (gD_mem (by omega))))
                have hs8 := hsA.2.2.1
                refine hUs.keep (fun a j z1 z2 z3 z4 => ?_)
                by_cases ea : a = 611
                · subst ea; exact hE2 j (by omega)
                · by_cases eb : a = 612
                  · subst eb; exact (hE3 j (by omega)).1
                  · by_cases ec : a = 613
                    · subst ec; exact (hE3 j (by omega)).2
                    · exact hEr a j ea eb ec
            · have hkc := hA.k hc
              exact (hK.2 c hc).keep hkc.2.2.2.2.2.2.2.2.1 (fun p hp => (hkc.pv hp).2) (fun a j z1 z2 _ _ _ _ => hEr a j (by omega) (by omega) (by omega))
        · rw [c_eq 8 8 rfl (by omega) (by decide)] at h5
          refine Rn.iconst (0) k_26 rfl rfl ?_
          refine Rn.reti k_26 rfl q_26 rfl (rfl) ?_
          exact notag none (if_pos (Or.inr (by omega)))
    refine Rn.aload_n k_26 rfl rfl ?_
    refine Rn.getI k_26 rfl rfl (s604 L) ?_
    rw [hU.1]
    refine Rn.if_le 32 k_26 rfl rfl (fun h2 => ?_) (fun h2 => ?_)
    · rw [c_le 0 0 rfl (by omega) (by decide)] at h2
      refine main ?_
      rw [hstl, if_pos (by omega)]
      exact fun z => by cases z
    · rw [c_le 0 0 rfl (by omega) (by decide)] at h2
      have hUl := hU.2 (A.1.length - 1) (by omega)
      have hAl := hA.2.1 (A.1.getD (A.1.length - 1) dU) (gD_mem (by omega))
      refine Rn.aload_n k_26 rfl rfl ?_
      refine Rn.aload_n k_26 rfl rfl ?_
      refine Rn.getI k_26 rfl rfl (s604 L) ?_
      refine Rn.iconst (1) k_26 rfl rfl ?_
      rw [hU.1]
      refine Rn.isub k_26 rfl ?_
      rw [c_sub 1 1 rfl (by omega)]
      refine Rn.iload_n k_26 rfl rfl ?_
      refine Rn.cV3I k_26 rfl rfl q_23 rfl (Nat.le_of_ble_eq_true rfl) (Nat.le_of_ble_eq_true rfl) (s604 L) (hsu (by omega) hAl.2.2.1 hUl.2.1 hUl.2.2) ?_
      refine Rn.if_eq 32 k_26 rfl rfl (fun h3 => ?_) (fun h3 => ?_)
      · (try rw [bI_0] at h3)
        (try rw [Bool.not_eq_false] at h3)
        have h3 := of_decide_eq_false h3
        refine main ?_
        rw [hstl, if_neg (by omega)]
        exact h3
      · (try rw [bI_0] at h3)
        (try rw [Bool.not_eq_false] at h3)
        have h3 := of_decide_eq_true h3
        refine no ?_
        unfold tagW
        rw [if_neg (by rw [h1]; decide)]
        by_cases hc : A.2.2 = true
        · rw [if_pos hc]
          obtain ⟨ss, ks, q, rfl, hsu2⟩ := hA.inK hc
          simp only [List.getLast?_concat]
          rw [if_pos]
          left
          unfold atg
          rw [hsu2]
          have : stg ss ss.length = (if ss.length = 0 then [] else (ss.getD (ss.length - 1) dU).2) := hstl
          rw [this, if_neg (by show ¬ ss.length = 0; exact fun z => h2 (by show ss.length ≤ 0; omega))]
          exact List.mem_append.mpr (Or.inl h3)
        · rw [if_neg hc]
          obtain ⟨ss, u, ks, rfl⟩ := AOk.noK (by simpa using hc) (hor.resolve_left hc)
          simp only [List.getLast?_concat]
          rw [if_pos]
          left
          have hls : (ss ++ [u]).length = ss.length + 1 := by simp
          have h3 : t ∈ ((ss ++ [u]).getD ((ss ++ [u]).length - 1) dU).2 := h3
          rw [hls, Nat.add_sub_cancel, gD_last] at h3
          exact h3
theorem tagW_or {t : Nm} {B : AS} (h : tagW A t = some B) : B.2.2 = A.2.2 ∧ (A.1 ≠ [] → B.1 ≠ []) := by
  unfold tagW at h
  split at h
  · cases h
  · split at h
    · split at h
      · cases h
      · split at h
        · cases h
        · cases h; exact ⟨rfl, fun z => z⟩
    · split at h
      · cases h
      · split at h
        · cases h
        · cases h; exact ⟨rfl, fun _ => by simp⟩
theorem cm_tagLine (hF : FRok F G fr) (hS : MSr fi x n A) (hA : AOk n A) (hW : MWD fi ws) (hw : wok n ws) {w0 : Nat × Nat} {rest : List (Nat × Nat)} (hws : ws = w0 :: rest) : Rn (d + 4) 27 0 [some (.ref 604), none, none] [] (SH L, fi, fl, fr) (MacQ L fi fl fr x n (tagL A (rest.map (wd x)))) := by
  have hl : ws.length = rest.length + 1 := by rw [hws]; rfl
  have hl6 := hw.2
  have hd : ws.drop 1 = rest := by rw [hws]; rfl
  have h10 := hA.1
  -- nothing more
  have stop : ∀ (gi : Nat → Nat → Int32) (j : Nat), j ≤ 600 → fi 604 5 = gi 604 5 → (∀ a k, mF a k → gi a k = fi a k) → tagL A (rest.map (wd x)) = none → Rn (d + 4) 27 30 [some (.ref 604), some (.int (bI false)), some (.int (nI j))] [] (SH L, gi, fl, fr) (MacQ L fi fl fr x n (tagL A (rest.map (wd x)))) := by
    intro gi j hj h5' hg e
    have out : Rn (d + 4) 27 54 [some (.ref 604), some (.int (bI false)), some (.int (nI j))] [] (SH L, gi, fl, fr) (MacQ L fi fl fr x n (tagL A (rest.map (wd x)))) := by
      refine Rn.iload_n k_27 rfl rfl ?_
      refine Rn.reti k_27 rfl q_27 rfl (rfl) ?_
      rw [e]
      exact ⟨gi, rfl, hg, rfl, fun B hB => by cases hB⟩
    refine Rn.iload_n k_27 rfl rfl ?_
    refine Rn.aload_n k_27 rfl rfl ?_
    refine Rn.getI k_27 rfl rfl (s604 L) ?_
    rw [← h5', hW.1]
    refine Rn.icmp_ge 54 k_27 rfl rfl (fun h4 => ?_) (fun h4 => ?_)
    · exact out
    · refine Rn.iload_n k_27 rfl rfl ?_
      refine Rn.if_eq 54 k_27 rfl rfl (fun h5 => ?_) (fun h5 => ?_)
      · exact out
      · exact absurd rfl h5
  have loop : ∀ (m j : Nat) (B : AS) (gi : Nat → Nat → Int32), j + m = ws.length → MSr gi x n B → AOk n B → (B.2.2 = true ∨ B.1 ≠ []) → (∀ a k, mF a k → gi a k = fi a k) → tagL A (rest.map (wd x)) = tagsW B ((ws.drop j).map (wd x)) → Rn (d + 4) 27 30 [some (.ref 604), some (.int (bI true)), some (.int (nI j))] [] (SH L, gi, fl, fr) (MacQ L fi fl fr x n (tagL A (rest.map (wd x)))) := by
    intro m
    induction m with
    | zero =>
      intro j B gi hj hB hAB hor hg he
      have e5 : gi 604 5 = fi 604 5 := hg 604 5 (Or.inr ⟨rfl, by decide, by decide, by decide⟩)
      rw [List.drop_eq_nil_of_le (by omega)] at he
      refine Rn.iload_n k_27 rfl rfl ?_
      refine Rn.aload_n k_27 rfl rfl ?_
      refine Rn.getI k_27 rfl rfl (s604 L) ?_
      rw [e5, hW.1]
      refine Rn.icmp_ge 54 k_27 rfl rfl (fun h4 => ?_) (fun h4 => ?_)
      · refine Rn.iload_n k_27 rfl rfl ?_
        refine Rn.reti k_27 rfl q_27 rfl (rfl) ?_
        rw [he]
        exact ⟨gi, rfl, hg, rfl, fun C hC => by cases hC; exact hB⟩
      · rw [nI_leI (by omega) (by omega)] at h4
        omega
    | succ m ih =>
      intro j B gi hj hB hAB hor hg he
      have hjl : j < ws.length := by omega
      have e5 : gi 604 5 = fi 604 5 := hg 604 5 (Or.inr ⟨rfl, by decide, by decide, by decide⟩)
      have hWg : MWD gi ws := hW.keep e5 (fun k => hg _ _ (Or.inl (by omega))) (fun k => hg _ _ (Or.inl (by omega)))
      have ed : (ws.drop j).map (wd x) = wd x (ws.getD j (0, 0)) :: (ws.drop (j + 1)).map (wd x) := by
        rw [List.drop_eq_getElem_cons hjl, List.map_cons, List.getD_eq_getElem?_getD, List.getElem?_eq_getElem hjl]
        rfl
      rw [ed, tagsW] at he
      have hne := wd_ne (x := x) (wok_at hw hjl).1
      refine Rn.iload_n k_27 rfl rfl ?_
      refine Rn.aload_n k_27 rfl rfl ?_
      refine Rn.getI k_27 rfl rfl (s604 L) ?_
      rw [e5, hW.1]
      refine Rn.icmp_ge 54 k_27 rfl rfl (fun h4 => ?_) (fun h4 => ?_)
      · rw [nI_leI (by omega) (by omega)] at h4
        omega
      · refine Rn.iload_n k_27 rfl rfl ?_
        refine Rn.if_eq 54 k_27 rfl rfl (fun h5 => ?_) (fun h5 => ?_)
        · exact absurd h5 (by decide)
        · refine Rn.aload_n k_27 rfl rfl ?_
          refine Rn.iload_n k_27 rfl rfl ?_
          refine Rn.cV2 k_27 rfl rfl q_26 rfl (Nat.le_of_ble_eq_true rfl) (Nat.le_of_ble_eq_true rfl) (s604 L) (cm_tagWord hF hB hAB hWg hw hjl hor) (fun v h' hq => ?_)
          obtain ⟨gi', rfl, z1, rfl, z2⟩ := hq
          show Rn _ _ _ _ (Value.int _ :: []) _ _
          have hg' : ∀ a k, mF a k → gi' a k = fi a k := fun a k ha => (z1 a k ha).trans (hg a k ha)
          cases hT : tagW B (wd x (ws.getD j (0, 0))) with
          | none =>
            rw [hT] at he
            refine Rn.istore_n1 k_27 rfl rfl ?_
            refine Rn.iinc2 (1) k_27 rfl rfl rfl ?_
            rw [c_add 1 1 rfl]
            refine Rn.goto 30 k_27 rfl rfl ?_
            exact stop gi' (j + 1) (by omega) (hg' 604 5 (Or.inr ⟨rfl, by decide, by decide, by decide⟩)).symm hg' he
          | some C =>
            rw [hT] at he z2
            obtain ⟨o1, o2⟩ := tagW_or hT
            refine Rn.istore_n1 k_27 rfl rfl ?_
            refine Rn.iinc2 (1) k_27 rfl rfl rfl ?_
            rw [c_add 1 1 rfl]
            refine Rn.goto 30 k_27 rfl rfl ?_
            exact ih (j + 1) C gi' (by omega) (z2 C rfl) (tagW_ok hAB hne hT) (hor.elim (fun z => Or.inl (o1.trans z)) (fun z => Or.inr (o2 z))) hg' he
  have begin0 : tagL A (rest.map (wd x)) = none → Rn (d + 4) 27 26 [some (.ref 604), none, none] [] (SH L, fi, fl, fr) (MacQ L fi fl fr x n (tagL A (rest.map (wd x)))) := by
    intro e
    refine Rn.iconst (0) k_27 rfl rfl ?_
    refine Rn.istore_n1 k_27 rfl rfl ?_
    refine Rn.iconst (1) k_27 rfl rfl ?_
    refine Rn.istore_n2 k_27 rfl rfl ?_
    exact stop fi 1 (by decide) rfl (fun _ _ _ => rfl) e
  have begin1 : rest ≠ [] → (A.2.2 = true ∨ A.1 ≠ []) → Rn (d + 4) 27 22 [some (.ref 604), none, none] [] (SH L, fi, fl, fr) (MacQ L fi fl fr x n (tagL A (rest.map (wd x)))) := by
    intro hr hor
    refine Rn.iconst (1) k_27 rfl rfl ?_
    refine Rn.goto 27 k_27 rfl rfl ?_
    refine Rn.istore_n1 k_27 rfl rfl ?_
    refine Rn.iconst (1) k_27 rfl rfl ?_
    refine Rn.istore_n2 k_27 rfl rfl ?_
    refine loop rest.length 1 A fi (by omega) hS hA hor (fun _ _ _ => rfl) ?_
    unfold tagL
    rw [if_neg, hd]
    rintro (z | z)
    · exact hr (List.map_eq_nil_iff.mp z)
    · rcases hor with y | y
      · rw [z.1] at y; cases y
      · exact y z.2
  refine Rn.aload_n k_27 rfl rfl ?_
  refine Rn.getI k_27 rfl rfl (s604 L) ?_
  rw [hW.1]
  refine Rn.iconst (1) k_27 rfl rfl ?_
  refine Rn.icmp_le 26 k_27 rfl rfl (fun h1 => ?_) (fun h1 => ?_)
  · rw [c_le 1 1 rfl (by omega) (by decide)] at h1
    refine begin0 ?_
    unfold tagL
    rw [if_pos (Or.inl (by rw [List.eq_nil_of_length_eq_zero (show rest.length = 0 by omega)]; rfl))]
  · rw [c_le 1 1 rfl (by omega) (by decide)] at h1
    have hr : rest ≠ [] := fun z => by rw [z] at hl; exact h1 (by rw [hl]; decide)
    refine Rn.aload_n k_27 rfl rfl ?_
    refine Rn.getI k_27 rfl rfl (s604 L) ?_
    rw [hS.2.2.2]
    refine Rn.if_ne 22 k_27 rfl rfl (fun h2 => ?_) (fun h2 => ?_)
    · (try rw [bI_0] at h2)
      (try rw [Bool.not_eq_false] at h2)
      exact begin1 hr (Or.inl h2)
    · (try rw [bI_0] at h2)
      (try rw [Bool.not_eq_false] at h2)
      refine Rn.aload_n k_27 rfl rfl ?_
      refine Rn.getI k_27 rfl rfl (s604 L) ?_
      rw [hS.2.1.1]
      refine Rn.if_le 26 k_27 rfl rfl (fun h3 => ?_) (fun h3 => ?_)
      · rw [c_le 0 0 rfl (by omega) (by decide)] at h3
        refine begin0 ?_
        unfold tagL
        rw [if_pos (Or.inr ⟨h2, List.eq_nil_of_length_eq_zero (by omega)⟩)]
      · rw [c_le 0 0 rfl (by omega) (by decide)] at h3
        exact begin1 hr (Or.inr (fun z => h3 (by rw [z]; exact Nat.le_refl _)))
end MT
