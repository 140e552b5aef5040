/-! ScriptReader: accept, read; TestFinder.script -/
/-- the seven string constants -/
def STs (L : Nat) (fi : Nat → Nat → Int32) (fr : Nat → Nat → Option Nat) : Prop := STr L fi fr 1 [115, 117, 105, 116, 101] ∧ STr L fi fr 2 [99, 97, 115, 101] ∧ STr L fi fr 3 [116, 97, 103] ∧ STr L fi fr 4 [119, 105, 116, 104] ∧ STr L fi fr 5 [115, 105, 122, 101] ∧ STr L fi fr 6 [115, 107, 105, 112] ∧ STr L fi fr 7 [102, 97, 105, 108, 115]
theorem STr.keep {L : Nat} {fi fi' : Nat → Nat → Int32} {fr : Nat → Nat → Option Nat} {k : Nat} {w : List Nat} (h : STr L fi fr k w) (hk : k < 8) (e : ∀ a q, a < 16 → fi' a q = fi a q) : STr L fi' fr k w := by
  obtain ⟨h1, h2, h3, h4, h5, h6⟩ := h
  exact ⟨h1, h2, h3, (e _ _ (by omega)).trans h4, fun j hj => ⟨(e _ _ (by omega)).trans (h5 j hj).1, (h5 j hj).2⟩, h6⟩
theorem STs.keep {L : Nat} {fi fi' : Nat → Nat → Int32} {fr : Nat → Nat → Option Nat} (h : STs L fi fr) (e : ∀ a q, a < 16 → fi' a q = fi a q) : STs L fi' fr := by
  obtain ⟨h1, h2, h3, h4, h5, h6, h7⟩ := h
  exact ⟨h1.keep (by decide) e, h2.keep (by decide) e, h3.keep (by decide) e, h4.keep (by decide) e, h5.keep (by decide) e, h6.keep (by decide) e, h7.keep (by decide) e⟩
section RD
variable {d L : Nat} {fi : Nat → Nat → Int32} {fl : Nat → Nat → Int64} {fr : Nat → Nat → Option Nat} {F G : Nat} {x : Nat → Nat} {n : Nat} {A : AS} {ws : List (Nat × Nat)}
set_option maxHeartbeats 2000000 in
theorem ct_accept (hF : FRok F G fr) (hSt : STs L fi fr) (hS : SCr fi fl x n A) (hA : AOk n A) (hW : WDr fi ws) (hw : wok n ws) {line : Nat} : Rn (d + 5) 115 0 [some (.ref 585), some (.int (nI line)), none] [] (SH L, fi, fl, fr) (AccQ L fi fl fr x n (lineW x A line ws)) := by
  have hl6 := hw.2
  have yes : lineW x A line ws = some A → Rn (d + 5) 115 20 [some (.ref 585), some (.int (nI line)), none] [] (SH L, fi, fl, fr) (AccQ L fi fl fr x n (lineW x A line ws)) := by
    intro e
    refine Rn.iconst (1) k_115 rfl rfl ?_
    refine Rn.reti k_115 rfl q_115 rfl (rfl) ?_
    rw [e]
    exact ⟨fi, fl, rfl, fun _ _ _ => rfl, fun _ _ _ => rfl, rfl, fun B hB => by cases hB; exact hS⟩
  refine Rn.aload_n k_115 rfl rfl ?_
  refine Rn.getA k_115 rfl rfl (s585 L) (hF.l 14 rfl) ?_
  refine Rn.getI k_115 rfl rfl (s588 L) ?_
  rw [hW.1]
  refine Rn.if_eq 20 k_115 rfl rfl (fun h1 => ?_) (fun h1 => ?_)
  · rw [c_eq 0 0 rfl (by omega) (by decide)] at h1
    refine yes ?_
    rw [List.eq_nil_of_length_eq_zero h1]
    rfl
  · rw [c_eq 0 0 rfl (by omega) (by decide)] at h1
    match ws, hW, hw, h1, hl6, yes with
    | [], _, _, h1, _, _ => exact absurd rfl h1
    | w0 :: rest, hW, hw, h1, hl6, yes =>
      refine Rn.aload_n k_115 rfl rfl ?_
      refine Rn.getA k_115 rfl rfl (s585 L) (hF.l 14 rfl) ?_
      refine Rn.cV1I k_115 rfl rfl q_135 rfl (Nat.le_of_ble_eq_true rfl) (Nat.le_of_ble_eq_true rfl) (s588 L) (ct_isComment hF hS.1 hW hw) ?_
      have e0 : (decide (0 < (w0 :: rest).length) && decide (x ((w0 :: rest).getD 0 (0, 0)).1 = 35)) = decide (x w0.1 = 35) := by
        rw [decide_eq_true (by simp), Bool.true_and]
        rfl
      rw [e0]
      refine Rn.if_eq 22 k_115 rfl rfl (fun h2 => ?_) (fun h2 => ?_)
      · (try rw [bI_0] at h2)
        (try rw [Bool.not_eq_false] at h2)
        have h2 := of_decide_eq_false h2
        have bw : ∀ {k : Nat} {w : List Nat}, STr L fi fr k w → Rn (d + 4) 136 0 [some (.ref 588), some (.ref k), none] [] (SH L, fi, fl, fr) (Ret (SH L, fi, fl, fr) (some (.int (bI (decide (wd x w0 = w)))))) := fun hk => ct_beginWith hF hS.1 hW hw (by simp) hk
        rw [lineW_eq, if_neg h2]
        refine Rn.aload_n k_115 rfl rfl ?_
        refine Rn.getA k_115 rfl rfl (s585 L) (hF.l 14 rfl) ?_
        refine Rn.ldc k_115 rfl ?_
        refine Rn.cV2I k_115 rfl rfl q_136 rfl (Nat.le_of_ble_eq_true rfl) (Nat.le_of_ble_eq_true rfl) (s588 L) (bw hSt.1) ?_
        refine Rn.if_eq 39 k_115 rfl rfl (fun h3 => ?_) (fun h3 => ?_)
        · (try rw [bI_0] at h3)
          (try rw [Bool.not_eq_false] at h3)
          have h3 := of_decide_eq_false h3
          rw [if_neg h3]
          refine Rn.aload_n k_115 rfl rfl ?_
          refine Rn.getA k_115 rfl rfl (s585 L) (hF.l 14 rfl) ?_
          refine Rn.ldc k_115 rfl ?_
          refine Rn.cV2I k_115 rfl rfl q_136 rfl (Nat.le_of_ble_eq_true rfl) (Nat.le_of_ble_eq_true rfl) (s588 L) (bw hSt.2.1) ?_
          refine Rn.if_eq 57 k_115 rfl rfl (fun h4 => ?_) (fun h4 => ?_)
          · (try rw [bI_0] at h4)
            (try rw [Bool.not_eq_false] at h4)
            have h4 := of_decide_eq_false h4
            rw [if_neg h4]
            refine Rn.aload_n k_115 rfl rfl ?_
            refine Rn.getA k_115 rfl rfl (s585 L) (hF.l 14 rfl) ?_
            refine Rn.ldc k_115 rfl ?_
            refine Rn.cV2I k_115 rfl rfl q_136 rfl (Nat.le_of_ble_eq_true rfl) (Nat.le_of_ble_eq_true rfl) (s588 L) (bw hSt.2.2.1) ?_
            refine Rn.if_eq 74 k_115 rfl rfl (fun h5 => ?_) (fun h5 => ?_)
            · (try rw [bI_0] at h5)
              (try rw [Bool.not_eq_false] at h5)
              have h5 := of_decide_eq_false h5
              rw [if_neg h5]
              refine Rn.aload_n k_115 rfl rfl ?_
              refine Rn.getI k_115 rfl rfl (s585 L) ?_
              rw [hS.2.2.2.2.2.2.1]
              refine Rn.if_eq 92 k_115 rfl rfl (fun h6 => ?_) (fun h6 => ?_)
              · (try rw [bI_0] at h6)
                (try rw [Bool.not_eq_false] at h6)
                refine Rn.iconst (0) k_115 rfl rfl ?_
                refine Rn.reti k_115 rfl q_115 rfl (rfl) ?_
                rw [withL_shut h6, sizeL_shut h6, skipL_shut h6, failL_shut h6]
                simp only [ite_self]
                exact ⟨fi, fl, rfl, fun _ _ _ => rfl, fun _ _ _ => rfl, rfl, fun B hB => by cases hB⟩
              · (try rw [bI_0] at h6)
                (try rw [Bool.not_eq_false] at h6)
                obtain ⟨ss, ks, k, rfl, hsu⟩ := hA.inK h6
                obtain ⟨hi, hk⟩ := ckl hA
                have s4 : fi 19 4 = nI (ks.length + 1) := by rw [hS.2.2.2.1]; show nI (ks ++ [k]).length = _; simp
                refine Rn.aload_n k_115 rfl rfl ?_
                refine Rn.getA k_115 rfl rfl (s585 L) (hF.l 10 rfl) ?_
                refine Rn.getI k_115 rfl rfl (s19 L) ?_
                rw [s4]
                refine Rn.iconst (1) k_115 rfl rfl ?_
                refine Rn.icmp_ge 94 k_115 rfl rfl (fun h7 => ?_) (fun h7 => ?_)
                · refine Rn.aload_n k_115 rfl rfl ?_
                  refine Rn.getA k_115 rfl rfl (s585 L) (hF.l 10 rfl) ?_
                  refine Rn.getA k_115 rfl rfl (s19 L) (hF.l 5 rfl) ?_
                  refine Rn.aload_n k_115 rfl rfl ?_
                  refine Rn.getA k_115 rfl rfl (s585 L) (hF.l 10 rfl) ?_
                  refine Rn.getI k_115 rfl rfl (s19 L) ?_
                  rw [s4]
                  refine Rn.iconst (1) k_115 rfl rfl ?_
                  refine Rn.isub k_115 rfl ?_
                  rw [c_sub 1 1 rfl (by omega), Nat.add_sub_cancel]
                  refine Rn.aaload (ci := 4) (ks.length) k_115 rfl (s23 L) rfl (by decide) (rfl) (by omega) (by decide) (hF.2.2.1 _ hi) ?_
                  refine Rn.astore_n2 k_115 rfl rfl ?_
                  refine Rn.aload_n k_115 rfl rfl ?_
                  refine Rn.getA k_115 rfl rfl (s585 L) (hF.l 14 rfl) ?_
                  refine Rn.ldc k_115 rfl ?_
                  refine Rn.cV2I k_115 rfl rfl q_136 rfl (Nat.le_of_ble_eq_true rfl) (Nat.le_of_ble_eq_true rfl) (s588 L) (bw hSt.2.2.2.1) ?_
                  refine Rn.if_eq 130 k_115 rfl rfl (fun h8 => ?_) (fun h8 => ?_)
                  · (try rw [bI_0] at h8)
                    (try rw [Bool.not_eq_false] at h8)
                    have h8 := of_decide_eq_false h8
                    rw [if_neg h8]
                    refine Rn.aload_n k_115 rfl rfl ?_
                    refine Rn.getA k_115 rfl rfl (s585 L) (hF.l 14 rfl) ?_
                    refine Rn.ldc k_115 rfl ?_
                    refine Rn.cV2I k_115 rfl rfl q_136 rfl (Nat.le_of_ble_eq_true rfl) (Nat.le_of_ble_eq_true rfl) (s588 L) (bw hSt.2.2.2.2.1) ?_
                    refine Rn.if_eq 148 k_115 rfl rfl (fun h9 => ?_) (fun h9 => ?_)
                    · (try rw [bI_0] at h9)
                      (try rw [Bool.not_eq_false] at h9)
                      have h9 := of_decide_eq_false h9
                      rw [if_neg h9]
                      refine Rn.aload_n k_115 rfl rfl ?_
                      refine Rn.getA k_115 rfl rfl (s585 L) (hF.l 14 rfl) ?_
                      refine Rn.ldc k_115 rfl ?_
                      refine Rn.cV2I k_115 rfl rfl q_136 rfl (Nat.le_of_ble_eq_true rfl) (Nat.le_of_ble_eq_true rfl) (s588 L) (bw hSt.2.2.2.2.2.1) ?_
                      refine Rn.if_eq 166 k_115 rfl rfl (fun h10 => ?_) (fun h10 => ?_)
                      · (try rw [bI_0] at h10)
                        (try rw [Bool.not_eq_false] at h10)
                        have h10 := of_decide_eq_false h10
                        rw [if_neg h10]
                        refine Rn.aload_n k_115 rfl rfl ?_
                        refine Rn.getA k_115 rfl rfl (s585 L) (hF.l 14 rfl) ?_
                        refine Rn.ldc k_115 rfl ?_
                        refine Rn.cV2I k_115 rfl rfl q_136 rfl (Nat.le_of_ble_eq_true rfl) (Nat.le_of_ble_eq_true rfl) (s588 L) (bw hSt.2.2.2.2.2.2) ?_
                        refine Rn.if_eq 190 k_115 rfl rfl (fun h11 => ?_) (fun h11 => ?_)
                        · (try rw [bI_0] at h11)
                          (try rw [Bool.not_eq_false] at h11)
                          have h11 := of_decide_eq_false h11
                          rw [if_neg h11]
                          refine Rn.iconst (0) k_115 rfl rfl ?_
                          refine Rn.reti k_115 rfl q_115 rfl (rfl) ?_
                          exact ⟨fi, fl, rfl, fun _ _ _ => rfl, fun _ _ _ => rfl, rfl, fun B hB => by cases hB⟩
                        · (try rw [bI_0] at h11)
                          (try rw [Bool.not_eq_false] at h11)
                          have h11 := of_decide_eq_true h11
                          rw [if_pos h11]
                          refine Rn.aload_n k_115 rfl rfl ?_
                          refine Rn.aload_n k_115 rfl rfl ?_
                          refine Rn.cV2 k_115 rfl rfl q_123 rfl (Nat.le_of_ble_eq_true rfl) (Nat.le_of_ble_eq_true rfl) (s585 L) (ct_expectFailure hF hS hA hW hw rfl) (fun v h' hq => ?_)
                          obtain ⟨fi', fl', rfl, z1, z2, rfl, z4⟩ := hq
                          show Rn _ _ _ _ (Value.int _ :: []) _ _
                          refine Rn.if_eq 190 k_115 rfl rfl (fun h12 => ?_) (fun h12 => ?_)
                          · (try rw [bI_0] at h12)
                            (try rw [Bool.not_eq_false] at h12)
                            refine Rn.iconst (0) k_115 rfl rfl ?_
                            refine Rn.reti k_115 rfl q_115 rfl (rfl) ?_
                            exact ⟨fi', fl', rfl, z1, z2, by rw [h12]; rfl, z4⟩
                          · (try rw [bI_0] at h12)
                            (try rw [Bool.not_eq_false] at h12)
                            refine Rn.iconst (1) k_115 rfl rfl ?_
                            refine Rn.goto 191 k_115 rfl rfl ?_
                            refine Rn.reti k_115 rfl q_115 rfl (rfl) ?_
                            exact ⟨fi', fl', rfl, z1, z2, by rw [h12]; rfl, z4⟩
                      · (try rw [bI_0] at h10)
                        (try rw [Bool.not_eq_false] at h10)
                        have h10 := of_decide_eq_true h10
                        rw [if_pos h10]
                        refine Rn.aload_n k_115 rfl rfl ?_
                        refine Rn.aload_n k_115 rfl rfl ?_
                        refine Rn.cV2 k_115 rfl rfl q_122 rfl (Nat.le_of_ble_eq_true rfl) (Nat.le_of_ble_eq_true rfl) (s585 L) (ct_skip hF hS hA hW hw rfl) (fun v h' hq => ?_)
                        obtain ⟨fi', fl', rfl, z1, z2, rfl, z4⟩ := hq
                        show Rn _ _ _ _ (Value.int _ :: []) _ _
                        refine Rn.reti k_115 rfl q_115 rfl (bI_fit _) ?_
                        exact ⟨fi', fl', rfl, z1, z2, rfl, z4⟩
                    · (try rw [bI_0] at h9)
                      (try rw [Bool.not_eq_false] at h9)
                      have h9 := of_decide_eq_true h9
                      rw [if_pos h9]
                      refine Rn.aload_n k_115 rfl rfl ?_
                      refine Rn.aload_n k_115 rfl rfl ?_
                      refine Rn.cV2 k_115 rfl rfl q_121 rfl (Nat.le_of_ble_eq_true rfl) (Nat.le_of_ble_eq_true rfl) (s585 L) (ct_setSize hF hS hA hW hw rfl) (fun v h' hq => ?_)
                      obtain ⟨fi', fl', rfl, z1, z2, rfl, z4⟩ := hq
                      show Rn _ _ _ _ (Value.int _ :: []) _ _
                      refine Rn.reti k_115 rfl q_115 rfl (bI_fit _) ?_
                      exact ⟨fi', fl', rfl, z1, z2, rfl, z4⟩
                  · (try rw [bI_0] at h8)
                    (try rw [Bool.not_eq_false] at h8)
                    have h8 := of_decide_eq_true h8
                    rw [if_pos h8]
                    refine Rn.aload_n k_115 rfl rfl ?_
                    refine Rn.aload_n k_115 rfl rfl ?_
                    refine Rn.cV2 k_115 rfl rfl q_120 rfl (Nat.le_of_ble_eq_true rfl) (Nat.le_of_ble_eq_true rfl) (s585 L) (ct_addParameter hF hS hA hW hw rfl) (fun v h' hq => ?_)
                    obtain ⟨fi', fl', rfl, z1, z2, rfl, z4⟩ := hq
                    show Rn _ _ _ _ (Value.int _ :: []) _ _
                    refine Rn.reti k_115 rfl q_115 rfl (bI_fit _) ?_
                    exact ⟨fi', fl', rfl, z1, z2, rfl, z4⟩
                · rw [c_ge 1 1 rfl (by omega) (by decide)] at h7
                  omega
            · (try rw [bI_0] at h5)
              (try rw [Bool.not_eq_false] at h5)
              have h5 := of_decide_eq_true h5
              rw [if_pos h5]
              refine Rn.aload_n k_115 rfl rfl ?_
              refine Rn.cV1 k_115 rfl rfl q_119 rfl (Nat.le_of_ble_eq_true rfl) (Nat.le_of_ble_eq_true rfl) (s585 L) (ct_addTags hF hS hA hW hw rfl) (fun v h' hq => ?_)
              obtain ⟨fi', fl', rfl, z1, z2, rfl, z4⟩ := hq
              show Rn _ _ _ _ (Value.int _ :: []) _ _
              refine Rn.reti k_115 rfl q_115 rfl (bI_fit _) ?_
              exact ⟨fi', fl', rfl, z1, z2, rfl, z4⟩
          · (try rw [bI_0] at h4)
            (try rw [Bool.not_eq_false] at h4)
            have h4 := of_decide_eq_true h4
            rw [if_pos h4]
            refine Rn.aload_n k_115 rfl rfl ?_
            refine Rn.iload_n k_115 rfl rfl ?_
            refine Rn.cV2 k_115 rfl rfl q_117 rfl (Nat.le_of_ble_eq_true rfl) (Nat.le_of_ble_eq_true rfl) (s585 L) (ct_openCase hF hS hA hW hw rfl) (fun v h' hq => ?_)
            obtain ⟨fi', fl', rfl, z1, z2, rfl, z4⟩ := hq
            show Rn _ _ _ _ (Value.int _ :: []) _ _
            refine Rn.reti k_115 rfl q_115 rfl (bI_fit _) ?_
            exact ⟨fi', fl', rfl, z1, z2, rfl, z4⟩
        · (try rw [bI_0] at h3)
          (try rw [Bool.not_eq_false] at h3)
          have h3 := of_decide_eq_true h3
          rw [if_pos h3]
          refine Rn.aload_n k_115 rfl rfl ?_
          refine Rn.cV1 k_115 rfl rfl q_116 rfl (Nat.le_of_ble_eq_true rfl) (Nat.le_of_ble_eq_true rfl) (s585 L) (ct_openSuite hF hS hA hW hw rfl) (fun v h' hq => ?_)
          obtain ⟨fi', fl', rfl, z1, z2, rfl, z4⟩ := hq
          show Rn _ _ _ _ (Value.int _ :: []) _ _
          refine Rn.reti k_115 rfl q_115 rfl (bI_fit _) ?_
          exact ⟨fi', fl', rfl, z1, z2, rfl, z4⟩
      · (try rw [bI_0] at h2)
        (try rw [Bool.not_eq_false] at h2)
        have h2 := of_decide_eq_true h2
        refine yes ?_
        rw [lineW_eq, if_pos h2]
end RD
