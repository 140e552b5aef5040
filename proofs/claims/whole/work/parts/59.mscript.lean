/-! THE REFERENCE: lineIs, nothing, script -/
theorem MSr.keepC {fi fi' : Nat → Nat → Int32} {x : Nat → Nat} {n : Nat} {A : AS} (hA : AOk n A) (hS : MSr fi x n A) (e : ∀ a k, mcF a k → fi' a k = fi a k) : MSr fi' x n A := by
  obtain ⟨hT, hU, hK, hC⟩ := hS
  have w : ∀ a k, a ≠ 604 → a ≠ 607 → a ≠ 608 → fi' a k = fi a k := fun a k h1 h2 h3 => e a k ⟨Or.inl h1, h2, h3⟩
  have w2 : ∀ k, k ≠ 5 → fi' 604 k = fi 604 k := fun k h1 => e 604 k ⟨Or.inr h1, by decide, by decide⟩
  exact ⟨hT.keep (fun j => w _ _ (by decide) (by decide) (by decide)), ⟨(w2 _ (by decide)).trans hU.1, fun s hs => (hU.2 s hs).keep (fun a j z1 z2 z3 z4 => w _ _ (by omega) (by omega) (by omega))⟩, ⟨(w2 _ (by decide)).trans hK.1, fun c hc => (hK.2 c hc).keep (hA.k hc).2.2.2.2.2.2.2.2.1 (fun p hp => ((hA.k hc).pv hp).2) (fun a j z1 z2 z3 z4 z5 z6 => w _ _ (by omega) (by omega) (by omega))⟩, (w2 _ (by decide)).trans hC⟩
/-- the tests, numbered -/
def MNT (fi : Nat → Nat → Int32) (ks : List KS) : Prop := ∀ i, i < ks.length → ∀ w, w < ways (k_ps (ks.getD i dK)) → fi 631 (totW (ks.take i) + w) = nI i ∧ fi 632 (totW (ks.take i) + w) = nI w
/-- the script as it stays -/
def MFr (fi : Nat → Nat → Int32) (x : Nat → Nat) (n : Nat) (A : AS) : Prop := MTX fi x n ∧ MSU fi x n A.1 ∧ MKS fi x n A.2.1 ∧ fi 604 33 = nI (totW A.2.1) ∧ MNT fi A.2.1
theorem MFr.keep {fi fi' : Nat → Nat → Int32} {x : Nat → Nat} {n : Nat} {A : AS} (hA : AOk n A) (h : MFr fi x n A) (e : ∀ a k, (606 ≤ a ∧ a ≤ 632) → fi' a k = fi a k) (e2 : ∀ k, k = 8 ∨ k = 14 ∨ k = 33 → fi' 604 k = fi 604 k) : MFr fi' x n A := by
  obtain ⟨hT, hU, hK, h33, hN⟩ := h
  exact ⟨hT.keep (fun j => e _ _ (by omega)), ⟨(e2 _ (by omega)).trans hU.1, fun s hs => (hU.2 s hs).keep (fun a j z1 z2 z3 z4 => e _ _ (by omega))⟩, ⟨(e2 _ (by omega)).trans hK.1, fun c hc => (hK.2 c hc).keep (hA.k hc).2.2.2.2.2.2.2.2.1 (fun p hp => ((hA.k hc).pv hp).2) (fun a j z1 z2 z3 z4 z5 z6 => e _ _ (by omega))⟩, (e2 _ (by omega)).trans h33, fun i hi w hw => by rw [e _ _ (by omega), e _ _ (by omega)]; exact hN i hi w hw⟩
section MV
variable {d L : Nat} {fi : Nat → Nat → Int32} {fl : Nat → Nat → Int64} {fr : Nat → Nat → Option Nat} {F G : Nat} {x : Nat → Nat} {n : Nat} {A : AS} {ws : List (Nat × Nat)}
set_option maxHeartbeats 2000000 in
theorem cm_lineIs (hF : FRok F G fr) (hS : MSr fi x n A) (hA : AOk n A) (hW : MWD fi ws) (hw : wok n ws) {line : Nat} : Rn (d + 5) 32 0 [some (.ref 604), some (.int (nI line))] [] (SH L, fi, fl, fr) (MacQ L fi fl fr x n (lineW x A line ws)) := by
  have hl6 := hw.2
  have hn := hS.1.2
  have yes : lineW x A line ws = some A → Rn (d + 5) 32 23 [some (.ref 604), some (.int (nI line))] [] (SH L, fi, fl, fr) (MacQ L fi fl fr x n (lineW x A line ws)) := by
    intro e
    refine Rn.iconst (1) k_32 rfl rfl ?_
    refine Rn.reti k_32 rfl q_32 rfl (rfl) ?_
    rw [e]
    exact ⟨fi, rfl, fun _ _ _ => rfl, rfl, fun B hB => by cases hB; exact hS⟩
  refine Rn.aload_n k_32 rfl rfl ?_
  refine Rn.getI k_32 rfl rfl (s604 L) ?_
  rw [hW.1]
  refine Rn.if_eq 23 k_32 rfl rfl (fun h1 => ?_) (fun h1 => ?_)
  · rw [c_eq 0 0 rfl (by omega) (by decide)] at h1
    refine yes ?_
    rw [List.eq_nil_of_length_eq_zero h1]
    rfl
  · rw [c_eq 0 0 rfl (by omega) (by decide)] at h1
    match ws, hW, hw, h1, hl6, yes with
    | [], _, _, h1, _, _ => exact absurd rfl h1
    | w0 :: rest, hW, hw, h1, hl6, yes =>
      obtain ⟨w1, w2⟩ := hW.2 0 (by simp)
      have w1 : fi 607 0 = nI w0.1 := w1
      have hww := hw.1 w0 (by simp)
      obtain ⟨t1, t2⟩ := hS.1.1 w0.1 (by omega)
      refine Rn.aload_n k_32 rfl rfl ?_
      refine Rn.getA k_32 rfl rfl (s604 L) (hF.l 30 rfl) ?_
      refine Rn.aload_n k_32 rfl rfl ?_
      refine Rn.getA k_32 rfl rfl (s604 L) (hF.l 31 rfl) ?_
      refine Rn.iconst (0) k_32 rfl rfl ?_
      refine Rn.iaload (0) k_32 rfl (s607 L) (rfl) (by omega) (by decide) ?_
      rw [w1]
      refine Rn.iaload (w0.1) k_32 rfl (s606 L) (rfl) (by omega) (by decide) ?_
      rw [t1]
      refine Rn.bipush (35) k_32 rfl rfl ?_
      refine Rn.icmp_ne 25 k_32 rfl rfl (fun h2 => ?_) (fun h2 => ?_)
      · rw [c_eq 35 35 rfl (by omega) (by decide)] at h2
        have bw : ∀ {w : Int64} {l : List Nat}, bys w 8 = l → Rn (d + 4) 18 0 [some (.ref 604), some (.long w), none, none, none, none] [] (SH L, fi, fl, fr) (Ret (SH L, fi, fl, fr) (some (.int (bI (decide (wd x w0 = l)))))) := fun {w l} e => by
          have := cm_begins (d := d + 4) (L := L) (fl := fl) (w := w) hF hS.1 hW hw (by simp)
          rw [e] at this
          exact this
        rw [lineW_eq, if_neg h2]
        refine Rn.aload_n k_32 rfl rfl ?_
        refine Rn.ldc2 495891084389 k_32 rfl rfl ?_
        refine Rn.cV2I k_32 rfl rfl q_18 rfl (Nat.le_of_ble_eq_true rfl) (Nat.le_of_ble_eq_true rfl) (s604 L) (bw (l := [115, 117, 105, 116, 101]) (by decide)) ?_
        refine Rn.if_eq 40 k_32 rfl rfl (fun h3 => ?_) (fun h3 => ?_)
        · (try rw [bI_0] at h3)
          (try rw [Bool.not_eq_false] at h3)
          have h3 := of_decide_eq_false h3
          rw [if_neg h3]
          refine Rn.aload_n k_32 rfl rfl ?_
          refine Rn.ldc2 1667330917 k_32 rfl rfl ?_
          refine Rn.cV2I k_32 rfl rfl q_18 rfl (Nat.le_of_ble_eq_true rfl) (Nat.le_of_ble_eq_true rfl) (s604 L) (bw (l := [99, 97, 115, 101]) (by decide)) ?_
          refine Rn.if_eq 56 k_32 rfl rfl (fun h4 => ?_) (fun h4 => ?_)
          · (try rw [bI_0] at h4)
            (try rw [Bool.not_eq_false] at h4)
            have h4 := of_decide_eq_false h4
            rw [if_neg h4]
            refine Rn.aload_n k_32 rfl rfl ?_
            refine Rn.ldc2 7627111 k_32 rfl rfl ?_
            refine Rn.cV2I k_32 rfl rfl q_18 rfl (Nat.le_of_ble_eq_true rfl) (Nat.le_of_ble_eq_true rfl) (s604 L) (bw (l := [116, 97, 103]) (by decide)) ?_
            refine Rn.if_eq 71 k_32 rfl rfl (fun h5 => ?_) (fun h5 => ?_)
            · (try rw [bI_0] at h5)
              (try rw [Bool.not_eq_false] at h5)
              have h5 := of_decide_eq_false h5
              rw [if_neg h5]
              refine Rn.aload_n k_32 rfl rfl ?_
              refine Rn.ldc2 2003399784 k_32 rfl rfl ?_
              refine Rn.cV2I k_32 rfl rfl q_18 rfl (Nat.le_of_ble_eq_true rfl) (Nat.le_of_ble_eq_true rfl) (s604 L) (bw (l := [119, 105, 116, 104]) (by decide)) ?_
              refine Rn.if_eq 86 k_32 rfl rfl (fun h6 => ?_) (fun h6 => ?_)
              · (try rw [bI_0] at h6)
                (try rw [Bool.not_eq_false] at h6)
                have h6 := of_decide_eq_false h6
                rw [if_neg h6]
                refine Rn.aload_n k_32 rfl rfl ?_
                refine Rn.ldc2 1936292453 k_32 rfl rfl ?_
                refine Rn.cV2I k_32 rfl rfl q_18 rfl (Nat.le_of_ble_eq_true rfl) (Nat.le_of_ble_eq_true rfl) (s604 L) (bw (l := [115, 105, 122, 101]) (by decide)) ?_
                refine Rn.if_eq 101 k_32 rfl rfl (fun h7 => ?_) (fun h7 => ?_)
                · (try rw [bI_0] at h7)
                  (try rw [Bool.not_eq_false] at h7)
                  have h7 := of_decide_eq_false h7
                  rw [if_neg h7]
                  refine Rn.aload_n k_32 rfl rfl ?_
                  refine Rn.ldc2 1936419184 k_32 rfl rfl ?_
                  refine Rn.cV2I k_32 rfl rfl q_18 rfl (Nat.le_of_ble_eq_true rfl) (Nat.le_of_ble_eq_true rfl) (s604 L) (bw (l := [115, 107, 105, 112]) (by decide)) ?_
                  refine Rn.if_eq 116 k_32 rfl rfl (fun h8 => ?_) (fun h8 => ?_)
                  · (try rw [bI_0] at h8)
                    (try rw [Bool.not_eq_false] at h8)
                    have h8 := of_decide_eq_false h8
                    rw [if_neg h8]
                    refine Rn.aload_n k_32 rfl rfl ?_
                    refine Rn.ldc2 439720963187 k_32 rfl rfl ?_
                    refine Rn.cV2I k_32 rfl rfl q_18 rfl (Nat.le_of_ble_eq_true rfl) (Nat.le_of_ble_eq_true rfl) (s604 L) (bw (l := [102, 97, 105, 108, 115]) (by decide)) ?_
                    refine Rn.if_eq 137 k_32 rfl rfl (fun h9 => ?_) (fun h9 => ?_)
                    · (try rw [bI_0] at h9)
                      (try rw [Bool.not_eq_false] at h9)
                      have h9 := of_decide_eq_false h9
                      rw [if_neg h9]
                      refine Rn.iconst (0) k_32 rfl rfl ?_
                      refine Rn.reti k_32 rfl q_32 rfl (rfl) ?_
                      exact ⟨fi, rfl, fun _ _ _ => rfl, rfl, fun B hB => by cases hB⟩
                    · (try rw [bI_0] at h9)
                      (try rw [Bool.not_eq_false] at h9)
                      have h9 := of_decide_eq_true h9
                      rw [if_pos h9]
                      refine Rn.aload_n k_32 rfl rfl ?_
                      refine Rn.cV1 k_32 rfl rfl q_31 rfl (Nat.le_of_ble_eq_true rfl) (Nat.le_of_ble_eq_true rfl) (s604 L) (cm_failsLine hF hS hA hW hw rfl) (fun v h' hq => ?_)
                      obtain ⟨fi', rfl, z1, rfl, z4⟩ := hq
                      show Rn _ _ _ _ (Value.int _ :: []) _ _
                      refine Rn.if_eq 137 k_32 rfl rfl (fun h10 => ?_) (fun h10 => ?_)
                      · (try rw [bI_0] at h10)
                        (try rw [Bool.not_eq_false] at h10)
                        refine Rn.iconst (0) k_32 rfl rfl ?_
                        refine Rn.reti k_32 rfl q_32 rfl (rfl) ?_
                        exact ⟨fi', rfl, z1, by rw [h10]; rfl, z4⟩
                      · (try rw [bI_0] at h10)
                        (try rw [Bool.not_eq_false] at h10)
                        refine Rn.iconst (1) k_32 rfl rfl ?_
                        refine Rn.goto 138 k_32 rfl rfl ?_
                        refine Rn.reti k_32 rfl q_32 rfl (rfl) ?_
                        exact ⟨fi', rfl, z1, by rw [h10]; rfl, z4⟩
                  · (try rw [bI_0] at h8)
                    (try rw [Bool.not_eq_false] at h8)
                    have h8 := of_decide_eq_true h8
                    rw [if_pos h8]
                    refine Rn.aload_n k_32 rfl rfl ?_
                    refine Rn.cV1 k_32 rfl rfl q_30 rfl (Nat.le_of_ble_eq_true rfl) (Nat.le_of_ble_eq_true rfl) (s604 L) (cm_skipLine hF hS hA hW hw rfl) (fun v h' hq => ?_)
                    obtain ⟨fi', rfl, z1, rfl, z4⟩ := hq
                    show Rn _ _ _ _ (Value.int _ :: []) _ _
                    refine Rn.reti k_32 rfl q_32 rfl (bI_fit _) ?_
                    exact ⟨fi', rfl, z1, rfl, z4⟩
                · (try rw [bI_0] at h7)
                  (try rw [Bool.not_eq_false] at h7)
                  have h7 := of_decide_eq_true h7
                  rw [if_pos h7]
                  refine Rn.aload_n k_32 rfl rfl ?_
                  refine Rn.cV1 k_32 rfl rfl q_29 rfl (Nat.le_of_ble_eq_true rfl) (Nat.le_of_ble_eq_true rfl) (s604 L) (cm_sizeLine hF hS hA hW hw rfl) (fun v h' hq => ?_)
                  obtain ⟨fi', rfl, z1, rfl, z4⟩ := hq
                  show Rn _ _ _ _ (Value.int _ :: []) _ _
                  refine Rn.reti k_32 rfl q_32 rfl (bI_fit _) ?_
                  exact ⟨fi', rfl, z1, rfl, z4⟩
              · (try rw [bI_0] at h6)
                (try rw [Bool.not_eq_false] at h6)
                have h6 := of_decide_eq_true h6
                rw [if_pos h6]
                refine Rn.aload_n k_32 rfl rfl ?_
                refine Rn.cV1 k_32 rfl rfl q_28 rfl (Nat.le_of_ble_eq_true rfl) (Nat.le_of_ble_eq_true rfl) (s604 L) (cm_withLine hF hS hA hW hw rfl) (fun v h' hq => ?_)
                obtain ⟨fi', rfl, z1, rfl, z4⟩ := hq
                show Rn _ _ _ _ (Value.int _ :: []) _ _
                refine Rn.reti k_32 rfl q_32 rfl (bI_fit _) ?_
                exact ⟨fi', rfl, z1, rfl, z4⟩
            · (try rw [bI_0] at h5)
              (try rw [Bool.not_eq_false] at h5)
              have h5 := of_decide_eq_true h5
              rw [if_pos h5]
              refine Rn.aload_n k_32 rfl rfl ?_
              refine Rn.cV1 k_32 rfl rfl q_27 rfl (Nat.le_of_ble_eq_true rfl) (Nat.le_of_ble_eq_true rfl) (s604 L) (cm_tagLine hF hS hA hW hw rfl) (fun v h' hq => ?_)
              obtain ⟨fi', rfl, z1, rfl, z4⟩ := hq
              show Rn _ _ _ _ (Value.int _ :: []) _ _
              refine Rn.reti k_32 rfl q_32 rfl (bI_fit _) ?_
              exact ⟨fi', rfl, z1, rfl, z4⟩
          · (try rw [bI_0] at h4)
            (try rw [Bool.not_eq_false] at h4)
            have h4 := of_decide_eq_true h4
            rw [if_pos h4]
            refine Rn.aload_n k_32 rfl rfl ?_
            refine Rn.iload_n k_32 rfl rfl ?_
            refine Rn.cV2 k_32 rfl rfl q_22 rfl (Nat.le_of_ble_eq_true rfl) (Nat.le_of_ble_eq_true rfl) (s604 L) (cm_caseLine hF hS hA hW hw rfl) (fun v h' hq => ?_)
            obtain ⟨fi', rfl, z1, rfl, z4⟩ := hq
            show Rn _ _ _ _ (Value.int _ :: []) _ _
            refine Rn.reti k_32 rfl q_32 rfl (bI_fit _) ?_
            exact ⟨fi', rfl, z1, rfl, z4⟩
        · (try rw [bI_0] at h3)
          (try rw [Bool.not_eq_false] at h3)
          have h3 := of_decide_eq_true h3
          rw [if_pos h3]
          refine Rn.aload_n k_32 rfl rfl ?_
          refine Rn.cV1 k_32 rfl rfl q_21 rfl (Nat.le_of_ble_eq_true rfl) (Nat.le_of_ble_eq_true rfl) (s604 L) (cm_suiteLine hF hS hA hW hw rfl) (fun v h' hq => ?_)
          obtain ⟨fi', rfl, z1, rfl, z4⟩ := hq
          show Rn _ _ _ _ (Value.int _ :: []) _ _
          refine Rn.reti k_32 rfl q_32 rfl (bI_fit _) ?_
          exact ⟨fi', rfl, z1, rfl, z4⟩
      · rw [c_eq 35 35 rfl (by omega) (by decide)] at h2
        refine yes ?_
        rw [lineW_eq, if_pos h2]
end MV
