/-! THE REFERENCE: text -/
def MTP (fi : Nat → Nat → Int32) (T : List Nat) : Prop := fi 604 1 = nI T.length ∧ ∀ k, k < T.length → fi 605 k = nI (T.getD k 0)
theorem MTP.add {fi : Nat → Nat → Int32} {T : List Nat} (h : MTP fi T) (c : Nat) : MTP (up2 (up2 fi 605 T.length (nI c)) 604 1 (nI (T.length + 1))) (T ++ [c]) := by
  refine ⟨by rw [up2_same, List.length_append]; rfl, fun k hk => ?_⟩
  rw [List.length_append] at hk
  have hk : k < T.length + 1 := hk
  rw [up2_row _ _ (by decide)]
  by_cases e : k = T.length
  · subst e; rw [up2_same, gD_last]
  · rw [up2_col _ _ e, gD_lt (by omega)]; exact h.2 k (by omega)
theorem MTP.keep {fi fi' : Nat → Nat → Int32} {T : List Nat} (h : MTP fi T) (e1 : fi' 604 1 = fi 604 1) (e2 : ∀ k, fi' 605 k = fi 605 k) : MTP fi' T := ⟨e1.trans h.1, fun k hk => (e2 k).trans (h.2 k hk)⟩
def mtxQ (L : Nat) (fi : Nat → Nat → Int32) (fl : Nat → Nat → Int64) (fr : Nat → Nat → Option Nat) (w : Int64) (T : List Nat) : Option Value → am_H → Prop := fun v h' => ∃ fi', h' = (SH L, fi', fl, fr) ∧ fi' 604 0 = 0 ∧ (∀ a k, a ≠ 605 → (a ≠ 604 ∨ (k ≠ 0 ∧ k ≠ 1)) → fi' a k = fi a k) ∧ ((txtOk w T ∧ v = some (.int 1) ∧ MTP fi' (T ++ bys w 8)) ∨ (¬ txtOk w T ∧ v = some (.int 0) ∧ MTP fi' T))
section MX
variable {d L : Nat} {fi : Nat → Nat → Int32} {fl : Nat → Nat → Int64} {fr : Nat → Nat → Option Nat} {F G : Nat}
set_option maxHeartbeats 1000000 in
theorem cm_text (hF : FRok F G fr) {T : List Nat} (hT : MTP fi T) (hO : T.length ≤ 1200) {w : Int64} : Rn d 14 0 [some (.ref 604), some (.long w), none, none, none, none, none] [] (SH L, fi, fl, fr) (mtxQ L fi fl fr w T) := by
  have loop2 : ∀ (j : Nat), j ≤ 8 → ∀ (U : List Nat) (gi : Nat → Nat → Int32) (sh o3 o4 : Int32) (o6 : Option Value), (∀ q, j = q + 1 → sh = nI (8 * q)) → (j = 0 → sh = -8) → U ++ bys w j = T ++ bys w 8 → (T ++ bys w 8).length ≤ 1200 → MTP gi U → gi 604 0 = 0 → (∀ a k, a ≠ 605 → (a ≠ 604 ∨ (k ≠ 0 ∧ k ≠ 1)) → gi a k = fi a k) → txtOk w T → Rn d 14 110 [some (.ref 604), some (.long w), none, some (.int o3), some (.int o4), some (.int sh), o6] [] (SH L, gi, fl, fr) (mtxQ L fi fl fr w T) := by
    intro j
    induction j with
    | zero =>
      intro hj U gi sh o3 o4 o6 hs hs0 hU hl hT g0 g1 hok
      rw [hs0 rfl]
      refine Rn.iload k_14 rfl rfl ?_
      refine Rn.if_lt 158 k_14 rfl rfl (fun h10 => ?_) (fun h10 => ?_)
      · refine Rn.iconst (1) k_14 rfl rfl ?_
        refine Rn.reti k_14 rfl q_14 rfl (rfl) ?_
        rw [show bys w 0 = [] from rfl, List.append_nil] at hU
        exact ⟨gi, rfl, g0, g1, Or.inl ⟨hok, rfl, hU ▸ hT⟩⟩
      · exact absurd (by decide) h10
    | succ j ih =>
      intro hj U gi sh o3 o4 o6 hs hs0 hU hl hT g0 g1 hok
      rw [hs j rfl]
      have hlen := congrArg List.length hU
      rw [List.length_append] at hlen
      have e1 : bys w (j + 1) = (if bt w (8 * j) = 0 then [] else [bt w (8 * j)]) ++ bys w j := rfl
      have hb := bt_lt w (8 * j)
      have step : ∀ (U : List Nat) (gi : Nat → Nat → Int32), U ++ bys w j = T ++ bys w 8 → MTP gi U → gi 604 0 = 0 → (∀ a k, a ≠ 605 → (a ≠ 604 ∨ (k ≠ 0 ∧ k ≠ 1)) → gi a k = fi a k) → Rn d 14 152 [some (.ref 604), some (.long w), none, some (.int o3), some (.int o4), some (.int (nI (8 * j))), some (.int (nI (bt w (8 * j))))] [] (SH L, gi, fl, fr) (mtxQ L fi fl fr w T) := by
        intro U gi hU hT g0 g1
        refine Rn.iinc5 (-8) k_14 rfl rfl rfl ?_
        refine Rn.goto 110 k_14 rfl rfl ?_
        refine ih (by omega) U gi _ _ _ _ (fun q hq => ?_) (fun h0 => ?_) hU hl hT g0 g1 hok
        · rw [hq]; exact m8 q
        · rw [h0]; decide
      refine Rn.iload k_14 rfl rfl ?_
      refine Rn.if_lt 158 k_14 rfl rfl (fun h10 => ?_) (fun h10 => ?_)
      · exact absurd h10 (c_neg (by omega))
      · refine Rn.lload_n k_14 rfl rfl ?_
        refine Rn.iload k_14 rfl rfl ?_
        refine Rn.lshr k_14 rfl ?_
        refine Rn.ldc2 255 k_14 rfl rfl ?_
        refine Rn.land k_14 rfl ?_
        refine Rn.l2i k_14 rfl ?_
        rw [bt_mod w (by omega)]
        refine Rn.istore6 k_14 rfl rfl ?_
        refine Rn.iload k_14 rfl rfl ?_
        refine Rn.if_eq 152 k_14 rfl rfl (fun h11 => ?_) (fun h11 => ?_)
        · rw [c_eq 0 0 rfl (by omega) (by decide)] at h11
          rw [e1, if_pos h11, List.nil_append] at hU
          exact step U gi hU hT g0 g1
        · rw [c_eq 0 0 rfl (by omega) (by decide)] at h11
          rw [e1, if_neg h11] at hU hlen
          rw [List.length_append] at hlen
          simp only [List.length_singleton] at hlen
          refine Rn.aload_n k_14 rfl rfl ?_
          refine Rn.getA k_14 rfl rfl (s604 L) (hF.l 29 rfl) ?_
          refine Rn.aload_n k_14 rfl rfl ?_
          refine Rn.getI k_14 rfl rfl (s604 L) ?_
          refine Rn.iload k_14 rfl rfl ?_
          refine Rn.iastore (U.length) k_14 rfl (s605 L) (hT.1) (by omega) (by decide) (rfl) ?_
          refine Rn.aload_n k_14 rfl rfl ?_
          refine Rn.dupa k_14 rfl ?_
          refine Rn.getI k_14 rfl rfl (s604 L) ?_
          rw [show up2 gi 605 U.length (nI (bt w (8 * j))) 604 1 = nI U.length from hT.1]
          refine Rn.iconst (1) k_14 rfl rfl ?_
          refine Rn.iadd k_14 rfl ?_
          rw [c_add 1 1 rfl]
          refine Rn.putI k_14 rfl (rfl) (s604 L) ?_
          refine step (U ++ [bt w (8 * j)]) _ ?_ (hT.add _) ?_ (fun a k h1 h2 => ?_)
          · rw [List.append_assoc]; exact hU
          · exact g0
          · rcases h2 with h2 | h2
            · rw [up2_row _ _ h2, up2_row _ _ h1]; exact g1 a k h1 (Or.inl h2)
            · rw [up2_col _ _ h2.2, up2_row _ _ h1]; exact g1 a k h1 (Or.inr h2)
  have hk0 : ∀ a k, a ≠ 605 → (a ≠ 604 ∨ (k ≠ 0 ∧ k ≠ 1)) → up2 fi 604 0 0 a k = fi a k := fun a k h1 h2 => by
    rcases h2 with h2 | h2
    · exact up2_row _ _ h2
    · exact up2_col _ _ h2.1
  have hT0 : MTP (up2 fi 604 0 0) T := hT.keep (up2_col _ _ (by decide)) (fun k => up2_row _ _ (by decide))
  have ill : ¬ txtOk w T → ∀ o3 o4 o5 o6, Rn d 14 104 [some (.ref 604), some (.long w), none, o3, o4, o5, o6] [] (SH L, up2 fi 604 0 0, fl, fr) (mtxQ L fi fl fr w T) := by
    intro z o3 o4 o5 o6
    refine Rn.iconst (0) k_14 rfl rfl ?_
    refine Rn.reti k_14 rfl q_14 rfl (rfl) ?_
    exact ⟨_, rfl, rfl, hk0, Or.inr ⟨z, rfl, hT0⟩⟩
  have loop1 : ∀ (j : Nat), j ≤ 8 → ∀ (q : Nat) (b : Bool) (sh : Int32) (o6 : Option Value), (∀ q, j = q + 1 → sh = nI (8 * q)) → (j = 0 → sh = -8) → q + (bys w j).length = (bys w 8).length → ((∀ c ∈ bys w 8, ok_c c = true) ↔ b = true ∧ ∀ c ∈ bys w j, ok_c c = true) → Rn d 14 14 [some (.ref 604), some (.long w), none, some (.int (nI q)), some (.int (bI b)), some (.int sh), o6] [] (SH L, up2 fi 604 0 0, fl, fr) (mtxQ L fi fl fr w T) := by
    have h8' := bys_len w 8
    intro j
    induction j with
    | zero =>
      intro hj q b sh o6 hs hs0 hq hok
      rw [hs0 rfl]
      have hq : q = (bys w 8).length := hq
      refine Rn.iload k_14 rfl rfl ?_
      refine Rn.if_lt 87 k_14 rfl rfl (fun h1 => ?_) (fun h1 => ?_)
      · refine Rn.iload k_14 rfl rfl ?_
        refine Rn.if_eq 104 k_14 rfl rfl (fun h8 => ?_) (fun h8 => ?_)
        · (try rw [bI_0] at h8)
          (try rw [Bool.not_eq_false] at h8)
          exact ill (fun z => by rw [h8] at hok; exact absurd (hok.mp z.1).1 (by decide)) _ _ _ _
        · (try rw [bI_0] at h8)
          (try rw [Bool.not_eq_false] at h8)
          have hok := hok.mpr ⟨h8, fun c hc => by cases hc⟩
          refine Rn.aload_n k_14 rfl rfl ?_
          refine Rn.getI k_14 rfl rfl (s604 L) ?_
          rw [hT0.1]
          refine Rn.iload_n k_14 rfl rfl ?_
          refine Rn.iadd k_14 rfl ?_
          rw [nI_add]
          refine Rn.sipush (1200) k_14 rfl rfl ?_
          refine Rn.icmp_le 106 k_14 rfl rfl (fun h9 => ?_) (fun h9 => ?_)
          · rw [c_le 1200 1200 rfl (by omega) (by decide)] at h9
            refine Rn.bipush (56) k_14 rfl rfl ?_
            refine Rn.istore5 k_14 rfl rfl ?_
            refine loop2 8 (Nat.le_refl _) T _ _ _ _ _ (fun q hq => ?_) (fun h0 => absurd h0 (by decide)) rfl ?_ hT0 rfl hk0 ⟨hok, by omega⟩
            · have : q = 7 := by omega
              rw [this]; rfl
            · rw [List.length_append]; omega
          · rw [c_le 1200 1200 rfl (by omega) (by decide)] at h9
            exact ill (fun z => by have := z.2; omega) _ _ _ _
      · exact absurd (by decide) h1
    | succ j ih =>
      intro hj q b sh o6 hs hs0 hq hok
      rw [hs j rfl]
      have e1 : bys w (j + 1) = (if bt w (8 * j) = 0 then [] else [bt w (8 * j)]) ++ bys w j := rfl
      have hb := bt_lt w (8 * j)
      generalize hB : bt w (8 * j) = c at e1 hb
      have step : ∀ q b', q + (bys w j).length = (bys w 8).length → b' = (b && (decide (c = 0) || ok_c c)) → Rn d 14 79 [some (.ref 604), some (.long w), none, some (.int (nI q)), some (.int (bI b)), some (.int (nI (8 * j))), some (.int (nI c))] [.int (bI b')] (SH L, up2 fi 604 0 0, fl, fr) (mtxQ L fi fl fr w T) := by
        intro q b' hq hb'
        refine Rn.istore4 k_14 rfl rfl ?_
        refine Rn.iinc5 (-8) k_14 rfl rfl rfl ?_
        refine Rn.goto 14 k_14 rfl rfl ?_
        refine ih (by omega) q b' _ _ (fun q hq => ?_) (fun h0 => ?_) hq ?_
        · rw [hq]; exact m8 q
        · rw [h0]; decide
        · rw [hok, hb', e1]
          by_cases c0 : c = 0
          · rw [if_pos c0, decide_eq_true c0]; simp
          · rw [if_neg c0, decide_eq_false c0]
            simp [and_assoc]
      have mid : ∀ q, q + (bys w j).length = (bys w 8).length → Rn d 14 43 [some (.ref 604), some (.long w), none, some (.int (nI q)), some (.int (bI b)), some (.int (nI (8 * j))), some (.int (nI c))] [] (SH L, up2 fi 604 0 0, fl, fr) (mtxQ L fi fl fr w T) := by
        intro q hq
        refine Rn.iload k_14 rfl rfl ?_
        refine Rn.if_eq 78 k_14 rfl rfl (fun h3 => ?_) (fun h3 => ?_)
        · (try rw [bI_0] at h3)
          (try rw [Bool.not_eq_false] at h3)
          refine Rn.iconst (0) k_14 rfl rfl ?_
          exact step q false hq (by rw [h3]; rfl)
        · (try rw [bI_0] at h3)
          (try rw [Bool.not_eq_false] at h3)
          refine Rn.iload k_14 rfl rfl ?_
          refine Rn.if_eq 74 k_14 rfl rfl (fun h4 => ?_) (fun h4 => ?_)
          · rw [c_eq 0 0 rfl (by omega) (by decide)] at h4
            refine Rn.iconst (1) k_14 rfl rfl ?_
            refine Rn.goto 79 k_14 rfl rfl ?_
            exact step q true hq (by rw [h3, decide_eq_true h4]; rfl)
          · rw [c_eq 0 0 rfl (by omega) (by decide)] at h4
            refine Rn.iload k_14 rfl rfl ?_
            refine Rn.bipush (10) k_14 rfl rfl ?_
            refine Rn.icmp_eq 74 k_14 rfl rfl (fun h5 => ?_) (fun h5 => ?_)
            · rw [c_eq 10 10 rfl (by omega) (by decide)] at h5
              refine Rn.iconst (1) k_14 rfl rfl ?_
              refine Rn.goto 79 k_14 rfl rfl ?_
              exact step q true hq (by rw [h3, h5]; rfl)
            · rw [c_eq 10 10 rfl (by omega) (by decide)] at h5
              refine Rn.iload k_14 rfl rfl ?_
              refine Rn.bipush (32) k_14 rfl rfl ?_
              refine Rn.icmp_lt 78 k_14 rfl rfl (fun h6 => ?_) (fun h6 => ?_)
              · rw [c_lt 32 32 rfl (by omega) (by decide)] at h6
                refine Rn.iconst (0) k_14 rfl rfl ?_
                refine step q false hq ?_
                rw [h3, decide_eq_false h4, Bool.true_and, Bool.false_or]
                unfold ok_c
                simp
                omega
              · rw [c_lt 32 32 rfl (by omega) (by decide)] at h6
                refine Rn.iload k_14 rfl rfl ?_
                refine Rn.bipush (126) k_14 rfl rfl ?_
                refine Rn.icmp_gt 78 k_14 rfl rfl (fun h7 => ?_) (fun h7 => ?_)
                · rw [c_gt 126 126 rfl (by omega) (by decide)] at h7
                  refine Rn.iconst (0) k_14 rfl rfl ?_
                  refine step q false hq ?_
                  rw [h3, decide_eq_false h4, Bool.true_and, Bool.false_or]
                  unfold ok_c
                  simp
                  omega
                · rw [c_gt 126 126 rfl (by omega) (by decide)] at h7
                  refine Rn.iconst (1) k_14 rfl rfl ?_
                  refine Rn.goto 79 k_14 rfl rfl ?_
                  refine step q true hq ?_
                  rw [h3, decide_eq_false h4, Bool.true_and, Bool.false_or]
                  unfold ok_c
                  simp
                  omega
      refine Rn.iload k_14 rfl rfl ?_
      refine Rn.if_lt 87 k_14 rfl rfl (fun h1 => ?_) (fun h1 => ?_)
      · exact absurd h1 (c_neg (by omega))
      · refine Rn.lload_n k_14 rfl rfl ?_
        refine Rn.iload k_14 rfl rfl ?_
        refine Rn.lshr k_14 rfl ?_
        refine Rn.ldc2 255 k_14 rfl rfl ?_
        refine Rn.land k_14 rfl ?_
        refine Rn.l2i k_14 rfl ?_
        rw [bt_mod w (by omega), hB]
        refine Rn.istore6 k_14 rfl rfl ?_
        refine Rn.iload_n k_14 rfl rfl ?_
        refine Rn.iload k_14 rfl rfl ?_
        refine Rn.if_eq 40 k_14 rfl rfl (fun h2 => ?_) (fun h2 => ?_)
        · rw [c_eq 0 0 rfl (by omega) (by decide)] at h2
          rw [e1, if_pos h2, List.nil_append] at hq
          refine Rn.iconst (0) k_14 rfl rfl ?_
          refine Rn.iadd k_14 rfl ?_
          rw [Int32.add_zero]
          refine Rn.istore_n3 k_14 rfl rfl ?_
          exact mid q hq
        · rw [c_eq 0 0 rfl (by omega) (by decide)] at h2
          rw [e1, if_neg h2] at hq
          rw [List.length_append] at hq
          simp only [List.length_singleton] at hq
          refine Rn.iconst (1) k_14 rfl rfl ?_
          refine Rn.goto 41 k_14 rfl rfl ?_
          refine Rn.iadd k_14 rfl ?_
          rw [c_add 1 1 rfl]
          refine Rn.istore_n3 k_14 rfl rfl ?_
          exact mid (q + 1) (by omega)
  refine Rn.aload_n k_14 rfl rfl ?_
  refine Rn.iconst (0) k_14 rfl rfl ?_
  refine Rn.putI k_14 rfl (rfl) (s604 L) ?_
  refine Rn.iconst (0) k_14 rfl rfl ?_
  refine Rn.istore_n3 k_14 rfl rfl ?_
  refine Rn.iconst (1) k_14 rfl rfl ?_
  refine Rn.istore4 k_14 rfl rfl ?_
  refine Rn.bipush (56) k_14 rfl rfl ?_
  refine Rn.istore5 k_14 rfl rfl ?_
  exact loop1 8 (Nat.le_refl _) 0 true _ _ (fun q hq => by have : q = 7 := by omega
                                                           rw [this]; rfl) (fun h0 => absurd h0 (by decide)) (Nat.zero_add _) (by simp)
end MX
