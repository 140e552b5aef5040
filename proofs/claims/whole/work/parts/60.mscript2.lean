/-! THE REFERENCE: nothing, script -/
section MV
variable {d L : Nat} {fi : Nat → Nat → Int32} {fl : Nat → Nat → Int64} {fr : Nat → Nat → Option Nat} {F G : Nat} {x : Nat → Nat} {n : Nat} {A : AS} {ws : List (Nat × Nat)}
def nth (fi : Nat → Nat → Int32) : Nat → Nat → Int32 := up2 (up2 (up2 (up2 (up2 fi 604 8 0) 604 14 0) 604 33 0) 604 32 0) 604 38 0
theorem nth_row {a k : Nat} (h : a ≠ 604) : nth fi a k = fi a k := by
  unfold nth
  rw [up2_row _ _ h, up2_row _ _ h, up2_row _ _ h, up2_row _ _ h, up2_row _ _ h]
theorem nth_col {k : Nat} (h : k ≠ 8 ∧ k ≠ 14 ∧ k ≠ 33 ∧ k ≠ 32 ∧ k ≠ 38) : nth fi 604 k = fi 604 k := by
  unfold nth
  rw [up2_col _ _ h.2.2.2.2, up2_col _ _ h.2.2.2.1, up2_col _ _ h.2.2.1, up2_col _ _ h.2.1, up2_col _ _ h.1]
theorem cm_nothing : Rn d 35 0 [some (.ref 604)] [] (SH L, fi, fl, fr) (Ret (SH L, nth fi, fl, fr) none) := by
  refine Rn.aload_n k_35 rfl rfl ?_
  refine Rn.iconst (0) k_35 rfl rfl ?_
  refine Rn.putI k_35 rfl (rfl) (s604 L) ?_
  refine Rn.aload_n k_35 rfl rfl ?_
  refine Rn.iconst (0) k_35 rfl rfl ?_
  refine Rn.putI k_35 rfl (rfl) (s604 L) ?_
  refine Rn.aload_n k_35 rfl rfl ?_
  refine Rn.iconst (0) k_35 rfl rfl ?_
  refine Rn.putI k_35 rfl (rfl) (s604 L) ?_
  refine Rn.aload_n k_35 rfl rfl ?_
  refine Rn.iconst (0) k_35 rfl rfl ?_
  refine Rn.putI k_35 rfl (rfl) (s604 L) ?_
  refine Rn.aload_n k_35 rfl rfl ?_
  refine Rn.iconst (0) k_35 rfl rfl ?_
  refine Rn.putI k_35 rfl (rfl) (s604 L) ?_
  refine Rn.retv k_35 rfl q_35 rfl ?_
  exact ⟨rfl, rfl⟩
def mscQ (L : Nat) (fi : Nat → Nat → Int32) (fl : Nat → Nat → Int64) (fr : Nat → Nat → Option Nat) (x : Nat → Nat) (n : Nat) (r : AS ⊕ Nat) : Option Value → am_H → Prop := fun v h' => v = some (.int (scrI r)) ∧ ∃ fi', h' = (SH L, fi', fl, fr) ∧ MFr fi' x n (scrA r) ∧ fi' 604 0 = 0 ∧ fi' 604 1 = 0 ∧ fi' 604 38 = 0 ∧ ∀ a k, a < 604 → fi' a k = fi a k
set_option maxHeartbeats 4000000 in
/-- the tests are numbered -/
theorem cm_number (hF : FRok F G fr) (hA : AOk n A) (hS : MSr fi x n A) (h33 : fi 604 33 = 0) {o1 o2 o3 : Option Value} (q1 q2 : Int32) (hv1 : o1 = some (.int q1)) (hv2 : o2 = some (.int q2)) {Q : Option Value → am_H → Prop} (hQ : ∀ fi', (∀ a k, a ≠ 631 → a ≠ 632 → (a ≠ 604 ∨ k ≠ 33) → fi' a k = fi a k) → fi' 604 33 = nI (totW A.2.1) → MNT fi' A.2.1 → Q (some (.int (-1))) (SH L, fi', fl, fr)) : Rn (d + 1) 36 119 [some (.ref 604), o1, o2, o3, none] [] (SH L, fi, fl, fr) Q := by
  subst hv1
  subst hv2
  obtain ⟨hT, hU, hK, hC⟩ := hS
  have hP := hK.pws hA
  have hl := hA.2.2.2.1
  have ht := hA.2.2.2.2.2.1
  generalize A.2.1 = ks at hK hP hl ht hQ
  have outer : ∀ (m i : Nat) (o4 : Option Value) (gi : Nat → Nat → Int32), i + m = ks.length → gi 604 33 = nI (totW (ks.take i)) → (∀ j, j < i → ∀ w, w < ways (k_ps (ks.getD j dK)) → gi 631 (totW (ks.take j) + w) = nI j ∧ gi 632 (totW (ks.take j) + w) = nI w) → (∀ a k, a ≠ 631 → a ≠ 632 → (a ≠ 604 ∨ k ≠ 33) → gi a k = fi a k) → Rn (d + 1) 36 121 [some (.ref 604), some (.int q1), some (.int q2), some (.int (nI i)), o4] [] (SH L, gi, fl, fr) Q := by
    intro m
    induction m with
    | zero =>
      intro i o4 gi hi h3 hN hG
      refine Rn.iload_n k_36 rfl rfl ?_
      refine Rn.aload_n k_36 rfl rfl ?_
      refine Rn.getI k_36 rfl rfl (s604 L) ?_
      rw [hG 604 14 (by decide) (by decide) (Or.inr (by decide)), hK.1]
      refine Rn.icmp_ge 185 k_36 rfl rfl (fun h1 => ?_) (fun h1 => ?_)
      · refine Rn.iconst (-1) k_36 rfl rfl ?_
        refine Rn.reti k_36 rfl q_36 rfl (rfl) ?_
        refine hQ gi hG ?_ (fun j hj => hN j (by omega))
        rw [h3, List.take_of_length_le (by omega)]
      · rw [nI_leI (by omega) (by omega)] at h1
        omega
    | succ m ih =>
      intro i o4 gi hi h3 hN hG
      have hil : i < ks.length := by omega
      have es := totW_succ hil
      have et := totW_take_le ks (i + 1)
      obtain ⟨p1, p2, p3, p4⟩ := hP i hil
      have hwy : ∀ (gi : Nat → Nat → Int32), (∀ a k, a ≠ 631 → a ≠ 632 → (a ≠ 604 ∨ k ≠ 33) → gi a k = fi a k) → Rn d 33 0 [some (.ref 604), some (.int (nI i)), none, none] [] (SH L, gi, fl, fr) (Ret (SH L, gi, fl, fr) (some (.int (nI (ways (k_ps (ks.getD i dK))))))) := fun gi hG => cm_waysOf hF (by omega) p1 p2 (by rw [hG 625 _ (by decide) (by decide) (Or.inl (by decide))]; exact p3) (fun p hp => by rw [hG 628 _ (by decide) (by decide) (Or.inl (by decide))]; exact p4 p hp)
      generalize hW : ways (k_ps (ks.getD i dK)) = W at es hwy
      have inner : ∀ (q t : Nat) (gi : Nat → Nat → Int32), t + q = W → gi 604 33 = nI (totW (ks.take i) + t) → (∀ j, j < i → ∀ w, w < ways (k_ps (ks.getD j dK)) → gi 631 (totW (ks.take j) + w) = nI j ∧ gi 632 (totW (ks.take j) + w) = nI w) → (∀ w, w < t → gi 631 (totW (ks.take i) + w) = nI i ∧ gi 632 (totW (ks.take i) + w) = nI w) → (∀ a k, a ≠ 631 → a ≠ 632 → (a ≠ 604 ∨ k ≠ 33) → gi a k = fi a k) → Rn (d + 1) 36 132 [some (.ref 604), some (.int q1), some (.int q2), some (.int (nI i)), some (.int (nI t))] [] (SH L, gi, fl, fr) Q := by
        intro q
        induction q with
        | zero =>
          intro t gi htq h3 hN hB hG
          refine Rn.iload k_36 rfl rfl ?_
          refine Rn.aload_n k_36 rfl rfl ?_
          refine Rn.iload_n k_36 rfl rfl ?_
          refine Rn.cV2I k_36 rfl rfl q_33 rfl (Nat.le_of_ble_eq_true rfl) (Nat.le_of_ble_eq_true rfl) (s604 L) (hwy gi hG) ?_
          refine Rn.icmp_ge 179 k_36 rfl rfl (fun h2 => ?_) (fun h2 => ?_)
          · refine Rn.iinc3 (1) k_36 rfl rfl rfl ?_
            rw [c_add 1 1 rfl]
            refine Rn.goto 121 k_36 rfl rfl ?_
            have : t = W := by omega
            subst this
            refine ih (i + 1) _ gi (by omega) (by rw [h3, es]) (fun j hj => ?_) hG
            by_cases e : j = i
            · subst e
              exact fun w hw2 => hB w (by omega)
            · exact hN j (by omega)
          · rw [nI_leI (by omega) (by omega)] at h2
            omega
        | succ q ihq =>
          intro t gi htq h3 hN hB hG
          refine Rn.iload k_36 rfl rfl ?_
          refine Rn.aload_n k_36 rfl rfl ?_
          refine Rn.iload_n k_36 rfl rfl ?_
          refine Rn.cV2I k_36 rfl rfl q_33 rfl (Nat.le_of_ble_eq_true rfl) (Nat.le_of_ble_eq_true rfl) (s604 L) (hwy gi hG) ?_
          refine Rn.icmp_ge 179 k_36 rfl rfl (fun h2 => ?_) (fun h2 => ?_)
          · rw [nI_leI (by omega) (by omega)] at h2
            omega
          · refine Rn.aload_n k_36 rfl rfl ?_
            refine Rn.getA k_36 rfl rfl (s604 L) (hF.l 55 rfl) ?_
            refine Rn.aload_n k_36 rfl rfl ?_
            refine Rn.getI k_36 rfl rfl (s604 L) ?_
            rw [h3]
            refine Rn.iload_n k_36 rfl rfl ?_
            refine Rn.iastore (totW (ks.take i) + t) k_36 rfl (s631 L) (rfl) (by omega) (by decide) (rfl) ?_
            refine Rn.aload_n k_36 rfl rfl ?_
            refine Rn.getA k_36 rfl rfl (s604 L) (hF.l 56 rfl) ?_
            refine Rn.aload_n k_36 rfl rfl ?_
            refine Rn.getI k_36 rfl rfl (s604 L) ?_
            rw [show up2 gi 631 (totW (ks.take i) + t) (nI i) 604 33 = nI (totW (ks.take i) + t) from h3]
            refine Rn.iload k_36 rfl rfl ?_
            refine Rn.iastore (totW (ks.take i) + t) k_36 rfl (s632 L) (rfl) (by omega) (by decide) (rfl) ?_
            refine Rn.aload_n k_36 rfl rfl ?_
            refine Rn.dupa k_36 rfl ?_
            refine Rn.getI k_36 rfl rfl (s604 L) ?_
            rw [show up2 (up2 gi 631 (totW (ks.take i) + t) (nI i)) 632 (totW (ks.take i) + t) (nI t) 604 33 = nI (totW (ks.take i) + t) from h3]
            refine Rn.iconst (1) k_36 rfl rfl ?_
            refine Rn.iadd k_36 rfl ?_
            rw [c_add 1 1 rfl]
            refine Rn.putI k_36 rfl (rfl) (s604 L) ?_
            refine Rn.iinc4 (1) k_36 rfl rfl rfl ?_
            rw [c_add 1 1 rfl]
            refine Rn.goto 132 k_36 rfl rfl ?_
            refine ihq (t + 1) _ (by omega) (up2_same _ _ _ _) (fun j hj w hw2 => ?_) (fun w hw2 => ?_) (fun a k ha hb hk => ?_)
            · have e1 := totW_succ (ks := ks) (i := j) (by omega)
              have e2 : totW (ks.take (j + 1)) ≤ totW (ks.take i) := by
                have := totW_take_le (ks.take i) (j + 1)
                rwa [List.take_take, Nat.min_eq_left (by omega)] at this
              rw [up2_row _ _ (by decide), up2_row _ _ (by decide), up2_col _ _ (by omega), up2_row _ _ (by decide), up2_col _ _ (by omega), up2_row _ _ (by decide)]
              exact hN j hj w hw2
            · by_cases e : w = t
              · subst e
                exact ⟨by rw [up2_row _ _ (by decide), up2_row _ _ (by decide), up2_same], by rw [up2_row _ _ (by decide), up2_same]⟩
              · exact ⟨by rw [up2_row _ _ (by decide), up2_row _ _ (by decide), up2_col _ _ (by omega)]; exact (hB w (by omega)).1, by rw [up2_row _ _ (by decide), up2_col _ _ (by omega), up2_row _ _ (by decide)]; exact (hB w (by omega)).2⟩
            · rcases hk with hk | hk
              · rw [up2_row _ _ hk, up2_row _ _ hb, up2_row _ _ ha]; exact hG a k ha hb (Or.inl hk)
              · rw [up2_col _ _ hk, up2_row _ _ hb, up2_row _ _ ha]; exact hG a k ha hb (Or.inr hk)
      refine Rn.iload_n k_36 rfl rfl ?_
      refine Rn.aload_n k_36 rfl rfl ?_
      refine Rn.getI k_36 rfl rfl (s604 L) ?_
      rw [hG 604 14 (by decide) (by decide) (Or.inr (by decide)), hK.1]
      refine Rn.icmp_ge 185 k_36 rfl rfl (fun h1 => ?_) (fun h1 => ?_)
      · rw [nI_leI (by omega) (by omega)] at h1
        omega
      · refine Rn.iconst (0) k_36 rfl rfl ?_
        refine Rn.istore4 k_36 rfl rfl ?_
        exact inner W 0 gi (Nat.zero_add _) h3 hN (fun w hw2 => absurd hw2 (Nat.not_lt_zero w)) hG
  refine Rn.iconst (0) k_36 rfl rfl ?_
  refine Rn.istore_n3 k_36 rfl rfl ?_
  exact outer ks.length 0 none fi (Nat.zero_add _) h33 (fun j hj => absurd hj (Nat.not_lt_zero j)) (fun _ _ _ _ _ => rfl)
set_option maxHeartbeats 4000000 in
theorem cm_script (hF : FRok F G fr) (hm : fi 604 1 = nI n) (hn : n ≤ 1200) (ht : ∀ k, k < n → fi 605 k = nI (x k) ∧ x k < 128) : Rn (d + 6) 36 0 [some (.ref 604), none, none, none, none] [] (SH L, fi, fl, fr) (mscQ L fi fl fr x n (scrW x n)) := by
  -- the lines
  have loop : ∀ (f i line : Nat) (A : AS) (gi : Nat → Nat → Int32) (o3 : Option Value), n < i + f → i ≤ n + 1 → MSr gi x n A → AOk n A → gi 604 3 = nI n → gi 604 33 = 0 → gi 604 0 = 0 → gi 604 1 = 0 → gi 604 38 = 0 → (∀ a k, a < 604 → gi a k = fi a k) → Rn (d + 6) 36 54 [some (.ref 604), some (.int (nI i)), some (.int (nI line)), o3, none] [] (SH L, gi, fl, fr) (mscQ L fi fl fr x n (linesW x n f A line i)) := by
    have exit : ∀ (i line : Nat) (A : AS) (gi : Nat → Nat → Int32) (o3 : Option Value), n ≤ i → i ≤ n + 1 → MSr gi x n A → AOk n A → gi 604 3 = nI n → gi 604 33 = 0 → gi 604 0 = 0 → gi 604 1 = 0 → gi 604 38 = 0 → (∀ a k, a < 604 → gi a k = fi a k) → Rn (d + 6) 36 54 [some (.ref 604), some (.int (nI i)), some (.int (nI line)), o3, none] [] (SH L, gi, fl, fr) (mscQ L fi fl fr x n (.inl A)) := by
      intro i line A gi o3 hi hi2 hS hA g3 g33 g0 g1 g38 gf
      refine Rn.iload_n k_36 rfl rfl ?_
      refine Rn.aload_n k_36 rfl rfl ?_
      refine Rn.getI k_36 rfl rfl (s604 L) ?_
      rw [g3]
      refine Rn.icmp_ge 119 k_36 rfl rfl (fun h2 => ?_) (fun h2 => ?_)
      · refine cm_number (d := d + 5) hF hA hS g33 _ _ rfl rfl (fun fi' k1 k2 k3 => ?_)
        refine ⟨rfl, fi', rfl, ⟨?_, ?_, ?_, k2, k3⟩, (k1 _ _ (by decide) (by decide) (Or.inr (by decide))).trans g0, (k1 _ _ (by decide) (by decide) (Or.inr (by decide))).trans g1, (k1 _ _ (by decide) (by decide) (Or.inr (by decide))).trans g38, fun a k ha => (k1 a k (by omega) (by omega) (Or.inl (by omega))).trans (gf a k ha)⟩
        · exact hS.1.keep (fun j => k1 _ _ (by decide) (by decide) (Or.inl (by decide)))
        · exact ⟨(k1 _ _ (by decide) (by decide) (Or.inr (by decide))).trans hS.2.1.1, fun s hs => (hS.2.1.2 s hs).keep (fun a j z1 z2 z3 z4 => k1 _ _ (by omega) (by omega) (Or.inl (by omega)))⟩
        · exact ⟨(k1 _ _ (by decide) (by decide) (Or.inr (by decide))).trans hS.2.2.1.1, fun c hc => (hS.2.2.1.2 c hc).keep (hA.k hc).2.2.2.2.2.2.2.2.1 (fun p hp => ((hA.k hc).pv hp).2) (fun a j z1 z2 z3 z4 z5 z6 => k1 _ _ (by omega) (by omega) (Or.inl (by omega)))⟩
      · rw [nI_leI (by omega) (by omega)] at h2
        omega
    intro f
    induction f with
    | zero =>
      intro i line A gi o3 hf hi
      exact exit i line A gi o3 (by omega) hi
    | succ f ih =>
      intro i line A gi o3 hf hi hS hA g3 g33 g0 g1 g38 gf
      unfold linesW
      by_cases hge : n ≤ i
      · rw [if_pos hge]
        exact exit i line A gi o3 hge hi hS hA g3 g33 g0 g1 g38 gf
      · rw [if_neg hge]
        have he := eol_ge x (n - i) i
        -- the line, of which the end is known
        have body : Rn (d + 6) 36 89 [some (.ref 604), some (.int (nI i)), some (.int (nI line)), some (.int (nI (eol x (n - i) i))), none] [] (SH L, gi, fl, fr) (mscQ L fi fl fr x n (match lineW x A line (cutW x i (eol x (n - i) i)) with
            | none => .inr line
            | some B => linesW x n f B (line + 1) (eol x (n - i) i + 1))) := by
          generalize hE : eol x (n - i) i = e at he
          refine Rn.aload_n k_36 rfl rfl ?_
          refine Rn.iload_n k_36 rfl rfl ?_
          refine Rn.iload_n k_36 rfl rfl ?_
          refine Rn.cV3 k_36 rfl rfl q_17 rfl (Nat.le_of_ble_eq_true rfl) (Nat.le_of_ble_eq_true rfl) (s604 L) (cm_cut hF hS.1 (show i ≤ e by omega) (show e ≤ n by omega)) (fun v h' hq => ?_)
          obtain ⟨rfl, gi1, rfl, hW, k1⟩ := hq
          show Rn _ _ _ _ [] _ _
          have hS1 := hS.keepC hA k1
          have hw := cutW_ok x (show i ≤ e by omega) (show e ≤ n by omega) hn
          have c1 : ∀ k, k ≠ 5 → gi1 604 k = gi 604 k := fun k hk => k1 604 k ⟨Or.inr hk, by decide, by decide⟩
          refine Rn.aload_n k_36 rfl rfl ?_
          refine Rn.iload_n k_36 rfl rfl ?_
          refine Rn.cV2 k_36 rfl rfl q_32 rfl (Nat.le_of_ble_eq_true rfl) (Nat.le_of_ble_eq_true rfl) (s604 L) (cm_lineIs hF hS1 hA hW hw) (fun v h' hq => ?_)
          obtain ⟨gi2, rfl, z1, rfl, z4⟩ := hq
          show Rn _ _ _ _ (Value.int _ :: []) _ _
          have c2 : ∀ k, k ≠ 5 → k ≠ 8 → k ≠ 14 → k ≠ 32 → gi2 604 k = gi 604 k := fun k y1 y2 y3 y4 => (z1 604 k (Or.inr ⟨rfl, y2, y3, y4⟩)).trans (c1 k y1)
          have c3 : ∀ a k, a < 604 → gi2 a k = fi a k := fun a k ha => (z1 a k (Or.inl (by omega))).trans ((k1 a k ⟨Or.inl (by omega), by omega, by omega⟩).trans (gf a k ha))
          have c4 : ∀ k, gi2 606 k = gi1 606 k := fun k => z1 606 k (Or.inl (by omega))
          cases hL : lineW x A line (cutW x i e) with
          | none =>
            rw [hL] at z4
            show Rn _ _ _ _ (Value.int 0 :: []) _ _
            refine Rn.if_ne 109 k_36 rfl rfl (fun h5 => ?_) (fun h5 => ?_)
            · exact absurd rfl h5
            · refine Rn.aload_n k_36 rfl rfl ?_
              refine Rn.cV1 k_36 rfl rfl q_35 rfl (Nat.le_of_ble_eq_true rfl) (Nat.le_of_ble_eq_true rfl) (s604 L) (cm_nothing) (fun v h' hq => ?_)
              obtain ⟨rfl, rfl⟩ := hq
              show Rn _ _ _ _ [] _ _
              refine Rn.iload_n k_36 rfl rfl ?_
              refine Rn.reti k_36 rfl q_36 rfl (rfl) ?_
              refine ⟨rfl, _, rfl, ⟨hS1.1.keep (fun j => (nth_row (by decide)).trans (c4 j)), ⟨rfl, fun s hs => absurd hs (Nat.not_lt_zero s)⟩, ⟨rfl, fun s hs => absurd hs (Nat.not_lt_zero s)⟩, rfl, fun s hs => absurd hs (Nat.not_lt_zero s)⟩, ?_, ?_, rfl, fun a k ha => (nth_row (by omega)).trans (c3 a k ha)⟩
              · rw [nth_col (by decide), c2 0 (by decide) (by decide) (by decide) (by decide)]; exact g0
              · rw [nth_col (by decide), c2 1 (by decide) (by decide) (by decide) (by decide)]; exact g1
          | some B =>
            rw [hL] at z4
            show Rn _ _ _ _ (Value.int 1 :: []) _ _
            refine Rn.if_ne 109 k_36 rfl rfl (fun h5 => ?_) (fun h5 => ?_)
            · refine Rn.iinc2 (1) k_36 rfl rfl rfl ?_
              rw [c_add 1 1 rfl]
              refine Rn.iload_n k_36 rfl rfl ?_
              refine Rn.iconst (1) k_36 rfl rfl ?_
              refine Rn.iadd k_36 rfl ?_
              rw [c_add 1 1 rfl]
              refine Rn.istore_n1 k_36 rfl rfl ?_
              refine Rn.goto 54 k_36 rfl rfl ?_
              exact ih (e + 1) (line + 1) B gi2 _ (by omega) (by omega) (z4 B rfl) (lineW_ok hA hw (cutW_srt x i e) hL) ((c2 3 (by decide) (by decide) (by decide) (by decide)).trans g3) ((c2 33 (by decide) (by decide) (by decide) (by decide)).trans g33) ((c2 0 (by decide) (by decide) (by decide) (by decide)).trans g0) ((c2 1 (by decide) (by decide) (by decide) (by decide)).trans g1) ((c2 38 (by decide) (by decide) (by decide) (by decide)).trans g38) c3
            · exact absurd h5 (by decide)
        -- where it ends
        have fnd : ∀ (j p : Nat), p + j = n → i ≤ p → eol x j p = eol x (n - i) i → Rn (d + 6) 36 64 [some (.ref 604), some (.int (nI i)), some (.int (nI line)), some (.int (nI p)), none] [] (SH L, gi, fl, fr) (mscQ L fi fl fr x n (match lineW x A line (cutW x i (eol x (n - i) i)) with
            | none => .inr line
            | some B => linesW x n f B (line + 1) (eol x (n - i) i + 1))) := by
          intro j
          induction j with
          | zero =>
            intro p hp hip e
            refine Rn.iload_n k_36 rfl rfl ?_
            refine Rn.aload_n k_36 rfl rfl ?_
            refine Rn.getI k_36 rfl rfl (s604 L) ?_
            rw [g3]
            refine Rn.icmp_ge 89 k_36 rfl rfl (fun h3 => ?_) (fun h3 => ?_)
            · rw [show p = eol x (n - i) i from e]
              exact body
            · rw [nI_leI (by omega) (by omega)] at h3
              omega
          | succ j ihj =>
            intro p hp hip e
            obtain ⟨t1, t2⟩ := hS.1.1 p (by omega)
            refine Rn.iload_n k_36 rfl rfl ?_
            refine Rn.aload_n k_36 rfl rfl ?_
            refine Rn.getI k_36 rfl rfl (s604 L) ?_
            rw [g3]
            refine Rn.icmp_ge 89 k_36 rfl rfl (fun h3 => ?_) (fun h3 => ?_)
            · rw [nI_leI (by omega) (by omega)] at h3
              omega
            · refine Rn.aload_n k_36 rfl rfl ?_
              refine Rn.getA k_36 rfl rfl (s604 L) (hF.l 30 rfl) ?_
              refine Rn.iload_n k_36 rfl rfl ?_
              refine Rn.iaload (p) k_36 rfl (s606 L) (rfl) (by omega) (by decide) ?_
              rw [t1]
              refine Rn.bipush (10) k_36 rfl rfl ?_
              refine Rn.icmp_eq 89 k_36 rfl rfl (fun h4 => ?_) (fun h4 => ?_)
              · rw [c_eq 10 10 rfl (by omega) (by decide)] at h4
                rw [eol, if_pos h4] at e
                rw [show p = eol x (n - i) i from e]
                exact body
              · rw [c_eq 10 10 rfl (by omega) (by decide)] at h4
                rw [eol, if_neg h4] at e
                refine Rn.iinc3 (1) k_36 rfl rfl rfl ?_
                rw [c_add 1 1 rfl]
                refine Rn.goto 64 k_36 rfl rfl ?_
                exact ihj (p + 1) (by omega) (by omega) e
        refine Rn.iload_n k_36 rfl rfl ?_
        refine Rn.aload_n k_36 rfl rfl ?_
        refine Rn.getI k_36 rfl rfl (s604 L) ?_
        rw [g3]
        refine Rn.icmp_ge 119 k_36 rfl rfl (fun h2 => ?_) (fun h2 => ?_)
        · rw [nI_leI (by omega) (by omega)] at h2
          omega
        · refine Rn.iload_n k_36 rfl rfl ?_
          refine Rn.istore_n3 k_36 rfl rfl ?_
          exact fnd (n - i) i (by omega) (Nat.le_refl _) rfl
  -- the copy
  have copy : ∀ (m p : Nat) (gi : Nat → Nat → Int32), p + m = n → (∀ k, k < p → gi 606 k = nI (x k)) → (∀ a k, a ≠ 606 → (a ≠ 604 ∨ k ≠ 0) → gi a k = fi a k) → gi 604 0 = 0 → Rn (d + 6) 36 7 [some (.ref 604), some (.int (nI p)), none, none, none] [] (SH L, gi, fl, fr) (mscQ L fi fl fr x n (scrW x n)) := by
    intro m
    induction m with
    | zero =>
      intro p gi hp hC hG g0
      have g1 : gi 604 1 = nI n := (hG _ _ (by decide) (Or.inr (by decide))).trans hm
      refine Rn.iload_n k_36 rfl rfl ?_
      refine Rn.aload_n k_36 rfl rfl ?_
      refine Rn.getI k_36 rfl rfl (s604 L) ?_
      rw [g1]
      refine Rn.icmp_ge 33 k_36 rfl rfl (fun h1 => ?_) (fun h1 => ?_)
      · refine Rn.aload_n k_36 rfl rfl ?_
        refine Rn.aload_n k_36 rfl rfl ?_
        refine Rn.getI k_36 rfl rfl (s604 L) ?_
        rw [g1]
        refine Rn.putI k_36 rfl (rfl) (s604 L) ?_
        refine Rn.aload_n k_36 rfl rfl ?_
        refine Rn.iconst (0) k_36 rfl rfl ?_
        refine Rn.putI k_36 rfl (rfl) (s604 L) ?_
        refine Rn.aload_n k_36 rfl rfl ?_
        refine Rn.cV1 k_36 rfl rfl q_35 rfl (Nat.le_of_ble_eq_true rfl) (Nat.le_of_ble_eq_true rfl) (s604 L) (cm_nothing) (fun v h' hq => ?_)
        obtain ⟨rfl, rfl⟩ := hq
        show Rn _ _ _ _ [] _ _
        refine Rn.iconst (0) k_36 rfl rfl ?_
        refine Rn.istore_n1 k_36 rfl rfl ?_
        refine Rn.iconst (0) k_36 rfl rfl ?_
        refine Rn.istore_n2 k_36 rfl rfl ?_
        refine loop (n + 1) 0 0 A0 _ _ (by omega) (by omega) ⟨⟨fun k hk => ⟨?_, (ht k hk).2⟩, hn⟩, ⟨rfl, fun s hs => absurd hs (Nat.not_lt_zero s)⟩, ⟨rfl, fun s hs => absurd hs (Nat.not_lt_zero s)⟩, rfl⟩ (A0_ok n) ?_ rfl ?_ ?_ rfl (fun a k ha => ?_)
        · rw [nth_row (by decide), up2_row _ _ (by decide), up2_row _ _ (by decide)]
          exact hC k (by omega)
        · rw [nth_col (by decide), up2_col _ _ (by decide), up2_same]
        · rw [nth_col (by decide), up2_col _ _ (by decide), up2_col _ _ (by decide)]
          exact g0
        · rw [nth_col (by decide), up2_same]
        · rw [nth_row (by omega), up2_row _ _ (by omega), up2_row _ _ (by omega)]
          exact hG a k (by omega) (Or.inl (by omega))
      · rw [nI_leI (by omega) (by omega)] at h1
        omega
    | succ m ih =>
      intro p gi hp hC hG g0
      have g1 : gi 604 1 = nI n := (hG _ _ (by decide) (Or.inr (by decide))).trans hm
      refine Rn.iload_n k_36 rfl rfl ?_
      refine Rn.aload_n k_36 rfl rfl ?_
      refine Rn.getI k_36 rfl rfl (s604 L) ?_
      rw [g1]
      refine Rn.icmp_ge 33 k_36 rfl rfl (fun h1 => ?_) (fun h1 => ?_)
      · rw [nI_leI (by omega) (by omega)] at h1
        omega
      · refine Rn.aload_n k_36 rfl rfl ?_
        refine Rn.getA k_36 rfl rfl (s604 L) (hF.l 30 rfl) ?_
        refine Rn.iload_n k_36 rfl rfl ?_
        refine Rn.aload_n k_36 rfl rfl ?_
        refine Rn.getA k_36 rfl rfl (s604 L) (hF.l 29 rfl) ?_
        refine Rn.iload_n k_36 rfl rfl ?_
        refine Rn.iaload (p) k_36 rfl (s605 L) (rfl) (by omega) (by decide) ?_
        rw [hG 605 p (by decide) (Or.inl (by decide)), (ht p (by omega)).1]
        refine Rn.iastore (p) k_36 rfl (s606 L) (rfl) (by omega) (by decide) (rfl) ?_
        refine Rn.iinc1 (1) k_36 rfl rfl rfl ?_
        rw [c_add 1 1 rfl]
        refine Rn.goto 7 k_36 rfl rfl ?_
        refine ih (p + 1) _ (by omega) (fun k hk => ?_) (fun a k ha hk => ?_) ?_
        · by_cases e : k = p
          · subst e; exact up2_same _ _ _ _
          · rw [up2_col _ _ e]; exact hC k (by omega)
        · rw [up2_row _ _ ha]; exact hG a k ha hk
        · exact g0
  refine Rn.aload_n k_36 rfl rfl ?_
  refine Rn.iconst (0) k_36 rfl rfl ?_
  refine Rn.putI k_36 rfl (rfl) (s604 L) ?_
  refine Rn.iconst (0) k_36 rfl rfl ?_
  refine Rn.istore_n1 k_36 rfl rfl ?_
  refine copy n 0 _ (Nat.zero_add _) (fun k hk => absurd hk (Nat.not_lt_zero k)) (fun a k ha hk => ?_) (up2_same _ _ _ _)
  rcases hk with hk | hk
  · exact up2_row _ _ hk
  · exact up2_col _ _ hk
end MV
