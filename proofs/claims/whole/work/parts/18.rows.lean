/-! NameRow: rows of names, by their numbers -/
/-- the row r, whose codes stand in the cell c, holds w -/
def NRr (fi : Nat → Nat → Int32) (fl : Nat → Nat → Int64) (r c : Nat) (w : List Nat) : Prop := fi r 1 = nI w.length ∧ (∀ k, k < w.length → fl c k = lN (w.getD k 0)) ∧ (∀ n ∈ w, n < 2 ^ 63) ∧ w.length < 2 ^ 30
def ixf : List Nat → Nat → Nat → Option Nat
  | [], _, _ => none
  | a :: l, n, k => if a = n then some k else ixf l n (k + 1)
def ixI (o : Option Nat) : Int32 := match o with
  | some k => nI k
  | none => -1
theorem ixf_none : ∀ (w : List Nat) (n k : Nat), ixf w n k = none ↔ n ∉ w
  | [], n, k => by simp [ixf]
  | a :: l, n, k => by
    unfold ixf
    by_cases h : a = n
    · rw [if_pos h]; simp [h]
    · rw [if_neg h, ixf_none l n (k + 1)]
      simp only [List.mem_cons, not_or]
      exact ⟨fun q => ⟨fun z => h z.symm, q⟩, fun q => q.2⟩
theorem ixf_some : ∀ (w : List Nat) (n k j : Nat), ixf w n k = some j → k ≤ j ∧ j < k + w.length ∧ w.getD (j - k) 0 = n
  | [], n, k, j, h => by simp [ixf] at h
  | a :: l, n, k, j, h => by
    unfold ixf at h
    by_cases e : a = n
    · rw [if_pos e] at h
      cases h
      refine ⟨Nat.le_refl _, by simp, ?_⟩
      rw [Nat.sub_self]
      exact e
    · rw [if_neg e] at h
      obtain ⟨h1, h2, h3⟩ := ixf_some l n (k + 1) j h
      refine ⟨by omega, by simp only [List.length_cons]; omega, ?_⟩
      rw [show j - k = (j - (k + 1)) + 1 by omega, List.getD_cons_succ]
      exact h3
theorem getD_mem {w : List Nat} {k : Nat} (h : k < w.length) : w.getD k 0 ∈ w := by
  rw [List.getD_eq_getElem?_getD, List.getElem?_eq_getElem h]
  exact List.getElem_mem h
theorem NRr.keep {fi fi' : Nat → Nat → Int32} {fl fl' : Nat → Nat → Int64} {r c : Nat} {w : List Nat} (h : NRr fi fl r c w) (h1 : fi' r 1 = fi r 1) (h2 : ∀ k, fl' c k = fl c k) : NRr fi' fl' r c w := ⟨h1.trans h.1, fun k hk => (h2 k).trans (h.2.1 k hk), h.2.2⟩
theorem NRr.nil {fi : Nat → Nat → Int32} {fl : Nat → Nat → Int64} {r c : Nat} (h : fi r 1 = 0) : NRr fi fl r c [] := ⟨h, fun k hk => absurd hk (Nat.not_lt_zero k), fun n hn => (by cases hn), by decide⟩
theorem NRr.add {fi : Nat → Nat → Int32} {fl : Nat → Nat → Int64} {r c n : Nat} {w : List Nat} (h : NRr fi fl r c w) (hn : n < 2 ^ 63) (hl : w.length + 1 < 2 ^ 30) : NRr (up2 fi r 1 (nI (w.length + 1))) (up2 fl c w.length (lN n)) r c (w ++ [n]) := by
  refine ⟨by rw [up2_same, List.length_append]; rfl, fun k hk => ?_, fun z hz => ?_, by rw [List.length_append]; exact hl⟩
  · rw [List.length_append] at hk
    have hk : k < w.length + 1 := hk
    by_cases e : k = w.length
    · subst e
      rw [up2_same, List.getD_eq_getElem?_getD, List.getElem?_append_right (Nat.le_refl _), Nat.sub_self]
      rfl
    · rw [up2_col _ _ e, h.2.1 k (by omega), List.getD_eq_getElem?_getD, List.getD_eq_getElem?_getD, List.getElem?_append_left (by omega)]
  · rcases List.mem_append.mp hz with z1 | z1
    · exact h.2.2.1 z z1
    · rw [List.mem_singleton.mp z1]; exact hn
section NR
variable {d L : Nat} {fi : Nat → Nat → Int32} {fl : Nat → Nat → Int64} {fr : Nat → Nat → Option Nat} {r c cap : Nat} {w : List Nat}
theorem ct_indexOf (hr : (SH L)[r]? = some (3, 2)) (hc : (SH L)[c]? = some (101, cap)) (hf : fr r 0 = some c) (hcap : cap < 2 ^ 31) (hN : NRr fi fl r c w) (hl : w.length ≤ cap) {n : Nat} (hn : n < 2 ^ 63) : Rn d 99 0 [some (.ref r), some (.long (lN n)), none, none] [] (SH L, fi, fl, fr) (Ret (SH L, fi, fl, fr) (some (.int (ixI (ixf w n 0))))) := by
  have hs := hN.1
  have hb := hN.2.2.2
  have loop : ∀ (k i : Nat), i + k = w.length → Rn d 99 2 [some (.ref r), some (.long (lN n)), none, some (.int (nI i))] [] (SH L, fi, fl, fr) (Ret (SH L, fi, fl, fr) (some (.int (ixI (ixf (w.drop i) n i))))) := by
    intro k
    induction k with
    | zero =>
      intro i hi
      refine Rn.iload_n k_99 rfl rfl ?_
      refine Rn.aload_n k_99 rfl rfl ?_
      refine Rn.getI k_99 rfl rfl hr ?_
      rw [hs]
      refine Rn.icmp_ge 29 k_99 rfl rfl (fun h1 => ?_) (fun h1 => ?_)
      · refine Rn.iconst (-1) k_99 rfl rfl ?_
        refine Rn.reti k_99 rfl q_99 rfl (rfl) ?_
        rw [List.drop_eq_nil_of_le (by omega)]
        exact ⟨rfl, rfl⟩
      · exact absurd ((nI_leI (by omega) (by omega)).mpr (by omega)) h1
    | succ k ih =>
      intro i hi
      have hil : i < w.length := by omega
      have ed : w.drop i = w.getD i 0 :: w.drop (i + 1) := by
        rw [List.getD_eq_getElem?_getD, List.getElem?_eq_getElem hil]
        exact List.drop_eq_getElem_cons hil
      refine Rn.iload_n k_99 rfl rfl ?_
      refine Rn.aload_n k_99 rfl rfl ?_
      refine Rn.getI k_99 rfl rfl hr ?_
      rw [hs]
      refine Rn.icmp_ge 29 k_99 rfl rfl (fun h1 => ?_) (fun h1 => ?_)
      · exact absurd ((nI_leI (by omega) (by omega)).mp h1) (by omega)
      · refine Rn.aload_n k_99 rfl rfl ?_
        refine Rn.getA k_99 rfl rfl hr hf ?_
        refine Rn.iload_n k_99 rfl rfl ?_
        refine Rn.laload (i) k_99 rfl hc (rfl) (by omega) (hcap) ?_
        refine Rn.lload_n k_99 rfl rfl ?_
        refine Rn.lcmp k_99 rfl ?_
        rw [hN.2.1 i hil]
        refine Rn.if_ne 23 k_99 rfl rfl (fun h2 => ?_) (fun h2 => ?_)
        · have h2 : ¬ w.getD i 0 = n := fun e => h2 ((lg_cmp_eq _ _).mpr (by rw [e]))
          refine Rn.iinc3 (1) k_99 rfl rfl rfl ?_
          rw [c_add 1 1 rfl]
          refine Rn.goto 2 k_99 rfl rfl ?_
          rw [ed, ixf, if_neg h2]
          exact ih (i + 1) (by omega)
        · have h2 := (pk_lEQ (hN.2.2.1 _ (getD_mem hil)) hn).mp ((lg_cmp_eq _ _).mp h2)
          refine Rn.iload_n k_99 rfl rfl ?_
          refine Rn.reti k_99 rfl q_99 rfl (rfl) ?_
          rw [ed, ixf, if_pos h2]
          exact ⟨rfl, rfl⟩
  refine Rn.iconst (0) k_99 rfl rfl ?_
  refine Rn.istore_n3 k_99 rfl rfl ?_
  exact loop w.length 0 (Nat.zero_add _)
theorem ct_at (hr : (SH L)[r]? = some (3, 2)) (hc : (SH L)[c]? = some (101, cap)) (hf : fr r 0 = some c) (hcap : cap < 2 ^ 31) (hN : NRr fi fl r c w) (hl : w.length ≤ cap) {k : Nat} (hk : k < w.length) : Rn d 100 0 [some (.ref r), some (.int (nI k))] [] (SH L, fi, fl, fr) (Ret (SH L, fi, fl, fr) (some (.long (lN (w.getD k 0))))) := by
  have hs := hN.1
  have hb := hN.2.2.2
  refine Rn.iload_n k_100 rfl rfl ?_
  refine Rn.if_lt 21 k_100 rfl rfl (fun h1 => ?_) (fun h1 => ?_)
  · exact absurd h1 (c_neg (by omega))
  · refine Rn.iload_n k_100 rfl rfl ?_
    refine Rn.aload_n k_100 rfl rfl ?_
    refine Rn.getI k_100 rfl rfl hr ?_
    rw [hs]
    refine Rn.icmp_ge 21 k_100 rfl rfl (fun h2 => ?_) (fun h2 => ?_)
    · exact absurd ((nI_leI (by omega) (by omega)).mp h2) (by omega)
    · refine Rn.aload_n k_100 rfl rfl ?_
      refine Rn.getA k_100 rfl rfl hr hf ?_
      refine Rn.iload_n k_100 rfl rfl ?_
      refine Rn.laload (k) k_100 rfl hc (rfl) (by omega) (hcap) ?_
      refine Rn.goto 22 k_100 rfl rfl ?_
      rw [hN.2.1 k hk]
      refine Rn.retl k_100 rfl q_100 rfl ?_
      exact ⟨rfl, rfl⟩
theorem ct_add (hr : (SH L)[r]? = some (3, 2)) (hc : (SH L)[c]? = some (101, cap)) (hf : fr r 0 = some c) (hcap : cap < 2 ^ 30) (hN : NRr fi fl r c w) (hl : w.length ≤ cap) {n : Nat} (hn : n < 2 ^ 63) : Rn (d + 1) 98 0 [some (.ref r), some (.long (lN n)), none] [] (SH L, fi, fl, fr) (fun v h' => if n = 0 ∨ cap ≤ w.length ∨ n ∈ w then v = some (.int 0) ∧ h' = (SH L, fi, fl, fr) else v = some (.int 1) ∧ h' = (SH L, up2 fi r 1 (nI (w.length + 1)), up2 fl c w.length (lN n), fr)) := by
  have hs := hN.1
  have hb := hN.2.2.2
  have no : (n = 0 ∨ cap ≤ w.length ∨ n ∈ w) → Rn (d + 1) 98 27 [some (.ref r), some (.long (lN n)), none] [] (SH L, fi, fl, fr) (fun v h' => if n = 0 ∨ cap ≤ w.length ∨ n ∈ w then v = some (.int 0) ∧ h' = (SH L, fi, fl, fr) else v = some (.int 1) ∧ h' = (SH L, up2 fi r 1 (nI (w.length + 1)), up2 fl c w.length (lN n), fr)) := by
    intro z
    refine Rn.iconst (0) k_98 rfl rfl ?_
    refine Rn.reti k_98 rfl q_98 rfl (rfl) ?_
    rw [if_pos z]
    exact ⟨rfl, rfl⟩
  refine Rn.lload_n k_98 rfl rfl ?_
  refine Rn.lconst 0 k_98 rfl rfl ?_
  refine Rn.lcmp k_98 rfl ?_
  refine Rn.if_eq 27 k_98 rfl rfl (fun h1 => ?_) (fun h1 => ?_)
  · exact no (Or.inl ((pk_lEQ hn (by decide)).mp ((lg_cmp_eq _ _).mp h1)))
  · have h0 : ¬ n = 0 := fun e => h1 ((lg_cmp_eq _ _).mpr (by rw [e]; rfl))
    refine Rn.aload_n k_98 rfl rfl ?_
    refine Rn.getI k_98 rfl rfl hr ?_
    refine Rn.aload_n k_98 rfl rfl ?_
    refine Rn.getA k_98 rfl rfl hr hf ?_
    refine Rn.alen k_98 rfl hc rfl (by omega) ?_
    rw [hs]
    refine Rn.icmp_ge 27 k_98 rfl rfl (fun h2 => ?_) (fun h2 => ?_)
    · exact no (Or.inr (Or.inl ((nI_leI (by omega) (by omega)).mp h2)))
    · rw [nI_leI (by omega) (by omega)] at h2
      refine Rn.aload_n k_98 rfl rfl ?_
      refine Rn.lload_n k_98 rfl rfl ?_
      refine Rn.cV2I k_98 rfl rfl q_99 rfl (Nat.le_of_ble_eq_true rfl) (Nat.le_of_ble_eq_true rfl) hr (ct_indexOf hr hc hf (by omega) hN hl hn) ?_
      refine Rn.iconst (-1) k_98 rfl rfl ?_
      refine Rn.icmp_eq 29 k_98 rfl rfl (fun h3 => ?_) (fun h3 => ?_)
      · have hnot : n ∉ w := by
          rw [← ixf_none w n 0]
          cases hx : ixf w n 0 with
          | none => rfl
          | some j =>
            rw [hx] at h3
            obtain ⟨z1, z2, z3⟩ := ixf_some w n 0 j hx
            exact absurd h3 (c_m1 (by omega))
        refine Rn.aload_n k_98 rfl rfl ?_
        refine Rn.getA k_98 rfl rfl hr hf ?_
        refine Rn.aload_n k_98 rfl rfl ?_
        refine Rn.getI k_98 rfl rfl hr ?_
        refine Rn.lload_n k_98 rfl rfl ?_
        refine Rn.lastore (w.length) k_98 rfl hc (hs) (by omega) (by omega) ?_
        refine Rn.aload_n k_98 rfl rfl ?_
        refine Rn.dupa k_98 rfl ?_
        refine Rn.getI k_98 rfl rfl hr ?_
        refine Rn.iconst (1) k_98 rfl rfl ?_
        refine Rn.iadd k_98 rfl ?_
        rw [hs, c_add 1 1 rfl]
        refine Rn.putI k_98 rfl (rfl) hr ?_
        refine Rn.iconst (1) k_98 rfl rfl ?_
        refine Rn.reti k_98 rfl q_98 rfl (rfl) ?_
        rw [if_neg (fun z => z.elim h0 (fun z => z.elim h2 hnot))]
        exact ⟨rfl, rfl⟩
      · refine no (Or.inr (Or.inr ?_))
        by_cases hm : n ∈ w
        · exact hm
        · rw [(ixf_none w n 0).mpr hm] at h3
          exact absurd rfl h3
/-- all of another row comes behind -/
theorem ct_addAll {r2 c2 cap2 : Nat} {w2 : List Nat} (hr : (SH L)[r]? = some (3, 2)) (hc : (SH L)[c]? = some (101, cap)) (hf : fr r 0 = some c) (hcap : cap < 2 ^ 30) (hr2 : (SH L)[r2]? = some (3, 2)) (hc2 : (SH L)[c2]? = some (101, cap2)) (hf2 : fr r2 0 = some c2) (hcap2 : cap2 < 2 ^ 30) (hne : r ≠ r2) (hnec : c ≠ c2) (hN2 : NRr fi fl r2 c2 w2) (hl2 : w2.length ≤ cap2) (hn2 : ∀ n ∈ w2, n ≠ 0) (hN : NRr fi fl r c w) (hl : w.length + w2.length ≤ cap) (hnd : (w ++ w2).Nodup) :
    Rn (d + 2) 101 0 [some (.ref r), some (.ref r2), none] [] (SH L, fi, fl, fr) (fun v h' => v = none ∧ ∃ fi' fl', h' = (SH L, fi', fl', fr) ∧ NRr fi' fl' r c (w ++ w2) ∧ (∀ a k, a ≠ r → fi' a k = fi a k) ∧ (∀ a k, a ≠ c → fl' a k = fl a k)) := by
  have loop : ∀ (k i : Nat) (gi : Nat → Nat → Int32) (gl : Nat → Nat → Int64), i + k = w2.length → NRr gi gl r c (w ++ w2.take i) → (∀ a k, a ≠ r → gi a k = fi a k) → (∀ a k, a ≠ c → gl a k = fl a k) → Rn (d + 2) 101 2 [some (.ref r), some (.ref r2), some (.int (nI i))] [] (SH L, gi, gl, fr) (fun v h' => v = none ∧ ∃ fi' fl', h' = (SH L, fi', fl', fr) ∧ NRr fi' fl' r c (w ++ w2) ∧ (∀ a k, a ≠ r → fi' a k = fi a k) ∧ (∀ a k, a ≠ c → fl' a k = fl a k)) := by
    intro k
    induction k with
    | zero =>
      intro i gi gl hi hg g1 g2
      have hb := hN2.2.2.2
      refine Rn.iload_n k_101 rfl rfl ?_
      refine Rn.aload_n k_101 rfl rfl ?_
      refine Rn.getI k_101 rfl rfl hr2 ?_
      rw [g1 r2 1 (Ne.symm hne), hN2.1]
      refine Rn.icmp_ge 27 k_101 rfl rfl (fun h1 => ?_) (fun h1 => ?_)
      · refine Rn.retv k_101 rfl q_101 rfl ?_
        rw [List.take_of_length_le (by omega)] at hg
        exact ⟨rfl, gi, gl, rfl, hg, g1, g2⟩
      · exact absurd ((nI_leI (by omega) (by omega)).mpr (by omega)) h1
    | succ k ih =>
      intro i gi gl hi hg g1 g2
      have hb := hN2.2.2.2
      have hil : i < w2.length := by omega
      have et : w2.take (i + 1) = w2.take i ++ [w2.getD i 0] := by
        rw [List.getD_eq_getElem?_getD, List.getElem?_eq_getElem hil]
        exact List.take_succ_eq_append_getElem hil
      have hlen : (w ++ w2.take i).length = w.length + i := by rw [List.length_append, List.length_take]; omega
      have hnot : ¬ (w2.getD i 0 = 0 ∨ cap ≤ (w ++ w2.take i).length ∨ w2.getD i 0 ∈ w ++ w2.take i) := by
        rintro (z | z | z)
        · exact hn2 _ (getD_mem hil) z
        · omega
        · have e2 : w ++ w2 = (w ++ w2.take i) ++ (w2.getD i 0 :: w2.drop (i + 1)) := by
            rw [List.append_assoc]
            congr 1
            rw [List.getD_eq_getElem?_getD, List.getElem?_eq_getElem hil]
            show w2 = w2.take i ++ (w2[i] :: w2.drop (i + 1))
            rw [show w2[i] :: w2.drop (i + 1) = w2.drop i from (List.drop_eq_getElem_cons hil).symm, List.take_append_drop]
          rw [e2, List.nodup_append] at hnd
          exact hnd.2.2 _ z _ List.mem_cons_self rfl
      refine Rn.iload_n k_101 rfl rfl ?_
      refine Rn.aload_n k_101 rfl rfl ?_
      refine Rn.getI k_101 rfl rfl hr2 ?_
      rw [g1 r2 1 (Ne.symm hne), hN2.1]
      refine Rn.icmp_ge 27 k_101 rfl rfl (fun h1 => ?_) (fun h1 => ?_)
      · exact absurd ((nI_leI (by omega) (by omega)).mp h1) (by omega)
      · refine Rn.aload_n k_101 rfl rfl ?_
        refine Rn.aload_n k_101 rfl rfl ?_
        refine Rn.getA k_101 rfl rfl hr2 hf2 ?_
        refine Rn.iload_n k_101 rfl rfl ?_
        refine Rn.laload (i) k_101 rfl hc2 (rfl) (by omega) (by omega) ?_
        rw [g2 c2 i (Ne.symm hnec), hN2.2.1 i hil]
        refine Rn.cV2 k_101 rfl rfl q_98 rfl (Nat.le_of_ble_eq_true rfl) (Nat.le_of_ble_eq_true rfl) hr (ct_add hr hc hf hcap hg (by omega) (hN2.2.2.1 _ (getD_mem hil))) (fun v h1' hq => ?_)
        rw [if_neg hnot] at hq
        obtain ⟨rfl, rfl⟩ := hq
        show Rn _ _ _ _ (Value.int 1 :: []) _ _
        refine Rn.popi k_101 rfl ?_
        refine Rn.iinc2 (1) k_101 rfl rfl rfl ?_
        rw [c_add 1 1 rfl]
        refine Rn.goto 2 k_101 rfl rfl ?_
        refine ih (i + 1) _ _ (by omega) ?_ (fun a k ha => by rw [up2_row _ _ ha]; exact g1 a k ha) (fun a k ha => by rw [up2_row _ _ ha]; exact g2 a k ha)
        rw [et, ← List.append_assoc]
        exact hg.add (hN2.2.2.1 _ (getD_mem hil)) (by omega)
  refine Rn.iconst (0) k_101 rfl rfl ?_
  refine Rn.istore_n2 k_101 rfl rfl ?_
  refine loop w2.length 0 fi fl (Nat.zero_add _) ?_ (fun _ _ _ => rfl) (fun _ _ _ => rfl)
  rw [List.take_zero, List.append_nil]
  exact hN
end NR
