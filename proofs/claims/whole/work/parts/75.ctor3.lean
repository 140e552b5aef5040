/-! CONSTRUCTORS: the script, the readers -/
section CT
variable {d a : Nat} {T : List (Nat × Nat)} {fi : Nat → Nat → Int32} {fl : Nat → Nat → Int64} {fr : Nat → Nat → Option Nat}
set_option maxHeartbeats 4000000 in
theorem cz_script (hT : T.length = 19) (hfi : ∀ c k, 16 ≤ c → fi c k = 0) (hfl : ∀ c k, 16 ≤ c → fl c k = 0) (hfr : ∀ c k, 19 < c → fr c k = none) : Rn (d + 3) 106 0 [some (.ref 19), none] [] (T ++ [(2, 7)], fi, fl, fr) (fun v h' => v = none ∧ ∃ fr', h' = (T ++ [(2, 7), (102, 1200), (3, 2), (101, 10), (405, 40), (100, 120)] ++ SHKs 40, fi, fl, fr') ∧ (∀ i, i < 40 → ∀ q ∈ FRk, fr' (25 + 14 * i + q.1) q.2.1 = some (25 + 14 * i + q.2.2)) ∧ (∀ i, i < 40 → fr' 23 i = some (25 + 14 * i)) ∧ fr' 19 0 = some 20 ∧ fr' 21 0 = some 22 ∧ fr' 19 2 = some 21 ∧ fr' 19 3 = some 23 ∧ fr' 19 5 = some 24 ∧ (∀ c k, c < 19 → fr' c k = fr c k) ∧ ∀ c k, 585 ≤ c → fr' c k = none) := by
  refine Rn.aload_n k_106 rfl rfl ?_
  refine Rn.obj0 k_106 rfl (Nat.le_of_ble_eq_true rfl) ?_
  refine Rn.aload_n k_106 rfl rfl ?_
  refine Rn.sipush (1200) k_106 rfl rfl ?_
  refine Rn.newaZ 1200 20 (T ++ [(2, 7), (102, 1200)]) k_106 rfl rfl (by decide) (cl_len hT) (List.append_assoc _ _ _) (fun k => ⟨hfi _ _ (by omega), hfl _ _ (by omega), by (repeat rw [up2_row _ _ (by omega)]); exact hfr _ _ (by omega)⟩) ?_
  refine Rn.putA k_106 rfl rfl (cl_at (k := 0) hT rfl) ?_
  refine Rn.aload_n k_106 rfl rfl ?_
  refine Rn.newZ 21 (T ++ [(2, 7), (102, 1200), (3, 2)]) k_106 rfl (cl_len hT) (List.append_assoc _ _ _) (fun k => ⟨hfi _ _ (by omega), hfl _ _ (by omega), by (repeat rw [up2_row _ _ (by omega)]); exact hfr _ _ (by omega)⟩) ?_
  refine Rn.dupa k_106 rfl ?_
  refine Rn.bipush (10) k_106 rfl rfl ?_
  refine Rn.cI2M k_106 rfl rfl q_97 rfl (Nat.le_of_ble_eq_true rfl) (Nat.le_of_ble_eq_true rfl) (cz_row (a := 21) (b := 22) (n := 10) (sh2 := T ++ [(2, 7), (102, 1200), (3, 2), (101, 10)]) (cl_at (k := 2) hT rfl) (cl_len hT) (List.append_assoc _ _ _) (by decide) (fun k => ⟨hfi _ _ (by omega), hfl _ _ (by omega), by (repeat rw [up2_row _ _ (by omega)]); exact hfr _ _ (by omega)⟩)) ?_
  refine Rn.putA k_106 rfl rfl (cl_at (k := 0) hT rfl) ?_
  refine Rn.aload_n k_106 rfl rfl ?_
  refine Rn.bipush (40) k_106 rfl rfl ?_
  refine Rn.anewZ 40 23 (T ++ [(2, 7), (102, 1200), (3, 2), (101, 10), (405, 40)]) k_106 rfl rfl (by decide) (cl_len hT) (List.append_assoc _ _ _) (fun k => ⟨hfi _ _ (by omega), hfl _ _ (by omega), by (repeat rw [up2_row _ _ (by omega)]); exact hfr _ _ (by omega)⟩) ?_
  refine Rn.putA k_106 rfl rfl (cl_at (k := 0) hT rfl) ?_
  refine Rn.aload_n k_106 rfl rfl ?_
  refine Rn.bipush (120) k_106 rfl rfl ?_
  refine Rn.newaZ 120 24 (T ++ [(2, 7), (102, 1200), (3, 2), (101, 10), (405, 40), (100, 120)]) k_106 rfl rfl (by decide) (cl_len hT) (List.append_assoc _ _ _) (fun k => ⟨hfi _ _ (by omega), hfl _ _ (by omega), by (repeat rw [up2_row _ _ (by omega)]); exact hfr _ _ (by omega)⟩) ?_
  refine Rn.putA k_106 rfl rfl (cl_at (k := 0) hT rfl) ?_
  refine Rn.iconst (0) k_106 rfl rfl ?_
  refine Rn.istore_n1 k_106 rfl rfl ?_
  have hP : (T ++ [(2, 7), (102, 1200), (3, 2), (101, 10), (405, 40), (100, 120)]).length = 25 := cl_len hT
  have p19 : (T ++ [(2, 7), (102, 1200), (3, 2), (101, 10), (405, 40), (100, 120)])[19]? = some (2, 7) := cl_at (k := 0) hT rfl
  have p23 : (T ++ [(2, 7), (102, 1200), (3, 2), (101, 10), (405, 40), (100, 120)])[23]? = some (405, 40) := cl_at (k := 4) hT rfl
  have g0 : ∀ g : Nat → Nat → Option Nat, g = up2 (up2 (up2 (up2 (up2 fr 19 0 (some 20)) 21 0 (some 22)) 19 2 (some 21)) 19 3 (some 23)) 19 5 (some 24) → g 19 0 = some 20 ∧ g 21 0 = some 22 ∧ g 19 2 = some 21 ∧ g 19 3 = some 23 ∧ g 19 5 = some 24 ∧ (∀ c k, c < 19 → g c k = fr c k) ∧ ∀ c k, 25 ≤ c → g c k = none := by
    rintro g rfl
    refine ⟨rfl, rfl, rfl, rfl, rfl, fun c k hc => ?_, fun c k hc => ?_⟩
    · (repeat rw [up2_row _ _ (by omega)])
    · (repeat rw [up2_row _ _ (by omega)])
      exact hfr _ _ (by omega)
  have g0 := g0 _ rfl
  generalize T ++ [(2, 7), (102, 1200), (3, 2), (101, 10), (405, 40), (100, 120)] = P at hP p19 p23 ⊢
  show Rn _ _ _ [some (.ref 19), some (.int (nI 0))] _ (P, fi, fl, up2 (up2 (up2 (up2 (up2 fr 19 0 (some 20)) 21 0 (some 22)) 19 2 (some 21)) 19 3 (some 23)) 19 5 (some 24)) _
  generalize up2 (up2 (up2 (up2 (up2 fr 19 0 (some 20)) 21 0 (some 22)) 19 2 (some 21)) 19 3 (some 23)) 19 5 (some 24) = g at g0 ⊢
  have loop : ∀ (m i : Nat) (g : Nat → Nat → Option Nat), i + m = 40 → (∀ j, j < i → ∀ q ∈ FRk, g (25 + 14 * j + q.1) q.2.1 = some (25 + 14 * j + q.2.2)) → (∀ j, j < i → g 23 j = some (25 + 14 * j)) → (g 19 0 = some 20 ∧ g 21 0 = some 22 ∧ g 19 2 = some 21 ∧ g 19 3 = some 23 ∧ g 19 5 = some 24 ∧ (∀ c k, c < 19 → g c k = fr c k)) → (∀ c k, 25 + 14 * i ≤ c → g c k = none) → Rn (d + 3) 106 45 [some (.ref 19), some (.int (nI i))] [] (P ++ SHKs i, fi, fl, g) (fun v h' => v = none ∧ ∃ fr', h' = (P ++ SHKs 40, fi, fl, fr') ∧ (∀ i, i < 40 → ∀ q ∈ FRk, fr' (25 + 14 * i + q.1) q.2.1 = some (25 + 14 * i + q.2.2)) ∧ (∀ i, i < 40 → fr' 23 i = some (25 + 14 * i)) ∧ fr' 19 0 = some 20 ∧ fr' 21 0 = some 22 ∧ fr' 19 2 = some 21 ∧ fr' 19 3 = some 23 ∧ fr' 19 5 = some 24 ∧ (∀ c k, c < 19 → fr' c k = fr c k) ∧ ∀ c k, 585 ≤ c → fr' c k = none) := by
    intro m
    induction m with
    | zero =>
      intro i g hi hk hc hg hfr
      have : i = 40 := by omega
      subst this
      refine Rn.iload_n k_106 rfl rfl ?_
      refine Rn.aload_n k_106 rfl rfl ?_
      refine Rn.getA k_106 rfl rfl (cl_le p19) (hg.2.2.2.1) ?_
      refine Rn.alen k_106 rfl (cl_le p23) rfl (by decide) ?_
      refine Rn.icmp_ge 73 k_106 rfl rfl (fun h1 => ?_) (fun h1 => ?_)
      · refine Rn.retv k_106 rfl q_106 rfl ?_
        exact ⟨rfl, g, rfl, hk, hc, hg.1, hg.2.1, hg.2.2.1, hg.2.2.2.1, hg.2.2.2.2.1, hg.2.2.2.2.2, fun c k hc => hfr c k (by omega)⟩
      · exact absurd (by decide) h1
    | succ m ih =>
      intro i g hi hk hc hg hfr
      have hTi : (P ++ SHKs i).length = 25 + 14 * i := by rw [List.length_append, hP, SHKs_len]
      refine Rn.iload_n k_106 rfl rfl ?_
      refine Rn.aload_n k_106 rfl rfl ?_
      refine Rn.getA k_106 rfl rfl (cl_le p19) (hg.2.2.2.1) ?_
      refine Rn.alen k_106 rfl (cl_le p23) rfl (by decide) ?_
      refine Rn.icmp_ge 73 k_106 rfl rfl (fun h1 => ?_) (fun h1 => ?_)
      · exact absurd ((nI_leI (by omega) (by omega)).mp h1) (by omega)
      · refine Rn.aload_n k_106 rfl rfl ?_
        refine Rn.getA k_106 rfl rfl (cl_le p19) (hg.2.2.2.1) ?_
        refine Rn.iload_n k_106 rfl rfl ?_
        refine Rn.newZ (25 + 14 * i) (P ++ SHKs i ++ [(4, 15)]) k_106 rfl hTi rfl (fun k => ⟨hfi _ _ (by omega), hfl _ _ (by omega), hfr _ _ (by omega)⟩) ?_
        refine Rn.dupa k_106 rfl ?_
        refine Rn.cI1 k_106 rfl rfl q_73 rfl (Nat.le_of_ble_eq_true rfl) (Nat.le_of_ble_eq_true rfl) (cz_case hTi (by omega) hfi hfl (fun c k hc => hfr _ _ (by omega))) (fun v h' hq => ?_)
        obtain ⟨rfl, g', rfl, q1, q2, q3⟩ := hq
        show Rn _ _ _ _ (Value.ref (25 + 14 * i) :: Value.int (nI i) :: Value.ref 23 :: []) _ _
        refine Rn.aastore (a := 23) (v := 25 + 14 * i) (n := 40) (m := 15) (tv := 4) i k_106 rfl (cl_le (cl_le p23)) (cl_at (k := 0) hTi rfl) (by decide) (by omega) rfl (by omega) (by decide) ?_
        rw [show P ++ SHKs i ++ SHK = P ++ SHKs (i + 1) from List.append_assoc _ _ _]
        refine Rn.iinc1 (1) k_106 rfl rfl rfl ?_
        rw [c_add 1 1 rfl]
        refine Rn.goto 45 k_106 rfl rfl ?_
        refine ih (i + 1) _ (by omega) (fun j hj q hq => ?_) (fun j hj => ?_) ?_ (fun c k hc => ?_)
        · rw [up2_row _ _ (by omega)]
          by_cases e : j = i
          · subst e; exact q1 q hq
          · have hq14 : q.1 < 14 := (by decide : ∀ q ∈ FRk, q.1 < 14) q hq
            rw [q2 _ _ (by omega)]
            exact hk j (by omega) q hq
        · by_cases e : j = i
          · subst e; exact up2_same _ _ _ _
          · rw [up2_col _ _ e, q2 _ _ (by omega)]
            exact hc j (by omega)
        · obtain ⟨z1, z2, z3, z4, z5, z6⟩ := hg
          have zz : ∀ c k, c < 25 → c ≠ 23 → up2 g' 23 i (some (25 + 14 * i)) c k = g c k := fun c k y1 y2 => by rw [up2_row _ _ y2, q2 _ _ (by omega)]
          exact ⟨(zz _ _ (by decide) (by decide)).trans z1, (zz _ _ (by decide) (by decide)).trans z2, (zz _ _ (by decide) (by decide)).trans z3, (zz _ _ (by decide) (by decide)).trans z4, (zz _ _ (by decide) (by decide)).trans z5, fun c k hc => (zz _ _ (by omega) (by omega)).trans (z6 c k hc)⟩
        · rw [up2_row _ _ (by omega)]
          exact q3 _ _ (by omega)
  have := loop 40 0 g rfl (fun j hj => absurd hj (Nat.not_lt_zero j)) (fun j hj => absurd hj (Nat.not_lt_zero j)) ⟨g0.1, g0.2.1, g0.2.2.1, g0.2.2.2.1, g0.2.2.2.2.1, g0.2.2.2.2.2.1⟩ (fun c k hc => g0.2.2.2.2.2.2 c k (by omega))
  rw [show P ++ SHKs 0 = P from List.append_nil _] at this
  exact this
theorem cz_sreader (hT : T.length = 585) (h19 : T[19]? = some (2, 7)) (hf19 : fr 19 0 = some 20) (hfi : ∀ c k, 16 ≤ c → fi c k = 0) (hfl : ∀ c k, 16 ≤ c → fl c k = 0) (hfr : ∀ c k, 585 < c → fr c k = none) : Rn (d + 2) 113 0 [some (.ref 585), some (.ref 19)] [] (T ++ [(5, 4)], fi, fl, fr) (Ret (T ++ [(5, 4), (3, 2), (101, 8), (6, 4), (100, 600), (100, 600)], fi, fl, up2 (up2 (up2 (up2 (up2 (up2 (up2 fr 586 0 (some 587)) 585 2 (some 586)) 585 0 (some 19)) 588 0 (some 589)) 588 1 (some 590)) 588 3 (some 20)) 585 1 (some 588)) none) := by
  refine Rn.aload_n k_113 rfl rfl ?_
  refine Rn.obj0 k_113 rfl (Nat.le_of_ble_eq_true rfl) ?_
  refine Rn.aload_n k_113 rfl rfl ?_
  refine Rn.newZ 586 (T ++ [(5, 4), (3, 2)]) k_113 rfl (cl_len hT) (List.append_assoc _ _ _) (fun k => ⟨hfi _ _ (by omega), hfl _ _ (by omega), by (repeat rw [up2_row _ _ (by omega)]); exact hfr _ _ (by omega)⟩) ?_
  refine Rn.dupa k_113 rfl ?_
  refine Rn.bipush (8) k_113 rfl rfl ?_
  refine Rn.cI2M k_113 rfl rfl q_97 rfl (Nat.le_of_ble_eq_true rfl) (Nat.le_of_ble_eq_true rfl) (cz_row (a := 586) (b := 587) (n := 8) (sh2 := T ++ [(5, 4), (3, 2), (101, 8)]) (cl_at (k := 1) hT rfl) (cl_len hT) (List.append_assoc _ _ _) (by decide) (fun k => ⟨hfi _ _ (by omega), hfl _ _ (by omega), by (repeat rw [up2_row _ _ (by omega)]); exact hfr _ _ (by omega)⟩)) ?_
  refine Rn.putA k_113 rfl rfl (cl_at (k := 0) hT rfl) ?_
  refine Rn.aload_n k_113 rfl rfl ?_
  refine Rn.aload_n k_113 rfl rfl ?_
  refine Rn.putA k_113 rfl rfl (cl_at (k := 0) hT rfl) ?_
  refine Rn.aload_n k_113 rfl rfl ?_
  refine Rn.newZ 588 (T ++ [(5, 4), (3, 2), (101, 8), (6, 4)]) k_113 rfl (cl_len hT) (List.append_assoc _ _ _) (fun k => ⟨hfi _ _ (by omega), hfl _ _ (by omega), by (repeat rw [up2_row _ _ (by omega)]); exact hfr _ _ (by omega)⟩) ?_
  refine Rn.dupa k_113 rfl ?_
  refine Rn.aload_n k_113 rfl rfl ?_
  refine Rn.getA k_113 rfl rfl (cl_le h19) (show up2 (up2 (up2 fr 586 0 (some 587)) 585 2 (some 586)) 585 0 (some 19) 19 0 = some 20 from hf19) ?_
  rw [show T ++ [(5, 4), (3, 2), (101, 8), (6, 4)] = T ++ [(5, 4), (3, 2), (101, 8)] ++ [(6, 4)] from (List.append_assoc T [(5, 4), (3, 2), (101, 8)] [(6, 4)]).symm]
  refine Rn.cI2M k_113 rfl rfl q_132 rfl (Nat.le_of_ble_eq_true rfl) (Nat.le_of_ble_eq_true rfl) (cz_words (a := 588) (T := T ++ [(5, 4), (3, 2), (101, 8)]) (cl_len hT) (by decide) hfi hfl (fun c k hc => by (repeat rw [up2_row _ _ (by omega)]); exact hfr _ _ (by omega))) ?_
  rw [List.append_assoc]
  show Rn _ _ _ _ _ (T ++ [(5, 4), (3, 2), (101, 8), (6, 4), (100, 600), (100, 600)], fi, fl, up2 (up2 (up2 (up2 (up2 (up2 fr 586 0 (some 587)) 585 2 (some 586)) 585 0 (some 19)) 588 0 (some 589)) 588 1 (some 590)) 588 3 (some 20)) _
  refine Rn.putA k_113 rfl rfl (cl_at (k := 0) hT rfl) ?_
  refine Rn.retv k_113 rfl q_113 rfl ?_
  exact ⟨rfl, rfl⟩
theorem cz_freader (hT : T.length = 591) (h17 : T[17]? = some (1, 2)) (hf17 : fr 17 0 = some 18) (hfi : ∀ c k, 16 ≤ c → fi c k = 0) (hfl : ∀ c k, 16 ≤ c → fl c k = 0) (hfr : ∀ c k, 591 < c → fr c k = none) : Rn (d + 2) 83 0 [some (.ref 591), some (.ref 17)] [] (T ++ [(7, 5)], fi, fl, fr) (Ret (T ++ [(7, 5), (8, 5), (102, 120), (101, 120), (101, 120), (103, 120)], fi, fl, up2 (up2 (up2 (up2 (up2 (up2 (up2 fr 591 0 (some 17)) 591 1 (some 18)) 592 0 (some 593)) 592 1 (some 594)) 592 2 (some 595)) 592 3 (some 596)) 591 4 (some 592)) none) := by
  refine Rn.aload_n k_83 rfl rfl ?_
  refine Rn.obj0 k_83 rfl (Nat.le_of_ble_eq_true rfl) ?_
  refine Rn.aload_n k_83 rfl rfl ?_
  refine Rn.aload_n k_83 rfl rfl ?_
  refine Rn.putA k_83 rfl rfl (cl_at (k := 0) hT rfl) ?_
  refine Rn.aload_n k_83 rfl rfl ?_
  refine Rn.aload_n k_83 rfl rfl ?_
  refine Rn.getA k_83 rfl rfl (cl_le h17) (show up2 fr 591 0 (some 17) 17 0 = some 18 from hf17) ?_
  refine Rn.putA k_83 rfl rfl (cl_at (k := 0) hT rfl) ?_
  refine Rn.aload_n k_83 rfl rfl ?_
  refine Rn.newZ 592 (T ++ [(7, 5), (8, 5)]) k_83 rfl (cl_len hT) (List.append_assoc _ _ _) (fun k => ⟨hfi _ _ (by omega), hfl _ _ (by omega), by (repeat rw [up2_row _ _ (by omega)]); exact hfr _ _ (by omega)⟩) ?_
  refine Rn.dupa k_83 rfl ?_
  rw [show T ++ [(7, 5), (8, 5)] = T ++ [(7, 5)] ++ [(8, 5)] from (List.append_assoc T [(7, 5)] [(8, 5)]).symm]
  refine Rn.cI1M k_83 rfl rfl q_76 rfl (Nat.le_of_ble_eq_true rfl) (Nat.le_of_ble_eq_true rfl) (cz_filter (a := 592) (T := T ++ [(7, 5)]) (cl_len hT) (by decide) hfi hfl (fun c k hc => by (repeat rw [up2_row _ _ (by omega)]); exact hfr _ _ (by omega))) ?_
  rw [List.append_assoc]
  show Rn _ _ _ _ _ (T ++ [(7, 5), (8, 5), (102, 120), (101, 120), (101, 120), (103, 120)], fi, fl, up2 (up2 (up2 (up2 (up2 (up2 fr 591 0 (some 17)) 591 1 (some 18)) 592 0 (some 593)) 592 1 (some 594)) 592 2 (some 595)) 592 3 (some 596)) _
  refine Rn.putA k_83 rfl rfl (cl_at (k := 0) hT rfl) ?_
  refine Rn.retv k_83 rfl q_83 rfl ?_
  exact ⟨rfl, rfl⟩
end CT
