/-! THE LAW, from its entry on -/
theorem am_tot_app (a b : List (Nat × Nat)) : am_tot (a ++ b) = am_tot a + am_tot b := by unfold am_tot; rw [List.map_append, List.sum_append]
theorem am_tot_Ks : ∀ n, am_tot (SHKs n) = n * am_tot SHK
  | 0 => (Nat.zero_mul _).symm
  | n + 1 => by rw [SHKs, am_tot_app, am_tot_Ks n, Nat.succ_mul]
theorem SH_tot (L : Nat) : am_tot (SH L) ≤ 7302250 + am_tot (SH0 L) := by
  unfold SH
  rw [am_tot_app, am_tot_app, am_tot_app, am_tot_app, am_tot_Ks]
  have h1 : am_tot SHA + 40 * am_tot SHK + am_tot SHB + am_tot SHM ≤ 7302250 := by decide
  omega
theorem SH_len (L : Nat) : (SH L).length ≤ 600016 := by
  unfold SH
  rw [List.length_append, List.length_append, List.length_append, List.length_append, SHKs_len]
  show 16 + 9 + 14 * 40 + 19 + 44 ≤ 600016
  decide
theorem st_one {L : Nat} {xs : Nat → Int32} {fr : Nat → Nat → Option Nat} (hfr : ∀ c k, c < 16 → fr c k = FR0 c k) : STs L (FI0 xs) fr := by
  refine ⟨?_, ?_, ?_, ?_, ?_, ?_, ?_⟩
  · refine ⟨SH_A L (by decide), SH_A L (by decide), (hfr 1 0 (by decide)).trans rfl, rfl, ?_, by decide⟩
    show ∀ j, j < 5 → ([115, 117, 105, 116, 101] : List Int32).getD j 0 = nI (([115, 117, 105, 116, 101] : List Nat).getD j 0) ∧ ([115, 117, 105, 116, 101] : List Nat).getD j 0 < 128
    decide
  · refine ⟨SH_A L (by decide), SH_A L (by decide), (hfr 2 0 (by decide)).trans rfl, rfl, ?_, by decide⟩
    show ∀ j, j < 4 → ([99, 97, 115, 101] : List Int32).getD j 0 = nI (([99, 97, 115, 101] : List Nat).getD j 0) ∧ ([99, 97, 115, 101] : List Nat).getD j 0 < 128
    decide
  · refine ⟨SH_A L (by decide), SH_A L (by decide), (hfr 3 0 (by decide)).trans rfl, rfl, ?_, by decide⟩
    show ∀ j, j < 3 → ([116, 97, 103] : List Int32).getD j 0 = nI (([116, 97, 103] : List Nat).getD j 0) ∧ ([116, 97, 103] : List Nat).getD j 0 < 128
    decide
  · refine ⟨SH_A L (by decide), SH_A L (by decide), (hfr 4 0 (by decide)).trans rfl, rfl, ?_, by decide⟩
    show ∀ j, j < 4 → ([119, 105, 116, 104] : List Int32).getD j 0 = nI (([119, 105, 116, 104] : List Nat).getD j 0) ∧ ([119, 105, 116, 104] : List Nat).getD j 0 < 128
    decide
  · refine ⟨SH_A L (by decide), SH_A L (by decide), (hfr 5 0 (by decide)).trans rfl, rfl, ?_, by decide⟩
    show ∀ j, j < 4 → ([115, 105, 122, 101] : List Int32).getD j 0 = nI (([115, 105, 122, 101] : List Nat).getD j 0) ∧ ([115, 105, 122, 101] : List Nat).getD j 0 < 128
    decide
  · refine ⟨SH_A L (by decide), SH_A L (by decide), (hfr 6 0 (by decide)).trans rfl, rfl, ?_, by decide⟩
    show ∀ j, j < 4 → ([115, 107, 105, 112] : List Int32).getD j 0 = nI (([115, 107, 105, 112] : List Nat).getD j 0) ∧ ([115, 107, 105, 112] : List Nat).getD j 0 < 128
    decide
  · refine ⟨SH_A L (by decide), SH_A L (by decide), (hfr 7 0 (by decide)).trans rfl, rfl, ?_, by decide⟩
    show ∀ j, j < 5 → ([102, 97, 105, 108, 115] : List Int32).getD j 0 = nI (([102, 97, 105, 108, 115] : List Nat).getD j 0) ∧ ([102, 97, 105, 108, 115] : List Nat).getD j 0 < 128
    decide
set_option maxRecDepth 100000 in
set_option maxHeartbeats 8000000 in
theorem law_is_good : law_good := by
  intro L xs hL
  have fin : Rn 1000 0 0 [some (.ref 0), none, none, none] [] (AH0 L xs) (lwQ L) := by
    have hfi : ∀ c k, 16 ≤ c → FI0 xs c k = 0 := fun c k hc => by unfold FI0; rw [if_neg (by omega), if_neg (by omega)]
    have hfl : ∀ c k, 16 ≤ c → (fun _ _ => 0 : Nat → Nat → Int64) c k = 0 := fun _ _ _ => rfl
    have hfr : ∀ c k, 16 ≤ c → FR0 c k = none := fun c k hc => by unfold FR0; rw [if_neg (by omega)]
    show Rn _ _ _ _ _ (SH0 L, FI0 xs, (fun _ _ => 0), FR0) _
    refine Rn.newZ 16 (SH0 L ++ [(0, 6)]) k_0 rfl rfl rfl (fun k => ⟨hfi _ _ (by omega), rfl, hfr _ _ (by omega)⟩) ?_
    refine Rn.dupa k_0 rfl ?_
    refine Rn.cI1 k_0 rfl rfl q_1 rfl (Nat.le_of_ble_eq_true rfl) (Nat.le_of_ble_eq_true rfl) (cz_finder (T := SH0 L) rfl hfi hfl hfr) (fun v h' hq => ?_)
    obtain ⟨rfl, f1, rfl, a1, a2, a3, a4, a5, a6, a7⟩ := hq
    show Rn _ _ _ _ (Value.ref 16 :: []) _ _
    refine Rn.astore_n1 k_0 rfl rfl ?_
    have hT : (SH0 L ++ SHA ++ SHKs 40 ++ SHB).length = 604 := by rw [List.length_append, List.length_append, List.length_append, SHKs_len]; rfl
    refine Rn.newZ 604 (SH0 L ++ SHA ++ SHKs 40 ++ SHB ++ [(10, 60)]) k_0 rfl hT rfl (fun k => ⟨hfi _ _ (by omega), rfl, a7 _ _ (by omega)⟩) ?_
    refine Rn.dupa k_0 rfl ?_
    refine Rn.cI1 k_0 rfl rfl q_13 rfl (Nat.le_of_ble_eq_true rfl) (Nat.le_of_ble_eq_true rfl) (cz_model hT hfi hfl a7) (fun v h' hq => ?_)
    obtain ⟨rfl, f2, rfl, b1, b2⟩ := hq
    show Rn _ _ _ _ (Value.ref 604 :: []) (SH L, FI0 xs, (fun _ _ => 0), f2) _
    refine Rn.astore_n2 k_0 rfl rfl ?_
    refine Rn.iconst (0) k_0 rfl rfl ?_
    refine Rn.istore_n3 k_0 rfl rfl ?_
    have hF : FRok 599 592 f2 := by
      refine ⟨fun q hq => ?_, fun i hi q hq => ?_, fun i hi => (b2 _ _ (by decide)).trans (a3 i hi), (b2 _ _ (by decide)).trans a4, (b2 _ _ (by decide)).trans a5⟩
      · have e : FRl = FRlA ++ FRlB := (List.take_append_drop 29 FRl).symm
        rw [e] at hq
        rcases List.mem_append.mp hq with z | z
        · have : q.1 < 604 := (by decide : ∀ q ∈ FRlA, q.1 < 604) q z
          exact (b2 _ _ this).trans (a1 q z)
        · exact b1 q z
      · have hq14 : q.1 < 14 := (by decide : ∀ q ∈ FRk, q.1 < 14) q hq
        exact (b2 _ _ (by omega)).trans (a2 i hi q hq)
    have hS : STs L (FI0 xs) f2 := st_one (fun c k hc => (b2 _ _ (by omega)).trans (a6 c k hc))
    refine lw_loop hL L 0 599 592 [] A0 (fun _ => 0) 0 [] (FI0 xs) (fun _ _ => 0) f2 (by omega) (by omega) ⟨A0_ok 0, TOk.nil, Nat.zero_le _, Or.inl rfl⟩ ⟨Or.inr ⟨rfl, rfl⟩, hF, hS, fun j => rfl, ?_, ?_, ?_⟩ ⟨?_, ?_, ?_⟩
    · exact ⟨⟨fun k hk => absurd hk (Nat.not_lt_zero k), Nat.zero_le _⟩, NRr.nil rfl, rfl, rfl, fun i hi => absurd hi (Nat.not_lt_zero i), fun i hi => absurd hi (Nat.not_lt_zero i)⟩
    · exact ⟨rfl, fun k hk => absurd hk (Nat.not_lt_zero k)⟩
    · exact ⟨rfl, fun k hk => absurd hk (Nat.not_lt_zero k)⟩
    · exact ⟨⟨fun k hk => absurd hk (Nat.not_lt_zero k), Nat.zero_le _⟩, ⟨rfl, fun k hk => absurd hk (Nat.not_lt_zero k)⟩, ⟨rfl, fun k hk => absurd hk (Nat.not_lt_zero k)⟩, rfl, fun k hk => absurd hk (Nat.not_lt_zero k)⟩
    · exact ⟨rfl, fun k hk => absurd hk (Nat.not_lt_zero k)⟩
    · exact Or.inl ⟨rfl, rfl⟩
  refine fin.mono ?_
  rintro v h' ⟨rfl, e⟩
  rw [e]
  exact ⟨rfl, SH_len L, SH_tot L⟩
