/-! CONSTRUCTORS: the class, the reference -/
def FRlA : List (Nat × Nat × Nat) := FRl.take 29
def FRlB : List (Nat × Nat × Nat) := FRl.drop 29
section CT
variable {d : Nat} {T : List (Nat × Nat)} {fi : Nat → Nat → Int32} {fl : Nat → Nat → Int64} {fr : Nat → Nat → Option Nat}
def czA (T : List (Nat × Nat)) (fi : Nat → Nat → Int32) (fl : Nat → Nat → Int64) (fr : Nat → Nat → Option Nat) : Option Value → am_H → Prop := fun v h' => v = none ∧ ∃ fr', h' = (T ++ SHA ++ SHKs 40 ++ SHB, fi, fl, fr') ∧ (∀ q ∈ FRlA, fr' q.1 q.2.1 = some q.2.2) ∧ (∀ i, i < 40 → ∀ q ∈ FRk, fr' (25 + 14 * i + q.1) q.2.1 = some (25 + 14 * i + q.2.2)) ∧ (∀ i, i < 40 → fr' 23 i = some (25 + 14 * i)) ∧ fr' 591 4 = some 592 ∧ fr' 16 5 = some 599 ∧ (∀ c k, c < 16 → fr' c k = fr c k) ∧ ∀ c k, 604 ≤ c → fr' c k = none
set_option maxHeartbeats 4000000 in
theorem cz_finder (hT : T.length = 16) (hfi : ∀ c k, 16 ≤ c → fi c k = 0) (hfl : ∀ c k, 16 ≤ c → fl c k = 0) (hfr : ∀ c k, 16 ≤ c → fr c k = none) : Rn (d + 4) 1 0 [some (.ref 16)] [] (T ++ [(0, 6)], fi, fl, fr) (czA T fi fl fr) := by
  refine Rn.aload_n k_1 rfl rfl ?_
  refine Rn.obj0 k_1 rfl (Nat.le_of_ble_eq_true rfl) ?_
  refine Rn.aload_n k_1 rfl rfl ?_
  refine Rn.newZ 17 (T ++ [(0, 6), (1, 2)]) k_1 rfl (cl_len hT) (List.append_assoc _ _ _) (fun k => ⟨hfi _ _ (by omega), hfl _ _ (by omega), by (repeat rw [up2_row _ _ (by omega)]); exact hfr _ _ (by omega)⟩) ?_
  refine Rn.dupa k_1 rfl ?_
  rw [show T ++ [(0, 6), (1, 2)] = T ++ [(0, 6)] ++ [(1, 2)] from (List.append_assoc T [(0, 6)] [(1, 2)]).symm]
  refine Rn.cI1M k_1 rfl rfl q_124 rfl (Nat.le_of_ble_eq_true rfl) (Nat.le_of_ble_eq_true rfl) (cz_tape (a := 17) (T := T ++ [(0, 6)]) (cl_len hT) (by decide) hfi hfl (fun c k hc => hfr _ _ (by omega))) ?_
  rw [List.append_assoc]
  show Rn _ _ _ _ _ (T ++ [(0, 6), (1, 2), (102, 1200)], fi, fl, up2 fr 17 0 (some 18)) _
  refine Rn.putA k_1 rfl rfl (cl_at (k := 0) hT rfl) ?_
  refine Rn.aload_n k_1 rfl rfl ?_
  refine Rn.newZ 19 (T ++ [(0, 6), (1, 2), (102, 1200), (2, 7)]) k_1 rfl (cl_len hT) (List.append_assoc _ _ _) (fun k => ⟨hfi _ _ (by omega), hfl _ _ (by omega), by (repeat rw [up2_row _ _ (by omega)]); exact hfr _ _ (by omega)⟩) ?_
  refine Rn.dupa k_1 rfl ?_
  rw [show T ++ [(0, 6), (1, 2), (102, 1200), (2, 7)] = T ++ [(0, 6), (1, 2), (102, 1200)] ++ [(2, 7)] from (List.append_assoc T [(0, 6), (1, 2), (102, 1200)] [(2, 7)]).symm]
  refine Rn.cI1 k_1 rfl rfl q_106 rfl (Nat.le_of_ble_eq_true rfl) (Nat.le_of_ble_eq_true rfl) (cz_script (T := T ++ [(0, 6), (1, 2), (102, 1200)]) (cl_len hT) hfi hfl (fun c k hc => by (repeat rw [up2_row _ _ (by omega)]); exact hfr _ _ (by omega))) (fun v h' hq => ?_)
  obtain ⟨rfl, g, rfl, q1, q2, e190, e210, e192, e193, e195, q3, hfr9⟩ := hq
  show Rn _ _ _ _ (Value.ref 19 :: Value.ref 16 :: []) _ _
  have e160 : g 16 0 = some 17 := q3 16 0 (by decide)
  have e170 : g 17 0 = some 18 := q3 17 0 (by decide)
  have glow : ∀ c k, c < 16 → g c k = fr c k := fun c k hc => by
    rw [q3 c k (by omega)]
    (repeat rw [up2_row _ _ (by omega)])
  rw [show T ++ [(0, 6), (1, 2), (102, 1200)] ++ [(2, 7), (102, 1200), (3, 2), (101, 10), (405, 40), (100, 120)] = T ++ SHA from List.append_assoc T [(0, 6), (1, 2), (102, 1200)] [(2, 7), (102, 1200), (3, 2), (101, 10), (405, 40), (100, 120)]]
  have hT1 : (T ++ SHA ++ SHKs 40).length = 585 := by rw [List.length_append, List.length_append, hT, SHKs_len]; rfl
  have t16 : (T ++ SHA ++ SHKs 40)[16]? = some (0, 6) := cl_le (cl_at (k := 0) hT rfl)
  have t17 : (T ++ SHA ++ SHKs 40)[17]? = some (1, 2) := cl_le (cl_at (k := 1) hT rfl)
  have t19 : (T ++ SHA ++ SHKs 40)[19]? = some (2, 7) := cl_le (cl_at (k := 3) hT rfl)
  have hfr := hfr9
  unfold czA
  generalize T ++ SHA ++ SHKs 40 = P at hT1 t16 t17 t19 ⊢
  refine Rn.putA k_1 rfl rfl t16 ?_
  refine Rn.aload_n k_1 rfl rfl ?_
  refine Rn.newZ 585 (P ++ [(5, 4)]) k_1 rfl hT1 rfl (fun k => ⟨hfi _ _ (by omega), hfl _ _ (by omega), by (repeat rw [up2_row _ _ (by omega)]); exact hfr _ _ (by omega)⟩) ?_
  refine Rn.dupa k_1 rfl ?_
  refine Rn.aload_n k_1 rfl rfl ?_
  refine Rn.getA k_1 rfl rfl (cl_le t16) (up2_same _ _ _ _) ?_
  refine Rn.cI2M k_1 rfl rfl q_113 rfl (Nat.le_of_ble_eq_true rfl) (Nat.le_of_ble_eq_true rfl) (cz_sreader hT1 t19 (by exact e190) hfi hfl (fun c k hc => by (repeat rw [up2_row _ _ (by omega)]); exact hfr _ _ (by omega))) ?_
  refine Rn.putA k_1 rfl rfl (cl_le t16) ?_
  refine Rn.aload_n k_1 rfl rfl ?_
  refine Rn.newZ 591 (P ++ [(5, 4), (3, 2), (101, 8), (6, 4), (100, 600), (100, 600), (7, 5)]) k_1 rfl (cl_len hT1) (List.append_assoc _ _ _) (fun k => ⟨hfi _ _ (by omega), hfl _ _ (by omega), by (repeat rw [up2_row _ _ (by omega)]); exact hfr _ _ (by omega)⟩) ?_
  refine Rn.dupa k_1 rfl ?_
  refine Rn.aload_n k_1 rfl rfl ?_
  refine Rn.getA k_1 rfl rfl (cl_le t16) (by exact e160) ?_
  rw [show P ++ [(5, 4), (3, 2), (101, 8), (6, 4), (100, 600), (100, 600), (7, 5)] = P ++ [(5, 4), (3, 2), (101, 8), (6, 4), (100, 600), (100, 600)] ++ [(7, 5)] from (List.append_assoc P [(5, 4), (3, 2), (101, 8), (6, 4), (100, 600), (100, 600)] [(7, 5)]).symm]
  refine Rn.cI2M k_1 rfl rfl q_83 rfl (Nat.le_of_ble_eq_true rfl) (Nat.le_of_ble_eq_true rfl) (cz_freader (T := P ++ [(5, 4), (3, 2), (101, 8), (6, 4), (100, 600), (100, 600)]) (cl_len hT1) (cl_le t17) (by exact e170) hfi hfl (fun c k hc => by (repeat rw [up2_row _ _ (by omega)]); exact hfr _ _ (by omega))) ?_
  rw [show P ++ [(5, 4), (3, 2), (101, 8), (6, 4), (100, 600), (100, 600)] ++ [(7, 5), (8, 5), (102, 120), (101, 120), (101, 120), (103, 120)] = P ++ [(5, 4), (3, 2), (101, 8), (6, 4), (100, 600), (100, 600), (7, 5), (8, 5), (102, 120), (101, 120), (101, 120), (103, 120)] from List.append_assoc P [(5, 4), (3, 2), (101, 8), (6, 4), (100, 600), (100, 600)] [(7, 5), (8, 5), (102, 120), (101, 120), (101, 120), (103, 120)]]
  refine Rn.putA k_1 rfl rfl (cl_le t16) ?_
  refine Rn.aload_n k_1 rfl rfl ?_
  refine Rn.newZ 597 (P ++ [(5, 4), (3, 2), (101, 8), (6, 4), (100, 600), (100, 600), (7, 5), (8, 5), (102, 120), (101, 120), (101, 120), (103, 120), (9, 2)]) k_1 rfl (cl_len hT1) (List.append_assoc _ _ _) (fun k => ⟨hfi _ _ (by omega), hfl _ _ (by omega), by (repeat rw [up2_row _ _ (by omega)]); exact hfr _ _ (by omega)⟩) ?_
  refine Rn.dupa k_1 rfl ?_
  rw [show P ++ [(5, 4), (3, 2), (101, 8), (6, 4), (100, 600), (100, 600), (7, 5), (8, 5), (102, 120), (101, 120), (101, 120), (103, 120), (9, 2)] = P ++ [(5, 4), (3, 2), (101, 8), (6, 4), (100, 600), (100, 600), (7, 5), (8, 5), (102, 120), (101, 120), (101, 120), (103, 120)] ++ [(9, 2)] from (List.append_assoc P [(5, 4), (3, 2), (101, 8), (6, 4), (100, 600), (100, 600), (7, 5), (8, 5), (102, 120), (101, 120), (101, 120), (103, 120)] [(9, 2)]).symm]
  refine Rn.cI1M k_1 rfl rfl q_127 rfl (Nat.le_of_ble_eq_true rfl) (Nat.le_of_ble_eq_true rfl) (cz_name (a := 597) (T := P ++ [(5, 4), (3, 2), (101, 8), (6, 4), (100, 600), (100, 600), (7, 5), (8, 5), (102, 120), (101, 120), (101, 120), (103, 120)]) (cl_len hT1) (by decide) hfi hfl (fun c k hc => by (repeat rw [up2_row _ _ (by omega)]); exact hfr _ _ (by omega))) ?_
  rw [show P ++ [(5, 4), (3, 2), (101, 8), (6, 4), (100, 600), (100, 600), (7, 5), (8, 5), (102, 120), (101, 120), (101, 120), (103, 120)] ++ [(9, 2), (102, 130)] = P ++ [(5, 4), (3, 2), (101, 8), (6, 4), (100, 600), (100, 600), (7, 5), (8, 5), (102, 120), (101, 120), (101, 120), (103, 120), (9, 2), (102, 130)] from List.append_assoc P [(5, 4), (3, 2), (101, 8), (6, 4), (100, 600), (100, 600), (7, 5), (8, 5), (102, 120), (101, 120), (101, 120), (103, 120)] [(9, 2), (102, 130)]]
  refine Rn.putA k_1 rfl rfl (cl_le t16) ?_
  refine Rn.aload_n k_1 rfl rfl ?_
  refine Rn.newZ 599 (P ++ [(5, 4), (3, 2), (101, 8), (6, 4), (100, 600), (100, 600), (7, 5), (8, 5), (102, 120), (101, 120), (101, 120), (103, 120), (9, 2), (102, 130), (8, 5)]) k_1 rfl (cl_len hT1) (List.append_assoc _ _ _) (fun k => ⟨hfi _ _ (by omega), hfl _ _ (by omega), by (repeat rw [up2_row _ _ (by omega)]); exact hfr _ _ (by omega)⟩) ?_
  refine Rn.dupa k_1 rfl ?_
  rw [show P ++ [(5, 4), (3, 2), (101, 8), (6, 4), (100, 600), (100, 600), (7, 5), (8, 5), (102, 120), (101, 120), (101, 120), (103, 120), (9, 2), (102, 130), (8, 5)] = P ++ [(5, 4), (3, 2), (101, 8), (6, 4), (100, 600), (100, 600), (7, 5), (8, 5), (102, 120), (101, 120), (101, 120), (103, 120), (9, 2), (102, 130)] ++ [(8, 5)] from (List.append_assoc P [(5, 4), (3, 2), (101, 8), (6, 4), (100, 600), (100, 600), (7, 5), (8, 5), (102, 120), (101, 120), (101, 120), (103, 120), (9, 2), (102, 130)] [(8, 5)]).symm]
  refine Rn.cI1M k_1 rfl rfl q_76 rfl (Nat.le_of_ble_eq_true rfl) (Nat.le_of_ble_eq_true rfl) (cz_filter (a := 599) (T := P ++ [(5, 4), (3, 2), (101, 8), (6, 4), (100, 600), (100, 600), (7, 5), (8, 5), (102, 120), (101, 120), (101, 120), (103, 120), (9, 2), (102, 130)]) (cl_len hT1) (by decide) hfi hfl (fun c k hc => by (repeat rw [up2_row _ _ (by omega)]); exact hfr _ _ (by omega))) ?_
  rw [show P ++ [(5, 4), (3, 2), (101, 8), (6, 4), (100, 600), (100, 600), (7, 5), (8, 5), (102, 120), (101, 120), (101, 120), (103, 120), (9, 2), (102, 130)] ++ [(8, 5), (102, 120), (101, 120), (101, 120), (103, 120)] = P ++ SHB from List.append_assoc P [(5, 4), (3, 2), (101, 8), (6, 4), (100, 600), (100, 600), (7, 5), (8, 5), (102, 120), (101, 120), (101, 120), (103, 120), (9, 2), (102, 130)] [(8, 5), (102, 120), (101, 120), (101, 120), (103, 120)]]
  refine Rn.putA k_1 rfl rfl (cl_le t16) ?_
  refine Rn.retv k_1 rfl q_1 rfl ?_
  refine ⟨rfl, _, rfl, fun q hq => ?_, fun i hi q hq => ?_, fun i hi => ?_, rfl, rfl, fun c k hc => ?_, fun c k hc => ?_⟩
  · simp only [FRlA, FRl, List.take, List.mem_cons, List.not_mem_nil, or_false] at hq
    rcases hq with rfl | rfl | rfl | rfl | rfl | rfl | rfl | rfl | rfl | rfl | rfl | rfl | rfl | rfl | rfl | rfl | rfl | rfl | rfl | rfl | rfl | rfl | rfl | rfl | rfl | rfl | rfl | rfl | rfl
    all_goals first | rfl | exact e160 | exact e170 | exact e190 | exact e210 | exact e192 | exact e193 | exact e195
  · have hq14 : q.1 < 14 := (by decide : ∀ q ∈ FRk, q.1 < 14) q hq
    (repeat rw [up2_row _ _ (by omega)])
    exact q1 i hi q hq
  · (repeat rw [up2_row _ _ (by omega)])
    exact q2 i hi
  · (repeat rw [up2_row _ _ (by omega)])
    exact glow c k hc
  · (repeat rw [up2_row _ _ (by omega)])
    exact hfr c k (by omega)
end CT
