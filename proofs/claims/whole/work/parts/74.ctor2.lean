/-! CONSTRUCTORS: a case, the script, the readers -/
section CT
variable {d a : Nat} {T : List (Nat × Nat)} {fi : Nat → Nat → Int32} {fl : Nat → Nat → Int64} {fr : Nat → Nat → Option Nat}
set_option maxHeartbeats 4000000 in
theorem cz_case (hT : T.length = a) (h16 : 16 ≤ a) (hfi : ∀ c k, 16 ≤ c → fi c k = 0) (hfl : ∀ c k, 16 ≤ c → fl c k = 0) (hfr : ∀ c k, a < c → fr c k = none) : Rn (d + 2) 73 0 [some (.ref a), none] [] (T ++ [(4, 15)], fi, fl, fr) (fun v h' => v = none ∧ ∃ fr', h' = (T ++ SHK, fi, fl, fr') ∧ (∀ q ∈ FRk, fr' (a + q.1) q.2.1 = some (a + q.2.2)) ∧ (∀ c k, c < a → fr' c k = fr c k) ∧ ∀ c k, a + 14 ≤ c → fr' c k = none) := by
  refine Rn.aload_n k_73 rfl rfl ?_
  refine Rn.obj0 k_73 rfl (Nat.le_of_ble_eq_true rfl) ?_
  refine Rn.aload_n k_73 rfl rfl ?_
  refine Rn.newZ (a + 1) (T ++ [(4, 15), (3, 2)]) k_73 rfl (cl_len hT) (List.append_assoc _ _ _) (fun k => ⟨hfi _ _ (by omega), hfl _ _ (by omega), by (repeat rw [up2_row _ _ (by omega)]); exact hfr _ _ (by omega)⟩) ?_
  refine Rn.dupa k_73 rfl ?_
  refine Rn.bipush (8) k_73 rfl rfl ?_
  refine Rn.cI2M k_73 rfl rfl q_97 rfl (Nat.le_of_ble_eq_true rfl) (Nat.le_of_ble_eq_true rfl) (cz_row (a := a + 1) (b := a + 2) (n := 8) (sh2 := T ++ [(4, 15), (3, 2), (101, 8)]) (cl_at (k := 1) hT rfl) (cl_len hT) (List.append_assoc _ _ _) (by decide) (fun k => ⟨hfi _ _ (by omega), hfl _ _ (by omega), by (repeat rw [up2_row _ _ (by omega)]); exact hfr _ _ (by omega)⟩)) ?_
  refine Rn.putA k_73 rfl rfl (cl_at (k := 0) hT rfl) ?_
  refine Rn.aload_n k_73 rfl rfl ?_
  refine Rn.newZ (a + 3) (T ++ [(4, 15), (3, 2), (101, 8), (3, 2)]) k_73 rfl (cl_len hT) (List.append_assoc _ _ _) (fun k => ⟨hfi _ _ (by omega), hfl _ _ (by omega), by (repeat rw [up2_row _ _ (by omega)]); exact hfr _ _ (by omega)⟩) ?_
  refine Rn.dupa k_73 rfl ?_
  refine Rn.iconst (4) k_73 rfl rfl ?_
  refine Rn.cI2M k_73 rfl rfl q_97 rfl (Nat.le_of_ble_eq_true rfl) (Nat.le_of_ble_eq_true rfl) (cz_row (a := a + 3) (b := a + 4) (n := 4) (sh2 := T ++ [(4, 15), (3, 2), (101, 8), (3, 2), (101, 4)]) (cl_at (k := 3) hT rfl) (cl_len hT) (List.append_assoc _ _ _) (by decide) (fun k => ⟨hfi _ _ (by omega), hfl _ _ (by omega), by (repeat rw [up2_row _ _ (by omega)]); exact hfr _ _ (by omega)⟩)) ?_
  refine Rn.putA k_73 rfl rfl (cl_at (k := 0) hT rfl) ?_
  refine Rn.aload_n k_73 rfl rfl ?_
  refine Rn.iconst (4) k_73 rfl rfl ?_
  refine Rn.anewZ 4 (a + 5) (T ++ [(4, 15), (3, 2), (101, 8), (3, 2), (101, 4), (404, 4)]) k_73 rfl rfl (by decide) (cl_len hT) (List.append_assoc _ _ _) (fun k => ⟨hfi _ _ (by omega), hfl _ _ (by omega), by (repeat rw [up2_row _ _ (by omega)]); exact hfr _ _ (by omega)⟩) ?_
  refine Rn.putA k_73 rfl rfl (cl_at (k := 0) hT rfl) ?_
  refine Rn.iconst (0) k_73 rfl rfl ?_
  refine Rn.istore_n1 k_73 rfl rfl ?_
  show Rn _ _ _ [some (.ref a), some (.int (nI 0))] _ _ _
  refine Rn.iload_n k_73 rfl rfl ?_
  refine Rn.aload_n k_73 rfl rfl ?_
  refine Rn.getA k_73 rfl rfl (cl_at (k := 0) hT rfl) (by (repeat first | rw [up2_same] | rw [up2_row _ _ (by omega)] | rw [up2_col _ _ (by omega)])) ?_
  refine Rn.alen k_73 rfl (cl_at (k := 5) hT rfl) rfl (by decide) ?_
  refine Rn.icmp_ge 69 k_73 rfl rfl (fun h1 => absurd h1 (by decide)) (fun _ => ?_)
  refine Rn.aload_n k_73 rfl rfl ?_
  refine Rn.getA k_73 rfl rfl (cl_at (k := 0) hT rfl) (by (repeat first | rw [up2_same] | rw [up2_row _ _ (by omega)] | rw [up2_col _ _ (by omega)])) ?_
  refine Rn.iload_n k_73 rfl rfl ?_
  refine Rn.newZ (a + 6) (T ++ [(4, 15), (3, 2), (101, 8), (3, 2), (101, 4), (404, 4), (3, 2)]) k_73 rfl (cl_len hT) (List.append_assoc _ _ _) (fun k => ⟨hfi _ _ (by omega), hfl _ _ (by omega), by (repeat rw [up2_row _ _ (by omega)]); exact hfr _ _ (by omega)⟩) ?_
  refine Rn.dupa k_73 rfl ?_
  refine Rn.bipush (6) k_73 rfl rfl ?_
  refine Rn.cI2M k_73 rfl rfl q_97 rfl (Nat.le_of_ble_eq_true rfl) (Nat.le_of_ble_eq_true rfl) (cz_row (a := a + 6) (b := a + 7) (n := 6) (sh2 := T ++ [(4, 15), (3, 2), (101, 8), (3, 2), (101, 4), (404, 4), (3, 2), (101, 6)]) (cl_at (k := 6) hT rfl) (cl_len hT) (List.append_assoc _ _ _) (by decide) (fun k => ⟨hfi _ _ (by omega), hfl _ _ (by omega), by (repeat rw [up2_row _ _ (by omega)]); exact hfr _ _ (by omega)⟩)) ?_
  refine Rn.aastore (a := a + 5) (v := a + 6) (n := 4) (m := 2) (tv := 3) 0 k_73 rfl (cl_at (k := 5) hT rfl) (cl_at (k := 6) hT rfl) (by decide) (by omega) rfl (by decide) (by decide) ?_
  refine Rn.iinc1 (1) k_73 rfl rfl rfl ?_
  rw [show nI 0 + 1 = nI 1 from rfl]
  refine Rn.goto 39 k_73 rfl rfl ?_
  refine Rn.iload_n k_73 rfl rfl ?_
  refine Rn.aload_n k_73 rfl rfl ?_
  refine Rn.getA k_73 rfl rfl (cl_at (k := 0) hT rfl) (by (repeat first | rw [up2_same] | rw [up2_row _ _ (by omega)] | rw [up2_col _ _ (by omega)])) ?_
  refine Rn.alen k_73 rfl (cl_at (k := 5) hT rfl) rfl (by decide) ?_
  refine Rn.icmp_ge 69 k_73 rfl rfl (fun h1 => absurd h1 (by decide)) (fun _ => ?_)
  refine Rn.aload_n k_73 rfl rfl ?_
  refine Rn.getA k_73 rfl rfl (cl_at (k := 0) hT rfl) (by (repeat first | rw [up2_same] | rw [up2_row _ _ (by omega)] | rw [up2_col _ _ (by omega)])) ?_
  refine Rn.iload_n k_73 rfl rfl ?_
  refine Rn.newZ (a + 8) (T ++ [(4, 15), (3, 2), (101, 8), (3, 2), (101, 4), (404, 4), (3, 2), (101, 6), (3, 2)]) k_73 rfl (cl_len hT) (List.append_assoc _ _ _) (fun k => ⟨hfi _ _ (by omega), hfl _ _ (by omega), by (repeat rw [up2_row _ _ (by omega)]); exact hfr _ _ (by omega)⟩) ?_
  refine Rn.dupa k_73 rfl ?_
  refine Rn.bipush (6) k_73 rfl rfl ?_
  refine Rn.cI2M k_73 rfl rfl q_97 rfl (Nat.le_of_ble_eq_true rfl) (Nat.le_of_ble_eq_true rfl) (cz_row (a := a + 8) (b := a + 9) (n := 6) (sh2 := T ++ [(4, 15), (3, 2), (101, 8), (3, 2), (101, 4), (404, 4), (3, 2), (101, 6), (3, 2), (101, 6)]) (cl_at (k := 8) hT rfl) (cl_len hT) (List.append_assoc _ _ _) (by decide) (fun k => ⟨hfi _ _ (by omega), hfl _ _ (by omega), by (repeat rw [up2_row _ _ (by omega)]); exact hfr _ _ (by omega)⟩)) ?_
  refine Rn.aastore (a := a + 5) (v := a + 8) (n := 4) (m := 2) (tv := 3) 1 k_73 rfl (cl_at (k := 5) hT rfl) (cl_at (k := 8) hT rfl) (by decide) (by omega) rfl (by decide) (by decide) ?_
  refine Rn.iinc1 (1) k_73 rfl rfl rfl ?_
  rw [show nI 1 + 1 = nI 2 from rfl]
  refine Rn.goto 39 k_73 rfl rfl ?_
  refine Rn.iload_n k_73 rfl rfl ?_
  refine Rn.aload_n k_73 rfl rfl ?_
  refine Rn.getA k_73 rfl rfl (cl_at (k := 0) hT rfl) (by (repeat first | rw [up2_same] | rw [up2_row _ _ (by omega)] | rw [up2_col _ _ (by omega)])) ?_
  refine Rn.alen k_73 rfl (cl_at (k := 5) hT rfl) rfl (by decide) ?_
  refine Rn.icmp_ge 69 k_73 rfl rfl (fun h1 => absurd h1 (by decide)) (fun _ => ?_)
  refine Rn.aload_n k_73 rfl rfl ?_
  refine Rn.getA k_73 rfl rfl (cl_at (k := 0) hT rfl) (by (repeat first | rw [up2_same] | rw [up2_row _ _ (by omega)] | rw [up2_col _ _ (by omega)])) ?_
  refine Rn.iload_n k_73 rfl rfl ?_
  refine Rn.newZ (a + 10) (T ++ [(4, 15), (3, 2), (101, 8), (3, 2), (101, 4), (404, 4), (3, 2), (101, 6), (3, 2), (101, 6), (3, 2)]) k_73 rfl (cl_len hT) (List.append_assoc _ _ _) (fun k => ⟨hfi _ _ (by omega), hfl _ _ (by omega), by (repeat rw [up2_row _ _ (by omega)]); exact hfr _ _ (by omega)⟩) ?_
  refine Rn.dupa k_73 rfl ?_
  refine Rn.bipush (6) k_73 rfl rfl ?_
  refine Rn.cI2M k_73 rfl rfl q_97 rfl (Nat.le_of_ble_eq_true rfl) (Nat.le_of_ble_eq_true rfl) (cz_row (a := a + 10) (b := a + 11) (n := 6) (sh2 := T ++ [(4, 15), (3, 2), (101, 8), (3, 2), (101, 4), (404, 4), (3, 2), (101, 6), (3, 2), (101, 6), (3, 2), (101, 6)]) (cl_at (k := 10) hT rfl) (cl_len hT) (List.append_assoc _ _ _) (by decide) (fun k => ⟨hfi _ _ (by omega), hfl _ _ (by omega), by (repeat rw [up2_row _ _ (by omega)]); exact hfr _ _ (by omega)⟩)) ?_
  refine Rn.aastore (a := a + 5) (v := a + 10) (n := 4) (m := 2) (tv := 3) 2 k_73 rfl (cl_at (k := 5) hT rfl) (cl_at (k := 10) hT rfl) (by decide) (by omega) rfl (by decide) (by decide) ?_
  refine Rn.iinc1 (1) k_73 rfl rfl rfl ?_
  rw [show nI 2 + 1 = nI 3 from rfl]
  refine Rn.goto 39 k_73 rfl rfl ?_
  refine Rn.iload_n k_73 rfl rfl ?_
  refine Rn.aload_n k_73 rfl rfl ?_
  refine Rn.getA k_73 rfl rfl (cl_at (k := 0) hT rfl) (by (repeat first | rw [up2_same] | rw [up2_row _ _ (by omega)] | rw [up2_col _ _ (by omega)])) ?_
  refine Rn.alen k_73 rfl (cl_at (k := 5) hT rfl) rfl (by decide) ?_
  refine Rn.icmp_ge 69 k_73 rfl rfl (fun h1 => absurd h1 (by decide)) (fun _ => ?_)
  refine Rn.aload_n k_73 rfl rfl ?_
  refine Rn.getA k_73 rfl rfl (cl_at (k := 0) hT rfl) (by (repeat first | rw [up2_same] | rw [up2_row _ _ (by omega)] | rw [up2_col _ _ (by omega)])) ?_
  refine Rn.iload_n k_73 rfl rfl ?_
  refine Rn.newZ (a + 12) (T ++ [(4, 15), (3, 2), (101, 8), (3, 2), (101, 4), (404, 4), (3, 2), (101, 6), (3, 2), (101, 6), (3, 2), (101, 6), (3, 2)]) k_73 rfl (cl_len hT) (List.append_assoc _ _ _) (fun k => ⟨hfi _ _ (by omega), hfl _ _ (by omega), by (repeat rw [up2_row _ _ (by omega)]); exact hfr _ _ (by omega)⟩) ?_
  refine Rn.dupa k_73 rfl ?_
  refine Rn.bipush (6) k_73 rfl rfl ?_
  refine Rn.cI2M k_73 rfl rfl q_97 rfl (Nat.le_of_ble_eq_true rfl) (Nat.le_of_ble_eq_true rfl) (cz_row (a := a + 12) (b := a + 13) (n := 6) (sh2 := T ++ [(4, 15), (3, 2), (101, 8), (3, 2), (101, 4), (404, 4), (3, 2), (101, 6), (3, 2), (101, 6), (3, 2), (101, 6), (3, 2), (101, 6)]) (cl_at (k := 12) hT rfl) (cl_len hT) (List.append_assoc _ _ _) (by decide) (fun k => ⟨hfi _ _ (by omega), hfl _ _ (by omega), by (repeat rw [up2_row _ _ (by omega)]); exact hfr _ _ (by omega)⟩)) ?_
  refine Rn.aastore (a := a + 5) (v := a + 12) (n := 4) (m := 2) (tv := 3) 3 k_73 rfl (cl_at (k := 5) hT rfl) (cl_at (k := 12) hT rfl) (by decide) (by omega) rfl (by decide) (by decide) ?_
  refine Rn.iinc1 (1) k_73 rfl rfl rfl ?_
  rw [show nI 3 + 1 = nI 4 from rfl]
  refine Rn.goto 39 k_73 rfl rfl ?_
  refine Rn.iload_n k_73 rfl rfl ?_
  refine Rn.aload_n k_73 rfl rfl ?_
  refine Rn.getA k_73 rfl rfl (cl_at (k := 0) hT rfl) (by (repeat first | rw [up2_same] | rw [up2_row _ _ (by omega)] | rw [up2_col _ _ (by omega)])) ?_
  refine Rn.alen k_73 rfl (cl_at (k := 5) hT rfl) rfl (by decide) ?_
  refine Rn.icmp_ge 69 k_73 rfl rfl (fun _ => ?_) (fun h1 => absurd (by decide) h1)
  refine Rn.retv k_73 rfl q_73 rfl ?_
  refine ⟨rfl, _, rfl, fun q hq => ?_, fun c k hc => ?_, fun c k hc => ?_⟩
  · simp only [FRk, List.mem_cons, List.not_mem_nil, or_false] at hq
    rcases hq with rfl | rfl | rfl | rfl | rfl | rfl | rfl | rfl | rfl | rfl | rfl | rfl | rfl <;> dsimp only [Nat.add_zero] <;> (repeat first | rw [up2_same] | rw [up2_row _ _ (by omega)] | rw [up2_col _ _ (by omega)])
  · (repeat rw [up2_row _ _ (by omega)])
  · (repeat rw [up2_row _ _ (by omega)])
    exact hfr _ _ (by omega)
end CT
