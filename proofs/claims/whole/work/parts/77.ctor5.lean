/-! CONSTRUCTORS: the reference -/
section CT
variable {d : Nat} {T : List (Nat × Nat)} {fi : Nat → Nat → Int32} {fl : Nat → Nat → Int64} {fr : Nat → Nat → Option Nat}
set_option maxRecDepth 100000 in
set_option maxHeartbeats 8000000 in
theorem cz_model (hT : T.length = 604) (hfi : ∀ c k, 16 ≤ c → fi c k = 0) (hfl : ∀ c k, 16 ≤ c → fl c k = 0) (hfr : ∀ c k, 604 ≤ c → fr c k = none) : Rn (d + 1) 13 0 [some (.ref 604)] [] (T ++ [(10, 60)], fi, fl, fr) (fun v h' => v = none ∧ ∃ fr', h' = (T ++ SHM, fi, fl, fr') ∧ (∀ q ∈ FRlB, fr' q.1 q.2.1 = some q.2.2) ∧ ∀ c k, c < 604 → fr' c k = fr c k) := by
  refine Rn.aload_n k_13 rfl rfl ?_
  refine Rn.obj0 k_13 rfl (Nat.le_of_ble_eq_true rfl) ?_
  refine Rn.aload_n k_13 rfl rfl ?_
  refine Rn.sipush (1200) k_13 rfl rfl ?_
  refine Rn.newaZ 1200 605 (T ++ [(10, 60), (100, 1200)]) k_13 rfl rfl (by decide) (cl_len hT) (List.append_assoc _ _ _) (fun k => ⟨hfi _ _ (by omega), hfl _ _ (by omega), by (repeat rw [up2_row _ _ (by omega)]); exact hfr _ _ (by omega)⟩) ?_
  refine Rn.putA k_13 rfl rfl (cl_at (k := 0) hT rfl) ?_
  refine Rn.aload_n k_13 rfl rfl ?_
  refine Rn.sipush (1200) k_13 rfl rfl ?_
  refine Rn.newaZ 1200 606 (T ++ [(10, 60), (100, 1200), (100, 1200)]) k_13 rfl rfl (by decide) (cl_len hT) (List.append_assoc _ _ _) (fun k => ⟨hfi _ _ (by omega), hfl _ _ (by omega), by (repeat rw [up2_row _ _ (by omega)]); exact hfr _ _ (by omega)⟩) ?_
  refine Rn.putA k_13 rfl rfl (cl_at (k := 0) hT rfl) ?_
  refine Rn.aload_n k_13 rfl rfl ?_
  refine Rn.sipush (600) k_13 rfl rfl ?_
  refine Rn.newaZ 600 607 (T ++ [(10, 60), (100, 1200), (100, 1200), (100, 600)]) k_13 rfl rfl (by decide) (cl_len hT) (List.append_assoc _ _ _) (fun k => ⟨hfi _ _ (by omega), hfl _ _ (by omega), by (repeat rw [up2_row _ _ (by omega)]); exact hfr _ _ (by omega)⟩) ?_
  refine Rn.putA k_13 rfl rfl (cl_at (k := 0) hT rfl) ?_
  refine Rn.aload_n k_13 rfl rfl ?_
  refine Rn.sipush (600) k_13 rfl rfl ?_
  refine Rn.newaZ 600 608 (T ++ [(10, 60), (100, 1200), (100, 1200), (100, 600), (100, 600)]) k_13 rfl rfl (by decide) (cl_len hT) (List.append_assoc _ _ _) (fun k => ⟨hfi _ _ (by omega), hfl _ _ (by omega), by (repeat rw [up2_row _ _ (by omega)]); exact hfr _ _ (by omega)⟩) ?_
  refine Rn.putA k_13 rfl rfl (cl_at (k := 0) hT rfl) ?_
  refine Rn.aload_n k_13 rfl rfl ?_
  refine Rn.bipush (10) k_13 rfl rfl ?_
  refine Rn.newaZ 10 609 (T ++ [(10, 60), (100, 1200), (100, 1200), (100, 600), (100, 600), (100, 10)]) k_13 rfl rfl (by decide) (cl_len hT) (List.append_assoc _ _ _) (fun k => ⟨hfi _ _ (by omega), hfl _ _ (by omega), by (repeat rw [up2_row _ _ (by omega)]); exact hfr _ _ (by omega)⟩) ?_
  refine Rn.putA k_13 rfl rfl (cl_at (k := 0) hT rfl) ?_
  refine Rn.aload_n k_13 rfl rfl ?_
  refine Rn.bipush (10) k_13 rfl rfl ?_
  refine Rn.newaZ 10 610 (T ++ [(10, 60), (100, 1200), (100, 1200), (100, 600), (100, 600), (100, 10), (100, 10)]) k_13 rfl rfl (by decide) (cl_len hT) (List.append_assoc _ _ _) (fun k => ⟨hfi _ _ (by omega), hfl _ _ (by omega), by (repeat rw [up2_row _ _ (by omega)]); exact hfr _ _ (by omega)⟩) ?_
  refine Rn.putA k_13 rfl rfl (cl_at (k := 0) hT rfl) ?_
  refine Rn.aload_n k_13 rfl rfl ?_
  refine Rn.bipush (10) k_13 rfl rfl ?_
  refine Rn.newaZ 10 611 (T ++ [(10, 60), (100, 1200), (100, 1200), (100, 600), (100, 600), (100, 10), (100, 10), (100, 10)]) k_13 rfl rfl (by decide) (cl_len hT) (List.append_assoc _ _ _) (fun k => ⟨hfi _ _ (by omega), hfl _ _ (by omega), by (repeat rw [up2_row _ _ (by omega)]); exact hfr _ _ (by omega)⟩) ?_
  refine Rn.putA k_13 rfl rfl (cl_at (k := 0) hT rfl) ?_
  refine Rn.aload_n k_13 rfl rfl ?_
  refine Rn.bipush (80) k_13 rfl rfl ?_
  refine Rn.newaZ 80 612 (T ++ [(10, 60), (100, 1200), (100, 1200), (100, 600), (100, 600), (100, 10), (100, 10), (100, 10), (100, 80)]) k_13 rfl rfl (by decide) (cl_len hT) (List.append_assoc _ _ _) (fun k => ⟨hfi _ _ (by omega), hfl _ _ (by omega), by (repeat rw [up2_row _ _ (by omega)]); exact hfr _ _ (by omega)⟩) ?_
  refine Rn.putA k_13 rfl rfl (cl_at (k := 0) hT rfl) ?_
  refine Rn.aload_n k_13 rfl rfl ?_
  refine Rn.bipush (80) k_13 rfl rfl ?_
  refine Rn.newaZ 80 613 (T ++ [(10, 60), (100, 1200), (100, 1200), (100, 600), (100, 600), (100, 10), (100, 10), (100, 10), (100, 80), (100, 80)]) k_13 rfl rfl (by decide) (cl_len hT) (List.append_assoc _ _ _) (fun k => ⟨hfi _ _ (by omega), hfl _ _ (by omega), by (repeat rw [up2_row _ _ (by omega)]); exact hfr _ _ (by omega)⟩) ?_
  refine Rn.putA k_13 rfl rfl (cl_at (k := 0) hT rfl) ?_
  refine Rn.aload_n k_13 rfl rfl ?_
  refine Rn.bipush (40) k_13 rfl rfl ?_
  refine Rn.newaZ 40 614 (T ++ [(10, 60), (100, 1200), (100, 1200), (100, 600), (100, 600), (100, 10), (100, 10), (100, 10), (100, 80), (100, 80), (100, 40)]) k_13 rfl rfl (by decide) (cl_len hT) (List.append_assoc _ _ _) (fun k => ⟨hfi _ _ (by omega), hfl _ _ (by omega), by (repeat rw [up2_row _ _ (by omega)]); exact hfr _ _ (by omega)⟩) ?_
  refine Rn.putA k_13 rfl rfl (cl_at (k := 0) hT rfl) ?_
  refine Rn.aload_n k_13 rfl rfl ?_
  refine Rn.bipush (40) k_13 rfl rfl ?_
  refine Rn.newaZ 40 615 (T ++ [(10, 60), (100, 1200), (100, 1200), (100, 600), (100, 600), (100, 10), (100, 10), (100, 10), (100, 80), (100, 80), (100, 40), (100, 40)]) k_13 rfl rfl (by decide) (cl_len hT) (List.append_assoc _ _ _) (fun k => ⟨hfi _ _ (by omega), hfl _ _ (by omega), by (repeat rw [up2_row _ _ (by omega)]); exact hfr _ _ (by omega)⟩) ?_
  refine Rn.putA k_13 rfl rfl (cl_at (k := 0) hT rfl) ?_
  refine Rn.aload_n k_13 rfl rfl ?_
  refine Rn.bipush (40) k_13 rfl rfl ?_
  refine Rn.newaZ 40 616 (T ++ [(10, 60), (100, 1200), (100, 1200), (100, 600), (100, 600), (100, 10), (100, 10), (100, 10), (100, 80), (100, 80), (100, 40), (100, 40), (100, 40)]) k_13 rfl rfl (by decide) (cl_len hT) (List.append_assoc _ _ _) (fun k => ⟨hfi _ _ (by omega), hfl _ _ (by omega), by (repeat rw [up2_row _ _ (by omega)]); exact hfr _ _ (by omega)⟩) ?_
  refine Rn.putA k_13 rfl rfl (cl_at (k := 0) hT rfl) ?_
  refine Rn.aload_n k_13 rfl rfl ?_
  refine Rn.bipush (40) k_13 rfl rfl ?_
  refine Rn.newaZ 40 617 (T ++ [(10, 60), (100, 1200), (100, 1200), (100, 600), (100, 600), (100, 10), (100, 10), (100, 10), (100, 80), (100, 80), (100, 40), (100, 40), (100, 40), (100, 40)]) k_13 rfl rfl (by decide) (cl_len hT) (List.append_assoc _ _ _) (fun k => ⟨hfi _ _ (by omega), hfl _ _ (by omega), by (repeat rw [up2_row _ _ (by omega)]); exact hfr _ _ (by omega)⟩) ?_
  refine Rn.putA k_13 rfl rfl (cl_at (k := 0) hT rfl) ?_
  refine Rn.aload_n k_13 rfl rfl ?_
  refine Rn.bipush (40) k_13 rfl rfl ?_
  refine Rn.newaZ 40 618 (T ++ [(10, 60), (100, 1200), (100, 1200), (100, 600), (100, 600), (100, 10), (100, 10), (100, 10), (100, 80), (100, 80), (100, 40), (100, 40), (100, 40), (100, 40), (100, 40)]) k_13 rfl rfl (by decide) (cl_len hT) (List.append_assoc _ _ _) (fun k => ⟨hfi _ _ (by omega), hfl _ _ (by omega), by (repeat rw [up2_row _ _ (by omega)]); exact hfr _ _ (by omega)⟩) ?_
  refine Rn.putA k_13 rfl rfl (cl_at (k := 0) hT rfl) ?_
  refine Rn.aload_n k_13 rfl rfl ?_
  refine Rn.bipush (40) k_13 rfl rfl ?_
  refine Rn.newaZ 40 619 (T ++ [(10, 60), (100, 1200), (100, 1200), (100, 600), (100, 600), (100, 10), (100, 10), (100, 10), (100, 80), (100, 80), (100, 40), (100, 40), (100, 40), (100, 40), (100, 40), (100, 40)]) k_13 rfl rfl (by decide) (cl_len hT) (List.append_assoc _ _ _) (fun k => ⟨hfi _ _ (by omega), hfl _ _ (by omega), by (repeat rw [up2_row _ _ (by omega)]); exact hfr _ _ (by omega)⟩) ?_
  refine Rn.putA k_13 rfl rfl (cl_at (k := 0) hT rfl) ?_
  refine Rn.aload_n k_13 rfl rfl ?_
  refine Rn.bipush (40) k_13 rfl rfl ?_
  refine Rn.newaZ 40 620 (T ++ [(10, 60), (100, 1200), (100, 1200), (100, 600), (100, 600), (100, 10), (100, 10), (100, 10), (100, 80), (100, 80), (100, 40), (100, 40), (100, 40), (100, 40), (100, 40), (100, 40), (100, 40)]) k_13 rfl rfl (by decide) (cl_len hT) (List.append_assoc _ _ _) (fun k => ⟨hfi _ _ (by omega), hfl _ _ (by omega), by (repeat rw [up2_row _ _ (by omega)]); exact hfr _ _ (by omega)⟩) ?_
  refine Rn.putA k_13 rfl rfl (cl_at (k := 0) hT rfl) ?_
  refine Rn.aload_n k_13 rfl rfl ?_
  refine Rn.bipush (40) k_13 rfl rfl ?_
  refine Rn.newaZ 40 621 (T ++ [(10, 60), (100, 1200), (100, 1200), (100, 600), (100, 600), (100, 10), (100, 10), (100, 10), (100, 80), (100, 80), (100, 40), (100, 40), (100, 40), (100, 40), (100, 40), (100, 40), (100, 40), (103, 40)]) k_13 rfl rfl (by decide) (cl_len hT) (List.append_assoc _ _ _) (fun k => ⟨hfi _ _ (by omega), hfl _ _ (by omega), by (repeat rw [up2_row _ _ (by omega)]); exact hfr _ _ (by omega)⟩) ?_
  refine Rn.putA k_13 rfl rfl (cl_at (k := 0) hT rfl) ?_
  refine Rn.aload_n k_13 rfl rfl ?_
  refine Rn.bipush (40) k_13 rfl rfl ?_
  refine Rn.newaZ 40 622 (T ++ [(10, 60), (100, 1200), (100, 1200), (100, 600), (100, 600), (100, 10), (100, 10), (100, 10), (100, 80), (100, 80), (100, 40), (100, 40), (100, 40), (100, 40), (100, 40), (100, 40), (100, 40), (103, 40), (100, 40)]) k_13 rfl rfl (by decide) (cl_len hT) (List.append_assoc _ _ _) (fun k => ⟨hfi _ _ (by omega), hfl _ _ (by omega), by (repeat rw [up2_row _ _ (by omega)]); exact hfr _ _ (by omega)⟩) ?_
  refine Rn.putA k_13 rfl rfl (cl_at (k := 0) hT rfl) ?_
  refine Rn.aload_n k_13 rfl rfl ?_
  refine Rn.sipush (320) k_13 rfl rfl ?_
  refine Rn.newaZ 320 623 (T ++ [(10, 60), (100, 1200), (100, 1200), (100, 600), (100, 600), (100, 10), (100, 10), (100, 10), (100, 80), (100, 80), (100, 40), (100, 40), (100, 40), (100, 40), (100, 40), (100, 40), (100, 40), (103, 40), (100, 40), (100, 320)]) k_13 rfl rfl (by decide) (cl_len hT) (List.append_assoc _ _ _) (fun k => ⟨hfi _ _ (by omega), hfl _ _ (by omega), by (repeat rw [up2_row _ _ (by omega)]); exact hfr _ _ (by omega)⟩) ?_
  refine Rn.putA k_13 rfl rfl (cl_at (k := 0) hT rfl) ?_
  refine Rn.aload_n k_13 rfl rfl ?_
  refine Rn.sipush (320) k_13 rfl rfl ?_
  refine Rn.newaZ 320 624 (T ++ [(10, 60), (100, 1200), (100, 1200), (100, 600), (100, 600), (100, 10), (100, 10), (100, 10), (100, 80), (100, 80), (100, 40), (100, 40), (100, 40), (100, 40), (100, 40), (100, 40), (100, 40), (103, 40), (100, 40), (100, 320), (100, 320)]) k_13 rfl rfl (by decide) (cl_len hT) (List.append_assoc _ _ _) (fun k => ⟨hfi _ _ (by omega), hfl _ _ (by omega), by (repeat rw [up2_row _ _ (by omega)]); exact hfr _ _ (by omega)⟩) ?_
  refine Rn.putA k_13 rfl rfl (cl_at (k := 0) hT rfl) ?_
  refine Rn.aload_n k_13 rfl rfl ?_
  refine Rn.bipush (40) k_13 rfl rfl ?_
  refine Rn.newaZ 40 625 (T ++ [(10, 60), (100, 1200), (100, 1200), (100, 600), (100, 600), (100, 10), (100, 10), (100, 10), (100, 80), (100, 80), (100, 40), (100, 40), (100, 40), (100, 40), (100, 40), (100, 40), (100, 40), (103, 40), (100, 40), (100, 320), (100, 320), (100, 40)]) k_13 rfl rfl (by decide) (cl_len hT) (List.append_assoc _ _ _) (fun k => ⟨hfi _ _ (by omega), hfl _ _ (by omega), by (repeat rw [up2_row _ _ (by omega)]); exact hfr _ _ (by omega)⟩) ?_
  refine Rn.putA k_13 rfl rfl (cl_at (k := 0) hT rfl) ?_
  refine Rn.aload_n k_13 rfl rfl ?_
  refine Rn.sipush (160) k_13 rfl rfl ?_
  refine Rn.newaZ 160 626 (T ++ [(10, 60), (100, 1200), (100, 1200), (100, 600), (100, 600), (100, 10), (100, 10), (100, 10), (100, 80), (100, 80), (100, 40), (100, 40), (100, 40), (100, 40), (100, 40), (100, 40), (100, 40), (103, 40), (100, 40), (100, 320), (100, 320), (100, 40), (100, 160)]) k_13 rfl rfl (by decide) (cl_len hT) (List.append_assoc _ _ _) (fun k => ⟨hfi _ _ (by omega), hfl _ _ (by omega), by (repeat rw [up2_row _ _ (by omega)]); exact hfr _ _ (by omega)⟩) ?_
  refine Rn.putA k_13 rfl rfl (cl_at (k := 0) hT rfl) ?_
  refine Rn.aload_n k_13 rfl rfl ?_
  refine Rn.sipush (160) k_13 rfl rfl ?_
  refine Rn.newaZ 160 627 (T ++ [(10, 60), (100, 1200), (100, 1200), (100, 600), (100, 600), (100, 10), (100, 10), (100, 10), (100, 80), (100, 80), (100, 40), (100, 40), (100, 40), (100, 40), (100, 40), (100, 40), (100, 40), (103, 40), (100, 40), (100, 320), (100, 320), (100, 40), (100, 160), (100, 160)]) k_13 rfl rfl (by decide) (cl_len hT) (List.append_assoc _ _ _) (fun k => ⟨hfi _ _ (by omega), hfl _ _ (by omega), by (repeat rw [up2_row _ _ (by omega)]); exact hfr _ _ (by omega)⟩) ?_
  refine Rn.putA k_13 rfl rfl (cl_at (k := 0) hT rfl) ?_
  refine Rn.aload_n k_13 rfl rfl ?_
  refine Rn.sipush (160) k_13 rfl rfl ?_
  refine Rn.newaZ 160 628 (T ++ [(10, 60), (100, 1200), (100, 1200), (100, 600), (100, 600), (100, 10), (100, 10), (100, 10), (100, 80), (100, 80), (100, 40), (100, 40), (100, 40), (100, 40), (100, 40), (100, 40), (100, 40), (103, 40), (100, 40), (100, 320), (100, 320), (100, 40), (100, 160), (100, 160), (100, 160)]) k_13 rfl rfl (by decide) (cl_len hT) (List.append_assoc _ _ _) (fun k => ⟨hfi _ _ (by omega), hfl _ _ (by omega), by (repeat rw [up2_row _ _ (by omega)]); exact hfr _ _ (by omega)⟩) ?_
  refine Rn.putA k_13 rfl rfl (cl_at (k := 0) hT rfl) ?_
  refine Rn.aload_n k_13 rfl rfl ?_
  refine Rn.sipush (960) k_13 rfl rfl ?_
  refine Rn.newaZ 960 629 (T ++ [(10, 60), (100, 1200), (100, 1200), (100, 600), (100, 600), (100, 10), (100, 10), (100, 10), (100, 80), (100, 80), (100, 40), (100, 40), (100, 40), (100, 40), (100, 40), (100, 40), (100, 40), (103, 40), (100, 40), (100, 320), (100, 320), (100, 40), (100, 160), (100, 160), (100, 160), (100, 960)]) k_13 rfl rfl (by decide) (cl_len hT) (List.append_assoc _ _ _) (fun k => ⟨hfi _ _ (by omega), hfl _ _ (by omega), by (repeat rw [up2_row _ _ (by omega)]); exact hfr _ _ (by omega)⟩) ?_
  refine Rn.putA k_13 rfl rfl (cl_at (k := 0) hT rfl) ?_
  refine Rn.aload_n k_13 rfl rfl ?_
  refine Rn.sipush (960) k_13 rfl rfl ?_
  refine Rn.newaZ 960 630 (T ++ [(10, 60), (100, 1200), (100, 1200), (100, 600), (100, 600), (100, 10), (100, 10), (100, 10), (100, 80), (100, 80), (100, 40), (100, 40), (100, 40), (100, 40), (100, 40), (100, 40), (100, 40), (103, 40), (100, 40), (100, 320), (100, 320), (100, 40), (100, 160), (100, 160), (100, 160), (100, 960), (100, 960)]) k_13 rfl rfl (by decide) (cl_len hT) (List.append_assoc _ _ _) (fun k => ⟨hfi _ _ (by omega), hfl _ _ (by omega), by (repeat rw [up2_row _ _ (by omega)]); exact hfr _ _ (by omega)⟩) ?_
  refine Rn.putA k_13 rfl rfl (cl_at (k := 0) hT rfl) ?_
  refine Rn.aload_n k_13 rfl rfl ?_
  refine Rn.bipush (120) k_13 rfl rfl ?_
  refine Rn.newaZ 120 631 (T ++ [(10, 60), (100, 1200), (100, 1200), (100, 600), (100, 600), (100, 10), (100, 10), (100, 10), (100, 80), (100, 80), (100, 40), (100, 40), (100, 40), (100, 40), (100, 40), (100, 40), (100, 40), (103, 40), (100, 40), (100, 320), (100, 320), (100, 40), (100, 160), (100, 160), (100, 160), (100, 960), (100, 960), (100, 120)]) k_13 rfl rfl (by decide) (cl_len hT) (List.append_assoc _ _ _) (fun k => ⟨hfi _ _ (by omega), hfl _ _ (by omega), by (repeat rw [up2_row _ _ (by omega)]); exact hfr _ _ (by omega)⟩) ?_
  refine Rn.putA k_13 rfl rfl (cl_at (k := 0) hT rfl) ?_
  refine Rn.aload_n k_13 rfl rfl ?_
  refine Rn.bipush (120) k_13 rfl rfl ?_
  refine Rn.newaZ 120 632 (T ++ [(10, 60), (100, 1200), (100, 1200), (100, 600), (100, 600), (100, 10), (100, 10), (100, 10), (100, 80), (100, 80), (100, 40), (100, 40), (100, 40), (100, 40), (100, 40), (100, 40), (100, 40), (103, 40), (100, 40), (100, 320), (100, 320), (100, 40), (100, 160), (100, 160), (100, 160), (100, 960), (100, 960), (100, 120), (100, 120)]) k_13 rfl rfl (by decide) (cl_len hT) (List.append_assoc _ _ _) (fun k => ⟨hfi _ _ (by omega), hfl _ _ (by omega), by (repeat rw [up2_row _ _ (by omega)]); exact hfr _ _ (by omega)⟩) ?_
  refine Rn.putA k_13 rfl rfl (cl_at (k := 0) hT rfl) ?_
  refine Rn.aload_n k_13 rfl rfl ?_
  refine Rn.sipush (140) k_13 rfl rfl ?_
  refine Rn.newaZ 140 633 (T ++ [(10, 60), (100, 1200), (100, 1200), (100, 600), (100, 600), (100, 10), (100, 10), (100, 10), (100, 80), (100, 80), (100, 40), (100, 40), (100, 40), (100, 40), (100, 40), (100, 40), (100, 40), (103, 40), (100, 40), (100, 320), (100, 320), (100, 40), (100, 160), (100, 160), (100, 160), (100, 960), (100, 960), (100, 120), (100, 120), (100, 140)]) k_13 rfl rfl (by decide) (cl_len hT) (List.append_assoc _ _ _) (fun k => ⟨hfi _ _ (by omega), hfl _ _ (by omega), by (repeat rw [up2_row _ _ (by omega)]); exact hfr _ _ (by omega)⟩) ?_
  refine Rn.putA k_13 rfl rfl (cl_at (k := 0) hT rfl) ?_
  refine Rn.aload_n k_13 rfl rfl ?_
  refine Rn.bipush (121) k_13 rfl rfl ?_
  refine Rn.newaZ 121 634 (T ++ [(10, 60), (100, 1200), (100, 1200), (100, 600), (100, 600), (100, 10), (100, 10), (100, 10), (100, 80), (100, 80), (100, 40), (100, 40), (100, 40), (100, 40), (100, 40), (100, 40), (100, 40), (103, 40), (100, 40), (100, 320), (100, 320), (100, 40), (100, 160), (100, 160), (100, 160), (100, 960), (100, 960), (100, 120), (100, 120), (100, 140), (100, 121)]) k_13 rfl rfl (by decide) (cl_len hT) (List.append_assoc _ _ _) (fun k => ⟨hfi _ _ (by omega), hfl _ _ (by omega), by (repeat rw [up2_row _ _ (by omega)]); exact hfr _ _ (by omega)⟩) ?_
  refine Rn.putA k_13 rfl rfl (cl_at (k := 0) hT rfl) ?_
  refine Rn.aload_n k_13 rfl rfl ?_
  refine Rn.bipush (121) k_13 rfl rfl ?_
  refine Rn.newaZ 121 635 (T ++ [(10, 60), (100, 1200), (100, 1200), (100, 600), (100, 600), (100, 10), (100, 10), (100, 10), (100, 80), (100, 80), (100, 40), (100, 40), (100, 40), (100, 40), (100, 40), (100, 40), (100, 40), (103, 40), (100, 40), (100, 320), (100, 320), (100, 40), (100, 160), (100, 160), (100, 160), (100, 960), (100, 960), (100, 120), (100, 120), (100, 140), (100, 121), (100, 121)]) k_13 rfl rfl (by decide) (cl_len hT) (List.append_assoc _ _ _) (fun k => ⟨hfi _ _ (by omega), hfl _ _ (by omega), by (repeat rw [up2_row _ _ (by omega)]); exact hfr _ _ (by omega)⟩) ?_
  refine Rn.putA k_13 rfl rfl (cl_at (k := 0) hT rfl) ?_
  refine Rn.aload_n k_13 rfl rfl ?_
  refine Rn.bipush (121) k_13 rfl rfl ?_
  refine Rn.newaZ 121 636 (T ++ [(10, 60), (100, 1200), (100, 1200), (100, 600), (100, 600), (100, 10), (100, 10), (100, 10), (100, 80), (100, 80), (100, 40), (100, 40), (100, 40), (100, 40), (100, 40), (100, 40), (100, 40), (103, 40), (100, 40), (100, 320), (100, 320), (100, 40), (100, 160), (100, 160), (100, 160), (100, 960), (100, 960), (100, 120), (100, 120), (100, 140), (100, 121), (100, 121), (100, 121)]) k_13 rfl rfl (by decide) (cl_len hT) (List.append_assoc _ _ _) (fun k => ⟨hfi _ _ (by omega), hfl _ _ (by omega), by (repeat rw [up2_row _ _ (by omega)]); exact hfr _ _ (by omega)⟩) ?_
  refine Rn.putA k_13 rfl rfl (cl_at (k := 0) hT rfl) ?_
  refine Rn.aload_n k_13 rfl rfl ?_
  refine Rn.bipush (121) k_13 rfl rfl ?_
  refine Rn.newaZ 121 637 (T ++ [(10, 60), (100, 1200), (100, 1200), (100, 600), (100, 600), (100, 10), (100, 10), (100, 10), (100, 80), (100, 80), (100, 40), (100, 40), (100, 40), (100, 40), (100, 40), (100, 40), (100, 40), (103, 40), (100, 40), (100, 320), (100, 320), (100, 40), (100, 160), (100, 160), (100, 160), (100, 960), (100, 960), (100, 120), (100, 120), (100, 140), (100, 121), (100, 121), (100, 121), (100, 121)]) k_13 rfl rfl (by decide) (cl_len hT) (List.append_assoc _ _ _) (fun k => ⟨hfi _ _ (by omega), hfl _ _ (by omega), by (repeat rw [up2_row _ _ (by omega)]); exact hfr _ _ (by omega)⟩) ?_
  refine Rn.putA k_13 rfl rfl (cl_at (k := 0) hT rfl) ?_
  refine Rn.aload_n k_13 rfl rfl ?_
  refine Rn.bipush (121) k_13 rfl rfl ?_
  refine Rn.newaZ 121 638 (T ++ [(10, 60), (100, 1200), (100, 1200), (100, 600), (100, 600), (100, 10), (100, 10), (100, 10), (100, 80), (100, 80), (100, 40), (100, 40), (100, 40), (100, 40), (100, 40), (100, 40), (100, 40), (103, 40), (100, 40), (100, 320), (100, 320), (100, 40), (100, 160), (100, 160), (100, 160), (100, 960), (100, 960), (100, 120), (100, 120), (100, 140), (100, 121), (100, 121), (100, 121), (100, 121), (100, 121)]) k_13 rfl rfl (by decide) (cl_len hT) (List.append_assoc _ _ _) (fun k => ⟨hfi _ _ (by omega), hfl _ _ (by omega), by (repeat rw [up2_row _ _ (by omega)]); exact hfr _ _ (by omega)⟩) ?_
  refine Rn.putA k_13 rfl rfl (cl_at (k := 0) hT rfl) ?_
  refine Rn.aload_n k_13 rfl rfl ?_
  refine Rn.bipush (121) k_13 rfl rfl ?_
  refine Rn.newaZ 121 639 (T ++ [(10, 60), (100, 1200), (100, 1200), (100, 600), (100, 600), (100, 10), (100, 10), (100, 10), (100, 80), (100, 80), (100, 40), (100, 40), (100, 40), (100, 40), (100, 40), (100, 40), (100, 40), (103, 40), (100, 40), (100, 320), (100, 320), (100, 40), (100, 160), (100, 160), (100, 160), (100, 960), (100, 960), (100, 120), (100, 120), (100, 140), (100, 121), (100, 121), (100, 121), (100, 121), (100, 121), (100, 121)]) k_13 rfl rfl (by decide) (cl_len hT) (List.append_assoc _ _ _) (fun k => ⟨hfi _ _ (by omega), hfl _ _ (by omega), by (repeat rw [up2_row _ _ (by omega)]); exact hfr _ _ (by omega)⟩) ?_
  refine Rn.putA k_13 rfl rfl (cl_at (k := 0) hT rfl) ?_
  refine Rn.aload_n k_13 rfl rfl ?_
  refine Rn.bipush (121) k_13 rfl rfl ?_
  refine Rn.newaZ 121 640 (T ++ [(10, 60), (100, 1200), (100, 1200), (100, 600), (100, 600), (100, 10), (100, 10), (100, 10), (100, 80), (100, 80), (100, 40), (100, 40), (100, 40), (100, 40), (100, 40), (100, 40), (100, 40), (103, 40), (100, 40), (100, 320), (100, 320), (100, 40), (100, 160), (100, 160), (100, 160), (100, 960), (100, 960), (100, 120), (100, 120), (100, 140), (100, 121), (100, 121), (100, 121), (100, 121), (100, 121), (100, 121), (100, 121)]) k_13 rfl rfl (by decide) (cl_len hT) (List.append_assoc _ _ _) (fun k => ⟨hfi _ _ (by omega), hfl _ _ (by omega), by (repeat rw [up2_row _ _ (by omega)]); exact hfr _ _ (by omega)⟩) ?_
  refine Rn.putA k_13 rfl rfl (cl_at (k := 0) hT rfl) ?_
  refine Rn.aload_n k_13 rfl rfl ?_
  refine Rn.bipush (121) k_13 rfl rfl ?_
  refine Rn.newaZ 121 641 (T ++ [(10, 60), (100, 1200), (100, 1200), (100, 600), (100, 600), (100, 10), (100, 10), (100, 10), (100, 80), (100, 80), (100, 40), (100, 40), (100, 40), (100, 40), (100, 40), (100, 40), (100, 40), (103, 40), (100, 40), (100, 320), (100, 320), (100, 40), (100, 160), (100, 160), (100, 160), (100, 960), (100, 960), (100, 120), (100, 120), (100, 140), (100, 121), (100, 121), (100, 121), (100, 121), (100, 121), (100, 121), (100, 121), (100, 121)]) k_13 rfl rfl (by decide) (cl_len hT) (List.append_assoc _ _ _) (fun k => ⟨hfi _ _ (by omega), hfl _ _ (by omega), by (repeat rw [up2_row _ _ (by omega)]); exact hfr _ _ (by omega)⟩) ?_
  refine Rn.putA k_13 rfl rfl (cl_at (k := 0) hT rfl) ?_
  refine Rn.aload_n k_13 rfl rfl ?_
  refine Rn.bipush (121) k_13 rfl rfl ?_
  refine Rn.newaZ 121 642 (T ++ [(10, 60), (100, 1200), (100, 1200), (100, 600), (100, 600), (100, 10), (100, 10), (100, 10), (100, 80), (100, 80), (100, 40), (100, 40), (100, 40), (100, 40), (100, 40), (100, 40), (100, 40), (103, 40), (100, 40), (100, 320), (100, 320), (100, 40), (100, 160), (100, 160), (100, 160), (100, 960), (100, 960), (100, 120), (100, 120), (100, 140), (100, 121), (100, 121), (100, 121), (100, 121), (100, 121), (100, 121), (100, 121), (100, 121), (100, 121)]) k_13 rfl rfl (by decide) (cl_len hT) (List.append_assoc _ _ _) (fun k => ⟨hfi _ _ (by omega), hfl _ _ (by omega), by (repeat rw [up2_row _ _ (by omega)]); exact hfr _ _ (by omega)⟩) ?_
  refine Rn.putA k_13 rfl rfl (cl_at (k := 0) hT rfl) ?_
  refine Rn.aload_n k_13 rfl rfl ?_
  refine Rn.bipush (121) k_13 rfl rfl ?_
  refine Rn.newaZ 121 643 (T ++ [(10, 60), (100, 1200), (100, 1200), (100, 600), (100, 600), (100, 10), (100, 10), (100, 10), (100, 80), (100, 80), (100, 40), (100, 40), (100, 40), (100, 40), (100, 40), (100, 40), (100, 40), (103, 40), (100, 40), (100, 320), (100, 320), (100, 40), (100, 160), (100, 160), (100, 160), (100, 960), (100, 960), (100, 120), (100, 120), (100, 140), (100, 121), (100, 121), (100, 121), (100, 121), (100, 121), (100, 121), (100, 121), (100, 121), (100, 121), (100, 121)]) k_13 rfl rfl (by decide) (cl_len hT) (List.append_assoc _ _ _) (fun k => ⟨hfi _ _ (by omega), hfl _ _ (by omega), by (repeat rw [up2_row _ _ (by omega)]); exact hfr _ _ (by omega)⟩) ?_
  refine Rn.putA k_13 rfl rfl (cl_at (k := 0) hT rfl) ?_
  refine Rn.aload_n k_13 rfl rfl ?_
  refine Rn.bipush (121) k_13 rfl rfl ?_
  refine Rn.newaZ 121 644 (T ++ [(10, 60), (100, 1200), (100, 1200), (100, 600), (100, 600), (100, 10), (100, 10), (100, 10), (100, 80), (100, 80), (100, 40), (100, 40), (100, 40), (100, 40), (100, 40), (100, 40), (100, 40), (103, 40), (100, 40), (100, 320), (100, 320), (100, 40), (100, 160), (100, 160), (100, 160), (100, 960), (100, 960), (100, 120), (100, 120), (100, 140), (100, 121), (100, 121), (100, 121), (100, 121), (100, 121), (100, 121), (100, 121), (100, 121), (100, 121), (100, 121), (100, 121)]) k_13 rfl rfl (by decide) (cl_len hT) (List.append_assoc _ _ _) (fun k => ⟨hfi _ _ (by omega), hfl _ _ (by omega), by (repeat rw [up2_row _ _ (by omega)]); exact hfr _ _ (by omega)⟩) ?_
  refine Rn.putA k_13 rfl rfl (cl_at (k := 0) hT rfl) ?_
  refine Rn.aload_n k_13 rfl rfl ?_
  refine Rn.bipush (121) k_13 rfl rfl ?_
  refine Rn.newaZ 121 645 (T ++ [(10, 60), (100, 1200), (100, 1200), (100, 600), (100, 600), (100, 10), (100, 10), (100, 10), (100, 80), (100, 80), (100, 40), (100, 40), (100, 40), (100, 40), (100, 40), (100, 40), (100, 40), (103, 40), (100, 40), (100, 320), (100, 320), (100, 40), (100, 160), (100, 160), (100, 160), (100, 960), (100, 960), (100, 120), (100, 120), (100, 140), (100, 121), (100, 121), (100, 121), (100, 121), (100, 121), (100, 121), (100, 121), (100, 121), (100, 121), (100, 121), (100, 121), (100, 121)]) k_13 rfl rfl (by decide) (cl_len hT) (List.append_assoc _ _ _) (fun k => ⟨hfi _ _ (by omega), hfl _ _ (by omega), by (repeat rw [up2_row _ _ (by omega)]); exact hfr _ _ (by omega)⟩) ?_
  refine Rn.putA k_13 rfl rfl (cl_at (k := 0) hT rfl) ?_
  refine Rn.aload_n k_13 rfl rfl ?_
  refine Rn.sipush (130) k_13 rfl rfl ?_
  refine Rn.newaZ 130 646 (T ++ [(10, 60), (100, 1200), (100, 1200), (100, 600), (100, 600), (100, 10), (100, 10), (100, 10), (100, 80), (100, 80), (100, 40), (100, 40), (100, 40), (100, 40), (100, 40), (100, 40), (100, 40), (103, 40), (100, 40), (100, 320), (100, 320), (100, 40), (100, 160), (100, 160), (100, 160), (100, 960), (100, 960), (100, 120), (100, 120), (100, 140), (100, 121), (100, 121), (100, 121), (100, 121), (100, 121), (100, 121), (100, 121), (100, 121), (100, 121), (100, 121), (100, 121), (100, 121), (100, 130)]) k_13 rfl rfl (by decide) (cl_len hT) (List.append_assoc _ _ _) (fun k => ⟨hfi _ _ (by omega), hfl _ _ (by omega), by (repeat rw [up2_row _ _ (by omega)]); exact hfr _ _ (by omega)⟩) ?_
  refine Rn.putA k_13 rfl rfl (cl_at (k := 0) hT rfl) ?_
  refine Rn.aload_n k_13 rfl rfl ?_
  refine Rn.sipush (130) k_13 rfl rfl ?_
  refine Rn.newaZ 130 647 (T ++ [(10, 60), (100, 1200), (100, 1200), (100, 600), (100, 600), (100, 10), (100, 10), (100, 10), (100, 80), (100, 80), (100, 40), (100, 40), (100, 40), (100, 40), (100, 40), (100, 40), (100, 40), (103, 40), (100, 40), (100, 320), (100, 320), (100, 40), (100, 160), (100, 160), (100, 160), (100, 960), (100, 960), (100, 120), (100, 120), (100, 140), (100, 121), (100, 121), (100, 121), (100, 121), (100, 121), (100, 121), (100, 121), (100, 121), (100, 121), (100, 121), (100, 121), (100, 121), (100, 130), (103, 130)]) k_13 rfl rfl (by decide) (cl_len hT) (List.append_assoc _ _ _) (fun k => ⟨hfi _ _ (by omega), hfl _ _ (by omega), by (repeat rw [up2_row _ _ (by omega)]); exact hfr _ _ (by omega)⟩) ?_
  refine Rn.putA k_13 rfl rfl (cl_at (k := 0) hT rfl) ?_
  refine Rn.retv k_13 rfl q_13 rfl ?_
  refine ⟨rfl, _, rfl, fun q hq => ?_, fun c k hc => ?_⟩
  · simp only [FRlB, FRl, List.drop, List.mem_cons, List.not_mem_nil, or_false] at hq
    rcases hq with rfl | rfl | rfl | rfl | rfl | rfl | rfl | rfl | rfl | rfl | rfl | rfl | rfl | rfl | rfl | rfl | rfl | rfl | rfl | rfl | rfl | rfl | rfl | rfl | rfl | rfl | rfl | rfl | rfl | rfl | rfl | rfl | rfl | rfl | rfl | rfl | rfl | rfl | rfl | rfl | rfl | rfl | rfl
    all_goals rfl
  · (repeat rw [up2_row _ _ (by omega)])
end CT
