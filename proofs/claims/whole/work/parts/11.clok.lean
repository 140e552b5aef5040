/-! what the tables say of the classes, by the kernel -/
theorem at_in_all {l : List Cond} (h : l.all at_in = true) : ∀ w ∈ l, w ∈ am_ws := fun w hw => at_in_ok (List.all_eq_true.mp h w hw)
theorem ck_cl0 : at_clok 0 ("TestFinder", cl_T0, 6) := ⟨at_in_all (by decide +kernel), by decide +kernel, by decide +kernel, at_in_ok (by decide +kernel), at_in_ok (by decide +kernel)⟩
theorem ck_cl1 : at_clok 1 ("TestFinder$Tape", cl_T1, 2) := ⟨at_in_all (by decide +kernel), by decide +kernel, by decide +kernel, at_in_ok (by decide +kernel), at_in_ok (by decide +kernel)⟩
theorem ck_cl2 : at_clok 2 ("TestFinder$Script", cl_T2, 7) := ⟨at_in_all (by decide +kernel), by decide +kernel, by decide +kernel, at_in_ok (by decide +kernel), at_in_ok (by decide +kernel)⟩
theorem ck_cl3 : at_clok 3 ("TestFinder$NameRow", cl_T3, 2) := ⟨at_in_all (by decide +kernel), by decide +kernel, by decide +kernel, at_in_ok (by decide +kernel), at_in_ok (by decide +kernel)⟩
theorem ck_cl4 : at_clok 4 ("TestFinder$Case", cl_T4, 15) := ⟨at_in_all (by decide +kernel), by decide +kernel, by decide +kernel, at_in_ok (by decide +kernel), at_in_ok (by decide +kernel)⟩
theorem ck_cl5 : at_clok 5 ("TestFinder$ScriptReader", cl_T5, 4) := ⟨at_in_all (by decide +kernel), by decide +kernel, by decide +kernel, at_in_ok (by decide +kernel), at_in_ok (by decide +kernel)⟩
theorem ck_cl6 : at_clok 6 ("TestFinder$Words", cl_T6, 4) := ⟨at_in_all (by decide +kernel), by decide +kernel, by decide +kernel, at_in_ok (by decide +kernel), at_in_ok (by decide +kernel)⟩
theorem ck_cl7 : at_clok 7 ("TestFinder$FilterReader", cl_T7, 5) := ⟨at_in_all (by decide +kernel), by decide +kernel, by decide +kernel, at_in_ok (by decide +kernel), at_in_ok (by decide +kernel)⟩
theorem ck_cl8 : at_clok 8 ("TestFinder$Filter", cl_T8, 5) := ⟨at_in_all (by decide +kernel), by decide +kernel, by decide +kernel, at_in_ok (by decide +kernel), at_in_ok (by decide +kernel)⟩
theorem ck_cl9 : at_clok 9 ("TestFinder$TestName", cl_T9, 2) := ⟨at_in_all (by decide +kernel), by decide +kernel, by decide +kernel, at_in_ok (by decide +kernel), at_in_ok (by decide +kernel)⟩
theorem ck_cl10 : at_clok 10 ("TestFinderModel", cl_T10, 60) := ⟨at_in_all (by decide +kernel), by decide +kernel, by decide +kernel, at_in_ok (by decide +kernel), at_in_ok (by decide +kernel)⟩
theorem ck_cl : ∀ (ci : Nat) (r : vw_C), vwCl[ci]? = some r → at_clok ci r := by
  intro ci r h
  match ci, h with
  | 0, h => cases h; exact ck_cl0
  | 1, h => cases h; exact ck_cl1
  | 2, h => cases h; exact ck_cl2
  | 3, h => cases h; exact ck_cl3
  | 4, h => cases h; exact ck_cl4
  | 5, h => cases h; exact ck_cl5
  | 6, h => cases h; exact ck_cl6
  | 7, h => cases h; exact ck_cl7
  | 8, h => cases h; exact ck_cl8
  | 9, h => cases h; exact ck_cl9
  | 10, h => cases h; exact ck_cl10
  | k + 11, h => simp [vwCl] at h
