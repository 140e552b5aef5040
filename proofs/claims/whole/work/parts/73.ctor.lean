/-! CONSTRUCTORS: the rules, and the small ones -/
section CZ
variable {d mid pc : Nat} {l : am_L} {r : List Value} {sh : List (Nat × Nat)} {fi : Nat → Nat → Int32} {fl : Nat → Nat → Int64} {fr : Nat → Nat → Option Nat} {Q : Option Value → am_H → Prop} {c : am_C}
theorem am_born_z {tag n : Nat} (hz : ∀ k, fi sh.length k = 0 ∧ fl sh.length k = 0 ∧ fr sh.length k = none) : am_born (sh, fi, fl, fr) tag n = (sh ++ [(tag, n)], fi, fl, fr) := by
  have e1 : (fun i j => if i = sh.length then 0 else fi i j) = fi := by
    funext i j
    by_cases h : i = sh.length
    · rw [if_pos h, h]; exact (hz j).1.symm
    · rw [if_neg h]
  have e2 : (fun i j => if i = sh.length then 0 else fl i j) = fl := by
    funext i j
    by_cases h : i = sh.length
    · rw [if_pos h, h]; exact (hz j).2.1.symm
    · rw [if_neg h]
  have e3 : (fun i j => if i = sh.length then none else fr i j) = fr := by
    funext i j
    by_cases h : i = sh.length
    · rw [if_pos h, h]; exact (hz j).2.2.symm
    · rw [if_neg h]
  show (sh ++ [(tag, n)], (fun i j => if i = sh.length then 0 else fi i j), (fun i j => if i = sh.length then 0 else fl i j), (fun i j => if i = sh.length then none else fr i j)) = _
  rw [e1, e2, e3]
theorem Rn.newZ {ix ci n : Nat} (b : Nat) (sh2 : List (Nat × Nat)) (hc : am_code mid = c) (hf : am_find c pc = some (.new ix, ci, n)) (hb : sh.length = b) (hs : sh ++ [(ci, n)] = sh2) (hz : ∀ k, fi b k = 0 ∧ fl b k = 0 ∧ fr b k = none) (kk : Rn d mid (pc + 3) l (.ref b :: r) (sh2, fi, fl, fr) Q) : Rn d mid pc l r (sh, fi, fl, fr) Q := by
  subst hb
  subst hs
  refine Rn.go hc hf rfl ?_ kk
  show some (pc + 3, l, Value.ref sh.length :: r, am_born (sh, fi, fl, fr) ci n) = _
  rw [am_born_z hz]
theorem Rn.newaZ {t : ArrayType} {r1 r2 : Nat} {x : Int32} (n b : Nat) (sh2 : List (Nat × Nat)) (hc : am_code mid = c) (hf : am_find c pc = some (.newarray t, r1, r2)) (hx : x = nI n) (hn : n ≤ 65535) (hb : sh.length = b) (hs : sh ++ [(am_atag t, n)] = sh2) (hz : ∀ k, fi b k = 0 ∧ fl b k = 0 ∧ fr b k = none) (kk : Rn d mid (pc + 2) l (.ref b :: r) (sh2, fi, fl, fr) Q) : Rn d mid pc l (.int x :: r) (sh, fi, fl, fr) Q := by
  subst hb
  subst hs
  subst hx
  refine Rn.go hc hf rfl ?_ kk
  show am_newa pc l (.int (nI n) :: r) (sh, fi, fl, fr) (am_atag t) 2 = _
  unfold am_newa
  have e : decide (0 ≤ (nI n).toInt ∧ (nI n).toInt ≤ 65535) = true := by
    rw [nI_toInt (by omega)]
    exact decide_eq_true ⟨by omega, by omega⟩
  simp only [e, nI_clamp (show n < 2 ^ 31 by omega), am_born_z hz]
theorem Rn.anewZ {ix r1 r2 : Nat} {x : Int32} (n b : Nat) (sh2 : List (Nat × Nat)) (hc : am_code mid = c) (hf : am_find c pc = some (.anewarray ix, r1, r2)) (hx : x = nI n) (hn : n ≤ 65535) (hb : sh.length = b) (hs : sh ++ [(401 + r1, n)] = sh2) (hz : ∀ k, fi b k = 0 ∧ fl b k = 0 ∧ fr b k = none) (kk : Rn d mid (pc + 3) l (.ref b :: r) (sh2, fi, fl, fr) Q) : Rn d mid pc l (.int x :: r) (sh, fi, fl, fr) Q := by
  subst hb
  subst hs
  subst hx
  refine Rn.go hc hf rfl ?_ kk
  show am_newa pc l (.int (nI n) :: r) (sh, fi, fl, fr) (401 + r1) 3 = _
  unfold am_newa
  have e : decide (0 ≤ (nI n).toInt ∧ (nI n).toInt ≤ 65535) = true := by
    rw [nI_toInt (by omega)]
    exact decide_eq_true ⟨by omega, by omega⟩
  simp only [e, nI_clamp (show n < 2 ^ 31 by omega), am_born_z hz]
theorem Rn.aastore {r1 r2 a v n m tv : Nat} {i : Int32} (j : Nat) (hc : am_code mid = c) (hf : am_find c pc = some (.aastore, r1, r2)) (ha : sh[a]? = some (401 + tv, n)) (hv : sh[v]? = some (tv, m)) (h100 : tv < 100) (h16 : 16 ≤ v) (hi : i = nI j) (hj : j < n) (hn : n < 2 ^ 31) (kk : Rn d mid (pc + 1) l r (sh, fi, fl, up2 fr a j (some v)) Q) : Rn d mid pc l (.ref v :: .int i :: .ref a :: r) (sh, fi, fl, fr) Q := by
  subst hi
  refine Rn.go hc hf rfl ?_ kk
  show am_aast pc l (.ref v :: .int (nI j) :: .ref a :: r) (sh, fi, fl, fr) = _
  unfold am_aast
  simp only [ha, hv, am_inb hj hn, decide_eq_true (show 401 + tv = 401 + tv ∧ tv < 100 ∧ 16 ≤ v from ⟨rfl, h100, h16⟩), nI_clamp (show j < 2 ^ 31 by omega)]
  rw [decide_eq_true (show True ∧ tv < 100 ∧ 16 ≤ v from ⟨trivial, h100, h16⟩)]
end CZ
section CM
variable {d mid pc : Nat} {l : am_L} {h : am_H} {Q : Option Value → am_H → Prop} {c : am_C} {r1 r2 : Nat}
theorem Rn.cI1M {ix : Nat} {a : Nat} {rest : List Value} {q : am_M} {h2 : am_H} (hc : am_code mid = c) (hf : am_find c pc = some (.invokespecial ix, r1, r2)) (hk : am_kind (.invokespecial ix) r1 = 2) (hq : at_tab[r1]? = some q) (hn : q.2.2.2.2.1 = 1) (hcat : am_cat rest ≤ 8) (hml : (am_args [.ref a]).length ≤ q.2.2.1) (ct : Rn d r1 0 (am_ent q.2.2.1 [.ref a]) [] h (Ret h2 (none))) (k : Rn (d + 1) mid (pc + 3) l (rest) h2 Q) : Rn (d + 1) mid pc l (.ref a :: rest) h Q := Rn.cI1 hc hf hk hq hn hcat hml ct (fun v h' z => by obtain ⟨rfl, rfl⟩ := z; exact k)
theorem Rn.cI2M {ix : Nat} {a : Nat} {x1 : Value} {rest : List Value} {q : am_M} {h2 : am_H} (hc : am_code mid = c) (hf : am_find c pc = some (.invokespecial ix, r1, r2)) (hk : am_kind (.invokespecial ix) r1 = 2) (hq : at_tab[r1]? = some q) (hn : q.2.2.2.2.1 = 2) (hcat : am_cat rest ≤ 8) (hml : (am_args [.ref a, x1]).length ≤ q.2.2.1) (ct : Rn d r1 0 (am_ent q.2.2.1 [.ref a, x1]) [] h (Ret h2 (none))) (k : Rn (d + 1) mid (pc + 3) l (rest) h2 Q) : Rn (d + 1) mid pc l (x1 :: .ref a :: rest) h Q := Rn.cI2 hc hf hk hq hn hcat hml ct (fun v h' z => by obtain ⟨rfl, rfl⟩ := z; exact k)
end CM
theorem cl_len {T t : List (Nat × Nat)} {a : Nat} (hT : T.length = a) : (T ++ t).length = a + t.length := by rw [List.length_append, hT]
theorem cl_at {T t : List (Nat × Nat)} {a k : Nat} {v : Nat × Nat} (hT : T.length = a) (h : t[k]? = some v) : (T ++ t)[a + k]? = some v := by
  rw [List.getElem?_append_right (by omega), hT, Nat.add_sub_cancel_left]
  exact h
theorem cl_le {T t : List (Nat × Nat)} {a : Nat} {v : Nat × Nat} (h : T[a]? = some v) : (T ++ t)[a]? = some v := by
  rw [List.getElem?_append_left (by
    rcases Nat.lt_or_ge a T.length with z | z
    · exact z
    · rw [List.getElem?_eq_none z] at h; cases h)]
  exact h
section CT
variable {d a : Nat} {T sh : List (Nat × Nat)} {fi : Nat → Nat → Int32} {fl : Nat → Nat → Int64} {fr : Nat → Nat → Option Nat}
/-- a row of names: its codes come behind all that is there -/
theorem cz_row {b n : Nat} {sh2 : List (Nat × Nat)} (ha : sh[a]? = some (3, 2)) (hb : sh.length = b) (hs : sh ++ [(101, n)] = sh2) (hn : n ≤ 65535) (hz : ∀ k, fi b k = 0 ∧ fl b k = 0 ∧ fr b k = none) : Rn (d + 1) 97 0 [some (.ref a), some (.int (nI n))] [] (sh, fi, fl, fr) (Ret (sh2, fi, fl, up2 fr a 0 (some b)) none) := by
  have ha2 : sh2[a]? = some (3, 2) := by rw [← hs]; exact cl_le ha
  refine Rn.aload_n k_97 rfl rfl ?_
  refine Rn.obj0 k_97 rfl (Nat.le_of_ble_eq_true rfl) ?_
  refine Rn.aload_n k_97 rfl rfl ?_
  refine Rn.iload_n k_97 rfl rfl ?_
  refine Rn.if_ge 13 k_97 rfl rfl (fun h1 => ?_) (fun h1 => ?_)
  · refine Rn.iload_n k_97 rfl rfl ?_
    refine Rn.newaZ n b sh2 k_97 rfl rfl hn hb hs hz ?_
    refine Rn.putA k_97 rfl rfl ha2 ?_
    refine Rn.retv k_97 rfl q_97 rfl ?_
    exact ⟨rfl, rfl⟩
  · exact absurd ((c_ge 0 0 rfl (by omega) (by decide)).mpr (Nat.zero_le _)) h1
theorem cz_tape (hT : T.length = a) (h16 : 16 ≤ a) (hfi : ∀ c k, 16 ≤ c → fi c k = 0) (hfl : ∀ c k, 16 ≤ c → fl c k = 0) (hfr : ∀ c k, a < c → fr c k = none) : Rn (d + 1) 124 0 [some (.ref a)] [] (T ++ [(1, 2)], fi, fl, fr) (Ret (T ++ [(1, 2), (102, 1200)], fi, fl, up2 fr a 0 (some (a + 1))) none) := by
  refine Rn.aload_n k_124 rfl rfl ?_
  refine Rn.obj0 k_124 rfl (Nat.le_of_ble_eq_true rfl) ?_
  refine Rn.aload_n k_124 rfl rfl ?_
  refine Rn.sipush (1200) k_124 rfl rfl ?_
  refine Rn.newaZ 1200 (a + 1) (T ++ [(1, 2), (102, 1200)]) k_124 rfl rfl (by decide) (cl_len hT) (List.append_assoc _ _ _) (fun k => ⟨hfi _ _ (by omega), hfl _ _ (by omega), by (repeat rw [up2_row _ _ (by omega)]); exact hfr _ _ (by omega)⟩) ?_
  refine Rn.putA k_124 rfl rfl (cl_at (k := 0) hT rfl) ?_
  refine Rn.retv k_124 rfl q_124 rfl ?_
  exact ⟨rfl, rfl⟩
theorem cz_name (hT : T.length = a) (h16 : 16 ≤ a) (hfi : ∀ c k, 16 ≤ c → fi c k = 0) (hfl : ∀ c k, 16 ≤ c → fl c k = 0) (hfr : ∀ c k, a < c → fr c k = none) : Rn (d + 1) 127 0 [some (.ref a)] [] (T ++ [(9, 2)], fi, fl, fr) (Ret (T ++ [(9, 2), (102, 130)], fi, fl, up2 fr a 0 (some (a + 1))) none) := by
  refine Rn.aload_n k_127 rfl rfl ?_
  refine Rn.obj0 k_127 rfl (Nat.le_of_ble_eq_true rfl) ?_
  refine Rn.aload_n k_127 rfl rfl ?_
  refine Rn.sipush (130) k_127 rfl rfl ?_
  refine Rn.newaZ 130 (a + 1) (T ++ [(9, 2), (102, 130)]) k_127 rfl rfl (by decide) (cl_len hT) (List.append_assoc _ _ _) (fun k => ⟨hfi _ _ (by omega), hfl _ _ (by omega), by (repeat rw [up2_row _ _ (by omega)]); exact hfr _ _ (by omega)⟩) ?_
  refine Rn.putA k_127 rfl rfl (cl_at (k := 0) hT rfl) ?_
  refine Rn.retv k_127 rfl q_127 rfl ?_
  exact ⟨rfl, rfl⟩
theorem cz_filter (hT : T.length = a) (h16 : 16 ≤ a) (hfi : ∀ c k, 16 ≤ c → fi c k = 0) (hfl : ∀ c k, 16 ≤ c → fl c k = 0) (hfr : ∀ c k, a < c → fr c k = none) : Rn (d + 1) 76 0 [some (.ref a)] [] (T ++ [(8, 5)], fi, fl, fr) (Ret (T ++ [(8, 5), (102, 120), (101, 120), (101, 120), (103, 120)], fi, fl, up2 (up2 (up2 (up2 fr a 0 (some (a + 1))) a 1 (some (a + 2))) a 2 (some (a + 3))) a 3 (some (a + 4))) none) := by
  refine Rn.aload_n k_76 rfl rfl ?_
  refine Rn.obj0 k_76 rfl (Nat.le_of_ble_eq_true rfl) ?_
  refine Rn.aload_n k_76 rfl rfl ?_
  refine Rn.bipush (120) k_76 rfl rfl ?_
  refine Rn.newaZ 120 (a + 1) (T ++ [(8, 5), (102, 120)]) k_76 rfl rfl (by decide) (cl_len hT) (List.append_assoc _ _ _) (fun k => ⟨hfi _ _ (by omega), hfl _ _ (by omega), by (repeat rw [up2_row _ _ (by omega)]); exact hfr _ _ (by omega)⟩) ?_
  refine Rn.putA k_76 rfl rfl (cl_at (k := 0) hT rfl) ?_
  refine Rn.aload_n k_76 rfl rfl ?_
  refine Rn.bipush (120) k_76 rfl rfl ?_
  refine Rn.newaZ 120 (a + 2) (T ++ [(8, 5), (102, 120), (101, 120)]) k_76 rfl rfl (by decide) (cl_len hT) (List.append_assoc _ _ _) (fun k => ⟨hfi _ _ (by omega), hfl _ _ (by omega), by (repeat rw [up2_row _ _ (by omega)]); exact hfr _ _ (by omega)⟩) ?_
  refine Rn.putA k_76 rfl rfl (cl_at (k := 0) hT rfl) ?_
  refine Rn.aload_n k_76 rfl rfl ?_
  refine Rn.bipush (120) k_76 rfl rfl ?_
  refine Rn.newaZ 120 (a + 3) (T ++ [(8, 5), (102, 120), (101, 120), (101, 120)]) k_76 rfl rfl (by decide) (cl_len hT) (List.append_assoc _ _ _) (fun k => ⟨hfi _ _ (by omega), hfl _ _ (by omega), by (repeat rw [up2_row _ _ (by omega)]); exact hfr _ _ (by omega)⟩) ?_
  refine Rn.putA k_76 rfl rfl (cl_at (k := 0) hT rfl) ?_
  refine Rn.aload_n k_76 rfl rfl ?_
  refine Rn.bipush (120) k_76 rfl rfl ?_
  refine Rn.newaZ 120 (a + 4) (T ++ [(8, 5), (102, 120), (101, 120), (101, 120), (103, 120)]) k_76 rfl rfl (by decide) (cl_len hT) (List.append_assoc _ _ _) (fun k => ⟨hfi _ _ (by omega), hfl _ _ (by omega), by (repeat rw [up2_row _ _ (by omega)]); exact hfr _ _ (by omega)⟩) ?_
  refine Rn.putA k_76 rfl rfl (cl_at (k := 0) hT rfl) ?_
  refine Rn.retv k_76 rfl q_76 rfl ?_
  exact ⟨rfl, rfl⟩
theorem cz_words {x : Nat} (hT : T.length = a) (h16 : 16 ≤ a) (hfi : ∀ c k, 16 ≤ c → fi c k = 0) (hfl : ∀ c k, 16 ≤ c → fl c k = 0) (hfr : ∀ c k, a < c → fr c k = none) : Rn (d + 1) 132 0 [some (.ref a), some (.ref x)] [] (T ++ [(6, 4)], fi, fl, fr) (Ret (T ++ [(6, 4), (100, 600), (100, 600)], fi, fl, up2 (up2 (up2 fr a 0 (some (a + 1))) a 1 (some (a + 2))) a 3 (some x)) none) := by
  refine Rn.aload_n k_132 rfl rfl ?_
  refine Rn.obj0 k_132 rfl (Nat.le_of_ble_eq_true rfl) ?_
  refine Rn.aload_n k_132 rfl rfl ?_
  refine Rn.sipush (600) k_132 rfl rfl ?_
  refine Rn.newaZ 600 (a + 1) (T ++ [(6, 4), (100, 600)]) k_132 rfl rfl (by decide) (cl_len hT) (List.append_assoc _ _ _) (fun k => ⟨hfi _ _ (by omega), hfl _ _ (by omega), by (repeat rw [up2_row _ _ (by omega)]); exact hfr _ _ (by omega)⟩) ?_
  refine Rn.putA k_132 rfl rfl (cl_at (k := 0) hT rfl) ?_
  refine Rn.aload_n k_132 rfl rfl ?_
  refine Rn.sipush (600) k_132 rfl rfl ?_
  refine Rn.newaZ 600 (a + 2) (T ++ [(6, 4), (100, 600), (100, 600)]) k_132 rfl rfl (by decide) (cl_len hT) (List.append_assoc _ _ _) (fun k => ⟨hfi _ _ (by omega), hfl _ _ (by omega), by (repeat rw [up2_row _ _ (by omega)]); exact hfr _ _ (by omega)⟩) ?_
  refine Rn.putA k_132 rfl rfl (cl_at (k := 0) hT rfl) ?_
  refine Rn.aload_n k_132 rfl rfl ?_
  refine Rn.aload_n k_132 rfl rfl ?_
  refine Rn.putA k_132 rfl rfl (cl_at (k := 0) hT rfl) ?_
  refine Rn.retv k_132 rfl q_132 rfl ?_
  exact ⟨rfl, rfl⟩
end CT
