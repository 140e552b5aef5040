/-! count, test, letter, reason, find, judge of the class -/
section SW
variable {d mid pc : Nat} {l : am_L} {r : List Value} {h : am_H} {Q : Option Value → am_H → Prop} {c : am_C} {r1 r2 : Nat}
theorem Rn.tsw {df lo hi : Int} {offs : Array Int} {x : Int32} (t j : Nat) (hc : am_code mid = c) (hf : am_find c pc = some (.tableswitch df lo hi offs, r1, r2)) (hj : j < 2 ^ 31) (hx : x = nI j) (ht : (if (j : Int) < lo ∨ hi < (j : Int) then am_tg pc df else am_tg pc (offs.getD ((j : Int) - lo).toNat 0)) = t) (k : Rn d mid t l r h Q) : Rn d mid pc l (.int x :: r) h Q := by
  subst hx
  refine Rn.go hc hf rfl ?_ k
  show some (if (nI j).toInt < lo ∨ hi < (nI j).toInt then am_tg pc df else am_tg pc (offs.getD ((nI j).toInt - lo).toNat 0), l, r, h) = _
  rw [nI_toInt hj, ht]
theorem Rn.tswo {df lo hi : Int} {offs : Array Int} {x : Int32} (t : Nat) (hc : am_code mid = c) (hf : am_find c pc = some (.tableswitch df lo hi offs, r1, r2)) (hx : x.toInt < lo ∨ hi < x.toInt) (ht : am_tg pc df = t) (k : Rn d mid t l r h Q) : Rn d mid pc l (.int x :: r) h Q := by
  refine Rn.go hc hf rfl ?_ k
  show some (if x.toInt < lo ∨ hi < x.toInt then am_tg pc df else am_tg pc (offs.getD (x.toInt - lo).toNat 0), l, r, h) = _
  rw [if_pos hx, ht]
theorem Rn.lks {df : Int} {ps : Array (Int × Int)} {x : Int32} (t j : Nat) (hc : am_code mid = c) (hf : am_find c pc = some (.lookupswitch df ps, r1, r2)) (hj : j < 2 ^ 31) (hx : x = nI j) (ht : am_tg pc (Op.lookupswitch.offset ps.toList df (j : Int)) = t) (k : Rn d mid t l r h Q) : Rn d mid pc l (.int x :: r) h Q := by
  subst hx
  refine Rn.go hc hf rfl ?_ k
  show some (am_tg pc (Op.lookupswitch.offset ps.toList df (nI j).toInt), l, r, h) = _
  rw [nI_toInt hj, ht]
theorem lks_no {df k : Int} : ∀ {ps : List (Int × Int)}, (∀ q ∈ ps, q.1 ≠ k) → Op.lookupswitch.offset ps df k = df
  | [], _ => rfl
  | (a, o) :: ps, h => by
    rw [Op.lookupswitch.offset_cons, if_neg (h (a, o) (by simp))]
    exact lks_no (fun q hq => h q (List.mem_cons_of_mem _ hq))
theorem Rn.lkso {df : Int} {ps : Array (Int × Int)} {x : Int32} (t : Nat) (hc : am_code mid = c) (hf : am_find c pc = some (.lookupswitch df ps, r1, r2)) (hx : ∀ q ∈ ps.toList, q.1 ≠ x.toInt) (ht : am_tg pc df = t) (k : Rn d mid t l r h Q) : Rn d mid pc l (.int x :: r) h Q := by
  refine Rn.go hc hf rfl ?_ k
  show some (am_tg pc (Op.lookupswitch.offset ps.toList df x.toInt), l, r, h) = _
  rw [lks_no hx, ht]
end SW
/-- an int as a choice -/
def wt (x : Int32) : Nat := if x < 0 then 99 else x.toNatClampNeg
theorem wt_of (x : Int32) : (∃ j, j < 2 ^ 31 ∧ x = nI j ∧ wt x = j) ∨ (x < 0 ∧ wt x = 99 ∧ x.toInt < 0) := by
  by_cases h : x < 0
  · right
    refine ⟨h, if_pos h, ?_⟩
    have := Int32.lt_iff_toInt_lt.mp h
    simpa using this
  · left
    obtain ⟨j, hj, rfl⟩ := nI_of h
    exact ⟨j, hj, rfl, by unfold wt; rw [if_neg h, nI_clamp hj]⟩
/-- which case and which way a test is -/
def tix : List KS → Nat → Nat × Nat
  | [], t => (0, t)
  | k :: ks, t => if t < ways (k_ps k) then (0, t) else ((tix ks (t - ways (k_ps k))).1 + 1, (tix ks (t - ways (k_ps k))).2)
theorem tix_ok : ∀ (ks : List KS) (t : Nat), t < totW ks → (tix ks t).1 < ks.length ∧ (tix ks t).2 < ways (k_ps (ks.getD (tix ks t).1 dK)) ∧ totW (ks.take (tix ks t).1) + (tix ks t).2 = t
  | [], t, h => absurd h (Nat.not_lt_zero t)
  | k :: ks, t, h => by
    unfold tix
    have e : totW (k :: ks) = ways (k_ps k) + totW ks := by unfold totW; simp
    by_cases hl : t < ways (k_ps k)
    · rw [if_pos hl]
      exact ⟨by simp, hl, by show totW [] + t = t; exact Nat.zero_add t⟩
    · rw [if_neg hl]
      obtain ⟨i1, i2, i3⟩ := tix_ok ks (t - ways (k_ps k)) (by omega)
      refine ⟨by simp only [List.length_cons]; omega, ?_, ?_⟩
      · rw [List.getD_cons_succ]; exact i2
      · rw [List.take_succ_cons]
        have e2 : totW (k :: ks.take (tix ks (t - ways (k_ps k))).1) = ways (k_ps k) + totW (ks.take (tix ks (t - ways (k_ps k))).1) := by unfold totW; simp
        rw [e2]
        show ways (k_ps k) + _ + _ = t
        omega
def tno (A : AS) (x : Int32) : Option Nat := if x < 0 then none else if x.toNatClampNeg < totW A.2.1 then some x.toNatClampNeg else none
theorem tno_of (A : AS) (h : totW A.2.1 < 2 ^ 31) (x : Int32) : (tno A x = none ∧ decide (¬ x < 0 ∧ x < nI (totW A.2.1)) = false) ∨ ∃ t, t < totW A.2.1 ∧ x = nI t ∧ tno A x = some t ∧ decide (¬ x < 0 ∧ x < nI (totW A.2.1)) = true := by
  unfold tno
  by_cases h0 : x < 0
  · left
    rw [if_pos h0]
    exact ⟨rfl, decide_eq_false (fun z => z.1 h0)⟩
  · rw [if_neg h0]
    obtain ⟨j, hj, rfl⟩ := nI_of h0
    rw [nI_clamp hj]
    by_cases hl : j < totW A.2.1
    · right
      rw [if_pos hl]
      exact ⟨j, hl, rfl, rfl, decide_eq_true ⟨h0, (nI_ltI hj h).mpr hl⟩⟩
    · left
      rw [if_neg hl]
      exact ⟨rfl, decide_eq_false (fun z => hl ((nI_ltI hj h).mp z.2))⟩
/-- what is told of a test -/
def tstW (A : AS) (x y : Int32) : Int32 := match tno A x with
  | none => -1
  | some t => match wt y with
    | 0 => nI (tix A.2.1 t).1
    | 1 => nI (k_su (A.2.1.getD (tix A.2.1 t).1 dK)) - 1
    | 2 => nI (if k_sz (A.2.1.getD (tix A.2.1 t).1 dK) = 0 then 1 else k_sz (A.2.1.getD (tix A.2.1 t).1 dK))
    | 3 => bI (k_rs (A.2.1.getD (tix A.2.1 t).1 dK)).isSome
    | 4 => bI (k_fl (A.2.1.getD (tix A.2.1 t).1 dK))
    | 5 => nI (atg A.1 (A.2.1.getD (tix A.2.1 t).1 dK)).length
    | 6 => nI (k_ps (A.2.1.getD (tix A.2.1 t).1 dK)).length
    | 7 => nI (tnm A.1 (A.2.1.getD (tix A.2.1 t).1 dK) (tix A.2.1 t).2).length
    | 8 => nI (k_ln (A.2.1.getD (tix A.2.1 t).1 dK))
    | _ => -1
def cntW (A : AS) (y : Int32) : Int32 := match wt y with
  | 0 => nI A.1.length
  | 1 => nI A.2.1.length
  | 2 => nI (totW A.2.1)
  | _ => -1
def ltrW (A : AS) (x y : Int32) : Int32 := match tno A x with
  | none => -1
  | some t => if y < 0 then -1 else if y.toNatClampNeg < (tnm A.1 (A.2.1.getD (tix A.2.1 t).1 dK) (tix A.2.1 t).2).length then nI ((tnm A.1 (A.2.1.getD (tix A.2.1 t).1 dK) (tix A.2.1 t).2).getD y.toNatClampNeg 0) else -1
def rsnW (x : Nat → Nat) (A : AS) (t y : Int32) : Int32 := match tno A t with
  | none => -1
  | some t => match k_rs (A.2.1.getD (tix A.2.1 t).1 dK) with
    | none => -1
    | some r => if y < 0 then -1 else if y.toNatClampNeg < r.2 - r.1 then nI (x (r.1 + y.toNatClampNeg)) else -1
def jdgW (A : AS) (t y : Int32) : Int32 := match tno A t with
  | none => -1
  | some t => if (k_rs (A.2.1.getD (tix A.2.1 t).1 dK)).isSome = true then 3 else if k_fl (A.2.1.getD (tix A.2.1 t).1 dK) = true then (if y = 0 then 1 else 4) else (if y = 0 then 2 else 0)
/-- the first test from t on whose name is T, m tests being left -/
def fndW (A : AS) (T : List Nat) : Nat → Nat → Int32
  | 0, _ => -1
  | m + 1, t => if tnm A.1 (A.2.1.getD (tix A.2.1 t).1 dK) (tix A.2.1 t).2 = T then nI t else fndW A T m (t + 1)
section QY
variable {d L : Nat} {fi : Nat → Nat → Int32} {fl : Nat → Nat → Int64} {fr : Nat → Nat → Option Nat} {F G : Nat} {x : Nat → Nat} {n : Nat} {A : AS}
theorem tnm_len (hA : AOk n A) {i : Nat} (hi : i < A.2.1.length) (w : Nat) : (tnm A.1 (A.2.1.getD i dK) w).length ≤ 130 := by
  have hk := hA.k hi
  generalize A.2.1.getD i dK = k at hk
  have hps := hk.2.2.2.2.2.2.2.2.1
  have hnl := okV_len (okN_okV hk.2.1)
  have pl := psegs_len (w := w) (fun p hp => okN_okV (hk.2.2.2.2.2.2.2.2.2.1 p hp).1) (fun p hp => (vsel_ok hk w hp).1) _ (Nat.le_refl _)
  unfold tnm
  rw [List.length_append, List.length_append, List.length_append]
  have h1 : (if k_su k = 0 then [] else snm A.1 (k_su k) ++ [46]).length ≤ 13 := by
    split
    · exact Nat.zero_le _
    · rename_i h0
      have := okV_len (okN_okV (snm_ok hA hk.1 h0).1)
      rw [List.length_append]
      exact Nat.succ_le_succ this
  have h2 : (if (k_ps k).length = 0 then [] else [93]).length ≤ 1 := by split <;> simp
  omega
theorem isN_lt {c : Nat} (h : isN c = true) : c < 128 := by
  have := chr_dg h
  have hd := dg_lt c
  unfold chr at this
  split at this
  · omega
  · split at this <;> omega
theorem psegs_chr {ps : List (Nm × List Nm)} {w : Nat} (h1 : ∀ p ∈ ps, okV p.1 = true) (h2 : ∀ p, p < ps.length → okV (vsel ps w p) = true) : ∀ p, p ≤ ps.length → ∀ c ∈ psegs ps w p, c < 128
  | 0, _, c, hc => by cases hc
  | p + 1, h, c, hc => by
    rcases List.mem_append.mp hc with z | z
    · exact psegs_chr h1 h2 p (by omega) c z
    · have e1 : okV (ps.getD p ([], [])).1 = true := by
        refine h1 _ ?_
        rw [List.getD_eq_getElem?_getD, List.getElem?_eq_getElem (by omega)]
        exact List.getElem_mem _
      unfold pseg at z
      rcases List.mem_cons.mp z with z | z
      · rw [z]; split <;> decide
      · rcases List.mem_append.mp z with z | z
        · exact isN_lt (okV_isN e1 c z)
        · rcases List.mem_cons.mp z with z | z
          · rw [z]; decide
          · exact isN_lt (okV_isN (h2 p (by omega)) c z)
theorem tnm_chr (hA : AOk n A) {i : Nat} (hi : i < A.2.1.length) (w : Nat) : ∀ c ∈ tnm A.1 (A.2.1.getD i dK) w, c < 128 := by
  have hk := hA.k hi
  generalize A.2.1.getD i dK = k at hk
  intro c hc
  unfold tnm at hc
  rcases List.mem_append.mp hc with hc | hc
  · rcases List.mem_append.mp hc with hc | hc
    · rcases List.mem_append.mp hc with hc | hc
      · split at hc
        · cases hc
        · rename_i h0
          rcases List.mem_append.mp hc with hc | hc
          · exact isN_lt (okV_isN (okN_okV (snm_ok hA hk.1 h0).1) c hc)
          · rw [List.mem_singleton.mp hc]; decide
      · exact isN_lt (okV_isN (okN_okV hk.2.1) c hc)
    · exact psegs_chr (fun p hp => okN_okV (hk.2.2.2.2.2.2.2.2.2.1 p hp).1) (fun p hp => (vsel_ok hk w hp).1) _ (Nat.le_refl _) c hc
  · split at hc
    · cases hc
    · rw [List.mem_singleton.mp hc]; decide
theorem ct_count (hF : FRok F G fr) (hS : FSr fi fl x n A) {y : Int32} : Rn d 4 0 [some (.ref 16), some (.int y)] [] (SH L, fi, fl, fr) (Ret (SH L, fi, fl, fr) (some (.int (cntW A y)))) := by
  have hs : fi 21 1 = nI A.1.length := by rw [hS.2.1.1, List.length_map]
  have out : (y.toInt < 0 ∨ 2 < y.toInt) → cntW A y = -1 → Rn d 4 0 [some (.ref 16), some (.int y)] [] (SH L, fi, fl, fr) (Ret (SH L, fi, fl, fr) (some (.int (cntW A y)))) := by
    intro h1 h2
    refine Rn.iload_n k_4 rfl rfl ?_
    refine Rn.tswo 55 k_4 rfl (h1) rfl ?_
    refine Rn.iconst (-1) k_4 rfl rfl ?_
    refine Rn.reti k_4 rfl q_4 rfl (rfl) ?_
    exact ⟨by rw [h2], rfl⟩
  rcases wt_of y with ⟨j, hj, rfl, hw⟩ | ⟨h1, h2, h3⟩
  · match j, hj, hw, out with
    | 0, _, _, _ =>
      refine Rn.iload_n k_4 rfl rfl ?_
      refine Rn.tsw 28 (0) k_4 rfl (by decide) (rfl) rfl ?_
      refine Rn.aload_n k_4 rfl rfl ?_
      refine Rn.getA k_4 rfl rfl (s16 L) (hF.l 7 rfl) ?_
      refine Rn.getA k_4 rfl rfl (s19 L) (hF.l 4 rfl) ?_
      refine Rn.getI k_4 rfl rfl (s21 L) ?_
      rw [hs]
      refine Rn.reti k_4 rfl q_4 rfl (rfl) ?_
      exact ⟨rfl, rfl⟩
    | 1, _, _, _ =>
      refine Rn.iload_n k_4 rfl rfl ?_
      refine Rn.tsw 39 (1) k_4 rfl (by decide) (rfl) rfl ?_
      refine Rn.aload_n k_4 rfl rfl ?_
      refine Rn.getA k_4 rfl rfl (s16 L) (hF.l 7 rfl) ?_
      refine Rn.getI k_4 rfl rfl (s19 L) ?_
      rw [hS.2.2.1]
      refine Rn.reti k_4 rfl q_4 rfl (rfl) ?_
      exact ⟨rfl, rfl⟩
    | 2, _, _, _ =>
      refine Rn.iload_n k_4 rfl rfl ?_
      refine Rn.tsw 47 (2) k_4 rfl (by decide) (rfl) rfl ?_
      refine Rn.aload_n k_4 rfl rfl ?_
      refine Rn.getA k_4 rfl rfl (s16 L) (hF.l 7 rfl) ?_
      refine Rn.getI k_4 rfl rfl (s19 L) ?_
      rw [hS.2.2.2.1]
      refine Rn.reti k_4 rfl q_4 rfl (rfl) ?_
      exact ⟨rfl, rfl⟩
    | j + 3, hj, hw, out => exact out (Or.inr (by rw [nI_toInt hj]; omega)) (by unfold cntW; rw [hw]; rfl)
  · exact out (Or.inl h3) (by unfold cntW; rw [h2]; rfl)
end QY
