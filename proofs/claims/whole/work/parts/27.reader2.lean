/-! ScriptReader: size, skip, fails of the open case -/
theorem getD_app_lt {ks : List KS} {k : KS} {i : Nat} (h : i < ks.length) : (ks ++ [k]).getD i dK = ks.getD i dK := by
  rw [List.getD_eq_getElem?_getD, List.getD_eq_getElem?_getD, List.getElem?_append_left h]
theorem getD_app_last (ks : List KS) (k : KS) : (ks ++ [k]).getD ks.length dK = k := by
  rw [List.getD_eq_getElem?_getD, List.getElem?_append_right (Nat.le_refl _), Nat.sub_self]; rfl
theorem totW_app (ks : List KS) (k : KS) : totW (ks ++ [k]) = totW ks + ways (k_ps k) := by
  unfold totW; rw [List.map_append, List.sum_append]; simp
/-- the last case changes -/
theorem SCr.last {fi fi' : Nat → Nat → Int32} {fl fl' : Nat → Nat → Int64} {x : Nat → Nat} {n : Nat} {ss : List (Nm × List Nm)} {ks : List KS} {k k' : KS} {c : Bool} (hS : SCr fi fl x n (ss, ks ++ [k], c)) (hA : AOk n (ss, ks ++ [k], c)) (h1 : ∀ a q, (a < 25 + 14 * ks.length ∨ 25 + 14 * ks.length + 14 ≤ a) → (a ≠ 19 ∨ q ≠ 6) → fi' a q = fi a q) (h2 : ∀ a q, (a < 25 + 14 * ks.length ∨ 25 + 14 * ks.length + 14 ≤ a) → fl' a q = fl a q) (h6 : fi' 19 6 = nI (totW (ks ++ [k']))) (hsu : k_su k' = k_su k) (hC : CKr fi' fl' ks.length k' (snm ss (k_su k)) (stg ss (k_su k))) : SCr fi' fl' x n (ss, ks ++ [k'], c) := by
  obtain ⟨s1, s2, s3, s4, s5, s6, s7, s8⟩ := hS
  have hl : ks.length < 40 := by
    have := hA.2.2.2.1
    have e : (ks ++ [k]).length = ks.length + 1 := by simp
    have this : (ks ++ [k]).length ≤ 40 := this
    omega
  refine ⟨⟨fun j hj => ?_, s1.2⟩, ?_, ?_, ?_, h6, fun i hi => ?_, ?_, fun s hs => ?_⟩
  · rw [h1 20 j (by omega) (Or.inl (by decide))]; exact s1.1 j hj
  · rw [h1 19 1 (by omega) (Or.inr (by decide))]; exact s2
  · exact NRr.keep s3 (h1 21 1 (by omega) (Or.inl (by decide))) (fun q => h2 22 q (by omega))
  · rw [h1 19 4 (by omega) (Or.inr (by decide)), s4]
    show nI (ks ++ [k]).length = nI (ks ++ [k']).length
    simp
  · have hi : i < (ks ++ [k']).length := hi
    rw [List.length_append] at hi
    have hi : i < ks.length + 1 := hi
    show CKr fi' fl' i ((ks ++ [k']).getD i dK) (snm ss (k_su ((ks ++ [k']).getD i dK))) (stg ss (k_su ((ks ++ [k']).getD i dK)))
    by_cases e : i = ks.length
    · subst e
      rw [getD_app_last, hsu]
      exact hC
    · have hi2 : i < ks.length := by omega
      have hk := hA.k (i := i) (by show i < (ks ++ [k]).length; simp; omega)
      have := s6 i (by show i < (ks ++ [k]).length; simp; omega)
      have this : CKr fi fl i ((ks ++ [k]).getD i dK) (snm ss (k_su ((ks ++ [k]).getD i dK))) (stg ss (k_su ((ks ++ [k]).getD i dK))) := this
      have hk : KOk ss n ((ks ++ [k]).getD i dK) := hk
      rw [getD_app_lt hi2] at this hk
      rw [getD_app_lt hi2]
      exact this.keep hk.2.2.2.2.2.2.2.2.1 (fun a q z1 z2 => h1 a q (by omega) (Or.inl (by omega))) (fun a q z1 z2 => h2 a q (by omega))
  · rw [h1 585 3 (by omega) (Or.inl (by decide))]; exact s7
  · exact (s8 s hs).keep (h1 586 1 (by omega) (Or.inl (by decide))) (fun q => h2 587 q (by omega))
/-- a case's head changes, its rows don't -/
theorem CKr.head {fi fi' : Nat → Nat → Int32} {fl : Nat → Nat → Int64} {i : Nat} {k k' : KS} {sn : Nm} {st : List Nm} (h : CKr fi fl i k sn st) (hps : (k_ps k).length ≤ 4) (e1 : k_nm k' = k_nm k) (e2 : k_su k' = k_su k) (e3 : k_ln k' = k_ln k) (e4 : k_tg k' = k_tg k) (e5 : k_ps k' = k_ps k) (hrow : ∀ a q, 25 + 14 * i < a → a < 25 + 14 * i + 14 → fi' a q = fi a q) (g2 : fi' (25 + 14 * i) 2 = fi (25 + 14 * i) 2) (g3 : fi' (25 + 14 * i) 3 = fi (25 + 14 * i) 3) (g10 : fi' (25 + 14 * i) 10 = fi (25 + 14 * i) 10) (f4 : fi' (25 + 14 * i) 4 = nI (if k_sz k' = 0 then 1 else k_sz k')) (f5 : fi' (25 + 14 * i) 5 = bI (k_rs k').isSome) (f6 : fi' (25 + 14 * i) 6 = bI (k_fl k')) (f78 : ∀ r, k_rs k' = some r → fi' (25 + 14 * i) 7 = nI r.1 ∧ fi' (25 + 14 * i) 8 = nI r.2) (f11 : fi' (25 + 14 * i) 11 = bI (decide (k_sz k' ≠ 0))) : CKr fi' fl i k' sn st := by
  obtain ⟨a1, a2, a3, a4, a5, a6, a7, a8, a9, a10, a11, a12, a13⟩ := h
  refine ⟨by rw [e1]; exact a1, a2, by rw [g2, e2]; exact a3, by rw [g3, e3]; exact a4, f4, f5, f6, f78, by rw [g10, e5]; exact a9, f11, ?_, ?_, ?_⟩
  · rw [e4]; exact a11.keep (hrow _ _ (by omega) (by omega)) (fun _ => rfl)
  · rw [e5]; exact a12.keep (hrow _ _ (by omega) (by omega)) (fun _ => rfl)
  · rw [e5]; exact fun p hp => (a13 p hp).keep (hrow _ _ (by omega) (by omega)) (fun _ => rfl)
theorem onLast_app (ss : List (Nm × List Nm)) (ks : List KS) (k : KS) (f : KS → Option KS) : onLast (ss, ks ++ [k], true) f = (match f k with
  | none => none
  | some k' => some (ss, ks ++ [k'], true)) := by
  unfold onLast
  simp
  cases f k <;> rfl
section RD
variable {d L : Nat} {fi : Nat → Nat → Int32} {fl : Nat → Nat → Int64} {fr : Nat → Nat → Option Nat} {F G : Nat} {x : Nat → Nat} {n : Nat} {ss : List (Nm × List Nm)} {ks : List KS} {k : KS} {ws : List (Nat × Nat)}
def sizeL (x : Nat → Nat) (A : AS) (rest : List (Nat × Nat)) : Option AS := match rest with
  | [w] => if wnum x w = 0 then none else onLast A (fun k => if k_sz k = 0 then some (k_su k, k_nm k, k_ln k, wnum x w, k_rs k, k_fl k, k_tg k, k_ps k) else none)
  | _ => none
def skipL (A : AS) (ws rest : List (Nat × Nat)) : Option AS := match rest with
  | [] => none
  | w :: _ => onLast A (fun k => if k_rs k = none then some (k_su k, k_nm k, k_ln k, k_sz k, some (w.1, (ws.getLastD (0, 0)).2), k_fl k, k_tg k, k_ps k) else none)
def failL (A : AS) (rest : List (Nat × Nat)) : Option AS := if rest = [] then onLast A (fun k => if k_fl k = false then some (k_su k, k_nm k, k_ln k, k_sz k, k_rs k, true, k_tg k, k_ps k) else none) else none
theorem ckl (hA : AOk n (ss, ks ++ [k], true)) : ks.length < 40 ∧ KOk ss n k := by
  refine ⟨?_, hA.2.2.2.2.1 k (by show k ∈ ks ++ [k]; simp)⟩
  have h1 : (ks ++ [k]).length ≤ 40 := hA.2.2.2.1
  rw [List.length_append] at h1
  exact h1
theorem wnum_le (x : Nat → Nat) (w : Nat × Nat) : wnum x w ≤ 9 := by unfold wnum; split <;> omega
theorem ct_setSize (hF : FRok F G fr) (hS : SCr fi fl x n (ss, ks ++ [k], true)) (hA : AOk n (ss, ks ++ [k], true)) (hW : WDr fi ws) (hw : wok n ws) {w0 : Nat × Nat} {rest : List (Nat × Nat)} (hws : ws = w0 :: rest) : Rn (d + 3) 121 0 [some (.ref 585), some (.ref (25 + 14 * ks.length)), none] [] (SH L, fi, fl, fr) (AccQ L fi fl fr x n (sizeL x (ss, ks ++ [k], true) rest)) := by
  obtain ⟨hi, hk⟩ := ckl hA
  have s6 := hS.2.2.2.2.2.1 ks.length (by show ks.length < (ks ++ [k]).length; simp)
  have s6 : CKr fi fl ks.length ((ks ++ [k]).getD ks.length dK) (snm ss (k_su ((ks ++ [k]).getD ks.length dK))) (stg ss (k_su ((ks ++ [k]).getD ks.length dK))) := s6
  rw [getD_app_last] at s6
  have hl : ws.length = rest.length + 1 := by rw [hws]; rfl
  have hl6 := hw.2
  have no : ∀ o2, sizeL x (ss, ks ++ [k], true) rest = none → Rn (d + 3) 121 31 [some (.ref 585), some (.ref (25 + 14 * ks.length)), o2] [] (SH L, fi, fl, fr) (AccQ L fi fl fr x n (sizeL x (ss, ks ++ [k], true) rest)) := by
    intro o2 e
    refine Rn.iconst (0) k_121 rfl rfl ?_
    refine Rn.reti k_121 rfl q_121 rfl (rfl) ?_
    rw [e]
    exact ⟨fi, fl, rfl, fun _ _ _ => rfl, fun _ _ _ => rfl, rfl, fun B hB => by cases hB⟩
  refine Rn.aload_n k_121 rfl rfl ?_
  refine Rn.getA k_121 rfl rfl (s585 L) (hF.l 14 rfl) ?_
  refine Rn.iconst (1) k_121 rfl rfl ?_
  refine Rn.cV2I k_121 rfl rfl q_139 rfl (Nat.le_of_ble_eq_true rfl) (Nat.le_of_ble_eq_true rfl) (s588 L) (ct_number (k := 1) hF hS.1 hW hw (by decide)) ?_
  refine Rn.istore_n2 k_121 rfl rfl ?_
  refine Rn.aload_n k_121 rfl rfl ?_
  refine Rn.getA k_121 rfl rfl (s585 L) (hF.l 14 rfl) ?_
  refine Rn.getI k_121 rfl rfl (s588 L) ?_
  rw [hW.1]
  refine Rn.iconst (2) k_121 rfl rfl ?_
  refine Rn.icmp_ne 31 k_121 rfl rfl (fun h1 => ?_) (fun h1 => ?_)
  · have h1 : ¬ ws.length = 2 := fun z => h1 ((c_eq 2 2 rfl (by omega) (by decide)).mpr z)
    refine no _ ?_
    match rest, hl with
    | [], _ => rfl
    | [w], hl => exact absurd hl h1
    | w :: w' :: r, _ => rfl
  · rw [c_eq 2 2 rfl (by omega) (by decide)] at h1
    match rest, hl, hws, no with
    | [w], hl, hws, no =>
      have hg : ws.getD 1 (0, 0) = w := by rw [hws]; rfl
      rw [if_pos (show 1 < ws.length by omega), hg]
      have h9 := wnum_le x w
      refine Rn.iload_n k_121 rfl rfl ?_
      refine Rn.if_eq 31 k_121 rfl rfl (fun h2 => ?_) (fun h2 => ?_)
      · have h2 := (c_eq 0 0 rfl (by omega) (by decide)).mp h2
        exact no _ (by show (if _ then _ else _) = _; rw [if_pos h2])
      · have h2 : ¬ wnum x w = 0 := fun z => h2 (by rw [z]; rfl)
        have e : sizeL x (ss, ks ++ [k], true) [w] = (match (if k_sz k = 0 then some (k_su k, k_nm k, k_ln k, wnum x w, k_rs k, k_fl k, k_tg k, k_ps k) else none : Option KS) with
          | none => none
          | some k' => some (ss, ks ++ [k'], true)) := by
          show (if _ then _ else _) = _
          rw [if_neg h2, onLast_app]
        refine Rn.aload_n k_121 rfl rfl ?_
        refine Rn.getI k_121 rfl rfl (sk0 L hi) ?_
        rw [s6.2.2.2.2.2.2.2.2.2.1]
        refine Rn.if_eq 33 k_121 rfl rfl (fun h3 => ?_) (fun h3 => ?_)
        · have h3 := (bI_0 _).mp h3
          have h3 : k_sz k = 0 := by simpa using h3
          rw [if_pos h3] at e
          refine Rn.aload_n k_121 rfl rfl ?_
          refine Rn.iconst (1) k_121 rfl rfl ?_
          refine Rn.putI k_121 rfl (rfl) (sk0 L hi) ?_
          refine Rn.aload_n k_121 rfl rfl ?_
          refine Rn.iload_n k_121 rfl rfl ?_
          refine Rn.putI k_121 rfl (rfl) (sk0 L hi) ?_
          refine Rn.iconst (1) k_121 rfl rfl ?_
          refine Rn.reti k_121 rfl q_121 rfl (rfl) ?_
          rw [e]
          refine ⟨_, fl, rfl, fun a q ha => ?_, fun _ _ _ => rfl, rfl, fun B hB => ?_⟩
          · unfold rdF at ha
            rw [up2_row _ _ (by omega), up2_row _ _ (by omega)]
          · cases hB
            refine SCr.last hS hA (fun a q h1 h2 => by rw [up2_row _ _ (by omega), up2_row _ _ (by omega)]) (fun _ _ _ => rfl) ?_ rfl (s6.head hk.2.2.2.2.2.2.2.2.1 rfl rfl rfl rfl rfl (fun a q z1 z2 => by rw [up2_row _ _ (by omega), up2_row _ _ (by omega)]) ?_ ?_ ?_ ?_ ?_ ?_ ?_ ?_)
            · rw [up2_row _ _ (by omega), up2_row _ _ (by omega), hS.2.2.2.2.1]
              show nI (totW (ks ++ [k])) = _
              rw [totW_app, totW_app]
              rfl
            · simp [up2]
            · simp [up2]
            · simp [up2]
            · rw [up2_same]
              show _ = nI (if wnum x w = 0 then 1 else wnum x w)
              rw [if_neg h2]
            · rw [up2_col _ _ (by decide), up2_col _ _ (by decide)]; exact s6.2.2.2.2.2.1
            · rw [up2_col _ _ (by decide), up2_col _ _ (by decide)]; exact s6.2.2.2.2.2.2.1
            · intro r hr
              rw [up2_col _ _ (by decide), up2_col _ _ (by decide), up2_col _ _ (by decide), up2_col _ _ (by decide)]
              exact s6.2.2.2.2.2.2.2.1 r hr
            · rw [up2_col _ _ (by decide), up2_same]
              show _ = bI (decide (wnum x w ≠ 0))
              rw [decide_eq_true h2]
              rfl
        · have h3 : ¬ k_sz k = 0 := fun z => h3 ((bI_0 _).mpr (by simp [z]))
          rw [if_neg h3] at e
          exact no _ e
    | [], hl, _, _ => exact absurd hl (by simp; omega)
    | w :: w' :: r, hl, _, _ => exact absurd hl (by simp only [List.length_cons]; omega)
theorem ct_expectFailure (hF : FRok F G fr) (hS : SCr fi fl x n (ss, ks ++ [k], true)) (hA : AOk n (ss, ks ++ [k], true)) (hW : WDr fi ws) (hw : wok n ws) {w0 : Nat × Nat} {rest : List (Nat × Nat)} (hws : ws = w0 :: rest) : Rn d 123 0 [some (.ref 585), some (.ref (25 + 14 * ks.length))] [] (SH L, fi, fl, fr) (AccQ L fi fl fr x n (failL (ss, ks ++ [k], true) rest)) := by
  obtain ⟨hi, hk⟩ := ckl hA
  have s6 := hS.2.2.2.2.2.1 ks.length (by show ks.length < (ks ++ [k]).length; simp)
  have s6 : CKr fi fl ks.length ((ks ++ [k]).getD ks.length dK) (snm ss (k_su ((ks ++ [k]).getD ks.length dK))) (stg ss (k_su ((ks ++ [k]).getD ks.length dK))) := s6
  rw [getD_app_last] at s6
  have hl : ws.length = rest.length + 1 := by rw [hws]; rfl
  have hl6 := hw.2
  have no : failL (ss, ks ++ [k], true) rest = none → Rn d 123 18 [some (.ref 585), some (.ref (25 + 14 * ks.length))] [] (SH L, fi, fl, fr) (AccQ L fi fl fr x n (failL (ss, ks ++ [k], true) rest)) := by
    intro e
    refine Rn.iconst (0) k_123 rfl rfl ?_
    refine Rn.reti k_123 rfl q_123 rfl (rfl) ?_
    rw [e]
    exact ⟨fi, fl, rfl, fun _ _ _ => rfl, fun _ _ _ => rfl, rfl, fun B hB => by cases hB⟩
  refine Rn.aload_n k_123 rfl rfl ?_
  refine Rn.getA k_123 rfl rfl (s585 L) (hF.l 14 rfl) ?_
  refine Rn.getI k_123 rfl rfl (s588 L) ?_
  rw [hW.1]
  refine Rn.iconst (1) k_123 rfl rfl ?_
  refine Rn.icmp_ne 18 k_123 rfl rfl (fun h1 => ?_) (fun h1 => ?_)
  · have h1 : ¬ ws.length = 1 := fun z => h1 ((c_eq 1 1 rfl (by omega) (by decide)).mpr z)
    refine no ?_
    unfold failL
    rw [if_neg]
    intro z
    rw [z] at hl
    exact h1 hl
  · rw [c_eq 1 1 rfl (by omega) (by decide)] at h1
    have hr : rest = [] := List.eq_nil_of_length_eq_zero (by omega)
    have e : failL (ss, ks ++ [k], true) rest = (match (if k_fl k = false then some (k_su k, k_nm k, k_ln k, k_sz k, k_rs k, true, k_tg k, k_ps k) else none : Option KS) with
          | none => none
          | some k' => some (ss, ks ++ [k'], true)) := by
      unfold failL
      rw [if_pos hr, onLast_app]
    refine Rn.aload_n k_123 rfl rfl ?_
    refine Rn.getI k_123 rfl rfl (sk0 L hi) ?_
    rw [s6.2.2.2.2.2.2.1]
    refine Rn.if_eq 20 k_123 rfl rfl (fun h3 => ?_) (fun h3 => ?_)
    · have h3 := (bI_0 _).mp h3
      rw [if_pos h3] at e
      refine Rn.aload_n k_123 rfl rfl ?_
      refine Rn.iconst (1) k_123 rfl rfl ?_
      refine Rn.putI k_123 rfl (rfl) (sk0 L hi) ?_
      refine Rn.iconst (1) k_123 rfl rfl ?_
      refine Rn.reti k_123 rfl q_123 rfl (rfl) ?_
      rw [e]
      refine ⟨_, fl, rfl, fun a q ha => ?_, fun _ _ _ => rfl, rfl, fun B hB => ?_⟩
      · unfold rdF at ha
        rw [up2_row _ _ (by omega)]
      · cases hB
        refine SCr.last hS hA (fun a q h1 h2 => by rw [up2_row _ _ (by omega)]) (fun _ _ _ => rfl) ?_ rfl (s6.head hk.2.2.2.2.2.2.2.2.1 rfl rfl rfl rfl rfl (fun a q z1 z2 => by rw [up2_row _ _ (by omega)]) ?_ ?_ ?_ ?_ ?_ ?_ ?_ ?_)
        · rw [up2_row _ _ (by omega), hS.2.2.2.2.1]
          show nI (totW (ks ++ [k])) = _
          rw [totW_app, totW_app]
          rfl
        · simp [up2]
        · simp [up2]
        · simp [up2]
        · rw [up2_col _ _ (by decide)]; exact s6.2.2.2.2.1
        · rw [up2_col _ _ (by decide)]; exact s6.2.2.2.2.2.1
        · rw [up2_same]; rfl
        · intro r hr
          rw [up2_col _ _ (by decide), up2_col _ _ (by decide)]
          exact s6.2.2.2.2.2.2.2.1 r hr
        · rw [up2_col _ _ (by decide)]; exact s6.2.2.2.2.2.2.2.2.2.1
    · have h3 : ¬ k_fl k = false := fun z => h3 ((bI_0 _).mpr z)
      rw [if_neg h3] at e
      exact no e
theorem ct_skip (hF : FRok F G fr) (hS : SCr fi fl x n (ss, ks ++ [k], true)) (hA : AOk n (ss, ks ++ [k], true)) (hW : WDr fi ws) (hw : wok n ws) {w0 : Nat × Nat} {rest : List (Nat × Nat)} (hws : ws = w0 :: rest) : Rn d 122 0 [some (.ref 585), some (.ref (25 + 14 * ks.length))] [] (SH L, fi, fl, fr) (AccQ L fi fl fr x n (skipL (ss, ks ++ [k], true) ws rest)) := by
  obtain ⟨hi, hk⟩ := ckl hA
  have s6 := hS.2.2.2.2.2.1 ks.length (by show ks.length < (ks ++ [k]).length; simp)
  have s6 : CKr fi fl ks.length ((ks ++ [k]).getD ks.length dK) (snm ss (k_su ((ks ++ [k]).getD ks.length dK))) (stg ss (k_su ((ks ++ [k]).getD ks.length dK))) := s6
  rw [getD_app_last] at s6
  have hl : ws.length = rest.length + 1 := by rw [hws]; rfl
  have hl6 := hw.2
  have no : skipL (ss, ks ++ [k], true) ws rest = none → Rn d 122 18 [some (.ref 585), some (.ref (25 + 14 * ks.length))] [] (SH L, fi, fl, fr) (AccQ L fi fl fr x n (skipL (ss, ks ++ [k], true) ws rest)) := by
    intro e
    refine Rn.iconst (0) k_122 rfl rfl ?_
    refine Rn.reti k_122 rfl q_122 rfl (rfl) ?_
    rw [e]
    exact ⟨fi, fl, rfl, fun _ _ _ => rfl, fun _ _ _ => rfl, rfl, fun B hB => by cases hB⟩
  refine Rn.aload_n k_122 rfl rfl ?_
  refine Rn.getA k_122 rfl rfl (s585 L) (hF.l 14 rfl) ?_
  refine Rn.getI k_122 rfl rfl (s588 L) ?_
  rw [hW.1]
  refine Rn.iconst (2) k_122 rfl rfl ?_
  refine Rn.icmp_lt 18 k_122 rfl rfl (fun h1 => ?_) (fun h1 => ?_)
  · rw [c_lt 2 2 rfl (by omega) (by decide)] at h1
    refine no ?_
    have hr : rest = [] := List.eq_nil_of_length_eq_zero (by omega)
    rw [hr]
    rfl
  · rw [c_lt 2 2 rfl (by omega) (by decide)] at h1
    match rest, hl, hws, no with
    | [], hl, _, _ => exact absurd hl (by simp; omega)
    | w :: r0, hl, hws, no =>
      have hg : ws.getD 1 (0, 0) = w := by rw [hws]; rfl
      have hlast : ws.getLastD (0, 0) = ws.getD (ws.length - 1) (0, 0) := by
        rw [List.getLastD_eq_getLast?, List.getLast?_eq_getElem?, List.getD_eq_getElem?_getD]
      have e : skipL (ss, ks ++ [k], true) ws (w :: r0) = (match (if k_rs k = none then some (k_su k, k_nm k, k_ln k, k_sz k, some (w.1, (ws.getLastD (0, 0)).2), k_fl k, k_tg k, k_ps k) else none : Option KS) with
          | none => none
          | some k' => some (ss, ks ++ [k'], true)) := by
        show onLast _ _ = _
        rw [onLast_app]
      refine Rn.aload_n k_122 rfl rfl ?_
      refine Rn.getI k_122 rfl rfl (sk0 L hi) ?_
      rw [s6.2.2.2.2.2.1]
      refine Rn.if_eq 20 k_122 rfl rfl (fun h3 => ?_) (fun h3 => ?_)
      · have h3 := (bI_0 _).mp h3
        have h3 : k_rs k = none := by
          cases hz : k_rs k with
          | none => rfl
          | some r => rw [hz] at h3; cases h3
        rw [if_pos h3] at e
        obtain ⟨v1, v2⟩ := hW.2 1 (by omega)
        obtain ⟨v3, v4⟩ := hW.2 (ws.length - 1) (by omega)
        refine Rn.aload_n k_122 rfl rfl ?_
        refine Rn.iconst (1) k_122 rfl rfl ?_
        refine Rn.putI k_122 rfl (rfl) (sk0 L hi) ?_
        refine Rn.aload_n k_122 rfl rfl ?_
        refine Rn.aload_n k_122 rfl rfl ?_
        refine Rn.getA k_122 rfl rfl (s585 L) (hF.l 14 rfl) ?_
        refine Rn.getA k_122 rfl rfl (s588 L) (hF.l 11 rfl) ?_
        refine Rn.iconst (1) k_122 rfl rfl ?_
        refine Rn.iaload (1) k_122 rfl (s589 L) (rfl) (by omega) (by decide) ?_
        rw [up2_row _ _ (show (589 : Nat) ≠ 25 + 14 * ks.length by omega), v1, hg]
        refine Rn.putI k_122 rfl (rfl) (sk0 L hi) ?_
        refine Rn.aload_n k_122 rfl rfl ?_
        refine Rn.aload_n k_122 rfl rfl ?_
        refine Rn.getA k_122 rfl rfl (s585 L) (hF.l 14 rfl) ?_
        refine Rn.getA k_122 rfl rfl (s588 L) (hF.l 12 rfl) ?_
        refine Rn.aload_n k_122 rfl rfl ?_
        refine Rn.getA k_122 rfl rfl (s585 L) (hF.l 14 rfl) ?_
        refine Rn.getI k_122 rfl rfl (s588 L) ?_
        rw [up2_row _ _ (show (588 : Nat) ≠ 25 + 14 * ks.length by omega), up2_row _ _ (show (588 : Nat) ≠ 25 + 14 * ks.length by omega), hW.1]
        refine Rn.iconst (1) k_122 rfl rfl ?_
        refine Rn.isub k_122 rfl ?_
        rw [c_sub 1 1 rfl (by omega)]
        refine Rn.iaload (ws.length - 1) k_122 rfl (s590 L) (rfl) (by omega) (by decide) ?_
        rw [up2_row _ _ (show (590 : Nat) ≠ 25 + 14 * ks.length by omega), up2_row _ _ (show (590 : Nat) ≠ 25 + 14 * ks.length by omega), v4]
        refine Rn.putI k_122 rfl (rfl) (sk0 L hi) ?_
        refine Rn.iconst (1) k_122 rfl rfl ?_
        refine Rn.reti k_122 rfl q_122 rfl (rfl) ?_
        rw [e]
        refine ⟨_, fl, rfl, fun a q ha => ?_, fun _ _ _ => rfl, rfl, fun B hB => ?_⟩
        · unfold rdF at ha
          rw [up2_row _ _ (by omega), up2_row _ _ (by omega), up2_row _ _ (by omega)]
        · cases hB
          refine SCr.last hS hA (fun a q h1 h2 => by rw [up2_row _ _ (by omega), up2_row _ _ (by omega), up2_row _ _ (by omega)]) (fun _ _ _ => rfl) ?_ rfl (s6.head hk.2.2.2.2.2.2.2.2.1 rfl rfl rfl rfl rfl (fun a q z1 z2 => by rw [up2_row _ _ (by omega), up2_row _ _ (by omega), up2_row _ _ (by omega)]) ?_ ?_ ?_ ?_ ?_ ?_ ?_ ?_)
          · rw [up2_row _ _ (by omega), up2_row _ _ (by omega), up2_row _ _ (by omega), hS.2.2.2.2.1]
            show nI (totW (ks ++ [k])) = _
            rw [totW_app, totW_app]
            rfl
          · simp [up2]
          · simp [up2]
          · simp [up2]
          · rw [up2_col _ _ (by decide), up2_col _ _ (by decide), up2_col _ _ (by decide)]; exact s6.2.2.2.2.1
          · rw [up2_col _ _ (by decide), up2_col _ _ (by decide), up2_same]; rfl
          · rw [up2_col _ _ (by decide), up2_col _ _ (by decide), up2_col _ _ (by decide)]; exact s6.2.2.2.2.2.2.1
          · intro r hr
            cases hr
            refine ⟨by rw [up2_col _ _ (by decide), up2_same], by rw [up2_same, hlast]⟩
          · rw [up2_col _ _ (by decide), up2_col _ _ (by decide), up2_col _ _ (by decide)]; exact s6.2.2.2.2.2.2.2.2.2.1
      · have h3 : ¬ k_rs k = none := fun z => h3 ((bI_0 _).mpr (by rw [z]; rfl))
        rw [if_neg h3] at e
        exact no e
end RD
