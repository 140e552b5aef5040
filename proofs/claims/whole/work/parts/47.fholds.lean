/-! Filter.holds and its parts; passes, passing -/
def atm (ss : List (Nm × List Nm)) (k : KS) (w : Nat) (s : FS) : Bool :=
  if s.1 = 35 then decide (s.2.1 ∈ atg ss k)
  else if s.1 = 64 then decide (k_su k ≠ 0 ∧ snm ss (k_su k) = s.2.1)
  else if s.1 = 61 then decide (k_nm k = s.2.1)
  else if s.1 = 58 then (List.range (k_ps k).length).any (fun p => decide (((k_ps k).getD p ([], [])).1 = s.2.1 ∧ vsel (k_ps k) w p = s.2.2))
  else if s.1 = 60 then decide ((if k_sz k = 0 then 1 else k_sz k) < s.2.2.getD 0 0 - 48)
  else if s.1 = 63 then (k_rs k).isSome
  else k_fl k
def est (at' : FS → Bool) (s : FS) (st : List Bool) : List Bool :=
  if s.1 = 33 then (match st with
    | a :: r => (!a) :: r
    | [] => [])
  else if s.1 = 38 ∨ s.1 = 124 then (match st with
    | b :: a :: r => (if s.1 = 38 then a && b else a || b) :: r
    | st => st)
  else at' s :: st
def evs (at' : FS → Bool) : List FS → List Bool → List Bool
  | [], st => st
  | s :: S, st => evs at' S (est at' s st)
/-- whether a test goes through the filter -/
def thr (at' : FS → Bool) (S : List FS) : Bool := match S with
  | [] => true
  | s :: S => (evs at' (s :: S) []).getD 0 true
/-- the answers, from the bottom up -/
def ANr (fi : Nat → Nat → Int32) (c : Nat) (st : List Bool) : Prop := ∀ t, t < st.length → fi c (st.length - 1 - t) = bI (st.getD t false)
theorem ANr.nil (fi : Nat → Nat → Int32) (c : Nat) : ANr fi c [] := fun t ht => absurd ht (Nat.not_lt_zero t)
theorem ANr.push {fi : Nat → Nat → Int32} {c : Nat} {st : List Bool} (h : ANr fi c st) (b : Bool) : ANr (up2 fi c st.length (bI b)) c (b :: st) := by
  intro t ht
  rw [List.length_cons] at ht
  cases t with
  | zero =>
    rw [List.length_cons, show st.length + 1 - 1 - 0 = st.length by omega, up2_same]
    rfl
  | succ t =>
    rw [List.length_cons, show st.length + 1 - 1 - (t + 1) = st.length - 1 - t by omega, up2_col _ _ (by omega), List.getD_cons_succ]
    exact h t (by omega)
theorem ANr.set {fi : Nat → Nat → Int32} {c : Nat} {a b : Bool} {st : List Bool} (h : ANr fi c (a :: st)) : ANr (up2 fi c st.length (bI b)) c (b :: st) := by
  refine ANr.push (fun t ht => ?_) b
  have := h (t + 1) (by simp only [List.length_cons]; omega)
  rw [List.length_cons, show st.length + 1 - 1 - (t + 1) = st.length - 1 - t by omega, List.getD_cons_succ] at this
  exact this
theorem ANr.pop {fi : Nat → Nat → Int32} {c : Nat} {a : Bool} {st : List Bool} (h : ANr fi c (a :: st)) : ANr fi c st := by
  intro t ht
  have := h (t + 1) (by simp only [List.length_cons]; omega)
  rw [List.length_cons, show st.length + 1 - 1 - (t + 1) = st.length - 1 - t by omega, List.getD_cons_succ] at this
  exact this
theorem ANr.top {fi : Nat → Nat → Int32} {c : Nat} {a : Bool} {st : List Bool} (h : ANr fi c (a :: st)) : fi c st.length = bI a := by
  have := h 0 (by simp)
  rw [List.length_cons, show st.length + 1 - 1 - 0 = st.length by omega] at this
  exact this
theorem est_len {at' : FS → Bool} {s : FS} {S : List FS} {st : List Bool} {e : Nat} (h : dps (s :: S) st.length = some e) : dps S (est at' s st).length = some e ∧ (s.1 = 33 → 1 ≤ st.length) ∧ ((s.1 = 38 ∨ s.1 = 124) → 2 ≤ st.length) ∧ (est at' s st).length ≤ st.length + 1 := by
  rw [dps] at h
  unfold est
  split at h
  · rename_i h1
    rw [if_pos h1]
    split at h
    · rename_i h2
      match st, h2, h with
      | a :: r, h2, h => exact ⟨h, fun _ => h2, fun z => by omega, Nat.le_succ _⟩
    · cases h
  · rename_i h1
    rw [if_neg h1]
    split at h
    · rename_i h2
      rw [if_pos h2]
      split at h
      · rename_i h3
        match st, h3, h with
        | [a], h3, h => exact absurd h3 (by simp)
        | b :: a :: r, h3, h =>
          refine ⟨h, fun z => absurd z h1, fun _ => h3, ?_⟩
          simp only [List.length_cons]
          omega
      · cases h
    · rename_i h2
      rw [if_neg h2]
      exact ⟨h, fun z => absurd z h1, fun z => absurd z h2, Nat.le_refl _⟩
theorem ixf_any {ps : List (Nm × List Nm)} {w : Nat} {nm vl : Nm} (hnd : (ps.map (·.1)).Nodup) : (List.range ps.length).any (fun p => decide ((ps.getD p ([], [])).1 = nm ∧ vsel ps w p = vl)) = true ↔ ∃ p, p < ps.length ∧ (ps.getD p ([], [])).1 = nm ∧ vsel ps w p = vl := by
  rw [List.any_eq_true]
  constructor
  · rintro ⟨p, hp, h⟩
    exact ⟨p, List.mem_range.mp hp, of_decide_eq_true h⟩
  · rintro ⟨p, hp, h⟩
    exact ⟨p, List.mem_range.mpr hp, decide_eq_true h⟩
section HO
variable {d L : Nat} {fi : Nat → Nat → Int32} {fl : Nat → Nat → Int64} {fr : Nat → Nat → Option Nat} {F G : Nat} {x : Nat → Nat} {n : Nat} {A : AS} {X : Nat} {S : List FS}
theorem enc_eq {u v : Nm} (hu : okV u = true) (hv : okV v = true) : lN (enc u) = lN (enc v) ↔ u = v := by
  rw [pk_lEQ (enc_lt63 (okV_len hu)) (enc_lt63 (okV_len hv))]
  exact ⟨fun h => enc_inj u.length u v (Nat.le_refl _) (okV_isN hu) (okV_isN hv) h, fun h => by rw [h]⟩
theorem atg_ok (hA : AOk n A) {i : Nat} (hi : i < A.2.1.length) : ∀ t ∈ atg A.1 (A.2.1.getD i dK), okV t = true := by
  have hk := hA.k hi
  intro t ht
  rcases List.mem_append.mp ht with z | z
  · unfold stg at z
    split at z
    · cases z
    · rename_i q _
      have hq : q < A.1.length ∨ A.1.length ≤ q := by omega
      rcases hq with hq | hq
      · rw [List.getD_eq_getElem?_getD, List.getElem?_eq_getElem hq] at z
        exact okN_okV ((hA.2.1 _ (List.getElem_mem hq)).2.2.2.2 t z).1
      · rw [List.getD_eq_getElem?_getD, List.getElem?_eq_none hq] at z
        cases z
  · exact okN_okV (hk.2.2.2.2.2.1 t z).1
theorem nodup_fst {ps : List (Nm × List Nm)} (h : (ps.map (·.1)).Nodup) {p q : Nat} (hp : p < ps.length) (hq : q < ps.length) (e : (ps.getD p ([], [])).1 = (ps.getD q ([], [])).1) : p = q := by
  rw [List.getD_eq_getElem?_getD, List.getD_eq_getElem?_getD, List.getElem?_eq_getElem hp, List.getElem?_eq_getElem hq] at e
  have e : (ps.map (·.1))[p]'(by rw [List.length_map]; exact hp) = (ps.map (·.1))[q]'(by rw [List.length_map]; exact hq) := by
    rw [List.getElem_map, List.getElem_map]
    exact e
  exact (List.getElem_inj h).mp e
theorem ct_fhasValue (hF : FRok F G fr) (hX : FX X) (hS : FSr fi fl x n A) (hA : AOk n A) (hT : STp fi fl X S) (hl : S.length ≤ 120) {i w j : Nat} (hi : i < A.2.1.length) (hw : w < ways (k_ps (A.2.1.getD i dK))) (hj : j < S.length) (hso : fsok (S.getD j dF)) (h58 : (S.getD j dF).1 = 58) : Rn (d + 2) 82 0 [some (.ref X), some (.int (nI j)), some (.ref (25 + 14 * i)), some (.int (nI (totW (A.2.1.take i) + w))), none] [] (SH L, fi, fl, fr) (Ret (SH L, fi, fl, fr) (some (.int (bI (atm A.1 (A.2.1.getD i dK) w (S.getD j dF)))))) := by
  have hi4 : i < 40 := Nat.lt_of_lt_of_le hi hA.2.2.2.1
  have hC := hS.2.2.2.2.1 i hi
  have hk := hA.k hi
  have h9 := (hS.2.2.2.2.2 i hi).1
  have htw := Nat.le_trans (totW_take_le A.2.1 i) hA.2.2.2.2.2.1
  generalize A.2.1.getD i dK = k at hC hk hw ⊢
  have hways := hk.2.2.2.2.2.2.2.2.2.2.2
  have hps := hk.2.2.2.2.2.2.2.2.1
  have hnd := hk.2.2.2.2.2.2.2.2.2.2.1
  obtain ⟨t1, t2, t3⟩ := hT.2 j hj
  generalize S.getD j dF = s at t1 t2 t3 hso h58 ⊢
  have ea : atm A.1 k w s = (List.range (k_ps k).length).any (fun p => decide (((k_ps k).getD p ([], [])).1 = s.2.1 ∧ vsel (k_ps k) w p = s.2.2)) := by
    unfold atm
    rw [h58, if_neg (by decide), if_neg (by decide), if_neg (by decide), if_pos rfl]
  have ev : fvl s = enc s.2.2 := by unfold fvl; rw [h58, if_neg (by decide)]
  rw [ev] at t3
  rw [ea]
  have emap : (k_ps k).map (fun p => enc p.1) = ((k_ps k).map (·.1)).map enc := by rw [List.map_map]; rfl
  have c12 := hC.2.2.2.2.2.2.2.2.2.2.2.1
  have hpo : ∀ p, p < (k_ps k).length → okV ((k_ps k).getD p ([], [])).1 = true := by
    intro p hp
    refine okN_okV (hk.2.2.2.2.2.2.2.2.2.1 _ ?_).1
    rw [List.getD_eq_getElem?_getD, List.getElem?_eq_getElem hp]
    exact List.getElem_mem _
  refine Rn.aload_n k_82 rfl rfl ?_
  refine Rn.getA k_82 rfl rfl (sk0 L hi4) (hF.k hi4 3 rfl) ?_
  refine Rn.aload_n k_82 rfl rfl ?_
  refine Rn.getA k_82 rfl rfl (hX.s0 L) (hX.r hF (k := 1) (by decide)) ?_
  refine Rn.iload_n k_82 rfl rfl ?_
  refine Rn.laload (j) k_82 rfl (hX.s2 L) (rfl) (by omega) (by decide) ?_
  rw [t2]
  refine Rn.cV2I k_82 rfl rfl q_99 rfl (Nat.le_of_ble_eq_true rfl) (Nat.le_of_ble_eq_true rfl) (sk3 L hi4) (ct_indexOf (sk3 L hi4) (sk4 L hi4) (hF.k hi4 2 rfl) (by decide) c12 (by rw [List.length_map]; exact hps) (enc_lt63 (okV_len hso.1))) ?_
  refine Rn.istore4 k_82 rfl rfl ?_
  refine Rn.iload k_82 rfl rfl ?_
  refine Rn.iconst (-1) k_82 rfl rfl ?_
  have no : (¬ ∃ p, p < (k_ps k).length ∧ ((k_ps k).getD p ([], [])).1 = s.2.1 ∧ vsel (k_ps k) w p = s.2.2) → Rn (d + 2) 82 42 [some (.ref X), some (.int (nI j)), some (.ref (25 + 14 * i)), some (.int (nI (totW (A.2.1.take i) + w))), some (.int (ixI (ixf ((k_ps k).map (fun p => enc p.1)) (enc s.2.1) 0)))] [] (SH L, fi, fl, fr) (Ret (SH L, fi, fl, fr) (some (.int (bI ((List.range (k_ps k).length).any (fun p => decide (((k_ps k).getD p ([], [])).1 = s.2.1 ∧ vsel (k_ps k) w p = s.2.2))))))) := by
    intro z
    refine Rn.iconst (0) k_82 rfl rfl ?_
    refine Rn.reti k_82 rfl q_82 rfl (rfl) ?_
    cases hz : (List.range (k_ps k).length).any (fun p => decide (((k_ps k).getD p ([], [])).1 = s.2.1 ∧ vsel (k_ps k) w p = s.2.2)) with
    | false => exact ⟨rfl, rfl⟩
    | true => exact absurd ((ixf_any hnd).mp hz) z
  cases hx : ixf ((k_ps k).map (fun p => enc p.1)) (enc s.2.1) 0 with
  | none =>
    rw [hx] at no
    have hno := (ixf_none _ _ _).mp hx
    show Rn _ _ _ _ (Value.int _ :: Value.int (-1) :: []) _ _
    refine Rn.icmp_eq 42 k_82 rfl rfl (fun h1 => ?_) (fun h1 => ?_)
    · refine no ?_
      rintro ⟨p, hp, e1, -⟩
      apply hno
      rw [← e1]
      refine List.mem_map.mpr ⟨(k_ps k).getD p ([], []), ?_, rfl⟩
      rw [List.getD_eq_getElem?_getD, List.getElem?_eq_getElem hp]
      exact List.getElem_mem _
    · exact absurd rfl h1
  | some p =>
    rw [hx] at no
    obtain ⟨z1, z2, z3⟩ := ixf_some _ _ _ _ hx
    rw [List.length_map, Nat.zero_add] at z2
    rw [Nat.sub_zero, List.getD_eq_getElem?_getD, List.getElem?_map, List.getElem?_eq_getElem z2] at z3
    have z3 : enc ((k_ps k).getD p ([], [])).1 = enc s.2.1 := by
      rw [List.getD_eq_getElem?_getD, List.getElem?_eq_getElem z2]
      exact z3
    have z3 := (enc_eq (hpo p z2) hso.1).mp (by rw [z3])
    have hvo := vsel_ok hk w z2
    show Rn _ _ _ _ (Value.int _ :: Value.int (nI p) :: []) _ _
    refine Rn.icmp_eq 42 k_82 rfl rfl (fun h1 => ?_) (fun h1 => ?_)
    · exact absurd h1 (c_m1 (by omega))
    · refine Rn.aload_n k_82 rfl rfl ?_
      refine Rn.iload_n k_82 rfl rfl ?_
      refine Rn.iload k_82 rfl rfl ?_
      refine Rn.cV3L k_82 rfl rfl q_75 rfl (Nat.le_of_ble_eq_true rfl) (Nat.le_of_ble_eq_true rfl) (sk0 L hi4) (ct_valueIn hF hi4 hC hps (fun p hp => ⟨(hk.2.2.2.2.2.2.2.2.2.1 p hp).2.2.1, (hk.2.2.2.2.2.2.2.2.2.1 p hp).2.2.2.1⟩) h9 (by omega) z2) ?_
      refine Rn.aload_n k_82 rfl rfl ?_
      refine Rn.getA k_82 rfl rfl (hX.s0 L) (hX.r hF (k := 2) (by decide)) ?_
      refine Rn.iload_n k_82 rfl rfl ?_
      refine Rn.laload (j) k_82 rfl (hX.s3 L) (rfl) (by omega) (by decide) ?_
      rw [t3]
      refine Rn.lcmp k_82 rfl ?_
      refine Rn.if_ne 42 k_82 rfl rfl (fun h2 => ?_) (fun h2 => ?_)
      · rw [lg_cmp_eq, enc_eq hvo.1 hso.2.1] at h2
        refine no ?_
        rintro ⟨q, hq, e1, e2⟩
        have := nodup_fst hnd hq z2 (e1.trans z3.symm)
        subst this
        exact h2 e2
      · rw [lg_cmp_eq, enc_eq hvo.1 hso.2.1] at h2
        refine Rn.iconst (1) k_82 rfl rfl ?_
        refine Rn.goto 43 k_82 rfl rfl ?_
        refine Rn.reti k_82 rfl q_82 rfl (rfl) ?_
        have : (List.range (k_ps k).length).any (fun p => decide (((k_ps k).getD p ([], [])).1 = s.2.1 ∧ vsel (k_ps k) w p = s.2.2)) = true := (ixf_any hnd).mpr ⟨p, z2, z3, h2⟩
        rw [this]
        exact ⟨rfl, rfl⟩
end HO
