/-! THE REFERENCE: names of tests -/
def MNr (fi : Nat → Nat → Int32) (U : List Nat) : Prop := fi 604 36 = nI U.length ∧ ∀ k, k < U.length → fi 633 k = nI (U.getD k 0)
def mnF (a k : Nat) : Prop := (a ≠ 604 ∨ k ≠ 36) ∧ a ≠ 633
theorem MNr.add {fi : Nat → Nat → Int32} {T : List Nat} (h : MNr fi T) (c : Nat) : MNr (up2 (up2 fi 633 T.length (nI c)) 604 36 (nI (T.length + 1))) (T ++ [c]) := by
  refine ⟨by rw [up2_same, List.length_append]; rfl, fun k hk => ?_⟩
  rw [List.length_append] at hk
  have hk : k < T.length + 1 := hk
  rw [up2_row _ _ (by decide)]
  by_cases e : k = T.length
  · subst e; rw [up2_same, gD_last]
  · rw [up2_col _ _ e, gD_lt (by omega)]; exact h.2 k (by omega)
def mnmQ (L : Nat) (fi : Nat → Nat → Int32) (fl : Nat → Nat → Int64) (fr : Nat → Nat → Option Nat) (U : List Nat) : Option Value → am_H → Prop := fun v h' => v = none ∧ ∃ fi', h' = (SH L, fi', fl, fr) ∧ MNr fi' U ∧ ∀ a k, mnF a k → fi' a k = fi a k
theorem MFr.keepN {fi fi' : Nat → Nat → Int32} {x : Nat → Nat} {n : Nat} {A : AS} (hA : AOk n A) (h : MFr fi x n A) (e : ∀ a k, mnF a k → fi' a k = fi a k) : MFr fi' x n A := h.keep hA (fun a k z => e a k ⟨Or.inl (by omega), by omega⟩) (fun k z => e 604 k ⟨Or.inr (by omega), by decide⟩)
theorem MFr.tw {fi : Nat → Nat → Int32} {x : Nat → Nat} {n : Nat} {A : AS} (h : MFr fi x n A) {t : Nat} (ht : t < totW A.2.1) : fi 631 t = nI (tix A.2.1 t).1 ∧ fi 632 t = nI (tix A.2.1 t).2 := by
  obtain ⟨h1, h2, h3⟩ := tix_ok A.2.1 t ht
  have := h.2.2.2.2 _ h1 _ h2
  rw [h3] at this
  exact this
section MN
variable {d L : Nat} {fi : Nat → Nat → Int32} {fl : Nat → Nat → Int64} {fr : Nat → Nat → Option Nat} {F G : Nat} {x : Nat → Nat} {n : Nat} {A : AS}
theorem cm_put (hF : FRok F G fr) {U : List Nat} (hU : MNr fi U) (hl : U.length < 140) {c : Nat} : Rn d 38 0 [some (.ref 604), some (.int (nI c))] [] (SH L, fi, fl, fr) (mnmQ L fi fl fr (U ++ [c])) := by
  refine Rn.aload_n k_38 rfl rfl ?_
  refine Rn.getA k_38 rfl rfl (s604 L) (hF.l 57 rfl) ?_
  refine Rn.aload_n k_38 rfl rfl ?_
  refine Rn.getI k_38 rfl rfl (s604 L) ?_
  refine Rn.iload_n k_38 rfl rfl ?_
  refine Rn.iastore (U.length) k_38 rfl (s633 L) (hU.1) (hl) (by decide) (rfl) ?_
  refine Rn.aload_n k_38 rfl rfl ?_
  refine Rn.dupa k_38 rfl ?_
  refine Rn.getI k_38 rfl rfl (s604 L) ?_
  rw [show up2 fi 633 U.length (nI c) 604 36 = nI U.length from hU.1]
  refine Rn.iconst (1) k_38 rfl rfl ?_
  refine Rn.iadd k_38 rfl ?_
  rw [c_add 1 1 rfl]
  refine Rn.putI k_38 rfl (rfl) (s604 L) ?_
  refine Rn.retv k_38 rfl q_38 rfl ?_
  refine ⟨rfl, _, rfl, hU.add c, fun a k ha => ?_⟩
  rcases ha.1 with h | h
  · rw [up2_row _ _ h, up2_row _ _ ha.2]
  · rw [up2_col _ _ h, up2_row _ _ ha.2]
theorem cm_putAll (hF : FRok F G fr) (hT : MTX fi x n) {U : List Nat} (hU : MNr fi U) {a b : Nat} (hab : a ≤ b) (hb : b ≤ n) (hl : U.length + (b - a) ≤ 140) : Rn (d + 1) 39 0 [some (.ref 604), some (.int (nI a)), some (.int (nI b)), none] [] (SH L, fi, fl, fr) (mnmQ L fi fl fr (U ++ sl x a b)) := by
  have hn := hT.2
  have loop : ∀ (m p : Nat) (V : List Nat) (gi : Nat → Nat → Int32), p + m = b → MNr gi V → V.length + (b - p) ≤ 140 → V ++ sl x p b = U ++ sl x a b → (∀ a k, mnF a k → gi a k = fi a k) → Rn (d + 1) 39 2 [some (.ref 604), some (.int (nI a)), some (.int (nI b)), some (.int (nI p))] [] (SH L, gi, fl, fr) (mnmQ L fi fl fr (U ++ sl x a b)) := by
    intro m
    induction m with
    | zero =>
      intro p V gi hp hV hl e hG
      have : p = b := by omega
      subst this
      refine Rn.iload_n k_39 rfl rfl ?_
      refine Rn.iload_n k_39 rfl rfl ?_
      refine Rn.icmp_ge 23 k_39 rfl rfl (fun h1 => ?_) (fun h1 => ?_)
      · refine Rn.retv k_39 rfl q_39 rfl ?_
        refine ⟨rfl, gi, rfl, ?_, hG⟩
        rw [← e, sl_nil x (Nat.le_refl p), List.append_nil]
        exact hV
      · rw [nI_leI (by omega) (by omega)] at h1
        omega
    | succ m ih =>
      intro p V gi hp hV hl e hG
      obtain ⟨t1, t2⟩ := hT.1 p (by omega)
      rw [sl_cons x (by omega)] at e
      refine Rn.iload_n k_39 rfl rfl ?_
      refine Rn.iload_n k_39 rfl rfl ?_
      refine Rn.icmp_ge 23 k_39 rfl rfl (fun h1 => ?_) (fun h1 => ?_)
      · rw [nI_leI (by omega) (by omega)] at h1
        omega
      · refine Rn.aload_n k_39 rfl rfl ?_
        refine Rn.aload_n k_39 rfl rfl ?_
        refine Rn.getA k_39 rfl rfl (s604 L) (hF.l 30 rfl) ?_
        refine Rn.iload_n k_39 rfl rfl ?_
        refine Rn.iaload (p) k_39 rfl (s606 L) (rfl) (by omega) (by decide) ?_
        rw [hG 606 p ⟨Or.inl (by decide), by decide⟩, t1]
        refine Rn.cV2 k_39 rfl rfl q_38 rfl (Nat.le_of_ble_eq_true rfl) (Nat.le_of_ble_eq_true rfl) (s604 L) (cm_put hF hV (by omega)) (fun v h' hq => ?_)
        obtain ⟨rfl, gi', rfl, hV', hG'⟩ := hq
        show Rn _ _ _ _ [] _ _
        refine Rn.iinc3 (1) k_39 rfl rfl rfl ?_
        rw [c_add 1 1 rfl]
        refine Rn.goto 2 k_39 rfl rfl ?_
        refine ih (p + 1) (V ++ [x p]) gi' (by omega) hV' (by rw [List.length_append]; show V.length + 1 + _ ≤ _; omega) ?_ (fun a k ha => (hG' a k ha).trans (hG a k ha))
        rw [List.append_assoc]
        exact e
  refine Rn.iload_n k_39 rfl rfl ?_
  refine Rn.istore_n3 k_39 rfl rfl ?_
  exact loop (b - a) a U fi (by omega) hU hl rfl (fun _ _ _ => rfl)
theorem cm_valueOf (hF : FRok F G fr) {t i w p : Nat} (ht : t < 120) (hi : i < 40) (hw : w < 2 ^ 30) (h31 : fi 631 t = nI i) (h32 : fi 632 t = nI w) {ps : List (Nm × List Nm)} (hps : ps.length ≤ 4) (hpv : ∀ p, p < ps.length → 1 ≤ (ps.getD p ([], [])).2.length ∧ (ps.getD p ([], [])).2.length ≤ 6) (h25 : fi 625 i = nI ps.length) (h28 : ∀ p, p < ps.length → fi 628 (4 * i + p) = nI (ps.getD p ([], [])).2.length) (hp : p < ps.length) : Rn d 40 0 [some (.ref 604), some (.int (nI t)), some (.int (nI (4 * i + p))), none, none, none] [] (SH L, fi, fl, fr) (Ret (SH L, fi, fl, fr) (some (.int (nI (6 * (4 * i + p) + vturn ps w p % (ps.getD p ([], [])).2.length))))) := by
  have loop : ∀ m q, q = p + m → q < ps.length → Rn d 40 29 [some (.ref 604), some (.int (nI t)), some (.int (nI (4 * i + p))), some (.int (nI i)), some (.int (nI (vturn ps w q))), some (.int (nI (4 * i + q)))] [] (SH L, fi, fl, fr) (Ret (SH L, fi, fl, fr) (some (.int (nI (6 * (4 * i + p) + vturn ps w p % (ps.getD p ([], [])).2.length))))) := by
    intro m
    induction m with
    | zero =>
      intro q hq hql
      have : q = p := by omega
      subst this
      have ht' := vturn_le ps w q
      obtain ⟨g1, g2⟩ := hpv q hql
      refine Rn.iload k_40 rfl rfl ?_
      refine Rn.iload_n k_40 rfl rfl ?_
      refine Rn.icmp_le 53 k_40 rfl rfl (fun h1 => ?_) (fun h1 => ?_)
      · refine Rn.bipush (6) k_40 rfl rfl ?_
        refine Rn.iload_n k_40 rfl rfl ?_
        rw [show (6 : Int32) = nI 6 from rfl]
        refine Rn.imul k_40 rfl ?_
        rw [pk_mul]
        refine Rn.iload k_40 rfl rfl ?_
        refine Rn.aload_n k_40 rfl rfl ?_
        refine Rn.getA k_40 rfl rfl (s604 L) (hF.l 52 rfl) ?_
        refine Rn.iload_n k_40 rfl rfl ?_
        refine Rn.iaload (4 * i + q) k_40 rfl (s628 L) (rfl) (by omega) (by decide) ?_
        rw [h28 q hql]
        refine Rn.irem k_40 rfl (nI_ne0 (by omega) (by omega)) ?_
        rw [pk_rem (by omega) (by omega) (by omega)]
        refine Rn.iadd k_40 rfl ?_
        rw [nI_add]
        refine Rn.reti k_40 rfl q_40 rfl (rfl) ?_
        exact ⟨rfl, rfl⟩
      · rw [nI_leI (by omega) (by omega)] at h1
        omega
    | succ m ih =>
      intro q hq hql
      have ht' := vturn_le ps w q
      obtain ⟨g1, g2⟩ := hpv q hql
      refine Rn.iload k_40 rfl rfl ?_
      refine Rn.iload_n k_40 rfl rfl ?_
      refine Rn.icmp_le 53 k_40 rfl rfl (fun h1 => ?_) (fun h1 => ?_)
      · rw [nI_leI (by omega) (by omega)] at h1
        omega
      · refine Rn.iload k_40 rfl rfl ?_
        refine Rn.aload_n k_40 rfl rfl ?_
        refine Rn.getA k_40 rfl rfl (s604 L) (hF.l 52 rfl) ?_
        refine Rn.iload k_40 rfl rfl ?_
        refine Rn.iaload (4 * i + q) k_40 rfl (s628 L) (rfl) (by omega) (by decide) ?_
        rw [h28 q hql]
        refine Rn.idiv k_40 rfl (nI_ne0 (by omega) (by omega)) ?_
        rw [pk_div (by omega) (by omega) (by omega)]
        refine Rn.istore4 k_40 rfl rfl ?_
        refine Rn.iinc5 (-1) k_40 rfl rfl rfl ?_
        rw [show nI (4 * i + q) + (-1) = nI (4 * i + q - 1) from sb_m1 (by omega), show 4 * i + q - 1 = 4 * i + (q - 1) by omega]
        refine Rn.goto 29 k_40 rfl rfl ?_
        have := ih (q - 1) (by omega) (by omega)
        have e1 : vturn ps w (q - 1) = vturn ps w q / (ps.getD q ([], [])).2.length := by
          unfold vturn
          rw [show q - 1 + 1 = q by omega, List.drop_eq_getElem_cons hql, List.foldr_cons, List.getD_eq_getElem?_getD, List.getElem?_eq_getElem hql]
          rfl
        rw [e1] at this
        exact this
  refine Rn.aload_n k_40 rfl rfl ?_
  refine Rn.getA k_40 rfl rfl (s604 L) (hF.l 55 rfl) ?_
  refine Rn.iload_n k_40 rfl rfl ?_
  refine Rn.iaload (t) k_40 rfl (s631 L) (rfl) (ht) (by decide) ?_
  rw [h31]
  refine Rn.istore_n3 k_40 rfl rfl ?_
  refine Rn.aload_n k_40 rfl rfl ?_
  refine Rn.getA k_40 rfl rfl (s604 L) (hF.l 56 rfl) ?_
  refine Rn.iload_n k_40 rfl rfl ?_
  refine Rn.iaload (t) k_40 rfl (s632 L) (rfl) (ht) (by decide) ?_
  rw [h32]
  refine Rn.istore4 k_40 rfl rfl ?_
  refine Rn.iconst (4) k_40 rfl rfl ?_
  refine Rn.iload_n k_40 rfl rfl ?_
  rw [show (4 : Int32) = nI 4 from rfl]
  refine Rn.imul k_40 rfl ?_
  rw [pk_mul]
  refine Rn.aload_n k_40 rfl rfl ?_
  refine Rn.getA k_40 rfl rfl (s604 L) (hF.l 49 rfl) ?_
  refine Rn.iload_n k_40 rfl rfl ?_
  refine Rn.iaload (i) k_40 rfl (s625 L) (rfl) (hi) (by decide) ?_
  rw [h25]
  refine Rn.iadd k_40 rfl ?_
  rw [nI_add]
  refine Rn.iconst (1) k_40 rfl rfl ?_
  refine Rn.isub k_40 rfl ?_
  rw [c_sub 1 1 rfl (by omega), show 4 * i + ps.length - 1 = 4 * i + (ps.length - 1) by omega]
  refine Rn.istore5 k_40 rfl rfl ?_
  have := loop (ps.length - 1 - p) (ps.length - 1) (by omega) (by omega)
  rw [show vturn ps w (ps.length - 1) = w by unfold vturn; rw [List.drop_eq_nil_of_le (by omega)]; rfl] at this
  exact this
set_option maxHeartbeats 4000000 in
theorem cm_writeName (hF : FRok F G fr) (hS : MFr fi x n A) (hA : AOk n A) {t : Nat} (ht : t < totW A.2.1) : Rn (d + 2) 41 0 [some (.ref 604), some (.int (nI t)), none, none, none] [] (SH L, fi, fl, fr) (mnmQ L fi fl fr (tnm A.1 (A.2.1.getD (tix A.2.1 t).1 dK) (tix A.2.1 t).2)) := by
  have h120 := hA.2.2.2.2.2.1
  have h40 := hA.2.2.2.1
  have h10 := hA.1
  obtain ⟨t1, t2, t3⟩ := tix_ok A.2.1 t ht
  obtain ⟨u1, u2⟩ := hS.tw ht
  generalize (tix A.2.1 t).1 = i at t1 t2 t3 u1 u2 ⊢
  generalize (tix A.2.1 t).2 = w at t2 t3 u2 ⊢
  have hk := hA.k t1
  have hK := hS.2.2.1.2 i t1
  have hlen : (tnm A.1 (A.2.1.getD i dK) w).length ≤ 130 := tnm_len hA t1 w
  generalize A.2.1.getD i dK = k at t2 hk hK hlen ⊢
  have hps := hk.2.2.2.2.2.2.2.2.1
  have hnl := okV_len (okN_okV hk.2.1)
  have hvs := fun {p : Nat} (hp : p < (k_ps k).length) => vsel_ok hk w hp
  have hw24 := hk.2.2.2.2.2.2.2.2.2.2.2
  have hpn : ∀ p, p < (k_ps k).length → ((k_ps k).getD p ([], [])).1.length ≤ 12 := fun p hp => okV_len (okN_okV (hk.2.2.2.2.2.2.2.2.2.1 _ (gD_mem hp)).1)
  have pl := fun p hp => psegs_len (w := w) (fun p hp => okN_okV (hk.2.2.2.2.2.2.2.2.2.1 p hp).1) (fun p hp => (vsel_ok hk w hp).1) p hp
  have hpv : ∀ p, p < (k_ps k).length → 1 ≤ ((k_ps k).getD p ([], [])).2.length ∧ ((k_ps k).getD p ([], [])).2.length ≤ 6 := fun p hp => hk.pv hp
  obtain ⟨a1, a2, a3, a4, a5, a6, a7, a8, a9, a10, a11⟩ := hK
  have hT := hS.1
  have kp : ∀ {gi : Nat → Nat → Int32}, (∀ a k, mnF a k → gi a k = fi a k) → ∀ a j, a ≠ 604 → a ≠ 633 → gi a j = fi a j := fun hG a j z1 z2 => hG a j ⟨Or.inl z1, z2⟩
  -- the end
  have fin : ∀ (U : List Nat) (gi : Nat → Nat → Int32) (q3 q4 : Int32), U.length ≤ 130 → MNr gi U → (∀ a k, mnF a k → gi a k = fi a k) → tnm A.1 k w = U ++ (if (k_ps k).length = 0 then [] else [93]) → Rn (d + 2) 41 158 [some (.ref 604), some (.int (nI t)), some (.int (nI i)), some (.int q3), some (.int q4)] [] (SH L, gi, fl, fr) (mnmQ L fi fl fr (tnm A.1 k w)) := by
    intro U gi q3 q4 hUl hU hG e
    refine Rn.aload_n k_41 rfl rfl ?_
    refine Rn.getA k_41 rfl rfl (s604 L) (hF.l 49 rfl) ?_
    refine Rn.iload_n k_41 rfl rfl ?_
    refine Rn.iaload (i) k_41 rfl (s625 L) (rfl) (by omega) (by decide) ?_
    rw [kp hG _ _ (by decide) (by decide), a10]
    refine Rn.if_le 173 k_41 rfl rfl (fun h4 => ?_) (fun h4 => ?_)
    · rw [c_le 0 0 rfl (by omega) (by decide)] at h4
      refine Rn.retv k_41 rfl q_41 rfl ?_
      rw [if_pos (by omega), List.append_nil] at e
      rw [e]
      exact ⟨rfl, gi, rfl, hU, hG⟩
    · rw [c_le 0 0 rfl (by omega) (by decide)] at h4
      rw [if_neg (by omega)] at e
      refine Rn.aload_n k_41 rfl rfl ?_
      refine Rn.bipush (93) k_41 rfl rfl ?_
      refine Rn.cV2 k_41 rfl rfl q_38 rfl (Nat.le_of_ble_eq_true rfl) (Nat.le_of_ble_eq_true rfl) (s604 L) (cm_put (c := 93) hF hU (by omega)) (fun v h' hq => ?_)
      obtain ⟨rfl, gi', rfl, hU', hG'⟩ := hq
      show Rn _ _ _ _ [] _ _
      refine Rn.retv k_41 rfl q_41 rfl ?_
      rw [e]
      exact ⟨rfl, gi', rfl, hU', fun a k ha => (hG' a k ha).trans (hG a k ha)⟩
  -- the parameters
  have par : ∀ (m p : Nat) (pre : List Nat) (gi : Nat → Nat → Int32) (q3 : Int32), p + m = (k_ps k).length → pre.length ≤ 25 → MNr gi (pre ++ psegs (k_ps k) w p) → (∀ a k, mnF a k → gi a k = fi a k) → tnm A.1 k w = pre ++ psegs (k_ps k) w (k_ps k).length ++ (if (k_ps k).length = 0 then [] else [93]) → Rn (d + 2) 41 66 [some (.ref 604), some (.int (nI t)), some (.int (nI i)), some (.int q3), some (.int (nI (4 * i + p)))] [] (SH L, gi, fl, fr) (mnmQ L fi fl fr (tnm A.1 k w)) := by
    intro m
    induction m with
    | zero =>
      intro p pre gi q3 hp hpre hU hG e
      have : p = (k_ps k).length := by omega
      subst this
      have := pl _ (Nat.le_refl _)
      refine Rn.iload k_41 rfl rfl ?_
      refine Rn.iconst (4) k_41 rfl rfl ?_
      refine Rn.iload_n k_41 rfl rfl ?_
      rw [show (4 : Int32) = nI 4 from rfl]
      refine Rn.imul k_41 rfl ?_
      rw [pk_mul]
      refine Rn.aload_n k_41 rfl rfl ?_
      refine Rn.getA k_41 rfl rfl (s604 L) (hF.l 49 rfl) ?_
      refine Rn.iload_n k_41 rfl rfl ?_
      refine Rn.iaload (i) k_41 rfl (s625 L) (rfl) (by omega) (by decide) ?_
      rw [kp hG _ _ (by decide) (by decide), a10]
      refine Rn.iadd k_41 rfl ?_
      rw [nI_add]
      refine Rn.icmp_ge 158 k_41 rfl rfl (fun h2 => ?_) (fun h2 => ?_)
      · refine fin _ gi _ _ (by rw [List.length_append]; omega) hU hG e
      · rw [nI_leI (by omega) (by omega)] at h2
        omega
    | succ m ih =>
      intro p pre gi q3 hp hpre hU hG e
      have hpl : p < (k_ps k).length := by omega
      have hsl := pl p (by omega)
      obtain ⟨⟨b1, e1, v1, v2, v3, v4, v5⟩, v6, v7⟩ := a11 p hpl
      have hU1 : (pre ++ psegs (k_ps k) w p).length ≤ 103 := by rw [List.length_append]; omega
      have hse : psegs (k_ps k) w (p + 1) = psegs (k_ps k) w p ++ pseg (k_ps k) w p := rfl
      have hnl1 := hpn p hpl
      have hbe : e1 - b1 = ((k_ps k).getD p ([], [])).1.length := by rw [← v5, sl_len]
      -- the value's place
      have hmod : vturn (k_ps k) w p % ((k_ps k).getD p ([], [])).2.length < ((k_ps k).getD p ([], [])).2.length := Nat.mod_lt _ (by have := (hpv p hpl).1; omega)
      obtain ⟨b2, e2, y1, y2, y3, y4, y5⟩ := v7 _ hmod
      have y5 : sl x b2 e2 = vsel (k_ps k) w p := y5
      have hvl := okV_len (hvs hpl).1
      have hbe2 : e2 - b2 = (vsel (k_ps k) w p).length := by rw [← y5, sl_len]
      have hcol : 6 * (4 * i + p) + vturn (k_ps k) w p % ((k_ps k).getD p ([], [])).2.length < 960 := by have := (hpv p hpl).2; omega
      refine Rn.iload k_41 rfl rfl ?_
      refine Rn.iconst (4) k_41 rfl rfl ?_
      refine Rn.iload_n k_41 rfl rfl ?_
      rw [show (4 : Int32) = nI 4 from rfl]
      refine Rn.imul k_41 rfl ?_
      rw [pk_mul]
      refine Rn.aload_n k_41 rfl rfl ?_
      refine Rn.getA k_41 rfl rfl (s604 L) (hF.l 49 rfl) ?_
      refine Rn.iload_n k_41 rfl rfl ?_
      refine Rn.iaload (i) k_41 rfl (s625 L) (rfl) (by omega) (by decide) ?_
      rw [kp hG _ _ (by decide) (by decide), a10]
      refine Rn.iadd k_41 rfl ?_
      rw [nI_add]
      refine Rn.icmp_ge 158 k_41 rfl rfl (fun h2 => ?_) (fun h2 => ?_)
      · rw [nI_leI (by omega) (by omega)] at h2
        omega
      · have mark : Rn (d + 2) 41 97 [some (.ref 604), some (.int (nI t)), some (.int (nI i)), some (.int q3), some (.int (nI (4 * i + p)))] [.int (nI (if p = 0 then 91 else 44)), .ref 604] (SH L, gi, fl, fr) (mnmQ L fi fl fr (tnm A.1 k w)) := by
          refine Rn.cV2 k_41 rfl rfl q_38 rfl (Nat.le_of_ble_eq_true rfl) (Nat.le_of_ble_eq_true rfl) (s604 L) (cm_put hF hU (by omega)) (fun v h' hq => ?_)
          obtain ⟨rfl, g1, rfl, hU1', hG1⟩ := hq
          show Rn _ _ _ _ [] _ _
          have hG1 : ∀ a k, mnF a k → g1 a k = fi a k := fun a k ha => (hG1 a k ha).trans (hG a k ha)
          refine Rn.aload_n k_41 rfl rfl ?_
          refine Rn.aload_n k_41 rfl rfl ?_
          refine Rn.getA k_41 rfl rfl (s604 L) (hF.l 50 rfl) ?_
          refine Rn.iload k_41 rfl rfl ?_
          refine Rn.iaload (4 * i + p) k_41 rfl (s626 L) (rfl) (by omega) (by decide) ?_
          refine Rn.aload_n k_41 rfl rfl ?_
          refine Rn.getA k_41 rfl rfl (s604 L) (hF.l 51 rfl) ?_
          refine Rn.iload k_41 rfl rfl ?_
          refine Rn.iaload (4 * i + p) k_41 rfl (s627 L) (rfl) (by omega) (by decide) ?_
          rw [kp hG1 626 _ (by decide) (by decide), v1, kp hG1 627 _ (by decide) (by decide), v2]
          refine Rn.cV3 k_41 rfl rfl q_39 rfl (Nat.le_of_ble_eq_true rfl) (Nat.le_of_ble_eq_true rfl) (s604 L) (cm_putAll hF (hT.keep (fun j => kp hG1 _ _ (by decide) (by decide))) hU1' v3 v4 (by simp only [List.length_append, List.length_singleton] at hU1 ⊢; omega)) (fun v h' hq => ?_)
          obtain ⟨rfl, g2, rfl, hU2, hG2⟩ := hq
          show Rn _ _ _ _ [] _ _
          have hG2 : ∀ a k, mnF a k → g2 a k = fi a k := fun a k ha => (hG2 a k ha).trans (hG1 a k ha)
          rw [v5] at hU2
          refine Rn.aload_n k_41 rfl rfl ?_
          refine Rn.bipush (61) k_41 rfl rfl ?_
          refine Rn.cV2 k_41 rfl rfl q_38 rfl (Nat.le_of_ble_eq_true rfl) (Nat.le_of_ble_eq_true rfl) (s604 L) (cm_put (c := 61) hF hU2 (by simp only [List.length_append, List.length_singleton] at hU1 ⊢; omega)) (fun v h' hq => ?_)
          obtain ⟨rfl, g3, rfl, hU3, hG3⟩ := hq
          show Rn _ _ _ _ [] _ _
          have hG3 : ∀ a k, mnF a k → g3 a k = fi a k := fun a k ha => (hG3 a k ha).trans (hG2 a k ha)
          have hvo := cm_valueOf (d := d + 1) (L := L) (fl := fl) (fi := g3) (t := t) (i := i) (w := w) (p := p) hF (by omega) (by omega) (by omega) ((kp hG3 _ _ (by decide) (by decide)).trans u1) ((kp hG3 _ _ (by decide) (by decide)).trans u2) hps hpv ((kp hG3 _ _ (by decide) (by decide)).trans a10) (fun p hp => (kp hG3 _ _ (by decide) (by decide)).trans (a11 p hp).2.1) hpl
          refine Rn.aload_n k_41 rfl rfl ?_
          refine Rn.aload_n k_41 rfl rfl ?_
          refine Rn.getA k_41 rfl rfl (s604 L) (hF.l 53 rfl) ?_
          refine Rn.aload_n k_41 rfl rfl ?_
          refine Rn.iload_n k_41 rfl rfl ?_
          refine Rn.iload k_41 rfl rfl ?_
          refine Rn.cV3I k_41 rfl rfl q_40 rfl (Nat.le_of_ble_eq_true rfl) (Nat.le_of_ble_eq_true rfl) (s604 L) (hvo) ?_
          refine Rn.iaload (6 * (4 * i + p) + vturn (k_ps k) w p % ((k_ps k).getD p ([], [])).2.length) k_41 rfl (s629 L) (rfl) (hcol) (by decide) ?_
          rw [kp hG3 _ _ (by decide) (by decide), y1]
          refine Rn.aload_n k_41 rfl rfl ?_
          refine Rn.getA k_41 rfl rfl (s604 L) (hF.l 54 rfl) ?_
          refine Rn.aload_n k_41 rfl rfl ?_
          refine Rn.iload_n k_41 rfl rfl ?_
          refine Rn.iload k_41 rfl rfl ?_
          refine Rn.cV3I k_41 rfl rfl q_40 rfl (Nat.le_of_ble_eq_true rfl) (Nat.le_of_ble_eq_true rfl) (s604 L) (hvo) ?_
          refine Rn.iaload (6 * (4 * i + p) + vturn (k_ps k) w p % ((k_ps k).getD p ([], [])).2.length) k_41 rfl (s630 L) (rfl) (hcol) (by decide) ?_
          rw [kp hG3 _ _ (by decide) (by decide), y2]
          refine Rn.cV3 k_41 rfl rfl q_39 rfl (Nat.le_of_ble_eq_true rfl) (Nat.le_of_ble_eq_true rfl) (s604 L) (cm_putAll hF (hT.keep (fun j => kp hG3 _ _ (by decide) (by decide))) hU3 y3 y4 (by simp only [List.length_append, List.length_singleton] at hU1 ⊢; omega)) (fun v h' hq => ?_)
          obtain ⟨rfl, g4, rfl, hU4, hG4⟩ := hq
          show Rn _ _ _ _ [] _ _
          have hG4 : ∀ a k, mnF a k → g4 a k = fi a k := fun a k ha => (hG4 a k ha).trans (hG3 a k ha)
          rw [y5] at hU4
          refine Rn.iinc4 (1) k_41 rfl rfl rfl ?_
          rw [c_add 1 1 rfl]
          refine Rn.goto 66 k_41 rfl rfl ?_
          refine ih (p + 1) pre g4 _ (by omega) hpre ?_ hG4 e
          rw [hse]
          unfold pseg
          simp only [List.append_assoc, List.cons_append, List.nil_append] at hU4 ⊢
          exact hU4
        refine Rn.aload_n k_41 rfl rfl ?_
        refine Rn.iload k_41 rfl rfl ?_
        refine Rn.iconst (4) k_41 rfl rfl ?_
        refine Rn.iload_n k_41 rfl rfl ?_
        rw [show (4 : Int32) = nI 4 from rfl]
        refine Rn.imul k_41 rfl ?_
        rw [pk_mul]
        refine Rn.icmp_ne 95 k_41 rfl rfl (fun h3 => ?_) (fun h3 => ?_)
        · rw [nI_eq (by omega) (by omega)] at h3
          refine Rn.bipush (44) k_41 rfl rfl ?_
          rw [if_neg (by omega)] at mark
          exact mark
        · rw [nI_eq (by omega) (by omega)] at h3
          refine Rn.bipush (91) k_41 rfl rfl ?_
          refine Rn.goto 97 k_41 rfl rfl ?_
          rw [if_pos (by omega)] at mark
          exact mark
  -- the case's name
  have cas : ∀ (U : List Nat) (gi : Nat → Nat → Int32) (q3 : Int32), U.length ≤ 13 → MNr gi U → (∀ a k, mnF a k → gi a k = fi a k) → U = (if k_su k = 0 then [] else snm A.1 (k_su k) ++ [46]) → Rn (d + 2) 41 45 [some (.ref 604), some (.int (nI t)), some (.int (nI i)), some (.int q3), none] [] (SH L, gi, fl, fr) (mnmQ L fi fl fr (tnm A.1 k w)) := by
    intro U gi q3 hUl hU hG e
    obtain ⟨b1, e1, v1, v2, v3, v4, v5⟩ := a2
    have hbe : e1 - b1 = (k_nm k).length := by rw [← v5, sl_len]
    refine Rn.aload_n k_41 rfl rfl ?_
    refine Rn.aload_n k_41 rfl rfl ?_
    refine Rn.getA k_41 rfl rfl (s604 L) (hF.l 39 rfl) ?_
    refine Rn.iload_n k_41 rfl rfl ?_
    refine Rn.iaload (i) k_41 rfl (s615 L) (rfl) (by omega) (by decide) ?_
    refine Rn.aload_n k_41 rfl rfl ?_
    refine Rn.getA k_41 rfl rfl (s604 L) (hF.l 40 rfl) ?_
    refine Rn.iload_n k_41 rfl rfl ?_
    refine Rn.iaload (i) k_41 rfl (s616 L) (rfl) (by omega) (by decide) ?_
    rw [kp hG 615 _ (by decide) (by decide), v1, kp hG 616 _ (by decide) (by decide), v2]
    refine Rn.cV3 k_41 rfl rfl q_39 rfl (Nat.le_of_ble_eq_true rfl) (Nat.le_of_ble_eq_true rfl) (s604 L) (cm_putAll hF (hT.keep (fun j => kp hG _ _ (by decide) (by decide))) hU v3 v4 (by omega)) (fun v h' hq => ?_)
    obtain ⟨rfl, g1, rfl, hU1, hG1⟩ := hq
    show Rn _ _ _ _ [] _ _
    have hG1 : ∀ a k, mnF a k → g1 a k = fi a k := fun a k ha => (hG1 a k ha).trans (hG a k ha)
    rw [v5] at hU1
    refine Rn.iconst (4) k_41 rfl rfl ?_
    refine Rn.iload_n k_41 rfl rfl ?_
    rw [show (4 : Int32) = nI 4 from rfl]
    refine Rn.imul k_41 rfl ?_
    rw [pk_mul]
    refine Rn.istore4 k_41 rfl rfl ?_
    refine par (k_ps k).length 0 (U ++ k_nm k) g1 _ (Nat.zero_add _) (by rw [List.length_append]; omega) ?_ hG1 ?_
    · show MNr g1 (U ++ k_nm k ++ [])
      rw [List.append_nil]
      exact hU1
    · unfold tnm
      rw [← e]
  have hE : ∀ a k, mnF a k → up2 fi 604 36 0 a k = fi a k := fun a k ha => by
    rcases ha.1 with h | h
    · exact up2_row _ _ h
    · exact up2_col _ _ h
  have hE0 : MNr (up2 fi 604 36 0) [] := ⟨up2_same _ _ _ _, fun k hk => absurd hk (Nat.not_lt_zero k)⟩
  refine Rn.aload_n k_41 rfl rfl ?_
  refine Rn.iconst (0) k_41 rfl rfl ?_
  refine Rn.putI k_41 rfl (rfl) (s604 L) ?_
  refine Rn.aload_n k_41 rfl rfl ?_
  refine Rn.getA k_41 rfl rfl (s604 L) (hF.l 55 rfl) ?_
  refine Rn.iload_n k_41 rfl rfl ?_
  refine Rn.iaload (t) k_41 rfl (s631 L) (rfl) (by omega) (by decide) ?_
  rw [kp hE _ _ (by decide) (by decide), u1]
  refine Rn.istore_n2 k_41 rfl rfl ?_
  refine Rn.aload_n k_41 rfl rfl ?_
  refine Rn.getA k_41 rfl rfl (s604 L) (hF.l 38 rfl) ?_
  refine Rn.iload_n k_41 rfl rfl ?_
  refine Rn.iaload (i) k_41 rfl (s614 L) (rfl) (by omega) (by decide) ?_
  rw [kp hE _ _ (by decide) (by decide), a1]
  refine Rn.istore_n3 k_41 rfl rfl ?_
  refine Rn.iload_n k_41 rfl rfl ?_
  by_cases h0 : k_su k = 0
  · rw [h0]
    refine Rn.if_lt 45 k_41 rfl rfl (fun h1 => ?_) (fun h1 => ?_)
    · exact cas [] _ _ (Nat.zero_le _) hE0 hE (by rw [if_pos h0])
    · exact absurd (by decide) h1
  · have hsu := hk.1
    rw [c_sub 1 1 rfl (by omega)]
    have hsn := snm_ok hA hsu h0
    have hsl := okV_len (okN_okV hsn.1)
    refine Rn.if_lt 45 k_41 rfl rfl (fun h1 => ?_) (fun h1 => ?_)
    · exact absurd h1 (c_neg (by omega))
    · obtain ⟨b1, e1, v1, v2, v3, v4, v5⟩ := (hS.2.1.2 (k_su k - 1) (by omega)).1
      rw [← snm_at h0] at v5
      have hbe : e1 - b1 = (snm A.1 (k_su k)).length := by rw [← v5, sl_len]
      refine Rn.aload_n k_41 rfl rfl ?_
      refine Rn.aload_n k_41 rfl rfl ?_
      refine Rn.getA k_41 rfl rfl (s604 L) (hF.l 33 rfl) ?_
      refine Rn.iload_n k_41 rfl rfl ?_
      refine Rn.iaload (k_su k - 1) k_41 rfl (s609 L) (rfl) (by omega) (by decide) ?_
      refine Rn.aload_n k_41 rfl rfl ?_
      refine Rn.getA k_41 rfl rfl (s604 L) (hF.l 34 rfl) ?_
      refine Rn.iload_n k_41 rfl rfl ?_
      refine Rn.iaload (k_su k - 1) k_41 rfl (s610 L) (rfl) (by omega) (by decide) ?_
      rw [kp hE 609 _ (by decide) (by decide), v1, kp hE 610 _ (by decide) (by decide), v2]
      refine Rn.cV3 k_41 rfl rfl q_39 rfl (Nat.le_of_ble_eq_true rfl) (Nat.le_of_ble_eq_true rfl) (s604 L) (cm_putAll hF (hT.keep (fun j => kp hE _ _ (by decide) (by decide))) hE0 v3 v4 (by simp only [List.length_nil]; omega)) (fun v h' hq => ?_)
      obtain ⟨rfl, g1, rfl, hU1, hG1⟩ := hq
      show Rn _ _ _ _ [] _ _
      have hG1 : ∀ a k, mnF a k → g1 a k = fi a k := fun a k ha => (hG1 a k ha).trans (hE a k ha)
      rw [v5, List.nil_append] at hU1
      refine Rn.aload_n k_41 rfl rfl ?_
      refine Rn.bipush (46) k_41 rfl rfl ?_
      refine Rn.cV2 k_41 rfl rfl q_38 rfl (Nat.le_of_ble_eq_true rfl) (Nat.le_of_ble_eq_true rfl) (s604 L) (cm_put (c := 46) hF hU1 (by omega)) (fun v h' hq => ?_)
      obtain ⟨rfl, g2, rfl, hU2, hG2⟩ := hq
      show Rn _ _ _ _ [] _ _
      exact cas _ g2 _ (by rw [List.length_append]; show _ + 1 ≤ 13; omega) hU2 (fun a k ha => (hG2 a k ha).trans (hG1 a k ha)) (by rw [if_neg h0])
end MN
