/-! ScriptReader: addParameter -/
theorem vcode_ok {t : Nm} (h : okV t = true) : vcode t = enc t := by unfold vcode; rw [if_pos h]
theorem vcode_no {t : Nm} (h : okV t = false) : vcode t = 0 := by unfold vcode; rw [if_neg (by rw [h]; decide)]
theorem eqvV {w : List Nm} {t : Nm} {cap : Nat} (hok : ∀ s ∈ w, okV s = true) (hne : t ≠ []) : (vcode t = 0 ∨ cap ≤ (w.map enc).length ∨ vcode t ∈ w.map enc) ↔ ¬ (okV t = true ∧ t ∉ w ∧ w.length < cap) := by
  rw [List.length_map]
  cases h : okV t with
  | false => rw [vcode_no h]; simp
  | true =>
    rw [vcode_ok h, mem_enc hok h]
    have h0 := enc_pos h hne
    constructor
    · rintro (z | z | z) ⟨-, z1, z2⟩
      · exact h0 z
      · omega
      · exact z1 z
    · intro z
      by_cases h10 : cap ≤ w.length
      · exact Or.inr (Or.inl h10)
      · refine Or.inr (Or.inr ?_)
        by_cases hm2 : t ∈ w
        · exact hm2
        · exact absurd ⟨rfl, hm2, by omega⟩ z
def addVs : List Nm → List Nm → Option (List Nm)
  | w, [] => some w
  | w, t :: ts => if okV t = true ∧ t ∉ w ∧ w.length < 6 then addVs (w ++ [t]) ts else none
theorem addVs_eq : ∀ (ts w : List Nm), w.length ≤ 6 → addVs w ts = if w.length + ts.length ≤ 6 ∧ valsOk w ts = true then some (w ++ ts) else none
  | [], w, h => by
    unfold addVs
    rw [if_pos ⟨h, rfl⟩, List.append_nil]
  | t :: ts, w, h => by
    unfold addVs valsOk
    by_cases hg : okV t = true ∧ t ∉ w ∧ w.length < 6
    · rw [if_pos hg, addVs_eq ts (w ++ [t]) (by rw [List.length_append]; exact hg.2.2)]
      rw [hg.1, decide_eq_true hg.2.1, Bool.and_self, Bool.true_and, List.length_append, List.append_assoc, List.length_singleton, List.length_cons, show w.length + 1 + ts.length = w.length + (ts.length + 1) by omega]
      rfl
    · rw [if_neg hg, if_neg]
      rintro ⟨z1, z2⟩
      rw [Bool.and_eq_true, Bool.and_eq_true] at z2
      rw [List.length_cons] at z1
      exact hg ⟨z2.1.1, of_decide_eq_true z2.1.2, by omega⟩
section RD
variable {d L : Nat} {fi : Nat → Nat → Int32} {fl : Nat → Nat → Int64} {fr : Nat → Nat → Option Nat} {F G : Nat} {x : Nat → Nat} {n : Nat} {ss : List (Nm × List Nm)} {ks : List KS} {k : KS} {ws : List (Nat × Nat)}
/-- the loop of addParameter, over whatever row r -/
theorem ct_valLoop (hF : FRok F G fr) {r c cs : Nat} {o2 : Option Value} (hr : (SH L)[r]? = some (3, 2)) (hc : (SH L)[c]? = some (101, 6)) (hf : fr r 0 = some c) (hrn : r ≠ 20 ∧ r < 588) (hw : wok n ws) {Q : Option Value → am_H → Prop} : ∀ (m i : Nat) (w : List Nm) (gi : Nat → Nat → Int32) (gl : Nat → Nat → Int64), i + m = ws.length → TXr gi x n → WDr gi ws → NRr gi gl r c (w.map enc) → (∀ t ∈ w, okV t = true) → w.length ≤ 6 →
    (∀ gi' gl', (∀ a k, a ≠ r → gi' a k = gi a k) → (∀ a k, a ≠ c → gl' a k = gl a k) → addVs w ((ws.drop i).map (wd x)) = none → Q (some (.int 0)) (SH L, gi', gl', fr)) →
    (∀ gi' gl' w', (∀ a k, a ≠ r → gi' a k = gi a k) → (∀ a k, a ≠ c → gl' a k = gl a k) → addVs w ((ws.drop i).map (wd x)) = some w' → NRr gi' gl' r c (w'.map enc) → ∀ o4, Rn (d + 2) 120 99 [some (.ref 585), some (.ref cs), o2, some (.ref r), o4] [] (SH L, gi', gl', fr) Q) →
    Rn (d + 2) 120 63 [some (.ref 585), some (.ref cs), o2, some (.ref r), some (.int (nI i))] [] (SH L, gi, gl, fr) Q := by
  intro m
  induction m with
  | zero =>
    intro i w gi gl hi hT hW hN hok hlen kf kt
    have hl6 := hw.2
    refine Rn.iload k_120 rfl rfl ?_
    refine Rn.aload_n k_120 rfl rfl ?_
    refine Rn.getA k_120 rfl rfl (s585 L) (hF.l 14 rfl) ?_
    refine Rn.getI k_120 rfl rfl (s588 L) ?_
    rw [hW.1]
    refine Rn.icmp_ge 99 k_120 rfl rfl (fun h1 => ?_) (fun h1 => ?_)
    · refine kt gi gl w (fun _ _ _ => rfl) (fun _ _ _ => rfl) ?_ hN _
      rw [List.drop_eq_nil_of_le (by omega)]
      rfl
    · rw [nI_leI (by omega) (by omega)] at h1
      omega
  | succ m ih =>
    intro i w gi gl hi hT hW hN hok hlen kf kt
    have hl6 := hw.2
    have hil : i < ws.length := by omega
    have hww := wok_at hw hil
    have hne := wd_ne (x := x) hww.1
    have ed : (ws.drop i).map (wd x) = wd x (ws.getD i (0, 0)) :: (ws.drop (i + 1)).map (wd x) := by
      rw [List.drop_eq_getElem_cons hil, List.map_cons, List.getD_eq_getElem?_getD, List.getElem?_eq_getElem hil]
      rfl
    rw [ed] at kf kt
    refine Rn.iload k_120 rfl rfl ?_
    refine Rn.aload_n k_120 rfl rfl ?_
    refine Rn.getA k_120 rfl rfl (s585 L) (hF.l 14 rfl) ?_
    refine Rn.getI k_120 rfl rfl (s588 L) ?_
    rw [hW.1]
    refine Rn.icmp_ge 99 k_120 rfl rfl (fun h1 => ?_) (fun h1 => ?_)
    · rw [nI_leI (by omega) (by omega)] at h1
      omega
    · refine Rn.aload_n k_120 rfl rfl ?_
      refine Rn.aload_n k_120 rfl rfl ?_
      refine Rn.getA k_120 rfl rfl (s585 L) (hF.l 14 rfl) ?_
      refine Rn.iload k_120 rfl rfl ?_
      refine Rn.cV2L k_120 rfl rfl q_138 rfl (Nat.le_of_ble_eq_true rfl) (Nat.le_of_ble_eq_true rfl) (s588 L) (ct_value (k := i) hF hT hW hw (by omega)) ?_
      rw [if_pos hil]
      refine Rn.cV2 k_120 rfl rfl q_98 rfl (Nat.le_of_ble_eq_true rfl) (Nat.le_of_ble_eq_true rfl) hr (ct_add hr hc hf (by decide) hN (by rw [List.length_map]; exact hlen) (vcode_lt _)) (fun v h3 hq => ?_)
      generalize wd x (ws.getD i (0, 0)) = t at hne ed kf kt hq
      have eqv := eqvV (cap := 6) hok hne
      by_cases hgood : okV t = true ∧ t ∉ w ∧ w.length < 6
      · rw [if_neg (fun z => eqv.mp z hgood)] at hq
        obtain ⟨rfl, rfl⟩ := hq
        show Rn _ _ _ _ (Value.int 1 :: []) _ _
        refine Rn.if_ne 93 k_120 rfl rfl (fun h2 => ?_) (fun h2 => ?_)
        · refine Rn.iinc4 (1) k_120 rfl rfl rfl ?_
          rw [c_add 1 1 rfl]
          refine Rn.goto 63 k_120 rfl rfl ?_
          have e2 : addVs w (t :: (ws.drop (i + 1)).map (wd x)) = addVs (w ++ [t]) ((ws.drop (i + 1)).map (wd x)) := by
            rw [addVs, if_pos hgood]
          rw [e2] at kf kt
          refine ih (i + 1) (w ++ [t]) _ _ (by omega) (hT.keep (fun k => up2_row _ _ (Ne.symm hrn.1))) (hW.keep (fun a k ha => up2_row _ _ (by omega))) ?_ ?_ ?_ ?_ ?_
          · have := hN.add (vcode_lt t) (by rw [List.length_map]; omega)
            rw [vcode_ok hgood.1] at this ⊢
            rw [List.map_append]
            exact this
          · intro s hs
            rcases List.mem_append.mp hs with z | z
            · exact hok s z
            · rw [List.mem_singleton.mp z]; exact hgood.1
          · rw [List.length_append]; exact hgood.2.2
          · intro gi' gl' z1 z2 z3
            exact kf gi' gl' (fun a k ha => (z1 a k ha).trans (up2_row _ _ ha)) (fun a k ha => (z2 a k ha).trans (up2_row _ _ ha)) z3
          · intro gi' gl' w' z1 z2 z3 z4
            exact kt gi' gl' w' (fun a k ha => (z1 a k ha).trans (up2_row _ _ ha)) (fun a k ha => (z2 a k ha).trans (up2_row _ _ ha)) z3 z4
        · exact absurd h2 (by decide)
      · rw [if_pos (eqv.mpr hgood)] at hq
        obtain ⟨rfl, rfl⟩ := hq
        show Rn _ _ _ _ (Value.int 0 :: []) _ _
        refine Rn.if_ne 93 k_120 rfl rfl (fun h2 => ?_) (fun h2 => ?_)
        · exact absurd rfl h2
        · refine Rn.iconst (0) k_120 rfl rfl ?_
          refine Rn.reti k_120 rfl q_120 rfl (rfl) ?_
          exact kf gi gl (fun _ _ _ => rfl) (fun _ _ _ => rfl) (by rw [addVs, if_neg hgood])
def withL (A : AS) (ts : List Nm) : Option AS := match ts with
  | t :: vs => if okN t = true ∧ 1 ≤ vs.length ∧ vs.length ≤ 6 ∧ valsOk [] vs = true then
      match onLast A (fun k => if (k_ps k).length < 4 ∧ t ∉ (k_ps k).map (·.1) ∧ ways (k_ps k) * vs.length ≤ 24 then some (k_su k, k_nm k, k_ln k, k_sz k, k_rs k, k_fl k, k_tg k, k_ps k ++ [(t, vs)]) else none) with
      | none => none
      | some B => if totW B.2.1 ≤ 120 then some B else none
    else none
  | [] => none
theorem withL_eq (ss : List (Nm × List Nm)) (ks : List KS) (k : KS) (t : Nm) (vs : List Nm) : withL (ss, ks ++ [k], true) (t :: vs) = if (okN t = true ∧ 1 ≤ vs.length ∧ vs.length ≤ 6 ∧ valsOk [] vs = true) ∧ ((k_ps k).length < 4 ∧ t ∉ (k_ps k).map (·.1) ∧ ways (k_ps k) * vs.length ≤ 24) ∧ totW ks + ways (k_ps k) * vs.length ≤ 120 then some (ss, ks ++ [(k_su k, k_nm k, k_ln k, k_sz k, k_rs k, k_fl k, k_tg k, k_ps k ++ [(t, vs)])], true) else none := by
  unfold withL
  dsimp only
  by_cases h1 : okN t = true ∧ 1 ≤ vs.length ∧ vs.length ≤ 6 ∧ valsOk [] vs = true
  · rw [if_pos h1, onLast_app]
    by_cases h2 : (k_ps k).length < 4 ∧ t ∉ (k_ps k).map (·.1) ∧ ways (k_ps k) * vs.length ≤ 24
    · rw [if_pos h2]
      dsimp only
      rw [totW_app]
      have e : ways (k_ps (k_su k, k_nm k, k_ln k, k_sz k, k_rs k, k_fl k, k_tg k, k_ps k ++ [(t, vs)])) = ways (k_ps k) * vs.length := ways_app _ _
      rw [e]
      by_cases h3 : totW ks + ways (k_ps k) * vs.length ≤ 120
      · rw [if_pos h3, if_pos ⟨h1, h2, h3⟩]
      · rw [if_neg h3, if_neg (fun z => h3 z.2.2)]
    · rw [if_neg h2, if_neg (fun z => h2 z.2.1)]
  · rw [if_neg h1, if_neg (fun z => h1 z.1)]
theorem NRr.len {fi : Nat → Nat → Int32} {fl : Nat → Nat → Int64} {r c : Nat} {w : List Nm} (h : NRr fi fl r c (w.map enc)) : fi r 1 = nI w.length := by rw [h.1, List.length_map]
set_option maxHeartbeats 2000000 in
theorem ct_addParameter (hF : FRok F G fr) (hS : SCr fi fl x n (ss, ks ++ [k], true)) (hA : AOk n (ss, ks ++ [k], true)) (hW : WDr fi ws) (hw : wok n ws) {w0 : Nat × Nat} {rest : List (Nat × Nat)} (hws : ws = w0 :: rest) : Rn (d + 3) 120 0 [some (.ref 585), some (.ref (25 + 14 * ks.length)), none, none, none] [] (SH L, fi, fl, fr) (AccQ L fi fl fr x n (withL (ss, ks ++ [k], true) (rest.map (wd x)))) := by
  obtain ⟨hi, hk⟩ := ckl hA
  have s6 := hS.2.2.2.2.2.1 ks.length (by show ks.length < (ks ++ [k]).length; simp)
  have s6 : CKr fi fl ks.length ((ks ++ [k]).getD ks.length dK) (snm ss (k_su ((ks ++ [k]).getD ks.length dK))) (stg ss (k_su ((ks ++ [k]).getD ks.length dK))) := s6
  rw [getD_app_last] at s6
  have hl : ws.length = rest.length + 1 := by rw [hws]; rfl
  have hl6 := hw.2
  have hps := hk.2.2.2.2.2.2.2.2.1
  have hpr : fi (25 + 14 * ks.length + 3) 1 = nI (k_ps k).length := by rw [s6.2.2.2.2.2.2.2.2.2.2.2.1.1, List.length_map]
  have no : ∀ (gi : Nat → Nat → Int32) (gl : Nat → Nat → Int64) (o2 o3 o4 : Option Value), (∀ a q, rdF a → gi a q = fi a q) → (∀ a q, rdF a → gl a q = fl a q) → withL (ss, ks ++ [k], true) (rest.map (wd x)) = none → Rn (d + 3) 120 46 [some (.ref 585), some (.ref (25 + 14 * ks.length)), o2, o3, o4] [] (SH L, gi, gl, fr) (AccQ L fi fl fr x n (withL (ss, ks ++ [k], true) (rest.map (wd x)))) := by
    intro gi gl o2 o3 o4 g1 g2 e
    refine Rn.iconst (0) k_120 rfl rfl ?_
    refine Rn.reti k_120 rfl q_120 rfl (rfl) ?_
    rw [e]
    exact ⟨gi, gl, rfl, g1, g2, rfl, fun B hB => by cases hB⟩
  refine Rn.aload_n k_120 rfl rfl ?_
  refine Rn.getA k_120 rfl rfl (sk0 L hi) (hF.k hi 3 rfl) ?_
  refine Rn.getI k_120 rfl rfl (sk3 L hi) ?_
  rw [hpr]
  refine Rn.istore_n2 k_120 rfl rfl ?_
  refine Rn.aload_n k_120 rfl rfl ?_
  refine Rn.getA k_120 rfl rfl (s585 L) (hF.l 14 rfl) ?_
  refine Rn.getI k_120 rfl rfl (s588 L) ?_
  rw [hW.1]
  refine Rn.iconst (3) k_120 rfl rfl ?_
  refine Rn.icmp_lt 46 k_120 rfl rfl (fun h1 => ?_) (fun h1 => ?_)
  · rw [c_lt 3 3 rfl (by omega) (by decide)] at h1
    refine no _ _ _ _ _ (fun _ _ _ => rfl) (fun _ _ _ => rfl) ?_
    match rest, hl with
    | [], _ => rfl
    | [w], _ =>
      show withL _ [wd x w] = none
      rw [withL_eq, if_neg]
      intro z
      exact absurd z.1.2.1 (by decide)
    | w :: w' :: r, hl => exact absurd hl (by simp only [List.length_cons]; omega)
  · rw [c_lt 3 3 rfl (by omega) (by decide)] at h1
    match rest, hl, hws, no with
    | [], hl, _, _ => exact absurd hl (by simp; omega)
    | w :: vr, hl, hws, no =>
      have hg : ws.getD 1 (0, 0) = w := by rw [hws]; rfl
      have hd2 : ws.drop 2 = vr := by rw [hws]; rfl
      have hvl : ws.length = vr.length + 2 := by rw [hl, List.length_cons]
      have hww := wok_at hw (show 1 < ws.length by omega)
      rw [hg] at hww
      have hne := wd_ne (x := x) hww.1
      have eL : withL (ss, ks ++ [k], true) ((w :: vr).map (wd x)) = withL (ss, ks ++ [k], true) (wd x w :: vr.map (wd x)) := rfl
      rw [eL, withL_eq] at no
      rw [eL, withL_eq]
      have hvs : (vr.map (wd x)).length = vr.length := List.length_map ..
      refine Rn.aload_n k_120 rfl rfl ?_
      refine Rn.getA k_120 rfl rfl (sk0 L hi) (hF.k hi 3 rfl) ?_
      refine Rn.aload_n k_120 rfl rfl ?_
      refine Rn.getA k_120 rfl rfl (s585 L) (hF.l 14 rfl) ?_
      refine Rn.iconst (1) k_120 rfl rfl ?_
      refine Rn.cV2L k_120 rfl rfl q_137 rfl (Nat.le_of_ble_eq_true rfl) (Nat.le_of_ble_eq_true rfl) (s588 L) (ct_name (k := 1) hF hS.1 hW hw (by decide)) ?_
      rw [if_pos (show 1 < ws.length by omega), hg]
      have emap : (k_ps k).map (fun p => enc p.1) = ((k_ps k).map (·.1)).map enc := by rw [List.map_map]; rfl
      have hN3 := s6.2.2.2.2.2.2.2.2.2.2.2.1
      rw [emap] at hN3
      have hplen : ((k_ps k).map (·.1)).length = (k_ps k).length := List.length_map ..
      have hpok : ∀ s ∈ (k_ps k).map (·.1), okV s = true := by
        intro s hs
        obtain ⟨q, hq, rfl⟩ := List.mem_map.mp hs
        exact okN_okV (hk.2.2.2.2.2.2.2.2.2.1 q hq).1
      refine Rn.cV2 k_120 rfl rfl q_98 rfl (Nat.le_of_ble_eq_true rfl) (Nat.le_of_ble_eq_true rfl) (sk3 L hi) (ct_add (sk3 L hi) (sk4 L hi) (hF.k hi 2 rfl) (by decide) hN3 (by rw [List.length_map, hplen]; exact hps) (ncode_lt _)) (fun v h' hq => ?_)
      generalize wd x w = t at hne hq no ⊢
      have eqv := eqvN (cap := 4) hpok hne
      by_cases hgood : okN t = true ∧ t ∉ (k_ps k).map (·.1) ∧ ((k_ps k).map (·.1)).length < 4
      · rw [if_neg (fun z => eqv.mp z hgood)] at hq
        obtain ⟨rfl, rfl⟩ := hq
        show Rn _ _ _ _ (Value.int 1 :: []) _ _
        have hadd := hN3.add (ncode_lt t) (by rw [List.length_map]; omega)
        rw [ncode_ok hgood.1] at hadd ⊢
        rw [List.length_map, hplen] at hadd ⊢
        rw [hplen] at hgood
        have g4 := hgood.2.2
        refine Rn.if_eq 46 k_120 rfl rfl (fun h2 => ?_) (fun h2 => ?_)
        · exact absurd h2 (by decide)
        · refine Rn.iload_n k_120 rfl rfl ?_
          refine Rn.aload_n k_120 rfl rfl ?_
          refine Rn.getA k_120 rfl rfl (sk0 L hi) (hF.k hi 4 rfl) ?_
          refine Rn.alen k_120 rfl (sk5 L hi) rfl (by decide) ?_
          refine Rn.icmp_lt 48 k_120 rfl rfl (fun h3 => ?_) (fun h3 => ?_)
          · refine Rn.aload_n k_120 rfl rfl ?_
            refine Rn.getA k_120 rfl rfl (sk0 L hi) (hF.k hi 4 rfl) ?_
            refine Rn.iload_n k_120 rfl rfl ?_
            refine Rn.aaload (ci := 3) ((k_ps k).length) k_120 rfl (sk5 L hi) rfl (by decide) (rfl) (by omega) (by decide) (frV hF hi g4) ?_
            refine Rn.astore_n3 k_120 rfl rfl ?_
            refine Rn.aload_n k_120 rfl rfl ?_
            refine Rn.iconst (0) k_120 rfl rfl ?_
            refine Rn.putI k_120 rfl (rfl) (shV L hi g4) ?_
            refine Rn.iconst (2) k_120 rfl rfl ?_
            refine Rn.istore4 k_120 rfl rfl ?_
            refine ct_valLoop (x := x) (n := n) (ws := ws) hF (shV L hi g4) (shC L hi g4) (frC hF hi g4) (by omega) hw vr.length 2 [] _ _ (by omega) (hS.1.keep (fun q => by rw [up2_row _ _ (by omega), up2_row _ _ (by omega)])) (hW.keep (fun a q ha => by rw [up2_row _ _ (by omega), up2_row _ _ (by omega)])) (NRr.nil (up2_same _ _ _ _)) (fun t ht => by cases ht) (by decide) ?_ ?_
            · intro gi' gl' z1 z2 z3
              rw [hd2, addVs_eq _ _ (by decide), List.length_nil, Nat.zero_add] at z3
              rw [if_neg]
              · refine ⟨gi', gl', rfl, fun a q ha => ?_, fun a q ha => ?_, rfl, fun B hB => by cases hB⟩
                · unfold rdF at ha
                  rw [z1 _ _ (by omega), up2_row _ _ (by omega), up2_row _ _ (by omega)]
                · unfold rdF at ha
                  rw [z2 _ _ (by omega), up2_row _ _ (by omega)]
              · rintro ⟨⟨-, -, y3, y4⟩, -⟩
                rw [if_pos ⟨y3, y4⟩] at z3
                cases z3
            · intro gi' gl' w' z1 z2 z3 z4 o4
              rw [hd2, addVs_eq _ _ (by decide), List.length_nil, Nat.zero_add, List.nil_append] at z3
              by_cases hv : (vr.map (wd x)).length ≤ 6 ∧ valsOk [] (vr.map (wd x)) = true
              · rw [if_pos hv] at z3
                cases z3
                have hv6 := hv.1
                rw [hvs] at hv6
                have hways := hk.2.2.2.2.2.2.2.2.2.2.2
                have htc : gi' (25 + 14 * ks.length) 10 = nI (ways (k_ps k)) := by
                  rw [z1 _ _ (by omega), up2_row _ _ (by omega), up2_row _ _ (by omega)]
                  exact s6.2.2.2.2.2.2.2.2.1
                have htot : gi' 19 6 = nI (totW ks + ways (k_ps k)) := by
                  rw [z1 _ _ (by omega), up2_row _ _ (by omega), up2_row _ _ (by omega), hS.2.2.2.2.1]
                  show nI (totW (ks ++ [k])) = _
                  rw [totW_app]
                have htot2 : totW ks + ways (k_ps k) ≤ 120 := by
                  have := hA.2.2.2.2.2.1
                  have this : totW (ks ++ [k]) ≤ 120 := this
                  rwa [totW_app] at this
                have hsz := z4.len
                rw [hvs] at hsz
                have hge : ways (k_ps k) ≤ ways (k_ps k) * vr.length := Nat.le_mul_of_pos_right _ (by omega)
                have hle : ways (k_ps k) * vr.length ≤ 24 * 6 := Nat.mul_le_mul hways hv6
                refine Rn.aload_n k_120 rfl rfl ?_
                refine Rn.getI k_120 rfl rfl (sk0 L hi) ?_
                rw [htc]
                refine Rn.istore4 k_120 rfl rfl ?_
                refine Rn.aload_n k_120 rfl rfl ?_
                refine Rn.iload k_120 rfl rfl ?_
                refine Rn.aload_n k_120 rfl rfl ?_
                refine Rn.getI k_120 rfl rfl (shV L hi g4) ?_
                rw [hsz]
                refine Rn.imul k_120 rfl ?_
                rw [pk_mul]
                refine Rn.putI k_120 rfl (rfl) (sk0 L hi) ?_
                refine Rn.aload_n k_120 rfl rfl ?_
                refine Rn.getA k_120 rfl rfl (s585 L) (hF.l 10 rfl) ?_
                refine Rn.dupa k_120 rfl ?_
                refine Rn.getI k_120 rfl rfl (s19 L) ?_
                rw [up2_row _ _ (show (19 : Nat) ≠ 25 + 14 * ks.length by omega), htot]
                refine Rn.aload_n k_120 rfl rfl ?_
                refine Rn.getI k_120 rfl rfl (sk0 L hi) ?_
                rw [up2_same]
                refine Rn.iload k_120 rfl rfl ?_
                refine Rn.isub k_120 rfl ?_
                rw [pk_sub hge]
                refine Rn.iadd k_120 rfl ?_
                rw [nI_add, show totW ks + ways (k_ps k) + (ways (k_ps k) * vr.length - ways (k_ps k)) = totW ks + ways (k_ps k) * vr.length by omega]
                refine Rn.putI k_120 rfl (rfl) (s19 L) ?_
                refine Rn.aload_n k_120 rfl rfl ?_
                refine Rn.getI k_120 rfl rfl (sk0 L hi) ?_
                rw [up2_row _ _ (show 25 + 14 * ks.length ≠ 19 by omega), up2_same]
                refine Rn.bipush (24) k_120 rfl rfl ?_
                have fin0 : ∀ (c1 : ¬ (ways (k_ps k) * vr.length ≤ 24 ∧ totW ks + ways (k_ps k) * vr.length ≤ 120)), Rn (d + 2 + 1) 120 160 [some (.ref 585), some (.ref (25 + 14 * ks.length)), some (.int (nI (k_ps k).length)), some (.ref (25 + 14 * ks.length + (6 + 2 * (k_ps k).length))), some (.int (nI (ways (k_ps k))))] [] (SH L, up2 (up2 gi' (25 + 14 * ks.length) 10 (nI (ways (k_ps k) * vr.length))) 19 6 (nI (totW ks + ways (k_ps k) * vr.length)), gl', fr) (AccQ L fi fl fr x n (if (okN t = true ∧ 1 ≤ (vr.map (wd x)).length ∧ (vr.map (wd x)).length ≤ 6 ∧ valsOk [] (vr.map (wd x)) = true) ∧ ((k_ps k).length < 4 ∧ t ∉ (k_ps k).map (·.1) ∧ ways (k_ps k) * (vr.map (wd x)).length ≤ 24) ∧ totW ks + ways (k_ps k) * (vr.map (wd x)).length ≤ 120 then some (ss, ks ++ [(k_su k, k_nm k, k_ln k, k_sz k, k_rs k, k_fl k, k_tg k, k_ps k ++ [(t, (vr.map (wd x)))])], true) else none)) := by
                  intro c1
                  rw [if_neg (fun z => c1 (by rw [hvs] at z; exact ⟨z.2.1.2.2, z.2.2⟩))]
                  refine Rn.iconst (0) k_120 rfl rfl ?_
                  refine Rn.reti k_120 rfl q_120 rfl (rfl) ?_
                  refine ⟨_, gl', rfl, fun a q ha => ?_, fun a q ha => ?_, rfl, fun B hB => by cases hB⟩
                  · unfold rdF at ha
                    rw [up2_row _ _ (by omega), up2_row _ _ (by omega), z1 _ _ (by omega), up2_row _ _ (by omega), up2_row _ _ (by omega)]
                  · unfold rdF at ha
                    rw [z2 _ _ (by omega), up2_row _ _ (by omega)]
                refine Rn.icmp_gt 160 k_120 rfl rfl (fun h4 => ?_) (fun h4 => ?_)
                · rw [c_gt 24 24 rfl (by omega) (by decide)] at h4
                  exact fin0 (fun z => by omega)
                · rw [c_gt 24 24 rfl (by omega) (by decide)] at h4
                  refine Rn.aload_n k_120 rfl rfl ?_
                  refine Rn.getA k_120 rfl rfl (s585 L) (hF.l 10 rfl) ?_
                  refine Rn.getI k_120 rfl rfl (s19 L) ?_
                  rw [up2_same]
                  refine Rn.bipush (120) k_120 rfl rfl ?_
                  refine Rn.icmp_gt 160 k_120 rfl rfl (fun h5 => ?_) (fun h5 => ?_)
                  · rw [c_gt 120 120 rfl (by omega) (by decide)] at h5
                    exact fin0 (fun z => by omega)
                  · rw [c_gt 120 120 rfl (by omega) (by decide)] at h5
                    rw [if_pos ⟨⟨hgood.1, by omega, hv.1, hv.2⟩, ⟨g4, hgood.2.1, by rw [hvs]; omega⟩, by rw [hvs]; omega⟩]
                    refine Rn.iconst (1) k_120 rfl rfl ?_
                    refine Rn.goto 161 k_120 rfl rfl ?_
                    refine Rn.reti k_120 rfl q_120 rfl (rfl) ?_
                    refine ⟨_, gl', rfl, fun a q ha => ?_, fun a q ha => ?_, rfl, fun B hB => ?_⟩
                    · unfold rdF at ha
                      rw [up2_row _ _ (by omega), up2_row _ _ (by omega), z1 _ _ (by omega), up2_row _ _ (by omega), up2_row _ _ (by omega)]
                    · unfold rdF at ha
                      rw [z2 _ _ (by omega), up2_row _ _ (by omega)]
                    · cases hB
                      obtain ⟨a1, a2, a3, a4, a5, a6, a7, a8, a9, a10, a11, a12, a13⟩ := s6
                      have g0 : ∀ q, q ≠ 10 → up2 (up2 gi' (25 + 14 * ks.length) 10 (nI (ways (k_ps k) * vr.length))) 19 6 (nI (totW ks + ways (k_ps k) * vr.length)) (25 + 14 * ks.length) q = fi (25 + 14 * ks.length) q := by
                        intro q hq
                        rw [up2_row _ _ (by omega), up2_col _ _ hq, z1 _ _ (by omega), up2_row _ _ (by omega), up2_row _ _ (by omega)]
                      have ewy : ways (k_ps (k_su k, k_nm k, k_ln k, k_sz k, k_rs k, k_fl k, k_tg k, k_ps k ++ [(t, vr.map (wd x))])) = ways (k_ps k) * vr.length := by
                        have := ways_app (k_ps k) (t, vr.map (wd x))
                        rw [hvs] at this
                        exact this
                      refine SCr.last hS hA (fun a q y1 y2 => ?_) (fun a q y1 => ?_) ?_ rfl ⟨?_, ?_, (g0 2 (by decide)).trans a3, (g0 3 (by decide)).trans a4, (g0 4 (by decide)).trans a5, (g0 5 (by decide)).trans a6, (g0 6 (by decide)).trans a7, fun r hr => ⟨(g0 7 (by decide)).trans (a8 r hr).1, (g0 8 (by decide)).trans (a8 r hr).2⟩, ?_, (g0 11 (by decide)).trans a10, ?_, ?_, ?_⟩
                      · have : up2 (up2 gi' (25 + 14 * ks.length) 10 (nI (ways (k_ps k) * vr.length))) 19 6 (nI (totW ks + ways (k_ps k) * vr.length)) a q = gi' a q := by
                          unfold up2
                          rcases y2 with y2 | y2
                          · rw [if_neg y2, if_neg (by omega)]
                          · rw [if_neg y2, if_neg (show ¬ a = 25 + 14 * ks.length by omega)]; split <;> rfl
                        rw [this, z1 _ _ (by omega), up2_row _ _ (by omega), up2_row _ _ (by omega)]
                      · rw [z2 _ _ (by omega), up2_row _ _ (by omega)]
                      · rw [up2_same, totW_app, ewy]
                      · rw [z2 _ _ (by omega), up2_row _ _ (by omega)]; exact a1
                      · rw [z2 _ _ (by omega), up2_row _ _ (by omega)]; exact a2
                      · rw [up2_row _ _ (by omega), up2_same, ewy]
                      · refine a11.keep ?_ (fun q => ?_)
                        · rw [up2_row _ _ (by omega), up2_row _ _ (by omega), z1 _ _ (by omega), up2_row _ _ (by omega), up2_row _ _ (by omega)]
                        · rw [z2 _ _ (by omega), up2_row _ _ (by omega)]
                      · have e9 : (k_ps (k_su k, k_nm k, k_ln k, k_sz k, k_rs k, k_fl k, k_tg k, k_ps k ++ [(t, vr.map (wd x))])).map (fun p => enc p.1) = ((k_ps k).map (·.1)).map enc ++ [enc t] := by
                          show (k_ps k ++ [(t, vr.map (wd x))]).map (fun p => enc p.1) = _
                          rw [List.map_append, emap]
                          rfl
                        rw [e9]
                        refine hadd.keep ?_ (fun q => ?_)
                        · rw [up2_row _ _ (by omega), up2_row _ _ (by omega), z1 _ _ (by omega), up2_row _ _ (by omega)]
                        · rw [z2 _ _ (by omega)]
                      · intro p hp
                        have hp : p < (k_ps k ++ [(t, vr.map (wd x))]).length := hp
                        rw [List.length_append] at hp
                        have hp : p < (k_ps k).length + 1 := hp
                        show NRr _ _ _ _ (((k_ps k ++ [(t, vr.map (wd x))]).getD p ([], [])).2.map enc)
                        by_cases e : p = (k_ps k).length
                        · subst e
                          rw [List.getD_eq_getElem?_getD, List.getElem?_append_right (Nat.le_refl _), Nat.sub_self]
                          exact z4.keep (by rw [up2_row _ _ (by omega), up2_row _ _ (by omega)]) (fun q => rfl)
                        · rw [List.getD_eq_getElem?_getD, List.getElem?_append_left (by omega), ← List.getD_eq_getElem?_getD]
                          refine (a13 p (by omega)).keep ?_ (fun q => ?_)
                          · rw [up2_row _ _ (by omega), up2_row _ _ (by omega), z1 _ _ (by omega), up2_row _ _ (by omega), up2_row _ _ (by omega)]
                          · rw [z2 _ _ (by omega), up2_row _ _ (by omega)]
              · rw [if_neg hv] at z3
                cases z3
          · rw [nI_ltI (by omega) (by omega)] at h3
            omega
      · rw [if_pos (eqv.mpr hgood)] at hq
        obtain ⟨rfl, rfl⟩ := hq
        show Rn _ _ _ _ (Value.int 0 :: []) _ _
        refine Rn.if_eq 46 k_120 rfl rfl (fun h2 => ?_) (fun h2 => ?_)
        · refine no _ _ _ _ _ (fun _ _ _ => rfl) (fun _ _ _ => rfl) (if_neg (fun z => hgood ?_))
          rw [hplen]
          exact ⟨z.1.1, z.2.1.2.1, z.2.1.1⟩
        · exact absurd rfl h2
end RD
