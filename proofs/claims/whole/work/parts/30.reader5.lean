/-! ScriptReader: isTaken, openCase -/
theorem sub1_inj {a b : Nat} (ha : a < 2 ^ 31) (hb : b < 2 ^ 31) : nI a - 1 = nI b - 1 ↔ a = b := by
  constructor
  · intro h
    have := congrArg (· + (1 : Int32)) h
    simp only [Int32.sub_add_cancel] at this
    exact (nI_eq ha hb).mp this
  · intro h; rw [h]
theorem sub1_m1 {a : Nat} (ha : a < 2 ^ 31) : nI a - 1 = -1 ↔ a = 0 := by
  have := sub1_inj (a := a) (b := 0) ha (by decide)
  rw [show nI 0 - 1 = (-1 : Int32) from rfl] at this
  exact this
/-- one more case -/
theorem SCr.push {fi fi' : Nat → Nat → Int32} {fl fl' : Nat → Nat → Int64} {x : Nat → Nat} {n : Nat} {A : AS} {k' : KS} (hS : SCr fi fl x n A) (hA : AOk n A) (hl : A.2.1.length < 40) (h1 : ∀ a q, (a < 25 + 14 * A.2.1.length ∨ 25 + 14 * A.2.1.length + 14 ≤ a) → (a ≠ 19 ∨ (q ≠ 4 ∧ q ≠ 6)) → (a ≠ 585 ∨ q ≠ 3) → fi' a q = fi a q) (h2 : ∀ a q, (a < 25 + 14 * A.2.1.length ∨ 25 + 14 * A.2.1.length + 14 ≤ a) → fl' a q = fl a q) (h4 : fi' 19 4 = nI (A.2.1.length + 1)) (h6 : fi' 19 6 = nI (totW A.2.1 + 1)) (h7 : fi' 585 3 = 1) (hC : CKr fi' fl' A.2.1.length k' (snm A.1 (k_su k')) (stg A.1 (k_su k'))) (hps : ways (k_ps k') = 1) : SCr fi' fl' x n (A.1, A.2.1 ++ [k'], true) := by
  obtain ⟨s1, s2, s3, s4, s5, s6, s7, s8⟩ := hS
  refine ⟨⟨fun j hj => ?_, s1.2⟩, ?_, ?_, ?_, ?_, fun i hi => ?_, h7, fun s hs => ?_⟩
  · rw [h1 20 j (by omega) (Or.inl (by decide)) (Or.inl (by decide))]; exact s1.1 j hj
  · rw [h1 19 1 (by omega) (Or.inr (by decide)) (Or.inl (by decide))]; exact s2
  · exact NRr.keep s3 (h1 21 1 (by omega) (Or.inl (by decide)) (Or.inl (by decide))) (fun q => h2 22 q (by omega))
  · rw [h4]; show _ = nI (A.2.1 ++ [k']).length; simp
  · rw [h6]; show _ = nI (totW (A.2.1 ++ [k'])); rw [totW_app, hps]
  · have hi : i < (A.2.1 ++ [k']).length := hi
    rw [List.length_append] at hi
    have hi : i < A.2.1.length + 1 := hi
    show CKr fi' fl' i ((A.2.1 ++ [k']).getD i dK) (snm A.1 (k_su ((A.2.1 ++ [k']).getD i dK))) (stg A.1 (k_su ((A.2.1 ++ [k']).getD i dK)))
    by_cases e : i = A.2.1.length
    · subst e
      rw [getD_app_last]
      exact hC
    · rw [getD_app_lt (by omega)]
      exact (s6 i (by omega)).keep (hA.k (by omega)).2.2.2.2.2.2.2.2.1 (fun a q u1 u2 => h1 a q (by omega) (by omega) (by omega)) (fun a q u1 u2 => h2 a q (by omega))
  · exact (s8 s hs).keep (h1 586 1 (by omega) (Or.inl (by decide)) (Or.inl (by decide))) (fun q => h2 587 q (by omega))
section RD
variable {d L : Nat} {fi : Nat → Nat → Int32} {fl : Nat → Nat → Int64} {fr : Nat → Nat → Option Nat} {F G : Nat} {x : Nat → Nat} {n : Nat} {A : AS} {ws : List (Nat × Nat)}
def tkn (ks : List KS) (su : Nat) (t : Nm) : Bool := ks.any (fun k => decide (k_su k = su ∧ k_nm k = t))
theorem ct_isTaken (hF : FRok F G fr) (hS : SCr fi fl x n A) (hA : AOk n A) {t : Nm} (ht : okN t = true) {su : Nat} (hsu : su ≤ 10) : Rn d 118 0 [some (.ref 585), some (.long (lN (enc t))), none, some (.int (nI su - 1)), none] [] (SH L, fi, fl, fr) (Ret (SH L, fi, fl, fr) (some (.int (bI (tkn A.2.1 su t))))) := by
  have hl := hA.2.2.2.1
  have loop : ∀ m i, i + m = A.2.1.length → Rn d 118 3 [some (.ref 585), some (.long (lN (enc t))), none, some (.int (nI su - 1)), some (.int (nI i))] [] (SH L, fi, fl, fr) (Ret (SH L, fi, fl, fr) (some (.int (bI (tkn (A.2.1.drop i) su t))))) := by
    intro m
    induction m with
    | zero =>
      intro i hi
      refine Rn.iload k_118 rfl rfl ?_
      refine Rn.aload_n k_118 rfl rfl ?_
      refine Rn.getA k_118 rfl rfl (s585 L) (hF.l 10 rfl) ?_
      refine Rn.getI k_118 rfl rfl (s19 L) ?_
      rw [hS.2.2.2.1]
      refine Rn.icmp_ge 58 k_118 rfl rfl (fun h1 => ?_) (fun h1 => ?_)
      · refine Rn.iconst (0) k_118 rfl rfl ?_
        refine Rn.reti k_118 rfl q_118 rfl (rfl) ?_
        rw [List.drop_eq_nil_of_le (by omega)]
        exact ⟨rfl, rfl⟩
      · rw [nI_leI (by omega) (by omega)] at h1
        omega
    | succ m ih =>
      intro i hi
      have hil : i < A.2.1.length := by omega
      have hC := hS.2.2.2.2.2.1 i hil
      have hk := hA.k hil
      have hA1 := hA.1
      have ed : A.2.1.drop i = A.2.1.getD i dK :: A.2.1.drop (i + 1) := by
        rw [List.getD_eq_getElem?_getD, List.getElem?_eq_getElem hil]
        exact List.drop_eq_getElem_cons hil
      rw [ed]
      generalize A.2.1.getD i dK = k at hC hk ⊢
      have hk1 := hk.1
      have ek : tkn (k :: A.2.1.drop (i + 1)) su t = (decide (k_su k = su ∧ k_nm k = t) || tkn (A.2.1.drop (i + 1)) su t) := rfl
      have go : decide (k_su k = su ∧ k_nm k = t) = false → Rn d 118 52 [some (.ref 585), some (.long (lN (enc t))), none, some (.int (nI su - 1)), some (.int (nI i))] [] (SH L, fi, fl, fr) (Ret (SH L, fi, fl, fr) (some (.int (bI (tkn (k :: A.2.1.drop (i + 1)) su t))))) := by
        intro e
        refine Rn.iinc4 (1) k_118 rfl rfl rfl ?_
        rw [c_add 1 1 rfl]
        refine Rn.goto 3 k_118 rfl rfl ?_
        rw [ek, e, Bool.false_or]
        exact ih (i + 1) (by omega)
      refine Rn.iload k_118 rfl rfl ?_
      refine Rn.aload_n k_118 rfl rfl ?_
      refine Rn.getA k_118 rfl rfl (s585 L) (hF.l 10 rfl) ?_
      refine Rn.getI k_118 rfl rfl (s19 L) ?_
      rw [hS.2.2.2.1]
      refine Rn.icmp_ge 58 k_118 rfl rfl (fun h1 => ?_) (fun h1 => ?_)
      · rw [nI_leI (by omega) (by omega)] at h1
        omega
      · refine Rn.aload_n k_118 rfl rfl ?_
        refine Rn.getA k_118 rfl rfl (s585 L) (hF.l 10 rfl) ?_
        refine Rn.getA k_118 rfl rfl (s19 L) (hF.l 5 rfl) ?_
        refine Rn.iload k_118 rfl rfl ?_
        refine Rn.aaload (ci := 4) (i) k_118 rfl (s23 L) rfl (by decide) (rfl) (by omega) (by decide) (hF.2.2.1 _ (by omega)) ?_
        refine Rn.getI k_118 rfl rfl (sk0 L (by omega)) ?_
        rw [hC.2.2.1]
        refine Rn.iload_n k_118 rfl rfl ?_
        refine Rn.icmp_ne 52 k_118 rfl rfl (fun h2 => ?_) (fun h2 => ?_)
        · rw [sub1_inj (by omega) (by omega)] at h2
          exact go (decide_eq_false (fun z => h2 z.1))
        · rw [sub1_inj (by omega) (by omega)] at h2
          refine Rn.aload_n k_118 rfl rfl ?_
          refine Rn.getA k_118 rfl rfl (s585 L) (hF.l 10 rfl) ?_
          refine Rn.getA k_118 rfl rfl (s19 L) (hF.l 5 rfl) ?_
          refine Rn.iload k_118 rfl rfl ?_
          refine Rn.aaload (ci := 4) (i) k_118 rfl (s23 L) rfl (by decide) (rfl) (by omega) (by decide) (hF.2.2.1 _ (by omega)) ?_
          refine Rn.getL k_118 rfl rfl (sk0 L (by omega)) ?_
          rw [hC.1]
          refine Rn.lload_n k_118 rfl rfl ?_
          refine Rn.lcmp k_118 rfl ?_
          refine Rn.if_ne 52 k_118 rfl rfl (fun h3 => ?_) (fun h3 => ?_)
          · have h3 : ¬ k_nm k = t := fun e => h3 ((lg_cmp_eq _ _).mpr (by rw [e]))
            exact go (decide_eq_false (fun z => h3 z.2))
          · have h3 := (pk_lEQ (enc_lt63 (okV_len (okN_okV hk.2.1))) (enc_lt63 (okV_len (okN_okV ht)))).mp ((lg_cmp_eq _ _).mp h3)
            have h3 := enc_inj (k_nm k).length (k_nm k) t (Nat.le_refl _) (okV_isN (okN_okV hk.2.1)) (okV_isN (okN_okV ht)) h3
            refine Rn.iconst (1) k_118 rfl rfl ?_
            refine Rn.reti k_118 rfl q_118 rfl (rfl) ?_
            rw [ek, decide_eq_true ⟨h2, h3⟩]
            exact ⟨rfl, rfl⟩
  refine Rn.iconst (0) k_118 rfl rfl ?_
  refine Rn.istore4 k_118 rfl rfl ?_
  exact loop A.2.1.length 0 (Nat.zero_add _)
def caseL (A : AS) (line : Nat) (ts : List Nm) : Option AS := match ts with
  | [t] => if okN t = true ∧ A.2.1.length < 40 ∧ totW A.2.1 < 120 ∧ (∀ k ∈ A.2.1, ¬ (k_su k = A.1.length ∧ k_nm k = t)) then some (A.1, A.2.1 ++ [(A.1.length, t, line, 0, none, false, [], [])], true) else none
  | _ => none
theorem tkn_no {ks : List KS} {su : Nat} {t : Nm} : tkn ks su t = false ↔ ∀ k ∈ ks, ¬ (k_su k = su ∧ k_nm k = t) := by
  unfold tkn
  rw [List.any_eq_false]
  simp
set_option maxHeartbeats 2000000 in
theorem ct_openCase (hF : FRok F G fr) (hS : SCr fi fl x n A) (hA : AOk n A) (hW : WDr fi ws) (hw : wok n ws) {w0 : Nat × Nat} {rest : List (Nat × Nat)} (hws : ws = w0 :: rest) {line : Nat} : Rn (d + 3) 117 0 [some (.ref 585), some (.int (nI line)), none, none, none, none] [] (SH L, fi, fl, fr) (AccQ L fi fl fr x n (caseL A line (rest.map (wd x)))) := by
  have hl : ws.length = rest.length + 1 := by rw [hws]; rfl
  have hl6 := hw.2
  have s3 : fi 21 1 = nI A.1.length := by rw [hS.2.2.1.1, List.length_map]
  have hA1 := hA.1
  have hA4 := hA.2.2.2.1
  have hA6 := hA.2.2.2.2.2.1
  have no1 : ∀ o2 o4, caseL A line (rest.map (wd x)) = none → Rn (d + 3) 117 50 [some (.ref 585), some (.int (nI line)), o2, none, o4, none] [] (SH L, fi, fl, fr) (AccQ L fi fl fr x n (caseL A line (rest.map (wd x)))) := by
    intro o2 o4 e
    refine Rn.iconst (0) k_117 rfl rfl ?_
    refine Rn.reti k_117 rfl q_117 rfl (rfl) ?_
    rw [e]
    exact ⟨fi, fl, rfl, fun _ _ _ => rfl, fun _ _ _ => rfl, rfl, fun B hB => by cases hB⟩
  have no2 : ∀ o2 o4, caseL A line (rest.map (wd x)) = none → Rn (d + 3) 117 82 [some (.ref 585), some (.int (nI line)), o2, none, o4, none] [] (SH L, fi, fl, fr) (AccQ L fi fl fr x n (caseL A line (rest.map (wd x)))) := by
    intro o2 o4 e
    refine Rn.iconst (0) k_117 rfl rfl ?_
    refine Rn.reti k_117 rfl q_117 rfl (rfl) ?_
    rw [e]
    exact ⟨fi, fl, rfl, fun _ _ _ => rfl, fun _ _ _ => rfl, rfl, fun B hB => by cases hB⟩
  refine Rn.aload_n k_117 rfl rfl ?_
  refine Rn.getA k_117 rfl rfl (s585 L) (hF.l 14 rfl) ?_
  refine Rn.iconst (1) k_117 rfl rfl ?_
  refine Rn.cV2L k_117 rfl rfl q_137 rfl (Nat.le_of_ble_eq_true rfl) (Nat.le_of_ble_eq_true rfl) (s588 L) (ct_name (k := 1) hF hS.1 hW hw (by decide)) ?_
  refine Rn.lstore_n2 k_117 rfl rfl ?_
  refine Rn.aload_n k_117 rfl rfl ?_
  refine Rn.getA k_117 rfl rfl (s585 L) (hF.l 10 rfl) ?_
  refine Rn.getA k_117 rfl rfl (s19 L) (hF.l 4 rfl) ?_
  refine Rn.getI k_117 rfl rfl (s21 L) ?_
  rw [s3]
  refine Rn.iconst (1) k_117 rfl rfl ?_
  refine Rn.isub k_117 rfl ?_
  refine Rn.istore4 k_117 rfl rfl ?_
  refine Rn.aload_n k_117 rfl rfl ?_
  refine Rn.getA k_117 rfl rfl (s585 L) (hF.l 14 rfl) ?_
  refine Rn.getI k_117 rfl rfl (s588 L) ?_
  rw [hW.1]
  refine Rn.iconst (2) k_117 rfl rfl ?_
  refine Rn.icmp_ne 50 k_117 rfl rfl (fun h1 => ?_) (fun h1 => ?_)
  · rw [c_eq 2 2 rfl (by omega) (by decide)] at h1
    refine no1 _ _ ?_
    match rest, hl with
    | [], _ => rfl
    | [w], hl => exact absurd hl h1
    | w :: w' :: r, _ => rfl
  · rw [c_eq 2 2 rfl (by omega) (by decide)] at h1
    match rest, hl, hws, no1, no2 with
    | [], hl, _, _, _ => exact absurd hl (by simp; omega)
    | w :: w' :: r, hl, _, _, _ => exact absurd hl (by simp only [List.length_cons]; omega)
    | [w], hl, hws, no1, no2 =>
      have hg : ws.getD 1 (0, 0) = w := by rw [hws]; rfl
      have hww := wok_at hw (show 1 < ws.length by omega)
      rw [hg] at hww
      have hne := wd_ne (x := x) hww.1
      rw [if_pos (show 1 < ws.length by omega), hg]
      have eL : caseL A line ([w].map (wd x)) = if okN (wd x w) = true ∧ A.2.1.length < 40 ∧ totW A.2.1 < 120 ∧ (∀ k ∈ A.2.1, ¬ (k_su k = A.1.length ∧ k_nm k = wd x w)) then some (A.1, A.2.1 ++ [(A.1.length, wd x w, line, 0, none, false, [], [])], true) else none := rfl
      generalize wd x w = t at hne eL ⊢
      rw [eL] at no1 no2 ⊢
      refine Rn.lload_n k_117 rfl rfl ?_
      refine Rn.lconst 0 k_117 rfl rfl ?_
      refine Rn.lcmp k_117 rfl ?_
      refine Rn.if_eq 50 k_117 rfl rfl (fun h2 => ?_) (fun h2 => ?_)
      · have h2 := (pk_lEQ (ncode_lt t) (by decide)).mp ((lg_cmp_eq _ _).mp h2)
        refine no1 _ _ (if_neg (fun z => ?_))
        rw [ncode_ok z.1] at h2
        exact enc_pos (okN_okV z.1) hne h2
      · have h2 : okN t = true := by
          cases hz : okN t with
          | true => rfl
          | false => rw [ncode_no hz] at h2; exact absurd rfl h2
        rw [ncode_ok h2]
        refine Rn.aload_n k_117 rfl rfl ?_
        refine Rn.lload_n k_117 rfl rfl ?_
        refine Rn.iload k_117 rfl rfl ?_
        refine Rn.cV3I k_117 rfl rfl q_118 rfl (Nat.le_of_ble_eq_true rfl) (Nat.le_of_ble_eq_true rfl) (s585 L) (ct_isTaken hF hS hA h2 hA1) ?_
        refine Rn.if_eq 52 k_117 rfl rfl (fun h3 => ?_) (fun h3 => ?_)
        · (try rw [bI_0] at h3)
          (try rw [Bool.not_eq_false] at h3)
          have h3' := tkn_no.mp h3
          refine Rn.aload_n k_117 rfl rfl ?_
          refine Rn.getA k_117 rfl rfl (s585 L) (hF.l 10 rfl) ?_
          refine Rn.getI k_117 rfl rfl (s19 L) ?_
          rw [hS.2.2.2.1]
          refine Rn.aload_n k_117 rfl rfl ?_
          refine Rn.getA k_117 rfl rfl (s585 L) (hF.l 10 rfl) ?_
          refine Rn.getA k_117 rfl rfl (s19 L) (hF.l 5 rfl) ?_
          refine Rn.alen k_117 rfl (s23 L) rfl (by decide) ?_
          refine Rn.icmp_ge 82 k_117 rfl rfl (fun h4 => ?_) (fun h4 => ?_)
          · rw [nI_leI (by omega) (by omega)] at h4
            exact no2 _ _ (if_neg (fun z => by omega))
          · rw [nI_leI (by omega) (by omega)] at h4
            have h4 : A.2.1.length < 40 := by omega
            refine Rn.aload_n k_117 rfl rfl ?_
            refine Rn.getA k_117 rfl rfl (s585 L) (hF.l 10 rfl) ?_
            refine Rn.getI k_117 rfl rfl (s19 L) ?_
            rw [hS.2.2.2.2.1]
            refine Rn.bipush (120) k_117 rfl rfl ?_
            refine Rn.icmp_lt 84 k_117 rfl rfl (fun h5 => ?_) (fun h5 => ?_)
            · rw [c_lt 120 120 rfl (by omega) (by decide)] at h5
              rw [if_pos ⟨h2, h4, h5, h3'⟩]
              refine Rn.aload_n k_117 rfl rfl ?_
              refine Rn.getA k_117 rfl rfl (s585 L) (hF.l 10 rfl) ?_
              refine Rn.getA k_117 rfl rfl (s19 L) (hF.l 5 rfl) ?_
              refine Rn.aload_n k_117 rfl rfl ?_
              refine Rn.getA k_117 rfl rfl (s585 L) (hF.l 10 rfl) ?_
              refine Rn.getI k_117 rfl rfl (s19 L) ?_
              refine Rn.aaload (ci := 4) (A.2.1.length) k_117 rfl (s23 L) rfl (by decide) (hS.2.2.2.1) (by omega) (by decide) (hF.2.2.1 _ h4) ?_
              refine Rn.astore5 k_117 rfl rfl ?_
              refine Rn.aload k_117 rfl rfl ?_
              refine Rn.lload_n k_117 rfl rfl ?_
              refine Rn.iload_n k_117 rfl rfl ?_
              refine Rn.cV3 k_117 rfl rfl q_74 rfl (Nat.le_of_ble_eq_true rfl) (Nat.le_of_ble_eq_true rfl) (sk0 L h4) (ct_begin hF h4) (fun v h' hq => ?_)
              obtain ⟨rfl, gi, gl, rfl, b1, b2, b3, b4, b5, b6, b7, b8, b9, b10, b11, b12, b13⟩ := hq
              show Rn _ _ _ _ [] _ _
              have fin : ∀ (gi' : Nat → Nat → Int32) (gl' : Nat → Nat → Int64), (∀ a q, (a < 25 + 14 * A.2.1.length ∨ 25 + 14 * A.2.1.length + 14 ≤ a) → gi' a q = fi a q) → (∀ a q, (a < 25 + 14 * A.2.1.length ∨ 25 + 14 * A.2.1.length + 14 ≤ a) → gl' a q = fl a q) → CKr gi' gl' A.2.1.length (A.1.length, t, line, 0, none, false, [], []) (snm A.1 A.1.length) (stg A.1 A.1.length) → Rn (d + 3) 117 150 [some (.ref 585), some (.int (nI line)), some (.long (lN (enc t))), none, some (.int (nI A.1.length - 1)), some (.ref (25 + 14 * A.2.1.length))] [] (SH L, gi', gl', fr) (AccQ L fi fl fr x n (some (A.1, A.2.1 ++ [(A.1.length, t, line, 0, none, false, [], [])], true))) := by
                intro gi' gl' g1 g2 hC
                refine Rn.aload_n k_117 rfl rfl ?_
                refine Rn.getA k_117 rfl rfl (s585 L) (hF.l 10 rfl) ?_
                refine Rn.dupa k_117 rfl ?_
                refine Rn.getI k_117 rfl rfl (s19 L) ?_
                rw [g1 19 4 (by omega), hS.2.2.2.1]
                refine Rn.iconst (1) k_117 rfl rfl ?_
                refine Rn.iadd k_117 rfl ?_
                rw [c_add 1 1 rfl]
                refine Rn.putI k_117 rfl (rfl) (s19 L) ?_
                refine Rn.aload_n k_117 rfl rfl ?_
                refine Rn.getA k_117 rfl rfl (s585 L) (hF.l 10 rfl) ?_
                refine Rn.dupa k_117 rfl ?_
                refine Rn.getI k_117 rfl rfl (s19 L) ?_
                rw [up2_col _ _ (by decide), g1 19 6 (by omega), hS.2.2.2.2.1]
                refine Rn.iconst (1) k_117 rfl rfl ?_
                refine Rn.iadd k_117 rfl ?_
                rw [c_add 1 1 rfl]
                refine Rn.putI k_117 rfl (rfl) (s19 L) ?_
                refine Rn.aload_n k_117 rfl rfl ?_
                refine Rn.iconst (1) k_117 rfl rfl ?_
                refine Rn.putI k_117 rfl (rfl) (s585 L) ?_
                refine Rn.iconst (1) k_117 rfl rfl ?_
                refine Rn.reti k_117 rfl q_117 rfl (rfl) ?_
                refine ⟨_, _, rfl, fun a q ha => ?_, fun a q ha => ?_, rfl, fun B hB => ?_⟩
                · unfold rdF at ha
                  rw [up2_row _ _ (by omega), up2_row _ _ (by omega), up2_row _ _ (by omega)]
                  exact g1 a q (by omega)
                · unfold rdF at ha
                  exact g2 a q (by omega)
                · cases hB
                  refine hS.push hA h4 (fun a q y1 y2 y3 => ?_) g2 ?_ ?_ (up2_same _ _ _ _) ?_ rfl
                  · refine Eq.trans ?_ (g1 a q y1)
                    unfold up2
                    rcases y2 with y2 | y2
                    · rcases y3 with y3 | y3
                      · rw [if_neg y3, if_neg y2, if_neg y2]
                      · rw [if_neg y3, if_neg y2, if_neg y2]; split <;> rfl
                    · rcases y3 with y3 | y3
                      · rw [if_neg y3, if_neg y2.2, if_neg y2.1]; split <;> rfl
                      · rw [if_neg y3, if_neg y2.2, if_neg y2.1]; split <;> split <;> rfl
                  · rfl
                  · rfl
                  · exact hC.keep (Nat.zero_le 4) (fun a q u1 u2 => by rw [up2_row _ _ (by omega), up2_row _ _ (by omega), up2_row _ _ (by omega)]) (fun a q u1 u2 => rfl)
              refine Rn.iload k_117 rfl rfl ?_
              refine Rn.iconst (-1) k_117 rfl rfl ?_
              refine Rn.icmp_eq 150 k_117 rfl rfl (fun h6 => ?_) (fun h6 => ?_)
              · rw [sub1_m1 (by omega)] at h6
                refine fin gi gl (fun a q y => b12 a q (by omega) (by omega) (by omega)) (fun a q y => b13 a q (by omega)) ?_
                rw [h6]
                refine ⟨b1, b2, b3, b4, b5, b6, b7, (fun r hr => by cases hr), b8, b9, NRr.nil b10, NRr.nil b11, fun p hp => absurd hp (Nat.not_lt_zero p)⟩
              · rw [sub1_m1 (by omega)] at h6
                have hsz : nI A.1.length - 1 = nI (A.1.length - 1) := c_sub 1 1 rfl (by omega)
                have hss : A.1 ≠ [] := fun z => h6 (by rw [z]; rfl)
                have hsl := hS.2.2.2.2.2.2.2 _ (List.getLast?_eq_some_getLast hss)
                have hsA := hA.2.1 _ (List.getLast_mem hss)
                have esn : snm A.1 A.1.length = (A.1.getLast hss).1 := by
                  rw [show A.1.length = (A.1.length - 1) + 1 by omega]
                  show (A.1.getD (A.1.length - 1) ([], [])).1 = _
                  rw [List.getD_eq_getElem?_getD, List.getElem?_eq_getElem (by omega), List.getLast_eq_getElem]
                  rfl
                have est : stg A.1 A.1.length = (A.1.getLast hss).2 := by
                  rw [show A.1.length = (A.1.length - 1) + 1 by omega]
                  show (A.1.getD (A.1.length - 1) ([], [])).2 = _
                  rw [List.getD_eq_getElem?_getD, List.getElem?_eq_getElem (by omega), List.getLast_eq_getElem]
                  rfl
                have hN : NRr (up2 gi (25 + 14 * A.2.1.length) 2 (nI A.1.length - 1)) gl 21 22 (A.1.map (fun s => enc s.1)) := hS.2.2.1.keep (by rw [up2_row _ _ (by omega)]; exact b12 _ _ (by omega) (by omega) (by omega)) (fun q => b13 _ _ (by omega))
                refine Rn.aload k_117 rfl rfl ?_
                refine Rn.iload k_117 rfl rfl ?_
                refine Rn.putI k_117 rfl (rfl) (sk0 L h4) ?_
                refine Rn.aload k_117 rfl rfl ?_
                refine Rn.aload_n k_117 rfl rfl ?_
                refine Rn.getA k_117 rfl rfl (s585 L) (hF.l 10 rfl) ?_
                refine Rn.getA k_117 rfl rfl (s19 L) (hF.l 4 rfl) ?_
                refine Rn.iload k_117 rfl rfl ?_
                rw [hsz]
                refine Rn.cV2L k_117 rfl rfl q_100 rfl (Nat.le_of_ble_eq_true rfl) (Nat.le_of_ble_eq_true rfl) (s21 L) (ct_at (fi := up2 gi (25 + 14 * A.2.1.length) 2 (nI (A.1.length - 1))) (s21 L) (s22 L) (hF.l 3 rfl) (by decide) (hsz ▸ hN) (by rw [List.length_map]; exact hA1) (by rw [List.length_map]; omega)) ?_
                refine Rn.putL k_117 rfl rfl (sk0 L h4) ?_
                refine Rn.aload k_117 rfl rfl ?_
                refine Rn.getA k_117 rfl rfl (sk0 L h4) (hF.k h4 1 rfl) ?_
                refine Rn.aload_n k_117 rfl rfl ?_
                refine Rn.getA k_117 rfl rfl (s585 L) (hF.l 9 rfl) ?_
                have hv : (A.1.map (fun s => enc s.1)).getD (A.1.length - 1) 0 = enc (snm A.1 A.1.length) := by
                  rw [List.getD_eq_getElem?_getD, List.getElem?_map, List.getElem?_eq_getElem (show A.1.length - 1 < A.1.length by omega), esn, List.getLast_eq_getElem]
                  rfl
                rw [hv]
                refine Rn.cV2 k_117 rfl rfl q_101 rfl (Nat.le_of_ble_eq_true rfl) (Nat.le_of_ble_eq_true rfl) (sk1 L h4) (ct_addAll (fi := up2 gi (25 + 14 * A.2.1.length) 2 (nI (A.1.length - 1))) (fl := up2 gl (25 + 14 * A.2.1.length) 1 (lN (enc (snm A.1 A.1.length)))) (w := []) (w2 := (A.1.getLast hss).2.map enc) (sk1 L h4) (sk2 L h4) (hF.k h4 0 rfl) (by decide) (s586 L) (s587 L) (hF.l 8 rfl) (by decide) (by omega) (by omega) ?_ ?_ ?_ ?_ ?_ ?_) (fun v h' hq => ?_)
                · exact hsl.keep (by rw [up2_row _ _ (by omega)]; exact b12 _ _ (by omega) (by omega) (by omega)) (fun q => by rw [up2_row _ _ (by omega)]; exact b13 _ _ (by omega))
                · rw [List.length_map]; exact hsA.2.2.1
                · intro z hz
                  obtain ⟨q, hq, rfl⟩ := List.mem_map.mp hz
                  exact enc_pos (okN_okV (hsA.2.2.2.2 q hq).1) (hsA.2.2.2.2 q hq).2
                · exact NRr.nil (by rw [up2_row _ _ (by omega)]; exact b10)
                · rw [List.length_map]; show 0 + _ ≤ 8; rw [Nat.zero_add]; exact hsA.2.2.1
                · rw [List.nil_append]
                  exact nodup_enc (fun s hs => okN_okV (hsA.2.2.2.2 s hs).1) hsA.2.2.2.1
                · obtain ⟨rfl, gi2, gl2, rfl, c1, c2, c3⟩ := hq
                  show Rn _ _ _ _ [] _ _
                  rw [← hsz]
                  refine fin gi2 gl2 (fun a q y => ?_) (fun a q y => ?_) ?_
                  · rw [c2 _ _ (by omega), up2_row _ _ (by omega)]
                    exact b12 a q (by omega) (by omega) (by omega)
                  · rw [c3 _ _ (by omega), up2_row _ _ (by omega)]
                    exact b13 a q (by omega)
                  · have e0 : ∀ q, q ≠ 2 → gi2 (25 + 14 * A.2.1.length) q = gi (25 + 14 * A.2.1.length) q := fun q hq => by rw [c2 _ _ (by omega), up2_col _ _ hq]
                    refine ⟨?_, ?_, ?_, (e0 3 (by decide)).trans b4, (e0 4 (by decide)).trans b5, (e0 5 (by decide)).trans b6, (e0 6 (by decide)).trans b7, (fun r hr => by cases hr), (e0 10 (by decide)).trans b8, (e0 11 (by decide)).trans b9, ?_, NRr.nil ?_, fun p hp => absurd hp (Nat.not_lt_zero p)⟩
                    · rw [c3 _ _ (by omega), up2_col _ _ (by decide)]; exact b1
                    · rw [c3 _ _ (by omega), up2_same]
                    · rw [c2 _ _ (by omega), up2_same, ← hsz]; rfl
                    · rw [est]
                      show NRr gi2 gl2 _ _ (((A.1.getLast hss).2 ++ []).map enc)
                      rw [List.append_nil]
                      exact c1
                    · rw [c2 _ _ (by omega), up2_row _ _ (by omega)]; exact b11
            · rw [c_lt 120 120 rfl (by omega) (by decide)] at h5
              exact no2 _ _ (if_neg (fun z => h5 z.2.2.1))
        · (try rw [bI_0] at h3)
          (try rw [Bool.not_eq_false] at h3)
          refine no1 _ _ (if_neg (fun z => ?_))
          rw [tkn_no.mpr z.2.2.2] at h3
          cases h3
end RD
