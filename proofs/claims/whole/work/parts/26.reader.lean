/-! ScriptReader: a line is taken in -/
def rdF (a : Nat) : Prop := a < 19 ∨ a = 20 ∨ 588 ≤ a
def SCr (fi : Nat → Nat → Int32) (fl : Nat → Nat → Int64) (x : Nat → Nat) (n : Nat) (A : AS) : Prop :=
  TXr fi x n ∧ fi 19 1 = nI n ∧ NRr fi fl 21 22 (A.1.map (fun s => enc s.1)) ∧ fi 19 4 = nI A.2.1.length ∧ fi 19 6 = nI (totW A.2.1) ∧ (∀ i, i < A.2.1.length → CKr fi fl i (A.2.1.getD i dK) (snm A.1 (k_su (A.2.1.getD i dK))) (stg A.1 (k_su (A.2.1.getD i dK)))) ∧ fi 585 3 = bI A.2.2 ∧ ∀ s, A.1.getLast? = some s → NRr fi fl 586 587 (s.2.map enc)
def AccQ (L : Nat) (fi : Nat → Nat → Int32) (fl : Nat → Nat → Int64) (fr : Nat → Nat → Option Nat) (x : Nat → Nat) (n : Nat) (o : Option AS) : Option Value → am_H → Prop := fun v h' => ∃ fi' fl', h' = (SH L, fi', fl', fr) ∧ (∀ a k, rdF a → fi' a k = fi a k) ∧ (∀ a k, rdF a → fl' a k = fl a k) ∧ v = some (.int (bI o.isSome)) ∧ ∀ B, o = some B → SCr fi' fl' x n B
theorem enc_pos {t : Nm} (h : okV t = true) (ht : t ≠ []) : enc t ≠ 0 := by
  intro e
  exact ht (enc_inj t.length t [] (Nat.le_refl _) (okV_isN h) (fun c hc => by cases hc) e)
theorem mem_enc {l : List Nm} {t : Nm} (hl : ∀ s ∈ l, okV s = true) (ht : okV t = true) : enc t ∈ l.map enc ↔ t ∈ l := by
  constructor
  · intro h
    obtain ⟨s, hs, e⟩ := List.mem_map.mp h
    have := enc_inj s.length s t (Nat.le_refl _) (okV_isN (hl s hs)) (okV_isN ht) e
    rw [← this]; exact hs
  · exact fun h => List.mem_map.mpr ⟨t, h, rfl⟩
theorem nodup_enc {l : List Nm} (hl : ∀ s ∈ l, okV s = true) (h : l.Nodup) : (l.map enc).Nodup := by
  induction l with
  | nil => exact List.nodup_nil
  | cons a l ih =>
    rw [List.nodup_cons] at h
    rw [List.map_cons, List.nodup_cons]
    exact ⟨fun z => h.1 ((mem_enc (fun s hs => hl s (List.mem_cons_of_mem _ hs)) (hl a List.mem_cons_self)).mp z), ih (fun s hs => hl s (List.mem_cons_of_mem _ hs)) h.2⟩
theorem ncode_ok {t : Nm} (h : okN t = true) : ncode t = enc t := by unfold ncode; rw [if_pos h]
theorem ncode_no {t : Nm} (h : okN t = false) : ncode t = 0 := by unfold ncode; rw [if_neg (by rw [h]; decide)]
theorem wd_ne {x : Nat → Nat} {p : Nat × Nat} (h : p.1 < p.2) : wd x p ≠ [] := by
  intro e
  have := sl_len x p.1 p.2
  unfold wd at e
  rw [e] at this
  simp at this
  omega
theorem stg_app (ss : List (Nm × List Nm)) (s : Nm × List Nm) {su : Nat} (h : su ≤ ss.length) : stg (ss ++ [s]) su = stg ss su := by
  cases su with
  | zero => rfl
  | succ k => unfold stg; dsimp only; rw [List.getD_eq_getElem?_getD, List.getD_eq_getElem?_getD, List.getElem?_append_left (by omega)]
theorem snm_app (ss : List (Nm × List Nm)) (s : Nm × List Nm) {su : Nat} (h : su ≤ ss.length) : snm (ss ++ [s]) su = snm ss su := by
  cases su with
  | zero => rfl
  | succ k => unfold snm; dsimp only; rw [List.getD_eq_getElem?_getD, List.getD_eq_getElem?_getD, List.getElem?_append_left (by omega)]
theorem AOk.k {n : Nat} {A : AS} (h : AOk n A) {i : Nat} (hi : i < A.2.1.length) : KOk A.1 n (A.2.1.getD i dK) := by
  refine h.2.2.2.2.1 _ ?_
  rw [List.getD_eq_getElem?_getD, List.getElem?_eq_getElem hi]
  exact List.getElem_mem hi
section RD
variable {d L : Nat} {fi : Nat → Nat → Int32} {fl : Nat → Nat → Int64} {fr : Nat → Nat → Option Nat} {F G : Nat} {x : Nat → Nat} {n : Nat} {A : AS} {ws : List (Nat × Nat)}
def suiteL (x : Nat → Nat) (A : AS) (ts : List Nm) : Option AS := match ts with
  | [t] => if okN t = true ∧ A.1.length < 10 ∧ t ∉ A.1.map (·.1) then some (A.1 ++ [(t, [])], A.2.1, false) else none
  | _ => none
set_option maxHeartbeats 1000000 in
theorem ct_openSuite (hF : FRok F G fr) (hS : SCr fi fl x n A) (hA : AOk n A) (hW : WDr fi ws) (hw : wok n ws) {w0 : Nat × Nat} {rest : List (Nat × Nat)} (hws : ws = w0 :: rest) : Rn (d + 3) 116 0 [some (.ref 585)] [] (SH L, fi, fl, fr) (AccQ L fi fl fr x n (suiteL x A (rest.map (wd x)))) := by
  obtain ⟨s1, s2, s3, s4, s5, s6, s7, s8⟩ := hS
  have hl : ws.length = rest.length + 1 := by rw [hws]; rfl
  have hl6 := hw.2
  have fr1 : ∀ a k, rdF a → up2 (up2 fi 585 3 0) 586 1 0 a k = fi a k := by
    intro a k ha
    unfold rdF at ha
    rw [up2_row _ _ (by omega), up2_row _ _ (by omega)]
  have no : ∀ gi : Nat → Nat → Int32, (∀ a k, rdF a → gi a k = fi a k) → ∀ gl : Nat → Nat → Int64, (∀ a k, rdF a → gl a k = fl a k) → suiteL x A (rest.map (wd x)) = none → Rn (d + 3) 116 49 [some (.ref 585)] [] (SH L, gi, gl, fr) (AccQ L fi fl fr x n (suiteL x A (rest.map (wd x)))) := by
    intro gi hg gl hg2 e
    refine Rn.iconst (0) k_116 rfl rfl ?_
    refine Rn.reti k_116 rfl q_116 rfl (rfl) ?_
    rw [e]
    exact ⟨gi, gl, rfl, hg, hg2, rfl, fun B hB => by cases hB⟩
  refine Rn.aload_n k_116 rfl rfl ?_
  refine Rn.iconst (0) k_116 rfl rfl ?_
  refine Rn.putI k_116 rfl (rfl) (s585 L) ?_
  refine Rn.aload_n k_116 rfl rfl ?_
  refine Rn.getA k_116 rfl rfl (s585 L) (hF.l 9 rfl) ?_
  refine Rn.iconst (0) k_116 rfl rfl ?_
  refine Rn.putI k_116 rfl (rfl) (s586 L) ?_
  refine Rn.aload_n k_116 rfl rfl ?_
  refine Rn.getA k_116 rfl rfl (s585 L) (hF.l 14 rfl) ?_
  refine Rn.getI k_116 rfl rfl (s588 L) ?_
  rw [show up2 (up2 fi 585 3 0) 586 1 0 588 2 = nI ws.length from hW.1]
  refine Rn.iconst (2) k_116 rfl rfl ?_
  refine Rn.icmp_ne 49 k_116 rfl rfl (fun h1 => ?_) (fun h1 => ?_)
  · have h1 : ¬ ws.length = 2 := fun z => h1 ((c_eq 2 2 rfl (by omega) (by decide)).mpr z)
    refine no _ fr1 _ (fun _ _ _ => rfl) ?_
    match rest, hl with
    | [], _ => rfl
    | [w], hl => exact absurd hl h1
    | w :: w' :: r, _ => rfl
  · rw [c_eq 2 2 rfl (by omega) (by decide)] at h1
    match rest, hl, hws with
    | [w], hl, hws =>
      have hg : ws.getD 1 (0, 0) = w := by rw [hws]; rfl
      have hww := wok_at hw (show 1 < ws.length by omega)
      rw [hg] at hww
      have hne := wd_ne (x := x) hww.1
      refine Rn.aload_n k_116 rfl rfl ?_
      refine Rn.getA k_116 rfl rfl (s585 L) (hF.l 10 rfl) ?_
      refine Rn.getA k_116 rfl rfl (s19 L) (hF.l 4 rfl) ?_
      refine Rn.aload_n k_116 rfl rfl ?_
      refine Rn.getA k_116 rfl rfl (s585 L) (hF.l 14 rfl) ?_
      refine Rn.iconst (1) k_116 rfl rfl ?_
      refine Rn.cV2L k_116 rfl rfl q_137 rfl (Nat.le_of_ble_eq_true rfl) (Nat.le_of_ble_eq_true rfl) (s588 L) (ct_name (fi := up2 (up2 fi 585 3 0) 586 1 0) (k := 1) hF s1 hW hw (by decide)) ?_
      rw [if_pos (show 1 < ws.length by omega), hg]
      have hlen : (A.1.map (fun s => enc s.1)).length = A.1.length := List.length_map ..
      have h10 := hA.1
      refine Rn.cV2 k_116 rfl rfl q_98 rfl (Nat.le_of_ble_eq_true rfl) (Nat.le_of_ble_eq_true rfl) (s21 L) (ct_add (fi := up2 (up2 fi 585 3 0) 586 1 0) (s21 L) (s22 L) (hF.l 3 rfl) (by decide) s3 (by omega) (ncode_lt _)) (fun v h3 hq => ?_)
      have eqv : (ncode (wd x w) = 0 ∨ 10 ≤ (A.1.map (fun s => enc s.1)).length ∨ ncode (wd x w) ∈ A.1.map (fun s => enc s.1)) ↔ ¬ (okN (wd x w) = true ∧ A.1.length < 10 ∧ wd x w ∉ A.1.map (·.1)) := by
        rw [hlen]
        cases hok : okN (wd x w) with
        | false => rw [ncode_no hok]; simp
        | true =>
          rw [ncode_ok hok]
          have h0 := enc_pos (okN_okV hok) hne
          have hm : enc (wd x w) ∈ A.1.map (fun s => enc s.1) ↔ wd x w ∈ A.1.map (·.1) := by
            rw [show A.1.map (fun s => enc s.1) = (A.1.map (·.1)).map enc by rw [List.map_map]; rfl]
            exact mem_enc (fun s hs => by
              obtain ⟨q, hq, rfl⟩ := List.mem_map.mp hs
              exact okN_okV (hA.2.1 q hq).1) (okN_okV hok)
          rw [hm]
          constructor
          · rintro (z | z | z) ⟨-, z1, z2⟩
            · exact h0 z
            · omega
            · exact z2 z
          · intro z
            by_cases h10 : 10 ≤ A.1.length
            · exact Or.inr (Or.inl h10)
            · refine Or.inr (Or.inr ?_)
              by_cases hm2 : wd x w ∈ A.1.map (·.1)
              · exact hm2
              · exact absurd ⟨rfl, by omega, hm2⟩ z
      by_cases hgood : okN (wd x w) = true ∧ A.1.length < 10 ∧ wd x w ∉ A.1.map (·.1)
      · rw [if_neg (fun z => eqv.mp z hgood)] at hq
        obtain ⟨rfl, rfl⟩ := hq
        show Rn _ _ _ _ (Value.int 1 :: []) _ _
        refine Rn.if_eq 49 k_116 rfl rfl (fun h2 => ?_) (fun h2 => ?_)
        · exact absurd h2 (by decide)
        · refine Rn.iconst (1) k_116 rfl rfl ?_
          refine Rn.goto 50 k_116 rfl rfl ?_
          refine Rn.reti k_116 rfl q_116 rfl (rfl) ?_
          have e : suiteL x A ([w].map (wd x)) = some (A.1 ++ [(wd x w, [])], A.2.1, false) := by
            show (if _ then _ else _) = _
            rw [if_pos hgood]
          rw [e]
          refine ⟨_, _, rfl, fun a k ha => ?_, fun a k ha => ?_, rfl, fun B hB => ?_⟩
          · unfold rdF at ha
            rw [up2_row _ _ (by omega), up2_row _ _ (by omega), up2_row _ _ (by omega)]
          · unfold rdF at ha
            rw [up2_row _ _ (by omega)]
          · cases hB
            have s3' : NRr (up2 (up2 fi 585 3 0) 586 1 0) fl 21 22 (A.1.map (fun s => enc s.1)) := s3
            have s3'' := s3'.add (ncode_lt (wd x w)) (by omega)
            refine ⟨s1, s2, ?_, s4, s5, fun i hi => ?_, rfl, fun s hs => ?_⟩
            · rw [List.map_append]
              rw [ncode_ok hgood.1] at s3'' ⊢
              exact s3''
            · have hi : i < A.2.1.length := hi
              have hk := hA.k hi
              show CKr _ _ i (A.2.1.getD i dK) (snm (A.1 ++ [(wd x w, [])]) (k_su (A.2.1.getD i dK))) (stg (A.1 ++ [(wd x w, [])]) (k_su (A.2.1.getD i dK)))
              rw [stg_app _ _ hk.1, snm_app _ _ hk.1]
              have hA4 := hA.2.2.2.1
              exact (s6 i hi).keep hk.2.2.2.2.2.2.2.2.1 (fun a q h1 h2 => by rw [up2_row _ _ (by omega), up2_row _ _ (by omega), up2_row _ _ (by omega)]) (fun a q h1 h2 => by rw [up2_row _ _ (by omega)])
            · have hs : (A.1 ++ [(wd x w, ([] : List Nm))]).getLast? = some s := hs
              rw [List.getLast?_append] at hs
              cases hs
              exact NRr.nil rfl
      · rw [if_pos (eqv.mpr hgood)] at hq
        obtain ⟨rfl, rfl⟩ := hq
        show Rn _ _ _ _ (Value.int 0 :: []) _ _
        refine Rn.if_eq 49 k_116 rfl rfl (fun h2 => ?_) (fun h2 => ?_)
        · refine no _ fr1 _ (fun _ _ _ => rfl) ?_
          show (if _ then _ else _) = _
          rw [if_neg hgood]
        · exact absurd rfl h2
    | [], hl, _ => exact absurd hl (by simp; omega)
    | w :: w' :: r, hl, _ => exact absurd hl (by simp only [List.length_cons]; omega)
end RD
