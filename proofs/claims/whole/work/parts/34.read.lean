/-! ScriptReader.read; TestFinder.script -/
/-- the script as it stays: text, suites, cases, tests -/
def FSr (fi : Nat → Nat → Int32) (fl : Nat → Nat → Int64) (x : Nat → Nat) (n : Nat) (A : AS) : Prop :=
  TXr fi x n ∧ NRr fi fl 21 22 (A.1.map (fun s => enc s.1)) ∧ fi 19 4 = nI A.2.1.length ∧ fi 19 6 = nI (totW A.2.1) ∧ (∀ i, i < A.2.1.length → CKr fi fl i (A.2.1.getD i dK) (snm A.1 (k_su (A.2.1.getD i dK))) (stg A.1 (k_su (A.2.1.getD i dK)))) ∧ NTr fi A.2.1
def A0 : AS := ([], [], false)
theorem A0_ok (n : Nat) : AOk n A0 := ⟨Nat.zero_le _, (fun s hs => by cases hs), List.nodup_nil, Nat.zero_le _, (fun s hs => by cases hs), Nat.zero_le _, (fun z => by cases z), (fun _ k hk => by cases hk)⟩
/-- what the script says that is read: NONE and what it holds, or the line that is ill and nothing -/
def scrW (x : Nat → Nat) (n : Nat) : AS ⊕ Nat := linesW x n (n + 1) A0 0 0
def scrI (r : AS ⊕ Nat) : Int32 := match r with
  | .inl _ => -1
  | .inr l => nI l
def scrA (r : AS ⊕ Nat) : AS := match r with
  | .inl A => A
  | .inr _ => A0
theorem CKr.keep9 {fi fi' : Nat → Nat → Int32} {fl : Nat → Nat → Int64} {i : Nat} {k : KS} {sn : Nm} {st : List Nm} (hps : (k_ps k).length ≤ 4) (h : CKr fi fl i k sn st) (h1 : ∀ a q, 25 + 14 * i ≤ a → a < 25 + 14 * i + 14 → q ≠ 9 → fi' a q = fi a q) : CKr fi' fl i k sn st := by
  obtain ⟨a1, a2, a3, a4, a5, a6, a7, a8, a9, a10, a11, a12, a13⟩ := h
  have e1 : ∀ q, q ≠ 9 → fi' (25 + 14 * i) q = fi (25 + 14 * i) q := fun q hq => h1 _ _ (Nat.le_refl _) (by omega) hq
  exact ⟨a1, a2, (e1 2 (by decide)).trans a3, (e1 3 (by decide)).trans a4, (e1 4 (by decide)).trans a5, (e1 5 (by decide)).trans a6, (e1 6 (by decide)).trans a7, fun r hr => ⟨(e1 7 (by decide)).trans (a8 r hr).1, (e1 8 (by decide)).trans (a8 r hr).2⟩, (e1 10 (by decide)).trans a9, (e1 11 (by decide)).trans a10, a11.keep (h1 _ _ (by omega) (by omega) (by decide)) (fun _ => rfl), a12.keep (h1 _ _ (by omega) (by omega) (by decide)) (fun _ => rfl), fun p hp => (a13 p hp).keep (h1 _ _ (by omega) (by omega) (by decide)) (fun _ => rfl)⟩
theorem SCr.keepW {fi fi' : Nat → Nat → Int32} {fl : Nat → Nat → Int64} {x : Nat → Nat} {n : Nat} {A : AS} (hA : AOk n A) (hS : SCr fi fl x n A) (e : ∀ a q, wdF a → fi' a q = fi a q) : SCr fi' fl x n A := by
  obtain ⟨s1, s2, s3, s4, s5, s6, s7, s8⟩ := hS
  have w : ∀ a, (a < 588 ∨ 590 < a) → wdF a := fun a ha => ⟨by omega, by omega, by omega⟩
  have hl := hA.2.2.2.1
  exact ⟨s1.keep (fun q => e _ _ (w _ (by omega))), (e _ _ (w _ (by omega))).trans s2, s3.keep (e _ _ (w _ (by omega))) (fun _ => rfl), (e _ _ (w _ (by omega))).trans s4, (e _ _ (w _ (by omega))).trans s5, fun i hi => (s6 i hi).keep (hA.k hi).2.2.2.2.2.2.2.2.1 (fun a q u1 u2 => e _ _ (w _ (by omega))) (fun _ _ _ _ => rfl), (e _ _ (w _ (by omega))).trans s7, fun s hs => (s8 s hs).keep (e _ _ (w _ (by omega))) (fun _ => rfl)⟩
def rdQ (L : Nat) (fi : Nat → Nat → Int32) (fl : Nat → Nat → Int64) (fr : Nat → Nat → Option Nat) (x : Nat → Nat) (n : Nat) (r : AS ⊕ Nat) : Option Value → am_H → Prop := fun v h' => v = some (.int (scrI r)) ∧ ∃ fi' fl', h' = (SH L, fi', fl', fr) ∧ FSr fi' fl' x n (scrA r) ∧ (∀ a k, (a < 19 ∨ 591 ≤ a) → fi' a k = fi a k) ∧ ∀ a k, (a < 19 ∨ 591 ≤ a) → fl' a k = fl a k
theorem FSr.keep {fi fi' : Nat → Nat → Int32} {fl fl' : Nat → Nat → Int64} {x : Nat → Nat} {n : Nat} {A : AS} (hA : AOk n A) (h : FSr fi fl x n A) (h1 : ∀ a q, 19 ≤ a → a < 585 → fi' a q = fi a q) (h2 : ∀ a q, 19 ≤ a → a < 585 → fl' a q = fl a q) : FSr fi' fl' x n A := by
  obtain ⟨s1, s2, s3, s4, s5, s6⟩ := h
  have hl := hA.2.2.2.1
  refine ⟨s1.keep (fun q => h1 _ _ (by decide) (by decide)), s2.keep (h1 _ _ (by decide) (by decide)) (fun q => h2 _ _ (by decide) (by decide)), (h1 _ _ (by decide) (by decide)).trans s3, (h1 _ _ (by decide) (by decide)).trans s4, fun i hi => (s5 i hi).keep (hA.k hi).2.2.2.2.2.2.2.2.1 (fun a q u1 u2 => h1 _ _ (by omega) (by omega)) (fun a q u1 u2 => h2 _ _ (by omega) (by omega)), fun i hi => ⟨(h1 _ _ (by omega) (by omega)).trans (s6 i hi).1, fun w hw => (h1 _ _ (by decide) (by decide)).trans ((s6 i hi).2 w hw)⟩⟩
theorem linesW_ok (x : Nat → Nat) {n : Nat} (hn : n ≤ 1200) : ∀ (f : Nat) (A : AS) (line i : Nat), AOk n A → AOk n (scrA (linesW x n f A line i)) := by
  intro f
  induction f with
  | zero => intro A line i hA; exact hA
  | succ f ih =>
    intro A line i hA
    unfold linesW
    split
    · exact hA
    · rename_i hge
      have he := eol_ge x (n - i) i
      split
      · exact A0_ok n
      · rename_i B hB
        exact ih B _ _ (lineW_ok hA (cutW_ok x he.1 (by omega) hn) (cutW_srt x _ _) hB)
theorem scrA_ok (x : Nat → Nat) {n : Nat} (hn : n ≤ 1200) : AOk n (scrA (scrW x n)) := linesW_ok x hn _ _ _ _ (A0_ok n)
section RD
variable {d L : Nat} {fi : Nat → Nat → Int32} {fl : Nat → Nat → Int64} {fr : Nat → Nat → Option Nat} {F G : Nat} {x : Nat → Nat} {n : Nat}
set_option maxHeartbeats 2000000 in
theorem ct_read (hF : FRok F G fr) (hSt : STs L fi fr) (hm : fi 17 1 = nI n) (hn : n ≤ 1200) (ht : ∀ k, k < n → fi 18 k = nI (x k) ∧ x k < 128) : Rn (d + 6) 114 0 [some (.ref 585), some (.ref 17), none, none, none] [] (SH L, fi, fl, fr) (rdQ L fi fl fr x n (scrW x n)) := by
  have loop : ∀ (f i line : Nat) (A : AS) (gi : Nat → Nat → Int32) (gl : Nat → Nat → Int64) (o4 : Option Value), n < i + f → i ≤ n + 1 → line ≤ i → SCr gi gl x n A → AOk n A → (∀ a k, (a < 19 ∨ 591 ≤ a) → gi a k = fi a k) → (∀ a k, (a < 19 ∨ 591 ≤ a) → gl a k = fl a k) → Rn (d + 6) 114 17 [some (.ref 585), some (.ref 17), some (.int (nI i)), some (.int (nI line)), o4] [] (SH L, gi, gl, fr) (rdQ L fi fl fr x n (linesW x n f A line i)) := by
    have exit : ∀ (i line : Nat) (A : AS) (gi : Nat → Nat → Int32) (gl : Nat → Nat → Int64) (o4 : Option Value), n ≤ i → i ≤ n + 1 → line ≤ i → SCr gi gl x n A → AOk n A → (∀ a k, (a < 19 ∨ 591 ≤ a) → gi a k = fi a k) → (∀ a k, (a < 19 ∨ 591 ≤ a) → gl a k = fl a k) → Rn (d + 6) 114 17 [some (.ref 585), some (.ref 17), some (.int (nI i)), some (.int (nI line)), o4] [] (SH L, gi, gl, fr) (rdQ L fi fl fr x n (.inl A)) := by
      intro i line A gi gl o4 hi hi2 hli hS hA g1 g2
      have hl := hA.2.2.2.1
      have fin : Rn (d + 6) 114 83 [some (.ref 585), some (.ref 17), some (.int (nI i)), some (.int (nI line)), o4] [] (SH L, gi, gl, fr) (rdQ L fi fl fr x n (.inl A)) := by
        refine Rn.aload_n k_114 rfl rfl ?_
        refine Rn.getA k_114 rfl rfl (s585 L) (hF.l 10 rfl) ?_
        refine Rn.cV1 k_114 rfl rfl q_110 rfl (Nat.le_of_ble_eq_true rfl) (Nat.le_of_ble_eq_true rfl) (s19 L) (ct_numberTests hF hl hS.2.2.2.1 (fun i hi => (hS.2.2.2.2.2.1 i hi).2.2.2.2.2.2.2.2.1) hA.2.2.2.2.2.1) (fun v h' hq => ?_)
        obtain ⟨rfl, gi', rfl, hN, hk⟩ := hq
        show Rn _ _ _ _ [] _ _
        refine Rn.iconst (-1) k_114 rfl rfl ?_
        refine Rn.reti k_114 rfl q_114 rfl (rfl) ?_
        obtain ⟨s1, s2, s3, s4, s5, s6, s7, s8⟩ := hS
        refine ⟨rfl, gi', gl, rfl, ⟨s1.keep (fun q => hk _ _ (by decide) (Or.inr (fun i hi => by omega))), s3.keep (hk _ _ (by decide) (Or.inl (by decide))) (fun _ => rfl), (hk _ _ (by decide) (Or.inl (by decide))).trans s4, (hk _ _ (by decide) (Or.inl (by decide))).trans s5, fun i hi => ?_, hN⟩, fun a k ha => ?_, g2⟩
        · exact (s6 i hi).keep9 (hA.k hi).2.2.2.2.2.2.2.2.1 (fun a q u1 u2 hq => hk _ _ (by omega) (Or.inl hq))
        · rw [hk a k (by omega) (Or.inr (fun i hi => by omega))]
          exact g1 a k ha
      refine Rn.iload_n k_114 rfl rfl ?_
      refine Rn.sipush (1200) k_114 rfl rfl ?_
      refine Rn.icmp_ge 83 k_114 rfl rfl (fun hc => ?_) (fun hc => ?_)
      · exact fin
      · refine Rn.iload_n k_114 rfl rfl ?_
        refine Rn.aload_n k_114 rfl rfl ?_
        refine Rn.getA k_114 rfl rfl (s585 L) (hF.l 10 rfl) ?_
        refine Rn.getI k_114 rfl rfl (s19 L) ?_
        rw [hS.2.1]
        refine Rn.icmp_ge 83 k_114 rfl rfl (fun h1 => ?_) (fun h1 => ?_)
        · exact fin
        · rw [nI_leI (by omega) (by omega)] at h1
          omega
    intro f
    induction f with
    | zero =>
      intro i line A gi gl o4 hf hi hli hS hA g1 g2
      exact exit i line A gi gl o4 (by omega) hi hli hS hA g1 g2
    | succ f ih =>
      intro i line A gi gl o4 hf hi hli hS hA g1 g2
      unfold linesW
      by_cases hge : n ≤ i
      · rw [if_pos hge]
        exact exit i line A gi gl o4 hge hi hli hS hA g1 g2
      · rw [if_neg hge]
        have he := eol_ge x (n - i) i
        refine Rn.iload_n k_114 rfl rfl ?_
        refine Rn.sipush (1200) k_114 rfl rfl ?_
        refine Rn.icmp_ge 83 k_114 rfl rfl (fun hc => ?_) (fun hc => ?_)
        · rw [c_ge 1200 1200 rfl (by omega) (by decide)] at hc
          omega
        · refine Rn.iload_n k_114 rfl rfl ?_
          refine Rn.aload_n k_114 rfl rfl ?_
          refine Rn.getA k_114 rfl rfl (s585 L) (hF.l 10 rfl) ?_
          refine Rn.getI k_114 rfl rfl (s19 L) ?_
          rw [hS.2.1]
          refine Rn.icmp_ge 83 k_114 rfl rfl (fun h1 => ?_) (fun h1 => ?_)
          · rw [nI_leI (by omega) (by omega)] at h1
            omega
          · refine Rn.aload_n k_114 rfl rfl ?_
            refine Rn.getA k_114 rfl rfl (s585 L) (hF.l 10 rfl) ?_
            refine Rn.iload_n k_114 rfl rfl ?_
            refine Rn.cV2I k_114 rfl rfl q_109 rfl (Nat.le_of_ble_eq_true rfl) (Nat.le_of_ble_eq_true rfl) (s19 L) (ct_lineEnd hF hS.1 hS.2.1 (by omega)) ?_
            refine Rn.istore4 k_114 rfl rfl ?_
            refine Rn.aload_n k_114 rfl rfl ?_
            refine Rn.getA k_114 rfl rfl (s585 L) (hF.l 14 rfl) ?_
            refine Rn.iload_n k_114 rfl rfl ?_
            refine Rn.iload k_114 rfl rfl ?_
            generalize hE : eol x (n - i) i = e at he
            refine Rn.cV3 k_114 rfl rfl q_133 rfl (Nat.le_of_ble_eq_true rfl) (Nat.le_of_ble_eq_true rfl) (s588 L) (ct_cut hF hS.1 (show i ≤ e by omega) (show e ≤ n by omega)) (fun v h' hq => ?_)
            obtain ⟨rfl, gi1, rfl, hW, k1⟩ := hq
            show Rn _ _ _ _ [] _ _
            have hS1 := hS.keepW hA k1
            have hw := cutW_ok x (show i ≤ e by omega) (show e ≤ n by omega) hn
            have k2 : ∀ a k, (a < 19 ∨ 591 ≤ a) → gi1 a k = fi a k := fun a k ha => (k1 a k ⟨by omega, by omega, by omega⟩).trans (g1 a k ha)
            refine Rn.aload_n k_114 rfl rfl ?_
            refine Rn.iload_n k_114 rfl rfl ?_
            refine Rn.cV2 k_114 rfl rfl q_115 rfl (Nat.le_of_ble_eq_true rfl) (Nat.le_of_ble_eq_true rfl) (s585 L) (ct_accept hF (hSt.keep (fun a q ha => k2 a q (by omega))) hS1 hA hW hw) (fun v h' hq => ?_)
            obtain ⟨gi2, gl2, rfl, z1, z2, rfl, z4⟩ := hq
            show Rn _ _ _ _ (Value.int _ :: []) _ _
            have k3 : ∀ a k, (a < 19 ∨ 591 ≤ a) → gi2 a k = fi a k := fun a k ha => (z1 a k (by unfold rdF; omega)).trans (k2 a k ha)
            have k4 : ∀ a k, (a < 19 ∨ 591 ≤ a) → gl2 a k = fl a k := fun a k ha => (z2 a k (by unfold rdF; omega)).trans (g2 a k ha)
            cases hL : lineW x A line (cutW x i e) with
            | none =>
              rw [hL] at z4
              show Rn _ _ _ _ (Value.int 0 :: []) _ _
              refine Rn.if_ne 72 k_114 rfl rfl (fun h2 => ?_) (fun h2 => ?_)
              · exact absurd rfl h2
              · refine Rn.aload_n k_114 rfl rfl ?_
                refine Rn.getA k_114 rfl rfl (s585 L) (hF.l 10 rfl) ?_
                refine Rn.cV1 k_114 rfl rfl q_107 rfl (Nat.le_of_ble_eq_true rfl) (Nat.le_of_ble_eq_true rfl) (s19 L) (ct_forget hF) (fun v h' hq => ?_)
                obtain ⟨rfl, rfl⟩ := hq
                show Rn _ _ _ _ [] _ _
                refine Rn.iload_n k_114 rfl rfl ?_
                refine Rn.reti k_114 rfl q_114 rfl (rfl) ?_
                have ef : ∀ a k, (a ≠ 19 ∧ a ≠ 21) → fgt gi2 a k = gi2 a k := by
                  intro a k ha
                  unfold fgt
                  rw [up2_row _ _ ha.1, up2_row _ _ ha.1, up2_row _ _ ha.2]
                have k5 : ∀ k, gi2 20 k = gi1 20 k := fun k => z1 20 k (Or.inr (Or.inl rfl))
                refine ⟨rfl, _, _, rfl, ⟨hS1.1.keep (fun q => (ef 20 q (by decide)).trans (k5 q)), NRr.nil rfl, rfl, rfl, fun i hi => absurd hi (Nat.not_lt_zero i), fun i hi => absurd hi (Nat.not_lt_zero i)⟩, fun a k ha => ?_, k4⟩
                rw [ef a k (by omega)]
                exact k3 a k ha
            | some B =>
              rw [hL] at z4
              show Rn _ _ _ _ (Value.int 1 :: []) _ _
              refine Rn.if_ne 72 k_114 rfl rfl (fun h2 => ?_) (fun h2 => ?_)
              · refine Rn.iload k_114 rfl rfl ?_
                refine Rn.iconst (1) k_114 rfl rfl ?_
                refine Rn.iadd k_114 rfl ?_
                rw [c_add 1 1 rfl]
                refine Rn.istore_n2 k_114 rfl rfl ?_
                refine Rn.iinc3 (1) k_114 rfl rfl rfl ?_
                rw [c_add 1 1 rfl]
                refine Rn.goto 17 k_114 rfl rfl ?_
                exact ih (e + 1) (line + 1) B gi2 gl2 _ (by omega) (by omega) (by omega) (z4 B rfl) (lineW_ok hA hw (cutW_srt x i e) hL) k3 k4
              · exact absurd h2 (by decide)
  refine Rn.aload_n k_114 rfl rfl ?_
  refine Rn.getA k_114 rfl rfl (s585 L) (hF.l 10 rfl) ?_
  refine Rn.aload_n k_114 rfl rfl ?_
  refine Rn.cV2 k_114 rfl rfl q_108 rfl (Nat.le_of_ble_eq_true rfl) (Nat.le_of_ble_eq_true rfl) (s19 L) (ct_become hF hm hn ht) (fun v h' hq => ?_)
  obtain ⟨rfl, gi, rfl, b1, b2, b3, b4, b5, b6⟩ := hq
  show Rn _ _ _ _ [] _ _
  refine Rn.aload_n k_114 rfl rfl ?_
  refine Rn.iconst (0) k_114 rfl rfl ?_
  refine Rn.putI k_114 rfl (rfl) (s585 L) ?_
  refine Rn.iconst (0) k_114 rfl rfl ?_
  refine Rn.istore_n2 k_114 rfl rfl ?_
  refine Rn.iconst (0) k_114 rfl rfl ?_
  refine Rn.istore_n3 k_114 rfl rfl ?_
  refine loop (n + 1) 0 0 A0 _ fl none (by omega) (by omega) (Nat.le_refl 0) ⟨b1, b2, NRr.nil b3, b4, b5, fun i hi => absurd hi (Nat.not_lt_zero i), rfl, fun s hs => by cases hs⟩ (A0_ok n) (fun a k ha => ?_) (fun _ _ _ => rfl)
  rw [up2_row _ _ (by omega)]
  exact b6 a k (by omega) (by omega) (by omega)
/-- which of the two filters is in force -/
def FG (F G : Nat) : Prop := (F = 592 ∧ G = 599) ∨ (F = 599 ∧ G = 592)
theorem FG.sF {F G : Nat} (h : FG F G) (L : Nat) : (SH L)[F]? = some (8, 5) := by
  rcases h with ⟨rfl, rfl⟩ | ⟨rfl, rfl⟩
  · exact s592 L
  · exact s599 L
theorem FG.sG {F G : Nat} (h : FG F G) (L : Nat) : (SH L)[G]? = some (8, 5) := by
  rcases h with ⟨rfl, rfl⟩ | ⟨rfl, rfl⟩
  · exact s599 L
  · exact s592 L
theorem ct_script (hF : FRok F G fr) (hFG : FG F G) (hSt : STs L fi fr) (hm : fi 17 1 = nI n) (hn : n ≤ 1200) (ht : ∀ k, k < n → fi 18 k = nI (x k) ∧ x k < 128) : Rn (d + 7) 3 0 [some (.ref 16), none] [] (SH L, fi, fl, fr) (fun v h' => v = some (.int (scrI (scrW x n))) ∧ ∃ fi' fl', h' = (SH L, fi', fl', fr) ∧ FSr fi' fl' x n (scrA (scrW x n)) ∧ fi' 17 1 = 0 ∧ fi' F 4 = 0 ∧ (∀ a k, (a < 19 ∨ 591 ≤ a) → (a ≠ 17 ∨ k ≠ 1) → (a ≠ F ∨ k ≠ 4) → fi' a k = fi a k) ∧ ∀ a k, (a < 19 ∨ 591 ≤ a) → fl' a k = fl a k) := by
  refine Rn.aload_n k_3 rfl rfl ?_
  refine Rn.getA k_3 rfl rfl (s16 L) (hF.l 15 rfl) ?_
  refine Rn.aload_n k_3 rfl rfl ?_
  refine Rn.getA k_3 rfl rfl (s16 L) (hF.l 1 rfl) ?_
  refine Rn.cV2 k_3 rfl rfl q_114 rfl (Nat.le_of_ble_eq_true rfl) (Nat.le_of_ble_eq_true rfl) (s585 L) (ct_read hF hSt hm hn ht) (fun v h' hq => ?_)
  obtain ⟨rfl, gi, gl, rfl, q1, q2, q3⟩ := hq
  show Rn _ _ _ _ (Value.int _ :: []) _ _
  refine Rn.istore_n1 k_3 rfl rfl ?_
  refine Rn.aload_n k_3 rfl rfl ?_
  refine Rn.getA k_3 rfl rfl (s16 L) (hF.l 1 rfl) ?_
  refine Rn.iconst (0) k_3 rfl rfl ?_
  refine Rn.putI k_3 rfl (rfl) (s17 L) ?_
  refine Rn.aload_n k_3 rfl rfl ?_
  refine Rn.getA k_3 rfl rfl (s16 L) hF.2.2.2.2 ?_
  refine Rn.iconst (0) k_3 rfl rfl ?_
  refine Rn.putI k_3 rfl (rfl) (hFG.sF L) ?_
  refine Rn.iload_n k_3 rfl rfl ?_
  refine Rn.reti k_3 rfl q_3 rfl (rfl) ?_
  have hF2 : F = 592 ∨ F = 599 := hFG.elim (fun z => Or.inl z.1) (fun z => Or.inr z.1)
  have e : ∀ a k, a < 591 → a ≠ 17 → up2 (up2 gi 17 1 0) F 4 0 a k = gi a k := fun a k h1 h2 => by rw [up2_row _ _ (by omega), up2_row _ _ h2]
  refine ⟨rfl, _, gl, rfl, ?_, ?_, ?_, fun a k h1 h2 h3 => ?_, q3⟩
  · exact q1.keep (scrA_ok x hn) (fun a q u1 u2 => e a q (by omega) (by omega)) (fun _ _ _ _ => rfl)
  · rw [up2_row _ _ (by omega), up2_same]
  · exact up2_same _ _ _ _
  · refine Eq.trans ?_ (q2 a k h1)
    unfold up2
    rcases h3 with h3 | h3
    · rw [if_neg h3]
      rcases h2 with h2 | h2
      · rw [if_neg h2]
      · rw [if_neg h2]; split <;> rfl
    · rw [if_neg h3]
      rcases h2 with h2 | h2
      · rw [if_neg h2]; split <;> rfl
      · rw [if_neg h2]; split <;> split <;> rfl
end RD
