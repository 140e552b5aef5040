/-! how the class holds a script: cases, their rows -/
def dK : KS := (0, [], 0, 0, none, false, [], [])
/-- the Case object number i holds k; sn, st: its suite's name and tags -/
def CKr (fi : Nat → Nat → Int32) (fl : Nat → Nat → Int64) (i : Nat) (k : KS) (sn : Nm) (st : List Nm) : Prop :=
  fl (25 + 14 * i) 0 = lN (enc (k_nm k)) ∧ fl (25 + 14 * i) 1 = lN (enc sn) ∧ fi (25 + 14 * i) 2 = nI (k_su k) - 1 ∧ fi (25 + 14 * i) 3 = nI (k_ln k) ∧ fi (25 + 14 * i) 4 = nI (if k_sz k = 0 then 1 else k_sz k) ∧ fi (25 + 14 * i) 5 = bI (k_rs k).isSome ∧ fi (25 + 14 * i) 6 = bI (k_fl k) ∧ (∀ r, k_rs k = some r → fi (25 + 14 * i) 7 = nI r.1 ∧ fi (25 + 14 * i) 8 = nI r.2) ∧ fi (25 + 14 * i) 10 = nI (ways (k_ps k)) ∧ fi (25 + 14 * i) 11 = bI (decide (k_sz k ≠ 0)) ∧
  NRr fi fl (25 + 14 * i + 1) (25 + 14 * i + 2) ((st ++ k_tg k).map enc) ∧ NRr fi fl (25 + 14 * i + 3) (25 + 14 * i + 4) ((k_ps k).map (fun p => enc p.1)) ∧ ∀ p, p < (k_ps k).length → NRr fi fl (25 + 14 * i + (6 + 2 * p)) (25 + 14 * i + (7 + 2 * p)) (((k_ps k).getD p ([], [])).2.map enc)
theorem CKr.keep {fi fi' : Nat → Nat → Int32} {fl fl' : Nat → Nat → Int64} {i : Nat} {k : KS} {sn : Nm} {st : List Nm} (hps : (k_ps k).length ≤ 4) (h : CKr fi fl i k sn st) (h1 : ∀ a q, 25 + 14 * i ≤ a → a < 25 + 14 * i + 14 → fi' a q = fi a q) (h2 : ∀ a q, 25 + 14 * i ≤ a → a < 25 + 14 * i + 14 → fl' a q = fl a q) : CKr fi' fl' i k sn st := by
  obtain ⟨a1, a2, a3, a4, a5, a6, a7, a8, a9, a10, a11, a12, a13⟩ := h
  have e1 : ∀ q, fi' (25 + 14 * i) q = fi (25 + 14 * i) q := fun q => h1 _ _ (Nat.le_refl _) (by omega)
  have e2 : ∀ q, fl' (25 + 14 * i) q = fl (25 + 14 * i) q := fun q => h2 _ _ (Nat.le_refl _) (by omega)
  refine ⟨(e2 0).trans a1, (e2 1).trans a2, (e1 2).trans a3, (e1 3).trans a4, (e1 4).trans a5, (e1 5).trans a6, (e1 6).trans a7, fun r hr => ⟨(e1 7).trans (a8 r hr).1, (e1 8).trans (a8 r hr).2⟩, (e1 10).trans a9, (e1 11).trans a10, a11.keep (h1 _ _ (by omega) (by omega)) (fun q => h2 _ _ (by omega) (by omega)), a12.keep (h1 _ _ (by omega) (by omega)) (fun q => h2 _ _ (by omega) (by omega)), fun p hp => (a13 p hp).keep (h1 _ _ (by omega) (by omega)) (fun q => h2 _ _ (by omega) (by omega))⟩
/-- the values' rows of a case -/
theorem frV {F G : Nat} {fr : Nat → Nat → Option Nat} (hF : FRok F G fr) {i q : Nat} (hi : i < 40) (hq : q < 4) : fr (25 + 14 * i + 5) q = some (25 + 14 * i + (6 + 2 * q)) := by
  match q, hq with
  | 0, _ => exact hF.k hi 6 rfl
  | 1, _ => exact hF.k hi 8 rfl
  | 2, _ => exact hF.k hi 10 rfl
  | 3, _ => exact hF.k hi 12 rfl
theorem frC {F G : Nat} {fr : Nat → Nat → Option Nat} (hF : FRok F G fr) {i q : Nat} (hi : i < 40) (hq : q < 4) : fr (25 + 14 * i + (6 + 2 * q)) 0 = some (25 + 14 * i + (7 + 2 * q)) := by
  match q, hq with
  | 0, _ => exact hF.k hi 5 rfl
  | 1, _ => exact hF.k hi 7 rfl
  | 2, _ => exact hF.k hi 9 rfl
  | 3, _ => exact hF.k hi 11 rfl
theorem shV (L : Nat) {i q : Nat} (hi : i < 40) (hq : q < 4) : (SH L)[25 + 14 * i + (6 + 2 * q)]? = some (3, 2) := by
  match q, hq with
  | 0, _ => exact sk6 L hi
  | 1, _ => exact sk8 L hi
  | 2, _ => exact sk10 L hi
  | 3, _ => exact sk12 L hi
theorem shC (L : Nat) {i q : Nat} (hi : i < 40) (hq : q < 4) : (SH L)[25 + 14 * i + (7 + 2 * q)]? = some (101, 6) := by
  match q, hq with
  | 0, _ => exact sk7 L hi
  | 1, _ => exact sk9 L hi
  | 2, _ => exact sk11 L hi
  | 3, _ => exact sk13 L hi
/-- which turn of the values of parameter p a way takes -/
def vturn (ps : List (Nm × List Nm)) (way p : Nat) : Nat := (ps.drop (p + 1)).foldr (fun q w => w / q.2.length) way
def vsel (ps : List (Nm × List Nm)) (way p : Nat) : Nm := (ps.getD p ([], [])).2.getD (vturn ps way p % (ps.getD p ([], [])).2.length) []
theorem vturn_le (ps : List (Nm × List Nm)) (way p : Nat) : vturn ps way p ≤ way := by
  unfold vturn
  generalize ps.drop (p + 1) = l
  induction l with
  | nil => exact Nat.le_refl _
  | cons a l ih => exact Nat.le_trans (Nat.div_le_self _ _) ih
section CS
variable {d L : Nat} {fi : Nat → Nat → Int32} {fl : Nat → Nat → Int64} {fr : Nat → Nat → Option Nat} {F G : Nat}
theorem ct_has {t n : Nat} (hn : fi 19 6 = nI n) (hn2 : n < 2 ^ 30) {x : Int32} : Rn d 111 0 [some (.ref 19), some (.int x)] [] (SH L, fi, fl, fr) (Ret (SH L, fi, fl, fr) (some (.int (bI (decide (¬ x < 0 ∧ x < nI n)))))) := by
  refine Rn.iload_n k_111 rfl rfl ?_
  refine Rn.if_lt 16 k_111 rfl rfl (fun h1 => ?_) (fun h1 => ?_)
  · refine Rn.iconst (0) k_111 rfl rfl ?_
    refine Rn.reti k_111 rfl q_111 rfl (rfl) ?_
    exact ⟨by rw [decide_eq_false (fun z => z.1 h1)]; rfl, rfl⟩
  · refine Rn.iload_n k_111 rfl rfl ?_
    refine Rn.aload_n k_111 rfl rfl ?_
    refine Rn.getI k_111 rfl rfl (s19 L) ?_
    rw [hn]
    refine Rn.icmp_ge 16 k_111 rfl rfl (fun h2 => ?_) (fun h2 => ?_)
    · refine Rn.iconst (0) k_111 rfl rfl ?_
      refine Rn.reti k_111 rfl q_111 rfl (rfl) ?_
      exact ⟨by rw [decide_eq_false (fun z => Int32.not_le.mpr z.2 h2)]; rfl, rfl⟩
    · refine Rn.iconst (1) k_111 rfl rfl ?_
      refine Rn.goto 17 k_111 rfl rfl ?_
      refine Rn.reti k_111 rfl q_111 rfl (rfl) ?_
      exact ⟨by rw [decide_eq_true ⟨h1, Int32.not_le.mp h2⟩]; rfl, rfl⟩
theorem ct_caseOf (hF : FRok F G fr) {n t i : Nat} (hn : fi 19 6 = nI n) (hn2 : n ≤ 120) (ht : t < n) (hi : fi 24 t = nI i) (hi2 : i < 40) : Rn (d + 1) 112 0 [some (.ref 19), some (.int (nI t))] [] (SH L, fi, fl, fr) (Ret (SH L, fi, fl, fr) (some (.ref (25 + 14 * i)))) := by
  refine Rn.aload_n k_112 rfl rfl ?_
  refine Rn.getA k_112 rfl rfl (s19 L) (hF.l 5 rfl) ?_
  refine Rn.aload_n k_112 rfl rfl ?_
  refine Rn.iload_n k_112 rfl rfl ?_
  refine Rn.cV2I k_112 rfl rfl q_111 rfl (Nat.le_of_ble_eq_true rfl) (Nat.le_of_ble_eq_true rfl) (s19 L) (ct_has (t := t) hn (by omega)) ?_
  refine Rn.if_eq 21 k_112 rfl rfl (fun h1 => ?_) (fun h1 => ?_)
  · have : ¬ nI t < 0 ∧ nI t < nI n := ⟨c_neg (by omega), (nI_ltI (by omega) (by omega)).mpr ht⟩
    rw [decide_eq_true this] at h1
    exact absurd h1 (by decide)
  · refine Rn.aload_n k_112 rfl rfl ?_
    refine Rn.getA k_112 rfl rfl (s19 L) (hF.l 6 rfl) ?_
    refine Rn.iload_n k_112 rfl rfl ?_
    refine Rn.iaload (t) k_112 rfl (s24 L) (rfl) (by omega) (by decide) ?_
    rw [hi]
    refine Rn.goto 22 k_112 rfl rfl ?_
    refine Rn.aaload (ci := 4) (i) k_112 rfl (s23 L) rfl (by decide) (rfl) (hi2) (by decide) (hF.2.2.1 i hi2) ?_
    refine Rn.reta k_112 rfl q_112 rfl ?_
    exact ⟨rfl, rfl⟩
theorem ct_lineEnd (hF : FRok F G fr) {x : Nat → Nat} {n a : Nat} (hT : TXr fi x n) (hn : fi 19 1 = nI n) (ha : a ≤ n) : Rn d 109 0 [some (.ref 19), some (.int (nI a)), none] [] (SH L, fi, fl, fr) (Ret (SH L, fi, fl, fr) (some (.int (nI (eol x (n - a) a))))) := by
  have hn2 := hT.2
  have loop : ∀ k i, i + k = n → Rn d 109 2 [some (.ref 19), some (.int (nI a)), some (.int (nI i))] [] (SH L, fi, fl, fr) (Ret (SH L, fi, fl, fr) (some (.int (nI (eol x k i))))) := by
    intro k
    induction k with
    | zero =>
      intro i hi
      refine Rn.iload_n k_109 rfl rfl ?_
      refine Rn.aload_n k_109 rfl rfl ?_
      refine Rn.getI k_109 rfl rfl (s19 L) ?_
      rw [hn]
      refine Rn.icmp_ge 27 k_109 rfl rfl (fun h1 => ?_) (fun h1 => ?_)
      · refine Rn.iload_n k_109 rfl rfl ?_
        refine Rn.reti k_109 rfl q_109 rfl (rfl) ?_
        exact ⟨rfl, rfl⟩
      · exact absurd ((nI_leI (by omega) (by omega)).mpr (by omega)) h1
    | succ k ih =>
      intro i hi
      obtain ⟨t1, t2⟩ := hT.1 i (by omega)
      refine Rn.iload_n k_109 rfl rfl ?_
      refine Rn.aload_n k_109 rfl rfl ?_
      refine Rn.getI k_109 rfl rfl (s19 L) ?_
      rw [hn]
      refine Rn.icmp_ge 27 k_109 rfl rfl (fun h1 => ?_) (fun h1 => ?_)
      · exact absurd ((nI_leI (by omega) (by omega)).mp h1) (by omega)
      · refine Rn.aload_n k_109 rfl rfl ?_
        refine Rn.getA k_109 rfl rfl (s19 L) (hF.l 2 rfl) ?_
        refine Rn.iload_n k_109 rfl rfl ?_
        refine Rn.caload (i) k_109 rfl (s20 L) (rfl) (by omega) (by decide) ?_
        rw [t1]
        refine Rn.bipush (10) k_109 rfl rfl ?_
        refine Rn.icmp_eq 27 k_109 rfl rfl (fun h2 => ?_) (fun h2 => ?_)
        · rw [c_eq 10 10 rfl (by omega) (by decide)] at h2
          refine Rn.iload_n k_109 rfl rfl ?_
          refine Rn.reti k_109 rfl q_109 rfl (rfl) ?_
          exact ⟨by rw [eol, if_pos h2], rfl⟩
        · have h2 : ¬ x i = 10 := fun z => h2 ((c_eq 10 10 rfl (by omega) (by decide)).mpr z)
          refine Rn.iinc2 (1) k_109 rfl rfl rfl ?_
          rw [c_add 1 1 rfl]
          refine Rn.goto 2 k_109 rfl rfl ?_
          rw [eol, if_neg h2]
          exact ih (i + 1) (by omega)
  refine Rn.iload_n k_109 rfl rfl ?_
  refine Rn.istore_n2 k_109 rfl rfl ?_
  exact loop (n - a) a (by omega)
/-- nothing is left: the heap's three numbers are 0 -/
def fgt (fi : Nat → Nat → Int32) : Nat → Nat → Int32 := up2 (up2 (up2 fi 21 1 0) 19 4 0) 19 6 0
theorem ct_forget (hF : FRok F G fr) : Rn d 107 0 [some (.ref 19)] [] (SH L, fi, fl, fr) (Ret (SH L, fgt fi, fl, fr) none) := by
  refine Rn.aload_n k_107 rfl rfl ?_
  refine Rn.getA k_107 rfl rfl (s19 L) (hF.l 4 rfl) ?_
  refine Rn.iconst (0) k_107 rfl rfl ?_
  refine Rn.putI k_107 rfl (rfl) (s21 L) ?_
  refine Rn.aload_n k_107 rfl rfl ?_
  refine Rn.iconst (0) k_107 rfl rfl ?_
  refine Rn.putI k_107 rfl (rfl) (s19 L) ?_
  refine Rn.aload_n k_107 rfl rfl ?_
  refine Rn.iconst (0) k_107 rfl rfl ?_
  refine Rn.putI k_107 rfl (rfl) (s19 L) ?_
  refine Rn.retv k_107 rfl q_107 rfl ?_
  exact ⟨rfl, rfl⟩
theorem ct_become (hF : FRok F G fr) {n : Nat} {t : Nat → Nat} (hn : fi 17 1 = nI n) (hn2 : n ≤ 1200) (ht : ∀ k, k < n → fi 18 k = nI (t k) ∧ t k < 128) : Rn (d + 1) 108 0 [some (.ref 19), some (.ref 17)] [] (SH L, fi, fl, fr) (fun v h' => v = none ∧ ∃ fi', h' = (SH L, fi', fl, fr) ∧ TXr fi' t n ∧ fi' 19 1 = nI n ∧ fi' 21 1 = 0 ∧ fi' 19 4 = 0 ∧ fi' 19 6 = 0 ∧ ∀ a k, a ≠ 19 → a ≠ 20 → a ≠ 21 → fi' a k = fi a k) := by
  refine Rn.aload_n k_108 rfl rfl ?_
  refine Rn.cV1 k_108 rfl rfl q_107 rfl (Nat.le_of_ble_eq_true rfl) (Nat.le_of_ble_eq_true rfl) (s19 L) (ct_forget hF) (fun v h1 hq => ?_)
  obtain ⟨rfl, rfl⟩ := hq
  show Rn _ _ _ _ [] _ _
  refine Rn.aload_n k_108 rfl rfl ?_
  refine Rn.aload_n k_108 rfl rfl ?_
  refine Rn.getI k_108 rfl rfl (s17 L) ?_
  rw [show fgt fi 17 1 = nI n from hn]
  refine Rn.putI k_108 rfl (rfl) (s19 L) ?_
  refine Rn.aload_n k_108 rfl rfl ?_
  refine Rn.getA k_108 rfl rfl (s17 L) (hF.l 0 rfl) ?_
  refine Rn.iconst (0) k_108 rfl rfl ?_
  refine Rn.aload_n k_108 rfl rfl ?_
  refine Rn.getA k_108 rfl rfl (s19 L) (hF.l 2 rfl) ?_
  refine Rn.iconst (0) k_108 rfl rfl ?_
  refine Rn.aload_n k_108 rfl rfl ?_
  refine Rn.getI k_108 rfl rfl (s19 L) ?_
  refine Rn.copy0 (n) k_108 rfl (s18 L) (s20 L) (by decide) (Nat.le_of_ble_eq_true rfl) (up2_same _ _ _ _) (by omega) (by omega) (by omega) ?_
  refine Rn.retv k_108 rfl q_108 rfl ?_
  refine ⟨rfl, _, rfl, ⟨fun k hk => ?_, hn2⟩, ?_, rfl, rfl, rfl, fun a k h1 h2 h3 => ?_⟩
  · refine ⟨?_, (ht k hk).2⟩
    show (if (20 : Nat) = 20 then va_cpy _ _ 0 0 n k else _) = _
    rw [if_pos rfl, pk_cpy_in (Nat.zero_le _) (by omega), Nat.zero_add, Nat.sub_zero]
    exact (ht k hk).1
  · show up2 (fgt fi) 19 1 (nI n) 19 1 = nI n
    exact up2_same _ _ _ _
  · show (if a = 20 then _ else _) = _
    rw [if_neg h2, up2_row _ _ h1]
    unfold fgt
    rw [up2_row _ _ h1, up2_row _ _ h1, up2_row _ _ h3]
end CS
