/-! small rows for the walks -/
/-- an int that tells a truth -/
def bI (b : Bool) : Int32 := if b = true then 1 else 0
theorem bI_fit (b : Bool) : am_fit .boolean (bI b) = true := by cases b <;> rfl
theorem bI_0 (b : Bool) : bI b = 0 ↔ b = false := by cases b <;> simp [bI]
theorem c_lt {a : Nat} (k : Int32) (b : Nat) (hk : k = nI b) (ha : a < 2 ^ 31) (hb : b < 2 ^ 31) : nI a < k ↔ a < b := by rw [hk]; exact nI_ltI ha hb
theorem c_gt {a : Nat} (k : Int32) (b : Nat) (hk : k = nI b) (ha : a < 2 ^ 31) (hb : b < 2 ^ 31) : k < nI a ↔ b < a := by rw [hk]; exact nI_ltI hb ha
theorem c_le {a : Nat} (k : Int32) (b : Nat) (hk : k = nI b) (ha : a < 2 ^ 31) (hb : b < 2 ^ 31) : nI a ≤ k ↔ a ≤ b := by rw [hk]; exact nI_leI ha hb
theorem c_ge {a : Nat} (k : Int32) (b : Nat) (hk : k = nI b) (ha : a < 2 ^ 31) (hb : b < 2 ^ 31) : k ≤ nI a ↔ b ≤ a := by rw [hk]; exact nI_leI hb ha
theorem c_eq {a : Nat} (k : Int32) (b : Nat) (hk : k = nI b) (ha : a < 2 ^ 31) (hb : b < 2 ^ 31) : nI a = k ↔ a = b := by rw [hk]; exact nI_eq ha hb
theorem c_neg {a : Nat} (ha : a < 2 ^ 31) : ¬ nI a < 0 := nI_pos ha
theorem c_m1 {a : Nat} (ha : a < 2 ^ 31) : ¬ nI a = -1 := by
  intro h
  have := nI_toInt ha
  rw [h] at this
  simp at this
theorem c_sub {a : Nat} (k : Int32) (b : Nat) (hk : k = nI b) (h : b ≤ a) : nI a - k = nI (a - b) := by rw [hk]; exact pk_sub h
theorem c_add {a : Nat} (k : Int32) (b : Nat) (hk : k = nI b) : nI a + k = nI (a + b) := by rw [hk]; exact nI_add a b
theorem i2c_id {n : Nat} (h : n < 65536) : ((nI n).toUInt32 % 65536).toInt32 = nI n := by
  rw [pk_char, pk_tn (by omega), Nat.mod_eq_of_lt h]
theorem fit_c {n : Nat} (h : n < 65536) : am_fit .char (nI n) = true := by
  unfold am_fit
  rw [Bool.and_eq_true]
  exact ⟨decide_eq_true (nI_pos' (by omega)), decide_eq_true ((c_le 65535 65535 rfl (by omega) (by decide)).mpr (by omega))⟩
/-! letters and digits of names -/
def isL (c : Nat) : Bool := decide (97 ≤ c) && decide (c ≤ 122)
def isN (c : Nat) : Bool := isL c || (decide (48 ≤ c) && decide (c ≤ 57)) || decide (c = 95)
def dg (c : Nat) : Nat := if 97 ≤ c ∧ c ≤ 122 then c - 96 else if 48 ≤ c ∧ c ≤ 57 then c - 48 + 27 else if c = 95 then 37 else 0
theorem dg_lt (c : Nat) : dg c < 38 := by
  unfold dg
  split
  · omega
  · split
    · omega
    · split <;> omega
theorem dg_0 (c : Nat) : dg c = 0 ↔ isN c = false := by
  unfold dg isN isL
  by_cases h1 : 97 ≤ c ∧ c ≤ 122
  · simp [h1]; omega
  · by_cases h2 : 48 ≤ c ∧ c ≤ 57
    · rw [if_neg h1, if_pos h2]; simp [h2]
    · by_cases h3 : c = 95
      · subst h3; simp
      · rw [if_neg h1, if_neg h2, if_neg h3]
        simp only [true_iff, Bool.or_eq_false_iff, Bool.and_eq_false_iff, decide_eq_false_iff_not]
        omega
/-- the last digit's character -/
def chr (q : Nat) : Nat := if q ≤ 26 then 96 + q else if q = 37 then 95 else 21 + q
theorem chr_dg {c : Nat} (h : isN c = true) : chr (dg c) = c := by
  have h0 : ¬ dg c = 0 := fun q => by rw [dg_0, h] at q; cases q
  unfold dg chr at *
  by_cases h1 : 97 ≤ c ∧ c ≤ 122
  · rw [if_pos h1] at *; rw [if_pos (by omega)]; omega
  · rw [if_neg h1] at *
    by_cases h2 : 48 ≤ c ∧ c ≤ 57
    · rw [if_pos h2] at *; rw [if_neg (by omega), if_neg (by omega)]; omega
    · rw [if_neg h2] at *
      by_cases h3 : c = 95
      · subst h3; rfl
      · rw [if_neg h3] at h0; omega
/-- a word's number -/
def enc (w : List Nat) : Nat := w.foldl (fun a c => a * 38 + dg c) 0
theorem enc_app (w : List Nat) (c : Nat) : enc (w ++ [c]) = enc w * 38 + dg c := by unfold enc; rw [List.foldl_append]; rfl
theorem pow38 : 38 ^ 12 < 2 ^ 63 := by decide
theorem enc_lt : ∀ (w : List Nat), enc w < 38 ^ w.length := by
  intro w
  generalize hn : w.length = n
  induction n generalizing w with
  | zero =>
    have : w = [] := List.eq_nil_of_length_eq_zero hn
    subst this
    decide
  | succ n ih =>
    have hne : w ≠ [] := fun q => by rw [q] at hn; cases hn
    have e := List.dropLast_concat_getLast hne
    have hl : w.dropLast.length = n := by rw [List.length_dropLast, hn]; rfl
    rw [← e, enc_app]
    have := ih w.dropLast hl
    have := dg_lt (w.getLast hne)
    rw [Nat.pow_succ]
    omega
theorem enc_lt63 {w : List Nat} (h : w.length ≤ 12) : enc w < 2 ^ 63 := Nat.lt_of_lt_of_le (enc_lt w) (Nat.le_trans (Nat.pow_le_pow_right (by decide) h) (Nat.le_of_lt pow38))
/-- two words of name characters with one number are one -/
theorem enc_inj : ∀ (n : Nat) (w v : List Nat), w.length ≤ n → (∀ c ∈ w, isN c = true) → (∀ c ∈ v, isN c = true) → enc w = enc v → w = v := by
  intro n
  induction n with
  | zero =>
    intro w v hw h1 h2 e
    have : w = [] := List.eq_nil_of_length_eq_zero (by omega)
    subst this
    by_cases hv : v = []
    · rw [hv]
    · have e2 := List.dropLast_concat_getLast hv
      rw [← e2, enc_app] at e
      have : isN (v.getLast hv) = true := h2 _ (List.getLast_mem hv)
      have h0 : ¬ dg (v.getLast hv) = 0 := fun q => by rw [dg_0, this] at q; cases q
      have : enc [] = 0 := rfl
      omega
  | succ n ih =>
    intro w v hw h1 h2 e
    by_cases hwn : w = []
    · exact ih w v (by rw [hwn]; exact Nat.zero_le _) h1 h2 e
    · have e1 := List.dropLast_concat_getLast hwn
      have d1 : ¬ dg (w.getLast hwn) = 0 := fun q => by rw [dg_0, h1 _ (List.getLast_mem hwn)] at q; cases q
      by_cases hv : v = []
      · rw [hv, ← e1, enc_app] at e
        have : enc [] = 0 := rfl
        omega
      · have e2 := List.dropLast_concat_getLast hv
        have l1 := dg_lt (w.getLast hwn)
        have l2 := dg_lt (v.getLast hv)
        rw [← e1, ← e2, enc_app, enc_app] at e
        have ea : enc w.dropLast = enc v.dropLast := by omega
        have ed : dg (w.getLast hwn) = dg (v.getLast hv) := by omega
        have ec : w.getLast hwn = v.getLast hv := by rw [← chr_dg (h1 _ (List.getLast_mem hwn)), ← chr_dg (h2 _ (List.getLast_mem hv)), ed]
        have := ih w.dropLast v.dropLast (by rw [List.length_dropLast]; omega) (fun c hc => h1 c (List.dropLast_subset _ hc)) (fun c hc => h2 c (List.dropLast_subset _ hc)) ea
        rw [← e1, ← e2, this, ec]
/-- how many digits -/
def dlen : Nat → Nat → Nat
  | 0, _ => 0
  | k + 1, n => if n = 0 then 0 else dlen k (n / 38) + 1
theorem dlen_enc : ∀ (k : Nat) (w : List Nat), w.length ≤ k → (∀ c ∈ w, isN c = true) → dlen k (enc w) = w.length := by
  intro k
  induction k with
  | zero => intro w h _; show 0 = _; omega
  | succ k ih =>
    intro w h h1
    by_cases hwn : w = []
    · subst hwn; rfl
    · have e1 := List.dropLast_concat_getLast hwn
      have d1 : ¬ dg (w.getLast hwn) = 0 := fun q => by rw [dg_0, h1 _ (List.getLast_mem hwn)] at q; cases q
      have l1 := dg_lt (w.getLast hwn)
      have hl : 0 < w.length := List.length_pos_iff.mpr hwn
      have en : enc w = enc w.dropLast * 38 + dg (w.getLast hwn) := by rw [← enc_app, e1]
      show (if enc w = 0 then 0 else dlen k (enc w / 38) + 1) = _
      rw [if_neg (by omega), en, show (enc w.dropLast * 38 + dg (w.getLast hwn)) / 38 = enc w.dropLast by omega, ih w.dropLast (by rw [List.length_dropLast]; omega) (fun c hc => h1 c (List.dropLast_subset _ hc)), List.length_dropLast]
      omega
section N
variable {d L : Nat} {h : am_H}
theorem ct_isLetter {c : Nat} (hc : c < 65536) : Rn d 102 0 [some (.int (nI c))] [] h (Ret h (some (.int (bI (isL c))))) := by
  have no : isL c = false → Rn d 102 16 [some (.int (nI c))] [] h (Ret h (some (.int (bI (isL c))))) := by
    intro e
    refine Rn.iconst (0) k_102 rfl rfl ?_
    refine Rn.reti k_102 rfl q_102 rfl (rfl) ?_
    exact ⟨by rw [e]; rfl, rfl⟩
  refine Rn.iload_n k_102 rfl rfl ?_
  refine Rn.bipush (97) k_102 rfl rfl ?_
  refine Rn.icmp_lt 16 k_102 rfl rfl (fun h1 => ?_) (fun h1 => ?_)
  · rw [c_lt 97 97 rfl (by omega) (by decide)] at h1
    exact no (by simp [isL]; omega)
  · rw [c_lt 97 97 rfl (by omega) (by decide)] at h1
    refine Rn.iload_n k_102 rfl rfl ?_
    refine Rn.bipush (122) k_102 rfl rfl ?_
    refine Rn.icmp_gt 16 k_102 rfl rfl (fun h2 => ?_) (fun h2 => ?_)
    · rw [c_gt 122 122 rfl (by omega) (by decide)] at h2
      exact no (by simp [isL]; omega)
    · rw [c_gt 122 122 rfl (by omega) (by decide)] at h2
      refine Rn.iconst (1) k_102 rfl rfl ?_
      refine Rn.goto 17 k_102 rfl rfl ?_
      refine Rn.reti k_102 rfl q_102 rfl (rfl) ?_
      refine ⟨?_, rfl⟩
      rw [show isL c = true by simp [isL]; omega]
      rfl
theorem ct_digitOf {c : Nat} (hc : c < 65536) : Rn d 103 0 [some (.int (nI c))] [] h (Ret h (some (.int (nI (dg c))))) := by
  have third : ¬ (97 ≤ c ∧ c ≤ 122) → ¬ (48 ≤ c ∧ c ≤ 57) → Rn d 103 39 [some (.int (nI c))] [] h (Ret h (some (.int (nI (dg c))))) := by
    intro z1 z2
    refine Rn.iload_n k_103 rfl rfl ?_
    refine Rn.bipush (95) k_103 rfl rfl ?_
    refine Rn.icmp_ne 50 k_103 rfl rfl (fun h5 => ?_) (fun h5 => ?_)
    · have h5 : ¬ c = 95 := fun q => h5 ((c_eq 95 95 rfl (by omega) (by decide)).mpr q)
      refine Rn.iconst (0) k_103 rfl rfl ?_
      refine Rn.reti k_103 rfl q_103 rfl (rfl) ?_
      exact ⟨by rw [dg, if_neg z1, if_neg z2, if_neg h5]; rfl, rfl⟩
    · rw [c_eq 95 95 rfl (by omega) (by decide)] at h5
      refine Rn.bipush (37) k_103 rfl rfl ?_
      refine Rn.goto 51 k_103 rfl rfl ?_
      refine Rn.reti k_103 rfl q_103 rfl (rfl) ?_
      exact ⟨by rw [dg, if_neg z1, if_neg z2, if_pos h5]; rfl, rfl⟩
  have second : ¬ (97 ≤ c ∧ c ≤ 122) → Rn d 103 19 [some (.int (nI c))] [] h (Ret h (some (.int (nI (dg c))))) := by
    intro z1
    refine Rn.iload_n k_103 rfl rfl ?_
    refine Rn.bipush (48) k_103 rfl rfl ?_
    refine Rn.icmp_lt 39 k_103 rfl rfl (fun h3 => ?_) (fun h3 => ?_)
    · rw [c_lt 48 48 rfl (by omega) (by decide)] at h3
      exact third z1 (by omega)
    · rw [c_lt 48 48 rfl (by omega) (by decide)] at h3
      refine Rn.iload_n k_103 rfl rfl ?_
      refine Rn.bipush (57) k_103 rfl rfl ?_
      refine Rn.icmp_gt 39 k_103 rfl rfl (fun h4 => ?_) (fun h4 => ?_)
      · rw [c_gt 57 57 rfl (by omega) (by decide)] at h4
        exact third z1 (by omega)
      · rw [c_gt 57 57 rfl (by omega) (by decide)] at h4
        refine Rn.iload_n k_103 rfl rfl ?_
        refine Rn.bipush (48) k_103 rfl rfl ?_
        refine Rn.isub k_103 rfl ?_
        refine Rn.bipush (27) k_103 rfl rfl ?_
        refine Rn.iadd k_103 rfl ?_
        refine Rn.reti k_103 rfl q_103 rfl (rfl) ?_
        refine ⟨?_, rfl⟩
        rw [dg, if_neg z1, if_pos (by omega), c_sub 48 48 rfl (by omega), c_add 27 27 rfl]
  refine Rn.iload_n k_103 rfl rfl ?_
  refine Rn.bipush (97) k_103 rfl rfl ?_
  refine Rn.icmp_lt 19 k_103 rfl rfl (fun h1 => ?_) (fun h1 => ?_)
  · rw [c_lt 97 97 rfl (by omega) (by decide)] at h1
    exact second (by omega)
  · rw [c_lt 97 97 rfl (by omega) (by decide)] at h1
    refine Rn.iload_n k_103 rfl rfl ?_
    refine Rn.bipush (122) k_103 rfl rfl ?_
    refine Rn.icmp_gt 19 k_103 rfl rfl (fun h2 => ?_) (fun h2 => ?_)
    · rw [c_gt 122 122 rfl (by omega) (by decide)] at h2
      exact second (by omega)
    · rw [c_gt 122 122 rfl (by omega) (by decide)] at h2
      refine Rn.iload_n k_103 rfl rfl ?_
      refine Rn.bipush (97) k_103 rfl rfl ?_
      refine Rn.isub k_103 rfl ?_
      refine Rn.iconst (1) k_103 rfl rfl ?_
      refine Rn.iadd k_103 rfl ?_
      refine Rn.reti k_103 rfl q_103 rfl (rfl) ?_
      refine ⟨?_, rfl⟩
      rw [dg, if_pos (by omega), c_sub 97 97 rfl (by omega), c_add 1 1 rfl, show c - 97 + 1 = c - 96 by omega]
theorem ct_length {n : Nat} (hn : n < 2 ^ 63) (hk : dlen 12 n < 13) (hz : n < 38 ^ 12) : Rn d 104 0 [some (.long (lN n)), none, none, none, none] [] h (Ret h (some (.int (nI (dlen 12 n))))) := by
  have loop : ∀ (k m q : Nat), m < 38 ^ k → m < 2 ^ 63 → Rn d 104 4 [some (.long (lN n)), none, some (.int (nI q)), some (.long (lN m)), none] [] h (Ret h (some (.int (nI (q + dlen k m))))) := by
    intro k
    induction k with
    | zero =>
      intro m q hm hm2
      have : m = 0 := by simpa using hm
      subst this
      refine Rn.lload_n k_104 rfl rfl ?_
      refine Rn.lconst 0 k_104 rfl rfl ?_
      refine Rn.lcmp k_104 rfl ?_
      refine Rn.if_le 22 k_104 rfl rfl (fun h1 => ?_) (fun h1 => ?_)
      · refine Rn.iload_n k_104 rfl rfl ?_
        refine Rn.reti k_104 rfl q_104 rfl (rfl) ?_
        exact ⟨rfl, rfl⟩
      · exact absurd ((lg_cmp_le _ _).mpr (by decide)) h1
    | succ k ih =>
      intro m q hm hm2
      refine Rn.lload_n k_104 rfl rfl ?_
      refine Rn.lconst 0 k_104 rfl rfl ?_
      refine Rn.lcmp k_104 rfl ?_
      refine Rn.if_le 22 k_104 rfl rfl (fun h1 => ?_) (fun h1 => ?_)
      · have : m = 0 := by
          have := (lg_cmp_le _ _).mp h1
          have e : (0 : Int64) = lN 0 := rfl
          rw [e, pk_lLE hm2 (by decide)] at this
          omega
        subst this
        refine Rn.iload_n k_104 rfl rfl ?_
        refine Rn.reti k_104 rfl q_104 rfl (rfl) ?_
        exact ⟨rfl, rfl⟩
      · have h0 : ¬ m = 0 := fun e => h1 ((lg_cmp_le _ _).mpr (by rw [e]; decide))
        refine Rn.iinc2 (1) k_104 rfl rfl rfl ?_
        refine Rn.lload_n k_104 rfl rfl ?_
        refine Rn.ldc2 38 k_104 rfl rfl ?_
        refine Rn.ldiv k_104 rfl (by decide) ?_
        have e38 : (38 : Int64) = lN 38 := rfl
        rw [e38, pk_lDiv hm2 (by decide) (by decide), c_add 1 1 rfl]
        refine Rn.lstore_n3 k_104 rfl rfl ?_
        refine Rn.goto 4 k_104 rfl rfl ?_
        refine (ih (m / 38) (q + 1) ?_ ?_).mono ?_
        · rw [Nat.pow_succ] at hm; omega
        · omega
        · intro v h' hq
          obtain ⟨e1, e2⟩ := hq
          refine ⟨?_, e2⟩
          rw [e1]
          show _ = some (Value.int (nI (q + (if m = 0 then 0 else dlen k (m / 38) + 1))))
          rw [if_neg h0, show q + 1 + dlen k (m / 38) = q + (dlen k (m / 38) + 1) by omega]
  refine Rn.iconst (0) k_104 rfl rfl ?_
  refine Rn.istore_n2 k_104 rfl rfl ?_
  refine Rn.lload_n k_104 rfl rfl ?_
  refine Rn.lstore_n3 k_104 rfl rfl ?_
  have := loop 12 n 0 hz hn
  rw [Nat.zero_add] at this
  exact this
theorem ct_lastCharacter {n : Nat} (hn : n < 2 ^ 63) : Rn d 105 0 [some (.long (lN n)), none, none] [] h (Ret h (some (.int (nI (chr (n % 38)))))) := by
  refine Rn.lload_n k_105 rfl rfl ?_
  refine Rn.ldc2 38 k_105 rfl rfl ?_
  refine Rn.lrem k_105 rfl (by decide) ?_
  have e38 : (38 : Int64) = lN 38 := rfl
  rw [e38, pk_lRem hn (by decide) (by decide)]
  have hm : n % 38 < 38 := Nat.mod_lt _ (by decide)
  generalize n % 38 = q at hm ⊢
  refine Rn.l2i k_105 rfl ?_
  rw [lN_i]
  refine Rn.istore_n2 k_105 rfl rfl ?_
  refine Rn.iload_n k_105 rfl rfl ?_
  refine Rn.bipush (26) k_105 rfl rfl ?_
  refine Rn.icmp_gt 21 k_105 rfl rfl (fun h1 => ?_) (fun h1 => ?_)
  · rw [c_gt 26 26 rfl (by omega) (by decide)] at h1
    refine Rn.iload_n k_105 rfl rfl ?_
    refine Rn.bipush (37) k_105 rfl rfl ?_
    refine Rn.icmp_ne 32 k_105 rfl rfl (fun h2 => ?_) (fun h2 => ?_)
    · have h2 : ¬ q = 37 := fun z => h2 ((c_eq 37 37 rfl (by omega) (by decide)).mpr z)
      refine Rn.bipush (48) k_105 rfl rfl ?_
      refine Rn.iload_n k_105 rfl rfl ?_
      refine Rn.iadd k_105 rfl ?_
      refine Rn.bipush (27) k_105 rfl rfl ?_
      refine Rn.isub k_105 rfl ?_
      rw [show (48 : Int32) = nI 48 from rfl, nI_add, c_sub 27 27 rfl (by omega)]
      refine Rn.i2c k_105 rfl ?_
      rw [i2c_id (by omega)]
      refine Rn.reti k_105 rfl q_105 rfl (fit_c (by omega)) ?_
      refine ⟨?_, rfl⟩
      rw [chr, if_neg (by omega), if_neg h2, show 48 + q - 27 = 21 + q by omega]
    · rw [c_eq 37 37 rfl (by omega) (by decide)] at h2
      refine Rn.bipush (95) k_105 rfl rfl ?_
      refine Rn.goto 40 k_105 rfl rfl ?_
      refine Rn.reti k_105 rfl q_105 rfl (rfl) ?_
      refine ⟨?_, rfl⟩
      rw [chr, if_neg (by omega), if_pos h2]
      rfl
  · rw [c_gt 26 26 rfl (by omega) (by decide)] at h1
    refine Rn.bipush (97) k_105 rfl rfl ?_
    refine Rn.iload_n k_105 rfl rfl ?_
    refine Rn.iadd k_105 rfl ?_
    refine Rn.iconst (1) k_105 rfl rfl ?_
    refine Rn.isub k_105 rfl ?_
    rw [show (97 : Int32) = nI 97 from rfl, nI_add, c_sub 1 1 rfl (by omega)]
    refine Rn.i2c k_105 rfl ?_
    rw [i2c_id (by omega)]
    refine Rn.reti k_105 rfl q_105 rfl (fit_c (by omega)) ?_
    refine ⟨?_, rfl⟩
    rw [chr, if_pos (by omega), show 97 + q - 1 = 96 + q by omega]
end N
