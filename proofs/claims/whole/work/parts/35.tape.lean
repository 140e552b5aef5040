theorem wb_tb (n : Nat) : (lN n).toBitVec = BitVec.ofNat 64 n := rfl
theorem wb_inj {a b : Int64} (h : a.toBitVec = b.toBitVec) : a = b := Int64.toBitVec_inj.mp h
theorem wb_tn {n : Nat} (h : n < 2 ^ 64) : (lN n).toBitVec.toNat = n := by rw [wb_tb, BitVec.toNat_ofNat, Nat.mod_eq_of_lt h]
theorem wb_of (x : Int64) : ∃ n, n < 2 ^ 64 ∧ x = lN n := ⟨x.toBitVec.toNat, x.toBitVec.isLt, wb_inj (by rw [wb_tb]; simp)⟩
theorem wb_of32 (x : Int32) : ∃ n, n < 2 ^ 32 ∧ x = nI n := ⟨x.toBitVec.toNat, x.toBitVec.isLt, Int32.toBitVec_inj.mp (by show _ = BitVec.ofNat 32 _; simp)⟩
theorem wb_c : ∀ k, k < 64 → ((nI k).toInt64 &&& 63) = lN k := by decide +kernel
theorem wb_cu : ∀ k, k < 64 → ((nI k).toInt64.toUInt64 &&& Int64.toUInt64 63) = UInt64.ofNat k := by decide +kernel
theorem wb_sm : ∀ k, k < 64 → (BitVec.ofNat 64 k).smod 64 = BitVec.ofNat 64 k := by decide +kernel
theorem wb_pw {a b : Nat} (h : a ≤ b) : 2 ^ b = 2 ^ a * 2 ^ (b - a) := by rw [← Nat.pow_add]; congr 1; omega
theorem wb_lt2 {a b : Nat} (h : a < b) : 2 ^ a < 2 ^ b := Nat.pow_lt_pow_right (by decide) h
theorem wb_mod (n : Nat) : lN n = lN (n % 2 ^ 64) := wb_inj (by rw [wb_tb, wb_tb]; apply BitVec.eq_of_toNat_eq; rw [BitVec.toNat_ofNat, BitVec.toNat_ofNat, Nat.mod_mod])
theorem wb_shr {n k : Nat} (hn : n < 2 ^ 64) (hk : k < 64) : ((lN n).toUInt64 >>> ((nI k).toInt64.toUInt64 &&& Int64.toUInt64 63)).toInt64 = lN (n / 2 ^ k) := by
  rw [wb_cu k hk]
  apply wb_inj
  apply BitVec.eq_of_toNat_eq
  show ((lN n).toUInt64 >>> UInt64.ofNat k).toNat = (BitVec.ofNat 64 _).toNat
  have h1 : (UInt64.ofNat k).toNat = k := by
    show (BitVec.ofNat 64 k).toNat = k
    rw [BitVec.toNat_ofNat, Nat.mod_eq_of_lt (by omega)]
  have h2 : (lN n).toUInt64.toNat = n := wb_tn hn
  rw [UInt64.toNat_shiftRight, h1, h2, Nat.mod_eq_of_lt hk, Nat.shiftRight_eq_div_pow, BitVec.toNat_ofNat, Nat.mod_eq_of_lt (Nat.lt_of_le_of_lt (Nat.div_le_self _ _) hn)]
theorem wb_shl (n : Nat) {k : Nat} (hk : k < 64) : lN n <<< ((nI k).toInt64 &&& 63) = lN (n * 2 ^ k) := by
  rw [wb_c k hk]
  apply wb_inj
  rw [Int64.toBitVec_shiftLeft, wb_tb, wb_tb, wb_tb, wb_sm k hk]
  apply BitVec.eq_of_toNat_eq
  rw [BitVec.shiftLeft_eq', BitVec.toNat_shiftLeft, BitVec.toNat_ofNat, BitVec.toNat_ofNat, BitVec.toNat_ofNat, Nat.mod_eq_of_lt (show k < 2 ^ 64 by omega), Nat.shiftLeft_eq, Nat.mul_mod, Nat.mod_mod, ← Nat.mul_mod]
theorem wb_and {a b : Nat} (ha : a < 2 ^ 64) (hb : b < 2 ^ 64) : lN a &&& lN b = lN (a &&& b) := by
  apply wb_inj
  rw [Int64.toBitVec_and, wb_tb, wb_tb, wb_tb]
  apply BitVec.eq_of_toNat_eq
  rw [BitVec.toNat_and, BitVec.toNat_ofNat, BitVec.toNat_ofNat, BitVec.toNat_ofNat, Nat.mod_eq_of_lt ha, Nat.mod_eq_of_lt hb, Nat.mod_eq_of_lt (Nat.and_lt_two_pow _ hb)]
theorem wb_or {a b : Nat} (ha : a < 2 ^ 64) (hb : b < 2 ^ 64) : lN a ||| lN b = lN (a ||| b) := by
  apply wb_inj
  rw [Int64.toBitVec_or, wb_tb, wb_tb, wb_tb]
  apply BitVec.eq_of_toNat_eq
  rw [BitVec.toNat_or, BitVec.toNat_ofNat, BitVec.toNat_ofNat, BitVec.toNat_ofNat, Nat.mod_eq_of_lt ha, Nat.mod_eq_of_lt hb, Nat.mod_eq_of_lt (Nat.or_lt_two_pow ha hb)]
theorem wb_mask {n k : Nat} (hn : n < 2 ^ 64) (hk : k < 64) : lN n &&& lN (2 ^ k - 1) = lN (n % 2 ^ k) := by
  rw [wb_and hn (by have := wb_lt2 hk; omega), Nat.and_two_pow_sub_one_eq_mod]
/-! Tape: text comes in -/
def ok_c (c : Nat) : Bool := c == 10 || (decide (32 ≤ c) && decide (c ≤ 126))
/-- eight bits of a long, k up -/
def bt (w : Int64) (k : Nat) : Nat := w.toBitVec.toNat / 2 ^ k % 256
theorem bt_lt (w : Int64) (k : Nat) : bt w k < 256 := Nat.mod_lt _ (by decide)
theorem bt_cls (w : Int64) {k : Nat} (hk : k < 64) : (w.toUInt64 >>> ((nI k).toInt64.toUInt64 &&& Int64.toUInt64 63)).toInt64.toInt32 &&& 255 = nI (bt w k) := by
  obtain ⟨n, hn, rfl⟩ := wb_of w
  rw [wb_shr hn hk, lN_i, pk_and _ 8 rfl]
  unfold bt
  rw [wb_tn hn]
  congr 1
  show (BitVec.ofNat 32 (n / 2 ^ k)).toNat % 256 = _
  rw [BitVec.toNat_ofNat]
  omega
theorem bt_mod (w : Int64) {k : Nat} (hk : k ≤ 56) : ((w >>> ((nI k).toInt64 &&& 63)) &&& 255).toInt32 = nI (bt w k) := by
  obtain ⟨m, hm, e⟩ := wb_of (w >>> ((nI k).toInt64 &&& 63))
  have h5 : m % 256 = bt w k := by
    have e2 : (w >>> ((nI k).toInt64 &&& 63)).toBitVec = w.toBitVec.sshiftRight k := by
      rw [wb_c k (by omega), Int64.toBitVec_shiftRight, wb_tb, wb_sm k (by omega)]
      show w.toBitVec.sshiftRight (BitVec.ofNat 64 k).toNat = _
      rw [BitVec.toNat_ofNat, Nat.mod_eq_of_lt (by omega)]
    rw [e] at e2
    have e3 := congrArg BitVec.toNat e2
    rw [wb_tn hm] at e3
    rw [e3]
    unfold bt
    apply Nat.eq_of_testBit_eq
    intro j
    rw [show (256 : Nat) = 2 ^ 8 from rfl, Nat.testBit_mod_two_pow, Nat.testBit_mod_two_pow, Nat.testBit_div_two_pow]
    by_cases hj : j < 8
    · rw [decide_eq_true hj, Bool.true_and, Bool.true_and]
      show (w.toBitVec.sshiftRight k).getLsbD j = w.toBitVec.getLsbD (j + k)
      rw [BitVec.getLsbD_sshiftRight, decide_eq_false (show ¬ 64 ≤ j by omega), if_pos (show k + j < 64 by omega), Nat.add_comm k j]
      rfl
    · rw [decide_eq_false hj, Bool.false_and, Bool.false_and]
  rw [e, show (255 : Int64) = lN (2 ^ 8 - 1) from rfl, wb_mask hm (by decide), lN_i]
  rw [← h5]
/-- the characters of a long's lower j bytes -/
def bys (w : Int64) : Nat → List Nat
  | 0 => []
  | j + 1 => (if bt w (8 * j) = 0 then [] else [bt w (8 * j)]) ++ bys w j
theorem bys_len (w : Int64) : ∀ j, (bys w j).length ≤ j
  | 0 => Nat.le_refl _
  | j + 1 => by
    unfold bys
    rw [List.length_append]
    have := bys_len w j
    split
    · simp only [List.length_nil]; omega
    · simp only [List.length_singleton]; omega
theorem bys_lt (w : Int64) : ∀ j, ∀ c ∈ bys w j, c < 256 ∧ c ≠ 0
  | 0, c, h => by cases h
  | j + 1, c, h => by
    unfold bys at h
    rcases List.mem_append.mp h with z | z
    · split at z
      · cases z
      · rename_i hz
        rw [List.mem_singleton.mp z]; exact ⟨bt_lt _ _, hz⟩
    · exact bys_lt w j c z
/-- the tape -/
def TPr (fi : Nat → Nat → Int32) (T : List Nat) : Prop := fi 17 1 = nI T.length ∧ ∀ k, k < T.length → fi 18 k = nI (T.getD k 0)
def TOk (T : List Nat) : Prop := T.length ≤ 1200 ∧ ∀ c ∈ T, c < 128 ∧ ok_c c = true
def txtOk (w : Int64) (T : List Nat) : Prop := (∀ c ∈ bys w 8, ok_c c = true) ∧ T.length + (bys w 8).length ≤ 1200
theorem ok_c_lt {c : Nat} (h : ok_c c = true) : c < 128 := by
  unfold ok_c at h
  rw [Bool.or_eq_true, Bool.and_eq_true] at h
  rcases h with h | h
  · have := of_decide_eq_true h; omega
  · have := of_decide_eq_true h.2; omega
theorem m8 (j : Nat) : nI (8 * (j + 1)) + (-8) = nI (8 * j) := by
  rw [show 8 * (j + 1) = 8 * j + 8 by omega, ← nI_add, show nI 8 = (8 : Int32) from rfl, Int32.add_assoc, show (8 : Int32) + -8 = 0 from rfl, Int32.add_zero]
theorem TPr.add {fi : Nat → Nat → Int32} {T : List Nat} (h : TPr fi T) (c : Nat) : TPr (up2 (up2 fi 18 T.length (nI c)) 17 1 (nI (T.length + 1))) (T ++ [c]) := by
  refine ⟨by rw [up2_same, List.length_append]; rfl, fun k hk => ?_⟩
  rw [List.length_append] at hk
  have hk : k < T.length + 1 := hk
  rw [up2_row _ _ (by decide)]
  by_cases e : k = T.length
  · subst e
    rw [up2_same, List.getD_eq_getElem?_getD, List.getElem?_append_right (Nat.le_refl _), Nat.sub_self]
    rfl
  · rw [up2_col _ _ e, List.getD_eq_getElem?_getD, List.getElem?_append_left (by omega), ← List.getD_eq_getElem?_getD]
    exact h.2 k (by omega)
section TP
variable {d L : Nat} {fi : Nat → Nat → Int32} {fl : Nat → Nat → Int64} {fr : Nat → Nat → Option Nat} {F G : Nat}
theorem ct_mayCome {h : am_H} {c : Nat} (hc : c < 256) : Rn d 126 0 [some (.int (nI c))] [] h (Ret h (some (.int (bI (ok_c c))))) := by
  have yes : ok_c c = true → Rn d 126 18 [some (.int (nI c))] [] h (Ret h (some (.int (bI (ok_c c))))) := by
    intro z
    refine Rn.iconst (1) k_126 rfl rfl ?_
    refine Rn.goto 23 k_126 rfl rfl ?_
    refine Rn.reti k_126 rfl q_126 rfl (rfl) ?_
    exact ⟨by rw [z]; rfl, rfl⟩
  have no : ok_c c = false → Rn d 126 22 [some (.int (nI c))] [] h (Ret h (some (.int (bI (ok_c c))))) := by
    intro z
    refine Rn.iconst (0) k_126 rfl rfl ?_
    refine Rn.reti k_126 rfl q_126 rfl (rfl) ?_
    exact ⟨by rw [z]; rfl, rfl⟩
  refine Rn.iload_n k_126 rfl rfl ?_
  refine Rn.bipush (10) k_126 rfl rfl ?_
  refine Rn.icmp_eq 18 k_126 rfl rfl (fun h1 => ?_) (fun h1 => ?_)
  · rw [c_eq 10 10 rfl (by omega) (by decide)] at h1
    exact yes (by simp [ok_c, h1])
  · rw [c_eq 10 10 rfl (by omega) (by decide)] at h1
    refine Rn.iload_n k_126 rfl rfl ?_
    refine Rn.bipush (32) k_126 rfl rfl ?_
    refine Rn.icmp_lt 22 k_126 rfl rfl (fun h2 => ?_) (fun h2 => ?_)
    · rw [c_lt 32 32 rfl (by omega) (by decide)] at h2
      exact no (by simp [ok_c]; omega)
    · rw [c_lt 32 32 rfl (by omega) (by decide)] at h2
      refine Rn.iload_n k_126 rfl rfl ?_
      refine Rn.bipush (126) k_126 rfl rfl ?_
      refine Rn.icmp_gt 22 k_126 rfl rfl (fun h3 => ?_) (fun h3 => ?_)
      · rw [c_gt 126 126 rfl (by omega) (by decide)] at h3
        exact no (by simp [ok_c]; omega)
      · rw [c_gt 126 126 rfl (by omega) (by decide)] at h3
        exact yes (by simp [ok_c]; omega)
def takeQ (L : Nat) (fi : Nat → Nat → Int32) (fl : Nat → Nat → Int64) (fr : Nat → Nat → Option Nat) (w : Int64) (T : List Nat) : Option Value → am_H → Prop := fun v h' => (txtOk w T ∧ v = some (.int 1) ∧ ∃ fi', h' = (SH L, fi', fl, fr) ∧ TPr fi' (T ++ bys w 8) ∧ ∀ a k, a ≠ 17 → a ≠ 18 → fi' a k = fi a k) ∨ (¬ txtOk w T ∧ v = some (.int 0) ∧ h' = (SH L, fi, fl, fr))
set_option maxHeartbeats 1000000 in
theorem ct_take (hF : FRok F G fr) {T : List Nat} (hT : TPr fi T) (hO : T.length ≤ 1200) {w : Int64} : Rn (d + 1) 125 0 [some (.ref 17), some (.long w), none, none, none, none] [] (SH L, fi, fl, fr) (takeQ L fi fl fr w T) := by
  -- the second loop
  have loop2 : ∀ (j : Nat), j ≤ 8 → ∀ (U : List Nat) (gi : Nat → Nat → Int32) (sh o3 : Int32) (o5 : Option Value), (∀ q, j = q + 1 → sh = nI (8 * q)) → (j = 0 → sh = -8) → U ++ bys w j = T ++ bys w 8 → (T ++ bys w 8).length ≤ 1200 → TPr gi U → (∀ a k, a ≠ 17 → a ≠ 18 → gi a k = fi a k) → txtOk w T → Rn (d + 1) 125 76 [some (.ref 17), some (.long w), none, some (.int o3), some (.int sh), o5] [] (SH L, gi, fl, fr) (takeQ L fi fl fr w T) := by
    intro j
    induction j with
    | zero =>
      intro hj U gi sh o3 o5 hs hs0 hU hl hT g1 hok
      rw [hs0 rfl]
      refine Rn.iload k_125 rfl rfl ?_
      refine Rn.if_lt 137 k_125 rfl rfl (fun h6 => ?_) (fun h6 => ?_)
      · refine Rn.iconst (1) k_125 rfl rfl ?_
        refine Rn.reti k_125 rfl q_125 rfl (rfl) ?_
        rw [show bys w 0 = [] from rfl, List.append_nil] at hU
        exact Or.inl ⟨hok, rfl, gi, rfl, hU ▸ hT, g1⟩
      · exact absurd (by decide) h6
    | succ j ih =>
      intro hj U gi sh o3 o5 hs hs0 hU hl hT g1 hok
      rw [hs j rfl]
      have hlen := congrArg List.length hU
      rw [List.length_append] at hlen
      have e1 : bys w (j + 1) = (if bt w (8 * j) = 0 then [] else [bt w (8 * j)]) ++ bys w j := rfl
      have hb := bt_lt w (8 * j)
      have step : ∀ (U : List Nat) (gi : Nat → Nat → Int32), U ++ bys w j = T ++ bys w 8 → TPr gi U → (∀ a k, a ≠ 17 → a ≠ 18 → gi a k = fi a k) → Rn (d + 1) 125 131 [some (.ref 17), some (.long w), none, some (.int o3), some (.int (nI (8 * j))), some (.int (nI (bt w (8 * j))))] [] (SH L, gi, fl, fr) (takeQ L fi fl fr w T) := by
        intro U gi hU hT g1
        refine Rn.iinc4 (-8) k_125 rfl rfl rfl ?_
        refine Rn.goto 76 k_125 rfl rfl ?_
        refine ih (by omega) U gi _ _ _ (fun q hq => ?_) (fun h0 => ?_) hU hl hT g1 hok
        · rw [hq]; exact m8 q
        · rw [h0]; decide
      refine Rn.iload k_125 rfl rfl ?_
      refine Rn.if_lt 137 k_125 rfl rfl (fun h6 => ?_) (fun h6 => ?_)
      · exact absurd h6 (c_neg (by omega))
      · refine Rn.lload_n k_125 rfl rfl ?_
        refine Rn.iload k_125 rfl rfl ?_
        refine Rn.lushr k_125 rfl ?_
        refine Rn.l2i k_125 rfl ?_
        refine Rn.sipush (255) k_125 rfl rfl ?_
        refine Rn.iand k_125 rfl ?_
        rw [bt_cls w (by omega)]
        refine Rn.istore5 k_125 rfl rfl ?_
        refine Rn.iload k_125 rfl rfl ?_
        refine Rn.if_eq 131 k_125 rfl rfl (fun h7 => ?_) (fun h7 => ?_)
        · rw [c_eq 0 0 rfl (by omega) (by decide)] at h7
          rw [e1, if_pos h7, List.nil_append] at hU
          exact step U gi hU hT g1
        · rw [c_eq 0 0 rfl (by omega) (by decide)] at h7
          rw [e1, if_neg h7] at hU hlen
          rw [List.length_append] at hlen
          simp only [List.length_singleton] at hlen
          refine Rn.aload_n k_125 rfl rfl ?_
          refine Rn.getI k_125 rfl rfl (s17 L) ?_
          rw [hT.1]
          refine Rn.aload_n k_125 rfl rfl ?_
          refine Rn.getA k_125 rfl rfl (s17 L) (hF.l 0 rfl) ?_
          refine Rn.alen k_125 rfl (s18 L) rfl (by decide) ?_
          refine Rn.icmp_ge 131 k_125 rfl rfl (fun h8 => ?_) (fun h8 => ?_)
          · rw [nI_leI (by omega) (by omega)] at h8
            omega
          · refine Rn.aload_n k_125 rfl rfl ?_
            refine Rn.getA k_125 rfl rfl (s17 L) (hF.l 0 rfl) ?_
            refine Rn.aload_n k_125 rfl rfl ?_
            refine Rn.getI k_125 rfl rfl (s17 L) ?_
            refine Rn.iload k_125 rfl rfl ?_
            refine Rn.i2c k_125 rfl ?_
            rw [i2c_id (by omega)]
            refine Rn.castore (U.length) k_125 rfl (s18 L) (hT.1) (by omega) (by decide) (fit_c (by omega)) ?_
            refine Rn.aload_n k_125 rfl rfl ?_
            refine Rn.dupa k_125 rfl ?_
            refine Rn.getI k_125 rfl rfl (s17 L) ?_
            rw [show up2 gi 18 U.length (nI (bt w (8 * j))) 17 1 = nI U.length from hT.1]
            refine Rn.iconst (1) k_125 rfl rfl ?_
            refine Rn.iadd k_125 rfl ?_
            rw [c_add 1 1 rfl]
            refine Rn.putI k_125 rfl (rfl) (s17 L) ?_
            refine step (U ++ [bt w (8 * j)]) _ ?_ (hT.add _) (fun a k h1 h2 => ?_)
            · rw [List.append_assoc]; exact hU
            · rw [up2_row _ _ h1, up2_row _ _ h2]; exact g1 a k h1 h2
  -- the first loop
  have loop1 : ∀ (j : Nat), j ≤ 8 → ∀ (q : Nat) (sh : Int32) (o5 : Option Value), (∀ q, j = q + 1 → sh = nI (8 * q)) → (j = 0 → sh = -8) → q + (bys w j).length = (bys w 8).length → ((∀ c ∈ bys w 8, ok_c c = true) ↔ ∀ c ∈ bys w j, ok_c c = true) → Rn (d + 1) 125 6 [some (.ref 17), some (.long w), none, some (.int (nI q)), some (.int sh), o5] [] (SH L, fi, fl, fr) (takeQ L fi fl fr w T) := by
    have h8 := bys_len w 8
    intro j
    induction j with
    | zero =>
      intro hj q sh o5 hs hs0 hq hok
      rw [hs0 rfl]
      have hq : q = (bys w 8).length := hq
      have hok := hok.mpr (fun c hc => by cases hc)
      refine Rn.iload k_125 rfl rfl ?_
      refine Rn.if_lt 56 k_125 rfl rfl (fun h1 => ?_) (fun h1 => ?_)
      · refine Rn.iload_n k_125 rfl rfl ?_
        refine Rn.aload_n k_125 rfl rfl ?_
        refine Rn.getA k_125 rfl rfl (s17 L) (hF.l 0 rfl) ?_
        refine Rn.alen k_125 rfl (s18 L) rfl (by decide) ?_
        refine Rn.aload_n k_125 rfl rfl ?_
        refine Rn.getI k_125 rfl rfl (s17 L) ?_
        rw [hT.1]
        refine Rn.isub k_125 rfl ?_
        rw [pk_sub hO]
        refine Rn.icmp_le 72 k_125 rfl rfl (fun h5 => ?_) (fun h5 => ?_)
        · rw [nI_leI (by omega) (by omega)] at h5
          refine Rn.bipush (56) k_125 rfl rfl ?_
          refine Rn.istore4 k_125 rfl rfl ?_
          refine loop2 8 (Nat.le_refl _) T fi _ _ _ (fun q hq => ?_) (fun h0 => absurd h0 (by decide)) rfl ?_ hT (fun _ _ _ _ => rfl) ⟨hok, by omega⟩
          · have : q = 7 := by omega
            rw [this]; rfl
          · rw [List.length_append]; omega
        · rw [nI_leI (by omega) (by omega)] at h5
          refine Rn.iconst (0) k_125 rfl rfl ?_
          refine Rn.reti k_125 rfl q_125 rfl (rfl) ?_
          exact Or.inr ⟨fun z => by have := z.2; omega, rfl, rfl⟩
      · exact absurd (by decide) h1
    | succ j ih =>
      intro hj q sh o5 hs hs0 hq hok
      rw [hs j rfl]
      have e1 : bys w (j + 1) = (if bt w (8 * j) = 0 then [] else [bt w (8 * j)]) ++ bys w j := rfl
      have hb := bt_lt w (8 * j)
      have step : ∀ q, q + (bys w j).length = (bys w 8).length → ((∀ c ∈ bys w 8, ok_c c = true) ↔ ∀ c ∈ bys w j, ok_c c = true) → Rn (d + 1) 125 50 [some (.ref 17), some (.long w), none, some (.int (nI q)), some (.int (nI (8 * j))), some (.int (nI (bt w (8 * j))))] [] (SH L, fi, fl, fr) (takeQ L fi fl fr w T) := by
        intro q hq hok
        refine Rn.iinc4 (-8) k_125 rfl rfl rfl ?_
        refine Rn.goto 6 k_125 rfl rfl ?_
        refine ih (by omega) q _ _ (fun q hq => ?_) (fun h0 => ?_) hq hok
        · rw [hq]; exact m8 q
        · rw [h0]; decide
      refine Rn.iload k_125 rfl rfl ?_
      refine Rn.if_lt 56 k_125 rfl rfl (fun h1 => ?_) (fun h1 => ?_)
      · exact absurd h1 (c_neg (by omega))
      · refine Rn.lload_n k_125 rfl rfl ?_
        refine Rn.iload k_125 rfl rfl ?_
        refine Rn.lushr k_125 rfl ?_
        refine Rn.l2i k_125 rfl ?_
        refine Rn.sipush (255) k_125 rfl rfl ?_
        refine Rn.iand k_125 rfl ?_
        rw [bt_cls w (by omega)]
        refine Rn.istore5 k_125 rfl rfl ?_
        refine Rn.iload k_125 rfl rfl ?_
        refine Rn.if_eq 37 k_125 rfl rfl (fun h2 => ?_) (fun h2 => ?_)
        · rw [c_eq 0 0 rfl (by omega) (by decide)] at h2
          rw [e1, if_pos h2, List.nil_append] at hq hok
          refine Rn.iload_n k_125 rfl rfl ?_
          refine Rn.iload k_125 rfl rfl ?_
          refine Rn.if_ne 47 k_125 rfl rfl (fun h4 => ?_) (fun h4 => ?_)
          · rw [h2] at h4; exact absurd rfl h4
          · refine Rn.iconst (0) k_125 rfl rfl ?_
            refine Rn.goto 48 k_125 rfl rfl ?_
            refine Rn.iadd k_125 rfl ?_
            rw [Int32.add_zero]
            refine Rn.istore_n3 k_125 rfl rfl ?_
            exact step q hq hok
        · rw [c_eq 0 0 rfl (by omega) (by decide)] at h2
          rw [e1, if_neg h2] at hq hok
          rw [List.length_append] at hq
          simp only [List.length_singleton] at hq
          refine Rn.iload k_125 rfl rfl ?_
          refine Rn.cS1I k_125 rfl rfl q_126 rfl (Nat.le_of_ble_eq_true rfl) (Nat.le_of_ble_eq_true rfl) (ct_mayCome hb) ?_
          refine Rn.if_ne 37 k_125 rfl rfl (fun h3 => ?_) (fun h3 => ?_)
          · (try rw [bI_0] at h3)
            (try rw [Bool.not_eq_false] at h3)
            refine Rn.iload_n k_125 rfl rfl ?_
            refine Rn.iload k_125 rfl rfl ?_
            refine Rn.if_ne 47 k_125 rfl rfl (fun h4 => ?_) (fun h4 => ?_)
            · refine Rn.iconst (1) k_125 rfl rfl ?_
              refine Rn.iadd k_125 rfl ?_
              rw [c_add 1 1 rfl]
              refine Rn.istore_n3 k_125 rfl rfl ?_
              refine step (q + 1) (by omega) (hok.trans ⟨fun z c hc => z c (List.mem_append.mpr (Or.inr hc)), fun z c hc => ?_⟩)
              rcases List.mem_append.mp hc with y | y
              · rw [List.mem_singleton.mp y]; exact h3
              · exact z c y
            · exact absurd ((c_eq 0 0 rfl (by omega) (by decide)).mp h4) h2
          · (try rw [bI_0] at h3)
            (try rw [Bool.not_eq_false] at h3)
            refine Rn.iconst (0) k_125 rfl rfl ?_
            refine Rn.reti k_125 rfl q_125 rfl (rfl) ?_
            refine Or.inr ⟨fun z => ?_, rfl, rfl⟩
            have := hok.mp z.1 (bt w (8 * j)) (by simp)
            rw [h3] at this
            cases this
  refine Rn.iconst (0) k_125 rfl rfl ?_
  refine Rn.istore_n3 k_125 rfl rfl ?_
  refine Rn.bipush (56) k_125 rfl rfl ?_
  refine Rn.istore4 k_125 rfl rfl ?_
  exact loop1 8 (Nat.le_refl _) 0 _ _ (fun q hq => by have : q = 7 := by omega
                                                      rw [this]; rfl) (fun h0 => absurd h0 (by decide)) (Nat.zero_add _) Iff.rfl
theorem ct_text (hF : FRok F G fr) {T : List Nat} (hT : TPr fi T) (hO : T.length ≤ 1200) {w : Int64} : Rn (d + 2) 2 0 [some (.ref 16), some (.long w), none] [] (SH L, fi, fl, fr) (takeQ L fi fl fr w T) := by
  refine Rn.aload_n k_2 rfl rfl ?_
  refine Rn.getA k_2 rfl rfl (s16 L) (hF.l 1 rfl) ?_
  refine Rn.lload_n k_2 rfl rfl ?_
  refine Rn.cV2 k_2 rfl rfl q_125 rfl (Nat.le_of_ble_eq_true rfl) (Nat.le_of_ble_eq_true rfl) (s17 L) (ct_take hF hT hO) (fun v h' hq => ?_)
  rcases hq with ⟨z1, rfl, z2⟩ | ⟨z1, rfl, z2⟩
  · show Rn _ _ _ _ (Value.int 1 :: []) _ _
    refine Rn.reti k_2 rfl q_2 rfl (rfl) ?_
    exact Or.inl ⟨z1, rfl, z2⟩
  · show Rn _ _ _ _ (Value.int 0 :: []) _ _
    refine Rn.reti k_2 rfl q_2 rfl (rfl) ?_
    exact Or.inr ⟨z1, rfl, z2⟩
end TP
