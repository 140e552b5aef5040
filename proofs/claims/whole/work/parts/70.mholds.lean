/-! THE REFERENCE: isWord, hasTag, hasValue, holds -/
/-- the sieve's text and step j -/
def MSv (fi : Nat → Nat → Int32) (y : Nat → Nat) (m : Nat) : Prop := m ≤ 120 ∧ ∀ k, k < m → fi 634 k = nI (y k) ∧ y k < 128
section MH
variable {d L : Nat} {fi : Nat → Nat → Int32} {fl : Nat → Nat → Int64} {fr : Nat → Nat → Option Nat} {F G : Nat} {x y : Nat → Nat} {n m : Nat} {A : AS} {S : List FS}
theorem cm_isWord (hF : FRok F G fr) (hT : MTX fi x n) (hV : MSv fi y m) {a b c e : Nat} (hab : a ≤ b) (hb : b ≤ n) (hce : c ≤ e) (he : e ≤ m) : Rn d 65 0 [some (.ref 604), some (.int (nI a)), some (.int (nI b)), some (.int (nI c)), some (.int (nI e)), none, none] [] (SH L, fi, fl, fr) (Ret (SH L, fi, fl, fr) (some (.int (bI (decide (sl x a b = sl y c e)))))) := by
  have hn := hT.2
  have hm := hV.1
  have fin : ∀ (q : Bool) (o6 : Option Value), q = decide (sl x a b = sl y c e) → Rn d 65 67 [some (.ref 604), some (.int (nI a)), some (.int (nI b)), some (.int (nI c)), some (.int (nI e)), some (.int (bI q)), o6] [] (SH L, fi, fl, fr) (Ret (SH L, fi, fl, fr) (some (.int (bI (decide (sl x a b = sl y c e)))))) := by
    intro q o6 hq
    refine Rn.iload k_65 rfl rfl ?_
    refine Rn.reti k_65 rfl q_65 rfl (bI_fit _) ?_
    rw [hq]
    exact ⟨rfl, rfl⟩
  have stop : ∀ (q : Nat), q ≤ b - a → decide (sl x a b = sl y c e) = false → Rn d 65 20 [some (.ref 604), some (.int (nI a)), some (.int (nI b)), some (.int (nI c)), some (.int (nI e)), some (.int (bI false)), some (.int (nI q))] [] (SH L, fi, fl, fr) (Ret (SH L, fi, fl, fr) (some (.int (bI (decide (sl x a b = sl y c e)))))) := by
    intro q hq hf
    refine Rn.iload k_65 rfl rfl ?_
    refine Rn.iload_n k_65 rfl rfl ?_
    refine Rn.iload_n k_65 rfl rfl ?_
    refine Rn.isub k_65 rfl ?_
    rw [pk_sub hab]
    refine Rn.icmp_ge 67 k_65 rfl rfl (fun h2 => ?_) (fun h2 => ?_)
    · exact fin false _ hf.symm
    · refine Rn.iload k_65 rfl rfl ?_
      refine Rn.if_eq 67 k_65 rfl rfl (fun h3 => ?_) (fun h3 => ?_)
      · exact fin false _ hf.symm
      · exact absurd rfl h3
  have loop : ∀ (k q : Nat), q + k = b - a → b - a = e - c → (∀ j, j < q → x (a + j) = y (c + j)) → Rn d 65 20 [some (.ref 604), some (.int (nI a)), some (.int (nI b)), some (.int (nI c)), some (.int (nI e)), some (.int (bI true)), some (.int (nI q))] [] (SH L, fi, fl, fr) (Ret (SH L, fi, fl, fr) (some (.int (bI (decide (sl x a b = sl y c e)))))) := by
    intro k
    induction k with
    | zero =>
      intro q hq hl hj
      refine Rn.iload k_65 rfl rfl ?_
      refine Rn.iload_n k_65 rfl rfl ?_
      refine Rn.iload_n k_65 rfl rfl ?_
      refine Rn.isub k_65 rfl ?_
      rw [pk_sub hab]
      refine Rn.icmp_ge 67 k_65 rfl rfl (fun h2 => ?_) (fun h2 => ?_)
      · exact fin true _ (decide_eq_true (sl_ext hl (fun j h => hj j (by omega)))).symm
      · rw [nI_leI (by omega) (by omega)] at h2
        omega
    | succ k ih =>
      intro q hq hl hj
      obtain ⟨t1, t2⟩ := hT.1 (a + q) (by omega)
      obtain ⟨u1, u2⟩ := hV.2 (c + q) (by omega)
      refine Rn.iload k_65 rfl rfl ?_
      refine Rn.iload_n k_65 rfl rfl ?_
      refine Rn.iload_n k_65 rfl rfl ?_
      refine Rn.isub k_65 rfl ?_
      rw [pk_sub hab]
      refine Rn.icmp_ge 67 k_65 rfl rfl (fun h2 => ?_) (fun h2 => ?_)
      · rw [nI_leI (by omega) (by omega)] at h2
        omega
      · refine Rn.iload k_65 rfl rfl ?_
        refine Rn.if_eq 67 k_65 rfl rfl (fun h3 => ?_) (fun h3 => ?_)
        · exact absurd h3 (by decide)
        · refine Rn.aload_n k_65 rfl rfl ?_
          refine Rn.getA k_65 rfl rfl (s604 L) (hF.l 30 rfl) ?_
          refine Rn.iload_n k_65 rfl rfl ?_
          refine Rn.iload k_65 rfl rfl ?_
          refine Rn.iadd k_65 rfl ?_
          rw [nI_add]
          refine Rn.iaload (a + q) k_65 rfl (s606 L) (rfl) (by omega) (by decide) ?_
          refine Rn.aload_n k_65 rfl rfl ?_
          refine Rn.getA k_65 rfl rfl (s604 L) (hF.l 58 rfl) ?_
          refine Rn.iload_n k_65 rfl rfl ?_
          refine Rn.iload k_65 rfl rfl ?_
          rw [t1]
          refine Rn.iadd k_65 rfl ?_
          rw [nI_add]
          refine Rn.iaload (c + q) k_65 rfl (s634 L) (rfl) (by omega) (by decide) ?_
          rw [u1]
          refine Rn.icmp_ne 58 k_65 rfl rfl (fun h4 => ?_) (fun h4 => ?_)
          · rw [nI_eq (by omega) (by omega)] at h4
            refine Rn.iconst (0) k_65 rfl rfl ?_
            refine Rn.istore5 k_65 rfl rfl ?_
            refine Rn.iinc6 (1) k_65 rfl rfl rfl ?_
            rw [c_add 1 1 rfl]
            refine Rn.goto 20 k_65 rfl rfl ?_
            exact stop (q + 1) (by omega) (decide_eq_false (fun z => h4 ((sl_inj z).2 q (by omega))))
          · rw [nI_eq (by omega) (by omega)] at h4
            refine Rn.iconst (1) k_65 rfl rfl ?_
            refine Rn.goto 59 k_65 rfl rfl ?_
            refine Rn.istore5 k_65 rfl rfl ?_
            refine Rn.iinc6 (1) k_65 rfl rfl rfl ?_
            rw [c_add 1 1 rfl]
            refine Rn.goto 20 k_65 rfl rfl ?_
            refine ih (q + 1) (by omega) hl (fun j h => ?_)
            by_cases e5 : j = q
            · rw [e5]; exact h4
            · exact hj j (by omega)
  refine Rn.iload_n k_65 rfl rfl ?_
  refine Rn.iload_n k_65 rfl rfl ?_
  refine Rn.isub k_65 rfl ?_
  rw [pk_sub hab]
  refine Rn.iload k_65 rfl rfl ?_
  refine Rn.iload_n k_65 rfl rfl ?_
  refine Rn.isub k_65 rfl ?_
  rw [pk_sub hce]
  refine Rn.icmp_ne 14 k_65 rfl rfl (fun h1 => ?_) (fun h1 => ?_)
  · rw [nI_eq (by omega) (by omega)] at h1
    refine Rn.iconst (0) k_65 rfl rfl ?_
    refine Rn.istore5 k_65 rfl rfl ?_
    refine Rn.iconst (0) k_65 rfl rfl ?_
    refine Rn.istore6 k_65 rfl rfl ?_
    exact stop 0 (Nat.zero_le _) (decide_eq_false (fun z => h1 (sl_inj z).1))
  · rw [nI_eq (by omega) (by omega)] at h1
    refine Rn.iconst (1) k_65 rfl rfl ?_
    refine Rn.goto 15 k_65 rfl rfl ?_
    refine Rn.istore5 k_65 rfl rfl ?_
    refine Rn.iconst (0) k_65 rfl rfl ?_
    refine Rn.istore6 k_65 rfl rfl ?_
    exact loop (b - a) 0 (Nat.zero_add _) h1 (fun j h => absurd h (Nat.not_lt_zero j))
set_option maxHeartbeats 2000000 in
theorem cm_hasTag (hF : FRok F G fr) (hS : MFr fi x n A) (hA : AOk n A) (hV : MSv fi y m) {i j : Nat} (hi : i < A.2.1.length) (hj : j < 121) {nm : Nm} (hL : SL fi y m 636 637 j nm) : Rn (d + 1) 66 0 [some (.ref 604), some (.int (nI i)), some (.int (nI j)), none, none, none] [] (SH L, fi, fl, fr) (Ret (SH L, fi, fl, fr) (some (.int (bI (decide (nm ∈ atg A.1 (A.2.1.getD i dK))))))) := by
  have hi4 : i < 40 := Nat.lt_of_lt_of_le hi hA.2.2.2.1
  have h10 := hA.1
  have hK := hS.2.2.1.2 i hi
  have hk := hA.k hi
  generalize A.2.1.getD i dK = k at hK hk ⊢
  have h8 := hk.2.2.2.2.2.2.1
  obtain ⟨c, e, l1, l2, l3, l4, l5⟩ := hL
  have hT := hS.1
  have h8a : (stg A.1 (k_su k)).length + (k_tg k).length ≤ 8 := by
    have : (atg A.1 k).length = (stg A.1 (k_su k)).length + (k_tg k).length := by unfold atg; rw [List.length_append]
    omega
  have fin : ∀ (b : Bool) (q4 q5 : Int32), b = decide (nm ∈ atg A.1 k) → Rn (d + 1) 66 160 [some (.ref 604), some (.int (nI i)), some (.int (nI j)), some (.int (bI b)), some (.int q4), some (.int q5)] [] (SH L, fi, fl, fr) (Ret (SH L, fi, fl, fr) (some (.int (bI (decide (nm ∈ atg A.1 k)))))) := by
    intro b q4 q5 hb
    refine Rn.iload_n k_66 rfl rfl ?_
    refine Rn.reti k_66 rfl q_66 rfl (bI_fit _) ?_
    rw [hb]
    exact ⟨rfl, rfl⟩
  have emem : decide (nm ∈ atg A.1 k) = (decide (nm ∈ k_tg k) || decide (nm ∈ stg A.1 (k_su k))) := by
    unfold atg
    rw [Bool.eq_iff_iff]
    simp only [decide_eq_true_eq, Bool.or_eq_true, List.mem_append]
    exact Or.comm
  -- the suite's tags
  have second : k_su k ≠ 0 → ∀ (p t : Nat), t + p = (stg A.1 (k_su k)).length → Rn (d + 1) 66 88 [some (.ref 604), some (.int (nI i)), some (.int (nI j)), some (.int (bI (decide (nm ∈ k_tg k) || decide (nm ∈ (stg A.1 (k_su k)).take t)))), some (.int (nI (k_su k - 1))), some (.int (nI (8 * (k_su k - 1) + t)))] [] (SH L, fi, fl, fr) (Ret (SH L, fi, fl, fr) (some (.int (bI (decide (nm ∈ atg A.1 k)))))) := by
    intro h0 p
    have hsu := hk.1
    obtain ⟨-, u2, u3⟩ := hS.2.1.2 (k_su k - 1) (by omega)
    have est : (A.1.getD (k_su k - 1) dU).2 = stg A.1 (k_su k) := (stg_at h0).symm
    rw [est] at u2 u3
    generalize stg A.1 (k_su k) = tg at u2 u3 h8a emem
    generalize hs : k_su k - 1 = s at u2 u3
    have hs10 : s < 10 := by omega
    induction p with
    | zero =>
      intro t ht
      refine Rn.iload k_66 rfl rfl ?_
      refine Rn.if_lt 160 k_66 rfl rfl (fun h4 => ?_) (fun h4 => ?_)
      · exact absurd h4 (c_neg (by omega))
      · refine Rn.iload k_66 rfl rfl ?_
        refine Rn.bipush (8) k_66 rfl rfl ?_
        refine Rn.iload k_66 rfl rfl ?_
        rw [show (8 : Int32) = nI 8 from rfl]
        refine Rn.imul k_66 rfl ?_
        rw [pk_mul]
        refine Rn.aload_n k_66 rfl rfl ?_
        refine Rn.getA k_66 rfl rfl (s604 L) (hF.l 35 rfl) ?_
        refine Rn.iload k_66 rfl rfl ?_
        refine Rn.iaload (s) k_66 rfl (s611 L) (rfl) (hs10) (by decide) ?_
        rw [u2]
        refine Rn.iadd k_66 rfl ?_
        rw [nI_add]
        refine Rn.icmp_ge 160 k_66 rfl rfl (fun h5 => ?_) (fun h5 => ?_)
        · refine fin _ _ _ ?_
          rw [emem, List.take_of_length_le (by omega)]
        · rw [nI_leI (by omega) (by omega)] at h5
          omega
    | succ p ih =>
      intro t ht
      obtain ⟨a, b, v1, v2, v3, v4, v5⟩ := u3 t (by omega)
      have emt := mem_take_succ (l := tg) (t := nm) (j := t) (by omega)
      have next : ∀ b : Bool, b = (decide (nm ∈ k_tg k) || decide (nm ∈ tg.take (t + 1))) → Rn (d + 1) 66 153 [some (.ref 604), some (.int (nI i)), some (.int (nI j)), some (.int (bI (decide (nm ∈ k_tg k) || decide (nm ∈ tg.take t)))), some (.int (nI s)), some (.int (nI (8 * s + t)))] [.int (bI b)] (SH L, fi, fl, fr) (Ret (SH L, fi, fl, fr) (some (.int (bI (decide (nm ∈ atg A.1 k)))))) := by
        intro b hb
        refine Rn.istore_n3 k_66 rfl rfl ?_
        refine Rn.iinc5 (1) k_66 rfl rfl rfl ?_
        rw [c_add 1 1 rfl]
        refine Rn.goto 88 k_66 rfl rfl ?_
        rw [hb]
        exact ih (t + 1) (by omega)
      refine Rn.iload k_66 rfl rfl ?_
      refine Rn.if_lt 160 k_66 rfl rfl (fun h4 => ?_) (fun h4 => ?_)
      · exact absurd h4 (c_neg (by omega))
      · refine Rn.iload k_66 rfl rfl ?_
        refine Rn.bipush (8) k_66 rfl rfl ?_
        refine Rn.iload k_66 rfl rfl ?_
        rw [show (8 : Int32) = nI 8 from rfl]
        refine Rn.imul k_66 rfl ?_
        rw [pk_mul]
        refine Rn.aload_n k_66 rfl rfl ?_
        refine Rn.getA k_66 rfl rfl (s604 L) (hF.l 35 rfl) ?_
        refine Rn.iload k_66 rfl rfl ?_
        refine Rn.iaload (s) k_66 rfl (s611 L) (rfl) (hs10) (by decide) ?_
        rw [u2]
        refine Rn.iadd k_66 rfl ?_
        rw [nI_add]
        refine Rn.icmp_ge 160 k_66 rfl rfl (fun h5 => ?_) (fun h5 => ?_)
        · rw [nI_leI (by omega) (by omega)] at h5
          omega
        · refine Rn.iload_n k_66 rfl rfl ?_
          refine Rn.if_ne 148 k_66 rfl rfl (fun h6 => ?_) (fun h6 => ?_)
          · (try rw [bI_0] at h6)
            (try rw [Bool.not_eq_false] at h6)
            refine Rn.iconst (1) k_66 rfl rfl ?_
            refine Rn.goto 153 k_66 rfl rfl ?_
            refine next true ?_
            rw [emt, ← Bool.or_assoc, h6]
            rfl
          · (try rw [bI_0] at h6)
            (try rw [Bool.not_eq_false] at h6)
            refine Rn.aload_n k_66 rfl rfl ?_
            refine Rn.aload_n k_66 rfl rfl ?_
            refine Rn.getA k_66 rfl rfl (s604 L) (hF.l 36 rfl) ?_
            refine Rn.iload k_66 rfl rfl ?_
            refine Rn.iaload (8 * s + t) k_66 rfl (s612 L) (rfl) (by omega) (by decide) ?_
            refine Rn.aload_n k_66 rfl rfl ?_
            refine Rn.getA k_66 rfl rfl (s604 L) (hF.l 37 rfl) ?_
            refine Rn.iload k_66 rfl rfl ?_
            refine Rn.iaload (8 * s + t) k_66 rfl (s613 L) (rfl) (by omega) (by decide) ?_
            refine Rn.aload_n k_66 rfl rfl ?_
            refine Rn.getA k_66 rfl rfl (s604 L) (hF.l 60 rfl) ?_
            refine Rn.iload_n k_66 rfl rfl ?_
            refine Rn.iaload (j) k_66 rfl (s636 L) (rfl) (hj) (by decide) ?_
            refine Rn.aload_n k_66 rfl rfl ?_
            refine Rn.getA k_66 rfl rfl (s604 L) (hF.l 61 rfl) ?_
            refine Rn.iload_n k_66 rfl rfl ?_
            refine Rn.iaload (j) k_66 rfl (s637 L) (rfl) (hj) (by decide) ?_
            rw [v1, v2, l1, l2]
            refine Rn.cV5I k_66 rfl rfl q_65 rfl (Nat.le_of_ble_eq_true rfl) (Nat.le_of_ble_eq_true rfl) (s604 L) (cm_isWord hF hT hV v3 v4 l3 l4) ?_
            rw [v5, l5]
            refine Rn.if_eq 152 k_66 rfl rfl (fun h7 => ?_) (fun h7 => ?_)
            · (try rw [bI_0] at h7)
              (try rw [Bool.not_eq_false] at h7)
              refine Rn.iconst (0) k_66 rfl rfl ?_
              refine next false ?_
              rw [emt, ← Bool.or_assoc, h6, h7]
              rfl
            · (try rw [bI_0] at h7)
              (try rw [Bool.not_eq_false] at h7)
              refine Rn.iconst (1) k_66 rfl rfl ?_
              refine Rn.goto 153 k_66 rfl rfl ?_
              refine next true ?_
              rw [emt, ← Bool.or_assoc, h6, h7]
              rfl
  -- the case's own
  have first : ∀ (p t : Nat), t + p = (k_tg k).length → Rn (d + 1) 66 8 [some (.ref 604), some (.int (nI i)), some (.int (nI j)), some (.int (bI (decide (nm ∈ (k_tg k).take t)))), some (.int (nI (8 * i + t))), none] [] (SH L, fi, fl, fr) (Ret (SH L, fi, fl, fr) (some (.int (bI (decide (nm ∈ atg A.1 k)))))) := by
    obtain ⟨a1, a2, a3, a4, a5, a6, a7, a8, a9, -⟩ := hK
    intro p
    induction p with
    | zero =>
      intro t ht
      refine Rn.iload k_66 rfl rfl ?_
      refine Rn.bipush (8) k_66 rfl rfl ?_
      refine Rn.iload_n k_66 rfl rfl ?_
      rw [show (8 : Int32) = nI 8 from rfl]
      refine Rn.imul k_66 rfl ?_
      rw [pk_mul]
      refine Rn.aload_n k_66 rfl rfl ?_
      refine Rn.getA k_66 rfl rfl (s604 L) (hF.l 46 rfl) ?_
      refine Rn.iload_n k_66 rfl rfl ?_
      refine Rn.iaload (i) k_66 rfl (s622 L) (rfl) (hi4) (by decide) ?_
      rw [a8]
      refine Rn.iadd k_66 rfl ?_
      rw [nI_add]
      refine Rn.icmp_ge 73 k_66 rfl rfl (fun h1 => ?_) (fun h1 => ?_)
      · rw [List.take_of_length_le (by omega)]
        refine Rn.aload_n k_66 rfl rfl ?_
        refine Rn.getA k_66 rfl rfl (s604 L) (hF.l 38 rfl) ?_
        refine Rn.iload_n k_66 rfl rfl ?_
        refine Rn.iaload (i) k_66 rfl (s614 L) (rfl) (hi4) (by decide) ?_
        rw [a1]
        by_cases h0 : k_su k = 0
        · refine Rn.istore4 k_66 rfl rfl ?_
          refine Rn.bipush (8) k_66 rfl rfl ?_
          refine Rn.iload k_66 rfl rfl ?_
          refine Rn.imul k_66 rfl ?_
          refine Rn.istore5 k_66 rfl rfl ?_
          refine Rn.iload k_66 rfl rfl ?_
          rw [h0]
          refine Rn.if_lt 160 k_66 rfl rfl (fun h4 => ?_) (fun h4 => ?_)
          · refine fin _ _ _ ?_
            rw [emem, h0]
            show _ = (_ || decide (nm ∈ []))
            simp
          · exact absurd (by decide) h4
        · have hsu := hk.1
          rw [c_sub 1 1 rfl (by omega)]
          refine Rn.istore4 k_66 rfl rfl ?_
          refine Rn.bipush (8) k_66 rfl rfl ?_
          refine Rn.iload k_66 rfl rfl ?_
          rw [show (8 : Int32) = nI 8 from rfl]
          refine Rn.imul k_66 rfl ?_
          rw [pk_mul]
          refine Rn.istore5 k_66 rfl rfl ?_
          have := second h0 (stg A.1 (k_su k)).length 0 (Nat.zero_add _)
          rw [List.take_zero, decide_eq_false (show ¬ nm ∈ ([] : List Nm) from fun z => by cases z), Bool.or_false] at this
          exact this
      · rw [nI_leI (by omega) (by omega)] at h1
        omega
    | succ p ih =>
      intro t ht
      obtain ⟨a, b, v1, v2, v3, v4, v5⟩ := a9 t (by omega)
      have emt := mem_take_succ (l := k_tg k) (t := nm) (j := t) (by omega)
      have next : ∀ b : Bool, b = decide (nm ∈ (k_tg k).take (t + 1)) → Rn (d + 1) 66 66 [some (.ref 604), some (.int (nI i)), some (.int (nI j)), some (.int (bI (decide (nm ∈ (k_tg k).take t)))), some (.int (nI (8 * i + t))), none] [.int (bI b)] (SH L, fi, fl, fr) (Ret (SH L, fi, fl, fr) (some (.int (bI (decide (nm ∈ atg A.1 k)))))) := by
        intro b hb
        refine Rn.istore_n3 k_66 rfl rfl ?_
        refine Rn.iinc4 (1) k_66 rfl rfl rfl ?_
        rw [c_add 1 1 rfl]
        refine Rn.goto 8 k_66 rfl rfl ?_
        rw [hb]
        exact ih (t + 1) (by omega)
      refine Rn.iload k_66 rfl rfl ?_
      refine Rn.bipush (8) k_66 rfl rfl ?_
      refine Rn.iload_n k_66 rfl rfl ?_
      rw [show (8 : Int32) = nI 8 from rfl]
      refine Rn.imul k_66 rfl ?_
      rw [pk_mul]
      refine Rn.aload_n k_66 rfl rfl ?_
      refine Rn.getA k_66 rfl rfl (s604 L) (hF.l 46 rfl) ?_
      refine Rn.iload_n k_66 rfl rfl ?_
      refine Rn.iaload (i) k_66 rfl (s622 L) (rfl) (hi4) (by decide) ?_
      rw [a8]
      refine Rn.iadd k_66 rfl ?_
      rw [nI_add]
      refine Rn.icmp_ge 73 k_66 rfl rfl (fun h1 => ?_) (fun h1 => ?_)
      · rw [nI_leI (by omega) (by omega)] at h1
        omega
      · refine Rn.iload_n k_66 rfl rfl ?_
        refine Rn.if_ne 61 k_66 rfl rfl (fun h2 => ?_) (fun h2 => ?_)
        · (try rw [bI_0] at h2)
          (try rw [Bool.not_eq_false] at h2)
          refine Rn.iconst (1) k_66 rfl rfl ?_
          refine Rn.goto 66 k_66 rfl rfl ?_
          refine next true ?_
          rw [emt, h2]
          rfl
        · (try rw [bI_0] at h2)
          (try rw [Bool.not_eq_false] at h2)
          refine Rn.aload_n k_66 rfl rfl ?_
          refine Rn.aload_n k_66 rfl rfl ?_
          refine Rn.getA k_66 rfl rfl (s604 L) (hF.l 47 rfl) ?_
          refine Rn.iload k_66 rfl rfl ?_
          refine Rn.iaload (8 * i + t) k_66 rfl (s623 L) (rfl) (by omega) (by decide) ?_
          refine Rn.aload_n k_66 rfl rfl ?_
          refine Rn.getA k_66 rfl rfl (s604 L) (hF.l 48 rfl) ?_
          refine Rn.iload k_66 rfl rfl ?_
          refine Rn.iaload (8 * i + t) k_66 rfl (s624 L) (rfl) (by omega) (by decide) ?_
          refine Rn.aload_n k_66 rfl rfl ?_
          refine Rn.getA k_66 rfl rfl (s604 L) (hF.l 60 rfl) ?_
          refine Rn.iload_n k_66 rfl rfl ?_
          refine Rn.iaload (j) k_66 rfl (s636 L) (rfl) (hj) (by decide) ?_
          refine Rn.aload_n k_66 rfl rfl ?_
          refine Rn.getA k_66 rfl rfl (s604 L) (hF.l 61 rfl) ?_
          refine Rn.iload_n k_66 rfl rfl ?_
          refine Rn.iaload (j) k_66 rfl (s637 L) (rfl) (hj) (by decide) ?_
          rw [v1, v2, l1, l2]
          refine Rn.cV5I k_66 rfl rfl q_65 rfl (Nat.le_of_ble_eq_true rfl) (Nat.le_of_ble_eq_true rfl) (s604 L) (cm_isWord hF hT hV v3 v4 l3 l4) ?_
          rw [v5, l5]
          refine Rn.if_eq 65 k_66 rfl rfl (fun h3 => ?_) (fun h3 => ?_)
          · (try rw [bI_0] at h3)
            (try rw [Bool.not_eq_false] at h3)
            refine Rn.iconst (0) k_66 rfl rfl ?_
            refine next false ?_
            rw [emt, h2, h3]
            rfl
          · (try rw [bI_0] at h3)
            (try rw [Bool.not_eq_false] at h3)
            refine Rn.iconst (1) k_66 rfl rfl ?_
            refine Rn.goto 66 k_66 rfl rfl ?_
            refine next true ?_
            rw [emt, h2, h3]
            rfl
  refine Rn.iconst (0) k_66 rfl rfl ?_
  refine Rn.istore_n3 k_66 rfl rfl ?_
  refine Rn.bipush (8) k_66 rfl rfl ?_
  refine Rn.iload_n k_66 rfl rfl ?_
  rw [show (8 : Int32) = nI 8 from rfl]
  refine Rn.imul k_66 rfl ?_
  rw [pk_mul]
  refine Rn.istore4 k_66 rfl rfl ?_
  have := first (k_tg k).length 0 (Nat.zero_add _)
  rw [List.take_zero, decide_eq_false (fun z => by cases z)] at this
  exact this
set_option maxHeartbeats 2000000 in
theorem cm_hasValue (hF : FRok F G fr) (hS : MFr fi x n A) (hA : AOk n A) (hV : MSv fi y m) {t j : Nat} (ht : t < totW A.2.1) (hj : j < 121) {nm vl : Nm} (hL : SL fi y m 636 637 j nm) (hL2 : SL fi y m 638 639 j vl) : Rn (d + 1) 67 0 [some (.ref 604), some (.int (nI t)), some (.int (nI j)), none, none, none, none, none] [] (SH L, fi, fl, fr) (Ret (SH L, fi, fl, fr) (some (.int (bI ((List.range (k_ps (A.2.1.getD (tix A.2.1 t).1 dK)).length).any (fun p => decide (((k_ps (A.2.1.getD (tix A.2.1 t).1 dK)).getD p ([], [])).1 = nm ∧ vsel (k_ps (A.2.1.getD (tix A.2.1 t).1 dK)) (tix A.2.1 t).2 p = vl))))))) := by
  have h120 := hA.2.2.2.2.2.1
  obtain ⟨t1, t2, t3⟩ := tix_ok A.2.1 t ht
  obtain ⟨u1, u2⟩ := hS.tw ht
  generalize (tix A.2.1 t).1 = i at t1 t2 t3 u1 u2 ⊢
  generalize (tix A.2.1 t).2 = w at t2 t3 u2 ⊢
  have hi4 : i < 40 := Nat.lt_of_lt_of_le t1 hA.2.2.2.1
  have hk := hA.k t1
  have hK := hS.2.2.1.2 i t1
  generalize A.2.1.getD i dK = k at t2 hk hK ⊢
  have hps := hk.2.2.2.2.2.2.2.2.1
  have hw24 := hk.2.2.2.2.2.2.2.2.2.2.2
  have hpv : ∀ p, p < (k_ps k).length → 1 ≤ ((k_ps k).getD p ([], [])).2.length ∧ ((k_ps k).getD p ([], [])).2.length ≤ 6 := fun p hp => hk.pv hp
  obtain ⟨a1, a2, a3, a4, a5, a6, a7, a8, a9, a10, a11⟩ := hK
  obtain ⟨c, e, l1, l2, l3, l4, l5⟩ := hL
  obtain ⟨c', e', r1, r2, r3, r4, r5⟩ := hL2
  have hT := hS.1
  have loop : ∀ (q p : Nat) (o6 o7 : Option Value), p + q = (k_ps k).length → Rn (d + 1) 67 15 [some (.ref 604), some (.int (nI t)), some (.int (nI j)), some (.int (nI i)), some (.int (bI ((List.range p).any (fun p => decide (((k_ps k).getD p ([], [])).1 = nm ∧ vsel (k_ps k) w p = vl))))), some (.int (nI (4 * i + p))), o6, o7] [] (SH L, fi, fl, fr) (Ret (SH L, fi, fl, fr) (some (.int (bI ((List.range (k_ps k).length).any (fun p => decide (((k_ps k).getD p ([], [])).1 = nm ∧ vsel (k_ps k) w p = vl))))))) := by
    intro q
    induction q with
    | zero =>
      intro p o6 o7 hp
      refine Rn.iload k_67 rfl rfl ?_
      refine Rn.iconst (4) k_67 rfl rfl ?_
      refine Rn.iload_n k_67 rfl rfl ?_
      rw [show (4 : Int32) = nI 4 from rfl]
      refine Rn.imul k_67 rfl ?_
      rw [pk_mul]
      refine Rn.aload_n k_67 rfl rfl ?_
      refine Rn.getA k_67 rfl rfl (s604 L) (hF.l 49 rfl) ?_
      refine Rn.iload_n k_67 rfl rfl ?_
      refine Rn.iaload (i) k_67 rfl (s625 L) (rfl) (hi4) (by decide) ?_
      rw [a10]
      refine Rn.iadd k_67 rfl ?_
      rw [nI_add]
      refine Rn.icmp_ge 127 k_67 rfl rfl (fun h1 => ?_) (fun h1 => ?_)
      · refine Rn.iload k_67 rfl rfl ?_
        refine Rn.reti k_67 rfl q_67 rfl (bI_fit _) ?_
        rw [show p = (k_ps k).length by omega]
        exact ⟨rfl, rfl⟩
      · rw [nI_leI (by omega) (by omega)] at h1
        omega
    | succ q ih =>
      intro p o6 o7 hp
      have hpl : p < (k_ps k).length := by omega
      obtain ⟨⟨b1, e1, v1, v2, v3, v4, v5⟩, v6, v7⟩ := a11 p hpl
      have hmod : vturn (k_ps k) w p % ((k_ps k).getD p ([], [])).2.length < ((k_ps k).getD p ([], [])).2.length := Nat.mod_lt _ (by have := (hpv p hpl).1; omega)
      obtain ⟨b2, e2, y1, y2, y3, y4, y5⟩ := v7 _ hmod
      have y5 : sl x b2 e2 = vsel (k_ps k) w p := y5
      have hcol : 6 * (4 * i + p) + vturn (k_ps k) w p % ((k_ps k).getD p ([], [])).2.length < 960 := by have := (hpv p hpl).2; omega
      have esu : (List.range (p + 1)).any (fun p => decide (((k_ps k).getD p ([], [])).1 = nm ∧ vsel (k_ps k) w p = vl)) = ((List.range p).any (fun p => decide (((k_ps k).getD p ([], [])).1 = nm ∧ vsel (k_ps k) w p = vl)) || (decide (((k_ps k).getD p ([], [])).1 = nm) && decide (vsel (k_ps k) w p = vl))) := by
        rw [List.range_succ, List.any_append]
        simp
      have hvo := cm_valueOf (d := d) (L := L) (fl := fl) (fi := fi) (t := t) (i := i) (w := w) (p := p) hF (by omega) hi4 (by omega) u1 u2 hps hpv a10 (fun p hp => (a11 p hp).2.1) hpl
      generalize (List.range p).any (fun p => decide (((k_ps k).getD p ([], [])).1 = nm ∧ vsel (k_ps k) w p = vl)) = B at esu ⊢
      have next : ∀ (b : Bool) (o6 o7 : Int32), b = (B || (decide (((k_ps k).getD p ([], [])).1 = nm) && decide (vsel (k_ps k) w p = vl))) → Rn (d + 1) 67 119 [some (.ref 604), some (.int (nI t)), some (.int (nI j)), some (.int (nI i)), some (.int (bI B)), some (.int (nI (4 * i + p))), some (.int o6), some (.int o7)] [.int (bI b)] (SH L, fi, fl, fr) (Ret (SH L, fi, fl, fr) (some (.int (bI ((List.range (k_ps k).length).any (fun p => decide (((k_ps k).getD p ([], [])).1 = nm ∧ vsel (k_ps k) w p = vl))))))) := by
        intro b o6 o7 hb
        refine Rn.istore4 k_67 rfl rfl ?_
        refine Rn.iinc5 (1) k_67 rfl rfl rfl ?_
        rw [c_add 1 1 rfl]
        refine Rn.goto 15 k_67 rfl rfl ?_
        rw [hb, ← esu]
        exact ih (p + 1) _ _ (by omega)
      refine Rn.iload k_67 rfl rfl ?_
      refine Rn.iconst (4) k_67 rfl rfl ?_
      refine Rn.iload_n k_67 rfl rfl ?_
      rw [show (4 : Int32) = nI 4 from rfl]
      refine Rn.imul k_67 rfl ?_
      rw [pk_mul]
      refine Rn.aload_n k_67 rfl rfl ?_
      refine Rn.getA k_67 rfl rfl (s604 L) (hF.l 49 rfl) ?_
      refine Rn.iload_n k_67 rfl rfl ?_
      refine Rn.iaload (i) k_67 rfl (s625 L) (rfl) (hi4) (by decide) ?_
      rw [a10]
      refine Rn.iadd k_67 rfl ?_
      rw [nI_add]
      refine Rn.icmp_ge 127 k_67 rfl rfl (fun h1 => ?_) (fun h1 => ?_)
      · rw [nI_leI (by omega) (by omega)] at h1
        omega
      · refine Rn.aload_n k_67 rfl rfl ?_
        refine Rn.aload_n k_67 rfl rfl ?_
        refine Rn.getA k_67 rfl rfl (s604 L) (hF.l 50 rfl) ?_
        refine Rn.iload k_67 rfl rfl ?_
        refine Rn.iaload (4 * i + p) k_67 rfl (s626 L) (rfl) (by omega) (by decide) ?_
        refine Rn.aload_n k_67 rfl rfl ?_
        refine Rn.getA k_67 rfl rfl (s604 L) (hF.l 51 rfl) ?_
        refine Rn.iload k_67 rfl rfl ?_
        refine Rn.iaload (4 * i + p) k_67 rfl (s627 L) (rfl) (by omega) (by decide) ?_
        refine Rn.aload_n k_67 rfl rfl ?_
        refine Rn.getA k_67 rfl rfl (s604 L) (hF.l 60 rfl) ?_
        refine Rn.iload_n k_67 rfl rfl ?_
        refine Rn.iaload (j) k_67 rfl (s636 L) (rfl) (hj) (by decide) ?_
        refine Rn.aload_n k_67 rfl rfl ?_
        refine Rn.getA k_67 rfl rfl (s604 L) (hF.l 61 rfl) ?_
        refine Rn.iload_n k_67 rfl rfl ?_
        refine Rn.iaload (j) k_67 rfl (s637 L) (rfl) (hj) (by decide) ?_
        rw [v1, v2, l1, l2]
        refine Rn.cV5I k_67 rfl rfl q_65 rfl (Nat.le_of_ble_eq_true rfl) (Nat.le_of_ble_eq_true rfl) (s604 L) (cm_isWord hF hT hV v3 v4 l3 l4) ?_
        rw [v5, l5]
        refine Rn.istore6 k_67 rfl rfl ?_
        refine Rn.aload_n k_67 rfl rfl ?_
        refine Rn.iload_n k_67 rfl rfl ?_
        refine Rn.iload k_67 rfl rfl ?_
        refine Rn.cV3I k_67 rfl rfl q_40 rfl (Nat.le_of_ble_eq_true rfl) (Nat.le_of_ble_eq_true rfl) (s604 L) (hvo) ?_
        refine Rn.istore7 k_67 rfl rfl ?_
        refine Rn.iload k_67 rfl rfl ?_
        refine Rn.if_ne 114 k_67 rfl rfl (fun h2 => ?_) (fun h2 => ?_)
        · (try rw [bI_0] at h2)
          (try rw [Bool.not_eq_false] at h2)
          refine Rn.iconst (1) k_67 rfl rfl ?_
          refine Rn.goto 119 k_67 rfl rfl ?_
          exact next true _ _ (by rw [h2]; rfl)
        · (try rw [bI_0] at h2)
          (try rw [Bool.not_eq_false] at h2)
          refine Rn.iload k_67 rfl rfl ?_
          refine Rn.if_eq 118 k_67 rfl rfl (fun h3 => ?_) (fun h3 => ?_)
          · (try rw [bI_0] at h3)
            (try rw [Bool.not_eq_false] at h3)
            refine Rn.iconst (0) k_67 rfl rfl ?_
            exact next false _ _ (by rw [h2, h3]; rfl)
          · (try rw [bI_0] at h3)
            (try rw [Bool.not_eq_false] at h3)
            refine Rn.aload_n k_67 rfl rfl ?_
            refine Rn.aload_n k_67 rfl rfl ?_
            refine Rn.getA k_67 rfl rfl (s604 L) (hF.l 53 rfl) ?_
            refine Rn.iload k_67 rfl rfl ?_
            refine Rn.iaload (6 * (4 * i + p) + vturn (k_ps k) w p % ((k_ps k).getD p ([], [])).2.length) k_67 rfl (s629 L) (rfl) (hcol) (by decide) ?_
            refine Rn.aload_n k_67 rfl rfl ?_
            refine Rn.getA k_67 rfl rfl (s604 L) (hF.l 54 rfl) ?_
            refine Rn.iload k_67 rfl rfl ?_
            refine Rn.iaload (6 * (4 * i + p) + vturn (k_ps k) w p % ((k_ps k).getD p ([], [])).2.length) k_67 rfl (s630 L) (rfl) (hcol) (by decide) ?_
            refine Rn.aload_n k_67 rfl rfl ?_
            refine Rn.getA k_67 rfl rfl (s604 L) (hF.l 62 rfl) ?_
            refine Rn.iload_n k_67 rfl rfl ?_
            refine Rn.iaload (j) k_67 rfl (s638 L) (rfl) (hj) (by decide) ?_
            refine Rn.aload_n k_67 rfl rfl ?_
            refine Rn.getA k_67 rfl rfl (s604 L) (hF.l 63 rfl) ?_
            refine Rn.iload_n k_67 rfl rfl ?_
            refine Rn.iaload (j) k_67 rfl (s639 L) (rfl) (hj) (by decide) ?_
            rw [y1, y2, r1, r2]
            refine Rn.cV5I k_67 rfl rfl q_65 rfl (Nat.le_of_ble_eq_true rfl) (Nat.le_of_ble_eq_true rfl) (s604 L) (cm_isWord hF hT hV y3 y4 r3 r4) ?_
            rw [y5, r5]
            refine Rn.if_eq 118 k_67 rfl rfl (fun h4 => ?_) (fun h4 => ?_)
            · (try rw [bI_0] at h4)
              (try rw [Bool.not_eq_false] at h4)
              refine Rn.iconst (0) k_67 rfl rfl ?_
              exact next false _ _ (by rw [h2, h3, h4]; rfl)
            · (try rw [bI_0] at h4)
              (try rw [Bool.not_eq_false] at h4)
              refine Rn.iconst (1) k_67 rfl rfl ?_
              refine Rn.goto 119 k_67 rfl rfl ?_
              exact next true _ _ (by rw [h2, h3, h4]; rfl)
  refine Rn.aload_n k_67 rfl rfl ?_
  refine Rn.getA k_67 rfl rfl (s604 L) (hF.l 55 rfl) ?_
  refine Rn.iload_n k_67 rfl rfl ?_
  refine Rn.iaload (t) k_67 rfl (s631 L) (rfl) (by omega) (by decide) ?_
  rw [u1]
  refine Rn.istore_n3 k_67 rfl rfl ?_
  refine Rn.iconst (0) k_67 rfl rfl ?_
  refine Rn.istore4 k_67 rfl rfl ?_
  refine Rn.iconst (4) k_67 rfl rfl ?_
  refine Rn.iload_n k_67 rfl rfl ?_
  rw [show (4 : Int32) = nI 4 from rfl]
  refine Rn.imul k_67 rfl ?_
  rw [pk_mul]
  refine Rn.istore5 k_67 rfl rfl ?_
  exact loop (k_ps k).length 0 _ _ (Nat.zero_add _)
end MH
