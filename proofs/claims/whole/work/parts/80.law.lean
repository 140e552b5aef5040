/-! THE LAW'S LOOP -/
theorem CLs.up {L : Nat} {xs : Nat → Int32} {F G : Nat} {T : List Nat} {A : AS} {x : Nat → Nat} {n : Nat} {S : List FS} {fi fi' : Nat → Nat → Int32} {fl : Nat → Nat → Int64} {fr : Nat → Nat → Option Nat} (h : CLs L xs F G T A x n S fi fl fr) (hA : AOk n A) (e : ∀ a k, a < 604 → fi' a k = fi a k) : CLs L xs F G T A x n S fi' fl fr := by
  have hX := h.1.xF.out
  exact h.keep hA (fun a k z => e _ _ (by omega))
def lwQ (L : Nat) : Option Value → am_H → Prop := fun v h' => v = some (.int 1) ∧ h'.1 = SH L
theorem lw_gt {L i : Nat} (hL : L ≤ 1536) (hi : i ≤ 1600) : nI L - 3 < nI i ↔ L < i + 3 := by
  rcases Nat.lt_or_ge L 3 with h | h
  · have h3 : nI L - 3 < 0 := by
      match L, h with
      | 0, _ => decide
      | 1, _ => decide
      | 2, _ => decide
    constructor
    · intro _; omega
    · intro _
      have h1 := Int32.lt_iff_toInt_lt.mp h3
      apply Int32.lt_iff_toInt_lt.mpr
      rw [nI_toInt (by omega)]
      have : (0 : Int32).toInt = 0 := rfl
      omega
  · rw [c_sub 3 3 rfl h, nI_ltI (by omega) (by omega)]
    omega
theorem lw_and (x : Int32) : ∃ j, j < 16 ∧ x &&& 15 = nI j := ⟨x.toBitVec.toNat % 2 ^ 4, Nat.mod_lt _ (by decide), pk_and x 4 rfl⟩
set_option maxRecDepth 100000 in
set_option maxHeartbeats 8000000 in
theorem lw_loop {L : Nat} {xs : Nat → Int32} (hL : L ≤ 1536) : ∀ (m i : Nat) (F G : Nat) (T : List Nat) (A : AS) (x : Nat → Nat) (n : Nat) (S : List FS) (fi : Nat → Nat → Int32) (fl : Nat → Nat → Int64) (fr : Nat → Nat → Option Nat), L ≤ i + 3 * m → i ≤ 1540 → Gd n A T S → CLs L xs F G T A x n S fi fl fr → MLs T A x n S fi → Rn 1000 0 18 [some (.ref 0), some (.ref 16), some (.ref 604), some (.int (nI i))] [] (SH L, fi, fl, fr) (lwQ L) := by
  intro m
  induction m with
  | zero =>
    intro i F G T A x n S fi fl fr hm hi g hC hM
    refine Rn.iload_n k_0 rfl rfl ?_
    refine Rn.aload_n k_0 rfl rfl ?_
    refine Rn.alen k_0 rfl (s0 L) rfl (by omega) ?_
    refine Rn.iconst (3) k_0 rfl rfl ?_
    refine Rn.isub k_0 rfl ?_
    refine Rn.icmp_gt 397 k_0 rfl rfl (fun h1 => ?_) (fun h1 => ?_)
    · refine Rn.iconst (1) k_0 rfl rfl ?_
      refine Rn.reti k_0 rfl q_0 rfl (rfl) ?_
      exact ⟨rfl, rfl⟩
    · exact absurd ((lw_gt hL (by omega)).mpr (by omega)) h1
  | succ m ih =>
    intro i F G T A x n S fi fl fr hm hi g hC hM
    have hx := hC.2.2.2.1
    refine Rn.iload_n k_0 rfl rfl ?_
    refine Rn.aload_n k_0 rfl rfl ?_
    refine Rn.alen k_0 rfl (s0 L) rfl (by omega) ?_
    refine Rn.iconst (3) k_0 rfl rfl ?_
    refine Rn.isub k_0 rfl ?_
    refine Rn.icmp_gt 397 k_0 rfl rfl (fun h1 => ?_) (fun h1 => ?_)
    · refine Rn.iconst (1) k_0 rfl rfl ?_
      refine Rn.reti k_0 rfl q_0 rfl (rfl) ?_
      exact ⟨rfl, rfl⟩
    · have h1 : i + 3 ≤ L := Nat.not_lt.mp (fun z => h1 ((lw_gt hL (by omega)).mpr z))
      have nxt : ∀ (F G : Nat) (T : List Nat) (A : AS) (x : Nat → Nat) (n : Nat) (S : List FS) (fi : Nat → Nat → Int32) (fl : Nat → Nat → Int64) (fr : Nat → Nat → Option Nat), Gd n A T S → CLs L xs F G T A x n S fi fl fr → MLs T A x n S fi → Rn 1000 0 391 [some (.ref 0), some (.ref 16), some (.ref 604), some (.int (nI i))] [] (SH L, fi, fl, fr) (lwQ L) := by
        intro F G T A x n S fi fl fr g hC hM
        refine Rn.iinc3 (3) k_0 rfl rfl rfl ?_
        rw [c_add 3 3 rfl]
        refine Rn.goto 18 k_0 rfl rfl ?_
        exact ih (i + 3) F G T A x n S fi fl fr (by omega) (by omega) g hC hM
      refine Rn.aload_n k_0 rfl rfl ?_
      refine Rn.iload_n k_0 rfl rfl ?_
      refine Rn.iascr (i) k_0 rfl (s0 L) (rfl) (by omega) (by omega) ?_
      rw [hx i]
      refine Rn.bipush (15) k_0 rfl rfl ?_
      obtain ⟨j, hj, ej⟩ := lw_and (xs i)
      refine Rn.iand k_0 rfl ?_
      rw [ej]
      match j, hj with
      | 0, _ =>
        refine Rn.tsw 92 (0) k_0 rfl (by decide) (rfl) rfl ?_
        refine Rn.aload_n k_0 rfl rfl ?_
        refine Rn.aload_n k_0 rfl rfl ?_
        refine Rn.iload_n k_0 rfl rfl ?_
        refine Rn.iconst (1) k_0 rfl rfl ?_
        refine Rn.iadd k_0 rfl ?_
        rw [c_add 1 1 rfl]
        refine Rn.iascr (i + 1) k_0 rfl (s0 L) (rfl) (by omega) (by omega) ?_
        rw [hx (i + 1)]
        refine Rn.i2l k_0 rfl ?_
        refine Rn.bipush (32) k_0 rfl rfl ?_
        refine Rn.lshl k_0 rfl ?_
        refine Rn.aload_n k_0 rfl rfl ?_
        refine Rn.iload_n k_0 rfl rfl ?_
        refine Rn.iconst (2) k_0 rfl rfl ?_
        refine Rn.iadd k_0 rfl ?_
        rw [c_add 2 2 rfl]
        refine Rn.iascr (i + 2) k_0 rfl (s0 L) (rfl) (by omega) (by omega) ?_
        rw [hx (i + 2)]
        refine Rn.i2l k_0 rfl ?_
        refine Rn.ldc2 4294967295 k_0 rfl rfl ?_
        refine Rn.land k_0 rfl ?_
        refine Rn.lor k_0 rfl ?_
        refine Rn.cV2 k_0 rfl rfl q_2 rfl (Nat.le_of_ble_eq_true rfl) (Nat.le_of_ble_eq_true rfl) (s16 L) (cc_text g hC) (fun v h' hq => ?_)
        rcases hq with ⟨ok, hq⟩ | ⟨ok, hq⟩
        · obtain ⟨rfl, F1, G1, f1, l1, r1, rfl, C1, e1⟩ := hq
          show Rn _ _ _ _ (Value.int _ :: []) _ _
          have M1 := hM.low g.1 e1
          have hx1 := C1.2.2.2.1
          refine Rn.aload_n k_0 rfl rfl ?_
          refine Rn.aload_n k_0 rfl rfl ?_
          refine Rn.iload_n k_0 rfl rfl ?_
          refine Rn.iconst (1) k_0 rfl rfl ?_
          refine Rn.iadd k_0 rfl ?_
          rw [c_add 1 1 rfl]
          refine Rn.iascr (i + 1) k_0 rfl (s0 L) (rfl) (by omega) (by omega) ?_
          rw [hx1 (i + 1)]
          refine Rn.i2l k_0 rfl ?_
          refine Rn.bipush (32) k_0 rfl rfl ?_
          refine Rn.lshl k_0 rfl ?_
          refine Rn.aload_n k_0 rfl rfl ?_
          refine Rn.iload_n k_0 rfl rfl ?_
          refine Rn.iconst (2) k_0 rfl rfl ?_
          refine Rn.iadd k_0 rfl ?_
          rw [c_add 2 2 rfl]
          refine Rn.iascr (i + 2) k_0 rfl (s0 L) (rfl) (by omega) (by omega) ?_
          rw [hx1 (i + 2)]
          refine Rn.i2l k_0 rfl ?_
          refine Rn.ldc2 4294967295 k_0 rfl rfl ?_
          refine Rn.land k_0 rfl ?_
          refine Rn.lor k_0 rfl ?_
          refine Rn.cV2 k_0 rfl rfl q_14 rfl (Nat.le_of_ble_eq_true rfl) (Nat.le_of_ble_eq_true rfl) (s604 L) (mm_text C1.2.1 g M1) (fun v h' hq => ?_)
          rcases hq with ⟨ok2, hq⟩ | ⟨ok2, hq⟩
          · obtain ⟨rfl, f2, rfl, M2, e2⟩ := hq
            show Rn _ _ _ _ (Value.int _ :: Value.int _ :: []) _ _
            refine Rn.icmp_eq 391 k_0 rfl rfl (fun hc => ?_) (fun hc => ?_)
            · exact nxt _ _ _ _ _ _ _ _ _ _ ⟨g.1, g.2.1.app ok, g.2.2⟩ (C1.up g.1 e2) M2
            · exact absurd rfl hc
          · exact absurd ok ok2
        · obtain ⟨rfl, F1, G1, f1, l1, r1, rfl, C1, e1⟩ := hq
          show Rn _ _ _ _ (Value.int _ :: []) _ _
          have M1 := hM.low g.1 e1
          have hx1 := C1.2.2.2.1
          refine Rn.aload_n k_0 rfl rfl ?_
          refine Rn.aload_n k_0 rfl rfl ?_
          refine Rn.iload_n k_0 rfl rfl ?_
          refine Rn.iconst (1) k_0 rfl rfl ?_
          refine Rn.iadd k_0 rfl ?_
          rw [c_add 1 1 rfl]
          refine Rn.iascr (i + 1) k_0 rfl (s0 L) (rfl) (by omega) (by omega) ?_
          rw [hx1 (i + 1)]
          refine Rn.i2l k_0 rfl ?_
          refine Rn.bipush (32) k_0 rfl rfl ?_
          refine Rn.lshl k_0 rfl ?_
          refine Rn.aload_n k_0 rfl rfl ?_
          refine Rn.iload_n k_0 rfl rfl ?_
          refine Rn.iconst (2) k_0 rfl rfl ?_
          refine Rn.iadd k_0 rfl ?_
          rw [c_add 2 2 rfl]
          refine Rn.iascr (i + 2) k_0 rfl (s0 L) (rfl) (by omega) (by omega) ?_
          rw [hx1 (i + 2)]
          refine Rn.i2l k_0 rfl ?_
          refine Rn.ldc2 4294967295 k_0 rfl rfl ?_
          refine Rn.land k_0 rfl ?_
          refine Rn.lor k_0 rfl ?_
          refine Rn.cV2 k_0 rfl rfl q_14 rfl (Nat.le_of_ble_eq_true rfl) (Nat.le_of_ble_eq_true rfl) (s604 L) (mm_text C1.2.1 g M1) (fun v h' hq => ?_)
          rcases hq with ⟨ok2, hq⟩ | ⟨ok2, hq⟩
          · exact absurd ok2 ok
          · obtain ⟨rfl, f2, rfl, M2, e2⟩ := hq
            show Rn _ _ _ _ (Value.int _ :: Value.int _ :: []) _ _
            refine Rn.icmp_eq 391 k_0 rfl rfl (fun hc => ?_) (fun hc => ?_)
            · exact nxt _ _ _ _ _ _ _ _ _ _ g (C1.up g.1 e2) M2
            · exact absurd rfl hc
      | 1, _ =>
        refine Rn.tsw 145 (1) k_0 rfl (by decide) (rfl) rfl ?_
        refine Rn.aload_n k_0 rfl rfl ?_
        refine Rn.cV1 k_0 rfl rfl q_3 rfl (Nat.le_of_ble_eq_true rfl) (Nat.le_of_ble_eq_true rfl) (s16 L) (cc_script g hC) (fun v h' hq => ?_)
        obtain ⟨rfl, F1, G1, f1, l1, r1, rfl, C1, e1⟩ := hq
        show Rn _ _ _ _ (Value.int _ :: []) _ _
        have M1 := hM.low g.1 e1
        have hx1 := C1.2.2.2.1
        refine Rn.aload_n k_0 rfl rfl ?_
        refine Rn.cV1 k_0 rfl rfl q_36 rfl (Nat.le_of_ble_eq_true rfl) (Nat.le_of_ble_eq_true rfl) (s604 L) (mm_script C1.2.1 g M1) (fun v h' hq => ?_)
        obtain ⟨rfl, f2, rfl, M2, e2⟩ := hq
        show Rn _ _ _ _ (Value.int _ :: Value.int _ :: []) _ _
        refine Rn.icmp_eq 391 k_0 rfl rfl (fun hc => ?_) (fun hc => ?_)
        · exact nxt _ _ _ _ _ _ _ _ _ _ ⟨scrA_ok _ g.2.1.1, TOk.nil, Nat.zero_le _, Or.inl rfl⟩ (C1.up (scrA_ok _ g.2.1.1) e2) M2
        · exact absurd rfl hc
      | 2, _ =>
        refine Rn.tsw 158 (2) k_0 rfl (by decide) (rfl) rfl ?_
        refine Rn.aload_n k_0 rfl rfl ?_
        refine Rn.aload_n k_0 rfl rfl ?_
        refine Rn.iload_n k_0 rfl rfl ?_
        refine Rn.iconst (1) k_0 rfl rfl ?_
        refine Rn.iadd k_0 rfl ?_
        rw [c_add 1 1 rfl]
        refine Rn.iascr (i + 1) k_0 rfl (s0 L) (rfl) (by omega) (by omega) ?_
        rw [hx (i + 1)]
        refine Rn.cV2 k_0 rfl rfl q_4 rfl (Nat.le_of_ble_eq_true rfl) (Nat.le_of_ble_eq_true rfl) (s16 L) (ct_count hC.2.1 hC.2.2.2.2.1) (fun v h' hq => ?_)
        have hq := cc_ret hC hq
        obtain ⟨rfl, F1, G1, f1, l1, r1, rfl, C1, e1⟩ := hq
        show Rn _ _ _ _ (Value.int _ :: []) _ _
        have M1 := hM.low g.1 e1
        have hx1 := C1.2.2.2.1
        refine Rn.aload_n k_0 rfl rfl ?_
        refine Rn.aload_n k_0 rfl rfl ?_
        refine Rn.iload_n k_0 rfl rfl ?_
        refine Rn.iconst (1) k_0 rfl rfl ?_
        refine Rn.iadd k_0 rfl ?_
        rw [c_add 1 1 rfl]
        refine Rn.iascr (i + 1) k_0 rfl (s0 L) (rfl) (by omega) (by omega) ?_
        rw [hx1 (i + 1)]
        refine Rn.cV2 k_0 rfl rfl q_42 rfl (Nat.le_of_ble_eq_true rfl) (Nat.le_of_ble_eq_true rfl) (s604 L) (cm_count C1.2.1 M1.1 g.1) (fun v h' hq => ?_)
        have hq := mm_q g M1 hq
        obtain ⟨rfl, f2, rfl, M2, e2⟩ := hq
        show Rn _ _ _ _ (Value.int _ :: Value.int _ :: []) _ _
        refine Rn.icmp_eq 391 k_0 rfl rfl (fun hc => ?_) (fun hc => ?_)
        · exact nxt _ _ _ _ _ _ _ _ _ _ g (C1.up g.1 e2) M2
        · exact absurd rfl hc
      | 3, _ =>
        refine Rn.tsw 181 (3) k_0 rfl (by decide) (rfl) rfl ?_
        refine Rn.aload_n k_0 rfl rfl ?_
        refine Rn.aload_n k_0 rfl rfl ?_
        refine Rn.iload_n k_0 rfl rfl ?_
        refine Rn.iconst (1) k_0 rfl rfl ?_
        refine Rn.iadd k_0 rfl ?_
        rw [c_add 1 1 rfl]
        refine Rn.iascr (i + 1) k_0 rfl (s0 L) (rfl) (by omega) (by omega) ?_
        rw [hx (i + 1)]
        refine Rn.aload_n k_0 rfl rfl ?_
        refine Rn.iload_n k_0 rfl rfl ?_
        refine Rn.iconst (2) k_0 rfl rfl ?_
        refine Rn.iadd k_0 rfl ?_
        rw [c_add 2 2 rfl]
        refine Rn.iascr (i + 2) k_0 rfl (s0 L) (rfl) (by omega) (by omega) ?_
        rw [hx (i + 2)]
        refine Rn.cV3 k_0 rfl rfl q_5 rfl (Nat.le_of_ble_eq_true rfl) (Nat.le_of_ble_eq_true rfl) (s16 L) (ct_test hC.2.1 hC.2.2.2.2.1 g.1) (fun v h' hq => ?_)
        have hq := cc_q g hC hq
        obtain ⟨rfl, F1, G1, f1, l1, r1, rfl, C1, e1⟩ := hq
        show Rn _ _ _ _ (Value.int _ :: []) _ _
        have M1 := hM.low g.1 e1
        have hx1 := C1.2.2.2.1
        refine Rn.aload_n k_0 rfl rfl ?_
        refine Rn.aload_n k_0 rfl rfl ?_
        refine Rn.iload_n k_0 rfl rfl ?_
        refine Rn.iconst (1) k_0 rfl rfl ?_
        refine Rn.iadd k_0 rfl ?_
        rw [c_add 1 1 rfl]
        refine Rn.iascr (i + 1) k_0 rfl (s0 L) (rfl) (by omega) (by omega) ?_
        rw [hx1 (i + 1)]
        refine Rn.aload_n k_0 rfl rfl ?_
        refine Rn.iload_n k_0 rfl rfl ?_
        refine Rn.iconst (2) k_0 rfl rfl ?_
        refine Rn.iadd k_0 rfl ?_
        rw [c_add 2 2 rfl]
        refine Rn.iascr (i + 2) k_0 rfl (s0 L) (rfl) (by omega) (by omega) ?_
        rw [hx1 (i + 2)]
        refine Rn.cV3 k_0 rfl rfl q_45 rfl (Nat.le_of_ble_eq_true rfl) (Nat.le_of_ble_eq_true rfl) (s604 L) (cm_test C1.2.1 M1.1 g.1) (fun v h' hq => ?_)
        have hq := mm_q g M1 hq
        obtain ⟨rfl, f2, rfl, M2, e2⟩ := hq
        show Rn _ _ _ _ (Value.int _ :: Value.int _ :: []) _ _
        refine Rn.icmp_eq 391 k_0 rfl rfl (fun hc => ?_) (fun hc => ?_)
        · exact nxt _ _ _ _ _ _ _ _ _ _ g (C1.up g.1 e2) M2
        · exact absurd rfl hc
      | 4, _ =>
        refine Rn.tsw 214 (4) k_0 rfl (by decide) (rfl) rfl ?_
        refine Rn.aload_n k_0 rfl rfl ?_
        refine Rn.aload_n k_0 rfl rfl ?_
        refine Rn.iload_n k_0 rfl rfl ?_
        refine Rn.iconst (1) k_0 rfl rfl ?_
        refine Rn.iadd k_0 rfl ?_
        rw [c_add 1 1 rfl]
        refine Rn.iascr (i + 1) k_0 rfl (s0 L) (rfl) (by omega) (by omega) ?_
        rw [hx (i + 1)]
        refine Rn.aload_n k_0 rfl rfl ?_
        refine Rn.iload_n k_0 rfl rfl ?_
        refine Rn.iconst (2) k_0 rfl rfl ?_
        refine Rn.iadd k_0 rfl ?_
        rw [c_add 2 2 rfl]
        refine Rn.iascr (i + 2) k_0 rfl (s0 L) (rfl) (by omega) (by omega) ?_
        rw [hx (i + 2)]
        refine Rn.cV3 k_0 rfl rfl q_6 rfl (Nat.le_of_ble_eq_true rfl) (Nat.le_of_ble_eq_true rfl) (s16 L) (ct_letter hC.2.1 hC.2.2.2.2.1 g.1) (fun v h' hq => ?_)
        have hq := cc_q g hC hq
        obtain ⟨rfl, F1, G1, f1, l1, r1, rfl, C1, e1⟩ := hq
        show Rn _ _ _ _ (Value.int _ :: []) _ _
        have M1 := hM.low g.1 e1
        have hx1 := C1.2.2.2.1
        refine Rn.aload_n k_0 rfl rfl ?_
        refine Rn.aload_n k_0 rfl rfl ?_
        refine Rn.iload_n k_0 rfl rfl ?_
        refine Rn.iconst (1) k_0 rfl rfl ?_
        refine Rn.iadd k_0 rfl ?_
        rw [c_add 1 1 rfl]
        refine Rn.iascr (i + 1) k_0 rfl (s0 L) (rfl) (by omega) (by omega) ?_
        rw [hx1 (i + 1)]
        refine Rn.aload_n k_0 rfl rfl ?_
        refine Rn.iload_n k_0 rfl rfl ?_
        refine Rn.iconst (2) k_0 rfl rfl ?_
        refine Rn.iadd k_0 rfl ?_
        rw [c_add 2 2 rfl]
        refine Rn.iascr (i + 2) k_0 rfl (s0 L) (rfl) (by omega) (by omega) ?_
        rw [hx1 (i + 2)]
        refine Rn.cV3 k_0 rfl rfl q_46 rfl (Nat.le_of_ble_eq_true rfl) (Nat.le_of_ble_eq_true rfl) (s604 L) (cm_letter C1.2.1 M1.1 g.1) (fun v h' hq => ?_)
        have hq := mm_q g M1 hq
        obtain ⟨rfl, f2, rfl, M2, e2⟩ := hq
        show Rn _ _ _ _ (Value.int _ :: Value.int _ :: []) _ _
        refine Rn.icmp_eq 391 k_0 rfl rfl (fun hc => ?_) (fun hc => ?_)
        · exact nxt _ _ _ _ _ _ _ _ _ _ g (C1.up g.1 e2) M2
        · exact absurd rfl hc
      | 5, _ =>
        refine Rn.tsw 247 (5) k_0 rfl (by decide) (rfl) rfl ?_
        refine Rn.aload_n k_0 rfl rfl ?_
        refine Rn.aload_n k_0 rfl rfl ?_
        refine Rn.iload_n k_0 rfl rfl ?_
        refine Rn.iconst (1) k_0 rfl rfl ?_
        refine Rn.iadd k_0 rfl ?_
        rw [c_add 1 1 rfl]
        refine Rn.iascr (i + 1) k_0 rfl (s0 L) (rfl) (by omega) (by omega) ?_
        rw [hx (i + 1)]
        refine Rn.aload_n k_0 rfl rfl ?_
        refine Rn.iload_n k_0 rfl rfl ?_
        refine Rn.iconst (2) k_0 rfl rfl ?_
        refine Rn.iadd k_0 rfl ?_
        rw [c_add 2 2 rfl]
        refine Rn.iascr (i + 2) k_0 rfl (s0 L) (rfl) (by omega) (by omega) ?_
        rw [hx (i + 2)]
        refine Rn.cV3 k_0 rfl rfl q_7 rfl (Nat.le_of_ble_eq_true rfl) (Nat.le_of_ble_eq_true rfl) (s16 L) (ct_reason hC.2.1 hC.2.2.2.2.1 g.1) (fun v h' hq => ?_)
        have hq := cc_ret hC hq
        obtain ⟨rfl, F1, G1, f1, l1, r1, rfl, C1, e1⟩ := hq
        show Rn _ _ _ _ (Value.int _ :: []) _ _
        have M1 := hM.low g.1 e1
        have hx1 := C1.2.2.2.1
        refine Rn.aload_n k_0 rfl rfl ?_
        refine Rn.aload_n k_0 rfl rfl ?_
        refine Rn.iload_n k_0 rfl rfl ?_
        refine Rn.iconst (1) k_0 rfl rfl ?_
        refine Rn.iadd k_0 rfl ?_
        rw [c_add 1 1 rfl]
        refine Rn.iascr (i + 1) k_0 rfl (s0 L) (rfl) (by omega) (by omega) ?_
        rw [hx1 (i + 1)]
        refine Rn.aload_n k_0 rfl rfl ?_
        refine Rn.iload_n k_0 rfl rfl ?_
        refine Rn.iconst (2) k_0 rfl rfl ?_
        refine Rn.iadd k_0 rfl ?_
        rw [c_add 2 2 rfl]
        refine Rn.iascr (i + 2) k_0 rfl (s0 L) (rfl) (by omega) (by omega) ?_
        rw [hx1 (i + 2)]
        refine Rn.cV3 k_0 rfl rfl q_47 rfl (Nat.le_of_ble_eq_true rfl) (Nat.le_of_ble_eq_true rfl) (s604 L) (cm_reason C1.2.1 M1.1 g.1) (fun v h' hq => ?_)
        have hq := mm_q g M1 hq
        obtain ⟨rfl, f2, rfl, M2, e2⟩ := hq
        show Rn _ _ _ _ (Value.int _ :: Value.int _ :: []) _ _
        refine Rn.icmp_eq 391 k_0 rfl rfl (fun hc => ?_) (fun hc => ?_)
        · exact nxt _ _ _ _ _ _ _ _ _ _ g (C1.up g.1 e2) M2
        · exact absurd rfl hc
      | 6, _ =>
        refine Rn.tsw 280 (6) k_0 rfl (by decide) (rfl) rfl ?_
        refine Rn.aload_n k_0 rfl rfl ?_
        refine Rn.cV1 k_0 rfl rfl q_8 rfl (Nat.le_of_ble_eq_true rfl) (Nat.le_of_ble_eq_true rfl) (s16 L) (cc_find g hC) (fun v h' hq => ?_)
        obtain ⟨rfl, F1, G1, f1, l1, r1, rfl, C1, e1⟩ := hq
        show Rn _ _ _ _ (Value.int _ :: []) _ _
        have M1 := hM.low g.1 e1
        have hx1 := C1.2.2.2.1
        refine Rn.aload_n k_0 rfl rfl ?_
        refine Rn.cV1 k_0 rfl rfl q_48 rfl (Nat.le_of_ble_eq_true rfl) (Nat.le_of_ble_eq_true rfl) (s604 L) (mm_find C1.2.1 g M1) (fun v h' hq => ?_)
        obtain ⟨rfl, f2, rfl, M2, e2⟩ := hq
        show Rn _ _ _ _ (Value.int _ :: Value.int _ :: []) _ _
        refine Rn.icmp_eq 391 k_0 rfl rfl (fun hc => ?_) (fun hc => ?_)
        · exact nxt _ _ _ _ _ _ _ _ _ _ ⟨g.1, TOk.nil, g.2.2⟩ (C1.up g.1 e2) M2
        · exact absurd rfl hc
      | 7, _ =>
        refine Rn.tsw 293 (7) k_0 rfl (by decide) (rfl) rfl ?_
        refine Rn.aload_n k_0 rfl rfl ?_
        refine Rn.cV1 k_0 rfl rfl q_9 rfl (Nat.le_of_ble_eq_true rfl) (Nat.le_of_ble_eq_true rfl) (s16 L) (cc_filter g hC) (fun v h' hq => ?_)
        rcases hq with ⟨big, hq⟩ | ⟨sml, r, hr, ⟨p, hp, hq⟩ | ⟨S', hp, hq⟩⟩
        · obtain ⟨rfl, F1, G1, f1, l1, r1, rfl, C1, e1⟩ := hq
          show Rn _ _ _ _ (Value.int _ :: []) _ _
          have M1 := hM.low g.1 e1
          have hx1 := C1.2.2.2.1
          refine Rn.aload_n k_0 rfl rfl ?_
          refine Rn.cV1 k_0 rfl rfl q_64 rfl (Nat.le_of_ble_eq_true rfl) (Nat.le_of_ble_eq_true rfl) (s604 L) (mm_filter (r := .inr 0) C1.2.1 g M1 (fun z => absurd big (Nat.not_lt.mpr z))) (fun v h' hq => ?_)
          rcases hq with ⟨-, hq⟩ | ⟨z, -⟩
          · obtain ⟨rfl, f2, rfl, M2, e2⟩ := hq
            show Rn _ _ _ _ (Value.int _ :: Value.int _ :: []) _ _
            refine Rn.icmp_eq 391 k_0 rfl rfl (fun hc => ?_) (fun hc => ?_)
            · exact nxt _ _ _ _ _ _ _ _ _ _ ⟨g.1, TOk.nil, g.2.2⟩ (C1.up g.1 e2) M2
            · exact absurd rfl hc
          · exact absurd big (Nat.not_lt.mpr z)
        · obtain ⟨rfl, F1, G1, f1, l1, r1, rfl, C1, e1⟩ := hq
          show Rn _ _ _ _ (Value.int _ :: []) _ _
          have M1 := hM.low g.1 e1
          have hx1 := C1.2.2.2.1
          refine Rn.aload_n k_0 rfl rfl ?_
          refine Rn.cV1 k_0 rfl rfl q_64 rfl (Nat.le_of_ble_eq_true rfl) (Nat.le_of_ble_eq_true rfl) (s604 L) (mm_filter C1.2.1 g M1 (fun _ => hr)) (fun v h' hq => ?_)
          rcases hq with ⟨z, -⟩ | ⟨-, ⟨p', hp', hq⟩ | ⟨S'', hp', hq⟩⟩
          · exact absurd sml (Nat.not_le.mpr z)
          · rw [hp] at hp'
            cases hp'
            obtain ⟨rfl, f2, rfl, M2, e2⟩ := hq
            show Rn _ _ _ _ (Value.int _ :: Value.int _ :: []) _ _
            refine Rn.icmp_eq 391 k_0 rfl rfl (fun hc => ?_) (fun hc => ?_)
            · exact nxt _ _ _ _ _ _ _ _ _ _ ⟨g.1, TOk.nil, g.2.2⟩ (C1.up g.1 e2) M2
            · exact absurd rfl hc
          · rw [hp] at hp'
            cases hp'
        · obtain ⟨rfl, F1, G1, f1, l1, r1, rfl, C1, e1⟩ := hq
          show Rn _ _ _ _ (Value.int _ :: []) _ _
          have M1 := hM.low g.1 e1
          have hx1 := C1.2.2.2.1
          obtain ⟨f, hf⟩ := hr
          rw [hp] at hf
          obtain ⟨sok, sl1⟩ := mrun_ok f _ S' mInv0 hf
          have sl2 : S'.length ≤ 120 := Nat.le_trans sl1 sml
          refine Rn.aload_n k_0 rfl rfl ?_
          refine Rn.cV1 k_0 rfl rfl q_64 rfl (Nat.le_of_ble_eq_true rfl) (Nat.le_of_ble_eq_true rfl) (s604 L) (mm_filter (r := .inl S') C1.2.1 g M1 (fun _ => ⟨f, hf⟩)) (fun v h' hq => ?_)
          rcases hq with ⟨z, -⟩ | ⟨-, ⟨p', hp', hq⟩ | ⟨S'', hp', hq⟩⟩
          · exact absurd sml (Nat.not_le.mpr z)
          · cases hp'
          · cases hp'
            obtain ⟨rfl, f2, rfl, M2, e2⟩ := hq
            show Rn _ _ _ _ (Value.int _ :: Value.int _ :: []) _ _
            refine Rn.icmp_eq 391 k_0 rfl rfl (fun hc => ?_) (fun hc => ?_)
            · exact nxt _ _ _ _ _ _ _ _ _ _ ⟨g.1, TOk.nil, sl2, Or.inr sok⟩ (C1.up g.1 e2) M2
            · exact absurd rfl hc
      | 8, _ =>
        refine Rn.tsw 306 (8) k_0 rfl (by decide) (rfl) rfl ?_
        refine Rn.aload_n k_0 rfl rfl ?_
        refine Rn.aload_n k_0 rfl rfl ?_
        refine Rn.iload_n k_0 rfl rfl ?_
        refine Rn.iconst (1) k_0 rfl rfl ?_
        refine Rn.iadd k_0 rfl ?_
        rw [c_add 1 1 rfl]
        refine Rn.iascr (i + 1) k_0 rfl (s0 L) (rfl) (by omega) (by omega) ?_
        rw [hx (i + 1)]
        refine Rn.cV2 k_0 rfl rfl q_10 rfl (Nat.le_of_ble_eq_true rfl) (Nat.le_of_ble_eq_true rfl) (s16 L) (ct_passes hC.2.1 hC.1 hC.2.2.2.2.1 g.1 hC.2.2.2.2.2.2 g.2.2.1 g.2.2.2) (fun v h' hq => ?_)
        obtain ⟨hv, f0, hh, k0⟩ := hq
        have hq := cc_ho g hC hv hh k0
        obtain ⟨rfl, F1, G1, f1, l1, r1, rfl, C1, e1⟩ := hq
        show Rn _ _ _ _ (Value.int _ :: []) _ _
        have M1 := hM.low g.1 e1
        have hx1 := C1.2.2.2.1
        refine Rn.aload_n k_0 rfl rfl ?_
        refine Rn.aload_n k_0 rfl rfl ?_
        refine Rn.iload_n k_0 rfl rfl ?_
        refine Rn.iconst (1) k_0 rfl rfl ?_
        refine Rn.iadd k_0 rfl ?_
        rw [c_add 1 1 rfl]
        refine Rn.iascr (i + 1) k_0 rfl (s0 L) (rfl) (by omega) (by omega) ?_
        rw [hx1 (i + 1)]
        refine Rn.cV2 k_0 rfl rfl q_70 rfl (Nat.le_of_ble_eq_true rfl) (Nat.le_of_ble_eq_true rfl) (s604 L) (cm_passes C1.2.1 M1.1 g.1 M1.2.2 g.2.2.1 g.2.2.2) (fun v h' hq => ?_)
        have hq := mm_p g M1 hq
        obtain ⟨rfl, f2, rfl, M2, e2⟩ := hq
        show Rn _ _ _ _ (Value.int _ :: Value.int _ :: []) _ _
        refine Rn.icmp_eq 391 k_0 rfl rfl (fun hc => ?_) (fun hc => ?_)
        · exact nxt _ _ _ _ _ _ _ _ _ _ g (C1.up g.1 e2) M2
        · exact absurd rfl hc
      | 9, _ =>
        refine Rn.tsw 329 (9) k_0 rfl (by decide) (rfl) rfl ?_
        refine Rn.aload_n k_0 rfl rfl ?_
        refine Rn.cV1 k_0 rfl rfl q_11 rfl (Nat.le_of_ble_eq_true rfl) (Nat.le_of_ble_eq_true rfl) (s16 L) (ct_passing hC.2.1 hC.1 hC.2.2.2.2.1 g.1 hC.2.2.2.2.2.2 g.2.2.1 g.2.2.2) (fun v h' hq => ?_)
        obtain ⟨hv, f0, hh, k0⟩ := hq
        have hq := cc_ho g hC hv hh k0
        obtain ⟨rfl, F1, G1, f1, l1, r1, rfl, C1, e1⟩ := hq
        show Rn _ _ _ _ (Value.int _ :: []) _ _
        have M1 := hM.low g.1 e1
        have hx1 := C1.2.2.2.1
        refine Rn.aload_n k_0 rfl rfl ?_
        refine Rn.cV1 k_0 rfl rfl q_71 rfl (Nat.le_of_ble_eq_true rfl) (Nat.le_of_ble_eq_true rfl) (s604 L) (cm_passing C1.2.1 M1.1 g.1 M1.2.2 g.2.2.1 g.2.2.2) (fun v h' hq => ?_)
        have hq := mm_p g M1 hq
        obtain ⟨rfl, f2, rfl, M2, e2⟩ := hq
        show Rn _ _ _ _ (Value.int _ :: Value.int _ :: []) _ _
        refine Rn.icmp_eq 391 k_0 rfl rfl (fun hc => ?_) (fun hc => ?_)
        · exact nxt _ _ _ _ _ _ _ _ _ _ g (C1.up g.1 e2) M2
        · exact absurd rfl hc
      | 10, _ =>
        refine Rn.tsw 342 (10) k_0 rfl (by decide) (rfl) rfl ?_
        refine Rn.aload_n k_0 rfl rfl ?_
        refine Rn.aload_n k_0 rfl rfl ?_
        refine Rn.iload_n k_0 rfl rfl ?_
        refine Rn.iconst (1) k_0 rfl rfl ?_
        refine Rn.iadd k_0 rfl ?_
        rw [c_add 1 1 rfl]
        refine Rn.iascr (i + 1) k_0 rfl (s0 L) (rfl) (by omega) (by omega) ?_
        rw [hx (i + 1)]
        refine Rn.aload_n k_0 rfl rfl ?_
        refine Rn.iload_n k_0 rfl rfl ?_
        refine Rn.iconst (2) k_0 rfl rfl ?_
        refine Rn.iadd k_0 rfl ?_
        rw [c_add 2 2 rfl]
        refine Rn.iascr (i + 2) k_0 rfl (s0 L) (rfl) (by omega) (by omega) ?_
        rw [hx (i + 2)]
        have jud : ∀ y : Int32, y = (if xs (i + 2) = 0 then 0 else 1) → Rn 1000 0 361 [some (.ref 0), some (.ref 16), some (.ref 604), some (.int (nI i))] [.int y, .int (xs (i + 1)), .ref 16] (SH L, fi, fl, fr) (lwQ L) := by
          intro y hy
          refine Rn.cV3 k_0 rfl rfl q_12 rfl (Nat.le_of_ble_eq_true rfl) (Nat.le_of_ble_eq_true rfl) (s16 L) (ct_judge hC.2.1 hC.2.2.2.2.1 g.1) (fun v h' hq => ?_)
          have hq := cc_ret hC hq
          obtain ⟨rfl, F1, G1, f1, l1, r1, rfl, C1, e1⟩ := hq
          show Rn _ _ _ _ (Value.int _ :: []) _ _
          have M1 := hM.low g.1 e1
          have hx1 := C1.2.2.2.1
          refine Rn.aload_n k_0 rfl rfl ?_
          refine Rn.aload_n k_0 rfl rfl ?_
          refine Rn.iload_n k_0 rfl rfl ?_
          refine Rn.iconst (1) k_0 rfl rfl ?_
          refine Rn.iadd k_0 rfl ?_
          rw [c_add 1 1 rfl]
          refine Rn.iascr (i + 1) k_0 rfl (s0 L) (rfl) (by omega) (by omega) ?_
          rw [hx1 (i + 1)]
          refine Rn.aload_n k_0 rfl rfl ?_
          refine Rn.iload_n k_0 rfl rfl ?_
          refine Rn.iconst (2) k_0 rfl rfl ?_
          refine Rn.iadd k_0 rfl ?_
          rw [c_add 2 2 rfl]
          refine Rn.iascr (i + 2) k_0 rfl (s0 L) (rfl) (by omega) (by omega) ?_
          rw [hx1 (i + 2)]
          have jm : Rn 1000 0 383 [some (.ref 0), some (.ref 16), some (.ref 604), some (.int (nI i))] [.int y, .int (xs (i + 1)), .ref 604, .int (jdgW A (xs (i + 1)) y)] (SH L, f1, l1, r1) (lwQ L) := by
            refine Rn.cV3 k_0 rfl rfl q_72 rfl (Nat.le_of_ble_eq_true rfl) (Nat.le_of_ble_eq_true rfl) (s604 L) (cm_judge C1.2.1 M1.1 g.1) (fun v h' hq => ?_)
            have hq := mm_q g M1 hq
            obtain ⟨rfl, f2, rfl, M2, e2⟩ := hq
            show Rn _ _ _ _ (Value.int _ :: Value.int _ :: []) _ _
            refine Rn.icmp_eq 391 k_0 rfl rfl (fun hc => ?_) (fun hc => ?_)
            · exact nxt _ _ _ _ _ _ _ _ _ _ g (C1.up g.1 e2) M2
            · exact absurd rfl hc
          refine Rn.if_eq 382 k_0 rfl rfl (fun hz => ?_) (fun hz => ?_)
          · refine Rn.iconst (0) k_0 rfl rfl ?_
            rw [if_pos hz] at hy
            rw [hy] at jm
            rw [hy]
            exact jm
          · refine Rn.iconst (1) k_0 rfl rfl ?_
            refine Rn.goto 383 k_0 rfl rfl ?_
            rw [if_neg hz] at hy
            rw [hy] at jm
            rw [hy]
            exact jm
        refine Rn.if_eq 360 k_0 rfl rfl (fun hz => ?_) (fun hz => ?_)
        · refine Rn.iconst (0) k_0 rfl rfl ?_
          exact jud 0 (by rw [if_pos hz])
        · refine Rn.iconst (1) k_0 rfl rfl ?_
          refine Rn.goto 361 k_0 rfl rfl ?_
          exact jud 1 (by rw [if_neg hz])
      | j + 11, hj =>
        refine Rn.tswo 391 k_0 rfl (Or.inr (by rw [nI_toInt (by omega)]; omega)) rfl ?_
        exact nxt _ _ _ _ _ _ _ _ _ _ g hC hM
