/-! Case.begin, Case.valueIn, Script.numberTests -/
section CS
variable {d L : Nat} {fi : Nat → Nat → Int32} {fl : Nat → Nat → Int64} {fr : Nat → Nat → Option Nat} {F G : Nat}
theorem ct_begin (hF : FRok F G fr) {i : Nat} (hi : i < 40) {nm : Int64} {ln : Int32} : Rn d 74 0 [some (.ref (25 + 14 * i)), some (.long nm), none, some (.int ln)] [] (SH L, fi, fl, fr) (fun v h' => v = none ∧ ∃ fi' fl', h' = (SH L, fi', fl', fr) ∧ fl' (25 + 14 * i) 0 = nm ∧ fl' (25 + 14 * i) 1 = 0 ∧ fi' (25 + 14 * i) 2 = -1 ∧ fi' (25 + 14 * i) 3 = ln ∧ fi' (25 + 14 * i) 4 = 1 ∧ fi' (25 + 14 * i) 5 = 0 ∧ fi' (25 + 14 * i) 6 = 0 ∧ fi' (25 + 14 * i) 10 = 1 ∧ fi' (25 + 14 * i) 11 = 0 ∧ fi' (25 + 14 * i + 1) 1 = 0 ∧ fi' (25 + 14 * i + 3) 1 = 0 ∧ (∀ a k, a ≠ 25 + 14 * i → a ≠ 25 + 14 * i + 1 → a ≠ 25 + 14 * i + 3 → fi' a k = fi a k) ∧ ∀ a k, a ≠ 25 + 14 * i → fl' a k = fl a k) := by
  refine Rn.aload_n k_74 rfl rfl ?_
  refine Rn.lload_n k_74 rfl rfl ?_
  refine Rn.putL k_74 rfl rfl (sk0 L hi) ?_
  refine Rn.aload_n k_74 rfl rfl ?_
  refine Rn.iload_n k_74 rfl rfl ?_
  refine Rn.putI k_74 rfl (rfl) (sk0 L hi) ?_
  refine Rn.aload_n k_74 rfl rfl ?_
  refine Rn.iconst (-1) k_74 rfl rfl ?_
  refine Rn.putI k_74 rfl (rfl) (sk0 L hi) ?_
  refine Rn.aload_n k_74 rfl rfl ?_
  refine Rn.lconst 0 k_74 rfl rfl ?_
  refine Rn.putL k_74 rfl rfl (sk0 L hi) ?_
  refine Rn.aload_n k_74 rfl rfl ?_
  refine Rn.iconst (1) k_74 rfl rfl ?_
  refine Rn.putI k_74 rfl (rfl) (sk0 L hi) ?_
  refine Rn.aload_n k_74 rfl rfl ?_
  refine Rn.iconst (0) k_74 rfl rfl ?_
  refine Rn.putI k_74 rfl (rfl) (sk0 L hi) ?_
  refine Rn.aload_n k_74 rfl rfl ?_
  refine Rn.iconst (0) k_74 rfl rfl ?_
  refine Rn.putI k_74 rfl (rfl) (sk0 L hi) ?_
  refine Rn.aload_n k_74 rfl rfl ?_
  refine Rn.iconst (0) k_74 rfl rfl ?_
  refine Rn.putI k_74 rfl (rfl) (sk0 L hi) ?_
  refine Rn.aload_n k_74 rfl rfl ?_
  refine Rn.iconst (1) k_74 rfl rfl ?_
  refine Rn.putI k_74 rfl (rfl) (sk0 L hi) ?_
  refine Rn.aload_n k_74 rfl rfl ?_
  refine Rn.getA k_74 rfl rfl (sk0 L hi) (hF.k hi 1 rfl) ?_
  refine Rn.iconst (0) k_74 rfl rfl ?_
  refine Rn.putI k_74 rfl (rfl) (sk1 L hi) ?_
  refine Rn.aload_n k_74 rfl rfl ?_
  refine Rn.getA k_74 rfl rfl (sk0 L hi) (hF.k hi 3 rfl) ?_
  refine Rn.iconst (0) k_74 rfl rfl ?_
  refine Rn.putI k_74 rfl (rfl) (sk3 L hi) ?_
  refine Rn.retv k_74 rfl q_74 rfl ?_
  have n1 : 25 + 14 * i + 1 ≠ 25 + 14 * i := by omega
  have n3 : 25 + 14 * i + 3 ≠ 25 + 14 * i := by omega
  have n13 : 25 + 14 * i + 1 ≠ 25 + 14 * i + 3 := by omega
  refine ⟨rfl, _, _, rfl, ?_, ?_, ?_, ?_, ?_, ?_, ?_, ?_, ?_, ?_, ?_, ?_, ?_⟩
  · simp [up2]
  · simp [up2]
  · simp [up2]
  · simp [up2]
  · simp [up2]
  · simp [up2]
  · simp [up2]
  · simp [up2]
  · simp [up2]
  · simp [up2]
  · simp [up2]
  · intro a k h1 h2 h3
    simp [up2, h1, h2, h3]
  · intro a k h1
    simp [up2, h1]
theorem ct_valueIn (hF : FRok F G fr) {i : Nat} (hi : i < 40) {k : KS} {sn : Nm} {st : List Nm} (hC : CKr fi fl i k sn st) (hps : (k_ps k).length ≤ 4) (hv : ∀ p ∈ k_ps k, 1 ≤ p.2.length ∧ p.2.length ≤ 6) {f w p : Nat} (hf : fi (25 + 14 * i) 9 = nI f) (hf2 : f + w < 2 ^ 30) (hp : p < (k_ps k).length) : Rn (d + 1) 75 0 [some (.ref (25 + 14 * i)), some (.int (nI (f + w))), some (.int (nI p)), none, none] [] (SH L, fi, fl, fr) (Ret (SH L, fi, fl, fr) (some (.long (lN (enc (vsel (k_ps k) w p)))))) := by
  obtain ⟨-, -, -, -, -, -, -, -, -, -, -, c12, c13⟩ := hC
  have hs : fi (25 + 14 * i + 3) 1 = nI (k_ps k).length := by rw [c12.1, List.length_map]
  generalize k_ps k = ps at hps hv hp c13 hs ⊢
  have hg : ∀ q, q < ps.length → 1 ≤ (ps.getD q ([], [])).2.length ∧ (ps.getD q ([], [])).2.length ≤ 6 := by
    intro q hq
    refine hv _ ?_
    rw [List.getD_eq_getElem?_getD, List.getElem?_eq_getElem hq]
    exact List.getElem_mem hq
  have hsz : ∀ q, q < ps.length → fi (25 + 14 * i + (6 + 2 * q)) 1 = nI (ps.getD q ([], [])).2.length := by
    intro q hq
    rw [(c13 q hq).1, List.length_map]
  refine Rn.iload_n k_75 rfl rfl ?_
  refine Rn.if_lt 15 k_75 rfl rfl (fun h1 => ?_) (fun h1 => ?_)
  · exact absurd h1 (c_neg (by omega))
  · refine Rn.iload_n k_75 rfl rfl ?_
    refine Rn.aload_n k_75 rfl rfl ?_
    refine Rn.getA k_75 rfl rfl (sk0 L hi) (hF.k hi 3 rfl) ?_
    refine Rn.getI k_75 rfl rfl (sk3 L hi) ?_
    rw [hs]
    refine Rn.icmp_lt 17 k_75 rfl rfl (fun h2 => ?_) (fun h2 => ?_)
    · refine Rn.iload_n k_75 rfl rfl ?_
      refine Rn.aload_n k_75 rfl rfl ?_
      refine Rn.getI k_75 rfl rfl (sk0 L hi) ?_
      rw [hf]
      refine Rn.isub k_75 rfl ?_
      rw [pk_sub (by omega), show f + w - f = w by omega]
      refine Rn.istore_n3 k_75 rfl rfl ?_
      refine Rn.aload_n k_75 rfl rfl ?_
      refine Rn.getA k_75 rfl rfl (sk0 L hi) (hF.k hi 3 rfl) ?_
      refine Rn.getI k_75 rfl rfl (sk3 L hi) ?_
      rw [hs]
      refine Rn.iconst (1) k_75 rfl rfl ?_
      refine Rn.isub k_75 rfl ?_
      rw [c_sub 1 1 rfl (by omega)]
      have loop : ∀ m q, q = p + m → q < ps.length → Rn (d + 1) 75 35 [some (.ref (25 + 14 * i)), some (.int (nI (f + w))), some (.int (nI p)), some (.int (nI (vturn ps w q))), some (.int (nI q))] [] (SH L, fi, fl, fr) (Ret (SH L, fi, fl, fr) (some (.long (lN (enc (vsel ps w p)))))) := by
        intro m
        induction m with
        | zero =>
          intro q hq hql
          have : q = p := by omega
          subst this
          have ht := vturn_le ps w q
          obtain ⟨g1, g2⟩ := hg q hql
          have hz := hsz q hql
          refine Rn.iload k_75 rfl rfl ?_
          refine Rn.iload_n k_75 rfl rfl ?_
          refine Rn.icmp_le 73 k_75 rfl rfl (fun h3 => ?_) (fun h3 => ?_)
          · refine Rn.aload_n k_75 rfl rfl ?_
            refine Rn.getA k_75 rfl rfl (sk0 L hi) (hF.k hi 4 rfl) ?_
            refine Rn.iload_n k_75 rfl rfl ?_
            refine Rn.aaload (ci := 3) (q) k_75 rfl (sk5 L hi) rfl (by decide) (rfl) (by omega) (by decide) (frV hF hi (by omega)) ?_
            refine Rn.getI k_75 rfl rfl (shV L hi (by omega)) ?_
            rw [hz]
            refine Rn.istore4 k_75 rfl rfl ?_
            refine Rn.iload k_75 rfl rfl ?_
            refine Rn.if_le 105 k_75 rfl rfl (fun h5 => ?_) (fun h5 => ?_)
            · exact absurd ((c_le 0 0 rfl (by omega) (by decide)).mp h5) (by omega)
            · refine Rn.aload_n k_75 rfl rfl ?_
              refine Rn.getA k_75 rfl rfl (sk0 L hi) (hF.k hi 4 rfl) ?_
              refine Rn.iload_n k_75 rfl rfl ?_
              refine Rn.aaload (ci := 3) (q) k_75 rfl (sk5 L hi) rfl (by decide) (rfl) (by omega) (by decide) (frV hF hi (by omega)) ?_
              refine Rn.iload_n k_75 rfl rfl ?_
              refine Rn.iload k_75 rfl rfl ?_
              refine Rn.irem k_75 rfl (nI_ne0 (by omega) (by omega)) ?_
              rw [pk_rem (by omega) (by omega) (by omega)]
              refine Rn.cV2L k_75 rfl rfl q_100 rfl (Nat.le_of_ble_eq_true rfl) (Nat.le_of_ble_eq_true rfl) (shV L hi (by omega)) (ct_at (w := (ps.getD q ([], [])).2.map enc) (shV L hi (by omega)) (shC L hi (by omega)) (frC hF hi (by omega)) (by decide) (c13 q hql) (by rw [List.length_map]; omega) (by rw [List.length_map]; exact Nat.mod_lt _ (by omega))) ?_
              refine Rn.goto 106 k_75 rfl rfl ?_
              refine Rn.retl k_75 rfl q_75 rfl ?_
              refine ⟨?_, rfl⟩
              unfold vsel
              have hm : vturn ps w q % (ps.getD q ([], [])).2.length < (ps.getD q ([], [])).2.length := Nat.mod_lt _ (by omega)
              rw [List.getD_eq_getElem?_getD (l := List.map enc _), List.getElem?_map, List.getD_eq_getElem?_getD (l := (ps.getD q ([], [])).2), List.getElem?_eq_getElem hm]
              rfl
          · exact absurd ((nI_leI (by omega) (by omega)).mpr (Nat.le_refl _)) h3
        | succ m ih =>
          intro q hq hql
          have ht := vturn_le ps w q
          obtain ⟨g1, g2⟩ := hg q hql
          have hz := hsz q hql
          refine Rn.iload k_75 rfl rfl ?_
          refine Rn.iload_n k_75 rfl rfl ?_
          refine Rn.icmp_le 73 k_75 rfl rfl (fun h3 => ?_) (fun h3 => ?_)
          · exact absurd ((nI_leI (by omega) (by omega)).mp h3) (by omega)
          · refine Rn.aload_n k_75 rfl rfl ?_
            refine Rn.getA k_75 rfl rfl (sk0 L hi) (hF.k hi 4 rfl) ?_
            refine Rn.iload k_75 rfl rfl ?_
            refine Rn.aaload (ci := 3) (q) k_75 rfl (sk5 L hi) rfl (by decide) (rfl) (by omega) (by decide) (frV hF hi (by omega)) ?_
            refine Rn.getI k_75 rfl rfl (shV L hi (by omega)) ?_
            rw [hz]
            refine Rn.if_le 67 k_75 rfl rfl (fun h4 => ?_) (fun h4 => ?_)
            · exact absurd ((c_le 0 0 rfl (by omega) (by decide)).mp h4) (by omega)
            · refine Rn.iload_n k_75 rfl rfl ?_
              refine Rn.aload_n k_75 rfl rfl ?_
              refine Rn.getA k_75 rfl rfl (sk0 L hi) (hF.k hi 4 rfl) ?_
              refine Rn.iload k_75 rfl rfl ?_
              refine Rn.aaload (ci := 3) (q) k_75 rfl (sk5 L hi) rfl (by decide) (rfl) (by omega) (by decide) (frV hF hi (by omega)) ?_
              refine Rn.getI k_75 rfl rfl (shV L hi (by omega)) ?_
              rw [hz]
              refine Rn.idiv k_75 rfl (nI_ne0 (by omega) (by omega)) ?_
              rw [pk_div (by omega) (by omega) (by omega)]
              refine Rn.istore_n3 k_75 rfl rfl ?_
              refine Rn.iinc4 (-1) k_75 rfl rfl rfl ?_
              rw [show nI q + (-1) = nI (q - 1) from sb_m1 (by omega)]
              refine Rn.goto 35 k_75 rfl rfl ?_
              have := ih (q - 1) (by omega) (by omega)
              have e1 : vturn ps w (q - 1) = vturn ps w q / (ps.getD q ([], [])).2.length := by
                unfold vturn
                rw [show q - 1 + 1 = q by omega, List.drop_eq_getElem_cons hql, List.foldr_cons, List.getD_eq_getElem?_getD, List.getElem?_eq_getElem hql]
                rfl
              rw [e1] at this
              exact this
      refine Rn.istore4 k_75 rfl rfl ?_
      have := loop (ps.length - 1 - p) (ps.length - 1) (by omega) (by omega)
      rw [show vturn ps w (ps.length - 1) = w by unfold vturn; rw [List.drop_eq_nil_of_le (by omega)]; rfl] at this
      exact this
    · exact absurd ((nI_ltI (by omega) (by omega)).mpr hp) h2
theorem totW_succ {ks : List KS} {i : Nat} (h : i < ks.length) : totW (ks.take (i + 1)) = totW (ks.take i) + ways (k_ps (ks.getD i dK)) := by
  unfold totW
  rw [List.take_succ_eq_append_getElem h, List.map_append, List.sum_append, List.getD_eq_getElem?_getD, List.getElem?_eq_getElem h]
  simp
theorem totW_take_le (ks : List KS) : ∀ i, totW (ks.take i) ≤ totW ks := by
  intro i
  have e : totW ks = totW (ks.take i) + totW (ks.drop i) := by
    unfold totW
    rw [← List.sum_append, ← List.map_append, List.take_append_drop]
  omega
/-- the tests have their numbers -/
def NTr (fi : Nat → Nat → Int32) (ks : List KS) : Prop := ∀ i, i < ks.length → fi (25 + 14 * i) 9 = nI (totW (ks.take i)) ∧ ∀ w, w < ways (k_ps (ks.getD i dK)) → fi 24 (totW (ks.take i) + w) = nI i
set_option maxHeartbeats 1000000 in
theorem ct_numberTests (hF : FRok F G fr) {ks : List KS} (hl : ks.length ≤ 40) (hn : fi 19 4 = nI ks.length) (hw : ∀ i, i < ks.length → fi (25 + 14 * i) 10 = nI (ways (k_ps (ks.getD i dK)))) (ht : totW ks ≤ 120) : Rn d 110 0 [some (.ref 19), none, none, none] [] (SH L, fi, fl, fr) (fun v h' => v = none ∧ ∃ fi', h' = (SH L, fi', fl, fr) ∧ NTr fi' ks ∧ ∀ a k, a ≠ 24 → (k ≠ 9 ∨ ∀ i, i < ks.length → a ≠ 25 + 14 * i) → fi' a k = fi a k) := by
  have outer : ∀ (m i : Nat) (o3 : Option Value) (gi : Nat → Nat → Int32), i + m = ks.length → (∀ j, j < i → gi (25 + 14 * j) 9 = nI (totW (ks.take j)) ∧ ∀ w, w < ways (k_ps (ks.getD j dK)) → gi 24 (totW (ks.take j) + w) = nI j) → (∀ a k, a ≠ 24 → (k ≠ 9 ∨ ∀ i, i < ks.length → a ≠ 25 + 14 * i) → gi a k = fi a k) → Rn d 110 4 [some (.ref 19), some (.int (nI (totW (ks.take i)))), some (.int (nI i)), o3] [] (SH L, gi, fl, fr) (fun v h' => v = none ∧ ∃ fi', h' = (SH L, fi', fl, fr) ∧ NTr fi' ks ∧ ∀ a k, a ≠ 24 → (k ≠ 9 ∨ ∀ i, i < ks.length → a ≠ 25 + 14 * i) → fi' a k = fi a k) := by
    intro m
    induction m with
    | zero =>
      intro i o3 gi hi hA hG
      refine Rn.iload_n k_110 rfl rfl ?_
      refine Rn.aload_n k_110 rfl rfl ?_
      refine Rn.getI k_110 rfl rfl (s19 L) ?_
      rw [hG 19 4 (by decide) (Or.inl (by decide)), hn]
      refine Rn.icmp_ge 68 k_110 rfl rfl (fun h1 => ?_) (fun h1 => ?_)
      · refine Rn.retv k_110 rfl q_110 rfl ?_
        refine ⟨rfl, gi, rfl, fun j hj => hA j (by omega), hG⟩
      · exact absurd ((nI_leI (by omega) (by omega)).mpr (by omega)) h1
    | succ m ih =>
      intro i o3 gi hi hA hG
      have hil : i < ks.length := by omega
      have es := totW_succ hil
      have et := totW_take_le ks (i + 1)
      generalize hW : ways (k_ps (ks.getD i dK)) = W at es
      have hwi : fi (25 + 14 * i) 10 = nI W := by rw [hw i hil, hW]
      have inner : ∀ (q t : Nat) (gi : Nat → Nat → Int32), t + q = W → (∀ j, j < i → gi (25 + 14 * j) 9 = nI (totW (ks.take j)) ∧ ∀ w, w < ways (k_ps (ks.getD j dK)) → gi 24 (totW (ks.take j) + w) = nI j) → gi (25 + 14 * i) 9 = nI (totW (ks.take i)) → (∀ w, w < t → gi 24 (totW (ks.take i) + w) = nI i) → (∀ a k, a ≠ 24 → (k ≠ 9 ∨ ∀ i, i < ks.length → a ≠ 25 + 14 * i) → gi a k = fi a k) → Rn d 110 24 [some (.ref 19), some (.int (nI (totW (ks.take i) + t))), some (.int (nI i)), some (.int (nI t))] [] (SH L, gi, fl, fr) (fun v h' => v = none ∧ ∃ fi', h' = (SH L, fi', fl, fr) ∧ NTr fi' ks ∧ ∀ a k, a ≠ 24 → (k ≠ 9 ∨ ∀ i, i < ks.length → a ≠ 25 + 14 * i) → fi' a k = fi a k) := by
        intro q
        induction q with
        | zero =>
          intro t gi htq hA h9 hB hG
          refine Rn.iload_n k_110 rfl rfl ?_
          refine Rn.aload_n k_110 rfl rfl ?_
          refine Rn.getA k_110 rfl rfl (s19 L) (hF.l 5 rfl) ?_
          refine Rn.iload_n k_110 rfl rfl ?_
          refine Rn.aaload (ci := 4) (i) k_110 rfl (s23 L) rfl (by decide) (rfl) (by omega) (by decide) (hF.2.2.1 i (by omega)) ?_
          refine Rn.getI k_110 rfl rfl (sk0 L (by omega)) ?_
          rw [hG (25 + 14 * i) 10 (by omega) (Or.inl (by decide)), hwi]
          refine Rn.icmp_ge 62 k_110 rfl rfl (fun h2 => ?_) (fun h2 => ?_)
          · refine Rn.iinc2 (1) k_110 rfl rfl rfl ?_
            rw [c_add 1 1 rfl]
            refine Rn.goto 4 k_110 rfl rfl ?_
            have : t = W := by omega
            subst this
            rw [← es]
            refine ih (i + 1) _ gi (by omega) (fun j hj => ?_) hG
            by_cases e : j = i
            · subst e
              exact ⟨h9, fun w hw2 => hB w (by omega)⟩
            · exact hA j (by omega)
          · exact absurd ((nI_leI (by omega) (by omega)).mpr (by omega)) h2
        | succ q ihq =>
          intro t gi htq hA h9 hB hG
          refine Rn.iload_n k_110 rfl rfl ?_
          refine Rn.aload_n k_110 rfl rfl ?_
          refine Rn.getA k_110 rfl rfl (s19 L) (hF.l 5 rfl) ?_
          refine Rn.iload_n k_110 rfl rfl ?_
          refine Rn.aaload (ci := 4) (i) k_110 rfl (s23 L) rfl (by decide) (rfl) (by omega) (by decide) (hF.2.2.1 i (by omega)) ?_
          refine Rn.getI k_110 rfl rfl (sk0 L (by omega)) ?_
          rw [hG (25 + 14 * i) 10 (by omega) (Or.inl (by decide)), hwi]
          refine Rn.icmp_ge 62 k_110 rfl rfl (fun h2 => ?_) (fun h2 => ?_)
          · exact absurd ((nI_leI (by omega) (by omega)).mp h2) (by omega)
          · refine Rn.iload_n k_110 rfl rfl ?_
            refine Rn.aload_n k_110 rfl rfl ?_
            refine Rn.getA k_110 rfl rfl (s19 L) (hF.l 6 rfl) ?_
            refine Rn.alen k_110 rfl (s24 L) rfl (by decide) ?_
            refine Rn.icmp_ge 62 k_110 rfl rfl (fun h3 => ?_) (fun h3 => ?_)
            · exact absurd ((nI_leI (by omega) (by omega)).mp h3) (by omega)
            · refine Rn.aload_n k_110 rfl rfl ?_
              refine Rn.getA k_110 rfl rfl (s19 L) (hF.l 6 rfl) ?_
              refine Rn.iload_n k_110 rfl rfl ?_
              refine Rn.iload_n k_110 rfl rfl ?_
              refine Rn.iastore (totW (ks.take i) + t) k_110 rfl (s24 L) (rfl) (by omega) (by decide) (rfl) ?_
              refine Rn.iinc1 (1) k_110 rfl rfl rfl ?_
              rw [c_add 1 1 rfl]
              refine Rn.iinc3 (1) k_110 rfl rfl rfl ?_
              rw [c_add 1 1 rfl]
              refine Rn.goto 24 k_110 rfl rfl ?_
              refine ihq (t + 1) _ (by omega) (fun j hj => ?_) ?_ (fun w hw2 => ?_) (fun a k ha hk => ?_)
              · obtain ⟨z1, z2⟩ := hA j hj
                refine ⟨by rw [up2_row _ _ (by omega)]; exact z1, fun w hw2 => ?_⟩
                have e1 := totW_succ (ks := ks) (i := j) (by omega)
                have e2 : totW (ks.take (j + 1)) ≤ totW (ks.take i) := by
                  have := totW_take_le (ks.take i) (j + 1)
                  rwa [List.take_take, Nat.min_eq_left (by omega)] at this
                rw [up2_col _ _ (by omega)]
                exact z2 w hw2
              · rw [up2_row _ _ (by omega)]; exact h9
              · by_cases e : w = t
                · subst e; exact up2_same _ _ _ _
                · rw [up2_col _ _ (by omega)]; exact hB w (by omega)
              · rw [up2_row _ _ ha]; exact hG a k ha hk
      refine Rn.iload_n k_110 rfl rfl ?_
      refine Rn.aload_n k_110 rfl rfl ?_
      refine Rn.getI k_110 rfl rfl (s19 L) ?_
      rw [hG 19 4 (by decide) (Or.inl (by decide)), hn]
      refine Rn.icmp_ge 68 k_110 rfl rfl (fun h1 => ?_) (fun h1 => ?_)
      · exact absurd ((nI_leI (by omega) (by omega)).mp h1) (by omega)
      · refine Rn.aload_n k_110 rfl rfl ?_
        refine Rn.getA k_110 rfl rfl (s19 L) (hF.l 5 rfl) ?_
        refine Rn.iload_n k_110 rfl rfl ?_
        refine Rn.aaload (ci := 4) (i) k_110 rfl (s23 L) rfl (by decide) (rfl) (by omega) (by decide) (hF.2.2.1 i (by omega)) ?_
        refine Rn.iload_n k_110 rfl rfl ?_
        refine Rn.putI k_110 rfl (rfl) (sk0 L (by omega)) ?_
        refine Rn.iconst (0) k_110 rfl rfl ?_
        refine Rn.istore_n3 k_110 rfl rfl ?_
        refine inner W 0 _ (Nat.zero_add _) (fun j hj => ?_) (up2_same _ _ _ _) (fun w hw2 => absurd hw2 (Nat.not_lt_zero w)) (fun a k ha hk => ?_)
        · obtain ⟨z1, z2⟩ := hA j hj
          exact ⟨by rw [up2_row _ _ (by omega)]; exact z1, fun w hw2 => by rw [up2_row _ _ (by omega)]; exact z2 w hw2⟩
        · rcases hk with hk | hk
          · rw [up2_col _ _ hk]; exact hG a k ha (Or.inl hk)
          · rw [up2_row _ _ (hk i hil)]; exact hG a k ha (Or.inr hk)
  refine Rn.iconst (0) k_110 rfl rfl ?_
  refine Rn.istore_n1 k_110 rfl rfl ?_
  refine Rn.iconst (0) k_110 rfl rfl ?_
  refine Rn.istore_n2 k_110 rfl rfl ?_
  exact outer ks.length 0 none fi (Nat.zero_add _) (fun j hj => absurd hj (Nat.not_lt_zero j)) (fun _ _ _ _ => rfl)
end CS
