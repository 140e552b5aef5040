/-! ScriptReader: addTags, isTaken, openCase -/
theorem addNs_pre : ∀ (ts w w' : List Nm), addNs w ts = some w' → ∃ u, w' = w ++ u ∧ ∀ t ∈ u, okV t = true
  | [], w, w', h => ⟨[], by cases h; simp, fun t ht => by cases ht⟩
  | t :: ts, w, w', h => by
    unfold addNs at h
    split at h
    · rename_i hg
      obtain ⟨u, rfl, hu⟩ := addNs_pre ts _ _ h
      refine ⟨t :: u, by simp, fun s hs => ?_⟩
      rcases List.mem_cons.mp hs with z | z
      · rw [z]; exact okN_okV hg.1
      · exact hu s z
    · cases h
section RD
variable {d L : Nat} {fi : Nat → Nat → Int32} {fl : Nat → Nat → Int64} {fr : Nat → Nat → Option Nat} {F G : Nat} {x : Nat → Nat} {n : Nat} {A : AS} {ws : List (Nat × Nat)}
def tagL (A : AS) (ts : List Nm) : Option AS := if ts = [] ∨ (A.2.2 = false ∧ A.1 = []) then none else tagsW A ts
theorem AOk.inK {n : Nat} {A : AS} (hA : AOk n A) (h : A.2.2 = true) : ∃ ss ks k, A = (ss, ks ++ [k], true) ∧ k_su k = ss.length := by
  obtain ⟨ss, kk, c⟩ := A
  have h : c = true := h
  subst h
  obtain ⟨h1, h2⟩ := hA.2.2.2.2.2.2.1 rfl
  have h1 : kk ≠ [] := h1
  refine ⟨ss, kk.dropLast, kk.getLast h1, ?_, h2 _ (List.getLast?_eq_some_getLast h1)⟩
  rw [List.dropLast_concat_getLast h1]
theorem AOk.noK {A : AS} (h : A.2.2 = false) (h2 : A.1 ≠ []) : ∃ ss s ks, A = (ss ++ [s], ks, false) := by
  obtain ⟨ss, kk, c⟩ := A
  have h : c = false := h
  subst h
  have h2 : ss ≠ [] := h2
  exact ⟨ss.dropLast, ss.getLast h2, kk, by rw [List.dropLast_concat_getLast h2]⟩
set_option maxHeartbeats 1000000 in
theorem ct_addTags (hF : FRok F G fr) (hS : SCr fi fl x n A) (hA : AOk n A) (hW : WDr fi ws) (hw : wok n ws) {w0 : Nat × Nat} {rest : List (Nat × Nat)} (hws : ws = w0 :: rest) : Rn (d + 3) 119 0 [some (.ref 585), none, none] [] (SH L, fi, fl, fr) (AccQ L fi fl fr x n (tagL A (rest.map (wd x)))) := by
  have hl : ws.length = rest.length + 1 := by rw [hws]; rfl
  have hl6 := hw.2
  have hd : ws.drop 1 = rest := by rw [hws]; rfl
  have s3 : fi 21 1 = nI A.1.length := by rw [hS.2.2.1.1, List.length_map]
  have hA1 := hA.1
  have no : tagL A (rest.map (wd x)) = none → Rn (d + 3) 119 31 [some (.ref 585), none, none] [] (SH L, fi, fl, fr) (AccQ L fi fl fr x n (tagL A (rest.map (wd x)))) := by
    intro e
    refine Rn.iconst (0) k_119 rfl rfl ?_
    refine Rn.reti k_119 rfl q_119 rfl (rfl) ?_
    rw [e]
    exact ⟨fi, fl, rfl, fun _ _ _ => rfl, fun _ _ _ => rfl, rfl, fun B hB => by cases hB⟩
  refine Rn.aload_n k_119 rfl rfl ?_
  refine Rn.getA k_119 rfl rfl (s585 L) (hF.l 14 rfl) ?_
  refine Rn.getI k_119 rfl rfl (s588 L) ?_
  rw [hW.1]
  refine Rn.iconst (2) k_119 rfl rfl ?_
  refine Rn.icmp_lt 31 k_119 rfl rfl (fun h1 => ?_) (fun h1 => ?_)
  · rw [c_lt 2 2 rfl (by omega) (by decide)] at h1
    refine no ?_
    unfold tagL
    rw [if_pos (Or.inl (by rw [List.eq_nil_of_length_eq_zero (show rest.length = 0 by omega)]; rfl))]
  · rw [c_lt 2 2 rfl (by omega) (by decide)] at h1
    have hr : rest.map (wd x) ≠ [] := by
      intro z
      have := congrArg List.length z
      rw [List.length_map] at this
      have this : rest.length = 0 := this
      omega
    refine Rn.aload_n k_119 rfl rfl ?_
    refine Rn.getI k_119 rfl rfl (s585 L) ?_
    rw [hS.2.2.2.2.2.2.1]
    refine Rn.if_ne 33 k_119 rfl rfl (fun h2 => ?_) (fun h2 => ?_)
    · (try rw [bI_0] at h2)
      (try rw [Bool.not_eq_false] at h2)
      obtain ⟨ss, ks, k, rfl, hsu⟩ := hA.inK h2
      have eL : tagL (ss, ks ++ [k], true) (rest.map (wd x)) = tagsW (ss, ks ++ [k], true) (rest.map (wd x)) := by
        unfold tagL
        rw [if_neg]
        rintro (z | z)
        · exact hr z
        · cases z.1
      rw [eL, tagsW_case]
      obtain ⟨hi, hk⟩ := ckl hA
      have s6 := hS.2.2.2.2.2.1 ks.length (by show ks.length < (ks ++ [k]).length; simp)
      have s6 : CKr fi fl ks.length ((ks ++ [k]).getD ks.length dK) (snm ss (k_su ((ks ++ [k]).getD ks.length dK))) (stg ss (k_su ((ks ++ [k]).getD ks.length dK))) := s6
      rw [getD_app_last] at s6
      have s4 : fi 19 4 = nI (ks.length + 1) := by rw [hS.2.2.2.1]; show nI (ks ++ [k]).length = _; simp
      refine Rn.aload_n k_119 rfl rfl ?_
      refine Rn.getA k_119 rfl rfl (s585 L) (hF.l 9 rfl) ?_
      refine Rn.astore_n1 k_119 rfl rfl ?_
      refine Rn.aload_n k_119 rfl rfl ?_
      refine Rn.getI k_119 rfl rfl (s585 L) ?_
      rw [hS.2.2.2.2.2.2.1]
      refine Rn.if_eq 76 k_119 rfl rfl (fun h4 => ?_) (fun h4 => ?_)
      · exact absurd (show bI true = 0 from h4) (by decide)
      · refine Rn.aload_n k_119 rfl rfl ?_
        refine Rn.getA k_119 rfl rfl (s585 L) (hF.l 10 rfl) ?_
        refine Rn.getI k_119 rfl rfl (s19 L) ?_
        rw [s4]
        refine Rn.if_le 76 k_119 rfl rfl (fun h5 => ?_) (fun h5 => ?_)
        · rw [c_le 0 0 rfl (by omega) (by decide)] at h5
          omega
        · refine Rn.aload_n k_119 rfl rfl ?_
          refine Rn.getA k_119 rfl rfl (s585 L) (hF.l 10 rfl) ?_
          refine Rn.getA k_119 rfl rfl (s19 L) (hF.l 5 rfl) ?_
          refine Rn.aload_n k_119 rfl rfl ?_
          refine Rn.getA k_119 rfl rfl (s585 L) (hF.l 10 rfl) ?_
          refine Rn.getI k_119 rfl rfl (s19 L) ?_
          rw [s4]
          refine Rn.iconst (1) k_119 rfl rfl ?_
          refine Rn.isub k_119 rfl ?_
          rw [c_sub 1 1 rfl (by omega), Nat.add_sub_cancel]
          refine Rn.aaload (ci := 4) (ks.length) k_119 rfl (s23 L) rfl (by decide) (rfl) (by omega) (by decide) (hF.2.2.1 _ hi) ?_
          refine Rn.getA k_119 rfl rfl (sk0 L hi) (hF.k hi 1 rfl) ?_
          refine Rn.astore_n1 k_119 rfl rfl ?_
          refine Rn.iconst (1) k_119 rfl rfl ?_
          refine Rn.istore_n2 k_119 rfl rfl ?_
          refine ct_tagLoop hF (sk1 L hi) (sk2 L hi) (hF.k hi 0 rfl) (by unfold rdF; omega) (by unfold rdF; omega) hw rest.length 1 (atg ss k) fi fl (by omega) (by decide) hS.1 hW s6.2.2.2.2.2.2.2.2.2.2.1 ?_ hk.2.2.2.2.2.2.1 _ ?_ ?_
          · intro t ht
            rcases List.mem_append.mp ht with z | z
            · unfold stg at z
              split at z
              · cases z
              · rename_i q _
                have hq : q < ss.length ∨ ss.length ≤ q := by omega
                rcases hq with hq | hq
                · rw [List.getD_eq_getElem?_getD, List.getElem?_eq_getElem hq] at z
                  exact okN_okV ((hA.2.1 _ (List.getElem_mem hq)).2.2.2.2 t z).1
                · rw [List.getD_eq_getElem?_getD, List.getElem?_eq_none hq] at z
                  cases z
            · exact okN_okV (hk.2.2.2.2.2.1 t z).1
          · intro gi' gl' z1 z2 z3
            rw [hd] at z3
            rw [z3]
            refine ⟨gi', gl', rfl, fun a q ha => z1 a q ?_, fun a q ha => z2 a q ?_, rfl, fun B hB => by cases hB⟩
            · unfold rdF at ha; omega
            · unfold rdF at ha; omega
          · intro gi' gl' w' z1 z1' z2 z3 z4
            rw [hd] at z3
            rw [z3]
            refine ⟨gi', gl', rfl, fun a q ha => z1 a q ?_, fun a q ha => z2 a q ?_, rfl, fun B hB => ?_⟩
            · unfold rdF at ha; omega
            · unfold rdF at ha; omega
            · cases hB
              obtain ⟨u, rfl, hu⟩ := addNs_pre _ _ _ z3
              have e5 : (stg ss (k_su k)) ++ ((atg ss k ++ u).drop (stg ss (k_su k)).length) = atg ss k ++ u := by
                unfold atg
                rw [List.append_assoc, List.drop_left]
              obtain ⟨a1, a2, a3, a4, a5, a6, a7, a8, a9, a10, a11, a12, a13⟩ := s6
              have g0 : ∀ q, gi' (25 + 14 * ks.length) q = fi (25 + 14 * ks.length) q := fun q => z1 _ q (by omega)
              refine SCr.last hS hA (fun a q y1 y2 => z1 a q (by omega)) (fun a q y1 => z2 a q (by omega)) ?_ rfl ⟨?_, ?_, (g0 2).trans a3, (g0 3).trans a4, (g0 4).trans a5, (g0 5).trans a6, (g0 6).trans a7, fun r hr => ⟨(g0 7).trans (a8 r hr).1, (g0 8).trans (a8 r hr).2⟩, (g0 10).trans a9, (g0 11).trans a10, ?_, ?_, ?_⟩
              · rw [z1 19 6 (by omega), hS.2.2.2.2.1]
                show nI (totW (ks ++ [k])) = _
                rw [totW_app, totW_app]
                rfl
              · rw [z2 _ _ (by omega)]; exact a1
              · rw [z2 _ _ (by omega)]; exact a2
              · show NRr gi' gl' _ _ (((stg ss (k_su k)) ++ ((atg ss k ++ u).drop (stg ss (k_su k)).length)).map enc)
                rw [e5]
                exact z4
              · exact a12.keep (z1 _ _ (by omega)) (fun q => z2 _ _ (by omega))
              · exact fun p hp => (a13 p hp).keep (z1 _ _ (by omega)) (fun q => z2 _ _ (by omega))
    · (try rw [bI_0] at h2)
      (try rw [Bool.not_eq_false] at h2)
      refine Rn.aload_n k_119 rfl rfl ?_
      refine Rn.getA k_119 rfl rfl (s585 L) (hF.l 10 rfl) ?_
      refine Rn.getA k_119 rfl rfl (s19 L) (hF.l 4 rfl) ?_
      refine Rn.getI k_119 rfl rfl (s21 L) ?_
      rw [s3]
      refine Rn.if_ne 33 k_119 rfl rfl (fun h3 => ?_) (fun h3 => ?_)
      · rw [c_eq 0 0 rfl (by omega) (by decide)] at h3
        obtain ⟨ss, s, ks, rfl⟩ := AOk.noK h2 (fun z => h3 (by rw [z]; rfl))
        have eL : tagL (ss ++ [s], ks, false) (rest.map (wd x)) = tagsW (ss ++ [s], ks, false) (rest.map (wd x)) := by
          unfold tagL
          rw [if_neg]
          rintro (z | z)
          · exact hr z
          · have := z.2
            simp at this
        rw [eL, tagsW_suite]
        have hs := hA.2.1 s (by show s ∈ ss ++ [s]; simp)
        refine Rn.aload_n k_119 rfl rfl ?_
        refine Rn.getA k_119 rfl rfl (s585 L) (hF.l 9 rfl) ?_
        refine Rn.astore_n1 k_119 rfl rfl ?_
        refine Rn.aload_n k_119 rfl rfl ?_
        refine Rn.getI k_119 rfl rfl (s585 L) ?_
        rw [hS.2.2.2.2.2.2.1]
        refine Rn.if_eq 76 k_119 rfl rfl (fun h4 => ?_) (fun h4 => ?_)
        · refine Rn.iconst (1) k_119 rfl rfl ?_
          refine Rn.istore_n2 k_119 rfl rfl ?_
          refine ct_tagLoop hF (s586 L) (s587 L) (hF.l 8 rfl) (by unfold rdF; omega) (by unfold rdF; omega) hw rest.length 1 s.2 fi fl (by omega) (by decide) hS.1 hW (hS.2.2.2.2.2.2.2 s (by show (ss ++ [s]).getLast? = some s; simp)) (fun t ht => okN_okV (hs.2.2.2.2 t ht).1) hs.2.2.1 _ ?_ ?_
          · intro gi' gl' z1 z2 z3
            rw [hd] at z3
            rw [z3]
            refine ⟨gi', gl', rfl, fun a q ha => z1 a q ?_, fun a q ha => z2 a q ?_, rfl, fun B hB => by cases hB⟩
            · unfold rdF at ha; omega
            · unfold rdF at ha; omega
          · intro gi' gl' w' z1 z1' z2 z3 z4
            rw [hd] at z3
            rw [z3]
            refine ⟨gi', gl', rfl, fun a q ha => z1 a q ?_, fun a q ha => z2 a q ?_, rfl, fun B hB => ?_⟩
            · unfold rdF at ha; omega
            · unfold rdF at ha; omega
            · cases hB
              obtain ⟨y1, y2, y3, y4, y5, y6, y7, y8⟩ := hS
              refine ⟨y1.keep (fun k => z1 20 k (by decide)), (z1 19 1 (by decide)).trans y2, ?_, (z1 19 4 (by decide)).trans y4, (z1 19 6 (by decide)).trans y5, fun i hi => ?_, (z1 585 3 (by decide)).trans y7, fun s' hs' => ?_⟩
              · rw [List.map_append] at y3 ⊢
                exact y3.keep (z1 _ _ (by decide)) (fun q => z2 _ _ (by decide))
              · have hi : i < ks.length := hi
                have hk40 : ks.length ≤ 40 := hA.2.2.2.1
                have y6 : CKr fi fl i (ks.getD i dK) (snm (ss ++ [s]) (k_su (ks.getD i dK))) (stg (ss ++ [s]) (k_su (ks.getD i dK))) := y6 i hi
                have hm : ks.getD i dK ∈ ks := by rw [List.getD_eq_getElem?_getD, List.getElem?_eq_getElem hi]; exact List.getElem_mem hi
                have hlt := hA.2.2.2.2.2.2.2 rfl _ hm
                have hlt : (ss ++ [s]).length = 0 ∨ k_su (ks.getD i dK) < (ss ++ [s]).length := hlt
                rw [List.length_append] at hlt
                have hlt : k_su (ks.getD i dK) ≤ ss.length := by
                  rcases hlt with z | z
                  · simp at z
                  · have z : _ < ss.length + 1 := z; omega
                rw [snm_app _ _ hlt, stg_app _ _ hlt] at y6
                show CKr gi' gl' i (ks.getD i dK) (snm (ss ++ [(s.1, w')]) (k_su (ks.getD i dK))) (stg (ss ++ [(s.1, w')]) (k_su (ks.getD i dK)))
                rw [snm_app _ _ hlt, stg_app _ _ hlt]
                exact y6.keep (hA.2.2.2.2.1 _ hm).2.2.2.2.2.2.2.2.1 (fun a q u1 u2 => z1 a q (by omega)) (fun a q u1 u2 => z2 a q (by omega))
              · have : s' = (s.1, w') := by
                  have : (ss ++ [(s.1, w')]).getLast? = some s' := hs'
                  simpa using this.symm
                subst this
                exact z4
        · exact absurd (show bI false = 0 from rfl) h4
      · rw [c_eq 0 0 rfl (by omega) (by decide)] at h3
        refine no ?_
        unfold tagL
        rw [if_pos (Or.inr ⟨h2, List.eq_nil_of_length_eq_zero h3⟩)]
end RD
