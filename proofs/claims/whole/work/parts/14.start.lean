/-! THE LAW'S START in the small machine: the script, the seven string constants and their bytes; whole_start out of a run of the small machine -/
def sn_ix : List Nat := [76, 85, 90, 102, 108, 113, 117]
def sn_len : List Nat := [5, 4, 3, 4, 4, 4, 5]
def sn_byt : List (List Int32) := [[115, 117, 105, 116, 101], [99, 97, 115, 101], [116, 97, 103], [119, 105, 116, 104], [115, 105, 122, 101], [115, 107, 105, 112], [102, 97, 105, 108, 115]]
def SH0 (L : Nat) : List (Nat × Nat) := [(900, L), (901, 0), (901, 0), (901, 0), (901, 0), (901, 0), (901, 0), (901, 0), (902, 5), (902, 4), (902, 3), (902, 4), (902, 4), (902, 4), (902, 5), (999, 0)]
def FI0 (xs : Nat → Int32) : Nat → Nat → Int32 := fun i j => if i = 0 then xs j else if 8 ≤ i ∧ i < 15 then (sn_byt.getD (i - 8) []).getD j 0 else 0
def FR0 : Nat → Nat → Option Nat := fun i j => if 1 ≤ i ∧ i ≤ 7 ∧ j = 0 then some (i + 7) else none
def AH0 (L : Nat) (xs : Nat → Int32) : am_H := (SH0 L, FI0 xs, fun _ _ => 0, FR0)
def sn_tm (i : Nat) : Term := .string "TestFinder$ScriptReader" (sn_ix.getD i 0)
def sn_ad (b : Nat) (adK adV : Nat → Nat) (z : Nat) (i : Nat) : Nat := if i = 0 then b else if i < 8 then adK (i - 1) else if i < 15 then adV (i - 8) else z
def law_good : Prop := ∀ (L : Nat) (xs : Nat → Int32), L ≤ 1536 → Rn 1000 0 0 [some (.ref 0), none, none, none] [] (AH0 L xs) (fun v h' => v = some (.int 1) ∧ h'.1.length ≤ 600016 ∧ am_tot h'.1 ≤ 7302250 + am_tot (SH0 L))
/-! THE CLAIM OUT OF ONE WALK OF THE LAW'S BODY. Your part is whole_start (and what it stands on); all else here is the same for every law, but numbers. -/
def R_law : String := "TestFinderLaw"
def lw_P (b : Addr) (xs : List Int32) (args : Array Value) (s : State) : Prop := args = #[.ref b] ∧ s.IntsAt b xs ∧ xs.length ≤ 1536 ∧ (Jvm.Cond.and given_1 narrow_1).before args s = true
def lw_Q (_ : Array Value) (s : State) (o : Outcome) (t : State) : Prop := o = .returned (some (.int 1)) ∧ Framed s o t [] 600000 7302250
def lw_Z (below : List Frame) (a : Array Value) (s : State) : State → Prop := fun t => ∃ o, t.status = .running ∧ Ended t below o ∧ lw_Q a s o t
/-- the law's own end, with 1 on the stack, nothing written that was there before, its room as the claim has it -/
theorem lw_ret {p : Program} {l : Launch} {e : Env} {s : State} {m : MethodId} {below : List Frame} {meth : Method} {c : Code} {b : Nat} (hx : p.tables.exec = Jvm.exec) (hb : c.code = code) (hr : meth.sig.returnType = ret) (hlocks : meth.locks = false) {pc : Nat} {H : Heap} {ls : Array Slot} (hdg : decode code pc = .ok (.ireturn, 1)) : W p l e room_1 s m #[Value.ref b] below meth c H [] 600000 7302250 (lw_Z below #[Value.ref b] s) (F0 m pc ls [.int 1]) := by
  intro T hT X
  obtain ⟨fs, hret, hrun, hended, hW, hframe⟩ := X.leave (v := some (.int 1)) (hlocks := hlocks) (fun h => by rw [hr] at h; cases h)
  have hmeth' : T.vm.method? m = some meth := X.method'
  refine ⟨T.setFrames fs, ?_, .returned (some (.int 1)), hrun, hended, rfl, ⟨_, rfl⟩, hW, hframe⟩
  jvm_step X.here [X.here.top, hx, hb, hdg, hmeth', hr, ret, narrow_b1]
  (try refine ⟨rfl, ?_⟩); (try refine ⟨rfl, ?_⟩)
  first | (intro acts; rw [hret _ acts rfl rfl rfl]) | rw [hret _ _ rfl rfl rfl]
  exact Steps.refl _
/-- what holds at the law's entry: the machine, the code, the tables' words (any of lw_tbl by 'hts w (by decide +kernel)'), the script of L ints xs at the cell b, what the Statement gives of the start (any of its parts by flat_of_before) -/
def lw_At (p : Program) (s : State) (m : MethodId) (meth : Method) (c : Code) (b L : Nat) (xs : Nat → Int32) : Prop :=
  p.tables.exec = Jvm.exec ∧ c.code = code ∧ meth.sig.returnType = ret ∧ c.maxLocals = 4 ∧ s.vm.findClass R_law = some m.cls ∧ (∀ w ∈ lw_tbl, w.before #[Value.ref b] s = true) ∧ va_X b L xs s s.heap ∧ b < s.heap.size ∧ meth.locks = false ∧ (Jvm.Cond.and given_1 narrow_1).before #[Value.ref b] s = true

theorem sn_words {w : Cond} (h : w ∈ am_ws) : w ∈ lw_tbl := (List.mem_filter.mp h).1
set_option maxHeartbeats 4000000 in
set_option maxRecDepth 100000 in
theorem whole_start_open (HL : law_good) {p : Program} {e : Env} {s : State} {m : MethodId} {below : List Frame} {meth : Method} {c : Code} (l : Launch) {b L : Nat} {xs : Nat → Int32} (hL : L ≤ 1536) (C0 : lw_At p s m meth c b L xs) : W p l e room_1 s m #[Value.ref b] below meth c s.heap [] 0 0 (lw_Z below #[Value.ref b] s) (entryFrame m ([Value.ref b] : List Value).toArray 4) := by
  obtain ⟨hx, hb, hr, hml, hown, hts, hX, hbl, hlocks, hgv⟩ := C0
  have hA : ∀ a : Nat, a < s.heap.size → ¬ (fun q : Nat => s.heap.size ≤ q) a := fun a h => Nat.not_le.mpr h
  have hg := flat_of_before _ hgv
  -- the classes
  have hcls : ∀ ci : Nat, ∃ q : ClassId × (Nat → Nat), ∀ r : vw_C, vwCl[ci]? = some r → u_Kn s r.1 r.2.1 r.2.2 q.1 q.2 := by
    intro ci
    cases hr1 : vwCl[ci]? with
    | none => exact ⟨(0, fun _ => 0), fun r h => by cases h⟩
    | some r =>
      have hok := ck_cl ci r hr1
      obtain ⟨cC, iS, hk⟩ := u_known (C := r.1) (T := r.2.1) (N := r.2.2) (n := r.2.2) hts (fun w hw => sn_words (hok.1 w hw)) (hts _ (sn_words hok.2.2.2.1))
      exact ⟨(cC, iS), fun r' h' => by cases h'; exact hk⟩
  obtain ⟨dd, hdd⟩ := Classical.axiomOfChoice hcls
  have hK : va_K (fun k => (dd k).1, fun k => (dd k).2) vwCl [] s := ⟨fun k r h => hdd k r h, fun k q h => by simp at h⟩
  -- the strings
  obtain ⟨adK, adV, hS, hSa⟩ := vk_Sof (args := #[Value.ref b]) (s := s) (N := 7) (tm := sn_tm) (len := sn_len) (byt := sn_byt) (A := fun q : Nat => s.heap.size ≤ q) (by decide)
    (fun i hi => hg _ (by
      have : ∀ i, i < 7 → (Cond.exactly (sn_tm i) "java/lang/String") ∈ flatC (Jvm.Cond.and given_1 narrow_1) := by decide +kernel
      exact this i hi))
    (fun i hi => hg _ (by
      have : ∀ i, i < 7 → (Cond.eq (.field (sn_tm i) "java/lang/String" "coder" "B") (.int 0)) ∈ flatC (Jvm.Cond.and given_1 narrow_1) := by decide +kernel
      exact this i hi))
    (fun i hi => hg _ (by
      have : ∀ i, i < 7 → (Cond.arrayOf (.field (sn_tm i) "java/lang/String" "value" "[B") .byte) ∈ flatC (Jvm.Cond.and given_1 narrow_1) := by decide +kernel
      exact this i hi))
    (fun i hi => hg _ (by
      have : ∀ i, i < 7 → (Cond.eq (.length (.field (sn_tm i) "java/lang/String" "value" "[B")) (.int (Int32.ofNat (sn_len.getD i 0)))) ∈ flatC (Jvm.Cond.and given_1 narrow_1) := by decide +kernel
      exact this i hi))
    (fun i hi j hj => hg _ (by
      have : ∀ i, i < 7 → ∀ j, j < sn_len.getD i 0 → (Cond.eq (.elem (.field (sn_tm i) "java/lang/String" "value" "[B") (.int (Int32.ofNat j))) (.int ((sn_byt.getD i []).getD j 0))) ∈ flatC (Jvm.Cond.and given_1 narrow_1) := by decide +kernel
      exact this i hi j hj))
    (fun i j hi hj hne => by
      have : ∀ i, i < 7 → ∀ j, j < 7 → i ≠ j → (Cond.not (Cond.eq (sn_tm i) (sn_tm j))) ∈ flatC (Jvm.Cond.and given_1 narrow_1) ∨ (Cond.not (Cond.eq (sn_tm j) (sn_tm i))) ∈ flatC (Jvm.Cond.and given_1 narrow_1) := by decide +kernel
      exact (this i hi j hj hne).imp (fun h => hg _ h) (fun h => hg _ h)) hA
  -- the statics
  have hZ1 : va_Z "java/lang/String" "COMPACT_STRINGS" "Z" (.int (nI 1)) (fun q : Nat => s.heap.size ≤ q) s s.heap := va_Zof (args := #[Value.ref b]) (hts _ (by decide +kernel)) (hts _ (by decide +kernel)) (va_eqt (z := 1) (hg _ (by decide +kernel))) hA
  have hZ2 : va_Zq "jdk/internal/util/Preconditions" "SIOOBE_FORMATTER" "Ljava/util/function/BiFunction;" (fun q : Nat => s.heap.size ≤ q) s s.heap := va_Zqof (args := #[Value.ref b]) (hts _ (by decide +kernel)) (hts _ (by decide +kernel)) (hg _ (by decide +kernel)) hA
  obtain ⟨z, hz⟩ : ∃ z : Nat, va_Z "jdk/internal/util/Preconditions" "SIOOBE_FORMATTER" "Ljava/util/function/BiFunction;" (match z with
    | 0 => Value.null
    | t + 1 => .ref t) (fun q : Nat => s.heap.size ≤ q) s s.heap := by
    rcases hZ2 with h | ⟨t, h⟩
    · exact ⟨0, h⟩
    · exact ⟨t + 1, h⟩
  have hB : sm_B s (sn_ad b adK adV z) := by
    refine ⟨hZ1, hz, ?_, fun own idx y host h => va_Nw.of rfl (hts _ h), fun C h => va_AO.of (hts _ h)⟩
    have hk : ∀ i, i < 7 → vk_R "TestFinder$ScriptReader" (sn_ix.getD i 0) (["suite", "case", "tag", "with", "size", "skip", "fails"].getD i "") (adK i) s := by
      intro i hi
      refine vk_R.of (hts _ ?_) (hSa i hi)
      have : ∀ i, i < 7 → Cond.stringRef "TestFinder$ScriptReader" (sn_ix.getD i 0) (["suite", "case", "tag", "with", "size", "skip", "fails"].getD i "") ∈ lw_tbl := by decide +kernel
      exact this i hi
    intro q hq
    simp only [at_str, List.mem_cons, List.not_mem_nil, or_false] at hq
    rcases hq with rfl | rfl | rfl | rfl | rfl | rfl | rfl
    · exact hk 0 (by decide)
    · exact hk 1 (by decide)
    · exact hk 2 (by decide)
    · exact hk 3 (by decide)
    · exact hk 4 (by decide)
    · exact hk 5 (by decide)
    · exact hk 6 (by decide)
  -- the heap
  have hR : sm_HR s (fun k => (dd k).1, fun k => (dd k).2) (sn_ad b adK adV z) (AH0 L xs) s.heap := by
    have str : ∀ i : Nat, 1 ≤ i → i < 8 → ∀ len, sm_CR s (fun k => (dd k).1, fun k => (dd k).2) (sm_g s (sn_ad b adK adV z)) (AH0 L xs) s.heap i 901 len := by
      intro i h1 h2 len
      obtain ⟨q1, q2, q3, q4⟩ := hS.1 (i - 1) (by omega)
      have e1 : sm_g s (sn_ad b adK adV z) i = adK (i - 1) := by
        unfold sm_g sn_ad
        rw [if_pos (by omega), if_neg (by omega), if_pos h2]
      have e2 : sm_g s (sn_ad b adK adV z) (i + 7) = adV (i - 1) := by
        unfold sm_g sn_ad
        rw [if_pos (by omega), if_neg (by omega), if_neg (by omega), if_pos (by omega)]
        congr 1
      refine ⟨fun q => by omega, fun ty q1 q2 => by omega, fun q => by omega, fun _ => ⟨by rw [e1]; exact q1, ?_, i + 7, ?_, ?_⟩, fun q => by omega⟩
      · rw [e1]
        have : (AH0 L xs).2.1 i 1 = 0 := by
          show FI0 xs i 1 = 0
          unfold FI0
          rw [if_neg (by omega), if_neg (by omega)]
        rw [this]
        exact q2
      · show FR0 i 0 = some (i + 7)
        unfold FR0
        rw [if_pos ⟨h1, by omega, rfl⟩]
      · rw [e1, e2]
        exact q3
    have byt : ∀ i : Nat, i < 7 → sm_CR s (fun k => (dd k).1, fun k => (dd k).2) (sm_g s (sn_ad b adK adV z)) (AH0 L xs) s.heap (i + 8) 902 (sn_len.getD i 0) := by
      intro i hi
      obtain ⟨-, -, -, q4⟩ := hS.1 i hi
      have e2 : sm_g s (sn_ad b adK adV z) (i + 8) = adV i := by
        unfold sm_g sn_ad
        rw [if_pos (by omega), if_neg (by omega), if_neg (by omega), if_pos (by omega)]
        congr 1
      refine ⟨fun q => by omega, fun ty q1 q2 => by omega, fun q => by omega, fun q => by omega, fun _ => ?_⟩
      rw [e2]
      have e3 : (fun j => Value.int ((AH0 L xs).2.1 (i + 8) j)) = fun j => Value.int ((sn_byt.getD i []).getD j 0) := by
        funext j
        show Value.int (FI0 xs (i + 8) j) = _
        unfold FI0
        rw [if_neg (by omega), if_pos (by omega)]
        congr 1
      rw [e3]
      exact q4
    refine ⟨Nat.le_refl 16, by show _ + 16 = _ + 16; rfl, fun _ _ => rfl, fun i tag len hi he => ?_, fun i tag len he => ?_⟩
    · match i, he with
      | 0, he => cases he; exact Nat.le_refl _
      | 1, he => cases he; decide
      | 2, he => cases he; decide
      | 3, he => cases he; decide
      | 4, he => cases he; decide
      | 5, he => cases he; decide
      | 6, he => cases he; decide
      | 7, he => cases he; decide
      | 8, he => cases he; decide
      | 9, he => cases he; decide
      | 10, he => cases he; decide
      | 11, he => cases he; decide
      | 12, he => cases he; decide
      | 13, he => cases he; decide
      | 14, he => cases he; decide
      | 15, he => cases he; decide
      | k + 16, he => omega
    · match i, he with
      | 0, he =>
        cases he
        refine ⟨fun q => by omega, fun ty q1 q2 => by omega, fun _ => ?_, fun q => by omega, fun q => by omega⟩
        exact hX
      | 1, he => cases he; exact str 1 (by decide) (by decide) _
      | 2, he => cases he; exact str 2 (by decide) (by decide) _
      | 3, he => cases he; exact str 3 (by decide) (by decide) _
      | 4, he => cases he; exact str 4 (by decide) (by decide) _
      | 5, he => cases he; exact str 5 (by decide) (by decide) _
      | 6, he => cases he; exact str 6 (by decide) (by decide) _
      | 7, he => cases he; exact str 7 (by decide) (by decide) _
      | 8, he => cases he; exact byt 0 (by decide)
      | 9, he => cases he; exact byt 1 (by decide)
      | 10, he => cases he; exact byt 2 (by decide)
      | 11, he => cases he; exact byt 3 (by decide)
      | 12, he => cases he; exact byt 4 (by decide)
      | 13, he => cases he; exact byt 5 (by decide)
      | 14, he => cases he; exact byt 6 (by decide)
      | 15, he => cases he; exact ⟨fun q => by omega, fun ty q1 q2 => by omega, fun q => by omega, fun q => by omega, fun q => by omega⟩
      | k + 16, he => simp [AH0, SH0] at he
  obtain ⟨n, v, h', hrun, rfl, hb1, hb2⟩ := HL L xs hL
  have hXX : sm_X s (fun k => (dd k).1, fun k => (dd k).2) p room_1 s m #[Value.ref b] meth c 1000 mt_0 := ⟨hx, hb, hml, hown, fun q => absurd q (by decide), fun w hw => hts w (sn_words hw), State.WarmedH.refl s, hK, by decide, by decide⟩
  have M := sm_main (adS := sn_ad b adK adV z) hB ck_cl ck_all cw_all hK n 1000 0 0 _ [] (AH0 L xs) _ h' hrun (lau := l) (e := e) (below := below) (Q := lw_Z below #[Value.ref b] s) (n0 := 16) (t0 := am_tot (SH0 L)) rfl hXX (by show _ ≤ 600000 + 16; omega) (by show _ ≤ 7302250 + _; omega) (by
    intro pc2 l2 st2 i2 hret hdg2 H2 locs2 ls2 cells2 slots2 hR2 hlo2 hL2 hcc2 htt2
    refine va_forget hlo2 ?_
    refine W.widen (k := 600000) (n := 7302250) (by omega) (by omega) ?_
    unfold am_ret at hret
    (try dsimp only at hret)
    split at hret
    · cases hret
    · rename_i q hq
      split at hret
      · split at hret
        · cases hret
          exact lw_ret hx hb hr hlocks hdg2
        · cases hret
      · cases hret
      · cases hret
      · cases hret
      · cases hret
      · cases hret)
  rw [lg_entry_eq]
  have hl := sm_entry (g := sm_g s (sn_ad b adK adV z)) (n := 4) (vs := [.ref 0]) (by decide)
  have e0 : ([Value.ref 0].map (sm_v (sm_g s (sn_ad b adK adV z)))) = [Value.ref b] := by
    show [Value.ref (sm_g s (sn_ad b adK adV z) 0)] = _
    unfold sm_g sn_ad
    rw [if_pos (by decide), if_pos rfl]
  rw [e0] at hl
  exact M s.heap [] _ 0 0 hR (fun _ h => by cases h) hl rfl (Nat.zero_add _)
