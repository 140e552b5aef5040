/-! WHAT A SCRIPT SAYS, in numbers and lists: the middle to which the class and the reference are both tied -/
abbrev Nm : Type := List Nat
/-- a case: how many suites stand before it (0: it is in none, else its suite is the last of them), name, line, size (0: not said), reason (from, end), expected to fail, its own tags, parameters with values -/
abbrev KS : Type := Nat × Nm × Nat × Nat × Option (Nat × Nat) × Bool × List Nm × List (Nm × List Nm)
def k_su (k : KS) : Nat := k.1
def k_nm (k : KS) : Nm := k.2.1
def k_ln (k : KS) : Nat := k.2.2.1
def k_sz (k : KS) : Nat := k.2.2.2.1
def k_rs (k : KS) : Option (Nat × Nat) := k.2.2.2.2.1
def k_fl (k : KS) : Bool := k.2.2.2.2.2.1
def k_tg (k : KS) : List Nm := k.2.2.2.2.2.2.1
def k_ps (k : KS) : List (Nm × List Nm) := k.2.2.2.2.2.2.2
def ways (ps : List (Nm × List Nm)) : Nat := ps.foldl (fun a p => a * p.2.length) 1
theorem ways_app (ps : List (Nm × List Nm)) (p : Nm × List Nm) : ways (ps ++ [p]) = ways ps * p.2.length := by unfold ways; rw [List.foldl_append]; rfl
/-- suites with their tags, cases, whether a case is open -/
abbrev AS : Type := List (Nm × List Nm) × List KS × Bool
def totW (ks : List KS) : Nat := (ks.map (fun k => ways (k_ps k))).sum
/-- the tags of the suite behind which a case stands -/
def stg (ss : List (Nm × List Nm)) (su : Nat) : List Nm := match su with
  | 0 => []
  | s + 1 => (ss.getD s ([], [])).2
def snm (ss : List (Nm × List Nm)) (su : Nat) : Nm := match su with
  | 0 => []
  | s + 1 => (ss.getD s ([], [])).1
def atg (ss : List (Nm × List Nm)) (k : KS) : List Nm := stg ss (k_su k) ++ k_tg k
/-- one more tag: of the open case, or of the last suite -/
def tagW (A : AS) (t : Nm) : Option AS :=
  if okN t = false then none else
  if A.2.2 = true then
    match A.2.1.getLast? with
    | none => none
    | some k => if t ∈ atg A.1 k ∨ 8 ≤ (atg A.1 k).length then none else
      some (A.1, A.2.1.dropLast ++ [(k_su k, k_nm k, k_ln k, k_sz k, k_rs k, k_fl k, k_tg k ++ [t], k_ps k)], A.2.2)
  else
    match A.1.getLast? with
    | none => none
    | some s => if t ∈ s.2 ∨ 8 ≤ s.2.length then none else some (A.1.dropLast ++ [(s.1, s.2 ++ [t])], A.2.1, A.2.2)
def tagsW (A : AS) : List Nm → Option AS
  | [] => some A
  | t :: ts => match tagW A t with
    | none => none
    | some B => tagsW B ts
/-- the values of a parameter: right, and each once -/
def valsOk : List Nm → List Nm → Bool
  | _, [] => true
  | acc, v :: vs => okV v && decide (v ∉ acc) && valsOk (acc ++ [v]) vs
def onLast (A : AS) (f : KS → Option KS) : Option AS := if A.2.2 = true then
    match A.2.1.getLast? with
    | none => none
    | some k => match f k with
      | none => none
      | some k' => some (A.1, A.2.1.dropLast ++ [k'], A.2.2)
  else none
/-- a line, by its words (the text x): none if it is ill -/
def lineW (x : Nat → Nat) (A : AS) (line : Nat) (ws : List (Nat × Nat)) : Option AS := match ws with
  | [] => some A
  | w0 :: rest => if x w0.1 = 35 then some A else
    let key := wd x w0
    let ts := rest.map (wd x)
    if key = [115, 117, 105, 116, 101] then
      match ts with
      | [t] => if okN t = true ∧ A.1.length < 10 ∧ t ∉ A.1.map (·.1) then some (A.1 ++ [(t, [])], A.2.1, false) else none
      | _ => none
    else if key = [99, 97, 115, 101] then
      match ts with
      | [t] => if okN t = true ∧ A.2.1.length < 40 ∧ totW A.2.1 < 120 ∧ (∀ k ∈ A.2.1, ¬ (k_su k = A.1.length ∧ k_nm k = t)) then some (A.1, A.2.1 ++ [(A.1.length, t, line, 0, none, false, [], [])], true) else none
      | _ => none
    else if key = [116, 97, 103] then
      if ts = [] ∨ (A.2.2 = false ∧ A.1 = []) then none else tagsW A ts
    else if key = [119, 105, 116, 104] then
      match ts with
      | t :: vs => if okN t = true ∧ 1 ≤ vs.length ∧ vs.length ≤ 6 ∧ valsOk [] vs = true then
          match onLast A (fun k => if (k_ps k).length < 4 ∧ t ∉ (k_ps k).map (·.1) ∧ ways (k_ps k) * vs.length ≤ 24 then some (k_su k, k_nm k, k_ln k, k_sz k, k_rs k, k_fl k, k_tg k, k_ps k ++ [(t, vs)]) else none) with
          | none => none
          | some B => if totW B.2.1 ≤ 120 then some B else none
        else none
      | [] => none
    else if key = [115, 105, 122, 101] then
      match rest with
      | [w] => if wnum x w = 0 then none else onLast A (fun k => if k_sz k = 0 then some (k_su k, k_nm k, k_ln k, wnum x w, k_rs k, k_fl k, k_tg k, k_ps k) else none)
      | _ => none
    else if key = [115, 107, 105, 112] then
      match rest with
      | [] => none
      | w :: _ => onLast A (fun k => if k_rs k = none then some (k_su k, k_nm k, k_ln k, k_sz k, some (w.1, (ws.getLastD (0, 0)).2), k_fl k, k_tg k, k_ps k) else none)
    else if key = [102, 97, 105, 108, 115] then
      if rest = [] then onLast A (fun k => if k_fl k = false then some (k_su k, k_nm k, k_ln k, k_sz k, k_rs k, true, k_tg k, k_ps k) else none) else none
    else none
/-- where the line that begins at i ends, k characters being left -/
def eol (x : Nat → Nat) : Nat → Nat → Nat
  | 0, i => i
  | k + 1, i => if x i = 10 then i else eol x k (i + 1)
theorem eol_ge (x : Nat → Nat) : ∀ k i, i ≤ eol x k i ∧ eol x k i ≤ i + k := by
  intro k
  induction k with
  | zero => intro i; exact ⟨Nat.le_refl _, Nat.le_refl _⟩
  | succ k ih =>
    intro i
    unfold eol
    split
    · exact ⟨Nat.le_refl _, by omega⟩
    · have := ih (i + 1); omega
/-- the lines from i on: what all say, or the first that is ill -/
def linesW (x : Nat → Nat) (n : Nat) : Nat → AS → Nat → Nat → AS ⊕ Nat
  | 0, A, _, _ => .inl A
  | f + 1, A, line, i => if n ≤ i then .inl A else
    match lineW x A line (cutW x i (eol x (n - i) i)) with
    | none => .inr line
    | some B => linesW x n f B (line + 1) (eol x (n - i) i + 1)
/-- what is held of all names, numbers and places -/
def KOk (ss : List (Nm × List Nm)) (n : Nat) (k : KS) : Prop := k_su k ≤ ss.length ∧ okN (k_nm k) = true ∧ k_nm k ≠ [] ∧ k_sz k ≤ 9 ∧ (∀ r, k_rs k = some r → r.1 < r.2 ∧ r.2 ≤ n) ∧ (∀ t ∈ k_tg k, okN t = true ∧ t ≠ []) ∧ (atg ss k).length ≤ 8 ∧ (atg ss k).Nodup ∧ (k_ps k).length ≤ 4 ∧ (∀ p ∈ k_ps k, okN p.1 = true ∧ p.1 ≠ [] ∧ 1 ≤ p.2.length ∧ p.2.length ≤ 6 ∧ (∀ v ∈ p.2, okV v = true ∧ v ≠ []) ∧ p.2.Nodup) ∧ ((k_ps k).map (·.1)).Nodup ∧ ways (k_ps k) ≤ 24
def AOk (n : Nat) (A : AS) : Prop := A.1.length ≤ 10 ∧ (∀ s ∈ A.1, okN s.1 = true ∧ s.1 ≠ [] ∧ s.2.length ≤ 8 ∧ s.2.Nodup ∧ ∀ t ∈ s.2, okN t = true ∧ t ≠ []) ∧ (A.1.map (·.1)).Nodup ∧ A.2.1.length ≤ 40 ∧ (∀ k ∈ A.2.1, KOk A.1 n k) ∧ totW A.2.1 ≤ 120 ∧ (A.2.2 = true → A.2.1 ≠ [] ∧ ∀ k, A.2.1.getLast? = some k → k_su k = A.1.length) ∧ (A.2.2 = false → ∀ k ∈ A.2.1, A.1.length = 0 ∨ k_su k < A.1.length)
