/-! round: numbers alone -/
abbrev tRs : Type := Nat × Nat × Nat × Bool
def adf (a b : Nat) : Nat := if a < b then b - a else a - b
def rstp (P : Nat → Nat) (s T : Nat) (x : tRs) (k : Nat) : tRs := (P k, x.2.1 + adf (P k) x.1 + 1, x.2.2.1 + (x.2.1 + adf (P k) x.1 + 1), x.2.2.2 && decide (¬ k = s ∨ x.2.1 + adf (P k) x.1 + 1 ≤ T))
def rs0 : tRs := (0, 0, 0, true)
abbrev tXr : Type := Option (Nat × List Nat)
def updX (x : tXr) (st : tRs) (pre : List Nat) : tXr := if st.2.2.2 = true then (match x with
  | none => some (st.2.2.1, pre)
  | some p => if st.2.2.1 < p.1 then some (st.2.2.1, pre) else some p) else x
def itr {α : Type} (f : Nat → α → α) : Nat → α → α
  | 0, x => x
  | k + 1, x => f k (itr f k x)
def dfs (P : Nat → Nat) (s T n : Nat) : Nat → Nat → tRs → List Nat → tXr → tXr
  | 0, _, st, pre, x => updX x st pre
  | r + 1, u, st, pre, x => itr (fun k y => if u.testBit k = true then y else dfs P s T n r (u ||| 2 ^ k) (rstp P s T st k) (pre ++ [k]) y) n x
def cmpl (n : Nat) : Nat → Nat → List (List Nat)
  | 0, _ => [[]]
  | r + 1, u => itr (fun k l => l ++ (if u.testBit k = true then [] else (cmpl n r (u ||| 2 ^ k)).map (fun c => k :: c))) n []
theorem dfs_l {P : Nat → Nat} {s T n : Nat} : ∀ r u st pre x, dfs P s T n r u st pre x = (cmpl n r u).foldl (fun y c => updX y (c.foldl (rstp P s T) st) (pre ++ c)) x
  | 0, u, st, pre, x => by
    show updX x st pre = updX x st (pre ++ [])
    rw [List.append_nil]
  | r + 1, u, st, pre, x => by
    have ih := dfs_l (P := P) (s := s) (T := T) (n := n) r
    show itr (fun k y => if u.testBit k = true then y else dfs P s T n r (u ||| 2 ^ k) (rstp P s T st k) (pre ++ [k]) y) n x = (itr (fun k l => l ++ (if u.testBit k = true then [] else (cmpl n r (u ||| 2 ^ k)).map (fun c => k :: c))) n []).foldl _ x
    have L : ∀ m, itr (fun k y => if u.testBit k = true then y else dfs P s T n r (u ||| 2 ^ k) (rstp P s T st k) (pre ++ [k]) y) m x = (itr (fun k l => l ++ (if u.testBit k = true then [] else (cmpl n r (u ||| 2 ^ k)).map (fun c => k :: c))) m []).foldl (fun y c => updX y (c.foldl (rstp P s T) st) (pre ++ c)) x := by
      intro m
      induction m with
      | zero => rfl
      | succ m im =>
        show (if u.testBit m = true then _ else dfs P s T n r (u ||| 2 ^ m) (rstp P s T st m) (pre ++ [m]) (itr _ m x)) = (itr _ m [] ++ (if u.testBit m = true then [] else (cmpl n r (u ||| 2 ^ m)).map (fun c => m :: c))).foldl _ x
        rw [List.foldl_append, ← im]
        by_cases h : u.testBit m = true
        · rw [if_pos h, if_pos h]; rfl
        · rw [if_neg h, if_neg h, ih, List.foldl_map]
          congr 1
          funext y c
          show updX y (c.foldl (rstp P s T) (rstp P s T st m)) (pre ++ [m] ++ c) = updX y (c.foldl (rstp P s T) (rstp P s T st m)) (pre ++ m :: c)
          rw [List.append_assoc]
          rfl
    exact L n
theorem itr_r {α : Type} {F : α → List Nat → α} {g : Nat → List Nat} {x : α} : ∀ N, itr (fun i y => F y (g i)) N x = ((List.range N).map g).foldl F x
  | 0 => rfl
  | N + 1 => by
    show F (itr (fun i y => F y (g i)) N x) (g N) = _
    rw [itr_r N, List.range_succ, List.map_append, List.foldl_append]
    rfl
/-- late ones change nothing -/
theorem itr_id {α : Type} {f : Nat → α → α} {x : α} {n : Nat} (h : ∀ k, k < n → f k x = x) : itr f n x = x := by
  induction n with
  | zero => rfl
  | succ n ih =>
    show f n (itr f n x) = x
    rw [ih (fun k hk => h k (by omega))]
    exact h n (Nat.lt_succ_self n)
theorem dfs_f {P : Nat → Nat} {s T n : Nat} : ∀ r u st pre x, st.2.2.2 = false → dfs P s T n r u st pre x = x
  | 0, u, st, pre, x, h => by
    show updX x st pre = x
    unfold updX
    rw [if_neg (by rw [h]; decide)]
  | r + 1, u, st, pre, x, h => by
    show itr _ n x = x
    refine itr_id (fun k _ => ?_)
    show (if u.testBit k = true then x else dfs P s T n r (u ||| 2 ^ k) (rstp P s T st k) (pre ++ [k]) x) = x
    split
    · rfl
    · refine dfs_f r _ _ _ _ ?_
      show (st.2.2.2 && _) = false
      rw [h, Bool.false_and]
theorem dfs_p {P : Nat → Nat} {s T n : Nat} : ∀ r u st pre b l, b ≤ st.2.2.1 → dfs P s T n r u st pre (some (b, l)) = some (b, l)
  | 0, u, st, pre, b, l, h => by
    show updX (some (b, l)) st pre = some (b, l)
    unfold updX
    split
    · show (if st.2.2.1 < b then _ else some (b, l)) = _
      rw [if_neg (by omega)]
    · rfl
  | r + 1, u, st, pre, b, l, h => by
    show itr _ n (some (b, l)) = some (b, l)
    refine itr_id (fun k _ => ?_)
    show (if u.testBit k = true then some (b, l) else dfs P s T n r (u ||| 2 ^ k) (rstp P s T st k) (pre ++ [k]) (some (b, l))) = some (b, l)
    split
    · rfl
    · refine dfs_p r _ _ _ _ _ ?_
      show b ≤ st.2.2.1 + _
      omega
/-- the reference's rows -/
def rst (code : Nat) : Nat → Nat
  | 0 => code
  | i + 1 => rst code i / (i + 1)
def dgt (n code k : Nat) : Nat := rst code (n - 1 - k) % (n - k)
def bmp (n k : Nat) (f : Nat → Nat) : Nat → Nat := fun j => if k < j ∧ j < n then f j + (if f k ≤ f j then 1 else 0) else f j
def p2u (n : Nat) (f : Nat → Nat) : Nat → Nat → Nat
  | 0 => f
  | i + 1 => bmp n (n - 1 - i) (p2u n f i)
def unf (n code : Nat) : Nat → Nat := p2u n (dgt n code) n
def rowL (n code : Nat) : List Nat := (List.range n).map (unf n code)
def facN : Nat → Nat
  | 0 => 1
  | k + 1 => facN k * (k + 1)
theorem cm_1 : cmpl 1 1 0 = (List.range (facN 1)).map (rowL 1) := by decide +kernel
theorem cm_2 : cmpl 2 2 0 = (List.range (facN 2)).map (rowL 2) := by decide +kernel
theorem cm_3 : cmpl 3 3 0 = (List.range (facN 3)).map (rowL 3) := by decide +kernel
theorem cm_4 : cmpl 4 4 0 = (List.range (facN 4)).map (rowL 4) := by decide +kernel
theorem cm_5 : cmpl 5 5 0 = (List.range (facN 5)).map (rowL 5) := by decide +kernel
theorem cm_6 : cmpl 6 6 0 = (List.range (facN 6)).map (rowL 6) := by decide +kernel
theorem un_lt : ∀ n, n < 7 → ∀ code, code < facN n → ∀ k, k < n → unf n code k < n := by decide +kernel
theorem cm_all {n : Nat} (h0 : 1 ≤ n) (h6 : n ≤ 6) : cmpl n n 0 = (List.range (facN n)).map (rowL n) := by
  rcases (by omega : n = 1 ∨ n = 2 ∨ n = 3 ∨ n = 4 ∨ n = 5 ∨ n = 6) with e | e | e | e | e | e
  · subst e; exact cm_1
  · subst e; exact cm_2
  · subst e; exact cm_3
  · subst e; exact cm_4
  · subst e; exact cm_5
  · subst e; exact cm_6
def refX (P : Nat → Nat) (s T n N : Nat) : tXr := itr (fun code y => updX y ((rowL n code).foldl (rstp P s T) rs0) (rowL n code)) N none
theorem refX_dfs {P : Nat → Nat} {s T n : Nat} (h0 : 1 ≤ n) (h6 : n ≤ 6) : refX P s T n (facN n) = dfs P s T n n 0 rs0 [] none := by
  rw [dfs_l, cm_all h0 h6]
  unfold refX
  exact itr_r (F := fun y c => updX y (c.foldl (rstp P s T) rs0) c) (g := rowL n) (facN n)
/-- bounds behind k stops -/
def Bst (k : Nat) (st : tRs) : Prop := st.1 ≤ 9 ∧ st.2.1 ≤ 10 * k ∧ st.2.2.1 ≤ 60 * k
theorem adf_le {a b : Nat} (ha : a ≤ 9) (hb : b ≤ 9) : adf a b ≤ 9 := by
  unfold adf
  split <;> omega
theorem Bst_s {P : Nat → Nat} {s T k j : Nat} {st : tRs} (hk : k < 6) (hP : P j ≤ 9) (h : Bst k st) : Bst (k + 1) (rstp P s T st j) := by
  obtain ⟨h1, h2, h3⟩ := h
  have := adf_le hP h1
  refine ⟨hP, ?_, ?_⟩
  · show st.2.1 + adf (P j) st.1 + 1 ≤ _
    omega
  · show st.2.2.1 + (st.2.1 + adf (P j) st.1 + 1) ≤ _
    omega
def rouV (t : tTown) (s T : Nat) (c : Int32) : Int32 := match dfs (fun k => sv t k 1) s T (min 6 (nS t)) (min 6 (nS t)) 0 rs0 [] none with
  | none => -1
  | some p => if c = -1 then nI p.1 else if c.toInt < (min 6 (nS t) : Nat) then nI (p.2.getD c.toInt.toNat 0) else -1
