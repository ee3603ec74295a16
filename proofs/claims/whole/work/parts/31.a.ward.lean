/-! bits; clothes behind months; the tailor -/
theorem bit_v {x : Int32} {c : Nat} (hc : c < 32) : ((x >>> (nI c &&& 31)) &&& 1) = if bt x c = true then 1 else 0 := by
  apply b_ext
  intro i hi
  have h1 : bt 1 i = decide (i = 0) := (by decide +kernel : ∀ i, i < 32 → bt 1 i = decide (i = 0)) i hi
  rw [b_and, b_sshr c hc x hi, h1]
  by_cases e : i = 0
  · subst e
    rw [Nat.add_zero, if_pos hc]
    by_cases h : bt x c = true
    · rw [if_pos h, h]; rfl
    · rw [if_neg h, b_0, Bool.eq_false_iff.mpr h]; rfl
  · rw [decide_eq_false e, Bool.and_false]
    by_cases h : bt x c = true
    · rw [if_pos h, h1, decide_eq_false e]
    · rw [if_neg h, b_0]
theorem bit_1 {x : Int32} {c : Nat} (hc : c < 32) (h : bt x c = true) : ((x >>> (nI c &&& 31)) &&& 1) = 1 := by rw [bit_v hc, if_pos h]
theorem bit_0 {x : Int32} {c : Nat} (hc : c < 32) (h : bt x c = false) : ((x >>> (nI c &&& 31)) &&& 1) = 0 := by rw [bit_v hc, if_neg (by rw [h]; decide)]
/-- one bit -/
def b1 (c : Nat) : Int32 := (1 : Int32) <<< (nI c &&& 31)
theorem bt_b1 {c i : Nat} (hc : c < 32) (hi : i < 32) : bt (b1 c) i = decide (i = c) := by
  unfold b1
  rw [b_shl c hc 1 hi]
  have h1 : ∀ i, i < 32 → bt 1 i = decide (i = 0) := by decide +kernel
  rcases Nat.lt_trichotomy i c with h | h | h
  · rw [decide_eq_false (show ¬ c ≤ i by omega), decide_eq_false (show ¬ i = c by omega)]; rfl
  · subst h
    rw [Nat.sub_self, decide_eq_true (Nat.le_refl i), decide_eq_true rfl]; rfl
  · rw [h1 _ (by omega), decide_eq_false (show ¬ i - c = 0 by omega), decide_eq_false (show ¬ i = c by omega), Bool.and_false]
def bts (p : Nat → Bool) : Nat → Int32
  | 0 => 0
  | n + 1 => if p n = true then bts p n ||| b1 n else bts p n
theorem bt_bts {p : Nat → Bool} : ∀ {n i : Nat}, n ≤ 31 → i < 32 → bt (bts p n) i = (decide (i < n) && p i)
  | 0, i, _, _ => by rw [bts, b_0, decide_eq_false (Nat.not_lt_zero i)]; rfl
  | n + 1, i, hn, hi => by
    have ih := bt_bts (p := p) (n := n) (i := i) (by omega) hi
    unfold bts
    by_cases h : p n = true
    · rw [if_pos h, b_or, ih, bt_b1 (by omega) hi]
      rcases Nat.lt_trichotomy i n with z | z | z
      · rw [decide_eq_true z, decide_eq_false (show ¬ i = n by omega), decide_eq_true (show i < n + 1 by omega), Bool.or_false]
      · subst z
        rw [decide_eq_true rfl, Bool.or_true, decide_eq_true (Nat.lt_succ_self i), h]; rfl
      · rw [decide_eq_false (show ¬ i < n by omega), decide_eq_false (show ¬ i = n by omega), decide_eq_false (show ¬ i < n + 1 by omega)]; rfl
    · rw [if_neg h, ih]
      rcases Nat.lt_trichotomy i n with z | z | z
      · rw [decide_eq_true z, decide_eq_true (show i < n + 1 by omega)]
      · subst z
        rw [decide_eq_false (Nat.lt_irrefl i), Bool.eq_false_iff.mpr h, Bool.and_false, Bool.and_false]
      · rw [decide_eq_false (show ¬ i < n by omega), decide_eq_false (show ¬ i < n + 1 by omega)]
theorem bts_y {p : Nat → Bool} {n : Nat} (h : p n = true) : bts p (n + 1) = bts p n ||| b1 n := by rw [bts, if_pos h]
theorem bts_n {p : Nat → Bool} {n : Nat} (h : p n = false) : bts p (n + 1) = bts p n := by rw [bts, if_neg (by rw [h]; decide)]
theorem bts_cong {p q : Nat → Bool} : ∀ {n : Nat}, (∀ k, k < n → p k = q k) → bts p n = bts q n
  | 0, _ => rfl
  | n + 1, h => by rw [bts, bts, bts_cong (fun k hk => h k (Nat.lt_succ_of_lt hk)), h n (Nat.lt_succ_self n)]
/-- what a month does -/
abbrev tClo : Type := Nat → Nat → Nat
def eat (st : Nat) : Nat := if st = 0 then 2 else if st = 2 then 1 else 0
def shr (st L : Nat) : Nat := if st = 0 then L / 10 else if st = 2 then L / 20 else 0
def agl (w st L A : Nat) : Nat := if 0 < A ∧ w = 1 then L - shr st L else L
def agb (w st B A : Nat) : Nat := if 0 < A ∧ w = 3 ∧ st = 1 then B - 1 else B
def aga (w st A : Nat) : Nat := if w = 4 then A - eat st else A
def ag (t : tTown) (w : Nat) (q : tClo) : tClo := fun k j => if j = 0 then agl w (cv t k 1) (q k 0) (q k 2) else if j = 1 then agb w (cv t k 1) (q k 1) (q k 2) else aga w (cv t k 1) (q k 2)
def qz (t : tTown) : tClo := fun k j => if j = 0 then cv t k 0 else if j = 1 then cv t k 2 else cv t k 3
def qs (t : tTown) (f : Nat → Nat) : Nat → tClo
  | 0 => qz t
  | m + 1 => ag t (f m) (qs t f m)
def Bq (t : tTown) (q : tClo) : Prop := ∀ k, k < nC t → q k 0 ≤ 99 ∧ q k 1 ≤ 9 ∧ q k 2 ≤ 9
theorem Bq_z {t : tTown} (hw : Wt t) : Bq t (qz t) := by
  intro k hk
  obtain ⟨h1, h2, h3, h4, h5, h6⟩ := hw.2.2.1 k hk
  exact ⟨h2, h4, h6⟩
theorem Bq_ag {t : tTown} {q : tClo} (w : Nat) (h : Bq t q) : Bq t (ag t w q) := by
  intro k hk
  obtain ⟨h1, h2, h3⟩ := h k hk
  refine ⟨?_, ?_, ?_⟩
  · show agl w (cv t k 1) (q k 0) (q k 2) ≤ 99
    unfold agl
    split <;> omega
  · show agb w (cv t k 1) (q k 1) (q k 2) ≤ 9
    unfold agb
    split <;> omega
  · show aga w (cv t k 1) (q k 2) ≤ 9
    unfold aga
    split <;> omega
theorem Bq_s {t : tTown} (hw : Wt t) (f : Nat → Nat) : ∀ m, Bq t (qs t f m)
  | 0 => Bq_z hw
  | m + 1 => Bq_ag _ (Bq_s hw f m)
theorem qs_cong {t : tTown} {f g : Nat → Nat} : ∀ {m : Nat}, (∀ k, k < m → f k = g k) → qs t f m = qs t g m
  | 0, _ => rfl
  | m + 1, h => by rw [qs, qs, qs_cong (fun k hk => h k (Nat.lt_succ_of_lt hk)), h m (Nat.lt_succ_self m)]
def fitq (t : tTown) (q : tClo) (k s : Nat) : Bool := decide (0 < q k 2 ∧ 10 * sv t s 0 ≤ q k 0 ∧ q k 0 ≤ 10 * sv t s 0 + sk t ∧ sv t s 2 ≤ q k 1)
/-- of those that may be, the least large, of like ones the least -/
def bst (p : Nat → Bool) (L : Nat → Nat) : Nat → Option Nat
  | 0 => none
  | c + 1 => if p c = true then (match bst p L c with
    | none => some c
    | some b => if L c < L b then some c else some b) else bst p L c
def oI : Option Nat → Int32
  | none => -1
  | some b => nI b
def oB : Option Nat → Int32
  | none => 0
  | some b => b1 b
theorem bst_lt {p : Nat → Bool} {L : Nat → Nat} : ∀ {c b : Nat}, bst p L c = some b → b < c ∧ p b = true
  | 0, b, h => by rw [bst] at h; cases h
  | c + 1, b, h => by
    have ih := @bst_lt p L c
    unfold bst at h
    by_cases hp : p c = true
    · rw [if_pos hp] at h
      revert h
      cases hb : bst p L c with
      | none =>
        intro h
        have e : c = b := Option.some.inj h
        subst e
        exact ⟨Nat.lt_succ_self c, hp⟩
      | some b' =>
        intro h
        have h' : (if L c < L b' then some c else some b') = some b := h
        by_cases hl : L c < L b'
        · rw [if_pos hl] at h'
          have e : c = b := Option.some.inj h'
          subst e
          exact ⟨Nat.lt_succ_self c, hp⟩
        · rw [if_neg hl] at h'
          have e : b' = b := Option.some.inj h'
          subst e
          exact ⟨Nat.lt_succ_of_lt (ih hb).1, (ih hb).2⟩
    · rw [if_neg hp] at h
      exact ⟨Nat.lt_succ_of_lt (ih h).1, (ih h).2⟩
theorem bst_more {p : Nat → Bool} {L : Nat → Nat} {n : Nat} : ∀ {m : Nat}, (∀ c, n ≤ c → c < n + m → p c = false) → bst p L (n + m) = bst p L n
  | 0, _ => rfl
  | m + 1, h => by
    rw [← Nat.add_assoc, bst, if_neg (by rw [h (n + m) (by omega) (by omega)]; decide)]
    exact bst_more (fun c h1 h2 => h c h1 (by omega))
theorem bst_cong {p q : Nat → Bool} {L M : Nat → Nat} : ∀ {n : Nat}, (∀ c, c < n → p c = q c) → (∀ c, c < n → L c = M c) → bst p L n = bst q M n
  | 0, _, _ => rfl
  | n + 1, h, g => by
    have e := @bst_cong p q L M n (fun c hc => h c (Nat.lt_succ_of_lt hc)) (fun c hc => g c (Nat.lt_succ_of_lt hc))
    unfold bst
    rw [h n (Nat.lt_succ_self n), ← e]
    by_cases hq : q n = true
    · rw [if_pos hq, if_pos hq]
      cases hb : bst p L n with
      | none => rfl
      | some b =>
        show (if L n < L b then some n else some b) = (if M n < M b then some n else some b)
        rw [g n (Nat.lt_succ_self n), g b (Nat.lt_succ_of_lt (bst_lt hb).1)]
    · rw [if_neg hq, if_neg hq]
abbrev tSt : Type := Int32 × (Nat → Int32)
def mayw (t : tTown) (q : tClo) (s : Nat) (u : Int32) (c : Nat) : Bool := fitq t q c s && !bt u c
def choi (t : tTown) (q : tClo) (s : Nat) (u : Int32) : Option Nat := bst (mayw t q s u) (fun c => q c 0) (nC t)
def ds (t : tTown) (q : tClo) (s : Nat) (x : tSt) : tSt := (x.1 ||| oB (choi t q s x.1), fun i => if i = s then oI (choi t q s x.1) else x.2 i)
def lp0 (t : tTown) (q : tClo) (x : tSt) : Nat → tSt
  | 0 => x
  | s + 1 => ds t q s (lp0 t q x s)
def lpq (t : tTown) (q : tClo) (z : Nat) (x : tSt) : Nat → tSt
  | 0 => x
  | s + 1 => if sv t s 0 = z then ds t q s (lpq t q z x s) else lpq t q z x s
def lpz (t : tTown) (q : tClo) (x : tSt) : Nat → tSt
  | 0 => x
  | j + 1 => lpq t q (9 - j) (lpz t q x j) (nS t)
def tlr (t : tTown) (q : tClo) (w : Nat → Int32) : tSt := if wy t = 0 then lp0 t q (0, w) (nS t) else lpz t q (0, w) 9
def worn (t : tTown) (q : tClo) (s : Nat) : Int32 := (tlr t q (fun _ => -1)).2 s
def takn (t : tTown) (q : tClo) : Int32 := (tlr t q (fun _ => -1)).1
/-- what a state shows of those that were visited -/
def Sx (v : Nat → Prop) (x y : tSt) : Prop := x.1 = y.1 ∧ ∀ s, v s → x.2 s = y.2 s
theorem Sx_ds {t : tTown} {q : tClo} {s : Nat} {v : Nat → Prop} {x y : tSt} (h : Sx v x y) : Sx (fun i => i = s ∨ v i) (ds t q s x) (ds t q s y) := by
  refine ⟨?_, fun i hi => ?_⟩
  · show x.1 ||| oB (choi t q s x.1) = y.1 ||| oB (choi t q s y.1)
    rw [h.1]
  · show (if i = s then oI (choi t q s x.1) else x.2 i) = (if i = s then oI (choi t q s y.1) else y.2 i)
    by_cases e : i = s
    · rw [if_pos e, if_pos e, h.1]
    · rw [if_neg e, if_neg e]
      exact h.2 i (hi.resolve_left e)
theorem Sx_0 {t : tTown} {q : tClo} {x y : tSt} (h : x.1 = y.1) : ∀ n, Sx (fun i => i < n) (lp0 t q x n) (lp0 t q y n)
  | 0 => ⟨h, fun s hs => absurd hs (Nat.not_lt_zero s)⟩
  | n + 1 => by
    have := Sx_ds (t := t) (q := q) (s := n) (Sx_0 (t := t) (q := q) h n)
    exact ⟨this.1, fun s hs => this.2 s (by omega)⟩
theorem Sx_1 {t : tTown} {q : tClo} {z : Nat} {v : Nat → Prop} {x y : tSt} (h : Sx v x y) : ∀ n, Sx (fun i => v i ∨ (i < n ∧ sv t i 0 = z)) (lpq t q z x n) (lpq t q z y n)
  | 0 => ⟨h.1, fun s hs => h.2 s (hs.resolve_right (fun z => absurd z.1 (Nat.not_lt_zero s)))⟩
  | n + 1 => by
    have ih := Sx_1 (t := t) (q := q) (z := z) h n
    unfold lpq
    by_cases e : sv t n 0 = z
    · rw [if_pos e, if_pos e]
      have := Sx_ds (t := t) (q := q) (s := n) ih
      refine ⟨this.1, fun s hs => this.2 s ?_⟩
      rcases hs with hs | hs
      · exact Or.inr (Or.inl hs)
      · by_cases e2 : s = n
        · exact Or.inl e2
        · exact Or.inr (Or.inr (by omega))
    · rw [if_neg e, if_neg e]
      refine ⟨ih.1, fun s hs => ih.2 s ?_⟩
      rcases hs with hs | hs
      · exact Or.inl hs
      · refine Or.inr ⟨?_, hs.2⟩
        have : ¬ s = n := fun e2 => e (by rw [← e2]; exact hs.2)
        omega
theorem Sx_z {t : tTown} {q : tClo} {x y : tSt} (h : x.1 = y.1) : ∀ j, j ≤ 9 → Sx (fun i => i < nS t ∧ 9 - j < sv t i 0 ∧ sv t i 0 ≤ 9) (lpz t q x j) (lpz t q y j)
  | 0, _ => ⟨h, fun s hs => absurd hs (by omega)⟩
  | j + 1, hj => by
    have := Sx_1 (t := t) (q := q) (z := 9 - j) (Sx_z (t := t) (q := q) h j (by omega)) (nS t)
    refine ⟨this.1, fun s hs => this.2 s ?_⟩
    by_cases e : sv t s 0 = 9 - j
    · exact Or.inr ⟨hs.1, e⟩
    · exact Or.inl ⟨hs.1, by omega, hs.2.2⟩
theorem tlr_w {t : tTown} (hw : Wt t) (q : tClo) (w : Nat → Int32) : (tlr t q w).1 = takn t q ∧ ∀ s, s < nS t → (tlr t q w).2 s = worn t q s := by
  unfold takn worn tlr
  by_cases e : wy t = 0
  · rw [if_pos e, if_pos e]
    have := Sx_0 (t := t) (q := q) (x := (0, w)) (y := (0, fun _ => -1)) rfl (nS t)
    exact ⟨this.1, fun s hs => this.2 s hs⟩
  · rw [if_neg e, if_neg e]
    have := Sx_z (t := t) (q := q) (x := (0, w)) (y := (0, fun _ => -1)) rfl 9 (by omega)
    refine ⟨this.1, fun s hs => this.2 s ⟨hs, ?_, ?_⟩⟩
    · have := (hw.2.1 s hs).1
      omega
    · exact (hw.2.1 s hs).2.1
