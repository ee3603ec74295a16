/-! moths: numbers alone -/
def Wm (c : Nat) : Nat → Nat → Nat
  | 0, 0 => 1
  | 0, _ + 1 => 0
  | T + 1, 0 => Wm c T 0 * (16 - c)
  | T + 1, j + 1 => Wm c T (j + 1) * (16 - c) + Wm c T j * c
def bn : Nat → Nat → Nat
  | _, 0 => 1
  | 0, _ + 1 => 0
  | T + 1, j + 1 => bn T j + bn T (j + 1)
theorem bn_T0 (T : Nat) : bn T 0 = 1 := by cases T <;> rfl
theorem bn_0 : ∀ T j, T < j → bn T j = 0
  | 0, j + 1, _ => rfl
  | T + 1, j + 1, h => by
    show bn T j + bn T (j + 1) = 0
    rw [bn_0 T j (by omega), bn_0 T (j + 1) (by omega)]
theorem Wm_0 {c : Nat} : ∀ T j, T < j → Wm c T j = 0
  | 0, j + 1, _ => rfl
  | T + 1, j + 1, h => by
    show Wm c T (j + 1) * (16 - c) + Wm c T j * c = 0
    rw [Wm_0 T j (by omega), Wm_0 T (j + 1) (by omega), Nat.zero_mul, Nat.zero_mul]
def wgt (c j : Nat) : Nat → Nat
  | 0 => 1
  | i + 1 => wgt c j i * (if i < j then c else 16 - c)
theorem wgt_c {c j : Nat} : ∀ i, wgt c j i = c ^ (min i j) * (16 - c) ^ (i - j)
  | 0 => by rw [Nat.zero_min, Nat.zero_sub]; rfl
  | i + 1 => by
    show wgt c j i * (if i < j then c else 16 - c) = _
    rw [wgt_c i]
    by_cases h : i < j
    · rw [if_pos h, Nat.min_eq_left (by omega), Nat.min_eq_left (by omega), show i - j = 0 by omega, show i + 1 - j = 0 by omega, Nat.pow_succ, Nat.pow_zero, Nat.mul_one, Nat.mul_one]
    · rw [if_neg h, Nat.min_eq_right (by omega), Nat.min_eq_right (by omega), show i + 1 - j = (i - j) + 1 by omega, Nat.pow_succ, Nat.mul_assoc]
theorem Wm_b {c : Nat} : ∀ T j, j ≤ T → Wm c T j = bn T j * (c ^ j * (16 - c) ^ (T - j))
  | 0, 0, _ => rfl
  | T + 1, 0, _ => by
    show Wm c T 0 * (16 - c) = 1 * (c ^ 0 * (16 - c) ^ (T + 1 - 0))
    rw [Wm_b T 0 (Nat.zero_le _), bn_T0, Nat.one_mul, Nat.one_mul, Nat.pow_zero, Nat.one_mul, Nat.one_mul, Nat.sub_zero, Nat.sub_zero, Nat.pow_succ]
  | T + 1, j + 1, h => by
    show Wm c T (j + 1) * (16 - c) + Wm c T j * c = (bn T j + bn T (j + 1)) * (c ^ (j + 1) * (16 - c) ^ (T + 1 - (j + 1)))
    rw [Wm_b T j (by omega), show T + 1 - (j + 1) = T - j by omega, Nat.add_mul, Nat.pow_succ]
    by_cases hj : j + 1 ≤ T
    · rw [Wm_b T (j + 1) hj, show T - j = (T - (j + 1)) + 1 by omega, Nat.pow_succ, Nat.pow_succ, Nat.add_comm]
      congr 1 <;> ac_rfl
    · rw [Wm_0 T (j + 1) (by omega), bn_0 T (j + 1) (by omega), Nat.zero_mul, Nat.zero_mul, Nat.zero_add, Nat.add_zero]
      ac_rfl
theorem Wm_w {c T j : Nat} (h : j ≤ T) : Wm c T j = bn T j * wgt c j T := by
  rw [wgt_c, Wm_b T j h, Nat.min_eq_right h]
theorem bn_s : ∀ T, T < 13 → ∀ j, j < 13 → bn T j * (T - j) / (j + 1) = bn T (j + 1) ∧ bn T j ≤ 1000 := by decide +kernel
/-- in how many cases so much is left -/
def Lfm (c e A : Nat) : Nat → Nat → Nat
  | 0, a => if a = A then 1 else 0
  | T + 1, a => Lfm c e A T a * (16 - c) + (if a + e ≤ 9 then Lfm c e A T (a + e) * c else 0)
theorem Lf_1 {c A : Nat} (hA : A ≤ 9) : ∀ T a, Lfm c 1 A T a = if a ≤ A then Wm c T (A - a) else 0
  | 0, a => by
    show (if a = A then 1 else 0) = _
    rcases Nat.lt_trichotomy a A with h | h | h
    · rw [if_neg (by omega), if_pos (by omega), show A - a = (A - a - 1) + 1 by omega]; rfl
    · rw [if_pos h, if_pos (by omega), show A - a = 0 by omega]; rfl
    · rw [if_neg (by omega), if_neg (by omega)]
  | T + 1, a => by
    show Lfm c 1 A T a * (16 - c) + (if a + 1 ≤ 9 then Lfm c 1 A T (a + 1) * c else 0) = _
    rw [Lf_1 hA T a, Lf_1 hA T (a + 1)]
    rcases Nat.lt_trichotomy a A with h | h | h
    · rw [if_pos (by omega), if_pos (by omega), if_pos (by omega), if_pos (by omega), show A - a = (A - (a + 1)) + 1 by omega]; rfl
    · rw [if_pos (show a ≤ A by omega), if_neg (show ¬ a + 1 ≤ A by omega), if_pos (show a ≤ A by omega), show A - a = 0 by omega]
      show Wm c T 0 * (16 - c) + _ = Wm c T 0 * (16 - c)
      rw [Nat.zero_mul]
      split <;> rfl
    · rw [if_neg (show ¬ a ≤ A by omega), if_neg (show ¬ a + 1 ≤ A by omega), if_neg (show ¬ a ≤ A by omega), Nat.zero_mul, Nat.zero_mul]
      split <;> rfl
theorem Lf_2 {c A : Nat} (hA : A ≤ 9) : ∀ T a, Lfm c 2 A T a = if a ≤ A ∧ (A - a) % 2 = 0 then Wm c T ((A - a) / 2) else 0
  | 0, a => by
    show (if a = A then 1 else 0) = _
    by_cases h : a = A
    · rw [if_pos h, if_pos (by omega), show (A - a) / 2 = 0 by omega]; rfl
    · rw [if_neg h]
      by_cases h2 : a ≤ A ∧ (A - a) % 2 = 0
      · rw [if_pos h2, show (A - a) / 2 = ((A - a) / 2 - 1) + 1 by omega]; rfl
      · rw [if_neg h2]
  | T + 1, a => by
    show Lfm c 2 A T a * (16 - c) + (if a + 2 ≤ 9 then Lfm c 2 A T (a + 2) * c else 0) = _
    rw [Lf_2 hA T a, Lf_2 hA T (a + 2)]
    by_cases h2 : a ≤ A ∧ (A - a) % 2 = 0
    · rw [if_pos h2]
      by_cases h : a = A
      · rw [if_neg (show ¬ (a + 2 ≤ A ∧ (A - (a + 2)) % 2 = 0) by omega), if_pos h2, show (A - a) / 2 = 0 by omega]
        show Wm c T 0 * (16 - c) + _ = Wm c T 0 * (16 - c)
        rw [Nat.zero_mul]
        split <;> rfl
      · rw [if_pos (show a + 2 ≤ A ∧ (A - (a + 2)) % 2 = 0 by omega), if_pos h2, if_pos (by omega), show (A - a) / 2 = (A - (a + 2)) / 2 + 1 by omega]; rfl
    · rw [if_neg h2, if_neg (show ¬ (a + 2 ≤ A ∧ (A - (a + 2)) % 2 = 0) by omega), if_neg h2, Nat.zero_mul, Nat.zero_mul]
      split <;> rfl
def sL (c e A T : Nat) : Nat → Nat
  | 0 => 0
  | n + 1 => sL c e A T n + Lfm c e A T (n + 1)
/-- the reference's sum of j < n -/
def abR (c e A T : Nat) : Nat → Nat
  | 0 => 0
  | j + 1 => abR c e A T j + if j * e < A then Wm c T j else 0
theorem abR_more {c e A T n : Nat} : ∀ {m : Nat}, (∀ j, n ≤ j → j < n + m → (if j * e < A then Wm c T j else 0) = 0) → abR c e A T (n + m) = abR c e A T n
  | 0, _ => rfl
  | m + 1, h => by
    show abR c e A T (n + m) + (if (n + m) * e < A then Wm c T (n + m) else 0) = _
    rw [h (n + m) (by omega) (by omega), Nat.add_zero]
    exact abR_more (fun j h1 h2 => h j h1 (by omega))
theorem abR_9 {c e A T : Nat} (he : 1 ≤ e) (hA : A ≤ 9) : abR c e A T (T + 1) = abR c e A T 9 := by
  have h1 := abR_more (c := c) (e := e) (A := A) (T := T) (n := T + 1) (m := 9) (fun j h1 h2 => by
    rw [Wm_0 T j (by omega)]
    split <;> rfl)
  have h2 := abR_more (c := c) (e := e) (A := A) (T := T) (n := 9) (m := T + 1) (fun j h1 h2 => by
    rw [if_neg]
    have : j * 1 ≤ j * e := Nat.mul_le_mul_left j he
    omega)
  rw [← h1, ← h2, Nat.add_comm]
theorem sL_1 {c A T : Nat} (h0 : 1 ≤ A) (hA : A ≤ 9) : sL c 1 A T 9 = abR c 1 A T (T + 1) := by
  rw [abR_9 (by omega) hA]
  simp only [sL, abR, Lf_1 hA]
  rcases (by omega : A = 1 ∨ A = 2 ∨ A = 3 ∨ A = 4 ∨ A = 5 ∨ A = 6 ∨ A = 7 ∨ A = 8 ∨ A = 9) with e | e | e | e | e | e | e | e | e <;> subst e <;> simp <;> omega
theorem sL_2 {c A T : Nat} (h0 : 1 ≤ A) (hA : A ≤ 9) : sL c 2 A T 9 = abR c 2 A T (T + 1) := by
  rw [abR_9 (by omega) hA]
  simp only [sL, abR, Lf_2 hA]
  rcases (by omega : A = 1 ∨ A = 2 ∨ A = 3 ∨ A = 4 ∨ A = 5 ∨ A = 6 ∨ A = 7 ∨ A = 8 ∨ A = 9) with e | e | e | e | e | e | e | e | e <;> subst e <;> simp <;> omega
theorem sL_0 {c A : Nat} {e : Nat} (h0 : 1 ≤ A) (hA : A ≤ 9) : sL c e A 0 9 = 1 := by
  simp only [sL, Lfm]
  rcases (by omega : A = 1 ∨ A = 2 ∨ A = 3 ∨ A = 4 ∨ A = 5 ∨ A = 6 ∨ A = 7 ∨ A = 8 ∨ A = 9) with e | e | e | e | e | e | e | e | e <;> subst e <;> simp
theorem abR_0s {c A T : Nat} (hA : 1 ≤ A) : ∀ n, abR c 0 A (T + 1) (n + 1) = abR c 0 A T (n + 1) * (16 - c) + abR c 0 A T n * c
  | 0 => by
    show 0 + (if 0 * 0 < A then Wm c (T + 1) 0 else 0) = (0 + (if 0 * 0 < A then Wm c T 0 else 0)) * (16 - c) + 0 * c
    rw [if_pos (by omega), if_pos (by omega), Nat.zero_add, Nat.zero_add, Nat.zero_mul]; rfl
  | n + 1 => by
    have ih := abR_0s (c := c) (T := T) hA n
    show abR c 0 A (T + 1) (n + 1) + (if (n + 1) * 0 < A then Wm c (T + 1) (n + 1) else 0) = (abR c 0 A T (n + 1) + (if (n + 1) * 0 < A then Wm c T (n + 1) else 0)) * (16 - c) + (abR c 0 A T n + (if n * 0 < A then Wm c T n else 0)) * c
    rw [ih, if_pos (by omega), if_pos (by omega), if_pos (by omega)]
    show _ + (Wm c T (n + 1) * (16 - c) + Wm c T n * c) = _
    rw [Nat.add_mul, Nat.add_mul]
    omega
theorem abR_0 {c A : Nat} (hc : c ≤ 16) (hA : 1 ≤ A) : ∀ T, abR c 0 A T (T + 1) = 16 ^ T
  | 0 => by
    show 0 + (if 0 * 0 < A then Wm c 0 0 else 0) = 1
    rw [if_pos (by omega)]; rfl
  | T + 1 => by
    rw [abR_0s hA (T + 1)]
    have e : abR c 0 A T (T + 1 + 1) = abR c 0 A T (T + 1) := by
      show abR c 0 A T (T + 1) + (if (T + 1) * 0 < A then Wm c T (T + 1) else 0) = _
      rw [Wm_0 T (T + 1) (by omega)]
      split <;> rfl
    rw [e, abR_0 hc hA T, ← Nat.mul_add, Nat.pow_succ, show 16 - c + c = 16 by omega]
theorem Wm_le {c : Nat} (hc : c ≤ 16) : ∀ T j, Wm c T j ≤ 16 ^ T
  | 0, 0 => Nat.le_refl 1
  | 0, _ + 1 => Nat.zero_le _
  | T + 1, 0 => by
    show Wm c T 0 * (16 - c) ≤ _
    rw [Nat.pow_succ]
    exact Nat.mul_le_mul (Wm_le hc T 0) (by omega)
  | T + 1, j + 1 => by
    show Wm c T (j + 1) * (16 - c) + Wm c T j * c ≤ _
    have h1 := Nat.mul_le_mul_right (16 - c) (Wm_le hc T (j + 1))
    have h2 := Nat.mul_le_mul_right c (Wm_le hc T j)
    have h3 : 16 ^ T * (16 - c) + 16 ^ T * c = 16 ^ (T + 1) := by
      rw [← Nat.mul_add, show 16 - c + c = 16 by omega, Nat.pow_succ]
    omega
theorem abR_le {c e A : Nat} (hc : c ≤ 16) (T : Nat) : ∀ n, abR c e A T n ≤ n * 16 ^ T
  | 0 => Nat.zero_le _
  | n + 1 => by
    have ih := abR_le (e := e) (A := A) hc T n
    have := Wm_le hc T n
    show abR c e A T n + (if n * e < A then Wm c T n else 0) ≤ _
    rw [Nat.succ_mul]
    split <;> omega
/-- halved as long as both can be -/
def lowq : Nat → Nat → Nat → Nat × Nat
  | 0, a, b => (a, b)
  | f + 1, a, b => if 1 < b ∧ a % 2 = 0 then lowq f (a / 2) (b / 2) else (a, b)
theorem lowq_g : ∀ k f a, k ≤ f → lowq f a (2 ^ k) = (a / Nat.gcd a (2 ^ k), 2 ^ k / Nat.gcd a (2 ^ k))
  | 0, f, a, _ => by
    rw [Nat.pow_zero, Nat.gcd_one_right, Nat.div_one, Nat.div_one]
    cases f with
    | zero => rfl
    | succ f =>
      show (if 1 < 1 ∧ a % 2 = 0 then _ else (a, 1)) = _
      rw [if_neg (by omega)]
  | k + 1, f + 1, a, h => by
    have hp : 1 < 2 ^ (k + 1) := Nat.one_lt_two_pow (by omega)
    show (if 1 < 2 ^ (k + 1) ∧ a % 2 = 0 then lowq f (a / 2) (2 ^ (k + 1) / 2) else (a, 2 ^ (k + 1))) = _
    by_cases h2 : a % 2 = 0
    · rw [if_pos ⟨hp, h2⟩]
      have e1 : 2 ^ (k + 1) = 2 * 2 ^ k := by rw [Nat.pow_succ, Nat.mul_comm]
      have e2 : a = 2 * (a / 2) := by omega
      have e3 : Nat.gcd a (2 ^ (k + 1)) = 2 * Nat.gcd (a / 2) (2 ^ k) := by
        rw [e1]
        have := Nat.gcd_mul_left 2 (a / 2) (2 ^ k)
        rw [← e2] at this
        exact this
      rw [e3, e1, Nat.mul_div_cancel_left _ (by decide), lowq_g k f (a / 2) (by omega), Nat.mul_div_mul_left _ _ (by decide)]
      congr 1
      rw [← Nat.div_div_eq_div_mul]
    · rw [if_neg (fun z => h2 z.2)]
      have e3 : Nat.gcd a (2 ^ (k + 1)) = 1 := by
        refine Nat.Coprime.pow_right (k + 1) ?_
        show Nat.gcd a 2 = 1
        rw [Nat.gcd_comm, Nat.gcd_rec, show a % 2 = 1 by omega]
        decide
      rw [e3, Nat.div_one, Nat.div_one]
theorem pow16 (T : Nat) : 16 ^ T = 2 ^ (4 * T) := by
  rw [Nat.pow_mul]
def mcnt (t : tTown) (n : Nat) : Nat := fa_cnt (fun m => decide (mo t m = 4)) n
/-- moths: above and below in lowest terms -/
def moR (t : tTown) (c k n : Nat) : Nat := abR c (eat (cv t k 1)) (cv t k 3) (mcnt t n) (mcnt t n + 1)
def moV (t : tTown) (c k n j : Nat) : Int64 := lN ((if j = 0 then moR t c k n else 16 ^ mcnt t n) / Nat.gcd (moR t c k n) (16 ^ mcnt t n))
