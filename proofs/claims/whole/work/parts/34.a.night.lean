/-! the night: pairs that may have changed; the class -/
abbrev tY : Type := Nat × (Nat → Nat) × (Nat → Nat) × (Nat → Int32)
def Yc (y : tY) (d : tDi) : Prop := d 159 8 = nI y.1 ∧ ∀ k, k < y.1 → d 160 k = nI (y.2.1 k) ∧ d 161 k = nI (y.2.2.1 k) ∧ d 162 k = y.2.2.2 k
def Yr (y : tY) (d : tDi) : Prop := d 176 18 = nI y.1 ∧ ∀ k, k < y.1 → d 193 (3 * k) = nI (y.2.1 k) ∧ d 193 (3 * k + 1) = nI (y.2.2.1 k) ∧ d 193 (3 * k + 2) = y.2.2.2 k
def Yb (y : tY) : Prop := y.1 ≤ 8 ∧ ∀ k, k < y.1 → y.2.1 k ≤ 24 ∧ y.2.2.1 k < 8
theorem Ini_Y {di : tDi} (h : Ini di) : ∃ y, Yb y ∧ Yc y di ∧ Yr y di := by
  obtain ⟨n, h1, h2, h3, h4⟩ := h
  refine ⟨(n, fun k => (di 160 k).toNatClampNeg, fun k => (di 161 k).toNatClampNeg, fun k => di 162 k), ⟨h1, fun k hk => ?_⟩, ⟨h2, fun k hk => ?_⟩, ⟨h3, fun k hk => ?_⟩⟩
  · obtain ⟨q, s, c, g1, g2, g3, e1, e2, e3, e4, e5, e6⟩ := h4 k hk
    show (di 160 k).toNatClampNeg ≤ 24 ∧ (di 161 k).toNatClampNeg < 8
    rw [e1, e3, nI_clamp (by omega), nI_clamp (by omega)]
    exact ⟨g1, g2⟩
  · obtain ⟨q, s, c, g1, g2, g3, e1, e2, e3, e4, e5, e6⟩ := h4 k hk
    show di 160 k = nI (di 160 k).toNatClampNeg ∧ di 161 k = nI (di 161 k).toNatClampNeg ∧ di 162 k = di 162 k
    rw [e1, e3, nI_clamp (by omega), nI_clamp (by omega)]
    exact ⟨rfl, rfl, rfl⟩
  · obtain ⟨q, s, c, g1, g2, g3, e1, e2, e3, e4, e5, e6⟩ := h4 k hk
    show di 193 (3 * k) = nI (di 160 k).toNatClampNeg ∧ di 193 (3 * k + 1) = nI (di 161 k).toNatClampNeg ∧ di 193 (3 * k + 2) = di 162 k
    rw [e1, e3, nI_clamp (by omega), nI_clamp (by omega), e5]
    exact ⟨e2, e4, e6⟩
def chg (s a b : Nat) : Nat := if s = a then b else if s = b then a else s
theorem chg_lt {s a b n : Nat} (hs : s < n) (ha : a < n) (hb : b < n) : chg s a b < n := by
  unfold chg
  split
  · exact hb
  · split
    · exact ha
    · exact hs
def agr (t : tTown) (y : tY) (a b k : Nat) : Bool := decide (y.2.1 k ≤ nM t ∧ y.2.2.1 k < nS t ∧ worn t (Qm t (y.2.1 k)) (chg (y.2.2.1 k) a b) = y.2.2.2 k)
def alB (p : Nat → Bool) : Nat → Bool
  | 0 => true
  | k + 1 => alB p k && p k
theorem alB_f {p : Nat → Bool} {k : Nat} (h : p k = false) : ∀ {m : Nat}, alB p (k + 1 + m) = false
  | 0 => by
    show (alB p k && p k) = false
    rw [h, Bool.and_false]
  | m + 1 => by
    show (alB p (k + 1 + m) && p (k + 1 + m)) = false
    rw [alB_f h, Bool.false_and]
theorem alB_at {p : Nat → Bool} {k n : Nat} (h : p k = false) (hk : k < n) : alB p n = false := by
  rw [show n = k + 1 + (n - (k + 1)) by omega]
  exact alB_f h
def sAll (t : tTown) (y : tY) (a b : Nat) : Bool := alB (agr t y a b) y.1
/-- the pairs in their order -/
def prA (t : tTown) (y : tY) (a b : Nat) (L : List Nat) : List Nat := if sAll t y a b = true then L ++ [8 * a + b] else L
def rwP (t : tTown) (y : tY) (a : Nat) (L : List Nat) : Nat → List Nat
  | 0 => L
  | j + 1 => prA t y a (a + 1 + j) (rwP t y a L j)
def alP (t : tTown) (y : tY) : Nat → List Nat
  | 0 => []
  | a + 1 => rwP t y a (alP t y a) (nS t - (a + 1))
def visN (n : Nat) : Nat → Nat
  | 0 => 0
  | a + 1 => visN n a + (n - (a + 1))
theorem visN_le : ∀ n, n ≤ 8 → ∀ a, a ≤ n → visN n a ≤ 28 := by decide +kernel
theorem prA_len {t : tTown} {y : tY} {a b : Nat} {L : List Nat} : (prA t y a b L).length ≤ L.length + 1 := by
  unfold prA
  split
  · rw [List.length_append]; exact Nat.le_refl _
  · omega
theorem rwP_len {t : tTown} {y : tY} {a : Nat} {L : List Nat} : ∀ j, (rwP t y a L j).length ≤ L.length + j
  | 0 => Nat.le_refl _
  | j + 1 => by
    have := rwP_len (t := t) (y := y) (a := a) (L := L) j
    have := prA_len (t := t) (y := y) (a := a) (b := a + 1 + j) (L := rwP t y a L j)
    show (prA t y a (a + 1 + j) (rwP t y a L j)).length ≤ _
    omega
theorem alP_len {t : tTown} {y : tY} : ∀ a, (alP t y a).length ≤ visN (nS t) a
  | 0 => Nat.le_refl 0
  | a + 1 => by
    have := alP_len (t := t) (y := y) a
    have := rwP_len (t := t) (y := y) (a := a) (L := alP t y a) (nS t - (a + 1))
    show (rwP t y a (alP t y a) (nS t - (a + 1))).length ≤ visN (nS t) a + (nS t - (a + 1))
    omega
theorem len28 {t : tTown} (hw : Wt t) {y : tY} {a j : Nat} (ha : a < nS t) (hj : j < nS t - (a + 1)) : (rwP t y a (alP t y a) j).length < 28 := by
  have h1 := visN_le (nS t) hw.1.1 (a + 1) (by omega)
  have h2 := alP_len (t := t) (y := y) a
  have h3 := rwP_len (t := t) (y := y) (a := a) (L := alP t y a) j
  have h4 : visN (nS t) (a + 1) = visN (nS t) a + (nS t - (a + 1)) := rfl
  omega
/-- of each pair: a lesser statue, a greater one -/
def Pok (n : Nat) (L : List Nat) : Prop := ∀ x, x ∈ L → ∃ a b, x = 8 * a + b ∧ a < b ∧ b < n
theorem prA_ok {t : tTown} {y : tY} {a b : Nat} {L : List Nat} {n : Nat} (hab : a < b) (hb : b < n) (h : Pok n L) : Pok n (prA t y a b L) := by
  unfold prA
  split
  · intro x hx
    rcases List.mem_append.mp hx with z | z
    · exact h x z
    · rw [List.mem_singleton] at z
      exact ⟨a, b, z, hab, hb⟩
  · exact h
theorem rwP_ok {t : tTown} {y : tY} {a : Nat} {L : List Nat} (h : Pok (nS t) L) : ∀ j, j ≤ nS t - (a + 1) → Pok (nS t) (rwP t y a L j)
  | 0, _ => h
  | j + 1, hj => prA_ok (by omega) (by omega) (rwP_ok h j (by omega))
theorem alP_ok {t : tTown} {y : tY} : ∀ a, Pok (nS t) (alP t y a)
  | 0 => fun x hx => by cases hx
  | a + 1 => rwP_ok (alP_ok a) _ (Nat.le_refl _)
def hdI : List Nat → Int32
  | [] => -1
  | x :: _ => nI x
def pL (t : tTown) (y : tY) : List Nat := alP t y (nS t)
def swaV (t : tTown) (y : tY) (j : Nat) : Int32 := if j = 0 then nI (pL t y).length else hdI (pL t y)
/-- what is worn, as a number from 0 on -/
theorem worn_in {t : tTown} (hw : Wt t) (q : tClo) (s : Nat) : inC (worn t q s) := by
  have w2 := hw.1.2.1
  have D : ∀ (i : Nat) (x : tSt), (∀ s, inC (x.2 s)) → ∀ s, inC ((ds t q i x).2 s) := by
    intro i x h s
    show inC (if s = i then oI (choi t q i x.1) else x.2 s)
    by_cases e : s = i
    · rw [if_pos e]
      cases hb : choi t q i x.1 with
      | none => exact Or.inl rfl
      | some b => exact Or.inr ⟨b, by have := (bst_lt hb).1; omega, rfl⟩
    · rw [if_neg e]
      exact h s
  have Z : ∀ s, inC (((0, fun _ => -1) : tSt).2 s) := fun s => Or.inl rfl
  unfold worn tlr
  by_cases e : wy t = 0
  · rw [if_pos e]
    have : ∀ n s, inC ((lp0 t q (0, fun _ => -1) n).2 s) := by
      intro n
      induction n with
      | zero => exact Z
      | succ n ih => exact D n _ ih
    exact this _ s
  · rw [if_neg e]
    have Q : ∀ z x, (∀ s, inC (x.2 s)) → ∀ n s, inC ((lpq t q z x n).2 s) := by
      intro z x hx n
      induction n with
      | zero => exact hx
      | succ n ih =>
        unfold lpq
        by_cases e2 : sv t n 0 = z
        · rw [if_pos e2]
          exact D n _ ih
        · rw [if_neg e2]
          exact ih
    have : ∀ j s, inC ((lpz t q (0, fun _ => -1) j).2 s) := by
      intro j
      induction j with
      | zero => exact Z
      | succ j ih => exact Q _ _ ih _
    exact this _ s
def wN (t : tTown) (q : tClo) (s : Nat) : Nat := (worn t q s + 1).toNatClampNeg
theorem wN_in {t : tTown} (hw : Wt t) (q : tClo) (s : Nat) : wN t q s < 9 ∧ worn t q s + 1 = nI (wN t q s) := by
  unfold wN
  rcases worn_in hw q s with h | ⟨j, hj, h⟩
  · rw [h]
    exact ⟨by decide, rfl⟩
  · rw [h, nI_1, nI_clamp (by omega)]
    exact ⟨by omega, rfl⟩
abbrev tMs : Type := (Nat → Nat) × Nat
def mst (w : Nat → Nat) (x : tMs) (p : Nat) : tMs := (fun i => if i = w p then x.1 i + 1 else x.1 i, max x.2 (x.1 (w p) + 1))
def mfo (w : Nat → Nat) (L : List Nat) : tMs := L.foldl (mst w) (fun _ => 0, 0)
theorem mfo_a {w : Nat → Nat} {L : List Nat} {p : Nat} : mfo w (L ++ [p]) = mst w (mfo w L) p := by
  unfold mfo
  rw [List.foldl_append]
  rfl
theorem mfo_le {w : Nat → Nat} : ∀ (L : List Nat) (x : tMs) (B : Nat), (∀ i, x.1 i ≤ B) → x.2 ≤ B → (∀ i, (L.foldl (mst w) x).1 i ≤ B + L.length) ∧ (L.foldl (mst w) x).2 ≤ B + L.length
  | [], x, B, h1, h2 => ⟨h1, h2⟩
  | p :: L, x, B, h1, h2 => by
    have := mfo_le (w := w) L (mst w x p) (B + 1) (fun i => by
      show (if i = w p then x.1 i + 1 else x.1 i) ≤ B + 1
      have := h1 i
      split <;> omega) (by
      show max x.2 (x.1 (w p) + 1) ≤ B + 1
      have := h1 (w p)
      exact Nat.max_le.mpr ⟨by omega, by omega⟩)
    have e : (p :: L).length = L.length + 1 := rfl
    refine ⟨fun i => ?_, ?_⟩
    · have := this.1 i
      rw [e]
      show ((L.foldl (mst w) (mst w x p)).1 i) ≤ _
      omega
    · have := this.2
      rw [e]
      show ((L.foldl (mst w) (mst w x p)).2) ≤ _
      omega
/-- what statue s wears, had the pair changed -/
def wP (t : tTown) (m s p : Nat) : Nat := wN t (Qm t m) (chg s (p / 8) (p % 8))
def maV (t : tTown) (y : tY) (m s : Nat) : Nat := (mfo (wP t m s) (pL t y)).2
theorem maV_le {t : tTown} (hw : Wt t) {y : tY} (m s : Nat) : maV t y m s ≤ 28 := by
  have h1 := (mfo_le (w := wP t m s) (pL t y) (fun _ => 0, 0) 0 (fun _ => Nat.le_refl 0) (Nat.le_refl 0)).2
  have h2 := alP_len (t := t) (y := y) (nS t)
  have h3 := visN_le (nS t) hw.1.1 (nS t) (Nat.le_refl _)
  unfold maV mfo
  unfold pL at h1 ⊢
  omega
def lkV (t : tTown) (y : tY) (s : Nat) : Nat → Nat × Nat
  | 0 => (0, maV t y 0 s)
  | m + 1 => if maV t y (m + 1) s < (lkV t y s m).2 then (m + 1, maV t y (m + 1) s) else lkV t y s m
theorem lkV_le {t : tTown} (hw : Wt t) {y : tY} {s : Nat} : ∀ m, (lkV t y s m).1 ≤ m ∧ (lkV t y s m).2 ≤ 28
  | 0 => ⟨Nat.le_refl 0, maV_le hw 0 s⟩
  | m + 1 => by
    have ih := lkV_le hw (y := y) (s := s) m
    unfold lkV
    split
    · exact ⟨Nat.le_refl _, maV_le hw (m + 1) s⟩
    · exact ⟨by omega, ih.2⟩
def a_sp (t : tTown) (y : tY) (a : Int32) : Int32 := rgd a 2 (fun j => swaV t y j)
def a_lo (t : tTown) (y : tY) (a : Int32) : Int32 := rgd a (nS t) (fun s => nI (lkV t y s (nM t)).1)
section NIGHT
variable {t : tTown} {y : tY} {di : tDi} {dl : tDl} {K : Int32 → tDi → tDl → Prop}
theorem c_30 (hv : Wv t di) (hw : Wt t) {a b m s : Nat} (ha : a < nS t) (hb : b < nS t) (hm : m ≤ nM t) (hs : s < nS t) (kk : K (worn t (Qm t m) (chg s a b)) di dl) : ClI 1 30 [.ref 159, .int (nI a), .int (nI b), .int (nI m), .int (nI s)] di dl K := by
  have w1 := hw.1.1
  unfold chg at kk
  refine r_30 ?_
  by_cases e : s = a
  · rw [if_pos e] at kk
    exact pk2 ⟨fun z => z (by rw [e]), by rw [e]⟩ (c_68 hv hw hm hb kk)
  · rw [if_neg e] at kk
    have ne : ¬ nI s = nI a := fun z => e ((nI_eq (by omega) (by omega)).mp z)
    refine pk1 ⟨ne, ne⟩ ?_
    by_cases e2 : s = b
    · rw [if_pos e2] at kk
      exact pk2 ⟨fun z => z (by rw [e2]), by rw [e2]⟩ (c_68 hv hw hm ha kk)
    · rw [if_neg e2] at kk
      have ne : ¬ nI s = nI b := fun z => e2 ((nI_eq (by omega) (by omega)).mp z)
      exact pk1 ⟨ne, ne⟩ (c_68 hv hw hm hs kk)
theorem c_29 (hv : Wv t di) (hw : Wt t) (hc : Cs t di) (hy : Yb y) (hi : Yc y di) {a b : Nat} (ha : a < nS t) (hb : b < nS t) (kk : K (if sAll t y a b = true then 1 else 0) di dl) : ClI 2 29 [.ref 159, .int (nI a), .int (nI b)] di dl K := by
  have w1 := hw.1.1
  have w3 := hw.1.2.2.1
  have c1 := hc.1.1
  have c3 := hc.2.2.1.1
  obtain ⟨y1, y2⟩ := hy
  obtain ⟨i1, i2⟩ := hi
  refine r_29 ?_
  refine up_to (n := y.1) (G := fun k => alB (agr t y a b) k = true → Wq none 2 29 2 [(0, .ref 159), (1, .int (nI a)), (2, .int (nI b)), (3, .int (nI k))] [] di dl (RI K)) ?_ ?_ (Nat.zero_le _) rfl
  · intro h
    rw [if_pos (show sAll t y a b = true from h)] at kk
    refine r_29_2 ?_
    simp (disch := omega) only [true_imp_iff, false_imp_iff, not_true_eq_false, not_false_eq_true, and_true, true_and, Int32.reduceToInt, Int64.reduceToInt, Int32.reduceAdd, fa_lt, fa_le, fa_eq, cmi_lt, cmi_le, cmi_gt, cmi_ge, cmi_eq, fa_lt64, fa_le64, fa_eq64, Int32.toInt_toInt64, nI_toInt, ti_m1, sub1_ti, inB_iff, nI_clamp, Int32.add_zero, nI_1, nI_add, nI_p2, nI_p3, nI_p4, nI_p5, nI_p6, nI_p8, nI_p9, nI_p10, nI_m3, nI_m4, nI_m5, nI_m6, nI_m8, nI_m10, nI_m31, nI_m48, nI_m60, nI_m256, nI_t5, nI_t6, nI_a1, nI_a48, nI_a96, nI_d5, nI_d6, nI_d8, nI_d10, nI_d20, nI_s1, nI_s48, pk_sub, i1]
    repeat (first | (with_reducible refine pk1 ?_ ?_; omega) | (with_reducible refine pk2 ?_ ?_; omega) | (with_reducible refine bd1 ?_ ?_; omega))
    exact kk
  · intro k hk ih h
    obtain ⟨g1, g2, g3⟩ := i2 k hk
    obtain ⟨q1, q2⟩ := y2 k hk
    have no : agr t y a b k = false → K 0 di dl := by
      intro z
      have : sAll t y a b = false := alB_at z hk
      rw [if_neg (by rw [this]; decide)] at kk
      exact kk
    refine r_29_2 ?_
    rw [i1, nI_clamp (by omega), g1, g2, c1, c3]
    refine pk2 ⟨fun z => absurd (nI_lt hk (by omega)) (Int32.not_lt.mpr z), nI_lt hk (by omega)⟩ ?_
    refine pk2 ⟨fun z => absurd (nI_lt (b := 8) (show k < 8 by omega) (by decide)) (Int32.not_lt.mpr z), nI_lt (b := 8) (by omega) (by decide)⟩ ⟨inB_n (by omega) (by decide), ?_⟩
    by_cases h1 : y.2.1 k ≤ nM t
    · refine pk2 ⟨fun z => absurd (nI_le h1 (by omega)) (Int32.not_le.mpr z), nI_le h1 (by omega)⟩ ?_
      refine pk2 ⟨fun z => absurd (nI_pos' (n := y.2.2.1 k) (by omega)) (Int32.not_le.mpr z), nI_pos' (by omega)⟩ ?_
      by_cases h2 : y.2.2.1 k < nS t
      · refine pk2 ⟨fun z => absurd (nI_lt h2 (by omega)) (Int32.not_lt.mpr z), nI_lt h2 (by omega)⟩ ?_
        refine c_30 hv hw ha hb h1 h2 ?_
        rw [g3, nI_1]
        by_cases h3 : worn t (Qm t (y.2.1 k)) (chg (y.2.2.1 k) a b) = y.2.2.2 k
        · refine pk1 ⟨h3, fun z => z h3⟩ (ih ?_)
          show (alB (agr t y a b) k && agr t y a b k) = true
          rw [h]
          exact decide_eq_true ⟨h1, h2, h3⟩
        · exact pk2 ⟨h3, h3⟩ (no (decide_eq_false (fun z => h3 z.2.2)))
      · refine pk1 ⟨nI_le (by omega) (by omega), fun z => absurd (nI_le (show nS t ≤ y.2.2.1 k by omega) (by omega)) (Int32.not_le.mpr z)⟩ (no (decide_eq_false (fun z => h2 z.2.1)))
    · refine pk1 ⟨nI_lt (by omega) (by omega), fun z => absurd (nI_lt (show nM t < y.2.1 k by omega) (by omega)) (Int32.not_lt.mpr z)⟩ (no (decide_eq_false (fun z => h1 z.1)))
/-- the class's pairs -/
def Lp (L : List Nat) (d : tDi) : Prop := d 159 9 = nI L.length ∧ ∀ i (h : i < L.length), d 163 i = nI (L[i])
def FN (di d : tDi) : Prop := ∀ a k, ¬ (a = 159 ∧ k = 9) → ¬ a = 163 → ¬ a = 164 → d a k = di a k
theorem Lp_add {L : List Nat} {d : tDi} {x : Nat} (h : Lp L d) : Lp (L ++ [x]) (up2 (up2 d 163 L.length (nI x)) 159 9 (nI (L.length + 1))) := by
  refine ⟨?_, fun i hi => ?_⟩
  · rw [up_eq, List.length_append]; rfl
  · rw [up_na (by decide)]
    rw [List.length_append] at hi
    have hi' : i < L.length + 1 := hi
    by_cases e : i = L.length
    · subst e
      rw [up_eq, List.getElem_append_right (Nat.le_refl _)]
      congr 1
      simp
    · rw [up_nk e, List.getElem_append_left (by omega)]
      exact h.2 i (by omega)
theorem Yc_FN {d e : tDi} (h : FN d e) (H : Yc y d) : Yc y e := by
  refine ⟨?_, fun k hk => ?_⟩
  · rw [h _ _ (by omega) (by omega) (by omega)]; exact H.1
  · rw [h _ _ (by omega) (by omega) (by omega), h _ _ (by omega) (by omega) (by omega), h _ _ (by omega) (by omega) (by omega)]
    exact H.2 k hk
theorem c_26 (hv : Wv t di) (hw : Wt t) (hc : Cs t di) (hy : Yb y) (hi : Yc y di) {K : tDi → tDl → Prop} (kk : ∀ d, Lp (pL t y) d → FN di d → K d dl) : ClV 3 26 [.ref 159] di dl K := by
  have w1 := hw.1.1
  have V : ∀ d, FN di d → Wv t d := fun d fn => Wv_cong hw (fun a k z1 z2 => fn a k (by omega) (by omega) (by omega)) hv
  have C : ∀ d, FN di d → Cs t d := fun d fn => Cs_lo (fun a k z1 z2 => fn a k (by omega) (by omega) (by omega)) hc
  refine r_26 ?_
  refine up_to (n := nS t) (G := fun a => ∀ d, Lp (alP t y a) d → FN di d → Wq none 3 26 7 [(0, .ref 159), (1, .int (nI a))] [] d dl (RV K)) ?_ ?_ (Nat.zero_le _) _ ⟨by rw [up_eq]; rfl, fun i hi => absurd hi (Nat.not_lt_zero i)⟩ (fun a k z1 z2 z3 => by unfold up2; rw [if_neg z1])
  · intro d hl fn
    have c1 := (C d fn).1.1
    refine r_26_7 ?_
    simp (disch := omega) only [true_imp_iff, false_imp_iff, not_true_eq_false, not_false_eq_true, and_true, true_and, Int32.reduceToInt, Int64.reduceToInt, Int32.reduceAdd, fa_lt, fa_le, fa_eq, cmi_lt, cmi_le, cmi_gt, cmi_ge, cmi_eq, fa_lt64, fa_le64, fa_eq64, Int32.toInt_toInt64, nI_toInt, ti_m1, sub1_ti, inB_iff, nI_clamp, Int32.add_zero, nI_1, nI_add, nI_p2, nI_p3, nI_p4, nI_p5, nI_p6, nI_p8, nI_p9, nI_p10, nI_m3, nI_m4, nI_m5, nI_m6, nI_m8, nI_m10, nI_m31, nI_m48, nI_m60, nI_m256, nI_t5, nI_t6, nI_a1, nI_a48, nI_a96, nI_d5, nI_d6, nI_d8, nI_d10, nI_d20, nI_s1, nI_s48, pk_sub, c1]
    repeat (first | (with_reducible refine pk1 ?_ ?_; omega) | (with_reducible refine pk2 ?_ ?_; omega) | (with_reducible refine bd1 ?_ ?_; omega))
    exact kk d hl fn
  · intro a ha ih d hl fn
    have c1 := (C d fn).1.1
    refine r_26_7 ?_
    simp (disch := omega) only [true_imp_iff, false_imp_iff, not_true_eq_false, not_false_eq_true, and_true, true_and, Int32.reduceToInt, Int64.reduceToInt, Int32.reduceAdd, fa_lt, fa_le, fa_eq, cmi_lt, cmi_le, cmi_gt, cmi_ge, cmi_eq, fa_lt64, fa_le64, fa_eq64, Int32.toInt_toInt64, nI_toInt, ti_m1, sub1_ti, inB_iff, nI_clamp, Int32.add_zero, nI_1, nI_add, nI_p2, nI_p3, nI_p4, nI_p5, nI_p6, nI_p8, nI_p9, nI_p10, nI_m3, nI_m4, nI_m5, nI_m6, nI_m8, nI_m10, nI_m31, nI_m48, nI_m60, nI_m256, nI_t5, nI_t6, nI_a1, nI_a48, nI_a96, nI_d5, nI_d6, nI_d8, nI_d10, nI_d20, nI_s1, nI_s48, pk_sub, c1]
    repeat (first | (with_reducible refine pk1 ?_ ?_; omega) | (with_reducible refine pk2 ?_ ?_; omega) | (with_reducible refine bd1 ?_ ?_; omega))
    refine up_to (n := nS t - (a + 1)) (G := fun j => ∀ d, Lp (rwP t y a (alP t y a) j) d → FN di d → Wq none 3 26 22 [(0, .ref 159), (1, .int (nI a)), (2, .int (nI (a + 1 + j)))] [] d dl (RV K)) ?_ ?_ (Nat.zero_le _) d hl fn
    · intro d hl fn
      have c1 := (C d fn).1.1
      refine r_26_22 ?_
      simp (disch := omega) only [true_imp_iff, false_imp_iff, not_true_eq_false, not_false_eq_true, and_true, true_and, Int32.reduceToInt, Int64.reduceToInt, Int32.reduceAdd, fa_lt, fa_le, fa_eq, cmi_lt, cmi_le, cmi_gt, cmi_ge, cmi_eq, fa_lt64, fa_le64, fa_eq64, Int32.toInt_toInt64, nI_toInt, ti_m1, sub1_ti, inB_iff, nI_clamp, Int32.add_zero, nI_1, nI_add, nI_p2, nI_p3, nI_p4, nI_p5, nI_p6, nI_p8, nI_p9, nI_p10, nI_m3, nI_m4, nI_m5, nI_m6, nI_m8, nI_m10, nI_m31, nI_m48, nI_m60, nI_m256, nI_t5, nI_t6, nI_a1, nI_a48, nI_a96, nI_d5, nI_d6, nI_d8, nI_d10, nI_d20, nI_s1, nI_s48, pk_sub, c1]
      repeat (first | (with_reducible refine pk1 ?_ ?_; omega) | (with_reducible refine pk2 ?_ ?_; omega) | (with_reducible refine bd1 ?_ ?_; omega))
      exact ih d hl fn
    · intro j hj ij d hl fn
      have c1 := (C d fn).1.1
      have l1 := len28 hw (y := y) ha hj
      have l2 := hl.1
      refine r_26_22 ?_
      simp (disch := omega) only [true_imp_iff, false_imp_iff, not_true_eq_false, not_false_eq_true, and_true, true_and, Int32.reduceToInt, Int64.reduceToInt, Int32.reduceAdd, fa_lt, fa_le, fa_eq, cmi_lt, cmi_le, cmi_gt, cmi_ge, cmi_eq, fa_lt64, fa_le64, fa_eq64, Int32.toInt_toInt64, nI_toInt, ti_m1, sub1_ti, inB_iff, nI_clamp, Int32.add_zero, nI_1, nI_add, nI_p2, nI_p3, nI_p4, nI_p5, nI_p6, nI_p8, nI_p9, nI_p10, nI_m3, nI_m4, nI_m5, nI_m6, nI_m8, nI_m10, nI_m31, nI_m48, nI_m60, nI_m256, nI_t5, nI_t6, nI_a1, nI_a48, nI_a96, nI_d5, nI_d6, nI_d8, nI_d10, nI_d20, nI_s1, nI_s48, pk_sub, c1, l2]
      repeat (first | (with_reducible refine pk1 ?_ ?_; omega) | (with_reducible refine pk2 ?_ ?_; omega) | (with_reducible refine bd1 ?_ ?_; omega))
      refine c_29 (V d fn) hw (C d fn) hy (Yc_FN fn hi) ha (by omega) ?_
      have ij' : ∀ d, Lp (prA t y a (a + 1 + j) (rwP t y a (alP t y a) j)) d → FN di d → Wq none 3 26 22 [(0, .ref 159), (1, .int (nI a)), (2, .int (nI (a + 1 + j + 1)))] [] d dl (RV K) := ij
      unfold prA at ij'
      by_cases hs : sAll t y a (a + 1 + j) = true
      · rw [if_pos hs] at ij' ⊢
        refine pk2 (by decide) ?_
        simp (disch := omega) only [true_imp_iff, false_imp_iff, not_true_eq_false, not_false_eq_true, and_true, true_and, Int32.reduceToInt, Int64.reduceToInt, Int32.reduceAdd, fa_lt, fa_le, fa_eq, cmi_lt, cmi_le, cmi_gt, cmi_ge, cmi_eq, fa_lt64, fa_le64, fa_eq64, Int32.toInt_toInt64, nI_toInt, ti_m1, sub1_ti, inB_iff, nI_clamp, Int32.add_zero, nI_1, nI_add, nI_p2, nI_p3, nI_p4, nI_p5, nI_p6, nI_p8, nI_p9, nI_p10, nI_m3, nI_m4, nI_m5, nI_m6, nI_m8, nI_m10, nI_m31, nI_m48, nI_m60, nI_m256, nI_t5, nI_t6, nI_a1, nI_a48, nI_a96, nI_d5, nI_d6, nI_d8, nI_d10, nI_d20, nI_s1, nI_s48, pk_sub, l2]
        repeat (first | (with_reducible refine pk1 ?_ ?_; omega) | (with_reducible refine pk2 ?_ ?_; omega) | (with_reducible refine bd1 ?_ ?_; omega))
        refine ij' _ (Lp_add hl) ?_
        intro b k z1 z2 z3
        unfold up2
        rw [if_neg z1, if_neg (by omega)]
        exact fn b k z1 z2 z3
      · rw [if_neg hs] at ij' ⊢
        exact pk1 (by decide) (ij' d hl fn)
theorem c_31 (hv : Wv t di) (hw : Wt t) (hl : Lp (pL t y) di) {m s : Nat} (hm : m ≤ nM t) (hs : s < nS t) (kk : ∀ d, Lp (pL t y) d → FN di d → K (nI (maV t y m s)) d dl) : ClI 2 31 [.ref 159, .int (nI m), .int (nI s)] di dl K := by
  have w1 := hw.1.1
  have hlen : (pL t y).length ≤ 28 := Nat.le_trans (alP_len (nS t)) (visN_le (nS t) w1 (nS t) (Nat.le_refl _))
  have hok := alP_ok (t := t) (y := y) (nS t)
  refine r_31 ?_
  refine up_to (n := 9) (G := fun k => ∀ d, (∀ i, i < k → d 164 i = 0) → FF1 164 di d → Wq none 2 31 2 [(0, .ref 159), (1, .int (nI m)), (2, .int (nI s)), (3, .int (nI k))] [] d dl (RI K)) ?_ ?_ (Nat.zero_le _) di (fun i hi => absurd hi (Nat.not_lt_zero i)) (fun _ _ _ => rfl)
  · intro d hz fr
    refine r_31_2 ?_
    simp (disch := omega) only [true_imp_iff, false_imp_iff, not_true_eq_false, not_false_eq_true, and_true, true_and, Int32.reduceToInt, Int64.reduceToInt, Int32.reduceAdd, fa_lt, fa_le, fa_eq, cmi_lt, cmi_le, cmi_gt, cmi_ge, cmi_eq, fa_lt64, fa_le64, fa_eq64, Int32.toInt_toInt64, nI_toInt, ti_m1, sub1_ti, inB_iff, nI_clamp, Int32.add_zero, nI_1, nI_add, nI_p2, nI_p3, nI_p4, nI_p5, nI_p6, nI_p8, nI_p9, nI_p10, nI_m3, nI_m4, nI_m5, nI_m6, nI_m8, nI_m10, nI_m31, nI_m48, nI_m60, nI_m256, nI_t5, nI_t6, nI_a1, nI_a48, nI_a96, nI_d5, nI_d6, nI_d8, nI_d10, nI_d20, nI_s1, nI_s48, pk_sub]
    repeat (first | (with_reducible refine pk1 ?_ ?_; omega) | (with_reducible refine pk2 ?_ ?_; omega) | (with_reducible refine bd1 ?_ ?_; omega))
    refine up_to (n := (pL t y).length) (G := fun i => ∀ d, (∀ k, k < 9 → d 164 k = nI ((mfo (wP t m s) ((pL t y).take i)).1 k)) → FF1 164 di d → Wq none 2 31 29 [(0, .ref 159), (1, .int (nI m)), (2, .int (nI s)), (3, .int (nI (mfo (wP t m s) ((pL t y).take i)).2)), (4, .int (nI i))] [] d dl (RI K)) ?_ ?_ (Nat.zero_le _) d (fun k hk => by rw [hz k hk]; rfl) fr
    · intro d hd fr
      have l1 : d 159 9 = nI (pL t y).length := by rw [fr _ _ (by omega)]; exact hl.1
      rw [List.take_length]
      refine r_31_29 ?_
      simp (disch := omega) only [true_imp_iff, false_imp_iff, not_true_eq_false, not_false_eq_true, and_true, true_and, Int32.reduceToInt, Int64.reduceToInt, Int32.reduceAdd, fa_lt, fa_le, fa_eq, cmi_lt, cmi_le, cmi_gt, cmi_ge, cmi_eq, fa_lt64, fa_le64, fa_eq64, Int32.toInt_toInt64, nI_toInt, ti_m1, sub1_ti, inB_iff, nI_clamp, Int32.add_zero, nI_1, nI_add, nI_p2, nI_p3, nI_p4, nI_p5, nI_p6, nI_p8, nI_p9, nI_p10, nI_m3, nI_m4, nI_m5, nI_m6, nI_m8, nI_m10, nI_m31, nI_m48, nI_m60, nI_m256, nI_t5, nI_t6, nI_a1, nI_a48, nI_a96, nI_d5, nI_d6, nI_d8, nI_d10, nI_d20, nI_s1, nI_s48, pk_sub, l1]
      repeat (first | (with_reducible refine pk1 ?_ ?_; omega) | (with_reducible refine pk2 ?_ ?_; omega) | (with_reducible refine bd1 ?_ ?_; omega))
      refine kk d ⟨l1, fun i hi => by rw [fr _ _ (by omega)]; exact hl.2 i hi⟩ (fun a k z1 z2 z3 => fr a k z3)
    · intro i hi ih d hd fr
      have l1 : d 159 9 = nI (pL t y).length := by rw [fr _ _ (by omega)]; exact hl.1
      have l2 : d 163 i = nI ((pL t y)[i]) := by rw [fr _ _ (by omega)]; exact hl.2 i hi
      obtain ⟨a, b, e, hab, hb⟩ := hok _ (List.getElem_mem hi)
      have e' : (pL t y)[i] = 8 * a + b := e
      rw [List.take_succ_eq_append_getElem hi, mfo_a] at ih
      rw [e'] at l2 ih
      obtain ⟨n1, n2⟩ := wN_in hw (Qm t m) (chg s a b)
      have ew : wP t m s (8 * a + b) = wN t (Qm t m) (chg s a b) := by
        unfold wP
        rw [show (8 * a + b) / 8 = a by omega, show (8 * a + b) % 8 = b by omega]
      have bnd := mfo_le (w := wP t m s) ((pL t y).take i) (fun _ => 0, 0) 0 (fun _ => Nat.le_refl 0) (Nat.le_refl 0)
      have hti : ((pL t y).take i).length ≤ 28 := by rw [List.length_take]; omega
      have b1 : ∀ k, (mfo (wP t m s) ((pL t y).take i)).1 k ≤ 28 := fun k => Nat.le_trans (bnd.1 k) (by omega)
      have b2 : (mfo (wP t m s) ((pL t y).take i)).2 ≤ 28 := Nat.le_trans bnd.2 (by omega)
      have v1 : Wv t d := Wv_cong hw (fun a k z1 z2 => fr a k (by omega)) hv
      refine r_31_29 ?_
      rw [l1, nI_clamp (show i < 2 ^ 31 by omega), l2, nI_d8 (by omega), show nI ((8 * a + b) / 8) * 8 = nI ((8 * a + b) / 8 * 8) from pk_mul _ 8, pk_sub (by omega), show (8 * a + b) / 8 = a by omega, show 8 * a + b - a * 8 = b by omega]
      refine pk2 ⟨fun z => absurd (nI_lt hi (by omega)) (Int32.not_lt.mpr z), nI_lt hi (by omega)⟩ ?_
      refine pk2 ⟨fun z => absurd (nI_lt (b := 28) (show i < 28 by omega) (by decide)) (Int32.not_lt.mpr z), nI_lt (b := 28) (by omega) (by decide)⟩ ⟨inB_n (by omega) (by decide), ?_⟩
      refine c_30 v1 hw (by omega) hb hm hs ?_
      rw [n2]
      refine pk2 ⟨fun z => absurd (nI_pos' (n := wN t (Qm t m) (chg s a b)) (by omega)) (Int32.not_le.mpr z), nI_pos' (by omega)⟩ ?_
      refine pk2 ⟨fun z => absurd (nI_lt (b := 9) n1 (by decide)) (Int32.not_lt.mpr z), nI_lt (b := 9) n1 (by decide)⟩ ⟨inB_n n1 (by decide), ?_⟩
      have q1 := b1 (wN t (Qm t m) (chg s a b))
      rw [nI_clamp (by omega), hd _ n1, up_eq, nI_1, imax_n (by omega) (by omega), nI_1]
      have ih' := ih (up2 d 164 (wN t (Qm t m) (chg s a b)) (nI ((mfo (wP t m s) ((pL t y).take i)).1 (wN t (Qm t m) (chg s a b)) + 1))) ?_ (fun a k z => by rw [up_na z]; exact fr a k z)
      · unfold mst at ih'
        rw [ew] at ih'
        exact ih'
      · intro k hk
        show _ = nI (if k = wP t m s (8 * a + b) then (mfo (wP t m s) ((pL t y).take i)).1 k + 1 else (mfo (wP t m s) ((pL t y).take i)).1 k)
        rw [ew]
        by_cases ek : k = wN t (Qm t m) (chg s a b)
        · rw [if_pos ek, ek, up_eq]
        · rw [if_neg ek, up_nk ek]
          exact hd k hk
  · intro k hk ih d hz fr
    refine r_31_2 ?_
    simp (disch := omega) only [true_imp_iff, false_imp_iff, not_true_eq_false, not_false_eq_true, and_true, true_and, Int32.reduceToInt, Int64.reduceToInt, Int32.reduceAdd, fa_lt, fa_le, fa_eq, cmi_lt, cmi_le, cmi_gt, cmi_ge, cmi_eq, fa_lt64, fa_le64, fa_eq64, Int32.toInt_toInt64, nI_toInt, ti_m1, sub1_ti, inB_iff, nI_clamp, Int32.add_zero, nI_1, nI_add, nI_p2, nI_p3, nI_p4, nI_p5, nI_p6, nI_p8, nI_p9, nI_p10, nI_m3, nI_m4, nI_m5, nI_m6, nI_m8, nI_m10, nI_m31, nI_m48, nI_m60, nI_m256, nI_t5, nI_t6, nI_a1, nI_a48, nI_a96, nI_d5, nI_d6, nI_d8, nI_d10, nI_d20, nI_s1, nI_s48, pk_sub]
    repeat (first | (with_reducible refine pk1 ?_ ?_; omega) | (with_reducible refine pk2 ?_ ?_; omega) | (with_reducible refine bd1 ?_ ?_; omega))
    refine ih _ ?_ (fun a k z => by rw [up_na z]; exact fr a k z)
    intro i hi
    rcases Nat.lt_succ_iff_lt_or_eq.mp hi with z | z
    · rw [up_nk (by omega)]
      exact hz i z
    · subst z
      rw [up_eq]
theorem c_28 (hv : Wv t di) (hw : Wt t) (hc : Cs t di) (hl : Lp (pL t y) di) {s : Nat} (hs : s < nS t) (kk : ∀ d, FN di d → K (nI (lkV t y s (nM t)).1) d dl) : ClI 3 28 [.ref 159, .int (nI s)] di dl K := by
  have w3 := hw.1.2.2.1
  have V : ∀ d, FN di d → Wv t d := fun d fn => Wv_cong hw (fun a k z1 z2 => fn a k (by omega) (by omega) (by omega)) hv
  refine r_28 (c_31 (m := 0) hv hw hl (Nat.zero_le _) hs ?_)
  intro d ld fn
  refine up_to (n := nM t) (G := fun m => ∀ d, Lp (pL t y) d → FN di d → Wq none 3 28 12 [(0, .ref 159), (1, .int (nI s)), (2, .int (nI (lkV t y s m).1)), (3, .int (nI (lkV t y s m).2)), (4, .int (nI (m + 1)))] [] d dl (RI K)) ?_ ?_ (Nat.zero_le _) d ld fn
  · intro d ld fn
    have c3 : d 5 4 = nI (nM t) := by rw [fn _ _ (by omega) (by omega) (by omega)]; exact hc.2.2.1.1
    refine r_28_12 ?_
    simp (disch := omega) only [true_imp_iff, false_imp_iff, not_true_eq_false, not_false_eq_true, and_true, true_and, Int32.reduceToInt, Int64.reduceToInt, Int32.reduceAdd, fa_lt, fa_le, fa_eq, cmi_lt, cmi_le, cmi_gt, cmi_ge, cmi_eq, fa_lt64, fa_le64, fa_eq64, Int32.toInt_toInt64, nI_toInt, ti_m1, sub1_ti, inB_iff, nI_clamp, Int32.add_zero, nI_1, nI_add, nI_p2, nI_p3, nI_p4, nI_p5, nI_p6, nI_p8, nI_p9, nI_p10, nI_m3, nI_m4, nI_m5, nI_m6, nI_m8, nI_m10, nI_m31, nI_m48, nI_m60, nI_m256, nI_t5, nI_t6, nI_a1, nI_a48, nI_a96, nI_d5, nI_d6, nI_d8, nI_d10, nI_d20, nI_s1, nI_s48, pk_sub, c3]
    repeat (first | (with_reducible refine pk1 ?_ ?_; omega) | (with_reducible refine pk2 ?_ ?_; omega) | (with_reducible refine bd1 ?_ ?_; omega))
    exact kk d fn
  · intro m hm ih d ld fn
    have c3 : d 5 4 = nI (nM t) := by rw [fn _ _ (by omega) (by omega) (by omega)]; exact hc.2.2.1.1
    have b1 := lkV_le hw (y := y) (s := s) m
    have b2 := maV_le hw (y := y) (m + 1) s
    refine r_28_12 ?_
    simp (disch := omega) only [true_imp_iff, false_imp_iff, not_true_eq_false, not_false_eq_true, and_true, true_and, Int32.reduceToInt, Int64.reduceToInt, Int32.reduceAdd, fa_lt, fa_le, fa_eq, cmi_lt, cmi_le, cmi_gt, cmi_ge, cmi_eq, fa_lt64, fa_le64, fa_eq64, Int32.toInt_toInt64, nI_toInt, ti_m1, sub1_ti, inB_iff, nI_clamp, Int32.add_zero, nI_1, nI_add, nI_p2, nI_p3, nI_p4, nI_p5, nI_p6, nI_p8, nI_p9, nI_p10, nI_m3, nI_m4, nI_m5, nI_m6, nI_m8, nI_m10, nI_m31, nI_m48, nI_m60, nI_m256, nI_t5, nI_t6, nI_a1, nI_a48, nI_a96, nI_d5, nI_d6, nI_d8, nI_d10, nI_d20, nI_s1, nI_s48, pk_sub, c3]
    repeat (first | (with_reducible refine pk1 ?_ ?_; omega) | (with_reducible refine pk2 ?_ ?_; omega) | (with_reducible refine bd1 ?_ ?_; omega))
    refine c_31 (V d fn) hw ld (by omega) hs ?_
    intro e le fe
    replace ih := ih e le (fun a k z1 z2 z3 => by rw [fe a k z1 z2 z3]; exact fn a k z1 z2 z3)
    unfold lkV at ih
    by_cases h : maV t y (m + 1) s < (lkV t y s m).2
    · rw [if_pos h] at ih
      simp (disch := omega) only [true_imp_iff, false_imp_iff, not_true_eq_false, not_false_eq_true, and_true, true_and, Int32.reduceToInt, Int64.reduceToInt, Int32.reduceAdd, fa_lt, fa_le, fa_eq, cmi_lt, cmi_le, cmi_gt, cmi_ge, cmi_eq, fa_lt64, fa_le64, fa_eq64, Int32.toInt_toInt64, nI_toInt, ti_m1, sub1_ti, inB_iff, nI_clamp, Int32.add_zero, nI_1, nI_add, nI_p2, nI_p3, nI_p4, nI_p5, nI_p6, nI_p8, nI_p9, nI_p10, nI_m3, nI_m4, nI_m5, nI_m6, nI_m8, nI_m10, nI_m31, nI_m48, nI_m60, nI_m256, nI_t5, nI_t6, nI_a1, nI_a48, nI_a96, nI_d5, nI_d6, nI_d8, nI_d10, nI_d20, nI_s1, nI_s48, pk_sub]
      repeat (first | (with_reducible refine pk1 ?_ ?_; omega) | (with_reducible refine pk2 ?_ ?_; omega) | (with_reducible refine bd1 ?_ ?_; omega))
      exact ih
    · rw [if_neg h] at ih
      simp (disch := omega) only [true_imp_iff, false_imp_iff, not_true_eq_false, not_false_eq_true, and_true, true_and, Int32.reduceToInt, Int64.reduceToInt, Int32.reduceAdd, fa_lt, fa_le, fa_eq, cmi_lt, cmi_le, cmi_gt, cmi_ge, cmi_eq, fa_lt64, fa_le64, fa_eq64, Int32.toInt_toInt64, nI_toInt, ti_m1, sub1_ti, inB_iff, nI_clamp, Int32.add_zero, nI_1, nI_add, nI_p2, nI_p3, nI_p4, nI_p5, nI_p6, nI_p8, nI_p9, nI_p10, nI_m3, nI_m4, nI_m5, nI_m6, nI_m8, nI_m10, nI_m31, nI_m48, nI_m60, nI_m256, nI_t5, nI_t6, nI_a1, nI_a48, nI_a96, nI_d5, nI_d6, nI_d8, nI_d10, nI_d20, nI_s1, nI_s48, pk_sub]
      repeat (first | (with_reducible refine pk1 ?_ ?_; omega) | (with_reducible refine pk2 ?_ ?_; omega) | (with_reducible refine bd1 ?_ ?_; omega))
      exact ih
theorem FC_FN {di d e : tDi} (h : FC di d) (h2 : FN d e) : FC di e := FC_tr h (fun a k z1 z2 z3 z4 z5 => h2 a k z4 (by omega) (by omega))
theorem Cw_FN {d e : tDi} (hw : Wt t) (hv : Wv t d) (hc : Cs t d) (h : FN d e) : Cw t e := ⟨Cs_lo (fun a k z1 z2 => h a k (by omega) (by omega) (by omega)) hc, Or.inr (Wv_cong hw (fun a k z1 z2 => h a k (by omega) (by omega) (by omega)) hv)⟩
theorem Yc_FC {d e : tDi} (h : FC d e) (H : Yc y d) : Yc y e := by
  refine ⟨?_, fun k hk => ?_⟩
  · rw [h _ _ (by omega) (by omega) (by omega) (by omega) (by omega)]; exact H.1
  · rw [h _ _ (by omega) (by omega) (by omega) (by omega) (by omega), h _ _ (by omega) (by omega) (by omega) (by omega) (by omega), h _ _ (by omega) (by omega) (by omega) (by omega) (by omega)]
    exact H.2 k hk
theorem k_111 (hw : Wt t) (hc : Cw t di) (hy : Yb y) (hi : Yc y di) (a : Int32) (kk : ∀ d, Cw t d → FC di d → K (a_sp t y a) d dl) : ClI 4 111 [.ref 0, .int a] di dl K := by
  have w1 := hw.1.1
  unfold a_sp at kk
  rcases ixi a 2 (by omega) with h | h | ⟨j, hj, rfl⟩
  · have kb := kk di hc FC_rf
    rw [rgd_lo h] at kb
    refine r_111 ?_
    simp (disch := omega) only [true_imp_iff, false_imp_iff, not_true_eq_false, not_false_eq_true, and_true, true_and, Int32.reduceToInt, Int64.reduceToInt, Int32.reduceAdd, fa_lt, fa_le, fa_eq, cmi_lt, cmi_le, cmi_gt, cmi_ge, cmi_eq, fa_lt64, fa_le64, fa_eq64, Int32.toInt_toInt64, nI_toInt, ti_m1, sub1_ti, inB_iff, nI_clamp, Int32.add_zero, nI_1, nI_add, nI_p2, nI_p3, nI_p4, nI_p5, nI_p6, nI_p8, nI_p9, nI_p10, nI_m3, nI_m4, nI_m5, nI_m6, nI_m8, nI_m10, nI_m31, nI_m48, nI_m60, nI_m256, nI_t5, nI_t6, nI_a1, nI_a48, nI_a96, nI_d5, nI_d6, nI_d8, nI_d10, nI_d20, nI_s1, nI_s48, pk_sub]
    repeat (first | (with_reducible refine pk1 ?_ ?_; omega) | (with_reducible refine pk2 ?_ ?_; omega) | (with_reducible refine bd1 ?_ ?_; omega))
    exact kb
  · have kb := kk di hc FC_rf
    rw [rgd_hi h] at kb
    refine r_111 ?_
    simp (disch := omega) only [true_imp_iff, false_imp_iff, not_true_eq_false, not_false_eq_true, and_true, true_and, Int32.reduceToInt, Int64.reduceToInt, Int32.reduceAdd, fa_lt, fa_le, fa_eq, cmi_lt, cmi_le, cmi_gt, cmi_ge, cmi_eq, fa_lt64, fa_le64, fa_eq64, Int32.toInt_toInt64, nI_toInt, ti_m1, sub1_ti, inB_iff, nI_clamp, Int32.add_zero, nI_1, nI_add, nI_p2, nI_p3, nI_p4, nI_p5, nI_p6, nI_p8, nI_p9, nI_p10, nI_m3, nI_m4, nI_m5, nI_m6, nI_m8, nI_m10, nI_m31, nI_m48, nI_m60, nI_m256, nI_t5, nI_t6, nI_a1, nI_a48, nI_a96, nI_d5, nI_d6, nI_d8, nI_d10, nI_d20, nI_s1, nI_s48, pk_sub]
    repeat (first | (with_reducible refine pk1 ?_ ?_; omega) | (with_reducible refine pk2 ?_ ?_; omega) | (with_reducible refine bd1 ?_ ?_; omega))
    exact kb
  simp (disch := omega) only [rgd_in] at kk
  have hlen : (pL t y).length ≤ 28 := Nat.le_trans (alP_len (nS t)) (visN_le (nS t) w1 (nS t) (Nat.le_refl _))
  refine r_111 ?_
  simp (disch := omega) only [true_imp_iff, false_imp_iff, not_true_eq_false, not_false_eq_true, and_true, true_and, Int32.reduceToInt, Int64.reduceToInt, Int32.reduceAdd, fa_lt, fa_le, fa_eq, cmi_lt, cmi_le, cmi_gt, cmi_ge, cmi_eq, fa_lt64, fa_le64, fa_eq64, Int32.toInt_toInt64, nI_toInt, ti_m1, sub1_ti, inB_iff, nI_clamp, Int32.add_zero, nI_1, nI_add, nI_p2, nI_p3, nI_p4, nI_p5, nI_p6, nI_p8, nI_p9, nI_p10, nI_m3, nI_m4, nI_m5, nI_m6, nI_m8, nI_m10, nI_m31, nI_m48, nI_m60, nI_m256, nI_t5, nI_t6, nI_a1, nI_a48, nI_a96, nI_d5, nI_d6, nI_d8, nI_d10, nI_d20, nI_s1, nI_s48, pk_sub]
  repeat (first | (with_reducible refine pk1 ?_ ?_; omega) | (with_reducible refine pk2 ?_ ?_; omega) | (with_reducible refine bd1 ?_ ?_; omega))
  refine c_upd hw hc ?_
  intro d hv hd cw fc
  refine c_26 hv hw hd hy (Yc_FC fc hi) ?_
  intro e le fn
  replace kk := kk e (Cw_FN hw hv hd fn) (FC_FN fc fn)
  have l1 := le.1
  unfold swaV at kk
  by_cases ej : j = 0
  · rw [if_pos ej] at kk
    repeat (first | (with_reducible refine pk1 ?_ ?_; omega) | (with_reducible refine pk2 ?_ ?_; omega) | (with_reducible refine bd1 ?_ ?_; omega))
    rw [l1]
    exact kk
  · rw [if_neg ej] at kk
    simp (disch := omega) only [true_imp_iff, false_imp_iff, not_true_eq_false, not_false_eq_true, and_true, true_and, Int32.reduceToInt, Int64.reduceToInt, Int32.reduceAdd, fa_lt, fa_le, fa_eq, cmi_lt, cmi_le, cmi_gt, cmi_ge, cmi_eq, fa_lt64, fa_le64, fa_eq64, Int32.toInt_toInt64, nI_toInt, ti_m1, sub1_ti, inB_iff, nI_clamp, Int32.add_zero, nI_1, nI_add, nI_p2, nI_p3, nI_p4, nI_p5, nI_p6, nI_p8, nI_p9, nI_p10, nI_m3, nI_m4, nI_m5, nI_m6, nI_m8, nI_m10, nI_m31, nI_m48, nI_m60, nI_m256, nI_t5, nI_t6, nI_a1, nI_a48, nI_a96, nI_d5, nI_d6, nI_d8, nI_d10, nI_d20, nI_s1, nI_s48, pk_sub, l1]
    repeat (first | (with_reducible refine pk1 ?_ ?_; omega) | (with_reducible refine pk2 ?_ ?_; omega) | (with_reducible refine bd1 ?_ ?_; omega))
    cases hL : pL t y with
    | nil =>
      rw [hL] at kk
      refine pk1 ?_ kk
      exact ⟨by decide, by decide⟩
    | cons x L =>
      rw [hL] at kk
      have l2 := le.2 0 (by rw [hL]; exact Nat.succ_pos _)
      have l3 : e 163 0 = nI x := by
        rw [l2]
        congr 1
        simp [hL]
      rw [l3]
      refine pk2 ?_ kk
      constructor
      · intro z
        have : (x :: L).length = L.length + 1 := rfl
        omega
      · have : (x :: L).length = L.length + 1 := rfl
        omega
theorem k_112 (hw : Wt t) (hc : Cw t di) (hy : Yb y) (hi : Yc y di) (a : Int32) (kk : ∀ d, Cw t d → FC di d → K (a_lo t y a) d dl) : ClI 4 112 [.ref 0, .int a] di dl K := by
  have w1 := hw.1.1
  have c1 := hc.1.1.1
  unfold a_lo at kk
  rcases ixi a (nS t) (by omega) with h | h | ⟨s, hs, rfl⟩
  · have kb := kk di hc FC_rf
    rw [rgd_lo h] at kb
    refine r_112 ?_
    simp (disch := omega) only [true_imp_iff, false_imp_iff, not_true_eq_false, not_false_eq_true, and_true, true_and, Int32.reduceToInt, Int64.reduceToInt, Int32.reduceAdd, fa_lt, fa_le, fa_eq, cmi_lt, cmi_le, cmi_gt, cmi_ge, cmi_eq, fa_lt64, fa_le64, fa_eq64, Int32.toInt_toInt64, nI_toInt, ti_m1, sub1_ti, inB_iff, nI_clamp, Int32.add_zero, nI_1, nI_add, nI_p2, nI_p3, nI_p4, nI_p5, nI_p6, nI_p8, nI_p9, nI_p10, nI_m3, nI_m4, nI_m5, nI_m6, nI_m8, nI_m10, nI_m31, nI_m48, nI_m60, nI_m256, nI_t5, nI_t6, nI_a1, nI_a48, nI_a96, nI_d5, nI_d6, nI_d8, nI_d10, nI_d20, nI_s1, nI_s48, pk_sub, c1]
    repeat (first | (with_reducible refine pk1 ?_ ?_; omega) | (with_reducible refine pk2 ?_ ?_; omega) | (with_reducible refine bd1 ?_ ?_; omega))
    exact kb
  · have kb := kk di hc FC_rf
    rw [rgd_hi h] at kb
    refine r_112 ?_
    simp (disch := omega) only [true_imp_iff, false_imp_iff, not_true_eq_false, not_false_eq_true, and_true, true_and, Int32.reduceToInt, Int64.reduceToInt, Int32.reduceAdd, fa_lt, fa_le, fa_eq, cmi_lt, cmi_le, cmi_gt, cmi_ge, cmi_eq, fa_lt64, fa_le64, fa_eq64, Int32.toInt_toInt64, nI_toInt, ti_m1, sub1_ti, inB_iff, nI_clamp, Int32.add_zero, nI_1, nI_add, nI_p2, nI_p3, nI_p4, nI_p5, nI_p6, nI_p8, nI_p9, nI_p10, nI_m3, nI_m4, nI_m5, nI_m6, nI_m8, nI_m10, nI_m31, nI_m48, nI_m60, nI_m256, nI_t5, nI_t6, nI_a1, nI_a48, nI_a96, nI_d5, nI_d6, nI_d8, nI_d10, nI_d20, nI_s1, nI_s48, pk_sub, c1]
    repeat (first | (with_reducible refine pk1 ?_ ?_; omega) | (with_reducible refine pk2 ?_ ?_; omega) | (with_reducible refine bd1 ?_ ?_; omega))
    exact kb
  simp (disch := omega) only [rgd_in] at kk
  refine r_112 ?_
  simp (disch := omega) only [true_imp_iff, false_imp_iff, not_true_eq_false, not_false_eq_true, and_true, true_and, Int32.reduceToInt, Int64.reduceToInt, Int32.reduceAdd, fa_lt, fa_le, fa_eq, cmi_lt, cmi_le, cmi_gt, cmi_ge, cmi_eq, fa_lt64, fa_le64, fa_eq64, Int32.toInt_toInt64, nI_toInt, ti_m1, sub1_ti, inB_iff, nI_clamp, Int32.add_zero, nI_1, nI_add, nI_p2, nI_p3, nI_p4, nI_p5, nI_p6, nI_p8, nI_p9, nI_p10, nI_m3, nI_m4, nI_m5, nI_m6, nI_m8, nI_m10, nI_m31, nI_m48, nI_m60, nI_m256, nI_t5, nI_t6, nI_a1, nI_a48, nI_a96, nI_d5, nI_d6, nI_d8, nI_d10, nI_d20, nI_s1, nI_s48, pk_sub, c1]
  repeat (first | (with_reducible refine pk1 ?_ ?_; omega) | (with_reducible refine pk2 ?_ ?_; omega) | (with_reducible refine bd1 ?_ ?_; omega))
  refine c_upd hw hc ?_
  intro d hv hd cw fc
  refine c_26 hv hw hd hy (Yc_FC fc hi) ?_
  intro e le fn
  have cwe := Cw_FN hw hv hd fn
  have hve : Wv t e := Wv_cong hw (fun a k z1 z2 => fn a k (by omega) (by omega) (by omega)) hv
  refine c_28 hve hw cwe.1 le hs ?_
  intro g fg
  exact kk g (Cw_FN hw hve cwe.1 fg) (FC_FN (FC_FN fc fn) fg)
end NIGHT
