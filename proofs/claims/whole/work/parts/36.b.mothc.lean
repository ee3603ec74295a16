/-! moths: the class, the reference -/
def a_mt (t : tTown) (a b c e : Int32) : Option (Nat × Nat × Nat × Nat) := if (0 ≤ a.toInt ∧ a.toInt ≤ 16) ∧ (0 ≤ b.toInt ∧ b.toInt < nC t) ∧ (0 ≤ c.toInt ∧ c.toInt ≤ nM t ∧ c.toInt ≤ 12) ∧ (0 ≤ e.toInt ∧ e.toInt ≤ 1) then some (a.toInt.toNat, b.toInt.toNat, c.toInt.toNat, e.toInt.toNat) else none
def a_mV (t : tTown) : Option (Nat × Nat × Nat × Nat) → Int64
  | none => -9223372036854775806
  | some (c, k, n, j) => moV t c k n j
theorem up_eqL (f : tDl) (a k : Nat) (v : Int64) : up2 f a k v a k = v := if_pos ⟨rfl, rfl⟩
/-- the class's cases behind T months of moths -/
def Lq (c e A T : Nat) (l : tDl) : Prop := (∀ a, 1 ≤ a → a ≤ 9 → l 166 a = lN (Lfm c e A T a)) ∧ l 165 3 = 0 ∧ l 165 4 = lN (16 ^ T)
theorem lN_16 (a : Nat) : lN a * 16 = lN (a * 16) := lN_mul a 16
theorem lN_o (a : Nat) : lN a * 1 = lN a := by
  have := lN_mul a 1
  rw [Nat.mul_one] at this
  exact this
theorem lN_z (a : Nat) : lN a + 0 = lN a := lN_add a 0
theorem c_2 {di : tDi} {dl : tDl} {c e A : Nat} (hA : A ≤ 9) {K : tDi → tDl → Prop} (kk : ∀ l, Lq c e A 0 l → K di l) : ClV 0 2 [.ref 165, .int (nI A)] di dl K := by
  refine r_2 ?_
  refine up_to (n := 10) (G := fun i => ∀ l : tDl, (∀ a, a < i → l 166 a = lN (if a = A then 1 else 0)) → Wq none 0 2 2 [(0, .ref 165), (1, .int (nI A)), (2, .int (nI i))] [] di l (RV K)) ?_ ?_ (Nat.zero_le _) dl (fun a ha => absurd ha (Nat.not_lt_zero a))
  · intro l h
    refine r_2_2 (pk1 (by decide) ?_)
    refine kk _ ⟨fun a h1 h2 => ?_, ?_, ?_⟩
    · rw [up_na (by omega), up_na (by omega)]
      exact h a (by omega)
    · rw [up_nk (by omega), up_eqL]
    · rw [up_eqL]; rfl
  · intro i hi ih l h
    refine r_2_2 ?_
    have go : ∀ v, v = lN (if i = A then 1 else 0) → Wq none 0 2 2 [(0, .ref 165), (1, .int (nI A)), (2, .int (nI (i + 1)))] [] di (up2 l 166 i v) (RV K) := by
      intro v hv
      refine ih _ ?_
      intro a ha
      rcases Nat.lt_succ_iff_lt_or_eq.mp ha with z | z
      · rw [up_nk (by omega)]
        exact h a z
      · subst z
        rw [up_eqL]
        exact hv
    by_cases e : i = A
    · simp (disch := omega) only [true_imp_iff, false_imp_iff, not_true_eq_false, not_false_eq_true, and_true, true_and, Int32.reduceToInt, Int64.reduceToInt, Int32.reduceAdd, fa_lt, fa_le, fa_eq, cmi_lt, cmi_le, cmi_gt, cmi_ge, cmi_eq, fa_lt64, fa_le64, fa_eq64, Int32.toInt_toInt64, nI_toInt, ti_m1, sub1_ti, inB_iff, nI_clamp, Int32.add_zero, nI_1, nI_add, nI_p2, nI_p3, nI_p4, nI_p5, nI_p6, nI_p8, nI_p9, nI_p10, nI_m3, nI_m4, nI_m5, nI_m6, nI_m8, nI_m10, nI_m31, nI_m48, nI_m60, nI_m256, nI_t5, nI_t6, nI_a1, nI_a48, nI_a96, nI_d5, nI_d6, nI_d8, nI_d10, nI_d20, nI_s1, nI_s48, pk_sub]
      repeat (first | (with_reducible refine pk1 ?_ ?_; omega) | (with_reducible refine pk2 ?_ ?_; omega) | (with_reducible refine bd1 ?_ ?_; omega))
      exact go 1 (by rw [if_pos e]; rfl)
    · simp (disch := omega) only [true_imp_iff, false_imp_iff, not_true_eq_false, not_false_eq_true, and_true, true_and, Int32.reduceToInt, Int64.reduceToInt, Int32.reduceAdd, fa_lt, fa_le, fa_eq, cmi_lt, cmi_le, cmi_gt, cmi_ge, cmi_eq, fa_lt64, fa_le64, fa_eq64, Int32.toInt_toInt64, nI_toInt, ti_m1, sub1_ti, inB_iff, nI_clamp, Int32.add_zero, nI_1, nI_add, nI_p2, nI_p3, nI_p4, nI_p5, nI_p6, nI_p8, nI_p9, nI_p10, nI_m3, nI_m4, nI_m5, nI_m6, nI_m8, nI_m10, nI_m31, nI_m48, nI_m60, nI_m256, nI_t5, nI_t6, nI_a1, nI_a48, nI_a96, nI_d5, nI_d6, nI_d8, nI_d10, nI_d20, nI_s1, nI_s48, pk_sub]
      repeat (first | (with_reducible refine pk1 ?_ ?_; omega) | (with_reducible refine pk2 ?_ ?_; omega) | (with_reducible refine bd1 ?_ ?_; omega))
      exact go 0 (by rw [if_neg e]; rfl)
theorem c_3 {di : tDi} {dl : tDl} {c e A T : Nat} (hc : c ≤ 16) (he : 1 ≤ e) (he2 : e ≤ 2) (h : Lq c e A T dl) {K : tDi → tDl → Prop} (kk : ∀ l, Lq c e A (T + 1) l → K di l) : ClV 0 3 [.ref 165, .int (nI c), .int (nI e)] di dl K := by
  obtain ⟨h1, h2, h3⟩ := h
  refine r_3 ?_
  have G := up_to (n := 10) (i := 1) (G := fun i => 1 ≤ i → ∀ l : tDl, (∀ a, 1 ≤ a → a ≤ 9 → l 166 a = lN (if a < i then Lfm c e A T a * (16 - c) + (if a + e < i then Lfm c e A T (a + e) * c else 0) else Lfm c e A T a)) → l 165 3 = 0 → l 165 4 = lN (16 ^ T) → Wq none 0 3 14 [(0, .ref 165), (1, .int (nI c)), (2, .int (nI e)), (3, .int (nI i))] [] di l (RV K)) ?_ ?_ (by omega)
  · refine G (Nat.le_refl 1) _ ?_ (by rw [up_na (by omega)]; exact h2) (by rw [up_na (by omega)]; exact h3)
    intro a ha hb
    rw [up_nk (by omega), if_neg (by omega)]
    exact h1 a ha hb
  · intro _ l g1 g2 g3
    refine r_3_14 (pk1 (by decide) ?_)
    rw [g3, lN_16]
    refine kk _ ⟨fun a ha hb => ?_, by rw [up_nk (by omega)]; exact g2, by rw [up_eqL, Nat.pow_succ]⟩
    rw [up_na (by omega), g1 a ha hb, if_pos (by omega)]
    congr 1
    show _ = Lfm c e A T a * (16 - c) + (if a + e ≤ 9 then Lfm c e A T (a + e) * c else 0)
    congr 1
    by_cases z : a + e ≤ 9
    · rw [if_pos z, if_pos (by omega)]
    · rw [if_neg z, if_neg (by omega)]
  · intro i hi ih hi1 l g1 g2 g3
    have v := g1 i hi1 (by omega)
    rw [if_neg (by omega)] at v
    have e16 : ((16 : Int32) - nI c).toInt64 = lN (16 - c) := by
      rw [show (16 : Int32) - nI c = nI (16 - c) from pk_sub (a := 16) hc, nI_l (by omega)]
    have ec : (nI c).toInt64 = lN c := nI_l (by omega)
    refine r_3_14 (pk2 ⟨fun z => by rw [fa_lt, ti_9, nI_toInt (by omega)] at z; omega, by rw [fa_le, ti_9, nI_toInt (by omega)]; omega⟩ ?_)
    rw [imx0 (by omega) (by omega), nI_clamp (by omega), nI_clamp (by omega), v, e16, ec, lN_mul, lN_mul, nI_1, up_nk (by omega)]
    refine ⟨inB_n (by omega) (by decide), inB_n (by omega) (by decide), ?_⟩
    refine ih (by omega) _ ?_ (by rw [up_na (by omega), up_na (by omega)]; exact g2) (by rw [up_na (by omega), up_na (by omega)]; exact g3)
    intro a ha hb
    by_cases ea : a = i - e
    · rw [ea, up_eqL]
      have ga := g1 (i - e) (by omega) (by omega)
      rw [if_pos (by omega), if_neg (by omega), Nat.add_zero] at ga
      rw [ga, lN_add, if_pos (by omega), if_pos (by omega), show i - e + e = i by omega]
    · rw [up_nk ea]
      by_cases ei : a = i
      · rw [ei, up_eqL, if_pos (by omega), if_neg (by omega), Nat.add_zero]
      · rw [up_nk ei, g1 a ha hb]
        by_cases z : a < i
        · rw [if_pos z, if_pos (show a < i + 1 by omega)]
          by_cases z2 : a + e < i
          · rw [if_pos z2, if_pos (show a + e < i + 1 by omega)]
          · rw [if_neg z2, if_neg (show ¬ a + e < i + 1 by omega)]
        · rw [if_neg z, if_neg (show ¬ a < i + 1 by omega)]
theorem two_rem {a : Nat} (ha : a < 2 ^ 63) : lN a - lN a / 2 * 2 = lN (a % 2) := pk_lRem ha (by decide) (by decide)
theorem two_div {a : Nat} (ha : a < 2 ^ 63) : lN a / 2 = lN (a / 2) := pk_lDiv ha (by decide) (by decide)
theorem c_4 {di : tDi} {dl : tDl} {a b : Nat} (ha : a < 2 ^ 63) (hb : b < 2 ^ 63) (h1 : dl 165 3 = lN a) (h2 : dl 165 4 = lN b) {K : tDi → tDl → Prop} (kk : ∀ l, l 165 3 = lN (lowq 63 a b).1 → l 165 4 = lN (lowq 63 a b).2 → K di l) : ClV 0 4 [.ref 165] di dl K := by
  refine r_4 ?_
  have L : ∀ f k x y l, k + f = 63 → x < 2 ^ 63 → y < 2 ^ 63 → l 165 3 = lN x → l 165 4 = lN y → lowq f x y = lowq 63 a b → Wq none 0 4 2 [(0, .ref 165), (1, .int (nI k))] [] di l (RV K) := by
    intro f
    induction f with
    | zero =>
      intro k x y l hk hx hy g1 g2 hq
      have e : k = 63 := by omega
      subst e
      have hq' : (x, y) = lowq 63 a b := hq
      refine r_4_2 (pk1 (by decide) (kk l ?_ ?_))
      · rw [← hq']; exact g1
      · rw [← hq']; exact g2
    | succ f ih =>
      intro k x y l hk hx hy g1 g2 hq
      refine r_4_2 ?_
      rw [g1, g2, two_rem hx, two_div hx, two_div hy]
      rw [show lowq (f + 1) x y = (if 1 < y ∧ x % 2 = 0 then lowq f (x / 2) (y / 2) else (x, y)) from rfl] at hq
      have hm : x % 2 < 2 ^ 63 := by omega
      by_cases hc : 1 < y ∧ x % 2 = 0
      · rw [if_pos hc] at hq
        simp (disch := omega) only [true_imp_iff, false_imp_iff, not_true_eq_false, not_false_eq_true, and_true, true_and, Int32.reduceToInt, Int64.reduceToInt, Int32.reduceAdd, fa_lt, fa_le, fa_eq, cmi_lt, cmi_le, cmi_gt, cmi_ge, cmi_eq, fa_lt64, fa_le64, fa_eq64, Int32.toInt_toInt64, nI_toInt, ti_m1, sub1_ti, inB_iff, nI_clamp, Int32.add_zero, nI_1, nI_add, nI_p2, nI_p3, nI_p4, nI_p5, nI_p6, nI_p8, nI_p9, nI_p10, nI_m3, nI_m4, nI_m5, nI_m6, nI_m8, nI_m10, nI_m31, nI_m48, nI_m60, nI_m256, nI_t5, nI_t6, nI_a1, nI_a48, nI_a96, nI_d5, nI_d6, nI_d8, nI_d10, nI_d20, nI_s1, nI_s48, pk_sub, pk_lT]
        repeat (first | (with_reducible refine pk1 ?_ ?_; omega) | (with_reducible refine pk2 ?_ ?_; omega) | (with_reducible refine bd1 ?_ ?_; omega))
        exact ih (k + 1) (x / 2) (y / 2) _ (by omega) (by omega) (by omega) (by rw [up_nk (by omega), up_eqL]) (by rw [up_eqL]) hq
      · rw [if_neg hc] at hq
        have fin : K di l := by
          refine kk l ?_ ?_
          · rw [← hq]; exact g1
          · rw [← hq]; exact g2
        by_cases hy1 : 1 < y
        · simp (disch := omega) only [true_imp_iff, false_imp_iff, not_true_eq_false, not_false_eq_true, and_true, true_and, Int32.reduceToInt, Int64.reduceToInt, Int32.reduceAdd, fa_lt, fa_le, fa_eq, cmi_lt, cmi_le, cmi_gt, cmi_ge, cmi_eq, fa_lt64, fa_le64, fa_eq64, Int32.toInt_toInt64, nI_toInt, ti_m1, sub1_ti, inB_iff, nI_clamp, Int32.add_zero, nI_1, nI_add, nI_p2, nI_p3, nI_p4, nI_p5, nI_p6, nI_p8, nI_p9, nI_p10, nI_m3, nI_m4, nI_m5, nI_m6, nI_m8, nI_m10, nI_m31, nI_m48, nI_m60, nI_m256, nI_t5, nI_t6, nI_a1, nI_a48, nI_a96, nI_d5, nI_d6, nI_d8, nI_d10, nI_d20, nI_s1, nI_s48, pk_sub, pk_lT]
          repeat (first | (with_reducible refine pk1 ?_ ?_; omega) | (with_reducible refine pk2 ?_ ?_; omega) | (with_reducible refine bd1 ?_ ?_; omega))
          exact fin
        · simp (disch := omega) only [true_imp_iff, false_imp_iff, not_true_eq_false, not_false_eq_true, and_true, true_and, Int32.reduceToInt, Int64.reduceToInt, Int32.reduceAdd, fa_lt, fa_le, fa_eq, cmi_lt, cmi_le, cmi_gt, cmi_ge, cmi_eq, fa_lt64, fa_le64, fa_eq64, Int32.toInt_toInt64, nI_toInt, ti_m1, sub1_ti, inB_iff, nI_clamp, Int32.add_zero, nI_1, nI_add, nI_p2, nI_p3, nI_p4, nI_p5, nI_p6, nI_p8, nI_p9, nI_p10, nI_m3, nI_m4, nI_m5, nI_m6, nI_m8, nI_m10, nI_m31, nI_m48, nI_m60, nI_m256, nI_t5, nI_t6, nI_a1, nI_a48, nI_a96, nI_d5, nI_d6, nI_d8, nI_d10, nI_d20, nI_s1, nI_s48, pk_sub, pk_lT]
          repeat (first | (with_reducible refine pk1 ?_ ?_; omega) | (with_reducible refine pk2 ?_ ?_; omega) | (with_reducible refine bd1 ?_ ?_; omega))
          exact fin
  exact L 63 0 a b dl (by omega) ha hb h1 h2 rfl
theorem mcnt_le {t : tTown} (n : Nat) : mcnt t n ≤ n := fa_cnt_le _ n
theorem p16_le {T : Nat} (h : T ≤ 12) : 16 ^ T ≤ 16 ^ 12 := Nat.pow_le_pow_right (by decide) h
theorem c_1 {t : tTown} {di : tDi} {dl : tDl} (hw : Wt t) (hcs : Cs t di) {c k n : Nat} (hc : c ≤ 16) (hk : k < nC t) (hn : n ≤ nM t) (hn2 : n ≤ 12) {K : tDi → tDl → Prop} (kk : ∀ l, l 165 3 = moV t c k n 0 → l 165 4 = moV t c k n 1 → K di l) : ClV 2 1 [.ref 165, .int (nI c), .int (nI k), .int (nI n)] di dl K := by
  obtain ⟨v1, v2, v3, v4, v5, v6⟩ := hw.2.2.1 k hk
  have w3 := hw.1.2.2.1
  refine r_1 (c_11 hcs hk ?_)
  -- the months
  have M : ∀ e, e = eat (cv t k 1) → ∀ l, Lq c e (cv t k 3) 0 l → Wq none 2 1 28 [(0, .ref 165), (1, .int (nI c)), (3, .int (nI n)), (4, .int (nI e)), (5, .int 0)] [] di l (RV K) := by
    intro e ee l hl
    have he : e ≤ 2 := by
      rw [ee]
      unfold eat
      split
      · omega
      · split <;> omega
    -- the end
    have E : ∀ l T, Lq c e (cv t k 3) T l → T = (if e = 0 then 0 else mcnt t n) → Wq none 2 1 28 [(0, .ref 165), (1, .int (nI c)), (3, .int (nI n)), (4, .int (nI e)), (5, .int (nI n))] [] di l (RV K) := by
      intro l T hl hT
      obtain ⟨l1, l2, l3⟩ := hl
      have hT12 : T ≤ 12 := by
        rw [hT]
        have := mcnt_le (t := t) n
        split <;> omega
      refine r_1_28 (pk1 ⟨Int32.le_refl _, fun z => absurd (Int32.le_refl _) (Int32.not_le.mpr z)⟩ ?_)
      have S := up_to (n := 9) (i := 0) (G := fun a => ∀ l : tDl, (∀ a, 1 ≤ a → a ≤ 9 → l 166 a = lN (Lfm c e (cv t k 3) T a)) → l 165 3 = lN (sL c e (cv t k 3) T a) → l 165 4 = lN (16 ^ T) → Wq none 2 1 68 [(0, .ref 165), (5, .int (nI (a + 1)))] [] di l (RV K)) ?_ ?_ (by omega)
      · exact S l l1 l2 l3
      · intro l l1 l2 l3
        refine r_1_68 (pk1 (by decide) ?_)
        have hp := p16_le hT12
        have key : lowq 63 (sL c e (cv t k 3) T 9) (16 ^ T) = (moR t c k n / Nat.gcd (moR t c k n) (16 ^ mcnt t n), 16 ^ mcnt t n / Nat.gcd (moR t c k n) (16 ^ mcnt t n)) ∧ sL c e (cv t k 3) T 9 < 2 ^ 63 := by
          by_cases e0 : e = 0
          · rw [if_pos e0] at hT
            subst hT
            rw [sL_0 v5 v6]
            have er : moR t c k n = 16 ^ mcnt t n := by
              unfold moR
              rw [← ee, e0]
              exact abR_0 hc v5 _
            rw [er, Nat.gcd_self, Nat.div_self (Nat.pos_of_ne_zero (by
              have := Nat.pow_pos (n := mcnt t n) (show 0 < 16 by decide)
              omega))]
            exact ⟨by decide, by decide⟩
          · rw [if_neg e0] at hT
            have es : sL c e (cv t k 3) T 9 = abR c e (cv t k 3) T (T + 1) := by
              rcases (by omega : e = 1 ∨ e = 2) with z | z
              · rw [z]; exact sL_1 v5 v6
              · rw [z]; exact sL_2 v5 v6
            have er : moR t c k n = abR c e (cv t k 3) T (T + 1) := by
              unfold moR
              rw [← ee, ← hT]
            have hb := abR_le (e := e) (A := cv t k 3) hc T (T + 1)
            have hb2 : (T + 1) * 16 ^ T ≤ 13 * 16 ^ 12 := Nat.mul_le_mul (by omega) hp
            refine ⟨?_, by rw [es]; omega⟩
            rw [es, er, ← hT, pow16, lowq_g (4 * T) 63 _ (by omega)]
        have hp2 : 16 ^ T < 2 ^ 63 := by omega
        refine c_4 key.2 hp2 l2 l3 ?_
        intro g g1 g2
        refine kk g ?_ ?_
        · rw [g1, key.1]; rfl
        · rw [g2, key.1]; rfl
      · intro a ha ia l l1 l2 l3
        refine r_1_68 (pk2 ⟨fun z => by rw [fa_lt, ti_9, nI_toInt (by omega)] at z; omega, by rw [fa_le, ti_9, nI_toInt (by omega)]; omega⟩ ⟨inB_n (by omega) (by decide), ?_⟩)
        rw [nI_clamp (by omega), l1 (a + 1) (by omega) (by omega), l2, lN_add, nI_1]
        refine ia _ ?_ (by rw [up_eqL]; rfl) (by rw [up_nk (by omega)]; exact l3)
        intro b hb hb2
        rw [up_na (by omega)]
        exact l1 b hb hb2
    refine up_to (n := n) (G := fun m => ∀ l T, Lq c e (cv t k 3) T l → T = (if e = 0 then 0 else mcnt t m) → Wq none 2 1 28 [(0, .ref 165), (1, .int (nI c)), (3, .int (nI n)), (4, .int (nI e)), (5, .int (nI m))] [] di l (RV K)) E ?_ (Nat.zero_le _) l 0 hl (by split <;> rfl)
    intro m hm im l T hl hT
    refine r_1_28 (pk2 ⟨fun z => absurd (nI_lt hm (by omega)) (Int32.not_lt.mpr z), nI_lt hm (by omega)⟩ (c_35t hw hcs (by omega) ?_))
    rw [nI_1]
    have w8 := hw.2.2.2 m (by omega)
    by_cases h4 : mo t m = 4
    · refine pk2 ⟨fun z => z (by rw [h4]; rfl), by rw [h4]; rfl⟩ ?_
      have ec : mcnt t (m + 1) = mcnt t m + 1 := fa_cnt_yes (decide_eq_true h4)
      by_cases e0 : e = 0
      · refine pk1 ⟨by rw [e0]; decide, by rw [e0]; decide⟩ (im l T hl ?_)
        rw [if_pos e0] at hT ⊢
        exact hT
      · refine pk2 ⟨fun z => by rw [fa_le, ti_0, nI_toInt (by omega)] at z; omega, by rw [fa_lt, ti_0, nI_toInt (by omega)]; omega⟩ ?_
        refine c_3 hc (by omega) he hl ?_
        intro g hg
        refine im g (T + 1) hg ?_
        rw [if_neg e0] at hT ⊢
        rw [ec, hT]
    · have ne : ¬ nI (mo t m) = 4 := fun z => h4 ((nI_eq (b := 4) (by omega) (by decide)).mp z)
      have ec : mcnt t (m + 1) = mcnt t m := fa_cnt_no (decide_eq_false h4)
      refine pk1 ⟨ne, ne⟩ (im l T hl ?_)
      rw [ec]
      exact hT
  have st : ∀ e, e = eat (cv t k 1) → ∀ l, Lq c e (cv t k 3) 0 l → ClI 1 9 [.ref 3, .int (nI k)] di l (fun r3 di3 dl3 => ((r3 = 0 → (Wq none 2 1 28 [(0, .ref 165), (1, .int (nI c)), (3, .int (nI n)), (4, .int 2), (5, .int 0)] [] di3 dl3 (RV K))) ∧ (¬ r3 = 0 → ((r3 = 2 → (Wq none 2 1 28 [(0, .ref 165), (1, .int (nI c)), (3, .int (nI n)), (4, .int 1), (5, .int 0)] [] di3 dl3 (RV K))) ∧ (¬ r3 = 2 → (Wq none 2 1 28 [(0, .ref 165), (1, .int (nI c)), (3, .int (nI n)), (4, .int 0), (5, .int 0)] [] di3 dl3 (RV K))))))) := by
    intro e ee l hl
    refine c_9 hw hcs hk ?_
    have m0 := M e ee l hl
    unfold eat at ee
    rcases (by omega : cv t k 1 = 0 ∨ cv t k 1 = 1 ∨ cv t k 1 = 2) with z | z | z
    · rw [if_pos z] at ee
      subst ee
      rw [z]
      exact pk1 (by decide) m0
    · rw [if_neg (by omega), if_neg (by omega)] at ee
      subst ee
      rw [z]
      exact pk2 (by decide) (pk2 (by decide) m0)
    · rw [if_neg (by omega), if_pos z] at ee
      subst ee
      rw [z]
      exact pk2 (by decide) (pk1 (by decide) m0)
  exact c_2 (c := c) (e := eat (cv t k 1)) v6 (fun l hl => st _ rfl l hl)
theorem k_113 {t : tTown} {di : tDi} {dl : tDl} {K : Int64 → tDi → tDl → Prop} (hw : Wt t) (hc : Cs t di) (a b c e : Int32) (kk : ∀ l, K (a_mV t (a_mt t a b c e)) di l) : ClJ 3 113 [.ref 0, .int a, .int b, .int c, .int e] di dl K := by
  have w2 := hw.1.2.1
  have w3 := hw.1.2.2.1
  have c2 := hc.2.1.1
  have c3 := hc.2.2.1.1
  unfold a_mt at kk
  by_cases h : (0 ≤ a.toInt ∧ a.toInt ≤ 16) ∧ (0 ≤ b.toInt ∧ b.toInt < nC t) ∧ (0 ≤ c.toInt ∧ c.toInt ≤ nM t ∧ c.toInt ≤ 12) ∧ (0 ≤ e.toInt ∧ e.toInt ≤ 1)
  · rcases ixp a with z | ⟨a', ha, rfl⟩
    · omega
    rcases ixp b with z | ⟨b', hb, rfl⟩
    · omega
    rcases ixp c with z | ⟨c', hc', rfl⟩
    · omega
    rcases ixp e with z | ⟨e', he, rfl⟩
    · omega
    rw [nI_toInt ha, nI_toInt hb, nI_toInt hc', nI_toInt he] at h
    simp only [nI_toInt ha, nI_toInt hb, nI_toInt hc', nI_toInt he, if_pos h, Int.toNat_natCast] at kk
    have kk' : ∀ l, K (moV t a' b' c' e') di l := kk
    refine r_113 ?_
    simp (disch := omega) only [true_imp_iff, false_imp_iff, not_true_eq_false, not_false_eq_true, and_true, true_and, Int32.reduceToInt, Int64.reduceToInt, Int32.reduceAdd, fa_lt, fa_le, fa_eq, cmi_lt, cmi_le, cmi_gt, cmi_ge, cmi_eq, fa_lt64, fa_le64, fa_eq64, Int32.toInt_toInt64, nI_toInt, ti_m1, sub1_ti, inB_iff, nI_clamp, Int32.add_zero, nI_1, nI_add, nI_p2, nI_p3, nI_p4, nI_p5, nI_p6, nI_p8, nI_p9, nI_p10, nI_m3, nI_m4, nI_m5, nI_m6, nI_m8, nI_m10, nI_m31, nI_m48, nI_m60, nI_m256, nI_t5, nI_t6, nI_a1, nI_a48, nI_a96, nI_d5, nI_d6, nI_d8, nI_d10, nI_d20, nI_s1, nI_s48, pk_sub, c2, c3]
    repeat (first | (with_reducible refine pk1 ?_ ?_; omega) | (with_reducible refine pk2 ?_ ?_; omega) | (with_reducible refine bd1 ?_ ?_; omega))
    refine c_1 hw hc (by omega) (by omega) (by omega) (by omega) ?_
    intro l l1 l2
    rcases (by omega : e' = 0 ∨ e' = 1) with z | z
    · subst z
      repeat (first | (with_reducible refine pk1 ?_ ?_; omega) | (with_reducible refine pk2 ?_ ?_; omega) | (with_reducible refine bd1 ?_ ?_; omega))
      rw [l1]
      exact kk' l
    · subst z
      repeat (first | (with_reducible refine pk1 ?_ ?_; omega) | (with_reducible refine pk2 ?_ ?_; omega) | (with_reducible refine bd1 ?_ ?_; omega))
      rw [l2]
      exact kk' l
  · have kb := kk dl
    rw [if_neg h] at kb
    have kb' : K (-9223372036854775806) di dl := kb
    refine r_113 ?_
    simp (disch := omega) only [true_imp_iff, false_imp_iff, not_true_eq_false, not_false_eq_true, and_true, true_and, Int32.reduceToInt, Int64.reduceToInt, Int32.reduceAdd, fa_lt, fa_le, fa_eq, cmi_lt, cmi_le, cmi_gt, cmi_ge, cmi_eq, fa_lt64, fa_le64, fa_eq64, Int32.toInt_toInt64, nI_toInt, ti_m1, sub1_ti, inB_iff, nI_clamp, Int32.add_zero, nI_1, nI_add, nI_p2, nI_p3, nI_p4, nI_p5, nI_p6, nI_p8, nI_p9, nI_p10, nI_m3, nI_m4, nI_m5, nI_m6, nI_m8, nI_m10, nI_m31, nI_m48, nI_m60, nI_m256, nI_t5, nI_t6, nI_a1, nI_a48, nI_a96, nI_d5, nI_d6, nI_d8, nI_d10, nI_d20, nI_s1, nI_s48, pk_sub, c2, c3]
    have F : ∀ {P Q : Prop}, (a.toInt < 0 → K (-9223372036854775806) di dl) ∧ (0 ≤ a.toInt → (16 < a.toInt → K (-9223372036854775806) di dl) ∧ (a.toInt ≤ 16 → (b.toInt < 0 → K (-9223372036854775806) di dl) ∧ (0 ≤ b.toInt → ((nC t : Int) ≤ b.toInt → K (-9223372036854775806) di dl) ∧ (b.toInt < (nC t : Int) → K (-9223372036854775806) di dl)))) := ⟨fun _ => kb', fun _ => ⟨fun _ => kb', fun _ => ⟨fun _ => kb', fun _ => ⟨fun _ => kb', fun _ => kb'⟩⟩⟩⟩
    refine ⟨fun _ => F (P := True) (Q := True), fun z1 => ⟨fun _ => F (P := True) (Q := True), fun z2 => ⟨fun _ => F (P := True) (Q := True), fun z3 => ⟨fun _ => kb', fun z4 => ⟨fun _ => kb', fun z5 => ⟨fun _ => kb', fun z6 => ⟨fun _ => kb', fun z7 => ⟨fun _ => kb', fun z8 => ⟨fun z9 => ?_, fun _ => kb'⟩⟩⟩⟩⟩⟩⟩⟩⟩
    exact absurd ⟨⟨z4, z5⟩, ⟨z6, z7⟩, ⟨z1, z2, z3⟩, z8, z9⟩ h
