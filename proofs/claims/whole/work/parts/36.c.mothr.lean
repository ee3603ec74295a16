/-! moths: the reference -/
theorem c_141 {di : tDi} {dl : tDl} {X Y j : Nat} (hX : X < 2 ^ 63) (hY : Y < 2 ^ 63) (hY0 : 0 < Y) (hj : j < 2) {K : Int64 → tDi → tDl → Prop} (kk : K (lN ((if j = 0 then X else Y) / Nat.gcd X Y)) di dl) : ClJ 0 141 [.long (lN X), .long (lN Y), .int (nI j)] di dl K := by
  refine r_141 ?_
  have L : ∀ m a b, b ≤ m → a < 2 ^ 63 → b < 2 ^ 63 → (0 < a ∨ 0 < b) → Nat.gcd a b = Nat.gcd X Y → Wq none 0 141 6 [(0, .long (lN X)), (2, .long (lN Y)), (4, .int (nI j)), (5, .long (lN a)), (7, .long (lN b))] [] di dl (RJ K) := by
    intro m
    induction m with
    | zero =>
      intro a b hb ha hb2 h0 hg
      have e : b = 0 := Nat.le_zero.mp hb
      subst e
      rw [Nat.gcd_zero_right] at hg
      subst hg
      have na : ¬ lN (Nat.gcd X Y) = 0 := by
        intro z
        have := (pk_lEQ (b := 0) ha (by decide)).mp z
        omega
      refine r_141_6 ?_
      refine pk1 ⟨by decide, by decide⟩ ?_
      by_cases e : j = 0
      · rw [if_pos e, ← pk_lDiv hX (by omega) ha] at kk
        exact pk2 ⟨fun z => z (by rw [e]; rfl), by rw [e]; rfl⟩ ⟨na, kk⟩
      · rw [if_neg e, ← pk_lDiv hY (by omega) ha] at kk
        have : ¬ nI j = 0 := nI_ne0 (by omega) (by omega)
        exact pk1 ⟨this, this⟩ ⟨na, kk⟩
    | succ m ih =>
      intro a b hb ha hb2 h0 hg
      by_cases e : b = 0
      · exact ih a b (by omega) ha hb2 h0 hg
      · have nb : ¬ lN b = 0 := by
          intro z
          exact e ((pk_lEQ (b := 0) hb2 (by decide)).mp z)
        have nc : ¬ lg_cmp (lN b) 0 = 0 := fun z => nb (cmp_eq.mp z)
        refine r_141_6 (pk2 ⟨nc, nc⟩ ⟨nb, ?_⟩)
        rw [pk_lRem ha (by omega) hb2]
        have hlt : a % b < b := Nat.mod_lt a (by omega)
        refine ih b (a % b) (by omega) hb2 (by omega) (by omega) ?_
        rw [← hg, Nat.gcd_comm, ← Nat.gcd_rec, Nat.gcd_comm]
  exact L Y X Y (Nat.le_refl _) hX hY (by omega) rfl
theorem c_211 {t : tTown} {di : tDi} {dl : tDl} (hw : Wt t) (hr : Rs t di) {c k n j : Nat} (hc : c ≤ 16) (hk : k < nC t) (hn : n ≤ nM t) (hn2 : n ≤ 12) (hj : j < 2) {K : Int64 → tDi → tDl → Prop} (kk : K (moV t c k n j) di dl) : ClJ 1 211 [.ref 176, .int (nI c), .int (nI k), .int (nI n), .int (nI j)] di dl K := by
  obtain ⟨v1, v2, v3, v4, v5, v6⟩ := hw.2.2.1 k hk
  have w2 := hw.1.2.1
  have w3 := hw.1.2.2.1
  have r1 := hr.2.2.2.2.2.2.1 k hk 1 (by omega)
  have r3 := hr.2.2.2.2.2.2.1 k hk 3 (by omega)
  refine r_211 ?_
  refine up_to (n := n) (G := fun m => Wq none 1 211 6 [(0, .ref 176), (1, .int (nI c)), (2, .int (nI k)), (3, .int (nI n)), (4, .int (nI j)), (5, .int (nI (mcnt t m))), (6, .int (nI m))] [] di dl (RJ K)) ?_ ?_ (Nat.zero_le _)
  · refine r_211_6 (pk1 ⟨Int32.le_refl _, fun z => absurd (Int32.le_refl _) (Int32.not_le.mpr z)⟩ ?_)
    have hT := mcnt_le (t := t) n
    unfold moV moR at kk
    generalize mcnt t n = T at *
    have hp := p16_le (T := T) (by omega)
    have G := up_to (n := T + 1) (i := 0) (G := fun i => Wq none 1 211 51 [(0, .ref 176), (1, .int (nI c)), (2, .int (nI k)), (4, .int (nI j)), (5, .int (nI T)), (6, .long (lN (abR c (eat (cv t k 1)) (cv t k 3) T i))), (8, .long (lN (16 ^ (min i T)))), (10, .long (lN (bn T i))), (12, .int (nI i))] [] di dl (RJ K)) ?_ ?_ (by omega)
    · rw [bn_T0, Nat.zero_min] at G
      exact G
    · refine r_211_51 (pk1 ⟨nI_lt (by omega) (by omega), fun z => absurd (nI_lt (show T < T + 1 by omega) (by omega)) (Int32.not_lt.mpr z)⟩ ?_)
      rw [Nat.min_eq_right (show T ≤ T + 1 by omega)]
      have hb := abR_le (e := eat (cv t k 1)) (A := cv t k 3) hc T (T + 1)
      have hb2 : (T + 1) * 16 ^ T ≤ 13 * 16 ^ 12 := Nat.mul_le_mul (by omega) hp
      have hpos := Nat.pow_pos (n := T) (show 0 < 16 by decide)
      exact c_141 (by omega) (by omega) hpos hj kk
    · intro i hi ii
      refine r_211_51 (pk2 ⟨fun z => absurd (nI_le (show i ≤ T by omega) (by omega)) (Int32.not_le.mpr z), nI_le (by omega) (by omega)⟩ ?_)
      obtain ⟨b1, b2⟩ := bn_s T (by omega) i (by omega)
      have e16 : ((16 : Int32) - nI c).toInt64 = lN (16 - c) := by
        rw [show (16 : Int32) - nI c = nI (16 - c) from pk_sub (a := 16) hc, nI_l (by omega)]
      have ec : (nI c).toInt64 = lN c := nI_l (by omega)
      have I := up_to (n := T) (i := 0) (G := fun x => Wq none 1 211 65 [(0, .ref 176), (1, .int (nI c)), (2, .int (nI k)), (4, .int (nI j)), (5, .int (nI T)), (6, .long (lN (abR c (eat (cv t k 1)) (cv t k 3) T i))), (8, .long (lN (16 ^ (min i T)))), (10, .long (lN (bn T i))), (12, .int (nI i)), (13, .long (lN (bn T i * wgt c i x))), (15, .int (nI x))] [] di dl (RJ K)) ?_ ?_ (Nat.zero_le _)
      · have e0 : bn T i * wgt c i 0 = bn T i := Nat.mul_one _
        rw [e0] at I
        exact I
      · -- a term more
        rw [← Wm_w (show i ≤ T by omega)]
        have nz : ¬ (nI (i + 1)).toInt64 = 0 := by
          rw [nI_l (by omega)]
          intro z
          have := (pk_lEQ (b := 0) (show i + 1 < 2 ^ 63 by omega) (by decide)).mp z
          omega
        have ech : lN (bn T i) * (nI T - nI i).toInt64 / (nI (i + 1)).toInt64 = lN (bn T (i + 1)) := by
          have hm : bn T i * (T - i) ≤ 1000 * 12 := Nat.mul_le_mul b2 (by omega)
          rw [pk_sub (by omega), nI_l (by omega), nI_l (by omega), lN_mul, pk_lDiv (by omega) (by omega) (by omega), b1]
        have ab : ∀ e, eat (cv t k 1) = e → abR c e (cv t k 3) T (i + 1) = abR c e (cv t k 3) T i + if i * e < cv t k 3 then Wm c T i else 0 := fun e _ => rfl
        -- what is below
        have dn : ∀ x, x = abR c (eat (cv t k 1)) (cv t k 3) T (i + 1) → (nI T ≤ nI i → ¬ (nI (i + 1)).toInt64 = 0 ∧ Wq none 1 211 51 [(0, .ref 176), (1, .int (nI c)), (2, .int (nI k)), (4, .int (nI j)), (5, .int (nI T)), (6, .long (lN x)), (8, .long (lN (16 ^ (min i T)) * 1)), (10, .long (lN (bn T i) * (nI T - nI i).toInt64 / (nI (i + 1)).toInt64)), (12, .int (nI (i + 1)))] [] di dl (RJ K)) ∧ (nI i < nI T → ¬ (nI (i + 1)).toInt64 = 0 ∧ Wq none 1 211 51 [(0, .ref 176), (1, .int (nI c)), (2, .int (nI k)), (4, .int (nI j)), (5, .int (nI T)), (6, .long (lN x)), (8, .long (lN (16 ^ (min i T)) * 16)), (10, .long (lN (bn T i) * (nI T - nI i).toInt64 / (nI (i + 1)).toInt64)), (12, .int (nI (i + 1)))] [] di dl (RJ K)) := by
          intro x hx
          subst hx
          rw [ech]
          by_cases ht : i < T
          · rw [Nat.min_eq_left (show i + 1 ≤ T by omega)] at ii
            rw [Nat.min_eq_left (show i ≤ T by omega), lN_16, ← Nat.pow_succ]
            exact pk2 ⟨fun z => absurd (nI_lt ht (by omega)) (Int32.not_lt.mpr z), nI_lt ht (by omega)⟩ ⟨nz, ii⟩
          · have et : i = T := by omega
            rw [Nat.min_eq_right (show T ≤ i + 1 by omega)] at ii
            rw [Nat.min_eq_right (show T ≤ i by omega), lN_o]
            exact pk1 ⟨nI_le (by omega) (by omega), fun z => absurd (nI_le (show T ≤ i by omega) (by omega)) (Int32.not_le.mpr z)⟩ ⟨nz, ii⟩
        have up : ∀ e, eat (cv t k 1) = e → i * e < cv t k 3 → abR c e (cv t k 3) T i + Wm c T i = abR c (eat (cv t k 1)) (cv t k 3) T (i + 1) := by
          intro e he h
          rw [he, ab e he, if_pos h]
        have no : ∀ e, eat (cv t k 1) = e → ¬ i * e < cv t k 3 → abR c e (cv t k 3) T i = abR c (eat (cv t k 1)) (cv t k 3) T (i + 1) := by
          intro e he h
          rw [he, ab e he, if_neg h]; rfl
        have he : eat (cv t k 1) = if cv t k 1 = 0 then 2 else if cv t k 1 = 2 then 1 else 0 := rfl
        have su : ∀ e, i * e ≤ 24 → (nI (cv t k 3) - nI (i * e)).toInt = (cv t k 3 : Int) - (i * e : Nat) := fun e h => pk_sub_toInt (by omega) (by omega)
        refine r_211_65 (pk1 ⟨Int32.le_refl _, fun z => absurd (Int32.le_refl _) (Int32.not_le.mpr z)⟩ ?_)
        rw [nI_m4, nI_p3, nI_1, nI_clamp (by omega), nI_clamp (by omega), r1, r3, nI_1, lN_add, lN_z]
        refine ⟨inB_n (by omega) (by decide), inB_n (by omega) (by decide), ?_⟩
        rcases (by omega : cv t k 1 = 0 ∨ cv t k 1 = 1 ∨ cv t k 1 = 2) with z | z | z
        · rw [if_pos z] at he
          refine pk2 ⟨fun q => q (by rw [z]; rfl), by rw [z]; rfl⟩ ?_
          rw [show nI i * 2 = nI (i * 2) from pk_mul i 2]
          by_cases h : i * 2 < cv t k 3
          · refine pk2 ⟨fun q => by rw [fa_le, su 2 (by omega), ti_0] at q; omega, by rw [fa_lt, su 2 (by omega), ti_0]; omega⟩ (dn _ ?_)
            have := up 2 he h
            rw [he] at this ⊢
            exact this
          · refine pk1 ⟨by rw [fa_le, su 2 (by omega), ti_0]; omega, fun q => by rw [fa_lt, su 2 (by omega), ti_0] at q; omega⟩ (dn _ ?_)
            have := no 2 he h
            rw [he] at this ⊢
            exact this
        · rw [if_neg (by omega), if_neg (by omega)] at he
          refine pk1 ⟨fun q => by rw [z] at q; exact absurd q (by decide), fun q => by rw [z] at q; exact absurd q (by decide)⟩ (pk1 ⟨fun q => by rw [z] at q; exact absurd q (by decide), fun q => by rw [z] at q; exact absurd q (by decide)⟩ ?_)
          rw [show nI i * 0 = nI (i * 0) from pk_mul i 0]
          refine pk2 ⟨fun q => by rw [fa_le, su 0 (by omega), ti_0] at q; omega, by rw [fa_lt, su 0 (by omega), ti_0]; omega⟩ (dn _ ?_)
          have := up 0 he (by omega)
          rw [he] at this ⊢
          exact this
        · rw [if_neg (by omega), if_pos z] at he
          refine pk1 ⟨fun q => by rw [z] at q; exact absurd q (by decide), fun q => by rw [z] at q; exact absurd q (by decide)⟩ (pk2 ⟨fun q => q (by rw [z]; rfl), by rw [z]; rfl⟩ ?_)
          rw [show nI i * 1 = nI (i * 1) from pk_mul i 1]
          by_cases h : i * 1 < cv t k 3
          · refine pk2 ⟨fun q => by rw [fa_le, su 1 (by omega), ti_0] at q; omega, by rw [fa_lt, su 1 (by omega), ti_0]; omega⟩ (dn _ ?_)
            have := up 1 he h
            rw [he] at this ⊢
            exact this
          · refine pk1 ⟨by rw [fa_le, su 1 (by omega), ti_0]; omega, fun q => by rw [fa_lt, su 1 (by omega), ti_0] at q; omega⟩ (dn _ ?_)
            have := no 1 he h
            rw [he] at this ⊢
            exact this
      · intro x hx ix
        refine r_211_65 (pk2 ⟨fun z => absurd (nI_lt hx (by omega)) (Int32.not_lt.mpr z), nI_lt hx (by omega)⟩ ?_)
        rw [e16, ec, lN_mul, lN_mul, nI_1, Nat.mul_assoc, Nat.mul_assoc]
        unfold wgt at ix
        by_cases h : x < i
        · rw [if_pos h] at ix
          exact pk2 ⟨fun z => absurd (nI_lt h (by omega)) (Int32.not_lt.mpr z), nI_lt h (by omega)⟩ ix
        · rw [if_neg h] at ix
          exact pk1 ⟨nI_le (by omega) (by omega), fun z => absurd (nI_le (show i ≤ x by omega) (by omega)) (Int32.not_le.mpr z)⟩ ix
  · intro m hm im
    have c8 := hr.2.2.2.2.2.2.2 m (by omega)
    have w8 := hw.2.2.2 m (by omega)
    refine r_211_6 (pk2 ⟨fun z => absurd (nI_lt hm (by omega)) (Int32.not_lt.mpr z), nI_lt hm (by omega)⟩ ⟨inB_n (by omega) (by decide), ?_⟩)
    rw [nI_clamp (by omega), c8, nI_1, nI_1, Int32.add_zero]
    by_cases h4 : mo t m = 4
    · rw [show mcnt t (m + 1) = mcnt t m + 1 from fa_cnt_yes (decide_eq_true h4)] at im
      exact pk2 ⟨fun z => z (by rw [h4]; rfl), by rw [h4]; rfl⟩ im
    · rw [show mcnt t (m + 1) = mcnt t m from fa_cnt_no (decide_eq_false h4)] at im
      have ne : ¬ nI (mo t m) = 4 := fun z => h4 ((nI_eq (b := 4) (by omega) (by decide)).mp z)
      exact pk1 ⟨ne, ne⟩ im
theorem k_212 {t : tTown} {di : tDi} {dl : tDl} {K : Int64 → tDi → tDl → Prop} (hx : Itx di) (hs : Ise di) (hw : Wt t) (hc : Cs t di) (a b c e : Int32) (kk : ∀ d, Rs t d → Fm di d → K (a_mV t (a_mt t a b c e)) d dl) : ClJ 7 212 [.ref 176, .int a, .int b, .int c, .int e] di dl K := by
  have w2 := hw.1.2.1
  have w3 := hw.1.2.2.1
  refine r_212 (c_163 hx hs hw hc ?_)
  intro d hr fm
  replace kk := kk d hr fm
  have c2 := hr.2.1
  have c3 := hr.2.2.1
  unfold a_mt at kk
  by_cases h : (0 ≤ a.toInt ∧ a.toInt ≤ 16) ∧ (0 ≤ b.toInt ∧ b.toInt < nC t) ∧ (0 ≤ c.toInt ∧ c.toInt ≤ nM t ∧ c.toInt ≤ 12) ∧ (0 ≤ e.toInt ∧ e.toInt ≤ 1)
  · rcases ixp a with z | ⟨a', ha, rfl⟩
    · omega
    rcases ixp b with z | ⟨b', hb, rfl⟩
    · omega
    rcases ixp c with z | ⟨c', hc', rfl⟩
    · omega
    rcases ixp e with z | ⟨e', he, rfl⟩
    · omega
    rw [nI_toInt ha, nI_toInt hb, nI_toInt hc', nI_toInt he] at h
    simp only [nI_toInt ha, nI_toInt hb, nI_toInt hc', nI_toInt he, if_pos h, Int.toNat_natCast] at kk
    simp (disch := omega) only [true_imp_iff, false_imp_iff, not_true_eq_false, not_false_eq_true, and_true, true_and, Int32.reduceToInt, Int64.reduceToInt, Int32.reduceAdd, fa_lt, fa_le, fa_eq, cmi_lt, cmi_le, cmi_gt, cmi_ge, cmi_eq, fa_lt64, fa_le64, fa_eq64, Int32.toInt_toInt64, nI_toInt, ti_m1, sub1_ti, inB_iff, nI_clamp, Int32.add_zero, nI_1, nI_add, nI_p2, nI_p3, nI_p4, nI_p5, nI_p6, nI_p8, nI_p9, nI_p10, nI_m3, nI_m4, nI_m5, nI_m6, nI_m8, nI_m10, nI_m31, nI_m48, nI_m60, nI_m256, nI_t5, nI_t6, nI_a1, nI_a48, nI_a96, nI_d5, nI_d6, nI_d8, nI_d10, nI_d20, nI_s1, nI_s48, pk_sub, c2, c3]
    repeat (first | (with_reducible refine pk1 ?_ ?_; omega) | (with_reducible refine pk2 ?_ ?_; omega) | (with_reducible refine bd1 ?_ ?_; omega))
    exact c_211 hw hr (by omega) (by omega) (by omega) (by omega) (by omega) kk
  · rw [if_neg h] at kk
    have kb' : K (((-9223372036854775808) : Int64) - ((-2) : Int32).toInt64) d dl := kk
    simp (disch := omega) only [true_imp_iff, false_imp_iff, not_true_eq_false, not_false_eq_true, and_true, true_and, Int32.reduceToInt, Int64.reduceToInt, Int32.reduceAdd, fa_lt, fa_le, fa_eq, cmi_lt, cmi_le, cmi_gt, cmi_ge, cmi_eq, fa_lt64, fa_le64, fa_eq64, Int32.toInt_toInt64, nI_toInt, ti_m1, sub1_ti, inB_iff, nI_clamp, Int32.add_zero, nI_1, nI_add, nI_p2, nI_p3, nI_p4, nI_p5, nI_p6, nI_p8, nI_p9, nI_p10, nI_m3, nI_m4, nI_m5, nI_m6, nI_m8, nI_m10, nI_m31, nI_m48, nI_m60, nI_m256, nI_t5, nI_t6, nI_a1, nI_a48, nI_a96, nI_d5, nI_d6, nI_d8, nI_d10, nI_d20, nI_s1, nI_s48, pk_sub, c2, c3]
    refine ⟨fun _ => kb', fun z1 => ⟨fun _ => kb', fun z2 => ⟨fun _ => kb', fun z3 => ⟨fun _ => kb', fun z4 => ⟨fun _ => kb', fun z5 => ⟨fun _ => kb', fun z6 => ⟨fun _ => kb', fun z7 => ⟨fun _ => kb', fun z8 => ⟨fun _ => kb', fun z9 => ?_⟩⟩⟩⟩⟩⟩⟩⟩⟩
    exact absurd ⟨⟨by omega, by omega⟩, ⟨by omega, by omega⟩, ⟨by omega, by omega, by omega⟩, by omega, by omega⟩ h
