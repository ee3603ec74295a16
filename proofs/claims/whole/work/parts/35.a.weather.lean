/-! weather -/
def lot (x : Int32) : Nat → Int32
  | 0 => x
  | k + 1 => (1103515245 : Int32) * lot x k + 12345
def wd5 (x : Int32) : Nat := (ushr x 16).toNatClampNeg % 5
theorem of32 (x : Int32) : ∃ n, n < 2 ^ 32 ∧ x = nI n := by
  refine ⟨x.toBitVec.toNat, x.toBitVec.isLt, ?_⟩
  apply Int32.toBitVec_inj.1
  show x.toBitVec = BitVec.ofNat 32 x.toBitVec.toNat
  simp
theorem wd5_v (x : Int32) : wd5 x ≤ 4 ∧ ushr x 16 - ushr x 16 / 5 * 5 = nI (wd5 x) := by
  obtain ⟨n, hn, e⟩ := of32 x
  have h : ushr x 16 = nI (n / 2 ^ 16) := by
    rw [e]
    exact pk_ushrN hn 16 16 (by decide)
  have hb : n / 2 ^ 16 < 2 ^ 31 := by omega
  unfold wd5
  rw [h, nI_clamp hb]
  exact ⟨by omega, pk_rem hb (by decide) (by decide)⟩
def qw (t : tTown) (x : Int32) (n : Nat) : tClo := qs t (fun k => wd5 (lot x (k + 1))) n
/-- a set of bits as a number -/
def btN (p : Nat → Bool) : Nat → Nat
  | 0 => 0
  | n + 1 => if p n = true then btN p n ||| 2 ^ n else btN p n
theorem btN_lt {p : Nat → Bool} : ∀ n, btN p n < 2 ^ n
  | 0 => Nat.one_pos
  | n + 1 => by
    have ih := btN_lt (p := p) n
    have h2 : btN p n < 2 ^ (n + 1) := Nat.lt_of_lt_of_le ih (Nat.pow_le_pow_right (by decide) (Nat.le_succ n))
    unfold btN
    split
    · exact or_lt h2 (Nat.lt_succ_self n)
    · exact h2
theorem bts_nI {p : Nat → Bool} : ∀ n, n ≤ 31 → bts p n = nI (btN p n)
  | 0, _ => rfl
  | n + 1, h => by
    have ih := bts_nI (p := p) n (by omega)
    unfold bts btN
    by_cases hp : p n = true
    · rw [if_pos hp, if_pos hp, ih, b1_nI n (by omega), fa_or]
    · rw [if_neg hp, if_neg hp, ih]
theorem pop_or : ∀ u, u < 256 → ∀ b, b < 8 → u.testBit b = false → popN (u ||| 2 ^ b) = popN u + 1 := by decide +kernel
theorem pop_bt {p : Nat → Bool} : ∀ n, n ≤ 8 → popN (btN p n) = fa_cnt p n
  | 0, _ => (by decide : popN 0 = 0)
  | n + 1, h => by
    have ih := pop_bt (p := p) n (by omega)
    have hl := btN_lt (p := p) n
    have h8 : 2 ^ n ≤ 256 := pow8 (by omega)
    unfold btN
    by_cases hp : p n = true
    · rw [if_pos hp, pop_or _ (by omega) n (by omega) (Nat.testBit_lt_two_pow hl), ih, fa_cnt_yes hp]
    · rw [if_neg hp, ih, fa_cnt_no (Bool.eq_false_iff.mpr hp)]
theorem cnt_flip {p q : Nat → Bool} {s : Nat} (h0 : p s = false) (h1 : q s = true) (h : ∀ i, ¬ i = s → q i = p i) : ∀ n, fa_cnt q n = fa_cnt p n + if s < n then 1 else 0
  | 0 => by rw [if_neg (Nat.not_lt_zero s)]; rfl
  | n + 1 => by
    have ih := cnt_flip h0 h1 h n
    show fa_cnt q n + (if q n = true then 1 else 0) = fa_cnt p n + (if p n = true then 1 else 0) + _
    by_cases e : n = s
    · subst e
      rw [ih, h0, h1, if_neg (Nat.lt_irrefl n), if_pos rfl, if_neg (by decide), if_pos (Nat.lt_succ_self n)]
    · rw [ih, h n e]
      by_cases hs : s < n
      · rw [if_pos hs, if_pos (show s < n + 1 by omega)]; omega
      · rw [if_neg hs, if_neg (show ¬ s < n + 1 by omega)]; omega
theorem cnt_not {p : Nat → Bool} : ∀ n, fa_cnt (fun i => !p i) n + fa_cnt p n = n
  | 0 => rfl
  | n + 1 => by
    have ih := cnt_not (p := p) n
    show fa_cnt (fun i => !p i) n + (if (!p n) = true then 1 else 0) + (fa_cnt p n + (if p n = true then 1 else 0)) = n + 1
    cases p n
    · rw [if_pos (show (!false) = true from rfl), if_neg (by decide)]; omega
    · rw [if_neg (by decide), if_pos rfl]; omega
def dres (n : Nat) (w : Nat → Int32) : Nat := fa_cnt (fun i => decide (¬ w i = -1)) n
/-- as many clothes are taken as statues are dressed -/
def Kt (t : tTown) (x : tSt) : Prop := ∃ u, u < 2 ^ nC t ∧ x.1 = nI u ∧ popN u = dres (nS t) x.2
theorem Kt_ds {t : tTown} (hw : Wt t) {q : tClo} {s : Nat} {x : tSt} (hs : s < nS t) (hx : x.2 s = -1) (h : Kt t x) : Kt t (ds t q s x) := by
  obtain ⟨u, h1, h2, h3⟩ := h
  have w2 := hw.1.2.1
  have h8 := pow8 w2
  unfold Kt
  cases hb : choi t q s x.1 with
  | none =>
    refine ⟨u, h1, ?_, ?_⟩
    · show x.1 ||| oB (choi t q s x.1) = _
      rw [hb]
      show x.1 ||| 0 = _
      rw [or_0, h2]
    · rw [h3]
      have e : (ds t q s x).2 = x.2 := by
        funext i
        show (if i = s then oI (choi t q s x.1) else x.2 i) = x.2 i
        by_cases e : i = s
        · rw [if_pos e, hb, e, hx]; rfl
        · rw [if_neg e]
      rw [e]
  | some b =>
    obtain ⟨hb1, hb2⟩ := bst_lt hb
    have hbit : u.testBit b = false := by
      unfold mayw at hb2
      rw [Bool.and_eq_true, Bool.not_eq_true', h2, bt_nI (by omega)] at hb2
      exact hb2.2
    refine ⟨u ||| 2 ^ b, or_lt h1 hb1, ?_, ?_⟩
    · show x.1 ||| oB (choi t q s x.1) = _
      rw [hb, h2]
      show nI u ||| b1 b = _
      rw [b1_nI b (by omega), fa_or]
    · rw [pop_or u (by omega) b (by omega) hbit, h3]
      unfold dres
      have := cnt_flip (p := fun i => decide (¬ x.2 i = -1)) (q := fun i => decide (¬ (ds t q s x).2 i = -1)) (s := s) (decide_eq_false (fun z => z hx)) (decide_eq_true (by
        show ¬ (if s = s then oI (choi t q s x.1) else x.2 s) = -1
        rw [if_pos rfl, hb]
        exact oI_ne (by omega))) (fun i hi => by
        show decide (¬ (if i = s then oI (choi t q s x.1) else x.2 i) = -1) = _
        rw [if_neg hi]) (nS t)
      rw [if_pos hs] at this
      exact this.symm
theorem Kt_all {t : tTown} (hw : Wt t) (q : tClo) : Kt t (tlr t q (fun _ => -1)) := by
  have Z : Kt t ((0, fun _ => -1) : tSt) := by
    refine ⟨0, Nat.two_pow_pos _, rfl, ?_⟩
    have : ∀ n, dres n (fun _ => -1) = 0 := by
      intro n
      induction n with
      | zero => rfl
      | succ n ih =>
        show dres n (fun _ => -1) + _ = 0
        rw [ih]
        rfl
    show popN 0 = dres (nS t) (fun _ => -1)
    rw [this]
    decide
  unfold tlr
  by_cases e : wy t = 0
  · rw [if_pos e]
    have : ∀ n, n ≤ nS t → Kt t (lp0 t q (0, fun _ => -1) n) ∧ ∀ i, n ≤ i → (lp0 t q (0, fun _ => -1) n).2 i = -1 := by
      intro n
      induction n with
      | zero => exact fun _ => ⟨Z, fun _ _ => rfl⟩
      | succ n ih =>
        intro hn
        obtain ⟨i1, i2⟩ := ih (by omega)
        refine ⟨Kt_ds hw (by omega) (i2 n (Nat.le_refl n)) i1, fun i hi => ?_⟩
        show (if i = n then _ else (lp0 t q (0, fun _ => -1) n).2 i) = -1
        rw [if_neg (by omega)]
        exact i2 i (by omega)
    exact (this (nS t) (Nat.le_refl _)).1
  · rw [if_neg e]
    have Q : ∀ z x, Kt t x → (∀ i, i < nS t → sv t i 0 ≤ z → x.2 i = -1) → ∀ n, n ≤ nS t → Kt t (lpq t q z x n) ∧ ∀ i, i < nS t → (sv t i 0 < z ∨ (sv t i 0 = z ∧ n ≤ i)) → (lpq t q z x n).2 i = -1 := by
      intro z x hk hx n
      induction n with
      | zero => exact fun _ => ⟨hk, fun i hi h => hx i hi (by omega)⟩
      | succ n ih =>
        intro hn
        obtain ⟨i1, i2⟩ := ih (by omega)
        unfold lpq
        by_cases e2 : sv t n 0 = z
        · rw [if_pos e2]
          refine ⟨Kt_ds hw (by omega) (i2 n (by omega) (by omega)) i1, fun i hi h => ?_⟩
          show (if i = n then _ else (lpq t q z x n).2 i) = -1
          rw [if_neg (fun z => by subst z; omega)]
          exact i2 i hi (by omega)
        · rw [if_neg e2]
          refine ⟨i1, fun i hi h => i2 i hi ?_⟩
          omega
    have : ∀ j, j ≤ 9 → Kt t (lpz t q (0, fun _ => -1) j) ∧ ∀ i, i < nS t → sv t i 0 ≤ 9 - j → (lpz t q (0, fun _ => -1) j).2 i = -1 := by
      intro j
      induction j with
      | zero => exact fun _ => ⟨Z, fun _ _ _ => rfl⟩
      | succ j ih =>
        intro hj
        obtain ⟨i1, i2⟩ := ih (by omega)
        obtain ⟨j1, j2⟩ := Q (9 - j) _ i1 i2 (nS t) (Nat.le_refl _)
        exact ⟨j1, fun i hi h => j2 i hi (by omega)⟩
    exact (this 9 (Nat.le_refl _)).1
theorem bc_tak {t : tTown} (hw : Wt t) (q : tClo) : bcI (takn t q) = nI (dres (nS t) (worn t q)) := by
  have w2 := hw.1.2.1
  have h8 := pow8 w2
  obtain ⟨u, h1, h2, h3⟩ := Kt_all hw q
  have e : takn t q = nI u := h2
  rw [e, bc_pop u (by omega), h3]
  rfl
theorem dres_bare {t : tTown} (hw : Wt t) (q : tClo) : ∃ u, u < 256 ∧ bareV t q = nI u ∧ popN u ≤ nS t ∧ nS t - popN u = dres (nS t) (worn t q) := by
  have w1 := hw.1.1
  have h8 := pow8 w1
  have hl := btN_lt (p := fun s => decide (worn t q s = -1)) (nS t)
  refine ⟨btN (fun s => decide (worn t q s = -1)) (nS t), by omega, bts_nI _ (by omega), ?_, ?_⟩
  · rw [pop_bt _ w1]
    exact fa_cnt_le _ _
  · rw [pop_bt _ w1]
    have := cnt_not (p := fun s => decide (worn t q s = -1)) (nS t)
    unfold dres
    have e : fa_cnt (fun i => decide (¬ worn t q i = -1)) (nS t) = fa_cnt (fun i => !decide (worn t q i = -1)) (nS t) := fa_cnt_cong (fun k _ => by
      by_cases h : worn t q k = -1
      · rw [decide_eq_false (fun z => z h), decide_eq_true h]; rfl
      · rw [decide_eq_true h, decide_eq_false h]; rfl)
    rw [e]
    omega
def weaV (t : tTown) (x : Int32) (n : Nat) (c : Int32) : Int32 := if c = -1 then nI (dres (nS t) (worn t (qw t x n))) else rgd c (nC t) (fun k => nI (qw t x n k 0))
def a_wt (t : tTown) (x b c : Int32) : Int32 := if 1 ≤ b.toInt ∧ b.toInt ≤ 40 then weaV t x b.toInt.toNat c else -2
/-- all rows but the weather's -/
def F25 (di d : tDi) : Prop := ∀ a k, ¬ a = 35 → ¬ a = 62 → ¬ a = 89 → ¬ a = 116 → ¬ a = 143 → d a k = di a k
theorem Cw_25 {t : tTown} {di d : tDi} (hw : Wt t) (h : F25 di d) (H : Cw t di) : Cw t d := by
  have w3 := hw.1.2.2.1
  refine ⟨Cs_lo (fun a k z1 z2 => h a k (by omega) (by omega) (by omega) (by omega) (by omega)) H.1, ?_⟩
  rcases H.2 with z | z
  · left
    rw [h _ _ (by omega) (by omega) (by omega) (by omega) (by omega)]
    exact z
  · right
    exact fun m hm => RowV_cong (fun a k ha => h a k (by omega) (by omega) (by omega) (by omega) (by omega)) (z m hm)
theorem FC_25 {di d : tDi} (h : F25 di d) : FC di d := fun a k z1 z2 z3 z4 z5 => h a k (by omega) (by omega) (by omega) (by omega) (by omega)
section WEA
variable {t : tTown} {di : tDi} {dl : tDl} {K : Int32 → tDi → tDl → Prop}
theorem c_77 (hw : Wt t) (hc : Cs t di) (x : Int32) {n : Nat} (hn : n ≤ 40) {K : tDi → tDl → Prop} (kk : ∀ d, RowQ t (qw t x n) d 25 → FQ 25 di d → K d dl) : ClV 3 77 [.ref 8, .int x, .int (nI n)] di dl K := by
  refine r_77 (c_83 (r := 25) hw hc (by omega) ?_)
  intro d hq fr
  refine up_to (n := n) (G := fun k => ∀ d, RowQ t (qw t x k) d 25 → FQ 25 di d → Wq none 3 77 11 [(0, .ref 8), (2, .int (nI n)), (3, .int (lot x k)), (4, .int (nI k))] [] d dl (RV K)) ?_ ?_ (Nat.zero_le _) d hq fr
  · intro d hq fr
    refine r_77_11 ?_
    simp (disch := omega) only [true_imp_iff, false_imp_iff, not_true_eq_false, not_false_eq_true, and_true, true_and, Int32.reduceToInt, Int64.reduceToInt, Int32.reduceAdd, fa_lt, fa_le, fa_eq, cmi_lt, cmi_le, cmi_gt, cmi_ge, cmi_eq, fa_lt64, fa_le64, fa_eq64, Int32.toInt_toInt64, nI_toInt, ti_m1, sub1_ti, inB_iff, nI_clamp, Int32.add_zero, nI_1, nI_add, nI_p2, nI_p3, nI_p4, nI_p5, nI_p6, nI_p8, nI_p9, nI_p10, nI_m3, nI_m4, nI_m5, nI_m6, nI_m8, nI_m10, nI_m31, nI_m48, nI_m60, nI_m256, nI_t5, nI_t6, nI_a1, nI_a48, nI_a96, nI_d5, nI_d6, nI_d8, nI_d10, nI_d20, nI_s1, nI_s48, pk_sub]
    repeat (first | (with_reducible refine pk1 ?_ ?_; omega) | (with_reducible refine pk2 ?_ ?_; omega) | (with_reducible refine bd1 ?_ ?_; omega))
    exact kk d hq fr
  · intro k hk ih d hq fr
    refine r_77_11 ?_
    simp (disch := omega) only [true_imp_iff, false_imp_iff, not_true_eq_false, not_false_eq_true, and_true, true_and, Int32.reduceToInt, Int64.reduceToInt, Int32.reduceAdd, fa_lt, fa_le, fa_eq, cmi_lt, cmi_le, cmi_gt, cmi_ge, cmi_eq, fa_lt64, fa_le64, fa_eq64, Int32.toInt_toInt64, nI_toInt, ti_m1, sub1_ti, inB_iff, nI_clamp, Int32.add_zero, nI_1, nI_add, nI_p2, nI_p3, nI_p4, nI_p5, nI_p6, nI_p8, nI_p9, nI_p10, nI_m3, nI_m4, nI_m5, nI_m6, nI_m8, nI_m10, nI_m31, nI_m48, nI_m60, nI_m256, nI_t5, nI_t6, nI_a1, nI_a48, nI_a96, nI_d5, nI_d6, nI_d8, nI_d10, nI_d20, nI_s1, nI_s48, pk_sub]
    repeat (first | (with_reducible refine pk1 ?_ ?_; omega) | (with_reducible refine pk2 ?_ ?_; omega) | (with_reducible refine bd1 ?_ ?_; omega))
    obtain ⟨v1, v2⟩ := wd5_v (lot x (k + 1))
    have v2' : ushr (1103515245 * lot x k + 12345) 16 - ushr (1103515245 * lot x k + 12345) 16 / 5 * 5 = nI (wd5 (lot x (k + 1))) := v2
    rw [v2']
    refine c_84 (r := 25) (r' := 25) hw (Cs_lo (FQ_lo fr) hc) (Bq_s hw _ k) (by omega) (by omega) hq v1 ?_
    intro g hg gr
    exact ih g hg (fun a k z1 z2 z3 => by rw [gr a k z1 z2 z3]; exact fr a k z1 z2 z3)
theorem k_114 (hw : Wt t) (hc : Cw t di) (x b c : Int32) (kk : ∀ d, Cw t d → FC di d → K (a_wt t x b c) d dl) : ClI 4 114 [.ref 0, .int x, .int b, .int c] di dl K := by
  have w1 := hw.1.1
  have w2 := hw.1.2.1
  have c2 := hc.1.2.1.1
  unfold a_wt at kk
  by_cases hb : 1 ≤ b.toInt ∧ b.toInt ≤ 40
  · rcases ixp b with z | ⟨n, hn, rfl⟩
    · omega
    rw [nI_toInt hn] at hb
    simp only [nI_toInt hn, if_pos hb, Int.toNat_natCast] at kk
    unfold weaV at kk
    rcases ixm c (nC t) (by omega) with h | rfl | ⟨k, hk, rfl⟩ | h
    · have kb := kk di hc FC_rf
      rw [if_neg (fun z => by rw [z, ti_m1] at h; omega), rgd_lo (by omega)] at kb
      refine r_114 ?_
      simp (disch := omega) only [true_imp_iff, false_imp_iff, not_true_eq_false, not_false_eq_true, and_true, true_and, Int32.reduceToInt, Int64.reduceToInt, Int32.reduceAdd, fa_lt, fa_le, fa_eq, cmi_lt, cmi_le, cmi_gt, cmi_ge, cmi_eq, fa_lt64, fa_le64, fa_eq64, Int32.toInt_toInt64, nI_toInt, ti_m1, sub1_ti, inB_iff, nI_clamp, Int32.add_zero, nI_1, nI_add, nI_p2, nI_p3, nI_p4, nI_p5, nI_p6, nI_p8, nI_p9, nI_p10, nI_m3, nI_m4, nI_m5, nI_m6, nI_m8, nI_m10, nI_m31, nI_m48, nI_m60, nI_m256, nI_t5, nI_t6, nI_a1, nI_a48, nI_a96, nI_d5, nI_d6, nI_d8, nI_d10, nI_d20, nI_s1, nI_s48, pk_sub, c2]
      repeat (first | (with_reducible refine pk1 ?_ ?_; omega) | (with_reducible refine pk2 ?_ ?_; omega) | (with_reducible refine bd1 ?_ ?_; omega))
      exact kb
    · rw [if_pos rfl] at kk
      refine r_114 ?_
      simp (disch := omega) only [true_imp_iff, false_imp_iff, not_true_eq_false, not_false_eq_true, and_true, true_and, Int32.reduceToInt, Int64.reduceToInt, Int32.reduceAdd, fa_lt, fa_le, fa_eq, cmi_lt, cmi_le, cmi_gt, cmi_ge, cmi_eq, fa_lt64, fa_le64, fa_eq64, Int32.toInt_toInt64, nI_toInt, ti_m1, sub1_ti, inB_iff, nI_clamp, Int32.add_zero, nI_1, nI_add, nI_p2, nI_p3, nI_p4, nI_p5, nI_p6, nI_p8, nI_p9, nI_p10, nI_m3, nI_m4, nI_m5, nI_m6, nI_m8, nI_m10, nI_m31, nI_m48, nI_m60, nI_m256, nI_t5, nI_t6, nI_a1, nI_a48, nI_a96, nI_d5, nI_d6, nI_d8, nI_d10, nI_d20, nI_s1, nI_s48, pk_sub, c2]
      repeat (first | (with_reducible refine pk1 ?_ ?_; omega) | (with_reducible refine pk2 ?_ ?_; omega) | (with_reducible refine bd1 ?_ ?_; omega))
      refine c_77 hw hc.1 x (by omega) ?_
      intro d hq fr
      have hcd := Cs_lo (FQ_lo fr) hc.1
      refine r_78 (c_87 (r := 25) hw hcd (Bq_s hw _ n) (by omega) hq ?_)
      intro e hf fe
      have hqe : RowQ t (qw t x n) e 25 := by
        intro k hk
        rw [fe _ _ (by omega), fe _ _ (by omega), fe _ _ (by omega)]
        exact hq k hk
      refine c_88 (r := 25) hw (Cs_lo (fun a k z _ => fe a k (by omega)) hcd) (Bq_s hw _ n) (by omega) hqe hf ?_
      intro g hg fg
      have f25 : F25 di g := fun a k z1 z2 z3 z4 z5 => by rw [fg _ _ (by omega), fe _ _ (by omega)]; exact fr a k (by omega) (by omega) (by omega)
      have := kk g (Cw_25 hw f25 hc) (FC_25 f25)
      rw [← bc_tak hw] at this
      exact this
    · rw [if_neg (fun z => by rw [fa_eq, nI_toInt (by omega), ti_m1] at z; omega)] at kk
      simp (disch := omega) only [rgd_in] at kk
      refine r_114 ?_
      simp (disch := omega) only [true_imp_iff, false_imp_iff, not_true_eq_false, not_false_eq_true, and_true, true_and, Int32.reduceToInt, Int64.reduceToInt, Int32.reduceAdd, fa_lt, fa_le, fa_eq, cmi_lt, cmi_le, cmi_gt, cmi_ge, cmi_eq, fa_lt64, fa_le64, fa_eq64, Int32.toInt_toInt64, nI_toInt, ti_m1, sub1_ti, inB_iff, nI_clamp, Int32.add_zero, nI_1, nI_add, nI_p2, nI_p3, nI_p4, nI_p5, nI_p6, nI_p8, nI_p9, nI_p10, nI_m3, nI_m4, nI_m5, nI_m6, nI_m8, nI_m10, nI_m31, nI_m48, nI_m60, nI_m256, nI_t5, nI_t6, nI_a1, nI_a48, nI_a96, nI_d5, nI_d6, nI_d8, nI_d10, nI_d20, nI_s1, nI_s48, pk_sub, c2]
      repeat (first | (with_reducible refine pk1 ?_ ?_; omega) | (with_reducible refine pk2 ?_ ?_; omega) | (with_reducible refine bd1 ?_ ?_; omega))
      refine c_77 hw hc.1 x (by omega) ?_
      intro d hq fr
      repeat (first | (with_reducible refine pk1 ?_ ?_; omega) | (with_reducible refine pk2 ?_ ?_; omega) | (with_reducible refine bd1 ?_ ?_; omega))
      refine r_79 (r_65 ?_)
      have e1 : d 35 k = nI (qw t x n k 0) := (hq k hk).1
      simp (disch := omega) only [true_imp_iff, false_imp_iff, not_true_eq_false, not_false_eq_true, and_true, true_and, Int32.reduceToInt, Int64.reduceToInt, Int32.reduceAdd, fa_lt, fa_le, fa_eq, cmi_lt, cmi_le, cmi_gt, cmi_ge, cmi_eq, fa_lt64, fa_le64, fa_eq64, Int32.toInt_toInt64, nI_toInt, ti_m1, sub1_ti, inB_iff, nI_clamp, Int32.add_zero, nI_1, nI_add, nI_p2, nI_p3, nI_p4, nI_p5, nI_p6, nI_p8, nI_p9, nI_p10, nI_m3, nI_m4, nI_m5, nI_m6, nI_m8, nI_m10, nI_m31, nI_m48, nI_m60, nI_m256, nI_t5, nI_t6, nI_a1, nI_a48, nI_a96, nI_d5, nI_d6, nI_d8, nI_d10, nI_d20, nI_s1, nI_s48, pk_sub, show (25 : Int32).toNatClampNeg = 25 from rfl, show (inB 25 26 = true) = True from propext ⟨fun _ => trivial, fun _ => rfl⟩]
      repeat (first | (with_reducible refine pk1 ?_ ?_; omega) | (with_reducible refine pk2 ?_ ?_; omega) | (with_reducible refine bd1 ?_ ?_; omega))
      have f25 : F25 di d := fun a k z1 z2 z3 z4 z5 => fr a k (by omega) (by omega) (by omega)
      have := kk d (Cw_25 hw f25 hc) (FC_25 f25)
      rw [← e1] at this
      exact this
    · have kb := kk di hc FC_rf
      rw [if_neg (fun z => by rw [z, ti_m1] at h; omega), rgd_hi h] at kb
      refine r_114 ?_
      simp (disch := omega) only [true_imp_iff, false_imp_iff, not_true_eq_false, not_false_eq_true, and_true, true_and, Int32.reduceToInt, Int64.reduceToInt, Int32.reduceAdd, fa_lt, fa_le, fa_eq, cmi_lt, cmi_le, cmi_gt, cmi_ge, cmi_eq, fa_lt64, fa_le64, fa_eq64, Int32.toInt_toInt64, nI_toInt, ti_m1, sub1_ti, inB_iff, nI_clamp, Int32.add_zero, nI_1, nI_add, nI_p2, nI_p3, nI_p4, nI_p5, nI_p6, nI_p8, nI_p9, nI_p10, nI_m3, nI_m4, nI_m5, nI_m6, nI_m8, nI_m10, nI_m31, nI_m48, nI_m60, nI_m256, nI_t5, nI_t6, nI_a1, nI_a48, nI_a96, nI_d5, nI_d6, nI_d8, nI_d10, nI_d20, nI_s1, nI_s48, pk_sub, c2]
      repeat (first | (with_reducible refine pk1 ?_ ?_; omega) | (with_reducible refine pk2 ?_ ?_; omega) | (with_reducible refine bd1 ?_ ?_; omega))
      exact kb
  · have kb := kk di hc FC_rf
    rw [if_neg hb] at kb
    refine r_114 ?_
    by_cases h1 : 1 ≤ b.toInt
    · simp (disch := omega) only [true_imp_iff, false_imp_iff, not_true_eq_false, not_false_eq_true, and_true, true_and, Int32.reduceToInt, Int64.reduceToInt, Int32.reduceAdd, fa_lt, fa_le, fa_eq, cmi_lt, cmi_le, cmi_gt, cmi_ge, cmi_eq, fa_lt64, fa_le64, fa_eq64, Int32.toInt_toInt64, nI_toInt, ti_m1, sub1_ti, inB_iff, nI_clamp, Int32.add_zero, nI_1, nI_add, nI_p2, nI_p3, nI_p4, nI_p5, nI_p6, nI_p8, nI_p9, nI_p10, nI_m3, nI_m4, nI_m5, nI_m6, nI_m8, nI_m10, nI_m31, nI_m48, nI_m60, nI_m256, nI_t5, nI_t6, nI_a1, nI_a48, nI_a96, nI_d5, nI_d6, nI_d8, nI_d10, nI_d20, nI_s1, nI_s48, pk_sub, c2]
      repeat (first | (with_reducible refine pk1 ?_ ?_; omega) | (with_reducible refine pk2 ?_ ?_; omega) | (with_reducible refine bd1 ?_ ?_; omega))
      exact kb
    · simp (disch := omega) only [true_imp_iff, false_imp_iff, not_true_eq_false, not_false_eq_true, and_true, true_and, Int32.reduceToInt, Int64.reduceToInt, Int32.reduceAdd, fa_lt, fa_le, fa_eq, cmi_lt, cmi_le, cmi_gt, cmi_ge, cmi_eq, fa_lt64, fa_le64, fa_eq64, Int32.toInt_toInt64, nI_toInt, ti_m1, sub1_ti, inB_iff, nI_clamp, Int32.add_zero, nI_1, nI_add, nI_p2, nI_p3, nI_p4, nI_p5, nI_p6, nI_p8, nI_p9, nI_p10, nI_m3, nI_m4, nI_m5, nI_m6, nI_m8, nI_m10, nI_m31, nI_m48, nI_m60, nI_m256, nI_t5, nI_t6, nI_a1, nI_a48, nI_a96, nI_d5, nI_d6, nI_d8, nI_d10, nI_d20, nI_s1, nI_s48, pk_sub, c2]
      repeat (first | (with_reducible refine pk1 ?_ ?_; omega) | (with_reducible refine pk2 ?_ ?_; omega) | (with_reducible refine bd1 ?_ ?_; omega))
      exact kb
theorem c_213 (hw : Wt t) (hr : Rs t di) (x : Int32) {n : Nat} (hn : n ≤ 40) {c : Int32} (hc : c = -1 ∨ ∃ k, k < nC t ∧ c = nI k) (kk : ∀ d, Rs t d → FI di d → K (weaV t x n c) d dl) : ClI 4 213 [.ref 176, .int x, .int (nI n), .int c] di dl K := by
  have w1 := hw.1.1
  have w2 := hw.1.2.1
  refine r_213 (c_172 hw hr ?_)
  intro d h8 fr
  refine up_to (n := n) (G := fun k => ∀ d, N8 t (qw t x k) d → FF1 188 di d → Wq none 4 213 10 [(0, .ref 176), (2, .int (nI n)), (3, .int c), (4, .int (lot x k)), (5, .int (nI k))] [] d dl (RI K)) ?_ ?_ (Nat.zero_le _) d h8 fr
  · intro d h8 fr
    have hrd := Rs_1 (by omega) fr hr
    refine r_213_10 (pk1 ⟨Int32.le_refl _, fun z => absurd (Int32.le_refl _) (Int32.not_le.mpr z)⟩ ?_)
    refine c_178 hw hrd (Bq_s hw _ n) h8 ?_
    intro e h9 fe
    have hre := Rs_1 (by omega) fe hrd
    have fi : FI di e := fun a k z => by rw [fe _ _ (by omega)]; exact fr a k (by omega)
    have kke := kk e hre fi
    unfold weaV at kke
    rcases hc with rfl | ⟨k, hk, rfl⟩
    · rw [if_pos rfl] at kke
      refine pk2 ⟨fun z => z rfl, rfl⟩ (c_186 (q := qw t x n) hw hre h9 ?_)
      obtain ⟨u, u1, u2, u3, u4⟩ := dres_bare hw (qw t x n)
      rw [u2]
      refine c_138 u1 ?_
      rw [hre.1, pk_sub u3, u4]
      exact kke
    · have ne : ¬ nI k = -1 := by rw [fa_eq, nI_toInt (by omega), ti_m1]; omega
      rw [if_neg ne, rgd_in hk (by omega)] at kke
      refine pk1 ⟨ne, ne⟩ ?_
      have e1 : e 188 (3 * k) = nI (qw t x n k 0) := by rw [fe _ _ (by omega)]; exact (h8 k hk).1
      simp (disch := omega) only [true_imp_iff, false_imp_iff, not_true_eq_false, not_false_eq_true, and_true, true_and, Int32.reduceToInt, Int64.reduceToInt, Int32.reduceAdd, fa_lt, fa_le, fa_eq, cmi_lt, cmi_le, cmi_gt, cmi_ge, cmi_eq, fa_lt64, fa_le64, fa_eq64, Int32.toInt_toInt64, nI_toInt, ti_m1, sub1_ti, inB_iff, nI_clamp, Int32.add_zero, nI_1, nI_add, nI_p2, nI_p3, nI_p4, nI_p5, nI_p6, nI_p8, nI_p9, nI_p10, nI_m3, nI_m4, nI_m5, nI_m6, nI_m8, nI_m10, nI_m31, nI_m48, nI_m60, nI_m256, nI_t5, nI_t6, nI_a1, nI_a48, nI_a96, nI_d5, nI_d6, nI_d8, nI_d10, nI_d20, nI_s1, nI_s48, pk_sub, e1]
      repeat (first | (with_reducible refine pk1 ?_ ?_; omega) | (with_reducible refine pk2 ?_ ?_; omega) | (with_reducible refine bd1 ?_ ?_; omega))
      exact kke
  · intro k hk ih d h8 fr
    have hrd := Rs_1 (by omega) fr hr
    refine r_213_10 (pk2 ⟨fun z => absurd (nI_lt hk (by omega)) (Int32.not_lt.mpr z), nI_lt hk (by omega)⟩ ?_)
    obtain ⟨v1, v2⟩ := wd5_v (lot x (k + 1))
    have v2' : ushr (1103515245 * lot x k + 12345) 16 - ushr (1103515245 * lot x k + 12345) 16 / 5 * 5 = nI (wd5 (lot x (k + 1))) := v2
    rw [v2', nI_1]
    refine c_175 hw hrd (Bq_s hw _ k) h8 v1 ?_
    intro g h8' gr
    exact ih g h8' (fun a k z => by rw [gr a k z]; exact fr a k z)
theorem k_214 (hx : Itx di) (hs : Ise di) (hw : Wt t) (hc : Cs t di) (x b c : Int32) (kk : ∀ d, Rs t d → FM di d → K (a_wt t x b c) d dl) : ClI 7 214 [.ref 176, .int x, .int b, .int c] di dl K := by
  have w2 := hw.1.2.1
  refine r_214 (c_163 hx hs hw hc ?_)
  intro d hr fm
  have c2 := hr.2.1
  unfold a_wt at kk
  by_cases hb : 1 ≤ b.toInt ∧ b.toInt ≤ 40
  · rcases ixp b with z | ⟨n, hn, rfl⟩
    · omega
    rw [nI_toInt hn] at hb
    simp only [nI_toInt hn, if_pos hb, Int.toNat_natCast] at kk
    have go : (c = -1 ∨ ∃ k, k < nC t ∧ c = nI k) → ClI 4 213 [.ref 176, .int x, .int (nI n), .int c] d dl K := by
      intro h
      refine c_213 hw hr x (by omega) h ?_
      intro e hr2 fi
      exact kk e hr2 (FM_of fm fi)
    have kb := kk d hr (FM_of fm FI_rf)
    unfold weaV at kb
    rcases ixm c (nC t) (by omega) with h | rfl | ⟨k, hk, rfl⟩ | h
    · rw [if_neg (fun z => by rw [z, ti_m1] at h; omega), rgd_lo (by omega)] at kb
      simp (disch := omega) only [true_imp_iff, false_imp_iff, not_true_eq_false, not_false_eq_true, and_true, true_and, Int32.reduceToInt, Int64.reduceToInt, Int32.reduceAdd, fa_lt, fa_le, fa_eq, cmi_lt, cmi_le, cmi_gt, cmi_ge, cmi_eq, fa_lt64, fa_le64, fa_eq64, Int32.toInt_toInt64, nI_toInt, ti_m1, sub1_ti, inB_iff, nI_clamp, Int32.add_zero, nI_1, nI_add, nI_p2, nI_p3, nI_p4, nI_p5, nI_p6, nI_p8, nI_p9, nI_p10, nI_m3, nI_m4, nI_m5, nI_m6, nI_m8, nI_m10, nI_m31, nI_m48, nI_m60, nI_m256, nI_t5, nI_t6, nI_a1, nI_a48, nI_a96, nI_d5, nI_d6, nI_d8, nI_d10, nI_d20, nI_s1, nI_s48, pk_sub, c2]
      repeat (first | (with_reducible refine pk1 ?_ ?_; omega) | (with_reducible refine pk2 ?_ ?_; omega) | (with_reducible refine bd1 ?_ ?_; omega))
      exact kb
    · simp (disch := omega) only [true_imp_iff, false_imp_iff, not_true_eq_false, not_false_eq_true, and_true, true_and, Int32.reduceToInt, Int64.reduceToInt, Int32.reduceAdd, fa_lt, fa_le, fa_eq, cmi_lt, cmi_le, cmi_gt, cmi_ge, cmi_eq, fa_lt64, fa_le64, fa_eq64, Int32.toInt_toInt64, nI_toInt, ti_m1, sub1_ti, inB_iff, nI_clamp, Int32.add_zero, nI_1, nI_add, nI_p2, nI_p3, nI_p4, nI_p5, nI_p6, nI_p8, nI_p9, nI_p10, nI_m3, nI_m4, nI_m5, nI_m6, nI_m8, nI_m10, nI_m31, nI_m48, nI_m60, nI_m256, nI_t5, nI_t6, nI_a1, nI_a48, nI_a96, nI_d5, nI_d6, nI_d8, nI_d10, nI_d20, nI_s1, nI_s48, pk_sub, c2]
      repeat (first | (with_reducible refine pk1 ?_ ?_; omega) | (with_reducible refine pk2 ?_ ?_; omega) | (with_reducible refine bd1 ?_ ?_; omega))
      exact go (Or.inl rfl)
    · simp (disch := omega) only [true_imp_iff, false_imp_iff, not_true_eq_false, not_false_eq_true, and_true, true_and, Int32.reduceToInt, Int64.reduceToInt, Int32.reduceAdd, fa_lt, fa_le, fa_eq, cmi_lt, cmi_le, cmi_gt, cmi_ge, cmi_eq, fa_lt64, fa_le64, fa_eq64, Int32.toInt_toInt64, nI_toInt, ti_m1, sub1_ti, inB_iff, nI_clamp, Int32.add_zero, nI_1, nI_add, nI_p2, nI_p3, nI_p4, nI_p5, nI_p6, nI_p8, nI_p9, nI_p10, nI_m3, nI_m4, nI_m5, nI_m6, nI_m8, nI_m10, nI_m31, nI_m48, nI_m60, nI_m256, nI_t5, nI_t6, nI_a1, nI_a48, nI_a96, nI_d5, nI_d6, nI_d8, nI_d10, nI_d20, nI_s1, nI_s48, pk_sub, c2]
      repeat (first | (with_reducible refine pk1 ?_ ?_; omega) | (with_reducible refine pk2 ?_ ?_; omega) | (with_reducible refine bd1 ?_ ?_; omega))
      exact go (Or.inr ⟨k, hk, rfl⟩)
    · rw [if_neg (fun z => by rw [z, ti_m1] at h; omega), rgd_hi h] at kb
      simp (disch := omega) only [true_imp_iff, false_imp_iff, not_true_eq_false, not_false_eq_true, and_true, true_and, Int32.reduceToInt, Int64.reduceToInt, Int32.reduceAdd, fa_lt, fa_le, fa_eq, cmi_lt, cmi_le, cmi_gt, cmi_ge, cmi_eq, fa_lt64, fa_le64, fa_eq64, Int32.toInt_toInt64, nI_toInt, ti_m1, sub1_ti, inB_iff, nI_clamp, Int32.add_zero, nI_1, nI_add, nI_p2, nI_p3, nI_p4, nI_p5, nI_p6, nI_p8, nI_p9, nI_p10, nI_m3, nI_m4, nI_m5, nI_m6, nI_m8, nI_m10, nI_m31, nI_m48, nI_m60, nI_m256, nI_t5, nI_t6, nI_a1, nI_a48, nI_a96, nI_d5, nI_d6, nI_d8, nI_d10, nI_d20, nI_s1, nI_s48, pk_sub, c2]
      repeat (first | (with_reducible refine pk1 ?_ ?_; omega) | (with_reducible refine pk2 ?_ ?_; omega) | (with_reducible refine bd1 ?_ ?_; omega))
      exact kb
  · have kb := kk d hr (FM_of fm FI_rf)
    rw [if_neg hb] at kb
    by_cases h1 : 1 ≤ b.toInt
    · simp (disch := omega) only [true_imp_iff, false_imp_iff, not_true_eq_false, not_false_eq_true, and_true, true_and, Int32.reduceToInt, Int64.reduceToInt, Int32.reduceAdd, fa_lt, fa_le, fa_eq, cmi_lt, cmi_le, cmi_gt, cmi_ge, cmi_eq, fa_lt64, fa_le64, fa_eq64, Int32.toInt_toInt64, nI_toInt, ti_m1, sub1_ti, inB_iff, nI_clamp, Int32.add_zero, nI_1, nI_add, nI_p2, nI_p3, nI_p4, nI_p5, nI_p6, nI_p8, nI_p9, nI_p10, nI_m3, nI_m4, nI_m5, nI_m6, nI_m8, nI_m10, nI_m31, nI_m48, nI_m60, nI_m256, nI_t5, nI_t6, nI_a1, nI_a48, nI_a96, nI_d5, nI_d6, nI_d8, nI_d10, nI_d20, nI_s1, nI_s48, pk_sub, c2]
      repeat (first | (with_reducible refine pk1 ?_ ?_; omega) | (with_reducible refine pk2 ?_ ?_; omega) | (with_reducible refine bd1 ?_ ?_; omega))
      exact kb
    · simp (disch := omega) only [true_imp_iff, false_imp_iff, not_true_eq_false, not_false_eq_true, and_true, true_and, Int32.reduceToInt, Int64.reduceToInt, Int32.reduceAdd, fa_lt, fa_le, fa_eq, cmi_lt, cmi_le, cmi_gt, cmi_ge, cmi_eq, fa_lt64, fa_le64, fa_eq64, Int32.toInt_toInt64, nI_toInt, ti_m1, sub1_ti, inB_iff, nI_clamp, Int32.add_zero, nI_1, nI_add, nI_p2, nI_p3, nI_p4, nI_p5, nI_p6, nI_p8, nI_p9, nI_p10, nI_m3, nI_m4, nI_m5, nI_m6, nI_m8, nI_m10, nI_m31, nI_m48, nI_m60, nI_m256, nI_t5, nI_t6, nI_a1, nI_a48, nI_a96, nI_d5, nI_d6, nI_d8, nI_d10, nI_d20, nI_s1, nI_s48, pk_sub, c2]
      repeat (first | (with_reducible refine pk1 ?_ ?_; omega) | (with_reducible refine pk2 ?_ ?_; omega) | (with_reducible refine bd1 ?_ ?_; omega))
      exact kb
end WEA
