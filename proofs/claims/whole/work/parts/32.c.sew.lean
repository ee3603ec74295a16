/-! sew -/
theorem bt_nI {u c : Nat} (hc : c < 32) : bt (nI u) c = u.testBit c := by
  show (BitVec.ofNat 32 u).getLsbD c = _
  rw [BitVec.getLsbD_ofNat, decide_eq_true hc, Bool.true_and]
theorem b1_nI : ∀ c, c < 31 → b1 c = nI (2 ^ c) := by decide +kernel
def popN (u : Nat) : Nat := fa_cnt (fun c => u.testBit c) 8
theorem bc_pop : ∀ u, u < 256 → bcI (nI u) = nI (popN u) := by decide +kernel
theorem pop_0 : ∀ u, u < 256 → popN u ≤ 8 := by decide +kernel
theorem pop_s : ∀ u, u < 256 → 0 < u → u &&& (u - 1) < u ∧ popN u = popN (u &&& (u - 1)) + 1 := by decide +kernel
theorem c_138 {u : Nat} (hu : u < 256) {di : tDi} {dl : tDl} {K : Int32 → tDi → tDl → Prop} (kk : K (nI (popN u)) di dl) : ClI 0 138 [.int (nI u)] di dl K := by
  refine r_138 ?_
  have L : ∀ m v n, v ≤ m → v < 256 → n + popN v = popN u → Wq none 0 138 4 [(1, .int (nI n)), (2, .int (nI v))] [] di dl (RI K) := by
    intro m
    induction m with
    | zero =>
      intro v n h1 h2 h3
      have e : v = 0 := by omega
      subst e
      have e2 : n = popN u := by
        have : popN 0 = 0 := by decide
        omega
      subst e2
      exact r_138_4 (pk1 ⟨rfl, fun z => z rfl⟩ kk)
    | succ m ih =>
      intro v n h1 h2 h3
      by_cases e : v = 0
      · exact ih v n (by omega) h2 h3
      · obtain ⟨p1, p2⟩ := pop_s v h2 (by omega)
        refine r_138_4 (pk2 ⟨nI_ne0 (by omega) (by omega), nI_ne0 (by omega) (by omega)⟩ ?_)
        rw [nI_1, nI_s1 (by omega), nx_and]
        exact ih _ _ (by omega) (by omega) (by omega)
  exact L u u 0 (Nat.le_refl u) hu (by omega)
def smq (q : tClo) (j u : Nat) : Nat → Nat
  | 0 => 0
  | c + 1 => smq q j u c + (if u.testBit c = true then q c j else 0)
theorem smq_le {q : tClo} {j u B : Nat} : ∀ {n : Nat}, (∀ c, c < n → q c j ≤ B) → smq q j u n ≤ n * B
  | 0, _ => Nat.zero_le _
  | n + 1, h => by
    have ih := smq_le (q := q) (j := j) (u := u) (n := n) (fun c hc => h c (by omega))
    have := h n (by omega)
    unfold smq
    rw [Nat.succ_mul]
    split <;> omega
def myq (q : tClo) (u : Nat) : Nat → Bool
  | 0 => true
  | c + 1 => myq q u c && (!u.testBit c || decide (0 < q c 2))
def okw (t : tTown) (q : tClo) (L u : Nat) : Bool := myq q u (nC t) && decide (L ≤ smq q 0 u (nC t))
def bet (t : tTown) (q : tClo) (u : Nat) : Option Nat → Bool
  | none => true
  | some b => decide (smq q 2 u (nC t) < smq q 2 b (nC t) ∨ (smq q 2 u (nC t) = smq q 2 b (nC t) ∧ popN u < popN b))
def swb (t : tTown) (q : tClo) (L : Nat) : Nat → Option Nat
  | 0 => none
  | u + 1 => if (okw t q L u && bet t q u (swb t q L u)) = true then some u else swb t q L u
def lsI (t : tTown) (q : tClo) : Option Nat → Nat
  | none => 0
  | some b => smq q 2 b (nC t)
theorem swb_lt {t : tTown} {q : tClo} {L : Nat} : ∀ {u b : Nat}, swb t q L u = some b → b < u
  | 0, b, h => by cases h
  | u + 1, b, h => by
    unfold swb at h
    by_cases hc : (okw t q L u && bet t q u (swb t q L u)) = true
    · rw [if_pos hc] at h
      have e : u = b := Option.some.inj h
      omega
    · rw [if_neg hc] at h
      have := swb_lt h
      omega
def sewV (t : tTown) (m L : Nat) : Int32 := oI (swb t (Qm t m) L (2 ^ nC t))
theorem smq_0 {q : tClo} {j : Nat} : ∀ n, smq q j 0 n = 0
  | 0 => rfl
  | n + 1 => by unfold smq; rw [smq_0 n, Nat.zero_testBit, if_neg (by decide)]
theorem swb_1 {t : tTown} {q : tClo} {L : Nat} (hL : 0 < L) : swb t q L 1 = none := by
  show (if (okw t q L 0 && bet t q 0 (swb t q L 0)) = true then some 0 else swb t q L 0) = none
  rw [if_neg]
  · rfl
  · unfold okw
    rw [smq_0, decide_eq_false (by omega), Bool.and_false, Bool.false_and]
    decide
theorem pow8 {n : Nat} (h : n ≤ 8) : 2 ^ n ≤ 256 := Nat.pow_le_pow_right (by decide) h
theorem pow1 (n : Nat) : 1 ≤ 2 ^ n := Nat.one_le_two_pow
/-- of bits and those that are gone -/
theorem gone_and {t : tTown} (hw : Wt t) {q : tClo} {u : Nat} (hu : u < 2 ^ nC t) : (nI u &&& goneV t q) = 0 ↔ myq q u (nC t) = true := by
  have w2 := hw.1.2.1
  have h8 := pow8 w2
  have M : ∀ n, myq q u n = true ↔ ∀ c, c < n → u.testBit c = true → 0 < q c 2 := by
    intro n
    induction n with
    | zero => exact ⟨fun _ c hc => absurd hc (Nat.not_lt_zero c), fun _ => rfl⟩
    | succ n ih =>
      unfold myq
      rw [Bool.and_eq_true, ih, Bool.or_eq_true, decide_eq_true_eq, Bool.not_eq_true']
      constructor
      · rintro ⟨h1, h2⟩ c hc hb
        rcases Nat.lt_succ_iff_lt_or_eq.mp hc with z | z
        · exact h1 c z hb
        · subst z
          rcases h2 with h2 | h2
          · rw [h2] at hb; cases hb
          · exact h2
      · intro h
        refine ⟨fun c hc => h c (by omega), ?_⟩
        by_cases hb : u.testBit n = true
        · exact Or.inr (h n (Nat.lt_succ_self n) hb)
        · exact Or.inl (Bool.eq_false_iff.mpr hb)
  rw [M]
  constructor
  · intro h c hc hb
    have e : bt (nI u &&& goneV t q) c = false := by rw [h, b_0]
    unfold goneV at e
    rw [b_and, bt_nI (by omega), bt_bts (by omega) (by omega), hb, decide_eq_true hc, Bool.true_and, Bool.true_and, decide_eq_false_iff_not] at e
    omega
  · intro h
    apply b_ext
    intro i hi
    unfold goneV
    rw [b_and, bt_nI hi, bt_bts (by omega) hi, b_0]
    by_cases hc : i < nC t
    · by_cases hb : u.testBit i = true
      · rw [hb, decide_eq_false (show ¬ q i 2 = 0 by have := h i hc hb; omega), Bool.and_false, Bool.and_false]
      · rw [Bool.eq_false_iff.mpr hb]; rfl
    · rw [decide_eq_false hc, Bool.false_and, Bool.and_false]
section SEW
variable {t : tTown} {di : tDi} {dl : tDl} {K : Int32 → tDi → tDl → Prop}
theorem c_81 (hv : Wv t di) (hw : Wt t) (hc : Cs t di) {m u : Nat} (hm : m ≤ nM t) (kk : K (nI (smq (Qm t m) 0 u (nC t))) di dl) : ClI 2 81 [.ref 8, .int (nI m), .int (nI u)] di dl K := by
  have w2 := hw.1.2.1
  have c2 := hc.2.1.1
  refine r_81 ?_
  refine up_to (n := nC t) (G := fun c => Wq none 2 81 5 [(0, .ref 8), (1, .int (nI m)), (2, .int (nI u)), (3, .int (nI (smq (Qm t m) 0 u c))), (4, .int (nI c))] [] di dl (RI K)) ?_ ?_ (Nat.zero_le _)
  · refine r_81_5 ?_
    simp (disch := omega) only [true_imp_iff, false_imp_iff, not_true_eq_false, not_false_eq_true, and_true, true_and, Int32.reduceToInt, Int64.reduceToInt, Int32.reduceAdd, fa_lt, fa_le, fa_eq, cmi_lt, cmi_le, cmi_gt, cmi_ge, cmi_eq, fa_lt64, fa_le64, fa_eq64, Int32.toInt_toInt64, nI_toInt, ti_m1, sub1_ti, inB_iff, nI_clamp, Int32.add_zero, nI_1, nI_add, nI_p2, nI_p3, nI_p4, nI_p5, nI_p6, nI_p8, nI_p9, nI_p10, nI_m3, nI_m4, nI_m5, nI_m6, nI_m8, nI_m10, nI_m31, nI_m48, nI_m60, nI_m256, nI_t5, nI_t6, nI_a1, nI_a48, nI_a96, nI_d5, nI_d6, nI_d8, nI_d10, nI_d20, nI_s1, nI_s48, pk_sub, c2]
    repeat (first | (with_reducible refine pk1 ?_ ?_; omega) | (with_reducible refine pk2 ?_ ?_; omega) | (with_reducible refine bd1 ?_ ?_; omega))
    exact kk
  · intro c hcn ic
    refine r_81_5 (pk2 ⟨fun z => by rw [c2] at z; exact absurd (nI_lt hcn (by omega)) (Int32.not_lt.mpr z), by rw [c2]; exact nI_lt hcn (by omega)⟩ ?_)
    refine c_65 hv hw hm hcn ?_
    rw [bit_v (by omega), bt_nI (by omega), nI_1]
    unfold smq at ic
    by_cases hb : u.testBit c = true
    · rw [if_pos hb] at ic
      rw [if_pos hb, Int32.one_mul, nI_add]
      exact ic
    · rw [if_neg hb] at ic
      rw [if_neg hb, Int32.zero_mul, Int32.add_zero]
      exact ic
theorem c_82 (hv : Wv t di) (hw : Wt t) (hc : Cs t di) {m u : Nat} (hm : m ≤ nM t) (kk : K (nI (smq (Qm t m) 2 u (nC t))) di dl) : ClI 2 82 [.ref 8, .int (nI m), .int (nI u)] di dl K := by
  have w2 := hw.1.2.1
  have c2 := hc.2.1.1
  refine r_82 ?_
  refine up_to (n := nC t) (G := fun c => Wq none 2 82 5 [(0, .ref 8), (1, .int (nI m)), (2, .int (nI u)), (3, .int (nI (smq (Qm t m) 2 u c))), (4, .int (nI c))] [] di dl (RI K)) ?_ ?_ (Nat.zero_le _)
  · refine r_82_5 ?_
    simp (disch := omega) only [true_imp_iff, false_imp_iff, not_true_eq_false, not_false_eq_true, and_true, true_and, Int32.reduceToInt, Int64.reduceToInt, Int32.reduceAdd, fa_lt, fa_le, fa_eq, cmi_lt, cmi_le, cmi_gt, cmi_ge, cmi_eq, fa_lt64, fa_le64, fa_eq64, Int32.toInt_toInt64, nI_toInt, ti_m1, sub1_ti, inB_iff, nI_clamp, Int32.add_zero, nI_1, nI_add, nI_p2, nI_p3, nI_p4, nI_p5, nI_p6, nI_p8, nI_p9, nI_p10, nI_m3, nI_m4, nI_m5, nI_m6, nI_m8, nI_m10, nI_m31, nI_m48, nI_m60, nI_m256, nI_t5, nI_t6, nI_a1, nI_a48, nI_a96, nI_d5, nI_d6, nI_d8, nI_d10, nI_d20, nI_s1, nI_s48, pk_sub, c2]
    repeat (first | (with_reducible refine pk1 ?_ ?_; omega) | (with_reducible refine pk2 ?_ ?_; omega) | (with_reducible refine bd1 ?_ ?_; omega))
    exact kk
  · intro c hcn ic
    refine r_82_5 (pk2 ⟨fun z => by rw [c2] at z; exact absurd (nI_lt hcn (by omega)) (Int32.not_lt.mpr z), by rw [c2]; exact nI_lt hcn (by omega)⟩ ?_)
    refine c_67 hv hw hm hcn ?_
    rw [bit_v (by omega), bt_nI (by omega), nI_1]
    unfold smq at ic
    by_cases hb : u.testBit c = true
    · rw [if_pos hb] at ic
      rw [if_pos hb, Int32.one_mul, nI_add]
      exact ic
    · rw [if_neg hb] at ic
      rw [if_neg hb, Int32.zero_mul, Int32.add_zero]
      exact ic
theorem c_76 (hv : Wv t di) (hw : Wt t) (hc : Cs t di) {m L : Nat} (hm : m ≤ nM t) (hL0 : 0 < L) (hL : L ≤ 400) (kk : K (sewV t m L) di dl) : ClI 3 76 [.ref 8, .int (nI m), .int (nI L)] di dl K := by
  have w2 := hw.1.2.1
  have c2 := hc.2.1.1
  have h8 := pow8 w2
  have e2 : (1 : Int32) <<< (di 3 4 &&& 31) = nI (2 ^ nC t) := by rw [c2]; exact b1_nI _ (by omega)
  have S0 : ∀ u, smq (Qm t m) 0 u (nC t) ≤ nC t * 99 := fun u => smq_le (fun c hc => (Bq_s hw (mo t) m c hc).1)
  have S2 : ∀ u, smq (Qm t m) 2 u (nC t) ≤ nC t * 9 := fun u => smq_le (fun c hc => (Bq_s hw (mo t) m c hc).2.2)
  refine r_76 (c_72 hv hw hc hm ?_)
  have start := up_to (n := 2 ^ nC t) (i := 1) (G := fun u => Wq none 3 76 15 [(0, .ref 8), (1, .int (nI m)), (2, .int (nI L)), (3, .int (oI (swb t (Qm t m) L u))), (4, .int (nI (lsI t (Qm t m) (swb t (Qm t m) L u)))), (5, .int (goneV t (Qm t m))), (6, .int (nI u))] [] di dl (RI K)) ?_ ?_ (pow1 _)
  · rw [swb_1 hL0] at start
    exact start
  · refine r_76_15 ?_
    rw [e2]
    exact pk1 ⟨Int32.le_refl _, fun z => absurd (Int32.le_refl _) (Int32.not_le.mpr z)⟩ kk
  · intro u hu ic
    refine r_76_15 ?_
    rw [e2, nI_1]
    refine pk2 ⟨fun z => absurd (nI_lt hu (by omega)) (Int32.not_lt.mpr z), nI_lt hu (by omega)⟩ ?_
    have s0 := S0 u
    have s2 := S2 u
    by_cases hm1 : myq (Qm t m) u (nC t) = true
    · have hg := (gone_and hw (q := Qm t m) hu).mpr hm1
      refine pk2 ⟨fun z => z hg, hg⟩ ?_
      refine c_81 hv hw hc hm ?_
      by_cases hl : L ≤ smq (Qm t m) 0 u (nC t)
      · refine pk1 ⟨nI_le hl (by omega), fun z => absurd (nI_le hl (by omega)) (Int32.not_le.mpr z)⟩ ?_
        refine c_82 hv hw hc hm ?_
        have ok : okw t (Qm t m) L u = true := by unfold okw; rw [hm1, decide_eq_true hl]; rfl
        unfold swb at ic
        rw [ok, Bool.true_and] at ic
        cases hb : swb t (Qm t m) L u with
        | none =>
          rw [hb] at ic
          have ic' : Wq none 3 76 15 [(0, .ref 8), (1, .int (nI m)), (2, .int (nI L)), (3, .int (nI u)), (4, .int (nI (smq (Qm t m) 2 u (nC t)))), (5, .int (goneV t (Qm t m))), (6, .int (nI (u + 1)))] [] di dl (RI K) := ic
          refine ⟨fun _ => pk1 ⟨rfl, fun z => z rfl⟩ ic', fun _ => c_219 (c_219 ⟨fun _ => pk1 ⟨rfl, fun z => z rfl⟩ ic', fun _ => pk1 ⟨rfl, fun z => z rfl⟩ ic'⟩)⟩
        | some b =>
          rw [hb] at ic
          have hbl := swb_lt hb
          have sb := S2 b
          have n1 : ¬ oI (some b) = -1 := oI_ne (by omega)
          have p1 := pop_0 u (by omega)
          have p2 := pop_0 b (by omega)
          show (¬ nI (smq (Qm t m) 2 u (nC t)) = nI (smq (Qm t m) 2 b (nC t)) → _) ∧ (nI (smq (Qm t m) 2 u (nC t)) = nI (smq (Qm t m) 2 b (nC t)) → _)
          have kb : ClI 0 219 [.int (nI u)] di dl (fun r d e => r = nI (popN u) ∧ d = di ∧ e = dl) := c_219 ⟨bc_pop u (by omega), rfl, rfl⟩
          have kb2 : ClI 0 219 [.int (oI (some b))] di dl (fun r d e => r = nI (popN b) ∧ d = di ∧ e = dl) := c_219 ⟨bc_pop b (by omega), rfl, rfl⟩
          by_cases hbt : bet t (Qm t m) u (some b) = true
          · rw [if_pos hbt] at ic
            unfold bet at hbt
            rw [decide_eq_true_eq] at hbt
            by_cases heq : smq (Qm t m) 2 u (nC t) = smq (Qm t m) 2 b (nC t)
            · refine pk2 ⟨fun z => z (by rw [heq]), by rw [heq]⟩ ?_
              refine ClI_mono kb ?_
              rintro r d e ⟨rfl, rfl, rfl⟩
              refine ClI_mono kb2 ?_
              rintro r d e ⟨rfl, rfl, rfl⟩
              refine pk2 ⟨fun z => absurd (nI_lt (show popN u < popN b by omega) (by omega)) (Int32.not_lt.mpr z), nI_lt (by omega) (by omega)⟩ ?_
              refine pk2 ⟨n1, n1⟩ ⟨fun _ => ic, fun _ => ic⟩
            · have ne : ¬ nI (smq (Qm t m) 2 u (nC t)) = nI (smq (Qm t m) 2 b (nC t)) := fun z => heq ((nI_eq (by omega) (by omega)).mp z)
              have hlt' := nI_lt (show smq (Qm t m) 2 u (nC t) < smq (Qm t m) 2 b (nC t) by omega) (show smq (Qm t m) 2 b (nC t) < 2 ^ 31 by omega)
              refine pk1 ⟨ne, ne⟩ (pk2 ⟨n1, n1⟩ (pk1 ⟨hlt', fun z => absurd (nI_lt (show smq (Qm t m) 2 u (nC t) < smq (Qm t m) 2 b (nC t) by omega) (by omega)) (Int32.not_lt.mpr z)⟩ ic))
          · rw [if_neg hbt] at ic
            unfold bet at hbt
            rw [decide_eq_true_eq] at hbt
            by_cases heq : smq (Qm t m) 2 u (nC t) = smq (Qm t m) 2 b (nC t)
            · refine pk2 ⟨fun z => z (by rw [heq]), by rw [heq]⟩ ?_
              refine ClI_mono kb ?_
              rintro r d e ⟨rfl, rfl, rfl⟩
              refine ClI_mono kb2 ?_
              rintro r d e ⟨rfl, rfl, rfl⟩
              refine pk1 ⟨nI_le (by omega) (by omega), fun z => absurd (nI_le (show popN b ≤ popN u by omega) (by omega)) (Int32.not_le.mpr z)⟩ ?_
              refine pk2 ⟨n1, n1⟩ ?_
              refine pk2 ⟨fun z => ?_, ?_⟩ ic
              · have z' : nI (smq (Qm t m) 2 u (nC t)) < nI (smq (Qm t m) 2 b (nC t)) := z
                rw [heq] at z'
                exact absurd (Int32.le_refl _) (Int32.not_le.mpr z')
              · show nI (smq (Qm t m) 2 b (nC t)) ≤ nI (smq (Qm t m) 2 u (nC t))
                rw [heq]
                exact Int32.le_refl _
            · have ne : ¬ nI (smq (Qm t m) 2 u (nC t)) = nI (smq (Qm t m) 2 b (nC t)) := fun z => heq ((nI_eq (by omega) (by omega)).mp z)
              refine pk1 ⟨ne, ne⟩ (pk2 ⟨n1, n1⟩ (pk2 ⟨fun z => ?_, nI_le (show smq (Qm t m) 2 b (nC t) ≤ smq (Qm t m) 2 u (nC t) by omega) (by omega)⟩ ic))
              exact absurd (nI_le (show smq (Qm t m) 2 b (nC t) ≤ smq (Qm t m) 2 u (nC t) by omega) (by omega)) (Int32.not_le.mpr z)
      · refine pk2 ⟨fun z => absurd (nI_lt (show smq (Qm t m) 0 u (nC t) < L by omega) (by omega)) (Int32.not_lt.mpr z), nI_lt (by omega) (by omega)⟩ ?_
        have ok : okw t (Qm t m) L u = false := by unfold okw; rw [decide_eq_false hl, Bool.and_false]
        unfold swb at ic
        rw [ok, Bool.false_and, if_neg (by decide)] at ic
        exact ic
    · have hg : ¬ (nI u &&& goneV t (Qm t m)) = 0 := fun z => hm1 ((gone_and hw (q := Qm t m) hu).mp z)
      refine pk1 ⟨hg, hg⟩ ?_
      have ok : okw t (Qm t m) L u = false := by unfold okw; rw [Bool.eq_false_iff.mpr hm1, Bool.false_and]
      unfold swb at ic
      rw [ok, Bool.false_and, if_neg (by decide)] at ic
      exact ic
theorem c_198 (hw : Wt t) (hr : Rs t di) {m L : Nat} (hm : m ≤ nM t) (hL0 : 0 < L) (hL : L ≤ 400) (kk : ∀ d, Rs t d → FI di d → K (sewV t m L) d dl) : ClI 5 198 [.ref 176, .int (nI m), .int (nI L)] di dl K := by
  have w2 := hw.1.2.1
  have h8 := pow8 w2
  refine r_198 (c_lives hw hr hm ?_)
  intro d n8 n9 hr' fi
  replace kk := kk d hr' fi
  have c2 := hr'.2.1
  have e2 : (1 : Int32) <<< (d 183 1 &&& 31) = nI (2 ^ nC t) := by rw [c2]; exact b1_nI _ (by omega)
  have S0 : ∀ u, smq (Qm t m) 0 u (nC t) ≤ nC t * 99 := fun u => smq_le (fun c hc => (Bq_s hw (mo t) m c hc).1)
  have S2 : ∀ u, smq (Qm t m) 2 u (nC t) ≤ nC t * 9 := fun u => smq_le (fun c hc => (Bq_s hw (mo t) m c hc).2.2)
  refine up_to (n := 2 ^ nC t) (G := fun u => Wq none 5 198 13 [(0, .ref 176), (2, .int (nI L)), (3, .int (oI (swb t (Qm t m) L u))), (4, .int (nI (lsI t (Qm t m) (swb t (Qm t m) L u)))), (5, .int (nI u))] [] d dl (RI K)) ?_ ?_ (Nat.zero_le _)
  · refine r_198_13 ?_
    rw [e2]
    exact pk1 ⟨Int32.le_refl _, fun z => absurd (Int32.le_refl _) (Int32.not_le.mpr z)⟩ kk
  · intro u hu ic
    refine r_198_13 ?_
    rw [e2]
    refine pk2 ⟨fun z => absurd (nI_lt hu (by omega)) (Int32.not_lt.mpr z), nI_lt hu (by omega)⟩ ?_
    have s0 := S0 u
    have s2 := S2 u
    refine up_to (n := nC t) (G := fun c => ∀ a b e, a = smq (Qm t m) 0 u c → b = smq (Qm t m) 2 u c → e = (if myq (Qm t m) u c = true then 1 else 0) → Wq none 5 198 38 [(0, .ref 176), (2, .int (nI L)), (3, .int (oI (swb t (Qm t m) L u))), (4, .int (nI (lsI t (Qm t m) (swb t (Qm t m) L u)))), (5, .int (nI u)), (6, .int (nI a)), (7, .int (nI b)), (8, .int (nI e)), (9, .int (nI c))] [] d dl (RI K)) ?_ ?_ (Nat.zero_le _) 0 0 1 rfl rfl rfl
    · intro a b e ea eb ee
      subst ea
      subst eb
      unfold swb at ic
      unfold okw at ic
      by_cases hm1 : myq (Qm t m) u (nC t) = true
      · rw [if_pos hm1] at ee
        subst ee
        rw [hm1, Bool.true_and] at ic
        by_cases hl : L ≤ smq (Qm t m) 0 u (nC t)
        · rw [decide_eq_true hl, Bool.true_and] at ic
          cases hb : swb t (Qm t m) L u with
          | none =>
            rw [hb] at ic
            refine r_198_38 ?_
            have ic' : Wq none 5 198 13 [(0, .ref 176), (2, .int (nI L)), (3, .int (nI u)), (4, .int (nI (smq (Qm t m) 2 u (nC t)))), (5, .int (nI (u + 1)))] [] d dl (RI K) := ic
            refine pk1 ⟨by rw [c2]; exact Int32.le_refl _, fun z => by rw [c2] at z; exact absurd (Int32.le_refl _) (Int32.not_le.mpr z)⟩ ?_
            refine pk1 ⟨rfl, fun z => z rfl⟩ (pk2 ⟨by decide, by decide⟩ (pk2 ⟨fun z => absurd (nI_le hl (by omega)) (Int32.not_le.mpr z), nI_le hl (by omega)⟩ ?_))
            rw [nI_1]
            exact ic'
          | some b =>
            rw [hb] at ic
            have hbl := swb_lt hb
            have sb := S2 b
            have n1 : ¬ oI (some b) = -1 := oI_ne (by omega)
            have p1 := pop_0 u (by omega)
            have p2 := pop_0 b (by omega)
            have kb : ClI 0 138 [.int (nI u)] d dl (fun r d' e => r = nI (popN u) ∧ d' = d ∧ e = dl) := c_138 (by omega) ⟨rfl, rfl, rfl⟩
            have kb2 : ClI 0 138 [.int (oI (some b))] d dl (fun r d' e => r = nI (popN b) ∧ d' = d ∧ e = dl) := c_138 (by omega) ⟨rfl, rfl, rfl⟩
            refine r_198_38 ?_
            refine pk1 ⟨by rw [c2]; exact Int32.le_refl _, fun z => by rw [c2] at z; exact absurd (Int32.le_refl _) (Int32.not_le.mpr z)⟩ ?_
            refine pk2 ⟨n1, n1⟩ ?_
            rw [nI_1]
            have hl1 := nI_le hl (show smq (Qm t m) 0 u (nC t) < 2 ^ 31 by omega)
            have fin : ∀ {A B : Prop}, B → (nI (smq (Qm t m) 0 u (nC t)) < nI L → A) ∧ (nI L ≤ nI (smq (Qm t m) 0 u (nC t)) → B) := fun hB => pk2 ⟨fun z => absurd hl1 (Int32.not_le.mpr z), hl1⟩ hB
            show (nI (smq (Qm t m) 2 u (nC t)) < nI (smq (Qm t m) 2 b (nC t)) → _) ∧ (nI (smq (Qm t m) 2 b (nC t)) ≤ nI (smq (Qm t m) 2 u (nC t)) → (¬ nI (smq (Qm t m) 2 u (nC t)) = nI (smq (Qm t m) 2 b (nC t)) → _) ∧ (nI (smq (Qm t m) 2 u (nC t)) = nI (smq (Qm t m) 2 b (nC t)) → _))
            by_cases hbt : bet t (Qm t m) u (some b) = true
            · rw [if_pos hbt] at ic
              unfold bet at hbt
              rw [decide_eq_true_eq] at hbt
              by_cases hlt : smq (Qm t m) 2 u (nC t) < smq (Qm t m) 2 b (nC t)
              · refine pk1 ⟨nI_lt hlt (by omega), fun z => absurd (nI_lt hlt (by omega)) (Int32.not_lt.mpr z)⟩ (pk2 ⟨by decide, by decide⟩ (fin ic))
              · have heq : smq (Qm t m) 2 u (nC t) = smq (Qm t m) 2 b (nC t) := by omega
                rw [← heq]
                refine pk2 ⟨fun z => absurd (Int32.le_refl _) (Int32.not_le.mpr z), Int32.le_refl _⟩ (pk2 ⟨fun z => z rfl, rfl⟩ ?_)
                refine ClI_mono kb ?_
                rintro r d' e ⟨rfl, rfl, rfl⟩
                refine ClI_mono kb2 ?_
                rintro r d' e ⟨rfl, rfl, rfl⟩
                refine pk2 ⟨fun z => absurd (nI_lt (show popN u < popN b by omega) (by omega)) (Int32.not_lt.mpr z), nI_lt (by omega) (by omega)⟩ (pk2 ⟨by decide, by decide⟩ (fin ic))
            · rw [if_neg hbt] at ic
              unfold bet at hbt
              rw [decide_eq_true_eq] at hbt
              refine pk2 ⟨fun z => absurd (nI_le (show smq (Qm t m) 2 b (nC t) ≤ smq (Qm t m) 2 u (nC t) by omega) (by omega)) (Int32.not_le.mpr z), nI_le (by omega) (by omega)⟩ ?_
              by_cases heq : smq (Qm t m) 2 u (nC t) = smq (Qm t m) 2 b (nC t)
              · refine pk2 ⟨fun z => z (by rw [heq]), by rw [heq]⟩ ?_
                refine ClI_mono kb ?_
                rintro r d' e ⟨rfl, rfl, rfl⟩
                refine ClI_mono kb2 ?_
                rintro r d' e ⟨rfl, rfl, rfl⟩
                refine pk1 ⟨nI_le (by omega) (by omega), fun z => absurd (nI_le (show popN b ≤ popN u by omega) (by omega)) (Int32.not_le.mpr z)⟩ (pk2 ⟨by decide, by decide⟩ (fin ic))
              · have ne : ¬ nI (smq (Qm t m) 2 u (nC t)) = nI (smq (Qm t m) 2 b (nC t)) := fun z => heq ((nI_eq (by omega) (by omega)).mp z)
                exact pk1 ⟨ne, ne⟩ (pk2 ⟨by decide, by decide⟩ (fin ic))
        · rw [decide_eq_false hl, Bool.false_and, if_neg (by decide)] at ic
          have hl1 := nI_lt (show smq (Qm t m) 0 u (nC t) < L by omega) (show L < 2 ^ 31 by omega)
          have fin : ∀ {A B : Prop}, A → (nI (smq (Qm t m) 0 u (nC t)) < nI L → A) ∧ (nI L ≤ nI (smq (Qm t m) 0 u (nC t)) → B) := fun hA => pk1 ⟨hl1, fun z => absurd hl1 (Int32.not_lt.mpr z)⟩ hA
          refine r_198_38 ?_
          rw [nI_1]
          refine pk1 ⟨by rw [c2]; exact Int32.le_refl _, fun z => by rw [c2] at z; exact absurd (Int32.le_refl _) (Int32.not_le.mpr z)⟩ ?_
          have F1 : ∀ {A B C : Prop}, B → (nI 1 = 0 → A) ∧ (¬ nI 1 = 0 → (nI (smq (Qm t m) 0 u (nC t)) < nI L → B) ∧ (nI L ≤ nI (smq (Qm t m) 0 u (nC t)) → C)) := fun hB => pk2 ⟨by decide, by decide⟩ (fin hB)
          refine ⟨fun _ => F1 ic, fun hne => ⟨fun _ => F1 ic, fun _ => ⟨fun _ => F1 ic, fun _ => ?_⟩⟩⟩
          cases hb : swb t (Qm t m) L u with
          | none => rw [hb] at hne; exact absurd rfl hne
          | some b =>
            rw [hb] at ic
            have hbl := swb_lt hb
            refine c_138 (by omega) ?_
            show ClI 0 138 [.int (nI b)] d dl _
            exact c_138 (by omega) ⟨fun _ => F1 ic, fun _ => F1 ic⟩
      · rw [if_neg hm1] at ee
        subst ee
        rw [Bool.eq_false_iff.mpr hm1, Bool.false_and, Bool.false_and, if_neg (by decide)] at ic
        refine r_198_38 ?_
        rw [nI_1]
        refine pk1 ⟨by rw [c2]; exact Int32.le_refl _, fun z => by rw [c2] at z; exact absurd (Int32.le_refl _) (Int32.not_le.mpr z)⟩ ?_
        have F1 : ∀ {A B : Prop}, A → (nI 0 = 0 → A) ∧ (¬ nI 0 = 0 → B) := fun hA => pk1 ⟨by decide, by decide⟩ hA
        refine ⟨fun _ => F1 ic, fun hne => ⟨fun _ => F1 ic, fun _ => ⟨fun _ => F1 ic, fun _ => ?_⟩⟩⟩
        cases hb : swb t (Qm t m) L u with
        | none => rw [hb] at hne; exact absurd rfl hne
        | some b =>
          rw [hb] at ic
          have hbl := swb_lt hb
          refine c_138 (by omega) ?_
          show ClI 0 138 [.int (nI b)] d dl _
          exact c_138 (by omega) ⟨fun _ => F1 ic, fun _ => F1 ic⟩
    · intro c hc ih a b e ea eb ee
      obtain ⟨g1, g2, g3⟩ := n8 c hc
      have q3 : Qm t m c 2 ≤ 9 := (Bq_s hw (mo t) m c hc).2.2
      refine r_198_38 ?_
      have hb := bt_nI (u := u) (c := c) (by omega)
      unfold smq myq at ih
      by_cases h1 : u.testBit c = true
      · rw [h1] at hb ih
        by_cases h2 : myq (Qm t m) u c = true
        · rw [if_pos h2] at ee
          subst ee
          rw [h2] at ih
          by_cases h3 : 0 < Qm t m c 2
          · simp (disch := omega) only [true_imp_iff, false_imp_iff, not_true_eq_false, not_false_eq_true, and_true, true_and, Int32.reduceToInt, Int64.reduceToInt, Int32.reduceAdd, fa_lt, fa_le, fa_eq, cmi_lt, cmi_le, cmi_gt, cmi_ge, cmi_eq, fa_lt64, fa_le64, fa_eq64, Int32.toInt_toInt64, nI_toInt, ti_m1, sub1_ti, inB_iff, nI_clamp, Int32.add_zero, nI_1, nI_add, nI_p2, nI_p3, nI_p4, nI_p5, nI_p6, nI_p8, nI_p9, nI_p10, nI_m3, nI_m4, nI_m5, nI_m6, nI_m8, nI_m10, nI_m31, nI_m48, nI_m60, nI_m256, nI_t5, nI_t6, nI_a1, nI_a48, nI_a96, nI_d5, nI_d6, nI_d8, nI_d10, nI_d20, nI_s1, nI_s48, pk_sub, c2, bit_1 (show c < 32 by omega) hb, g1, g3]
            repeat (first | (with_reducible refine pk1 ?_ ?_; omega) | (with_reducible refine pk2 ?_ ?_; omega) | (with_reducible refine bd1 ?_ ?_; omega))
            exact ih _ _ 1 (by rw [ea, if_pos rfl]) (by rw [eb, if_pos rfl]) (by rw [decide_eq_true h3]; rfl)
          · simp (disch := omega) only [true_imp_iff, false_imp_iff, not_true_eq_false, not_false_eq_true, and_true, true_and, Int32.reduceToInt, Int64.reduceToInt, Int32.reduceAdd, fa_lt, fa_le, fa_eq, cmi_lt, cmi_le, cmi_gt, cmi_ge, cmi_eq, fa_lt64, fa_le64, fa_eq64, Int32.toInt_toInt64, nI_toInt, ti_m1, sub1_ti, inB_iff, nI_clamp, Int32.add_zero, nI_1, nI_add, nI_p2, nI_p3, nI_p4, nI_p5, nI_p6, nI_p8, nI_p9, nI_p10, nI_m3, nI_m4, nI_m5, nI_m6, nI_m8, nI_m10, nI_m31, nI_m48, nI_m60, nI_m256, nI_t5, nI_t6, nI_a1, nI_a48, nI_a96, nI_d5, nI_d6, nI_d8, nI_d10, nI_d20, nI_s1, nI_s48, pk_sub, c2, bit_1 (show c < 32 by omega) hb, g1, g3]
            repeat (first | (with_reducible refine pk1 ?_ ?_; omega) | (with_reducible refine pk2 ?_ ?_; omega) | (with_reducible refine bd1 ?_ ?_; omega))
            exact ih _ _ 0 (by rw [ea, if_pos rfl]) (by rw [eb, if_pos rfl]) (by rw [decide_eq_false h3]; rfl)
        · rw [if_neg h2] at ee
          subst ee
          rw [Bool.eq_false_iff.mpr h2] at ih
          simp (disch := omega) only [true_imp_iff, false_imp_iff, not_true_eq_false, not_false_eq_true, and_true, true_and, Int32.reduceToInt, Int64.reduceToInt, Int32.reduceAdd, fa_lt, fa_le, fa_eq, cmi_lt, cmi_le, cmi_gt, cmi_ge, cmi_eq, fa_lt64, fa_le64, fa_eq64, Int32.toInt_toInt64, nI_toInt, ti_m1, sub1_ti, inB_iff, nI_clamp, Int32.add_zero, nI_1, nI_add, nI_p2, nI_p3, nI_p4, nI_p5, nI_p6, nI_p8, nI_p9, nI_p10, nI_m3, nI_m4, nI_m5, nI_m6, nI_m8, nI_m10, nI_m31, nI_m48, nI_m60, nI_m256, nI_t5, nI_t6, nI_a1, nI_a48, nI_a96, nI_d5, nI_d6, nI_d8, nI_d10, nI_d20, nI_s1, nI_s48, pk_sub, c2, bit_1 (show c < 32 by omega) hb, g1, g3]
          repeat (first | (with_reducible refine pk1 ?_ ?_; omega) | (with_reducible refine pk2 ?_ ?_; omega) | (with_reducible refine bd1 ?_ ?_; omega))
          exact ih _ _ 0 (by rw [ea, if_pos rfl]) (by rw [eb, if_pos rfl]) rfl
      · rw [Bool.eq_false_iff.mpr h1] at hb ih
        by_cases h2 : myq (Qm t m) u c = true
        · rw [if_pos h2] at ee
          subst ee
          rw [h2] at ih
          simp (disch := omega) only [true_imp_iff, false_imp_iff, not_true_eq_false, not_false_eq_true, and_true, true_and, Int32.reduceToInt, Int64.reduceToInt, Int32.reduceAdd, fa_lt, fa_le, fa_eq, cmi_lt, cmi_le, cmi_gt, cmi_ge, cmi_eq, fa_lt64, fa_le64, fa_eq64, Int32.toInt_toInt64, nI_toInt, ti_m1, sub1_ti, inB_iff, nI_clamp, Int32.add_zero, nI_1, nI_add, nI_p2, nI_p3, nI_p4, nI_p5, nI_p6, nI_p8, nI_p9, nI_p10, nI_m3, nI_m4, nI_m5, nI_m6, nI_m8, nI_m10, nI_m31, nI_m48, nI_m60, nI_m256, nI_t5, nI_t6, nI_a1, nI_a48, nI_a96, nI_d5, nI_d6, nI_d8, nI_d10, nI_d20, nI_s1, nI_s48, pk_sub, c2, bit_0 (show c < 32 by omega) hb, g1, g3]
          repeat (first | (with_reducible refine pk1 ?_ ?_; omega) | (with_reducible refine pk2 ?_ ?_; omega) | (with_reducible refine bd1 ?_ ?_; omega))
          exact ih _ _ 1 (by rw [ea]; rfl) (by rw [eb]; rfl) rfl
        · rw [if_neg h2] at ee
          subst ee
          rw [Bool.eq_false_iff.mpr h2] at ih
          simp (disch := omega) only [true_imp_iff, false_imp_iff, not_true_eq_false, not_false_eq_true, and_true, true_and, Int32.reduceToInt, Int64.reduceToInt, Int32.reduceAdd, fa_lt, fa_le, fa_eq, cmi_lt, cmi_le, cmi_gt, cmi_ge, cmi_eq, fa_lt64, fa_le64, fa_eq64, Int32.toInt_toInt64, nI_toInt, ti_m1, sub1_ti, inB_iff, nI_clamp, Int32.add_zero, nI_1, nI_add, nI_p2, nI_p3, nI_p4, nI_p5, nI_p6, nI_p8, nI_p9, nI_p10, nI_m3, nI_m4, nI_m5, nI_m6, nI_m8, nI_m10, nI_m31, nI_m48, nI_m60, nI_m256, nI_t5, nI_t6, nI_a1, nI_a48, nI_a96, nI_d5, nI_d6, nI_d8, nI_d10, nI_d20, nI_s1, nI_s48, pk_sub, c2, bit_0 (show c < 32 by omega) hb, g1, g3]
          repeat (first | (with_reducible refine pk1 ?_ ?_; omega) | (with_reducible refine pk2 ?_ ?_; omega) | (with_reducible refine bd1 ?_ ?_; omega))
          exact ih _ _ 0 (by rw [ea]; rfl) (by rw [eb]; rfl) rfl
def a_sw (t : tTown) (a b : Int32) : Int32 := rgd a (nM t + 1) (fun m => if 10 ≤ b.toInt ∧ b.toInt ≤ 400 then sewV t m b.toInt.toNat else -2)
theorem k_107 (hw : Wt t) (hc : Cw t di) (a b : Int32) (kk : ∀ d, Cw t d → FC di d → K (a_sw t a b) d dl) : ClI 4 107 [.ref 0, .int a, .int b] di dl K := by
  have w3 := hw.1.2.2.1
  have c3 := hc.1.2.2.1.1
  unfold a_sw at kk
  rcases ixi a (nM t + 1) (by omega) with h | h | ⟨m, hm, rfl⟩
  · have kb := kk di hc FC_rf
    rw [rgd_lo h] at kb
    refine r_107 ?_
    simp (disch := omega) only [true_imp_iff, false_imp_iff, not_true_eq_false, not_false_eq_true, and_true, true_and, Int32.reduceToInt, Int64.reduceToInt, Int32.reduceAdd, fa_lt, fa_le, fa_eq, cmi_lt, cmi_le, cmi_gt, cmi_ge, cmi_eq, fa_lt64, fa_le64, fa_eq64, Int32.toInt_toInt64, nI_toInt, ti_m1, sub1_ti, inB_iff, nI_clamp, Int32.add_zero, nI_1, nI_add, nI_p2, nI_p3, nI_p4, nI_p5, nI_p6, nI_p8, nI_p9, nI_p10, nI_m3, nI_m4, nI_m5, nI_m6, nI_m8, nI_m10, nI_m31, nI_m48, nI_m60, nI_m256, nI_t5, nI_t6, nI_a1, nI_a48, nI_a96, nI_d5, nI_d6, nI_d8, nI_d10, nI_d20, nI_s1, nI_s48, pk_sub, c3]
    repeat (first | (with_reducible refine pk1 ?_ ?_; omega) | (with_reducible refine pk2 ?_ ?_; omega) | (with_reducible refine bd1 ?_ ?_; omega))
    exact kb
  · have kb := kk di hc FC_rf
    rw [rgd_hi h] at kb
    refine r_107 ?_
    simp (disch := omega) only [true_imp_iff, false_imp_iff, not_true_eq_false, not_false_eq_true, and_true, true_and, Int32.reduceToInt, Int64.reduceToInt, Int32.reduceAdd, fa_lt, fa_le, fa_eq, cmi_lt, cmi_le, cmi_gt, cmi_ge, cmi_eq, fa_lt64, fa_le64, fa_eq64, Int32.toInt_toInt64, nI_toInt, ti_m1, sub1_ti, inB_iff, nI_clamp, Int32.add_zero, nI_1, nI_add, nI_p2, nI_p3, nI_p4, nI_p5, nI_p6, nI_p8, nI_p9, nI_p10, nI_m3, nI_m4, nI_m5, nI_m6, nI_m8, nI_m10, nI_m31, nI_m48, nI_m60, nI_m256, nI_t5, nI_t6, nI_a1, nI_a48, nI_a96, nI_d5, nI_d6, nI_d8, nI_d10, nI_d20, nI_s1, nI_s48, pk_sub, c3]
    repeat (first | (with_reducible refine pk1 ?_ ?_; omega) | (with_reducible refine pk2 ?_ ?_; omega) | (with_reducible refine bd1 ?_ ?_; omega))
    exact kb
  simp (disch := omega) only [rgd_in] at kk
  by_cases hb : 10 ≤ b.toInt ∧ b.toInt ≤ 400
  · rcases ixp b with z | ⟨L, hL, rfl⟩
    · omega
    rw [nI_toInt hL] at hb
    simp only [nI_toInt hL, if_pos hb, Int.toNat_natCast] at kk
    refine r_107 ?_
    simp (disch := omega) only [true_imp_iff, false_imp_iff, not_true_eq_false, not_false_eq_true, and_true, true_and, Int32.reduceToInt, Int64.reduceToInt, Int32.reduceAdd, fa_lt, fa_le, fa_eq, cmi_lt, cmi_le, cmi_gt, cmi_ge, cmi_eq, fa_lt64, fa_le64, fa_eq64, Int32.toInt_toInt64, nI_toInt, ti_m1, sub1_ti, inB_iff, nI_clamp, Int32.add_zero, nI_1, nI_add, nI_p2, nI_p3, nI_p4, nI_p5, nI_p6, nI_p8, nI_p9, nI_p10, nI_m3, nI_m4, nI_m5, nI_m6, nI_m8, nI_m10, nI_m31, nI_m48, nI_m60, nI_m256, nI_t5, nI_t6, nI_a1, nI_a48, nI_a96, nI_d5, nI_d6, nI_d8, nI_d10, nI_d20, nI_s1, nI_s48, pk_sub, c3]
    repeat (first | (with_reducible refine pk1 ?_ ?_; omega) | (with_reducible refine pk2 ?_ ?_; omega) | (with_reducible refine bd1 ?_ ?_; omega))
    refine c_upd hw hc ?_
    intro d hv hd cw fc
    exact c_76 hv hw hd (by omega) (by omega) (by omega) (kk d cw fc)
  · have kb := kk di hc FC_rf
    rw [if_neg hb] at kb
    refine r_107 ?_
    by_cases h1 : 10 ≤ b.toInt
    · simp (disch := omega) only [true_imp_iff, false_imp_iff, not_true_eq_false, not_false_eq_true, and_true, true_and, Int32.reduceToInt, Int64.reduceToInt, Int32.reduceAdd, fa_lt, fa_le, fa_eq, cmi_lt, cmi_le, cmi_gt, cmi_ge, cmi_eq, fa_lt64, fa_le64, fa_eq64, Int32.toInt_toInt64, nI_toInt, ti_m1, sub1_ti, inB_iff, nI_clamp, Int32.add_zero, nI_1, nI_add, nI_p2, nI_p3, nI_p4, nI_p5, nI_p6, nI_p8, nI_p9, nI_p10, nI_m3, nI_m4, nI_m5, nI_m6, nI_m8, nI_m10, nI_m31, nI_m48, nI_m60, nI_m256, nI_t5, nI_t6, nI_a1, nI_a48, nI_a96, nI_d5, nI_d6, nI_d8, nI_d10, nI_d20, nI_s1, nI_s48, pk_sub, c3]
      repeat (first | (with_reducible refine pk1 ?_ ?_; omega) | (with_reducible refine pk2 ?_ ?_; omega) | (with_reducible refine bd1 ?_ ?_; omega))
      exact kb
    · simp (disch := omega) only [true_imp_iff, false_imp_iff, not_true_eq_false, not_false_eq_true, and_true, true_and, Int32.reduceToInt, Int64.reduceToInt, Int32.reduceAdd, fa_lt, fa_le, fa_eq, cmi_lt, cmi_le, cmi_gt, cmi_ge, cmi_eq, fa_lt64, fa_le64, fa_eq64, Int32.toInt_toInt64, nI_toInt, ti_m1, sub1_ti, inB_iff, nI_clamp, Int32.add_zero, nI_1, nI_add, nI_p2, nI_p3, nI_p4, nI_p5, nI_p6, nI_p8, nI_p9, nI_p10, nI_m3, nI_m4, nI_m5, nI_m6, nI_m8, nI_m10, nI_m31, nI_m48, nI_m60, nI_m256, nI_t5, nI_t6, nI_a1, nI_a48, nI_a96, nI_d5, nI_d6, nI_d8, nI_d10, nI_d20, nI_s1, nI_s48, pk_sub, c3]
      repeat (first | (with_reducible refine pk1 ?_ ?_; omega) | (with_reducible refine pk2 ?_ ?_; omega) | (with_reducible refine bd1 ?_ ?_; omega))
      exact kb
theorem k_199 (hx : Itx di) (hs : Ise di) (hw : Wt t) (hc : Cs t di) (a b : Int32) (kk : ∀ d, Rs t d → FM di d → K (a_sw t a b) d dl) : ClI 7 199 [.ref 176, .int a, .int b] di dl K := by
  have w3 := hw.1.2.2.1
  refine r_199 (c_163 hx hs hw hc ?_)
  intro d hr fm
  have c3 := hr.2.2.1
  unfold a_sw at kk
  rcases ixi a (nM t + 1) (by omega) with h | h | ⟨m, hm, rfl⟩
  · have kb := kk d hr (FM_of fm FI_rf)
    rw [rgd_lo h] at kb
    simp (disch := omega) only [true_imp_iff, false_imp_iff, not_true_eq_false, not_false_eq_true, and_true, true_and, Int32.reduceToInt, Int64.reduceToInt, Int32.reduceAdd, fa_lt, fa_le, fa_eq, cmi_lt, cmi_le, cmi_gt, cmi_ge, cmi_eq, fa_lt64, fa_le64, fa_eq64, Int32.toInt_toInt64, nI_toInt, ti_m1, sub1_ti, inB_iff, nI_clamp, Int32.add_zero, nI_1, nI_add, nI_p2, nI_p3, nI_p4, nI_p5, nI_p6, nI_p8, nI_p9, nI_p10, nI_m3, nI_m4, nI_m5, nI_m6, nI_m8, nI_m10, nI_m31, nI_m48, nI_m60, nI_m256, nI_t5, nI_t6, nI_a1, nI_a48, nI_a96, nI_d5, nI_d6, nI_d8, nI_d10, nI_d20, nI_s1, nI_s48, pk_sub, c3]
    repeat (first | (with_reducible refine pk1 ?_ ?_; omega) | (with_reducible refine pk2 ?_ ?_; omega) | (with_reducible refine bd1 ?_ ?_; omega))
    exact kb
  · have kb := kk d hr (FM_of fm FI_rf)
    rw [rgd_hi h] at kb
    simp (disch := omega) only [true_imp_iff, false_imp_iff, not_true_eq_false, not_false_eq_true, and_true, true_and, Int32.reduceToInt, Int64.reduceToInt, Int32.reduceAdd, fa_lt, fa_le, fa_eq, cmi_lt, cmi_le, cmi_gt, cmi_ge, cmi_eq, fa_lt64, fa_le64, fa_eq64, Int32.toInt_toInt64, nI_toInt, ti_m1, sub1_ti, inB_iff, nI_clamp, Int32.add_zero, nI_1, nI_add, nI_p2, nI_p3, nI_p4, nI_p5, nI_p6, nI_p8, nI_p9, nI_p10, nI_m3, nI_m4, nI_m5, nI_m6, nI_m8, nI_m10, nI_m31, nI_m48, nI_m60, nI_m256, nI_t5, nI_t6, nI_a1, nI_a48, nI_a96, nI_d5, nI_d6, nI_d8, nI_d10, nI_d20, nI_s1, nI_s48, pk_sub, c3]
    repeat (first | (with_reducible refine pk1 ?_ ?_; omega) | (with_reducible refine pk2 ?_ ?_; omega) | (with_reducible refine bd1 ?_ ?_; omega))
    exact kb
  simp (disch := omega) only [rgd_in] at kk
  by_cases hb : 10 ≤ b.toInt ∧ b.toInt ≤ 400
  · rcases ixp b with z | ⟨L, hL, rfl⟩
    · omega
    rw [nI_toInt hL] at hb
    simp only [nI_toInt hL, if_pos hb, Int.toNat_natCast] at kk
    simp (disch := omega) only [true_imp_iff, false_imp_iff, not_true_eq_false, not_false_eq_true, and_true, true_and, Int32.reduceToInt, Int64.reduceToInt, Int32.reduceAdd, fa_lt, fa_le, fa_eq, cmi_lt, cmi_le, cmi_gt, cmi_ge, cmi_eq, fa_lt64, fa_le64, fa_eq64, Int32.toInt_toInt64, nI_toInt, ti_m1, sub1_ti, inB_iff, nI_clamp, Int32.add_zero, nI_1, nI_add, nI_p2, nI_p3, nI_p4, nI_p5, nI_p6, nI_p8, nI_p9, nI_p10, nI_m3, nI_m4, nI_m5, nI_m6, nI_m8, nI_m10, nI_m31, nI_m48, nI_m60, nI_m256, nI_t5, nI_t6, nI_a1, nI_a48, nI_a96, nI_d5, nI_d6, nI_d8, nI_d10, nI_d20, nI_s1, nI_s48, pk_sub, c3]
    repeat (first | (with_reducible refine pk1 ?_ ?_; omega) | (with_reducible refine pk2 ?_ ?_; omega) | (with_reducible refine bd1 ?_ ?_; omega))
    refine c_198 hw hr (by omega) (by omega) (by omega) ?_
    intro e hr2 fi
    exact kk e hr2 (FM_of fm fi)
  · have kb := kk d hr (FM_of fm FI_rf)
    rw [if_neg hb] at kb
    by_cases h1 : 10 ≤ b.toInt
    · simp (disch := omega) only [true_imp_iff, false_imp_iff, not_true_eq_false, not_false_eq_true, and_true, true_and, Int32.reduceToInt, Int64.reduceToInt, Int32.reduceAdd, fa_lt, fa_le, fa_eq, cmi_lt, cmi_le, cmi_gt, cmi_ge, cmi_eq, fa_lt64, fa_le64, fa_eq64, Int32.toInt_toInt64, nI_toInt, ti_m1, sub1_ti, inB_iff, nI_clamp, Int32.add_zero, nI_1, nI_add, nI_p2, nI_p3, nI_p4, nI_p5, nI_p6, nI_p8, nI_p9, nI_p10, nI_m3, nI_m4, nI_m5, nI_m6, nI_m8, nI_m10, nI_m31, nI_m48, nI_m60, nI_m256, nI_t5, nI_t6, nI_a1, nI_a48, nI_a96, nI_d5, nI_d6, nI_d8, nI_d10, nI_d20, nI_s1, nI_s48, pk_sub, c3]
      repeat (first | (with_reducible refine pk1 ?_ ?_; omega) | (with_reducible refine pk2 ?_ ?_; omega) | (with_reducible refine bd1 ?_ ?_; omega))
      exact kb
    · simp (disch := omega) only [true_imp_iff, false_imp_iff, not_true_eq_false, not_false_eq_true, and_true, true_and, Int32.reduceToInt, Int64.reduceToInt, Int32.reduceAdd, fa_lt, fa_le, fa_eq, cmi_lt, cmi_le, cmi_gt, cmi_ge, cmi_eq, fa_lt64, fa_le64, fa_eq64, Int32.toInt_toInt64, nI_toInt, ti_m1, sub1_ti, inB_iff, nI_clamp, Int32.add_zero, nI_1, nI_add, nI_p2, nI_p3, nI_p4, nI_p5, nI_p6, nI_p8, nI_p9, nI_p10, nI_m3, nI_m4, nI_m5, nI_m6, nI_m8, nI_m10, nI_m31, nI_m48, nI_m60, nI_m256, nI_t5, nI_t6, nI_a1, nI_a48, nI_a96, nI_d5, nI_d6, nI_d8, nI_d10, nI_d20, nI_s1, nI_s48, pk_sub, c3]
      repeat (first | (with_reducible refine pk1 ?_ ?_; omega) | (with_reducible refine pk2 ?_ ?_; omega) | (with_reducible refine bd1 ?_ ?_; omega))
      exact kb
end SEW
