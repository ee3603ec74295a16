/-! most: how many can be dressed; the class's plan -/
def fx (t : tTown) (q : tClo) (s c : Nat) : Bool := decide (s < nS t ∧ c < nC t) && fitq t q c s
def mx (t : tTown) (q : tClo) (F : Nat → Nat) (s u : Nat) : Nat → Nat
  | 0 => F u
  | c + 1 => if (fx t q s c && !u.testBit c) = true then max (mx t q F s u c) (1 + F (u ||| 2 ^ c)) else mx t q F s u c
def Dd (t : tTown) (q : tClo) : Nat → Nat → Nat
  | 0 => fun _ => 0
  | r + 1 => fun u => mx t q (Dd t q r) (7 - r) u 8
def Dm (t : tTown) (q : tClo) (s u : Nat) : Nat := Dd t q (8 - s) u
theorem Dm_s {t : tTown} {q : tClo} {s u : Nat} (hs : s < 8) : Dm t q s u = mx t q (Dm t q (s + 1)) s u 8 := by
  unfold Dm
  rw [show 8 - s = (7 - s) + 1 by omega]
  show mx t q (Dd t q (7 - s)) (7 - (7 - s)) u 8 = mx t q (Dd t q (8 - (s + 1))) s u 8
  rw [show 7 - (7 - s) = s by omega, show 8 - (s + 1) = 7 - s by omega]
theorem mx_le {t : tTown} {q : tClo} {F : Nat → Nat} {s u B : Nat} (h : ∀ v, F v ≤ B) : ∀ c, mx t q F s u c ≤ B + 1
  | 0 => Nat.le_succ_of_le (h u)
  | c + 1 => by
    have ih := mx_le (t := t) (q := q) (s := s) (u := u) h c
    have := h (u ||| 2 ^ c)
    unfold mx
    split
    · exact Nat.max_le.mpr ⟨ih, by omega⟩
    · exact ih
theorem Dd_le {t : tTown} {q : tClo} : ∀ r u, Dd t q r u ≤ r
  | 0, _ => Nat.le_refl 0
  | r + 1, u => mx_le (Dd_le r) 8
theorem Dm_le {t : tTown} {q : tClo} (s u : Nat) : Dm t q s u ≤ 8 := by
  have := Dd_le (t := t) (q := q) (8 - s) u
  unfold Dm
  omega
theorem mx_no {t : tTown} {q : tClo} {F : Nat → Nat} {s u n : Nat} : ∀ {m : Nat}, (∀ c, n ≤ c → c < n + m → (fx t q s c && !u.testBit c) = false) → mx t q F s u (n + m) = mx t q F s u n
  | 0, _ => rfl
  | m + 1, h => by
    rw [← Nat.add_assoc]
    show (if (fx t q s (n + m) && !u.testBit (n + m)) = true then _ else mx t q F s u (n + m)) = _
    rw [if_neg (by rw [h (n + m) (by omega) (by omega)]; decide)]
    exact mx_no (fun c h1 h2 => h c h1 (by omega))
theorem fx_ge {t : tTown} {q : tClo} {s c : Nat} (h : nS t ≤ s) : fx t q s c = false := by
  unfold fx
  rw [decide_eq_false (by omega), Bool.false_and]
theorem fx_gc {t : tTown} {q : tClo} {s c : Nat} (h : nC t ≤ c) : fx t q s c = false := by
  unfold fx
  rw [decide_eq_false (by omega), Bool.false_and]
theorem fx_in {t : tTown} {q : tClo} {s c : Nat} (h : s < nS t) (h2 : c < nC t) : fx t q s c = fitq t q c s := by
  unfold fx
  rw [decide_eq_true ⟨h, h2⟩, Bool.true_and]
theorem Dm_ge {t : tTown} {q : tClo} : ∀ r s u, s + r = 8 → nS t ≤ s → Dm t q s u = 0
  | 0, s, u, h, _ => by
    unfold Dm
    rw [show 8 - s = 0 by omega]; rfl
  | r + 1, s, u, h, h2 => by
    rw [Dm_s (by omega)]
    have := mx_no (t := t) (q := q) (F := Dm t q (s + 1)) (s := s) (u := u) (n := 0) (m := 8) (fun c _ _ => by rw [fx_ge h2]; rfl)
    rw [this]
    exact Dm_ge r (s + 1) u (by omega) (by omega)
def cmay (t : tTown) (q : tClo) (s u c : Nat) : Bool := (fx t q s c && !u.testBit c) && decide (1 + Dm t q (s + 1) (u ||| 2 ^ c) = Dm t q s u)
def chs (t : tTown) (q : tClo) (s u : Nat) : Option Nat := fsN (cmay t q s u) 8
def oP : Option Nat → Nat
  | none => 0
  | some c => 2 ^ c
def tkm (t : tTown) (q : tClo) : Nat → Nat
  | 0 => 0
  | s + 1 => tkm t q s ||| oP (chs t q s (tkm t q s))
theorem or_lt {u c n : Nat} (hu : u < 2 ^ n) (hc : c < n) : u ||| 2 ^ c < 2 ^ n := Nat.or_lt_two_pow hu (Nat.pow_lt_pow_right (by decide) hc)
theorem chs_lt {t : tTown} {q : tClo} {s u c : Nat} (h : chs t q s u = some c) : c < nC t ∧ c < 8 := by
  obtain ⟨h1, h2⟩ := fsN_some h
  refine ⟨?_, h1⟩
  by_cases hc : c < nC t
  · exact hc
  · unfold cmay at h2
    rw [fx_gc (by omega)] at h2
    cases h2
theorem tkm_lt {t : tTown} {q : tClo} : ∀ s, tkm t q s < 2 ^ nC t
  | 0 => Nat.two_pow_pos _
  | s + 1 => by
    have ih := tkm_lt (t := t) (q := q) s
    unfold tkm
    cases h : chs t q s (tkm t q s) with
    | none =>
      show tkm t q s ||| 0 < _
      rw [Nat.or_zero]
      exact ih
    | some c => exact or_lt ih (chs_lt h).1
def sut (t : tTown) (q : tClo) (s : Nat) : Int32 := if s < nS t then bts (fun c => fitq t q c s) (nC t) else 0
theorem bt_sut {t : tTown} (hw : Wt t) {q : tClo} {s c : Nat} (hc : c < 32) : bt (sut t q s) c = fx t q s c := by
  have w2 := hw.1.2.1
  unfold sut
  by_cases h : s < nS t
  · rw [if_pos h, bt_bts (by omega) hc]
    unfold fx
    by_cases h2 : c < nC t
    · rw [decide_eq_true h2, decide_eq_true ⟨h, h2⟩]
    · rw [decide_eq_false h2, decide_eq_false (fun z => h2 z.2)]
  · rw [if_neg h, b_0, fx_ge (by omega)]
theorem bt_free {t : tTown} (hw : Wt t) {q : tClo} {s u c : Nat} (hc : c < 32) : bt (sut t q s &&& (nI u ^^^ -1)) c = (fx t q s c && !u.testBit c) := by
  rw [b_and, bt_sut hw hc, b_xor, bt_nI hc, b_m1 c hc, Bool.xor_true]
theorem or_255 {u c : Nat} (hu : u < 256) (hc : c < 8) : (nI u ||| ((1 : Int32) <<< (nI c &&& 31))) &&& 255 = nI (u ||| 2 ^ c) := by
  have e : (1 : Int32) <<< (nI c &&& 31) = nI (2 ^ c) := b1_nI c (by omega)
  have h : u ||| 2 ^ c < 2 ^ 8 := or_lt hu hc
  rw [e, fa_or]
  have := fa_mask (u ||| 2 ^ c) 8
  rw [Nat.mod_eq_of_lt h] at this
  exact this
theorem imax_n {a b : Nat} (ha : a < 2 ^ 31) (hb : b < 2 ^ 31) : imax (nI a) (nI b) = nI (max a b) := by
  unfold imax
  by_cases h : a < b
  · rw [if_pos (nI_lt h hb), Nat.max_eq_right (by omega)]
  · rw [if_neg (nI_nlt (by omega) ha), Nat.max_eq_left (by omega)]
theorem shr_0 {x : Int32} {c i : Nat} (hc : c < 32) (h : (x >>> (nI c &&& 31)) = 0) (hi : c ≤ i) (hi2 : i < 32) : bt x i = false := by
  have := b_sshr c hc x (i := i - c) (by omega)
  rw [h, b_0, if_pos (by omega), show c + (i - c) = i by omega] at this
  exact this.symm
theorem S_row {s : Nat} (hs : s < 9) : S0[146 + s]? = some (.inr (0, 256, [])) := by
  have := G_145 (j := nI s) (inB_n hs (by decide))
  rw [nI_clamp (by omega)] at this
  exact this
theorem c_16 {t : tTown} {di : tDi} {dl : tDl} (hw : Wt t) (hc : Cs t di) {q : tClo} {s : Nat} (hs : s < 8) (h : ∀ u, u < 2 ^ nC t → di (147 + s) u = nI (Dm t q (s + 1) u)) {K : tDi → tDl → Prop} (kk : ∀ d, (∀ u, u < 2 ^ nC t → d (146 + s) u = nI (Dm t q s u)) → FF1 (146 + s) di d → K d dl) : ClV 0 16 [.ref 144, .int (nI s), .int (sut t q s)] di dl K := by
  have w2 := hw.1.2.1
  have h8 := pow8 w2
  have p3 := S_row (s := s) (by omega)
  have p4 := S_row (s := s + 1) (by omega)
  rw [show 146 + (s + 1) = 147 + s by omega] at p4
  refine r_16 ?_
  simp (disch := omega) only [true_imp_iff, false_imp_iff, not_true_eq_false, not_false_eq_true, and_true, true_and, Int32.reduceToInt, Int64.reduceToInt, Int32.reduceAdd, fa_lt, fa_le, fa_eq, cmi_lt, cmi_le, cmi_gt, cmi_ge, cmi_eq, fa_lt64, fa_le64, fa_eq64, Int32.toInt_toInt64, nI_toInt, ti_m1, sub1_ti, inB_iff, nI_clamp, Int32.add_zero, nI_1, nI_add, nI_p2, nI_p3, nI_p4, nI_p5, nI_p6, nI_p8, nI_p9, nI_p10, nI_m3, nI_m4, nI_m5, nI_m6, nI_m8, nI_m10, nI_m31, nI_m48, nI_m60, nI_m256, nI_t5, nI_t6, nI_a1, nI_a48, nI_a96, nI_d5, nI_d6, nI_d8, nI_d10, nI_d20, nI_s1, nI_s48, pk_sub]
  repeat (first | (with_reducible refine pk1 ?_ ?_; omega) | (with_reducible refine pk2 ?_ ?_; omega) | (with_reducible refine bd1 ?_ ?_; omega))
  rw [show 146 + (s + 1) = 147 + s by omega]
  refine up_to (n := 2 ^ nC t) (G := fun u => ∀ d, (∀ v, v < u → d (146 + s) v = nI (Dm t q s v)) → FF1 (146 + s) di d → Wq none 0 16 31 [(0, .ref 144), (2, .int (sut t q s)), (3, .ref (146 + s)), (4, .ref (147 + s)), (5, .int (nI u))] [] d dl (RV K)) ?_ ?_ (Nat.zero_le _) di (fun v hv => absurd hv (Nat.not_lt_zero v)) (fun _ _ _ => rfl)
  · intro d hd fr
    have c2 : d 3 4 = nI (nC t) := by rw [fr _ _ (by omega)]; exact hc.2.1.1
    have e2 : (1 : Int32) <<< (d 3 4 &&& 31) = nI (2 ^ nC t) := by rw [c2]; exact b1_nI _ (by omega)
    refine r_16_31 p3 p4 ?_
    rw [e2]
    exact pk1 ⟨Int32.le_refl _, fun z => absurd (Int32.le_refl _) (Int32.not_le.mpr z)⟩ (kk d hd fr)
  · intro u hu ih d hd fr
    have c2 : d 3 4 = nI (nC t) := by rw [fr _ _ (by omega)]; exact hc.2.1.1
    have e2 : (1 : Int32) <<< (d 3 4 &&& 31) = nI (2 ^ nC t) := by rw [c2]; exact b1_nI _ (by omega)
    have hn : ∀ v, v < 2 ^ nC t → d (147 + s) v = nI (Dm t q (s + 1) v) := fun v hv => by rw [fr _ _ (by omega)]; exact h v hv
    have P : ∀ c, c < 32 → bt (sut t q s &&& (nI u ^^^ -1)) c = (fx t q s c && !u.testBit c) := fun c hc => bt_free hw hc
    have out : ∀ x, x = Dm t q s u → Wq none 0 16 31 [(0, .ref 144), (2, .int (sut t q s)), (3, .ref (146 + s)), (4, .ref (147 + s)), (5, .int (nI u + 1))] [] (up2 d (146 + s) (nI u).toNatClampNeg (nI x)) dl (RV K) := by
      intro x hx
      subst hx
      rw [nI_1, nI_clamp (by omega)]
      refine ih _ ?_ (fun a k z => by rw [up_na z]; exact fr a k z)
      intro v hv
      rcases Nat.lt_succ_iff_lt_or_eq.mp hv with z | z
      · rw [up_nk (by omega)]
        exact hd v z
      · subst z
        rw [up_eq]
    refine r_16_31 p3 p4 ?_
    rw [e2]
    refine pk2 ⟨fun z => absurd (nI_lt hu (by omega)) (Int32.not_lt.mpr z), nI_lt hu (by omega)⟩ ?_
    refine pk2 ⟨fun z => absurd (nI_lt (b := 256) (show u < 256 by omega) (by decide)) (Int32.not_lt.mpr z), nI_lt (b := 256) (by omega) (by decide)⟩ ⟨inB_n (by omega) (by decide), ?_⟩
    rw [nI_clamp (by omega), hn u hu]
    refine up_to (n := 8) (G := fun c => Wq none 0 16 71 [(0, .ref 144), (2, .int (sut t q s)), (3, .ref (146 + s)), (4, .ref (147 + s)), (5, .int (nI u)), (6, .int (nI (mx t q (Dm t q (s + 1)) s u c))), (7, .int (sut t q s &&& (nI u ^^^ -1))), (8, .int (nI c))] [] d dl (RV K)) ?_ ?_ (Nat.zero_le _)
    · refine r_16_71 p3 p4 (pk1 ⟨Int32.le_refl _, fun z => absurd z (by decide)⟩ ⟨inB_n (by omega) (by decide), ?_⟩)
      exact out _ (Dm_s hs).symm
    · intro c hc8 ic
      have hmx := mx_le (t := t) (q := q) (s := s) (u := u) (Dm_le (t := t) (q := q) (s + 1)) c
      refine r_16_71 p3 p4 (pk2 ⟨fun z => absurd (nI_lt (b := 8) hc8 (by decide)) (Int32.not_lt.mpr z), nI_lt (b := 8) hc8 (by decide)⟩ ?_)
      by_cases hz : (sut t q s &&& (nI u ^^^ -1)) >>> (nI c &&& 31) = 0
      · refine pk1 ⟨hz, fun z => z hz⟩ ⟨inB_n (by omega) (by decide), ?_⟩
        refine out _ ?_
        rw [Dm_s hs, show 8 = c + (8 - c) by omega, mx_no]
        intro c' h1 h2
        rw [← P c' (by omega)]
        exact shr_0 (by omega) hz h1 (by omega)
      · refine pk2 ⟨hz, hz⟩ ?_
        by_cases hb : (fx t q s c && !u.testBit c) = true
        · rw [bit_1 (by omega) ((P c (by omega)).trans hb)]
          refine pk2 (by decide) ?_
          have hcn : c < nC t := by
            by_cases hcc : c < nC t
            · exact hcc
            · rw [fx_gc (by omega)] at hb
              cases hb
          rw [or_255 (by omega) hc8]
          have hlt : u ||| 2 ^ c < 2 ^ nC t := or_lt hu hcn
          have hD := Dm_le (t := t) (q := q) (s + 1) (u ||| 2 ^ c)
          refine ⟨inB_n (by omega) (by decide), ?_⟩
          rw [nI_clamp (by omega), hn _ hlt, nI_a1, imax_n (by omega) (by omega), nI_1]
          unfold mx at ic
          rw [if_pos hb] at ic
          exact ic
        · rw [bit_0 (by omega) ((P c (by omega)).trans (Bool.eq_false_iff.mpr hb))]
          refine pk1 (by decide) ?_
          unfold mx at ic
          rw [if_neg hb] at ic
          rw [nI_1]
          exact ic
theorem c_17 {t : tTown} {di : tDi} {dl : tDl} (hw : Wt t) {q : tClo} {s u : Nat} (hs : s < 8) (hu : u < 2 ^ nC t) (h : ∀ u, u < 2 ^ nC t → di (146 + s) u = nI (Dm t q s u)) (h' : ∀ u, u < 2 ^ nC t → di (147 + s) u = nI (Dm t q (s + 1) u)) {K : Int32 → tDi → tDl → Prop} (kk : K (oI (chs t q s u)) di dl) : ClI 0 17 [.ref 144, .int (nI s), .int (sut t q s), .int (nI u)] di dl K := by
  have w2 := hw.1.2.1
  have h8 := pow8 w2
  have P : ∀ c, c < 32 → bt (sut t q s &&& (nI u ^^^ -1)) c = (fx t q s c && !u.testBit c) := fun c hc => bt_free hw hc
  have hDs := Dm_le (t := t) (q := q) s u
  refine r_17 ?_
  simp (disch := omega) only [true_imp_iff, false_imp_iff, not_true_eq_false, not_false_eq_true, and_true, true_and, Int32.reduceToInt, Int64.reduceToInt, Int32.reduceAdd, fa_lt, fa_le, fa_eq, cmi_lt, cmi_le, cmi_gt, cmi_ge, cmi_eq, fa_lt64, fa_le64, fa_eq64, Int32.toInt_toInt64, nI_toInt, ti_m1, sub1_ti, inB_iff, nI_clamp, Int32.add_zero, nI_1, nI_add, nI_p2, nI_p3, nI_p4, nI_p5, nI_p6, nI_p8, nI_p9, nI_p10, nI_m3, nI_m4, nI_m5, nI_m6, nI_m8, nI_m10, nI_m31, nI_m48, nI_m60, nI_m256, nI_t5, nI_t6, nI_a1, nI_a48, nI_a96, nI_d5, nI_d6, nI_d8, nI_d10, nI_d20, nI_s1, nI_s48, pk_sub, h u hu]
  repeat (first | (with_reducible refine pk1 ?_ ?_; omega) | (with_reducible refine pk2 ?_ ?_; omega) | (with_reducible refine bd1 ?_ ?_; omega))
  refine up_to (n := 8) (G := fun c => fsN (cmay t q s u) c = none → Wq none 0 17 43 [(0, .ref 144), (1, .int (nI s)), (3, .int (nI u)), (4, .int (nI (Dm t q s u))), (5, .int (sut t q s &&& (nI u ^^^ -1))), (6, .int (nI c))] [] di dl (RI K)) ?_ ?_ (Nat.zero_le _) rfl
  · intro hn
    unfold chs at kk
    rw [hn] at kk
    exact r_17_43 (pk1 ⟨Int32.le_refl _, fun z => absurd z (by decide)⟩ kk)
  · intro c hc8 ih hn
    refine r_17_43 (pk2 ⟨fun z => absurd (nI_lt (b := 8) hc8 (by decide)) (Int32.not_lt.mpr z), nI_lt (b := 8) hc8 (by decide)⟩ ?_)
    by_cases hb : (fx t q s c && !u.testBit c) = true
    · rw [bit_1 (by omega) ((P c (by omega)).trans hb)]
      refine pk2 (by decide) ?_
      have hcn : c < nC t := by
        by_cases hcc : c < nC t
        · exact hcc
        · rw [fx_gc (by omega)] at hb
          cases hb
      have hlt : u ||| 2 ^ c < 2 ^ nC t := or_lt hu hcn
      have hD := Dm_le (t := t) (q := q) (s + 1) (u ||| 2 ^ c)
      rw [or_255 (by omega) hc8, nI_1, nI_1, nI_clamp (by omega), nI_clamp (by omega), show 146 + (s + 1) = 147 + s by omega, h' _ hlt, nI_a1]
      refine ⟨inB_n (by omega) (by decide), inB_n (by omega) (by decide), ?_⟩
      by_cases he : 1 + Dm t q (s + 1) (u ||| 2 ^ c) = Dm t q s u
      · refine pk2 ⟨fun z => z (by rw [he]), by rw [he]⟩ ?_
        have e : fsN (cmay t q s u) 8 = some c := fsN_at hn (by unfold cmay; rw [hb, decide_eq_true he]; rfl) hc8
        unfold chs at kk
        rw [e] at kk
        exact kk
      · have ne : ¬ nI (1 + Dm t q (s + 1) (u ||| 2 ^ c)) = nI (Dm t q s u) := fun z => he ((nI_eq (by omega) (by omega)).mp z)
        exact pk1 ⟨ne, ne⟩ (ih (fsN_no hn (by unfold cmay; rw [decide_eq_false he, Bool.and_false])))
    · rw [bit_0 (by omega) ((P c (by omega)).trans (Bool.eq_false_iff.mpr hb)), nI_1]
      exact pk1 (by decide) (ih (fsN_no hn (by unfold cmay; rw [Bool.eq_false_iff.mpr hb, Bool.false_and])))
theorem c_69s {t : tTown} {di : tDi} {dl : tDl} (hv : Wv t di) (hw : Wt t) (hc : Cs t di) {m s : Nat} (hm : m ≤ nM t) (hs : s < 8) {K : Int32 → tDi → tDl → Prop} (kk : K (sut t (Qm t m) s) di dl) : ClI 1 69 [.ref 8, .int (nI m), .int (nI s)] di dl K := by
  unfold sut at kk
  by_cases h : s < nS t
  · rw [if_pos h] at kk
    exact c_69 hv hw hc hm h kk
  · rw [if_neg h] at kk
    exact c_69n hw hc hm (by omega) hs kk
/-- plan changes its rows and what is chosen -/
def FP (di d : tDi) : Prop := ∀ a k, ¬ (146 ≤ a ∧ a ≤ 153) → ¬ a = 155 → d a k = di a k
theorem Wv_cong {t : tTown} {di d : tDi} (hw : Wt t) (h : ∀ a k, 10 ≤ a → a ≤ 142 → d a k = di a k) (H : Wv t di) : Wv t d := by
  have w3 := hw.1.2.2.1
  exact fun m hm => RowV_cong (fun a k ha => h a k (by omega) (by omega)) (H m hm)
theorem c_15 {t : tTown} {di : tDi} {dl : tDl} (hv : Wv t di) (hw : Wt t) (hc : Cs t di) (hz : ∀ u, u < 256 → di 154 u = 0) {m : Nat} (hm : m ≤ nM t) {K : tDi → tDl → Prop} (kk : ∀ d, d 146 0 = nI (Dm t (Qm t m) 0 0) → (∀ i, i < 8 → d 155 i = oI (chs t (Qm t m) i (tkm t (Qm t m) i))) → FP di d → K d dl) : ClV 2 15 [.ref 144, .int (nI m)] di dl K := by
  have w2 := hw.1.2.1
  have w3 := hw.1.2.2.1
  have h8 := pow8 w2
  refine r_15 ?_
  have L : ∀ r s, s + r = 8 → ∀ d, (∀ i, s ≤ i → i ≤ 8 → ∀ u, u < 2 ^ nC t → d (146 + i) u = nI (Dm t (Qm t m) i u)) → FP di d → Wq none 2 15 3 [(0, .ref 144), (1, .int (nI m)), (2, .int (nI s + (-1)))] [] d dl (RV K) := by
    intro r s
    induction s generalizing r with
    | zero =>
      intro hr d hd fp
      refine r_15_3 (pk1 (by decide) ?_)
      refine up_to (n := 8) (G := fun s => ∀ d, (∀ i, i ≤ 8 → ∀ u, u < 2 ^ nC t → d (146 + i) u = nI (Dm t (Qm t m) i u)) → (∀ i, i < s → d 155 i = oI (chs t (Qm t m) i (tkm t (Qm t m) i))) → FP di d → Wq none 2 15 31 [(0, .ref 144), (1, .int (nI m)), (2, .int (nI (tkm t (Qm t m) s))), (3, .int (nI s))] [] d dl (RV K)) ?_ ?_ (Nat.zero_le _) d (fun i hi => hd i (Nat.zero_le _) hi) (fun i hi => absurd hi (Nat.not_lt_zero i)) fp
      · intro d hd hi fp
        refine r_15_31 (pk1 ⟨Int32.le_refl _, fun z => absurd z (by decide)⟩ ?_)
        exact kk d (hd 0 (by omega) 0 (Nat.two_pow_pos _)) hi fp
      · intro s hs ih d hd hi fp
        have hv' : Wv t d := Wv_cong hw (fun a k z1 z2 => fp a k (by omega) (by omega)) hv
        have hc' : Cs t d := Cs_lo (fun a k z1 z2 => fp a k (by omega) (by omega)) hc
        refine r_15_31 (pk2 ⟨fun z => absurd (nI_lt (b := 8) hs (by decide)) (Int32.not_lt.mpr z), nI_lt (b := 8) hs (by decide)⟩ ?_)
        refine c_69s hv' hw hc' hm hs ?_
        refine c_17 hw hs (tkm_lt s) (hd s (by omega)) (fun u hu => by rw [show 147 + s = 146 + (s + 1) by omega]; exact hd (s + 1) (by omega) u hu) ?_
        refine ⟨inB_n hs (by decide), ?_⟩
        rw [nI_clamp (by omega), up_eq, nI_1]
        have ih' := ih (up2 d 155 s (oI (chs t (Qm t m) s (tkm t (Qm t m) s)))) (fun i hi u hu => by rw [up_na (by omega)]; exact hd i hi u hu) (fun i hi2 => by
          rcases Nat.lt_succ_iff_lt_or_eq.mp hi2 with z | z
          · rw [up_nk (by omega)]
            exact hi i z
          · subst z
            rw [up_eq]) (fun a k z1 z2 => by rw [up_na z2]; exact fp a k z1 z2)
        rw [show tkm t (Qm t m) (s + 1) = tkm t (Qm t m) s ||| oP (chs t (Qm t m) s (tkm t (Qm t m) s)) from rfl] at ih'
        cases hch : chs t (Qm t m) s (tkm t (Qm t m) s) with
        | none =>
          rw [hch] at ih'
          refine pk2 ⟨fun z => z rfl, rfl⟩ ?_
          rw [or_0]
          have e0 : tkm t (Qm t m) s ||| oP none = tkm t (Qm t m) s := Nat.or_zero _
          rw [e0] at ih'
          exact ih'
        | some c =>
          rw [hch] at ih'
          have hcl := chs_lt hch
          refine pk1 ⟨oI_ne (by omega), oI_ne (by omega)⟩ ?_
          have e1 : nI (tkm t (Qm t m) s) ||| ((1 : Int32) <<< (oI (some c) &&& 31)) = nI (tkm t (Qm t m) s ||| oP (some c)) := by
            show nI (tkm t (Qm t m) s) ||| ((1 : Int32) <<< (nI c &&& 31)) = nI (tkm t (Qm t m) s ||| 2 ^ c)
            have e : (1 : Int32) <<< (nI c &&& 31) = nI (2 ^ c) := b1_nI c (by omega)
            rw [e, fa_or]
          rw [e1]
          exact ih'
    | succ s ih =>
      intro hr d hd fp
      have hv' : Wv t d := Wv_cong hw (fun a k z1 z2 => fp a k (by omega) (by omega)) hv
      have hc' : Cs t d := Cs_lo (fun a k z1 z2 => fp a k (by omega) (by omega)) hc
      rw [pk_m1]
      refine r_15_3 (pk2 ⟨fun z => absurd (nI_pos' (n := s) (by omega)) (Int32.not_le.mpr z), nI_pos' (by omega)⟩ ?_)
      refine c_69s hv' hw hc' hm (by omega) ?_
      refine c_16 hw hc' (by omega) (fun u hu => by rw [show 147 + s = 146 + (s + 1) by omega]; exact hd (s + 1) (by omega) (by omega) u hu) ?_
      intro g hg gr
      refine ih (r + 1) (by omega) g ?_ (fun a k z1 z2 => by rw [gr _ _ (by omega)]; exact fp a k z1 z2)
      intro i h1 h2 u hu
      by_cases e : i = s
      · subst e
        exact hg u hu
      · rw [gr _ _ (by omega)]
        exact hd i (by omega) h2 u hu
  refine L 0 8 (by omega) di ?_ (fun _ _ _ _ => rfl)
  intro i h1 h2 u hu
  have e : i = 8 := by omega
  subst e
  rw [hz u (by omega)]
  rfl
