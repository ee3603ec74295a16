/-! most: the calls; the reference's table -/
def mostV (t : tTown) (m : Nat) (b : Int32) : Int32 := if b = -1 then nI (Dm t (Qm t m) 0 0) else oI (chs t (Qm t m) b.toInt.toNat (tkm t (Qm t m) b.toInt.toNat))
def a_mo (t : tTown) (a b : Int32) : Int32 := rgd a (nM t + 1) (fun m => if -1 ≤ b.toInt ∧ b.toInt < 8 then mostV t m b else -2)
theorem ixm (b : Int32) (n : Nat) (hn : n < 2 ^ 31) : b.toInt < -1 ∨ b = -1 ∨ (∃ i, i < n ∧ b = nI i) ∨ (n : Int) ≤ b.toInt := by
  rcases ixi b n hn with h | h | h
  · by_cases e : b.toInt = -1
    · right; left
      rw [fa_eq, ti_m1]; exact e
    · left; omega
  · exact Or.inr (Or.inr (Or.inr h))
  · exact Or.inr (Or.inr (Or.inl h))
theorem mostV_m {t : tTown} {m : Nat} : mostV t m (-1) = nI (Dm t (Qm t m) 0 0) := if_pos rfl
theorem mostV_i {t : tTown} {m i : Nat} (h : i < 2 ^ 31) : mostV t m (nI i) = oI (chs t (Qm t m) i (tkm t (Qm t m) i)) := by
  unfold mostV
  rw [if_neg (fun z => by rw [fa_eq, nI_toInt h, ti_m1] at z; omega), nI_toInt h, Int.toNat_natCast]
theorem chs_ge {t : tTown} {q : tClo} {s u : Nat} (h : nS t ≤ s) : chs t q s u = none := by
  cases hb : chs t q s u with
  | none => rfl
  | some c =>
    have := (fsN_some hb).2
    unfold cmay at this
    rw [fx_ge h] at this
    cases this
/-- searched from the top down, the least stays -/
def fsD (p : Nat → Bool) (n : Nat) : Nat → Option Nat
  | 0 => none
  | r + 1 => if p (n - (r + 1)) = true then some (n - (r + 1)) else fsD p n r
theorem fsD_all {p : Nat → Bool} {n : Nat} : ∀ r, r ≤ n → (∀ x, fsD p n r = some x → n - r ≤ x ∧ x < n ∧ p x = true ∧ ∀ c, n - r ≤ c → c < x → p c = false) ∧ (fsD p n r = none → ∀ c, n - r ≤ c → c < n → p c = false)
  | 0, _ => ⟨fun x h => (by cases h), fun _ c h1 h2 => by omega⟩
  | r + 1, hr => by
    obtain ⟨i1, i2⟩ := fsD_all (p := p) (n := n) r (by omega)
    unfold fsD
    by_cases hp : p (n - (r + 1)) = true
    · rw [if_pos hp]
      refine ⟨fun x h => ?_, fun h => (by cases h)⟩
      have e : n - (r + 1) = x := Option.some.inj h
      subst e
      exact ⟨by omega, by omega, hp, fun c h1 h2 => by omega⟩
    · rw [if_neg hp]
      refine ⟨fun x h => ?_, fun h c h1 h2 => ?_⟩
      · obtain ⟨j1, j2, j3, j4⟩ := i1 x h
        refine ⟨by omega, j2, j3, fun c h1 h2 => ?_⟩
        by_cases e : c = n - (r + 1)
        · subst e
          exact Bool.eq_false_iff.mpr hp
        · exact j4 c (by omega) h2
      · by_cases e : c = n - (r + 1)
        · subst e
          exact Bool.eq_false_iff.mpr hp
        · exact i2 h c (by omega) h2
theorem fsD_N {p : Nat → Bool} {n : Nat} : fsD p n n = fsN p n := by
  obtain ⟨i1, i2⟩ := fsD_all (p := p) (n := n) n (Nat.le_refl n)
  cases h : fsD p n n with
  | none =>
    have := i2 h
    cases h2 : fsN p n with
    | none => rfl
    | some x =>
      obtain ⟨j1, j2⟩ := fsN_some h2
      rw [this x (by omega) j1] at j2
      cases j2
  | some x =>
    obtain ⟨j1, j2, j3, j4⟩ := i1 x h
    symm
    refine fsN_at ?_ j3 j2
    cases h2 : fsN p x with
    | none => rfl
    | some y =>
      obtain ⟨k1, k2⟩ := fsN_some h2
      rw [j4 y (by omega) k1] at k2
      cases k2
theorem fsN_more {p : Nat → Bool} {n : Nat} : ∀ {m : Nat}, (∀ c, n ≤ c → c < n + m → p c = false) → fsN p (n + m) = fsN p n
  | 0, _ => rfl
  | m + 1, h => by
    rw [← Nat.add_assoc]
    show (match fsN p (n + m) with | some x => some x | none => if p (n + m) = true then some (n + m) else none) = _
    rw [if_neg (by rw [h (n + m) (by omega) (by omega)]; decide), fsN_more (fun c h1 h2 => h c h1 (by omega))]
    cases fsN p n <;> rfl
section MOST
variable {t : tTown} {di : tDi} {dl : tDl} {K : Int32 → tDi → tDl → Prop}
theorem k_105 (hw : Wt t) (hc : Cw t di) (hz : ∀ u, u < 256 → di 154 u = 0) (a b : Int32) (kk : ∀ d, Cw t d → FC di d → K (a_mo t a b) d dl) : ClI 4 105 [.ref 0, .int a, .int b] di dl K := by
  have w3 := hw.1.2.2.1
  have c3 := hc.1.2.2.1.1
  unfold a_mo at kk
  rcases ixi a (nM t + 1) (by omega) with h | h | ⟨m, hm, rfl⟩
  · have kb := kk di hc FC_rf
    rw [rgd_lo h] at kb
    refine r_105 ?_
    simp (disch := omega) only [true_imp_iff, false_imp_iff, not_true_eq_false, not_false_eq_true, and_true, true_and, Int32.reduceToInt, Int64.reduceToInt, Int32.reduceAdd, fa_lt, fa_le, fa_eq, cmi_lt, cmi_le, cmi_gt, cmi_ge, cmi_eq, fa_lt64, fa_le64, fa_eq64, Int32.toInt_toInt64, nI_toInt, ti_m1, sub1_ti, inB_iff, nI_clamp, Int32.add_zero, nI_1, nI_add, nI_p2, nI_p3, nI_p4, nI_p5, nI_p6, nI_p8, nI_p9, nI_p10, nI_m3, nI_m4, nI_m5, nI_m6, nI_m8, nI_m10, nI_m31, nI_m48, nI_m60, nI_m256, nI_t5, nI_t6, nI_a1, nI_a48, nI_a96, nI_d5, nI_d6, nI_d8, nI_d10, nI_d20, nI_s1, nI_s48, pk_sub, c3]
    repeat (first | (with_reducible refine pk1 ?_ ?_; omega) | (with_reducible refine pk2 ?_ ?_; omega) | (with_reducible refine bd1 ?_ ?_; omega))
    exact kb
  · have kb := kk di hc FC_rf
    rw [rgd_hi h] at kb
    refine r_105 ?_
    simp (disch := omega) only [true_imp_iff, false_imp_iff, not_true_eq_false, not_false_eq_true, and_true, true_and, Int32.reduceToInt, Int64.reduceToInt, Int32.reduceAdd, fa_lt, fa_le, fa_eq, cmi_lt, cmi_le, cmi_gt, cmi_ge, cmi_eq, fa_lt64, fa_le64, fa_eq64, Int32.toInt_toInt64, nI_toInt, ti_m1, sub1_ti, inB_iff, nI_clamp, Int32.add_zero, nI_1, nI_add, nI_p2, nI_p3, nI_p4, nI_p5, nI_p6, nI_p8, nI_p9, nI_p10, nI_m3, nI_m4, nI_m5, nI_m6, nI_m8, nI_m10, nI_m31, nI_m48, nI_m60, nI_m256, nI_t5, nI_t6, nI_a1, nI_a48, nI_a96, nI_d5, nI_d6, nI_d8, nI_d10, nI_d20, nI_s1, nI_s48, pk_sub, c3]
    repeat (first | (with_reducible refine pk1 ?_ ?_; omega) | (with_reducible refine pk2 ?_ ?_; omega) | (with_reducible refine bd1 ?_ ?_; omega))
    exact kb
  simp (disch := omega) only [rgd_in] at kk
  have P : ∀ {K : tDi → tDl → Prop}, (∀ d, d 146 0 = nI (Dm t (Qm t m) 0 0) → (∀ i, i < 8 → d 155 i = oI (chs t (Qm t m) i (tkm t (Qm t m) i))) → Cw t d → FC di d → K d dl) → ClV 3 64 [.ref 8] di dl (fun d1 l1 => ClV 2 15 [.ref 144, .int (nI m)] d1 l1 K) := by
    intro K kk
    refine c_upd hw hc ?_
    intro d hv hd cw fc
    refine c_15 hv hw hd (fun u hu => by rw [fc _ _ (by omega) (by omega) (by omega) (by omega) (by omega)]; exact hz u hu) (by omega) ?_
    intro g h1 h2 fp
    refine kk g h1 h2 ⟨Cs_lo (fun a k z1 z2 => fp a k (by omega) (by omega)) hd, Or.inr (Wv_cong hw (fun a k z1 z2 => fp a k (by omega) (by omega)) hv)⟩ ?_
    exact FC_tr fc (fun a k z1 z2 z3 z4 z5 => fp a k (by omega) (by omega))
  rcases ixm b 8 (by omega) with hb | rfl | ⟨i, hi, rfl⟩ | hb
  · have kb := kk di hc FC_rf
    rw [if_neg (by omega)] at kb
    refine r_105 ?_
    simp (disch := omega) only [true_imp_iff, false_imp_iff, not_true_eq_false, not_false_eq_true, and_true, true_and, Int32.reduceToInt, Int64.reduceToInt, Int32.reduceAdd, fa_lt, fa_le, fa_eq, cmi_lt, cmi_le, cmi_gt, cmi_ge, cmi_eq, fa_lt64, fa_le64, fa_eq64, Int32.toInt_toInt64, nI_toInt, ti_m1, sub1_ti, inB_iff, nI_clamp, Int32.add_zero, nI_1, nI_add, nI_p2, nI_p3, nI_p4, nI_p5, nI_p6, nI_p8, nI_p9, nI_p10, nI_m3, nI_m4, nI_m5, nI_m6, nI_m8, nI_m10, nI_m31, nI_m48, nI_m60, nI_m256, nI_t5, nI_t6, nI_a1, nI_a48, nI_a96, nI_d5, nI_d6, nI_d8, nI_d10, nI_d20, nI_s1, nI_s48, pk_sub, c3]
    repeat (first | (with_reducible refine pk1 ?_ ?_; omega) | (with_reducible refine pk2 ?_ ?_; omega) | (with_reducible refine bd1 ?_ ?_; omega))
    exact kb
  · rw [ti_m1, if_pos (by omega), mostV_m] at kk
    refine r_105 ?_
    simp (disch := omega) only [true_imp_iff, false_imp_iff, not_true_eq_false, not_false_eq_true, and_true, true_and, Int32.reduceToInt, Int64.reduceToInt, Int32.reduceAdd, fa_lt, fa_le, fa_eq, cmi_lt, cmi_le, cmi_gt, cmi_ge, cmi_eq, fa_lt64, fa_le64, fa_eq64, Int32.toInt_toInt64, nI_toInt, ti_m1, sub1_ti, inB_iff, nI_clamp, Int32.add_zero, nI_1, nI_add, nI_p2, nI_p3, nI_p4, nI_p5, nI_p6, nI_p8, nI_p9, nI_p10, nI_m3, nI_m4, nI_m5, nI_m6, nI_m8, nI_m10, nI_m31, nI_m48, nI_m60, nI_m256, nI_t5, nI_t6, nI_a1, nI_a48, nI_a96, nI_d5, nI_d6, nI_d8, nI_d10, nI_d20, nI_s1, nI_s48, pk_sub, c3]
    repeat (first | (with_reducible refine pk1 ?_ ?_; omega) | (with_reducible refine pk2 ?_ ?_; omega) | (with_reducible refine bd1 ?_ ?_; omega))
    refine P ?_
    intro d h1 h2 cw fc
    rw [h1]
    exact kk d cw fc
  · rw [nI_toInt (by omega), if_pos (by omega), mostV_i (by omega)] at kk
    refine r_105 ?_
    simp (disch := omega) only [true_imp_iff, false_imp_iff, not_true_eq_false, not_false_eq_true, and_true, true_and, Int32.reduceToInt, Int64.reduceToInt, Int32.reduceAdd, fa_lt, fa_le, fa_eq, cmi_lt, cmi_le, cmi_gt, cmi_ge, cmi_eq, fa_lt64, fa_le64, fa_eq64, Int32.toInt_toInt64, nI_toInt, ti_m1, sub1_ti, inB_iff, nI_clamp, Int32.add_zero, nI_1, nI_add, nI_p2, nI_p3, nI_p4, nI_p5, nI_p6, nI_p8, nI_p9, nI_p10, nI_m3, nI_m4, nI_m5, nI_m6, nI_m8, nI_m10, nI_m31, nI_m48, nI_m60, nI_m256, nI_t5, nI_t6, nI_a1, nI_a48, nI_a96, nI_d5, nI_d6, nI_d8, nI_d10, nI_d20, nI_s1, nI_s48, pk_sub, c3]
    repeat (first | (with_reducible refine pk1 ?_ ?_; omega) | (with_reducible refine pk2 ?_ ?_; omega) | (with_reducible refine bd1 ?_ ?_; omega))
    refine P ?_
    intro d h1 h2 cw fc
    repeat (first | (with_reducible refine pk1 ?_ ?_; omega) | (with_reducible refine pk2 ?_ ?_; omega) | (with_reducible refine bd1 ?_ ?_; omega))
    rw [h2 i hi]
    exact kk d cw fc
  · have kb := kk di hc FC_rf
    rw [if_neg (by omega)] at kb
    refine r_105 ?_
    simp (disch := omega) only [true_imp_iff, false_imp_iff, not_true_eq_false, not_false_eq_true, and_true, true_and, Int32.reduceToInt, Int64.reduceToInt, Int32.reduceAdd, fa_lt, fa_le, fa_eq, cmi_lt, cmi_le, cmi_gt, cmi_ge, cmi_eq, fa_lt64, fa_le64, fa_eq64, Int32.toInt_toInt64, nI_toInt, ti_m1, sub1_ti, inB_iff, nI_clamp, Int32.add_zero, nI_1, nI_add, nI_p2, nI_p3, nI_p4, nI_p5, nI_p6, nI_p8, nI_p9, nI_p10, nI_m3, nI_m4, nI_m5, nI_m6, nI_m8, nI_m10, nI_m31, nI_m48, nI_m60, nI_m256, nI_t5, nI_t6, nI_a1, nI_a48, nI_a96, nI_d5, nI_d6, nI_d8, nI_d10, nI_d20, nI_s1, nI_s48, pk_sub, c3]
    repeat (first | (with_reducible refine pk1 ?_ ?_; omega) | (with_reducible refine pk2 ?_ ?_; omega) | (with_reducible refine bd1 ?_ ?_; omega))
    exact kb
theorem c_193 (hw : Wt t) (hr : Rs t di) {m : Nat} (hm : m ≤ nM t) {b : Int32} (hb : b = -1 ∨ ∃ i, i < 8 ∧ b = nI i) (kk : ∀ d, Rs t d → FI di d → K (mostV t m b) d dl) : ClI 5 193 [.ref 176, .int (nI m), .int b] di dl K := by
  have w1 := hw.1.1
  have w2 := hw.1.2.1
  refine r_193 (c_lives hw hr hm ?_)
  intro d n8 n9 hr' fi
  have hbq := Bq_s hw (mo t) m
  have R1 : ∀ e, FF1 190 d e → Rs t e := fun e fe => Rs_1 (by omega) fe hr'
  have R8 : ∀ e, FF1 190 d e → N8 t (Qm t m) e := by
    intro e fe k hk
    rw [fe _ _ (by omega), fe _ _ (by omega), fe _ _ (by omega)]
    exact n8 k hk
  have RF : ∀ e, FF1 190 d e → FI di e := fun e fe => FI_tr fi (fun a k z => fe a k (by omega))
  -- the choice
  have CH : ∀ e, FF1 190 d e → (∀ s, s ≤ nS t → ∀ u, u < 256 → e 190 (256 * s + u) = nI (Dm t (Qm t m) s u)) → Wq none 5 193 187 [(0, .ref 176), (2, .int b), (3, .int 0), (4, .int (-1)), (5, .int 0)] [] e dl (RI K) := by
    intro e fe he
    have hre := R1 e fe
    have c1 := hre.1
    have c2 := hre.2.1
    have kke := kk e hre (RF e fe)
    rcases hb with rfl | ⟨i, hi, rfl⟩
    · refine r_193_187 (pk1 (by decide) (pk2 (by decide) ?_))
      rw [mostV_m] at kke
      have e0 : e 190 0 = nI (Dm t (Qm t m) 0 0) := he 0 (Nat.zero_le _) 0 (by omega)
      rw [e0]
      exact kke
    · rw [mostV_i (by omega)] at kke
      have ni : ¬ nI i = -1 := by rw [fa_eq, nI_toInt (by omega), ti_m1]; omega
      have G : ∀ r s, s + r = nS t → s ≤ i + 1 → ∀ x4, (0 < s → x4 = oI (chs t (Qm t m) (s - 1) (tkm t (Qm t m) (s - 1)))) → Wq none 5 193 187 [(0, .ref 176), (2, .int (nI i)), (3, .int (nI (tkm t (Qm t m) s))), (4, .int x4), (5, .int (nI s))] [] e dl (RI K) := by
        intro r
        induction r with
        | zero =>
          intro s hs hsi x4 hx
          have es : s = nS t := by omega
          by_cases hlt : i < s
          · have ei : i = s - 1 := by omega
            refine r_193_187 (pk1 ⟨nI_lt hlt (by omega), fun z => absurd (nI_lt hlt (by omega)) (Int32.not_lt.mpr z)⟩ (pk1 ⟨ni, ni⟩ ?_))
            rw [c1]
            refine pk2 ⟨fun z => absurd (nI_lt (show i < nS t by omega) (by omega)) (Int32.not_lt.mpr z), nI_lt (by omega) (by omega)⟩ ?_
            rw [hx (by omega), ← ei]
            exact kke
          · refine r_193_187 (pk2 ⟨fun z => absurd (nI_le (show s ≤ i by omega) (by omega)) (Int32.not_le.mpr z), nI_le (by omega) (by omega)⟩ ?_)
            rw [c1]
            refine pk1 ⟨nI_le (by omega) (by omega), fun z => absurd (nI_le (show nS t ≤ s by omega) (by omega)) (Int32.not_le.mpr z)⟩ (pk1 ⟨ni, ni⟩ ?_)
            refine pk1 ⟨nI_le (by omega) (by omega), fun z => absurd (nI_le (show nS t ≤ i by omega) (by omega)) (Int32.not_le.mpr z)⟩ ?_
            rw [chs_ge (by omega)] at kke
            exact kke
        | succ r ih =>
          intro s hs hsi x4 hx
          by_cases hlt : i < s
          · have ei : i = s - 1 := by omega
            refine r_193_187 (pk1 ⟨nI_lt hlt (by omega), fun z => absurd (nI_lt hlt (by omega)) (Int32.not_lt.mpr z)⟩ (pk1 ⟨ni, ni⟩ ?_))
            rw [c1]
            refine pk2 ⟨fun z => absurd (nI_lt (show i < nS t by omega) (by omega)) (Int32.not_lt.mpr z), nI_lt (by omega) (by omega)⟩ ?_
            rw [hx (by omega), ← ei]
            exact kke
          · refine r_193_187 (pk2 ⟨fun z => absurd (nI_le (show s ≤ i by omega) (by omega)) (Int32.not_le.mpr z), nI_le (by omega) (by omega)⟩ ?_)
            rw [c1, c2]
            refine pk2 ⟨fun z => absurd (nI_lt (show s < nS t by omega) (by omega)) (Int32.not_lt.mpr z), nI_lt (by omega) (by omega)⟩ ?_
            have hu := tkm_lt (t := t) (q := Qm t m) s
            have h8 := pow8 w2
            have hD := Dm_le (t := t) (q := Qm t m) s (tkm t (Qm t m) s)
            have H : ∀ k r, k + r = nC t → Wq none 5 193 217 [(0, .ref 176), (2, .int (nI i)), (3, .int (nI (tkm t (Qm t m) s))), (4, .int (oI (fsD (cmay t (Qm t m) s (tkm t (Qm t m) s)) (nC t) r))), (5, .int (nI s)), (6, .int (nI k - 1))] [] e dl (RI K) := by
              intro k
              induction k with
              | zero =>
                intro r hr0
                have er : r = nC t := by omega
                subst er
                have ec : fsD (cmay t (Qm t m) s (tkm t (Qm t m) s)) (nC t) (nC t) = chs t (Qm t m) s (tkm t (Qm t m) s) := by
                  rw [fsD_N]
                  unfold chs
                  rw [show 8 = nC t + (8 - nC t) by omega, fsN_more]
                  intro c h1 h2
                  unfold cmay
                  rw [fx_gc h1]; rfl
                rw [ec]
                refine r_193_217 (pk1 ⟨by decide, by decide⟩ ?_)
                have ihn := ih (s + 1) (by omega) (by omega) (oI (chs t (Qm t m) s (tkm t (Qm t m) s))) (fun _ => rfl)
                rw [show tkm t (Qm t m) (s + 1) = tkm t (Qm t m) s ||| oP (chs t (Qm t m) s (tkm t (Qm t m) s)) from rfl] at ihn
                rw [nI_1]
                cases hch : chs t (Qm t m) s (tkm t (Qm t m) s) with
                | none =>
                  rw [hch] at ihn
                  refine pk2 ⟨fun z => z rfl, rfl⟩ ?_
                  rw [or_0]
                  have e0 : tkm t (Qm t m) s ||| oP none = tkm t (Qm t m) s := Nat.or_zero _
                  rw [e0] at ihn
                  exact ihn
                | some c =>
                  rw [hch] at ihn
                  have hcl := chs_lt hch
                  refine pk1 ⟨oI_ne (by omega), oI_ne (by omega)⟩ ?_
                  have e1 : nI (tkm t (Qm t m) s) ||| ((1 : Int32) <<< (oI (some c) &&& 31)) = nI (tkm t (Qm t m) s ||| oP (some c)) := by
                    show nI (tkm t (Qm t m) s) ||| ((1 : Int32) <<< (nI c &&& 31)) = nI (tkm t (Qm t m) s ||| 2 ^ c)
                    have e : (1 : Int32) <<< (nI c &&& 31) = nI (2 ^ c) := b1_nI c (by omega)
                    rw [e, fa_or]
                  rw [e1]
                  exact ihn
              | succ k ihk =>
                intro r hr0
                have ik := ihk (r + 1) (by omega)
                unfold fsD at ik
                rw [show nC t - (r + 1) = k by omega] at ik
                have ek : nI k + -1 = nI k - 1 := by
                  rw [fa_eq, Int32.toInt_add, Int32.toInt_sub, ti_m1, ti_1, Int.sub_eq_add_neg]
                rw [nI_pred]
                refine r_193_217 (pk2 ⟨fun z => absurd (nI_pos' (n := k) (by omega)) (Int32.not_le.mpr z), nI_pos' (by omega)⟩ ?_)
                rw [ek]
                have hbk := bt_nI (u := tkm t (Qm t m) s) (c := k) (by omega)
                by_cases hbit : (tkm t (Qm t m) s).testBit k = true
                · rw [bit_1 (by omega) (hbk.trans hbit)]
                  refine pk2 (by decide) ?_
                  rw [if_neg (by unfold cmay; rw [hbit]; simp)] at ik
                  exact ik
                · rw [bit_0 (by omega) (hbk.trans (Bool.eq_false_iff.mpr hbit))]
                  refine pk1 (by decide) ?_
                  refine c_176 hw hre hbq (R8 e fe) (show k < nC t by omega) (show s < nS t by omega) ?_
                  by_cases hf : fitq t (Qm t m) k s = true
                  · rw [if_pos hf]
                    refine pk2 (by decide) ?_
                    have hlt2 : tkm t (Qm t m) s ||| 2 ^ k < 2 ^ nC t := or_lt hu (by omega)
                    have hD2 := Dm_le (t := t) (q := Qm t m) (s + 1) (tkm t (Qm t m) s ||| 2 ^ k)
                    have e1 : nI (tkm t (Qm t m) s) ||| ((1 : Int32) <<< (nI k &&& 31)) = nI (tkm t (Qm t m) s ||| 2 ^ k) := by
                      have e : (1 : Int32) <<< (nI k &&& 31) = nI (2 ^ k) := b1_nI k (by omega)
                      rw [e, fa_or]
                    rw [e1, nI_1, nI_m256, nI_m256, nI_add, nI_add, nI_clamp (by omega), nI_clamp (by omega), he (s + 1) (by omega) _ (by omega), he s (by omega) _ (by omega), nI_a1]
                    refine ⟨inB_n (by omega) (by decide), inB_n (by omega) (by decide), ?_⟩
                    have hfx : fx t (Qm t m) s k = true := by rw [fx_in (by omega) (by omega)]; exact hf
                    by_cases hq : 1 + Dm t (Qm t m) (s + 1) (tkm t (Qm t m) s ||| 2 ^ k) = Dm t (Qm t m) s (tkm t (Qm t m) s)
                    · rw [if_pos (by unfold cmay; rw [hfx, Bool.eq_false_iff.mpr hbit, decide_eq_true hq]; rfl)] at ik
                      exact pk2 ⟨fun z => z (by rw [hq]), by rw [hq]⟩ ik
                    · rw [if_neg (by unfold cmay; rw [decide_eq_false hq, Bool.and_false]; decide)] at ik
                      have ne : ¬ nI (1 + Dm t (Qm t m) (s + 1) (tkm t (Qm t m) s ||| 2 ^ k)) = nI (Dm t (Qm t m) s (tkm t (Qm t m) s)) := fun z => hq ((nI_eq (by omega) (by omega)).mp z)
                      exact pk1 ⟨ne, ne⟩ ik
                  · rw [if_neg hf]
                    refine pk1 (by decide) ?_
                    rw [if_neg (by unfold cmay; rw [fx_in (by omega) (by omega), Bool.eq_false_iff.mpr hf]; simp)] at ik
                    exact ik
            exact H (nC t) 0 (by omega)
      exact G (nS t) 0 (by omega) (by omega) (-1) (fun z => absurd z (by omega))
  -- the table
  have T : ∀ s, s ≤ nS t + 1 → ∀ e, FF1 190 d e → (∀ i, s ≤ i → i ≤ nS t → ∀ u, u < 256 → e 190 (256 * i + u) = nI (Dm t (Qm t m) i u)) → Wq none 5 193 12 [(0, .ref 176), (2, .int b), (3, .int (nI s + (-1)))] [] e dl (RI K) := by
    intro s
    induction s with
    | zero =>
      intro _ e fe he
      refine r_193_12 (pk1 (by decide) ?_)
      exact CH e fe (fun i hi u hu => he i (Nat.zero_le _) hi u hu)
    | succ s ih =>
      intro hs e fe he
      rw [pk_m1]
      refine r_193_12 (pk2 ⟨fun z => absurd (nI_pos' (n := s) (by omega)) (Int32.not_le.mpr z), nI_pos' (by omega)⟩ ?_)
      refine up_to (n := 256) (G := fun u => ∀ e, FF1 190 d e → (∀ i, s + 1 ≤ i → i ≤ nS t → ∀ u, u < 256 → e 190 (256 * i + u) = nI (Dm t (Qm t m) i u)) → (∀ v, v < u → e 190 (256 * s + v) = nI (Dm t (Qm t m) s v)) → Wq none 5 193 19 [(0, .ref 176), (2, .int b), (3, .int (nI s)), (4, .int (nI u))] [] e dl (RI K)) ?_ ?_ (Nat.zero_le _) e fe he (fun v hv => absurd hv (Nat.not_lt_zero v))
      · intro e fe he hv
        refine r_193_19 (pk1 ⟨Int32.le_refl _, fun z => absurd z (by decide)⟩ ?_)
        refine ih (by omega) e fe ?_
        intro i h1 h2 u hu
        by_cases ei : i = s
        · subst ei
          exact hv u hu
        · exact he i (by omega) h2 u hu
      · intro u hu ihu e fe he hv
        have hre := R1 e fe
        have c1 := hre.1
        have c2 := hre.2.1
        have out : ∀ x, x = Dm t (Qm t m) s u → Wq none 5 193 19 [(0, .ref 176), (2, .int b), (3, .int (nI s)), (4, .int (nI (u + 1)))] [] (up2 e 190 (256 * s + u) (nI x)) dl (RI K) := by
          intro x hx
          subst hx
          refine ihu _ (fun a k z => by rw [up_na z]; exact fe a k z) ?_ ?_
          · intro i h1 h2 v hv2
            rw [up_nk (by omega)]
            exact he i h1 h2 v hv2
          · intro v hv2
            rcases Nat.lt_succ_iff_lt_or_eq.mp hv2 with z | z
            · rw [up_nk (by omega)]
              exact hv v z
            · subst z
              rw [up_eq]
        refine r_193_19 (pk2 ⟨fun z => absurd (nI_lt (b := 256) hu (by decide)) (Int32.not_lt.mpr z), nI_lt (b := 256) hu (by decide)⟩ ?_)
        rw [c1]
        by_cases hsn : s = nS t
        · refine pk2 ⟨fun z => z (by rw [hsn]), by rw [hsn]⟩ ?_
          have o := out 0 (Dm_ge (8 - s) s u (by omega) (by omega)).symm
          refine r_193_61 ?_
          rw [c1, c2, nI_m256, nI_add, nI_1, nI_clamp (by omega)]
          have i1 : inB (nI (256 * s + u)) 2304 = true := inB_n (by omega) (by decide)
          refine ⟨fun _ => ⟨i1, o⟩, fun _ => pk1 ⟨nI_le (by omega) (by omega), fun z => absurd (nI_le (show nS t ≤ s by omega) (by omega)) (Int32.not_le.mpr z)⟩ ⟨i1, o⟩⟩
        · have ne : ¬ nI s = nI (nS t) := fun z => hsn ((nI_eq (by omega) (by omega)).mp z)
          refine pk1 ⟨ne, ne⟩ ?_
          rw [nI_1, nI_m256, nI_add, nI_clamp (by omega), he (s + 1) (by omega) (by omega) u hu]
          refine ⟨inB_n (by omega) (by decide), ?_⟩
          have hss : s < nS t := by omega
          refine up_to (n := nC t) (G := fun k => Wq none 5 193 61 [(0, .ref 176), (2, .int b), (3, .int (nI s)), (4, .int (nI u)), (5, .int (nI (mx t (Qm t m) (Dm t (Qm t m) (s + 1)) s u k))), (6, .int (nI k))] [] e dl (RI K)) ?_ ?_ (Nat.zero_le _)
          · refine r_193_61 ?_
            rw [c1, c2, nI_m256, nI_add, nI_1, nI_clamp (by omega)]
            refine pk1 ⟨Int32.le_refl _, fun z => absurd (Int32.le_refl _) (Int32.not_le.mpr z)⟩ ⟨inB_n (by omega) (by decide), ?_⟩
            refine out _ ?_
            rw [Dm_s (by omega), show 8 = nC t + (8 - nC t) by omega, mx_no]
            intro c h1 h2
            rw [fx_gc h1]; rfl
          · intro k hk ik
            have hmx := mx_le (t := t) (q := Qm t m) (s := s) (u := u) (Dm_le (t := t) (q := Qm t m) (s + 1)) k
            refine r_193_61 ?_
            rw [c1, c2]
            refine pk2 ⟨fun z => absurd (nI_lt hk (by omega)) (Int32.not_lt.mpr z), nI_lt hk (by omega)⟩ ?_
            refine pk2 ⟨fun z => absurd (nI_lt hss (by omega)) (Int32.not_lt.mpr z), nI_lt hss (by omega)⟩ ?_
            have hbk := bt_nI (u := u) (c := k) (by omega)
            unfold mx at ik
            by_cases hbit : u.testBit k = true
            · rw [bit_1 (by omega) (hbk.trans hbit)]
              refine pk2 (by decide) ?_
              rw [if_neg (by rw [hbit]; simp)] at ik
              rw [nI_1]
              exact pk1 ⟨nI_pos' (by omega), fun z => absurd (nI_pos' (n := mx t (Qm t m) (Dm t (Qm t m) (s + 1)) s u k) (by omega)) (Int32.not_le.mpr z)⟩ ik
            · rw [bit_0 (by omega) (hbk.trans (Bool.eq_false_iff.mpr hbit))]
              refine pk1 (by decide) ?_
              refine c_176 hw hre hbq (R8 e fe) hk hss ?_
              rw [nI_1]
              by_cases hf : fitq t (Qm t m) k s = true
              · rw [if_pos hf]
                refine pk2 (by decide) ?_
                have hlt2 : u ||| 2 ^ k < 2 ^ 8 := or_lt hu (by omega)
                have hD2 := Dm_le (t := t) (q := Qm t m) (s + 1) (u ||| 2 ^ k)
                have e1 : nI u ||| ((1 : Int32) <<< (nI k &&& 31)) = nI (u ||| 2 ^ k) := by
                  have e : (1 : Int32) <<< (nI k &&& 31) = nI (2 ^ k) := b1_nI k (by omega)
                  rw [e, fa_or]
                rw [e1, nI_1, nI_m256, nI_add, nI_clamp (by omega), he (s + 1) (by omega) (by omega) _ hlt2, nI_a1]
                refine ⟨inB_n (by omega) (by decide), ?_⟩
                have hfx : fx t (Qm t m) s k = true := by rw [fx_in hss hk]; exact hf
                rw [if_pos (by rw [hfx, Bool.eq_false_iff.mpr hbit]; rfl)] at ik
                by_cases hle : 1 + Dm t (Qm t m) (s + 1) (u ||| 2 ^ k) ≤ mx t (Qm t m) (Dm t (Qm t m) (s + 1)) s u k
                · rw [Nat.max_eq_left hle] at ik
                  exact pk1 ⟨nI_le hle (by omega), fun z => absurd (nI_le hle (by omega)) (Int32.not_le.mpr z)⟩ ik
                · rw [Nat.max_eq_right (by omega)] at ik
                  exact pk2 ⟨fun z => absurd (nI_lt (show mx t (Qm t m) (Dm t (Qm t m) (s + 1)) s u k < 1 + Dm t (Qm t m) (s + 1) (u ||| 2 ^ k) by omega) (by omega)) (Int32.not_lt.mpr z), nI_lt (by omega) (by omega)⟩ ik
              · rw [if_neg hf]
                refine pk1 (by decide) ?_
                rw [if_neg (by rw [fx_in hss hk, Bool.eq_false_iff.mpr hf]; simp)] at ik
                exact pk1 ⟨nI_pos' (by omega), fun z => absurd (nI_pos' (n := mx t (Qm t m) (Dm t (Qm t m) (s + 1)) s u k) (by omega)) (Int32.not_le.mpr z)⟩ ik
  rw [hr'.1]
  have := T (nS t + 1) (Nat.le_refl _) d (fun _ _ _ => rfl) (fun i h1 h2 => by omega)
  rw [pk_m1] at this
  exact this
theorem k_194 (hx : Itx di) (hs : Ise di) (hw : Wt t) (hc : Cs t di) (a b : Int32) (kk : ∀ d, Rs t d → FM di d → K (a_mo t a b) d dl) : ClI 7 194 [.ref 176, .int a, .int b] di dl K := by
  have w3 := hw.1.2.2.1
  refine r_194 (c_163 hx hs hw hc ?_)
  intro d hr fm
  have c3 := hr.2.2.1
  unfold a_mo at kk
  rcases ixi a (nM t + 1) (by omega) with h | h | ⟨m, hm, rfl⟩
  · have kb := kk d hr (FM_of fm FI_rf)
    rw [rgd_lo h] at kb
    simp (disch := omega) only [true_imp_iff, false_imp_iff, not_true_eq_false, not_false_eq_true, and_true, true_and, Int32.reduceToInt, Int64.reduceToInt, Int32.reduceAdd, fa_lt, fa_le, fa_eq, cmi_lt, cmi_le, cmi_gt, cmi_ge, cmi_eq, fa_lt64, fa_le64, fa_eq64, Int32.toInt_toInt64, nI_toInt, ti_m1, sub1_ti, inB_iff, nI_clamp, Int32.add_zero, nI_1, nI_add, nI_p2, nI_p3, nI_p4, nI_p5, nI_p6, nI_p8, nI_p9, nI_p10, nI_m3, nI_m4, nI_m5, nI_m6, nI_m8, nI_m10, nI_m31, nI_m48, nI_m60, nI_m256, nI_t5, nI_t6, nI_a1, nI_a48, nI_a96, nI_d5, nI_d6, nI_d8, nI_d10, nI_d20, nI_s1, nI_s48, pk_sub, c3, show (-1 : Int64).toInt = -1 from rfl]
    repeat (first | (with_reducible refine pk1 ?_ ?_; omega) | (with_reducible refine pk2 ?_ ?_; omega) | (with_reducible refine bd1 ?_ ?_; omega))
    exact kb
  · have kb := kk d hr (FM_of fm FI_rf)
    rw [rgd_hi h] at kb
    simp (disch := omega) only [true_imp_iff, false_imp_iff, not_true_eq_false, not_false_eq_true, and_true, true_and, Int32.reduceToInt, Int64.reduceToInt, Int32.reduceAdd, fa_lt, fa_le, fa_eq, cmi_lt, cmi_le, cmi_gt, cmi_ge, cmi_eq, fa_lt64, fa_le64, fa_eq64, Int32.toInt_toInt64, nI_toInt, ti_m1, sub1_ti, inB_iff, nI_clamp, Int32.add_zero, nI_1, nI_add, nI_p2, nI_p3, nI_p4, nI_p5, nI_p6, nI_p8, nI_p9, nI_p10, nI_m3, nI_m4, nI_m5, nI_m6, nI_m8, nI_m10, nI_m31, nI_m48, nI_m60, nI_m256, nI_t5, nI_t6, nI_a1, nI_a48, nI_a96, nI_d5, nI_d6, nI_d8, nI_d10, nI_d20, nI_s1, nI_s48, pk_sub, c3, show (-1 : Int64).toInt = -1 from rfl]
    repeat (first | (with_reducible refine pk1 ?_ ?_; omega) | (with_reducible refine pk2 ?_ ?_; omega) | (with_reducible refine bd1 ?_ ?_; omega))
    exact kb
  simp (disch := omega) only [rgd_in] at kk
  rcases ixm b 8 (by omega) with hb | rfl | ⟨i, hi, rfl⟩ | hb
  · have kb := kk d hr (FM_of fm FI_rf)
    rw [if_neg (by omega)] at kb
    simp (disch := omega) only [true_imp_iff, false_imp_iff, not_true_eq_false, not_false_eq_true, and_true, true_and, Int32.reduceToInt, Int64.reduceToInt, Int32.reduceAdd, fa_lt, fa_le, fa_eq, cmi_lt, cmi_le, cmi_gt, cmi_ge, cmi_eq, fa_lt64, fa_le64, fa_eq64, Int32.toInt_toInt64, nI_toInt, ti_m1, sub1_ti, inB_iff, nI_clamp, Int32.add_zero, nI_1, nI_add, nI_p2, nI_p3, nI_p4, nI_p5, nI_p6, nI_p8, nI_p9, nI_p10, nI_m3, nI_m4, nI_m5, nI_m6, nI_m8, nI_m10, nI_m31, nI_m48, nI_m60, nI_m256, nI_t5, nI_t6, nI_a1, nI_a48, nI_a96, nI_d5, nI_d6, nI_d8, nI_d10, nI_d20, nI_s1, nI_s48, pk_sub, c3, show (-1 : Int64).toInt = -1 from rfl]
    repeat (first | (with_reducible refine pk1 ?_ ?_; omega) | (with_reducible refine pk2 ?_ ?_; omega) | (with_reducible refine bd1 ?_ ?_; omega))
    exact kb
  · rw [ti_m1, if_pos (by omega)] at kk
    simp (disch := omega) only [true_imp_iff, false_imp_iff, not_true_eq_false, not_false_eq_true, and_true, true_and, Int32.reduceToInt, Int64.reduceToInt, Int32.reduceAdd, fa_lt, fa_le, fa_eq, cmi_lt, cmi_le, cmi_gt, cmi_ge, cmi_eq, fa_lt64, fa_le64, fa_eq64, Int32.toInt_toInt64, nI_toInt, ti_m1, sub1_ti, inB_iff, nI_clamp, Int32.add_zero, nI_1, nI_add, nI_p2, nI_p3, nI_p4, nI_p5, nI_p6, nI_p8, nI_p9, nI_p10, nI_m3, nI_m4, nI_m5, nI_m6, nI_m8, nI_m10, nI_m31, nI_m48, nI_m60, nI_m256, nI_t5, nI_t6, nI_a1, nI_a48, nI_a96, nI_d5, nI_d6, nI_d8, nI_d10, nI_d20, nI_s1, nI_s48, pk_sub, c3, show (-1 : Int64).toInt = -1 from rfl]
    repeat (first | (with_reducible refine pk1 ?_ ?_; omega) | (with_reducible refine pk2 ?_ ?_; omega) | (with_reducible refine bd1 ?_ ?_; omega))
    refine c_193 hw hr (by omega) (Or.inl rfl) ?_
    intro e hr2 fi
    exact kk e hr2 (FM_of fm fi)
  · rw [nI_toInt (by omega), if_pos (by omega)] at kk
    simp (disch := omega) only [true_imp_iff, false_imp_iff, not_true_eq_false, not_false_eq_true, and_true, true_and, Int32.reduceToInt, Int64.reduceToInt, Int32.reduceAdd, fa_lt, fa_le, fa_eq, cmi_lt, cmi_le, cmi_gt, cmi_ge, cmi_eq, fa_lt64, fa_le64, fa_eq64, Int32.toInt_toInt64, nI_toInt, ti_m1, sub1_ti, inB_iff, nI_clamp, Int32.add_zero, nI_1, nI_add, nI_p2, nI_p3, nI_p4, nI_p5, nI_p6, nI_p8, nI_p9, nI_p10, nI_m3, nI_m4, nI_m5, nI_m6, nI_m8, nI_m10, nI_m31, nI_m48, nI_m60, nI_m256, nI_t5, nI_t6, nI_a1, nI_a48, nI_a96, nI_d5, nI_d6, nI_d8, nI_d10, nI_d20, nI_s1, nI_s48, pk_sub, c3, show (-1 : Int64).toInt = -1 from rfl]
    repeat (first | (with_reducible refine pk1 ?_ ?_; omega) | (with_reducible refine pk2 ?_ ?_; omega) | (with_reducible refine bd1 ?_ ?_; omega))
    refine c_193 hw hr (by omega) (Or.inr ⟨i, hi, rfl⟩) ?_
    intro e hr2 fi
    exact kk e hr2 (FM_of fm fi)
  · have kb := kk d hr (FM_of fm FI_rf)
    rw [if_neg (by omega)] at kb
    simp (disch := omega) only [true_imp_iff, false_imp_iff, not_true_eq_false, not_false_eq_true, and_true, true_and, Int32.reduceToInt, Int64.reduceToInt, Int32.reduceAdd, fa_lt, fa_le, fa_eq, cmi_lt, cmi_le, cmi_gt, cmi_ge, cmi_eq, fa_lt64, fa_le64, fa_eq64, Int32.toInt_toInt64, nI_toInt, ti_m1, sub1_ti, inB_iff, nI_clamp, Int32.add_zero, nI_1, nI_add, nI_p2, nI_p3, nI_p4, nI_p5, nI_p6, nI_p8, nI_p9, nI_p10, nI_m3, nI_m4, nI_m5, nI_m6, nI_m8, nI_m10, nI_m31, nI_m48, nI_m60, nI_m256, nI_t5, nI_t6, nI_a1, nI_a48, nI_a96, nI_d5, nI_d6, nI_d8, nI_d10, nI_d20, nI_s1, nI_s48, pk_sub, c3, show (-1 : Int64).toInt = -1 from rfl]
    repeat (first | (with_reducible refine pk1 ?_ ?_; omega) | (with_reducible refine pk2 ?_ ?_; omega) | (with_reducible refine bd1 ?_ ?_; omega))
    exact kb
end MOST
