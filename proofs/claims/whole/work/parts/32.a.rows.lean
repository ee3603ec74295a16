/-! calls on the clothes behind months: the class, the reference -/
abbrev Qm (t : tTown) (m : Nat) : tClo := qs t (mo t) m
def Cw (t : tTown) (d : tDi) : Prop := Cs t d ∧ (d 8 10 = 1 ∨ Wv t d)
def FC (di d : tDi) : Prop := ∀ a k, ¬ (a = 8 ∧ k = 10) → ¬ (9 ≤ a ∧ a ≤ 153) → ¬ (155 ≤ a ∧ a ≤ 158) → ¬ (a = 159 ∧ k = 9) → ¬ (163 ≤ a ∧ a ≤ 166) → d a k = di a k
theorem FC_rf {di : tDi} : FC di di := fun _ _ _ _ _ _ _ => rfl
theorem FC_tr {di d e : tDi} (h : FC di d) (h2 : FC d e) : FC di e := fun a k z1 z2 z3 z4 z5 => (h2 a k z1 z2 z3 z4 z5).trans (h a k z1 z2 z3 z4 z5)
theorem c_upd {t : tTown} {di : tDi} {dl : tDl} (hw : Wt t) (hc : Cw t di) {K : tDi → tDl → Prop} (kk : ∀ d, Wv t d → Cs t d → Cw t d → FC di d → K d dl) : ClV 3 64 [.ref 8] di dl K := by
  refine c_64 hw hc.1 hc.2 ?_
  intro d hv fu
  have h1 : Cs t d := Cs_lo (fun a k z1 z2 => fu a k z2 (by omega)) hc.1
  exact kk d hv h1 ⟨h1, Or.inr hv⟩ (fun a k z1 z2 z3 z4 z5 => fu a k z1 (by omega))
/-- what the reference's work behind reads changes -/
def FI (di d : tDi) : Prop := ∀ a k, a < 188 ∨ a = 193 → d a k = di a k
def FM (di d : tDi) : Prop := ∀ a k, ¬ (a = 176 ∧ k = 7) → ¬ (183 ≤ a ∧ a ≤ 186) → a < 188 ∨ a = 193 → d a k = di a k
theorem FI_rf {di : tDi} : FI di di := fun _ _ _ => rfl
theorem FI_tr {di d e : tDi} (h : FI di d) (h2 : FI d e) : FI di e := fun a k z => (h2 a k z).trans (h a k z)
theorem FM_of {di d e : tDi} (h : Fm di d) (h2 : FI d e) : FM di e := fun a k z1 z2 z3 => (h2 a k z3).trans (h a k z1 z2)
theorem FL_FI {di d : tDi} (h : FL di d) : FI di d := fun a k z => h a k (by omega) (by omega)
theorem Rs_FI {t : tTown} {di d : tDi} (h : FI di d) (H : Rs t di) : Rs t d := Rs_cong (fun a k z1 z2 => h a k (by omega)) H
theorem c_lives {t : tTown} {di : tDi} {dl : tDl} (hw : Wt t) (hr : Rs t di) {n : Nat} (hn : n ≤ nM t) {K : tDi → tDl → Prop} (kk : ∀ d, N8 t (Qm t n) d → N9 t (Qm t n) d → Rs t d → FI di d → K d dl) : ClV 4 179 [.ref 176, .int (nI n)] di dl K := by
  refine c_179 hw hr hn ?_
  intro d h8 h9 fl
  exact kk d h8 h9 (Rs_FI (FL_FI fl) hr) (FL_FI fl)
/-- the least of n that has it -/
def fsN (p : Nat → Bool) : Nat → Option Nat
  | 0 => none
  | n + 1 => match fsN p n with
    | some x => some x
    | none => if p n = true then some n else none
theorem fsN_no {p : Nat → Bool} {n : Nat} (h : fsN p n = none) (hp : p n = false) : fsN p (n + 1) = none := by
  show (match fsN p n with | some x => some x | none => if p n = true then some n else none) = none
  rw [h]
  show (if p n = true then some n else none) = none
  rw [if_neg (by rw [hp]; decide)]
theorem fsN_yes {p : Nat → Bool} {i : Nat} (h : fsN p i = none) (hp : p i = true) : ∀ {m : Nat}, fsN p (i + 1 + m) = some i
  | 0 => by
    show (match fsN p i with | some x => some x | none => if p i = true then some i else none) = some i
    rw [h]
    show (if p i = true then some i else none) = some i
    rw [if_pos hp]
  | m + 1 => by
    show (match fsN p (i + 1 + m) with | some x => some x | none => if p (i + 1 + m) = true then some (i + 1 + m) else none) = some i
    rw [fsN_yes h hp]
theorem fsN_at {p : Nat → Bool} {i n : Nat} (h : fsN p i = none) (hp : p i = true) (hi : i < n) : fsN p n = some i := by
  rw [show n = i + 1 + (n - (i + 1)) by omega]
  exact fsN_yes h hp
theorem fsN_cong {p q : Nat → Bool} : ∀ {n : Nat}, (∀ k, k < n → p k = q k) → fsN p n = fsN q n
  | 0, _ => rfl
  | n + 1, h => by
    have e := fsN_cong (fun k hk => h k (Nat.lt_succ_of_lt hk))
    show (match fsN p n with | some x => some x | none => if p n = true then some n else none) = (match fsN q n with | some x => some x | none => if q n = true then some n else none)
    rw [e, h n (Nat.lt_succ_self n)]
theorem fsN_some {p : Nat → Bool} : ∀ {n x : Nat}, fsN p n = some x → x < n ∧ p x = true
  | 0, x, h => by cases h
  | n + 1, x, h => by
    have ih := @fsN_some p n x
    revert h
    show (match fsN p n with | some x => some x | none => if p n = true then some n else none) = some x → _
    cases hb : fsN p n with
    | some y =>
      intro h
      have := ih (by rw [hb]; exact h)
      exact ⟨by omega, this.2⟩
    | none =>
      intro h
      have h' : (if p n = true then some n else none) = some x := h
      by_cases hp : p n = true
      · rw [if_pos hp] at h'
        have e : n = x := Option.some.inj h'
        subst e
        exact ⟨Nat.lt_succ_self n, hp⟩
      · rw [if_neg hp] at h'
        cases h'
theorem fsN_none {p : Nat → Bool} : ∀ {n : Nat}, fsN p n = none → ∀ k, k < n → p k = false
  | 0, _, k, hk => absurd hk (Nat.not_lt_zero k)
  | n + 1, h, k, hk => by
    have ih := @fsN_none p n
    revert h
    show (match fsN p n with | some x => some x | none => if p n = true then some n else none) = none → _
    cases hb : fsN p n with
    | some y => intro h; cases h
    | none =>
      intro h
      have h' : (if p n = true then some n else none) = none := h
      by_cases hp : p n = true
      · rw [if_pos hp] at h'
        cases h'
      · rcases Nat.lt_succ_iff_lt_or_eq.mp hk with z | z
        · exact ih hb k z
        · subst z
          exact Bool.eq_false_iff.mpr hp
def fitsV (t : tTown) (m k : Nat) : Int32 := bts (fun s => fitq t (Qm t m) k s) (nS t)
def bareV (t : tTown) (q : tClo) : Int32 := bts (fun s => decide (worn t q s = -1)) (nS t)
def goneV (t : tTown) (q : tClo) : Int32 := bts (fun k => decide (q k 2 = 0)) (nC t)
def behV (t : tTown) (m j : Nat) : Int32 := if j = 0 then bareV t (Qm t m) else goneV t (Qm t m)
def frz (t : tTown) (m s : Nat) : Bool := decide (mo t m = 2 ∧ worn t (Qm t (m + 1)) s = -1 ∧ sv t s 3 = 1)
def frm (t : tTown) (m : Nat) : Bool := (fsN (frz t m) (nS t)).isSome
def freV (t : tTown) (j : Nat) : Int32 := match fsN (frm t) (nM t) with
  | none => -1
  | some m => if j = 0 then nI m else oI (fsN (frz t m) (nS t))
def chaV (t : tTown) (s n : Nat) : Nat := fa_cnt (fun m => decide (¬ worn t (Qm t (m + 1)) s = worn t (Qm t m) s)) n
def a_is (t : tTown) (a b c : Int32) : Int32 := rgd a (nM t + 1) (fun m => rgd b (nC t) (fun k => rgd c 3 (fun j => nI (Qm t m k j))))
def a_fi (t : tTown) (a b : Int32) : Int32 := rgd a (nM t + 1) (fun m => rgd b (nC t) (fun k => fitsV t m k))
def a_we (t : tTown) (a b : Int32) : Int32 := rgd a (nM t + 1) (fun m => rgd b (nS t) (fun s => worn t (Qm t m) s))
def a_be (t : tTown) (a b : Int32) : Int32 := rgd a (nM t + 1) (fun m => rgd b 2 (fun j => behV t m j))
def a_fr (t : tTown) (a : Int32) : Int32 := rgd a 2 (fun j => freV t j)
def a_ch (t : tTown) (a : Int32) : Int32 := rgd a (nS t) (fun s => nI (chaV t s (nM t)))
section ROWS
variable {t : tTown} {di : tDi} {dl : tDl} {K : Int32 → tDi → tDl → Prop}
theorem c_65 (hv : Wv t di) (hw : Wt t) {m k : Nat} (hm : m ≤ nM t) (hk : k < nC t) (kk : K (nI (Qm t m k 0)) di dl) : ClI 1 65 [.ref 8, .int (nI m), .int (nI k)] di dl K := by
  have w2 := hw.1.2.1
  have w3 := hw.1.2.2.1
  refine r_65 ?_
  simp (disch := omega) only [true_imp_iff, false_imp_iff, not_true_eq_false, not_false_eq_true, and_true, true_and, Int32.reduceToInt, Int64.reduceToInt, Int32.reduceAdd, fa_lt, fa_le, fa_eq, cmi_lt, cmi_le, cmi_gt, cmi_ge, cmi_eq, fa_lt64, fa_le64, fa_eq64, Int32.toInt_toInt64, nI_toInt, ti_m1, sub1_ti, inB_iff, nI_clamp, Int32.add_zero, nI_1, nI_add, nI_p2, nI_p3, nI_p4, nI_p5, nI_p6, nI_p8, nI_p9, nI_p10, nI_m3, nI_m4, nI_m5, nI_m6, nI_m8, nI_m10, nI_m31, nI_m48, nI_m60, nI_m256, nI_t5, nI_t6, nI_a1, nI_a48, nI_a96, nI_d5, nI_d6, nI_d8, nI_d10, nI_d20, nI_s1, nI_s48, pk_sub, ((hv m hm).1 k hk).1]
  repeat (first | (with_reducible refine pk1 ?_ ?_; omega) | (with_reducible refine pk2 ?_ ?_; omega) | (with_reducible refine bd1 ?_ ?_; omega))
  exact kk
theorem c_66 (hv : Wv t di) (hw : Wt t) {m k : Nat} (hm : m ≤ nM t) (hk : k < nC t) (kk : K (nI (Qm t m k 1)) di dl) : ClI 1 66 [.ref 8, .int (nI m), .int (nI k)] di dl K := by
  have w2 := hw.1.2.1
  have w3 := hw.1.2.2.1
  refine r_66 ?_
  simp (disch := omega) only [true_imp_iff, false_imp_iff, not_true_eq_false, not_false_eq_true, and_true, true_and, Int32.reduceToInt, Int64.reduceToInt, Int32.reduceAdd, fa_lt, fa_le, fa_eq, cmi_lt, cmi_le, cmi_gt, cmi_ge, cmi_eq, fa_lt64, fa_le64, fa_eq64, Int32.toInt_toInt64, nI_toInt, ti_m1, sub1_ti, inB_iff, nI_clamp, Int32.add_zero, nI_1, nI_add, nI_p2, nI_p3, nI_p4, nI_p5, nI_p6, nI_p8, nI_p9, nI_p10, nI_m3, nI_m4, nI_m5, nI_m6, nI_m8, nI_m10, nI_m31, nI_m48, nI_m60, nI_m256, nI_t5, nI_t6, nI_a1, nI_a48, nI_a96, nI_d5, nI_d6, nI_d8, nI_d10, nI_d20, nI_s1, nI_s48, pk_sub, ((hv m hm).1 k hk).2.1]
  repeat (first | (with_reducible refine pk1 ?_ ?_; omega) | (with_reducible refine pk2 ?_ ?_; omega) | (with_reducible refine bd1 ?_ ?_; omega))
  exact kk
theorem c_67 (hv : Wv t di) (hw : Wt t) {m k : Nat} (hm : m ≤ nM t) (hk : k < nC t) (kk : K (nI (Qm t m k 2)) di dl) : ClI 1 67 [.ref 8, .int (nI m), .int (nI k)] di dl K := by
  have w2 := hw.1.2.1
  have w3 := hw.1.2.2.1
  refine r_67 ?_
  simp (disch := omega) only [true_imp_iff, false_imp_iff, not_true_eq_false, not_false_eq_true, and_true, true_and, Int32.reduceToInt, Int64.reduceToInt, Int32.reduceAdd, fa_lt, fa_le, fa_eq, cmi_lt, cmi_le, cmi_gt, cmi_ge, cmi_eq, fa_lt64, fa_le64, fa_eq64, Int32.toInt_toInt64, nI_toInt, ti_m1, sub1_ti, inB_iff, nI_clamp, Int32.add_zero, nI_1, nI_add, nI_p2, nI_p3, nI_p4, nI_p5, nI_p6, nI_p8, nI_p9, nI_p10, nI_m3, nI_m4, nI_m5, nI_m6, nI_m8, nI_m10, nI_m31, nI_m48, nI_m60, nI_m256, nI_t5, nI_t6, nI_a1, nI_a48, nI_a96, nI_d5, nI_d6, nI_d8, nI_d10, nI_d20, nI_s1, nI_s48, pk_sub, ((hv m hm).1 k hk).2.2]
  repeat (first | (with_reducible refine pk1 ?_ ?_; omega) | (with_reducible refine pk2 ?_ ?_; omega) | (with_reducible refine bd1 ?_ ?_; omega))
  exact kk
theorem c_68 (hv : Wv t di) (hw : Wt t) {m s : Nat} (hm : m ≤ nM t) (hs : s < nS t) (kk : K (worn t (Qm t m) s) di dl) : ClI 0 68 [.ref 8, .int (nI m), .int (nI s)] di dl K := by
  have w1 := hw.1.1
  have w3 := hw.1.2.2.1
  refine r_68 ?_
  simp (disch := omega) only [true_imp_iff, false_imp_iff, not_true_eq_false, not_false_eq_true, and_true, true_and, Int32.reduceToInt, Int64.reduceToInt, Int32.reduceAdd, fa_lt, fa_le, fa_eq, cmi_lt, cmi_le, cmi_gt, cmi_ge, cmi_eq, fa_lt64, fa_le64, fa_eq64, Int32.toInt_toInt64, nI_toInt, ti_m1, sub1_ti, inB_iff, nI_clamp, Int32.add_zero, nI_1, nI_add, nI_p2, nI_p3, nI_p4, nI_p5, nI_p6, nI_p8, nI_p9, nI_p10, nI_m3, nI_m4, nI_m5, nI_m6, nI_m8, nI_m10, nI_m31, nI_m48, nI_m60, nI_m256, nI_t5, nI_t6, nI_a1, nI_a48, nI_a96, nI_d5, nI_d6, nI_d8, nI_d10, nI_d20, nI_s1, nI_s48, pk_sub, (hv m hm).2.2 s hs]
  repeat (first | (with_reducible refine pk1 ?_ ?_; omega) | (with_reducible refine pk2 ?_ ?_; omega) | (with_reducible refine bd1 ?_ ?_; omega))
  exact kk
theorem c_69 (hv : Wv t di) (hw : Wt t) (hc : Cs t di) {m s : Nat} (hm : m ≤ nM t) (hs : s < nS t) (kk : K (bts (fun c => fitq t (Qm t m) c s) (nC t)) di dl) : ClI 1 69 [.ref 8, .int (nI m), .int (nI s)] di dl K := by
  have w1 := hw.1.1
  have w3 := hw.1.2.2.1
  have c1 := hc.1.1
  refine r_69 ?_
  simp (disch := omega) only [true_imp_iff, false_imp_iff, not_true_eq_false, not_false_eq_true, and_true, true_and, Int32.reduceToInt, Int64.reduceToInt, Int32.reduceAdd, fa_lt, fa_le, fa_eq, cmi_lt, cmi_le, cmi_gt, cmi_ge, cmi_eq, fa_lt64, fa_le64, fa_eq64, Int32.toInt_toInt64, nI_toInt, ti_m1, sub1_ti, inB_iff, nI_clamp, Int32.add_zero, nI_1, nI_add, nI_p2, nI_p3, nI_p4, nI_p5, nI_p6, nI_p8, nI_p9, nI_p10, nI_m3, nI_m4, nI_m5, nI_m6, nI_m8, nI_m10, nI_m31, nI_m48, nI_m60, nI_m256, nI_t5, nI_t6, nI_a1, nI_a48, nI_a96, nI_d5, nI_d6, nI_d8, nI_d10, nI_d20, nI_s1, nI_s48, pk_sub, (hv m hm).2.1 s hs, c1]
  repeat (first | (with_reducible refine pk1 ?_ ?_; omega) | (with_reducible refine pk2 ?_ ?_; omega) | (with_reducible refine bd1 ?_ ?_; omega))
  exact kk
theorem c_69n (hw : Wt t) (hc : Cs t di) {m s : Nat} (hm : m ≤ nM t) (hs : nS t ≤ s) (hs8 : s < 8) (kk : K 0 di dl) : ClI 1 69 [.ref 8, .int (nI m), .int (nI s)] di dl K := by
  have w1 := hw.1.1
  have w3 := hw.1.2.2.1
  have c1 := hc.1.1
  refine r_69 ?_
  simp (disch := omega) only [true_imp_iff, false_imp_iff, not_true_eq_false, not_false_eq_true, and_true, true_and, Int32.reduceToInt, Int64.reduceToInt, Int32.reduceAdd, fa_lt, fa_le, fa_eq, cmi_lt, cmi_le, cmi_gt, cmi_ge, cmi_eq, fa_lt64, fa_le64, fa_eq64, Int32.toInt_toInt64, nI_toInt, ti_m1, sub1_ti, inB_iff, nI_clamp, Int32.add_zero, nI_1, nI_add, nI_p2, nI_p3, nI_p4, nI_p5, nI_p6, nI_p8, nI_p9, nI_p10, nI_m3, nI_m4, nI_m5, nI_m6, nI_m8, nI_m10, nI_m31, nI_m48, nI_m60, nI_m256, nI_t5, nI_t6, nI_a1, nI_a48, nI_a96, nI_d5, nI_d6, nI_d8, nI_d10, nI_d20, nI_s1, nI_s48, pk_sub, c1]
  repeat (first | (with_reducible refine pk1 ?_ ?_; omega) | (with_reducible refine pk2 ?_ ?_; omega) | (with_reducible refine bd1 ?_ ?_; omega))
  exact kk
theorem c_70 (hv : Wv t di) (hw : Wt t) (hc : Cs t di) {m k : Nat} (hm : m ≤ nM t) (hk : k < nC t) (kk : K (fitsV t m k) di dl) : ClI 2 70 [.ref 8, .int (nI m), .int (nI k)] di dl K := by
  have w1 := hw.1.1
  have w2 := hw.1.2.1
  have c1 := hc.1.1
  refine r_70 ?_
  refine up_to (n := nS t) (G := fun s => Wq none 2 70 5 [(0, .ref 8), (1, .int (nI m)), (2, .int (nI k)), (3, .int (bts (fun s => fitq t (Qm t m) k s) s)), (4, .int (nI s))] [] di dl (RI K)) ?_ ?_ (Nat.zero_le _)
  · refine r_70_5 ?_
    simp (disch := omega) only [true_imp_iff, false_imp_iff, not_true_eq_false, not_false_eq_true, and_true, true_and, Int32.reduceToInt, Int64.reduceToInt, Int32.reduceAdd, fa_lt, fa_le, fa_eq, cmi_lt, cmi_le, cmi_gt, cmi_ge, cmi_eq, fa_lt64, fa_le64, fa_eq64, Int32.toInt_toInt64, nI_toInt, ti_m1, sub1_ti, inB_iff, nI_clamp, Int32.add_zero, nI_1, nI_add, nI_p2, nI_p3, nI_p4, nI_p5, nI_p6, nI_p8, nI_p9, nI_p10, nI_m3, nI_m4, nI_m5, nI_m6, nI_m8, nI_m10, nI_m31, nI_m48, nI_m60, nI_m256, nI_t5, nI_t6, nI_a1, nI_a48, nI_a96, nI_d5, nI_d6, nI_d8, nI_d10, nI_d20, nI_s1, nI_s48, pk_sub, c1]
    repeat (first | (with_reducible refine pk1 ?_ ?_; omega) | (with_reducible refine pk2 ?_ ?_; omega) | (with_reducible refine bd1 ?_ ?_; omega))
    exact kk
  · intro s hs ic
    refine r_70_5 ?_
    simp (disch := omega) only [true_imp_iff, false_imp_iff, not_true_eq_false, not_false_eq_true, and_true, true_and, Int32.reduceToInt, Int64.reduceToInt, Int32.reduceAdd, fa_lt, fa_le, fa_eq, cmi_lt, cmi_le, cmi_gt, cmi_ge, cmi_eq, fa_lt64, fa_le64, fa_eq64, Int32.toInt_toInt64, nI_toInt, ti_m1, sub1_ti, inB_iff, nI_clamp, Int32.add_zero, nI_1, nI_add, nI_p2, nI_p3, nI_p4, nI_p5, nI_p6, nI_p8, nI_p9, nI_p10, nI_m3, nI_m4, nI_m5, nI_m6, nI_m8, nI_m10, nI_m31, nI_m48, nI_m60, nI_m256, nI_t5, nI_t6, nI_a1, nI_a48, nI_a96, nI_d5, nI_d6, nI_d8, nI_d10, nI_d20, nI_s1, nI_s48, pk_sub, c1]
    repeat (first | (with_reducible refine pk1 ?_ ?_; omega) | (with_reducible refine pk2 ?_ ?_; omega) | (with_reducible refine bd1 ?_ ?_; omega))
    refine c_69 hv hw hc hm hs ?_
    have hb := bt_bts (p := fun c => fitq t (Qm t m) c s) (n := nC t) (i := k) (by omega) (by omega)
    rw [decide_eq_true hk] at hb
    by_cases hf : fitq t (Qm t m) k s = true
    · rw [bts_y (p := fun s => fitq t (Qm t m) k s) hf] at ic
      simp (disch := omega) only [true_imp_iff, false_imp_iff, not_true_eq_false, not_false_eq_true, and_true, true_and, Int32.reduceToInt, Int64.reduceToInt, Int32.reduceAdd, fa_lt, fa_le, fa_eq, cmi_lt, cmi_le, cmi_gt, cmi_ge, cmi_eq, fa_lt64, fa_le64, fa_eq64, Int32.toInt_toInt64, nI_toInt, ti_m1, sub1_ti, inB_iff, nI_clamp, Int32.add_zero, nI_1, nI_add, nI_p2, nI_p3, nI_p4, nI_p5, nI_p6, nI_p8, nI_p9, nI_p10, nI_m3, nI_m4, nI_m5, nI_m6, nI_m8, nI_m10, nI_m31, nI_m48, nI_m60, nI_m256, nI_t5, nI_t6, nI_a1, nI_a48, nI_a96, nI_d5, nI_d6, nI_d8, nI_d10, nI_d20, nI_s1, nI_s48, pk_sub, bit_1 (show k < 32 by omega) (hb.trans hf)]
      repeat (first | (with_reducible refine pk1 ?_ ?_; omega) | (with_reducible refine pk2 ?_ ?_; omega) | (with_reducible refine bd1 ?_ ?_; omega))
      exact ic
    · rw [bts_n (p := fun s => fitq t (Qm t m) k s) (Bool.eq_false_iff.mpr hf)] at ic
      simp (disch := omega) only [true_imp_iff, false_imp_iff, not_true_eq_false, not_false_eq_true, and_true, true_and, Int32.reduceToInt, Int64.reduceToInt, Int32.reduceAdd, fa_lt, fa_le, fa_eq, cmi_lt, cmi_le, cmi_gt, cmi_ge, cmi_eq, fa_lt64, fa_le64, fa_eq64, Int32.toInt_toInt64, nI_toInt, ti_m1, sub1_ti, inB_iff, nI_clamp, Int32.add_zero, nI_1, nI_add, nI_p2, nI_p3, nI_p4, nI_p5, nI_p6, nI_p8, nI_p9, nI_p10, nI_m3, nI_m4, nI_m5, nI_m6, nI_m8, nI_m10, nI_m31, nI_m48, nI_m60, nI_m256, nI_t5, nI_t6, nI_a1, nI_a48, nI_a96, nI_d5, nI_d6, nI_d8, nI_d10, nI_d20, nI_s1, nI_s48, pk_sub, bit_0 (show k < 32 by omega) (hb.trans (Bool.eq_false_iff.mpr hf))]
      repeat (first | (with_reducible refine pk1 ?_ ?_; omega) | (with_reducible refine pk2 ?_ ?_; omega) | (with_reducible refine bd1 ?_ ?_; omega))
      exact ic
theorem c_71 (hv : Wv t di) (hw : Wt t) (hc : Cs t di) {m : Nat} (hm : m ≤ nM t) (kk : K (bareV t (Qm t m)) di dl) : ClI 1 71 [.ref 8, .int (nI m)] di dl K := by
  have w1 := hw.1.1
  have c1 := hc.1.1
  refine r_71 ?_
  refine up_to (n := nS t) (G := fun s => Wq none 1 71 4 [(0, .ref 8), (1, .int (nI m)), (2, .int (bts (fun s => decide (worn t (Qm t m) s = -1)) s)), (3, .int (nI s))] [] di dl (RI K)) ?_ ?_ (Nat.zero_le _)
  · exact r_71_4 (pk1 ⟨by rw [c1]; exact Int32.le_refl _, fun z => by rw [c1] at z; exact absurd (Int32.le_refl _) (Int32.not_le.mpr z)⟩ kk)
  · intro s hs ic
    refine r_71_4 (pk2 ⟨fun z => by rw [c1] at z; exact absurd (nI_lt hs (by omega)) (Int32.not_lt.mpr z), by rw [c1]; exact nI_lt hs (by omega)⟩ ?_)
    refine c_68 hv hw hm hs ?_
    rw [nI_1]
    by_cases hf : worn t (Qm t m) s = -1
    · rw [bts_y (p := fun s => decide (worn t (Qm t m) s = -1)) (decide_eq_true hf)] at ic
      exact pk2 ⟨fun z => z hf, hf⟩ ic
    · rw [bts_n (p := fun s => decide (worn t (Qm t m) s = -1)) (decide_eq_false hf)] at ic
      exact pk1 ⟨hf, hf⟩ ic
theorem c_72 (hv : Wv t di) (hw : Wt t) (hc : Cs t di) {m : Nat} (hm : m ≤ nM t) (kk : K (goneV t (Qm t m)) di dl) : ClI 2 72 [.ref 8, .int (nI m)] di dl K := by
  have w2 := hw.1.2.1
  have c1 := hc.2.1.1
  refine r_72 ?_
  refine up_to (n := nC t) (G := fun s => Wq none 2 72 4 [(0, .ref 8), (1, .int (nI m)), (2, .int (bts (fun k => decide (Qm t m k 2 = 0)) s)), (3, .int (nI s))] [] di dl (RI K)) ?_ ?_ (Nat.zero_le _)
  · refine r_72_4 ?_
    simp (disch := omega) only [true_imp_iff, false_imp_iff, not_true_eq_false, not_false_eq_true, and_true, true_and, Int32.reduceToInt, Int64.reduceToInt, Int32.reduceAdd, fa_lt, fa_le, fa_eq, cmi_lt, cmi_le, cmi_gt, cmi_ge, cmi_eq, fa_lt64, fa_le64, fa_eq64, Int32.toInt_toInt64, nI_toInt, ti_m1, sub1_ti, inB_iff, nI_clamp, Int32.add_zero, nI_1, nI_add, nI_p2, nI_p3, nI_p4, nI_p5, nI_p6, nI_p8, nI_p9, nI_p10, nI_m3, nI_m4, nI_m5, nI_m6, nI_m8, nI_m10, nI_m31, nI_m48, nI_m60, nI_m256, nI_t5, nI_t6, nI_a1, nI_a48, nI_a96, nI_d5, nI_d6, nI_d8, nI_d10, nI_d20, nI_s1, nI_s48, pk_sub, c1]
    repeat (first | (with_reducible refine pk1 ?_ ?_; omega) | (with_reducible refine pk2 ?_ ?_; omega) | (with_reducible refine bd1 ?_ ?_; omega))
    exact kk
  · intro k hk ic
    have q3 : Qm t m k 2 ≤ 9 := (Bq_s hw (mo t) m k hk).2.2
    refine r_72_4 ?_
    simp (disch := omega) only [true_imp_iff, false_imp_iff, not_true_eq_false, not_false_eq_true, and_true, true_and, Int32.reduceToInt, Int64.reduceToInt, Int32.reduceAdd, fa_lt, fa_le, fa_eq, cmi_lt, cmi_le, cmi_gt, cmi_ge, cmi_eq, fa_lt64, fa_le64, fa_eq64, Int32.toInt_toInt64, nI_toInt, ti_m1, sub1_ti, inB_iff, nI_clamp, Int32.add_zero, nI_1, nI_add, nI_p2, nI_p3, nI_p4, nI_p5, nI_p6, nI_p8, nI_p9, nI_p10, nI_m3, nI_m4, nI_m5, nI_m6, nI_m8, nI_m10, nI_m31, nI_m48, nI_m60, nI_m256, nI_t5, nI_t6, nI_a1, nI_a48, nI_a96, nI_d5, nI_d6, nI_d8, nI_d10, nI_d20, nI_s1, nI_s48, pk_sub, c1]
    repeat (first | (with_reducible refine pk1 ?_ ?_; omega) | (with_reducible refine pk2 ?_ ?_; omega) | (with_reducible refine bd1 ?_ ?_; omega))
    refine c_67 hv hw hm hk ?_
    simp (disch := omega) only [true_imp_iff, false_imp_iff, not_true_eq_false, not_false_eq_true, and_true, true_and, Int32.reduceToInt, Int64.reduceToInt, Int32.reduceAdd, fa_lt, fa_le, fa_eq, cmi_lt, cmi_le, cmi_gt, cmi_ge, cmi_eq, fa_lt64, fa_le64, fa_eq64, Int32.toInt_toInt64, nI_toInt, ti_m1, sub1_ti, inB_iff, nI_clamp, Int32.add_zero, nI_1, nI_add, nI_p2, nI_p3, nI_p4, nI_p5, nI_p6, nI_p8, nI_p9, nI_p10, nI_m3, nI_m4, nI_m5, nI_m6, nI_m8, nI_m10, nI_m31, nI_m48, nI_m60, nI_m256, nI_t5, nI_t6, nI_a1, nI_a48, nI_a96, nI_d5, nI_d6, nI_d8, nI_d10, nI_d20, nI_s1, nI_s48, pk_sub]
    by_cases hf : Qm t m k 2 = 0
    · rw [bts_y (p := fun k => decide (Qm t m k 2 = 0)) (decide_eq_true hf)] at ic
      repeat (first | (with_reducible refine pk1 ?_ ?_; omega) | (with_reducible refine pk2 ?_ ?_; omega) | (with_reducible refine bd1 ?_ ?_; omega))
      exact ic
    · rw [bts_n (p := fun k => decide (Qm t m k 2 = 0)) (decide_eq_false hf)] at ic
      repeat (first | (with_reducible refine pk1 ?_ ?_; omega) | (with_reducible refine pk2 ?_ ?_; omega) | (with_reducible refine bd1 ?_ ?_; omega))
      exact ic
theorem c_75 (hv : Wv t di) (hw : Wt t) (hc : Cs t di) {s : Nat} (hs : s < nS t) (kk : K (nI (chaV t s (nM t))) di dl) : ClI 1 75 [.ref 8, .int (nI s)] di dl K := by
  have w1 := hw.1.1
  have w3 := hw.1.2.2.1
  have c1 := hc.2.2.1.1
  refine r_75 ?_
  refine up_to (n := nM t) (G := fun m => Wq none 1 75 4 [(0, .ref 8), (1, .int (nI s)), (2, .int (nI (chaV t s m))), (3, .int (nI (m + 1)))] [] di dl (RI K)) ?_ ?_ (Nat.zero_le _)
  · refine r_75_4 ?_
    simp (disch := omega) only [true_imp_iff, false_imp_iff, not_true_eq_false, not_false_eq_true, and_true, true_and, Int32.reduceToInt, Int64.reduceToInt, Int32.reduceAdd, fa_lt, fa_le, fa_eq, cmi_lt, cmi_le, cmi_gt, cmi_ge, cmi_eq, fa_lt64, fa_le64, fa_eq64, Int32.toInt_toInt64, nI_toInt, ti_m1, sub1_ti, inB_iff, nI_clamp, Int32.add_zero, nI_1, nI_add, nI_p2, nI_p3, nI_p4, nI_p5, nI_p6, nI_p8, nI_p9, nI_p10, nI_m3, nI_m4, nI_m5, nI_m6, nI_m8, nI_m10, nI_m31, nI_m48, nI_m60, nI_m256, nI_t5, nI_t6, nI_a1, nI_a48, nI_a96, nI_d5, nI_d6, nI_d8, nI_d10, nI_d20, nI_s1, nI_s48, pk_sub, c1]
    repeat (first | (with_reducible refine pk1 ?_ ?_; omega) | (with_reducible refine pk2 ?_ ?_; omega) | (with_reducible refine bd1 ?_ ?_; omega))
    exact kk
  · intro m hm ic
    refine r_75_4 (pk2 ⟨fun z => by rw [c1, fa_lt, nI_toInt (by omega), nI_toInt (by omega)] at z; omega, by rw [c1]; exact nI_le (by omega) (by omega)⟩ ?_)
    refine c_68 hv hw (by omega) hs ?_
    rw [nI_pred]
    refine c_68 hv hw (by omega) hs ?_
    rw [nI_1, nI_1]
    by_cases hf : worn t (Qm t (m + 1)) s = worn t (Qm t m) s
    · have e : chaV t s (m + 1) = chaV t s m := fa_cnt_no (by rw [decide_eq_false (fun z => z hf)])
      rw [e] at ic
      exact pk1 ⟨hf, fun z => z hf⟩ ic
    · have e : chaV t s (m + 1) = chaV t s m + 1 := fa_cnt_yes (by rw [decide_eq_true hf])
      rw [e] at ic
      exact pk2 ⟨hf, hf⟩ ic
theorem c_73 (hv : Wv t di) (hw : Wt t) (hc : Cs t di) {m : Nat} (hm : m < nM t) (kk : K (bts (frz t m) (nS t)) di dl) : ClI 2 73 [.ref 8, .int (nI m)] di dl K := by
  have w1 := hw.1.1
  have w3 := hw.1.2.2.1
  have c1 := hc.1.1
  refine r_73 (c_35t hw hc hm ?_)
  have w8 := hw.2.2.2 m hm
  by_cases h2 : mo t m = 2
  · refine pk1 ⟨by rw [h2]; rfl, fun z => z (by rw [h2]; rfl)⟩ ?_
    refine up_to (n := nS t) (G := fun s => Wq none 2 73 18 [(0, .ref 8), (1, .int (nI m)), (2, .int (bts (frz t m) s)), (3, .int (nI s))] [] di dl (RI K)) ?_ ?_ (Nat.zero_le _)
    · refine r_73_18 ?_
      simp (disch := omega) only [true_imp_iff, false_imp_iff, not_true_eq_false, not_false_eq_true, and_true, true_and, Int32.reduceToInt, Int64.reduceToInt, Int32.reduceAdd, fa_lt, fa_le, fa_eq, cmi_lt, cmi_le, cmi_gt, cmi_ge, cmi_eq, fa_lt64, fa_le64, fa_eq64, Int32.toInt_toInt64, nI_toInt, ti_m1, sub1_ti, inB_iff, nI_clamp, Int32.add_zero, nI_1, nI_add, nI_p2, nI_p3, nI_p4, nI_p5, nI_p6, nI_p8, nI_p9, nI_p10, nI_m3, nI_m4, nI_m5, nI_m6, nI_m8, nI_m10, nI_m31, nI_m48, nI_m60, nI_m256, nI_t5, nI_t6, nI_a1, nI_a48, nI_a96, nI_d5, nI_d6, nI_d8, nI_d10, nI_d20, nI_s1, nI_s48, pk_sub, c1]
      repeat (first | (with_reducible refine pk1 ?_ ?_; omega) | (with_reducible refine pk2 ?_ ?_; omega) | (with_reducible refine bd1 ?_ ?_; omega))
      exact kk
    · intro s hs ic
      have v5 := (hw.2.1 s hs).2.2.2.2
      refine r_73_18 (pk2 ⟨fun z => by rw [c1] at z; exact absurd (nI_lt hs (by omega)) (Int32.not_lt.mpr z), by rw [c1]; exact nI_lt hs (by omega)⟩ ?_)
      refine c_50 hw hc hs ?_
      rw [nI_1]
      by_cases hn : sv t s 3 = 1
      · refine pk2 ⟨by rw [hn]; decide, by rw [hn]; decide⟩ ?_
        rw [nI_1]
        refine c_68 hv hw (by omega) hs ?_
        by_cases hb : worn t (Qm t (m + 1)) s = -1
        · rw [bts_y (show frz t m s = true from decide_eq_true ⟨h2, hb, hn⟩)] at ic
          exact pk2 ⟨fun z => z hb, hb⟩ ic
        · rw [bts_n (show frz t m s = false from decide_eq_false (fun z => hb z.2.1))] at ic
          exact pk1 ⟨hb, hb⟩ ic
      · rw [bts_n (show frz t m s = false from decide_eq_false (fun z => hn z.2.2))] at ic
        refine pk1 ⟨by rw [show sv t s 3 = 0 by omega]; rfl, fun z => z (by rw [show sv t s 3 = 0 by omega]; rfl)⟩ ic
  · have hz : ∀ n, bts (frz t m) n = 0 := by
      intro n
      induction n with
      | zero => rfl
      | succ n ih => rw [bts_n (show frz t m n = false from decide_eq_false (fun z => h2 z.1)), ih]
    rw [hz] at kk
    have e : ¬ nI (mo t m) = 2 := fun z => h2 ((nI_eq (b := 2) (by omega) (by decide)).mp z)
    exact pk2 ⟨e, e⟩ kk
theorem bts_0 {p : Nat → Bool} {n : Nat} (hn : n ≤ 31) : bts p n = 0 ↔ fsN p n = none := by
  constructor
  · intro h
    cases hf : fsN p n with
    | none => rfl
    | some x =>
      obtain ⟨h1, h2⟩ := fsN_some hf
      have := bt_bts (p := p) (n := n) (i := x) hn (by omega)
      rw [h, b_0, decide_eq_true h1, h2] at this
      cases this
  · intro h
    have := fsN_none h
    rw [bts_cong (q := fun _ => false) this]
    have hz : ∀ n, bts (fun _ => false) n = 0 := by
      intro n
      induction n with
      | zero => rfl
      | succ n ih => rw [bts_n rfl, ih]
    exact hz n
theorem c_74 (hv : Wv t di) (hw : Wt t) (hc : Cs t di) (kk : K (oI (fsN (frm t) (nM t))) di dl) : ClI 3 74 [.ref 8] di dl K := by
  have w1 := hw.1.1
  have w3 := hw.1.2.2.1
  have c1 := hc.2.2.1.1
  refine r_74 ?_
  refine up_to (n := nM t) (G := fun m => fsN (frm t) m = none → Wq none 3 74 2 [(0, .ref 8), (1, .int (nI m))] [] di dl (RI K)) ?_ ?_ (Nat.zero_le _) rfl
  · intro h
    rw [h] at kk
    refine r_74_2 ?_
    simp (disch := omega) only [true_imp_iff, false_imp_iff, not_true_eq_false, not_false_eq_true, and_true, true_and, Int32.reduceToInt, Int64.reduceToInt, Int32.reduceAdd, fa_lt, fa_le, fa_eq, cmi_lt, cmi_le, cmi_gt, cmi_ge, cmi_eq, fa_lt64, fa_le64, fa_eq64, Int32.toInt_toInt64, nI_toInt, ti_m1, sub1_ti, inB_iff, nI_clamp, Int32.add_zero, nI_1, nI_add, nI_p2, nI_p3, nI_p4, nI_p5, nI_p6, nI_p8, nI_p9, nI_p10, nI_m3, nI_m4, nI_m5, nI_m6, nI_m8, nI_m10, nI_m31, nI_m48, nI_m60, nI_m256, nI_t5, nI_t6, nI_a1, nI_a48, nI_a96, nI_d5, nI_d6, nI_d8, nI_d10, nI_d20, nI_s1, nI_s48, pk_sub, c1]
    repeat (first | (with_reducible refine pk1 ?_ ?_; omega) | (with_reducible refine pk2 ?_ ?_; omega) | (with_reducible refine bd1 ?_ ?_; omega))
    exact kk
  · intro m hm ih h
    refine r_74_2 (pk2 ⟨fun z => by rw [c1] at z; exact absurd (nI_lt hm (by omega)) (Int32.not_lt.mpr z), by rw [c1]; exact nI_lt hm (by omega)⟩ ?_)
    refine c_73 hv hw hc hm ?_
    by_cases hz : bts (frz t m) (nS t) = 0
    · refine pk1 ⟨hz, fun z => z hz⟩ ?_
      rw [nI_1]
      refine ih (fsN_no h ?_)
      unfold frm
      rw [(bts_0 (by omega)).mp hz]; rfl
    · refine pk2 ⟨hz, hz⟩ ?_
      have hp : frm t m = true := by
        unfold frm
        cases hf : fsN (frz t m) (nS t) with
        | none => exact absurd ((bts_0 (by omega)).mpr hf) hz
        | some x => rfl
      rw [fsN_at h hp hm] at kk
      exact kk
theorem c_130 {p : Nat → Bool} {n : Nat} (hn : n ≤ 8) (kk : K (oI (fsN p n)) di dl) : ClI 0 130 [.int (bts p n)] di dl K := by
  refine r_130 ?_
  refine up_to (n := 8) (G := fun i => (∀ k, k < i → k < n → p k = false) → Wq none 0 130 2 [(0, .int (bts p n)), (1, .int (nI i))] [] di dl (RI K)) ?_ ?_ (Nat.zero_le _) (fun k hk => absurd hk (Nat.not_lt_zero k))
  · intro h
    have e : fsN p n = none := by
      cases hf : fsN p n with
      | none => rfl
      | some x =>
        obtain ⟨h1, h2⟩ := fsN_some hf
        rw [h x (by omega) h1] at h2
        cases h2
    rw [e] at kk
    refine r_130_2 ?_
    simp (disch := omega) only [true_imp_iff, false_imp_iff, not_true_eq_false, not_false_eq_true, and_true, true_and, Int32.reduceToInt, Int64.reduceToInt, Int32.reduceAdd, fa_lt, fa_le, fa_eq, cmi_lt, cmi_le, cmi_gt, cmi_ge, cmi_eq, fa_lt64, fa_le64, fa_eq64, Int32.toInt_toInt64, nI_toInt, ti_m1, sub1_ti, inB_iff, nI_clamp, Int32.add_zero, nI_1, nI_add, nI_p2, nI_p3, nI_p4, nI_p5, nI_p6, nI_p8, nI_p9, nI_p10, nI_m3, nI_m4, nI_m5, nI_m6, nI_m8, nI_m10, nI_m31, nI_m48, nI_m60, nI_m256, nI_t5, nI_t6, nI_a1, nI_a48, nI_a96, nI_d5, nI_d6, nI_d8, nI_d10, nI_d20, nI_s1, nI_s48, pk_sub]
    repeat (first | (with_reducible refine pk1 ?_ ?_; omega) | (with_reducible refine pk2 ?_ ?_; omega) | (with_reducible refine bd1 ?_ ?_; omega))
    exact kk
  · intro i hi ih h
    have hb := bt_bts (p := p) (n := n) (i := i) (by omega) (by omega)
    refine r_130_2 (pk2 ⟨fun z => absurd (nI_lt (b := 8) hi (by decide)) (Int32.not_lt.mpr z), nI_lt (b := 8) hi (by decide)⟩ ?_)
    by_cases hp : i < n ∧ p i = true
    · rw [decide_eq_true hp.1, hp.2] at hb
      rw [bit_1 (by omega) hb]
      refine pk2 (by decide) ?_
      have e : fsN p n = some i := by
        refine fsN_at ?_ hp.2 hp.1
        cases hf : fsN p i with
        | none => rfl
        | some x =>
          obtain ⟨h1, h2⟩ := fsN_some hf
          rw [h x h1 (by omega)] at h2
          cases h2
      rw [e] at kk
      exact kk
    · have hb0 : bt (bts p n) i = false := by
        rw [hb]
        by_cases h1 : i < n
        · rw [decide_eq_true h1, Bool.eq_false_iff.mpr (fun z => hp ⟨h1, z⟩)]; rfl
        · rw [decide_eq_false h1]; rfl
      rw [bit_0 (by omega) hb0, nI_1]
      refine pk1 (by decide) (ih ?_)
      intro k hk hkn
      rcases Nat.lt_succ_iff_lt_or_eq.mp hk with z | z
      · exact h k z hkn
      · subst z
        exact Bool.eq_false_iff.mpr (fun z => hp ⟨hkn, z⟩)
end ROWS
