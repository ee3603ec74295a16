/-! round: the reference -/
theorem am1 (k : Nat) : nI k + -1 = nI k - 1 := by
  rw [fa_eq, Int32.toInt_add, Int32.toInt_sub, ti_m1, ti_1, Int.sub_eq_add_neg]
theorem rst_le {code : Nat} : ∀ i, rst code i ≤ code
  | 0 => Nat.le_refl _
  | i + 1 => Nat.le_trans (Nat.div_le_self _ _) (rst_le i)
theorem p2_le {n B : Nat} {f : Nat → Nat} (h : ∀ j, f j ≤ B) : ∀ i j, p2u n f i j ≤ B + i
  | 0, j => h j
  | i + 1, j => by
    have ih := p2_le (n := n) h i j
    show (if n - 1 - i < j ∧ j < n then p2u n f i j + (if p2u n f i (n - 1 - i) ≤ p2u n f i j then 1 else 0) else p2u n f i j) ≤ B + (i + 1)
    split
    · split <;> omega
    · omega
theorem dgt_le {n code k : Nat} : dgt n code k ≤ code := Nat.le_trans (Nat.mod_le _ _) (rst_le _)
theorem facN_6 : ∀ n, n < 7 → facN n ≤ 720 ∧ 1 ≤ facN n := by decide
theorem c_195 {di : tDi} {dl : tDl} {n code : Nat} (h0 : 1 ≤ n) (h6 : n ≤ 6) (hc : code < 720) {K : tDi → tDl → Prop} (kk : ∀ d, (∀ k, k < n → d 191 k = nI (unf n code k)) → FF1 191 di d → K d dl) : ClV 0 195 [.ref 176, .int (nI n), .int (nI code)] di dl K := by
  have hB : ∀ i j, p2u n (dgt n code) i j ≤ code + i := p2_le (fun j => dgt_le)
  -- the second loop
  have S : ∀ m, m ≤ n → ∀ d, (∀ k, k < n → d 191 k = nI (p2u n (dgt n code) (n - m) k)) → FF1 191 di d → Wq none 0 195 43 [(0, .ref 176), (1, .int (nI n)), (4, .int (nI m - 1))] [] d dl (RV K) := by
    intro m
    induction m with
    | zero =>
      intro _ d hd fr
      refine r_195_43 (pk1 (by decide) ?_)
      refine kk d (fun k hk => ?_) fr
      rw [hd k hk]; rfl
    | succ m ih =>
      intro hm d hd fr
      rw [nI_pred]
      refine r_195_43 (pk2 ⟨fun z => absurd (nI_pos' (n := m) (by omega)) (Int32.not_le.mpr z), nI_pos' (by omega)⟩ ?_)
      rw [nI_1]
      have go := up_to (n := n) (i := m + 1) (G := fun j => m < j → ∀ d, (∀ k, k < n → d 191 k = nI (if m < k ∧ k < j then p2u n (dgt n code) (n - (m + 1)) k + (if p2u n (dgt n code) (n - (m + 1)) m ≤ p2u n (dgt n code) (n - (m + 1)) k then 1 else 0) else p2u n (dgt n code) (n - (m + 1)) k)) → FF1 191 di d → Wq none 0 195 54 [(0, .ref 176), (1, .int (nI n)), (4, .int (nI m)), (5, .int (nI j))] [] d dl (RV K)) ?_ ?_ hm
      · refine go (by omega) d ?_ fr
        intro k hk
        rw [if_neg (by omega)]
        exact hd k hk
      · intro _ d hd fr
        refine r_195_54 (pk1 ⟨Int32.le_refl _, fun z => absurd (Int32.le_refl _) (Int32.not_le.mpr z)⟩ ?_)
        rw [am1]
        refine ih (by omega) d ?_ fr
        intro k hk
        rw [hd k hk, show n - m = (n - (m + 1)) + 1 by omega]
        show _ = nI (if n - 1 - (n - (m + 1)) < k ∧ k < n then p2u n (dgt n code) (n - (m + 1)) k + (if p2u n (dgt n code) (n - (m + 1)) (n - 1 - (n - (m + 1))) ≤ p2u n (dgt n code) (n - (m + 1)) k then 1 else 0) else p2u n (dgt n code) (n - (m + 1)) k)
        rw [show n - 1 - (n - (m + 1)) = m by omega]
      · intro j hj ij hmj d hd fr
        have hm1 := hd m (by omega)
        rw [if_neg (by omega)] at hm1
        have hj1 := hd j hj
        rw [if_neg (by omega)] at hj1
        have q1 := hB (n - (m + 1)) j
        have q2 := hB (n - (m + 1)) m
        refine r_195_54 (pk2 ⟨fun z => absurd (nI_lt hj (by omega)) (Int32.not_lt.mpr z), nI_lt hj (by omega)⟩ ⟨inB_n (by omega) (by decide), inB_n (by omega) (by decide), ?_⟩)
        rw [nI_clamp (by omega), nI_clamp (by omega), hj1, hm1, Int32.add_zero, nI_1, nI_1]
        have fin : ∀ v, v = (p2u n (dgt n code) (n - (m + 1)) j + (if p2u n (dgt n code) (n - (m + 1)) m ≤ p2u n (dgt n code) (n - (m + 1)) j then 1 else 0)) → Wq none 0 195 54 [(0, .ref 176), (1, .int (nI n)), (4, .int (nI m)), (5, .int (nI (j + 1)))] [] (up2 d 191 j (nI v)) dl (RV K) := by
          intro v hv
          subst hv
          refine ij (by omega) _ ?_ (fun a k z => by rw [up_na z]; exact fr a k z)
          intro k hk
          by_cases e : k = j
          · subst e
            rw [up_eq, if_pos (show m < k ∧ k < k + 1 by omega)]
          · rw [up_nk e, hd k hk]
            by_cases z : m < k ∧ k < j
            · rw [if_pos z, if_pos (show m < k ∧ k < j + 1 by omega)]
            · rw [if_neg z, if_neg (show ¬ (m < k ∧ k < j + 1) by omega)]
        by_cases hle : p2u n (dgt n code) (n - (m + 1)) m ≤ p2u n (dgt n code) (n - (m + 1)) j
        · exact pk2 ⟨fun z => absurd (nI_le hle (by omega)) (Int32.not_le.mpr z), nI_le hle (by omega)⟩ (fin _ (by rw [if_pos hle]))
        · exact pk1 ⟨nI_lt (by omega) (by omega), fun z => absurd (nI_lt (show p2u n (dgt n code) (n - (m + 1)) j < p2u n (dgt n code) (n - (m + 1)) m by omega) (by omega)) (Int32.not_lt.mpr z)⟩ (fin _ (by rw [if_neg hle]; rfl))
  -- the first
  have D : ∀ m, m ≤ n → ∀ d, (∀ k, m ≤ k → k < n → d 191 k = nI (dgt n code k)) → FF1 191 di d → Wq none 0 195 7 [(0, .ref 176), (1, .int (nI n)), (3, .int (nI (rst code (n - m)))), (4, .int (nI m - 1))] [] d dl (RV K) := by
    intro m
    induction m with
    | zero =>
      intro _ d hd fr
      refine r_195_7 (pk1 (by decide) ?_)
      refine S n (Nat.le_refl _) d ?_ fr
      intro k hk
      rw [hd k (Nat.zero_le _) hk, Nat.sub_self]; rfl
    | succ m ih =>
      intro hm d hd fr
      have hr := rst_le (code := code) (n - (m + 1))
      rw [nI_pred]
      refine r_195_7 (pk2 ⟨fun z => absurd (nI_pos' (n := m) (by omega)) (Int32.not_le.mpr z), nI_pos' (by omega)⟩ ?_)
      rw [pk_sub (by omega), nI_clamp (by omega), pk_rem (by omega) (by omega) (by omega), pk_div (by omega) (by omega) (by omega), am1]
      have nz : ¬ nI (n - m) = 0 := nI_ne0 (by omega) (by omega)
      refine ⟨nz, inB_n (by omega) (by decide), nz, ?_⟩
      have ih' := ih (by omega) (up2 d 191 m (nI (rst code (n - (m + 1)) % (n - m)))) ?_ (fun a k z => by rw [up_na z]; exact fr a k z)
      · rw [show n - m = (n - (m + 1)) + 1 by omega] at ih' ⊢
        exact ih'
      · intro k h1 h2
        by_cases e : k = m
        · subst e
          rw [up_eq]
          unfold dgt
          rw [show n - 1 - k = n - (k + 1) by omega]
        · rw [up_nk e]
          exact hd k (by omega) h2
  refine r_195 ?_
  have := D n (Nat.le_refl _) di (fun k h1 h2 => by omega) (fun _ _ _ => rfl)
  rw [Nat.sub_self] at this
  exact this
theorem ng : ∀ a, a < 10 → ∀ b, b < 10 → a < b → -(nI a - nI b) = nI (b - a) := by decide +kernel
def Xr (n : Nat) (x : tXr) (x6 : Int32) (d : tDi) : Prop := match x with
  | none => x6 = -1
  | some p => x6 = nI p.1 ∧ p.1 ≤ 400 ∧ ∀ k, k < n → d 192 k = nI (p.2.getD k 0)
/-- behind k stops of a row -/
def evk (P : Nat → Nat) (s T n code k : Nat) : tRs := (List.range k).foldl (fun st i => rstp P s T st (unf n code i)) rs0
theorem evk_s {P : Nat → Nat} {s T n code k : Nat} : evk P s T n code (k + 1) = rstp P s T (evk P s T n code k) (unf n code k) := by
  unfold evk
  rw [List.range_succ, List.foldl_append]
  rfl
theorem evk_n {P : Nat → Nat} {s T n code : Nat} : evk P s T n code n = (rowL n code).foldl (rstp P s T) rs0 := by
  unfold evk rowL
  rw [List.foldl_map]
theorem evk_b {P : Nat → Nat} {s T n code : Nat} (hP : ∀ j, j < n → P j ≤ 9) (hn : n ≤ 6) (hu : ∀ k, k < n → unf n code k < n) : ∀ k, k ≤ n → Bst k (evk P s T n code k)
  | 0, _ => ⟨Nat.zero_le _, Nat.zero_le _, Nat.zero_le _⟩
  | k + 1, hk => by
    rw [evk_s]
    exact Bst_s (by omega) (hP _ (hu k (by omega))) (evk_b hP hn hu k (by omega))
theorem rowL_g {n code k : Nat} (hk : k < n) : (rowL n code).getD k 0 = unf n code k := by
  unfold rowL
  rw [List.getD_eq_getElem?_getD, List.getElem?_map, List.getElem?_range hk]
  rfl
theorem c_196 {t : tTown} {di : tDi} {dl : tDl} (hw : Wt t) (hr : Rs t di) {s T : Nat} (hs : s < nS t) (hs6 : s < 6) (hT : T ≤ 99) {c : Int32} (hc : c = -1 ∨ ∃ i, i < 6 ∧ c = nI i) {K : Int32 → tDi → tDl → Prop} (kk : ∀ d, Rs t d → FI di d → K (rouV t s T c) d dl) : ClI 1 196 [.ref 176, .int (nI s), .int (nI T), .int c] di dl K := by
  have w1 := hw.1.1
  have c1 := hr.1
  have hn6 : min 6 (nS t) ≤ 6 := Nat.min_le_left _ _
  have hnS : min 6 (nS t) ≤ nS t := Nat.min_le_right _ _
  have hn1 : 1 ≤ min 6 (nS t) := by omega
  unfold rouV at kk
  rw [← refX_dfs hn1 hn6] at kk
  suffices W : Wq none 1 196 19 [(0, .ref 176), (1, .int (nI s)), (2, .int (nI T)), (3, .int c), (4, .int (nI (min 6 (nS t)))), (5, .int 1), (6, .int 2)] [] di dl (RI K) by
    refine r_196 ?_
    rw [c1]
    by_cases h : 6 ≤ nS t
    · rw [Nat.min_eq_left h] at W
      exact pk1 ⟨nI_le (a := 6) h (by omega), fun z => absurd (nI_le (a := 6) h (by omega)) (Int32.not_le.mpr z)⟩ W
    · rw [Nat.min_eq_right (by omega)] at W
      exact pk2 ⟨fun z => absurd (nI_lt (b := 6) (show nS t < 6 by omega) (by decide)) (Int32.not_lt.mpr z), nI_lt (b := 6) (by omega) (by decide)⟩ W
  generalize hN : min 6 (nS t) = n at *
  obtain ⟨f1, f2⟩ := facN_6 n (by omega)
  have hP : ∀ j, j < n → (fun k => sv t k 1) j ≤ 9 := fun j hj => (hw.2.1 j (by omega)).2.2.1
  have FRS : ∀ d, (∀ a k, ¬ a = 191 → ¬ a = 192 → d a k = di a k) → Rs t d := fun d fr => Rs_cong (fun a k z1 z2 => fr a k (by omega) (by omega)) hr
  -- the codes
  have C : ∀ x6 d, Xr n (refX (fun k => sv t k 1) s T n 0) x6 d → (∀ a k, ¬ a = 191 → ¬ a = 192 → d a k = di a k) → Wq none 1 196 45 [(0, .ref 176), (1, .int (nI s)), (2, .int (nI T)), (3, .int c), (4, .int (nI n)), (5, .int (nI (facN n))), (6, .int x6), (7, .int (nI 0))] [] d dl (RI K) := by
    refine up_to (n := facN n) (G := fun code => ∀ x6 d, Xr n (refX (fun k => sv t k 1) s T n code) x6 d → (∀ a k, ¬ a = 191 → ¬ a = 192 → d a k = di a k) → Wq none 1 196 45 [(0, .ref 176), (1, .int (nI s)), (2, .int (nI T)), (3, .int c), (4, .int (nI n)), (5, .int (nI (facN n))), (6, .int x6), (7, .int (nI code))] [] d dl (RI K)) ?_ ?_ (Nat.zero_le _)
    · intro x6 d hx fr
      replace kk := kk d (FRS d fr) (fun a k z => fr a k (by omega) (by omega))
      refine r_196_45 (pk1 ⟨Int32.le_refl _, fun z => absurd (Int32.le_refl _) (Int32.not_le.mpr z)⟩ ?_)
      revert hx kk
      cases refX (fun k => sv t k 1) s T n (facN n) with
      | none =>
        intro hx kk
        have hx' : x6 = -1 := hx
        exact pk2 ⟨fun z => z hx', hx'⟩ kk
      | some p =>
        intro hx kk
        obtain ⟨x1, x2, x3⟩ := hx
        have kk' : K (if c = -1 then nI p.1 else if c.toInt < (n : Nat) then nI (p.2.getD c.toInt.toNat 0) else -1) d dl := kk
        have ne : ¬ x6 = -1 := by rw [x1, fa_eq, nI_toInt (by omega), ti_m1]; omega
        refine pk1 ⟨ne, ne⟩ ?_
        rcases hc with rfl | ⟨i, hi, rfl⟩
        · rw [if_pos rfl] at kk'
          rw [x1]
          exact pk2 ⟨fun z => z rfl, rfl⟩ kk'
        · have ni : ¬ nI i = -1 := by rw [fa_eq, nI_toInt (by omega), ti_m1]; omega
          rw [if_neg ni, nI_toInt (by omega), Int.toNat_natCast] at kk'
          refine pk1 ⟨ni, ni⟩ ?_
          by_cases hin : i < n
          · rw [if_pos (by omega)] at kk'
            refine pk2 ⟨fun z => absurd (nI_lt hin (by omega)) (Int32.not_lt.mpr z), nI_lt hin (by omega)⟩ ⟨inB_n hi (by decide), ?_⟩
            rw [nI_clamp (by omega), x3 i hin]
            exact kk'
          · rw [if_neg (by omega)] at kk'
            exact pk1 ⟨nI_le (by omega) (by omega), fun z => absurd (nI_le (show n ≤ i by omega) (by omega)) (Int32.not_le.mpr z)⟩ kk'
    · intro code hcode icode x6 d hx fr
      have hu := un_lt n (by omega) code hcode
      refine r_196_45 (pk2 ⟨fun z => absurd (nI_lt hcode (by omega)) (Int32.not_lt.mpr z), nI_lt hcode (by omega)⟩ ?_)
      refine c_195 hn1 hn6 (by omega) ?_
      intro e hrow fe
      have fr' : ∀ a k, ¬ a = 191 → ¬ a = 192 → e a k = di a k := fun a k z1 z2 => by rw [fe a k z1]; exact fr a k z1 z2
      have hx' : Xr n (refX (fun k => sv t k 1) s T n code) x6 e := by
        revert hx
        cases refX (fun k => sv t k 1) s T n code with
        | none => exact id
        | some p => exact fun hx => ⟨hx.1, hx.2.1, fun k hk => by rw [fe _ _ (by omega)]; exact hx.2.2 k hk⟩
      have hre := FRS e fr'
      have es : refX (fun k => sv t k 1) s T n (code + 1) = updX (refX (fun k => sv t k 1) s T n code) (evk (fun k => sv t k 1) s T n code n) (rowL n code) := by
        rw [evk_n]; rfl
      have hBn := evk_b (P := fun k => sv t k 1) (s := s) (T := T) (code := code) hP hn6 hu n (Nat.le_refl _)
      -- the row is kept
      have keep : updX (refX (fun k => sv t k 1) s T n code) (evk (fun k => sv t k 1) s T n code n) (rowL n code) = refX (fun k => sv t k 1) s T n code → Wq none 1 196 45 [(0, .ref 176), (1, .int (nI s)), (2, .int (nI T)), (3, .int c), (4, .int (nI n)), (5, .int (nI (facN n))), (6, .int x6), (7, .int (nI (code + 1)))] [] e dl (RI K) := by
        intro h
        refine icode x6 e ?_ fr'
        rw [es, h]
        exact hx'
      have take : updX (refX (fun k => sv t k 1) s T n code) (evk (fun k => sv t k 1) s T n code n) (rowL n code) = some ((evk (fun k => sv t k 1) s T n code n).2.2.1, rowL n code) → Wq none 1 196 186 [(0, .ref 176), (1, .int (nI s)), (2, .int (nI T)), (3, .int c), (4, .int (nI n)), (5, .int (nI (facN n))), (6, .int (nI (evk (fun k => sv t k 1) s T n code n).2.2.1)), (7, .int (nI code)), (12, .int (nI 0))] [] e dl (RI K) := by
        intro h
        refine up_to (n := n) (G := fun k => ∀ g, (∀ i, i < k → g 192 i = nI (unf n code i)) → (∀ i, i < n → g 191 i = nI (unf n code i)) → (∀ a k, ¬ a = 191 → ¬ a = 192 → g a k = di a k) → Wq none 1 196 186 [(0, .ref 176), (1, .int (nI s)), (2, .int (nI T)), (3, .int c), (4, .int (nI n)), (5, .int (nI (facN n))), (6, .int (nI (evk (fun k => sv t k 1) s T n code n).2.2.1)), (7, .int (nI code)), (12, .int (nI k))] [] g dl (RI K)) ?_ ?_ (Nat.zero_le _) e (fun i hi => absurd hi (Nat.not_lt_zero i)) hrow fr'
        · intro g g1 g2 g3
          refine r_196_186 (pk1 ⟨Int32.le_refl _, fun z => absurd (Int32.le_refl _) (Int32.not_le.mpr z)⟩ ?_)
          rw [nI_1]
          refine icode _ g ?_ g3
          rw [es, h]
          refine ⟨rfl, ?_, fun k hk => ?_⟩
          · have := hBn.2.2
            show (evk (fun k => sv t k 1) s T n code n).2.2.1 ≤ 400
            omega
          · rw [g1 k hk, rowL_g hk]
        · intro k hk ik g g1 g2 g3
          refine r_196_186 (pk2 ⟨fun z => absurd (nI_lt hk (by omega)) (Int32.not_lt.mpr z), nI_lt hk (by omega)⟩ ⟨inB_n (by omega) (by decide), ?_⟩)
          rw [nI_clamp (by omega), g2 k hk, nI_1]
          refine ik _ ?_ ?_ ?_
          · intro i hi
            rcases Nat.lt_succ_iff_lt_or_eq.mp hi with z | z
            · rw [up_nk (by omega)]
              exact g1 i z
            · subst z
              rw [up_eq]
          · intro i hi
            rw [up_na (by omega)]
            exact g2 i hi
          · intro a i z1 z2
            rw [up_na z2]
            exact g3 a i z1 z2
      -- the row's times
      refine up_to (n := n) (G := fun k => ∀ a b v m, a = (evk (fun k => sv t k 1) s T n code k).2.1 → b = (evk (fun k => sv t k 1) s T n code k).1 → v = (evk (fun k => sv t k 1) s T n code k).2.2.1 → m = (if (evk (fun k => sv t k 1) s T n code k).2.2.2 = true then 1 else 0) → Wq none 1 196 75 [(0, .ref 176), (1, .int (nI s)), (2, .int (nI T)), (3, .int c), (4, .int (nI n)), (5, .int (nI (facN n))), (6, .int x6), (7, .int (nI code)), (8, .int (nI a)), (9, .int (nI b)), (10, .int (nI v)), (11, .int (nI m)), (12, .int (nI k))] [] e dl (RI K)) ?_ ?_ (Nat.zero_le _) 0 0 0 1 rfl rfl rfl rfl
      · intro a b v m ha hb hv hm
        subst hv
        refine r_196_75 (pk1 ⟨Int32.le_refl _, fun z => absurd (Int32.le_refl _) (Int32.not_le.mpr z)⟩ ?_)
        rw [nI_1]
        unfold updX at keep take
        by_cases hmay : (evk (fun k => sv t k 1) s T n code n).2.2.2 = true
        · rw [if_pos hmay] at hm keep take
          subst hm
          refine pk2 (by decide) ?_
          revert hx' keep take
          cases refX (fun k => sv t k 1) s T n code with
          | none =>
            intro hx' keep take
            have hx2 : x6 = -1 := hx'
            exact pk1 ⟨hx2, fun z => z hx2⟩ (take rfl)
          | some p =>
            intro hx' keep take
            obtain ⟨x1, x2, x3⟩ := hx'
            have ne : ¬ x6 = -1 := by rw [x1, fa_eq, nI_toInt (by omega), ti_m1]; omega
            refine pk2 ⟨ne, ne⟩ ?_
            have hb3 := hBn.2.2
            by_cases hlt : (evk (fun k => sv t k 1) s T n code n).2.2.1 < p.1
            · have := take (if_pos hlt)
              rw [x1]
              exact pk2 ⟨fun z => absurd (nI_lt hlt (by omega)) (Int32.not_lt.mpr z), nI_lt hlt (by omega)⟩ this
            · have := keep (if_neg hlt)
              rw [x1] at this ⊢
              exact pk1 ⟨nI_le (by omega) (by omega), fun z => absurd (nI_le (show p.1 ≤ (evk (fun k => sv t k 1) s T n code n).2.2.1 by omega) (by omega)) (Int32.not_le.mpr z)⟩ this
        · rw [if_neg hmay] at hm keep
          subst hm
          exact pk1 (by decide) (keep rfl)
      · intro k hk ik a b v m ha hb hv hm
        have hBk := evk_b (P := fun k => sv t k 1) (s := s) (T := T) (code := code) hP hn6 hu k (by omega)
        obtain ⟨q1, q2, q3⟩ := hBk
        rw [← hb] at q1
        rw [← ha] at q2
        rw [← hv] at q3
        have huk := hu k hk
        have hPk := hP _ huk
        have hPk' : sv t (unf n code k) 1 ≤ 9 := hPk
        have e1 := hrow k hk
        have e2 := hre.2.2.2.2.2.1 (unf n code k) (by omega) 1 (by omega)
        rw [evk_s] at ik
        unfold rstp at ik
        have ik' : ∀ a' v' m', a' = a + adf (sv t (unf n code k) 1) b + 1 → v' = v + (a + adf (sv t (unf n code k) 1) b + 1) → m' = (if ((evk (fun k => sv t k 1) s T n code k).2.2.2 && decide (¬ unf n code k = s ∨ a + adf (sv t (unf n code k) 1) b + 1 ≤ T)) = true then 1 else 0) → Wq none 1 196 75 [(0, .ref 176), (1, .int (nI s)), (2, .int (nI T)), (3, .int c), (4, .int (nI n)), (5, .int (nI (facN n))), (6, .int x6), (7, .int (nI code)), (8, .int (nI a')), (9, .int (nI (sv t (unf n code k) 1))), (10, .int (nI v')), (11, .int (nI m')), (12, .int (nI (k + 1)))] [] e dl (RI K) := by
          intro a' v' m' h1 h2 h3
          refine ik a' _ v' m' ?_ rfl ?_ ?_
          · show a' = (evk (fun k => sv t k 1) s T n code k).2.1 + adf (sv t (unf n code k) 1) (evk (fun k => sv t k 1) s T n code k).1 + 1
            rw [← ha, ← hb]; exact h1
          · show v' = (evk (fun k => sv t k 1) s T n code k).2.2.1 + ((evk (fun k => sv t k 1) s T n code k).2.1 + adf (sv t (unf n code k) 1) (evk (fun k => sv t k 1) s T n code k).1 + 1)
            rw [← ha, ← hb, ← hv]; exact h2
          · show m' = (if ((evk (fun k => sv t k 1) s T n code k).2.2.2 && decide (¬ unf n code k = s ∨ (evk (fun k => sv t k 1) s T n code k).2.1 + adf (sv t (unf n code k) 1) (evk (fun k => sv t k 1) s T n code k).1 + 1 ≤ T)) = true then 1 else 0)
            rw [← ha, ← hb]; exact h3
        clear ik
        refine r_196_75 (pk2 ⟨fun z => absurd (nI_lt hk (by omega)) (Int32.not_lt.mpr z), nI_lt hk (by omega)⟩ ?_)
        rw [nI_clamp (show k < 2 ^ 31 by omega), e1, nI_m4, nI_1, nI_clamp (show 4 * unf n code k + 1 < 2 ^ 31 by omega), e2, nI_1]
        refine ⟨inB_n (by omega) (by decide), inB_n (by omega) (by decide), ?_⟩
        -- the four ends
        have may0 : m = 0 → (evk (fun k => sv t k 1) s T n code k).2.2.2 = false := by
          intro z
          by_cases q : (evk (fun k => sv t k 1) s T n code k).2.2.2 = true
          · rw [if_pos q] at hm; omega
          · exact Bool.eq_false_iff.mpr q
        have may1 : ¬ m = 0 → (evk (fun k => sv t k 1) s T n code k).2.2.2 = true ∧ m = 1 := by
          intro z
          by_cases q : (evk (fun k => sv t k 1) s T n code k).2.2.2 = true
          · rw [if_pos q] at hm; exact ⟨q, hm⟩
          · rw [if_neg q] at hm; omega
        have tail : ∀ a' v', a' = a + adf (sv t (unf n code k) 1) b + 1 → v' = v + (a + adf (sv t (unf n code k) 1) b + 1) → (nI m = 0 → Wq none 1 196 75 [(0, .ref 176), (1, .int (nI s)), (2, .int (nI T)), (3, .int c), (4, .int (nI n)), (5, .int (nI (facN n))), (6, .int x6), (7, .int (nI code)), (8, .int (nI a')), (9, .int (nI (sv t (unf n code k) 1))), (10, .int (nI v')), (11, .int 0), (12, .int (nI (k + 1)))] [] e dl (RI K)) ∧ (¬ nI m = 0 → (¬ nI (unf n code k) = nI s → Wq none 1 196 75 [(0, .ref 176), (1, .int (nI s)), (2, .int (nI T)), (3, .int c), (4, .int (nI n)), (5, .int (nI (facN n))), (6, .int x6), (7, .int (nI code)), (8, .int (nI a')), (9, .int (nI (sv t (unf n code k) 1))), (10, .int (nI v')), (11, .int 1), (12, .int (nI (k + 1)))] [] e dl (RI K)) ∧ (nI (unf n code k) = nI s → (nI T < nI a' → Wq none 1 196 75 [(0, .ref 176), (1, .int (nI s)), (2, .int (nI T)), (3, .int c), (4, .int (nI n)), (5, .int (nI (facN n))), (6, .int x6), (7, .int (nI code)), (8, .int (nI a')), (9, .int (nI (sv t (unf n code k) 1))), (10, .int (nI v')), (11, .int 0), (12, .int (nI (k + 1)))] [] e dl (RI K)) ∧ (nI a' ≤ nI T → Wq none 1 196 75 [(0, .ref 176), (1, .int (nI s)), (2, .int (nI T)), (3, .int c), (4, .int (nI n)), (5, .int (nI (facN n))), (6, .int x6), (7, .int (nI code)), (8, .int (nI a')), (9, .int (nI (sv t (unf n code k) 1))), (10, .int (nI v')), (11, .int 1), (12, .int (nI (k + 1)))] [] e dl (RI K)))) := by
          intro a' v' h1 h2
          have hadf := adf_le hPk' q1
          by_cases hm0 : m = 0
          · refine pk1 ⟨by rw [hm0]; rfl, fun z => z (by rw [hm0]; rfl)⟩ (ik' a' v' 0 h1 h2 ?_)
            rw [may0 hm0, Bool.false_and]; rfl
          · obtain ⟨my, m1⟩ := may1 hm0
            refine pk2 ⟨by rw [m1]; decide, by rw [m1]; decide⟩ ?_
            by_cases hks : unf n code k = s
            · refine pk2 ⟨fun z => z (by rw [hks]), by rw [hks]⟩ ?_
              by_cases hle : a + adf (sv t (unf n code k) 1) b + 1 ≤ T
              · refine pk2 ⟨fun z => absurd (nI_le (show a' ≤ T by omega) (by omega)) (Int32.not_le.mpr z), nI_le (by omega) (by omega)⟩ (ik' a' v' 1 h1 h2 ?_)
                rw [my, decide_eq_true (Or.inr hle)]; rfl
              · refine pk1 ⟨nI_lt (by omega) (by omega), fun z => absurd (nI_lt (show T < a' by omega) (by omega)) (Int32.not_lt.mpr z)⟩ (ik' a' v' 0 h1 h2 ?_)
                rw [my, decide_eq_false (by omega)]; rfl
            · have ne : ¬ nI (unf n code k) = nI s := fun z => hks ((nI_eq (by omega) (by omega)).mp z)
              refine pk1 ⟨ne, ne⟩ (ik' a' v' 1 h1 h2 ?_)
              rw [my, decide_eq_true (Or.inl hks)]; rfl
        by_cases hab : b ≤ sv t (unf n code k) 1
        · rw [pk_sub hab]
          refine pk1 ⟨nI_pos' (by omega), fun z => absurd (nI_pos' (n := sv t (unf n code k) 1 - b) (by omega)) (Int32.not_le.mpr z)⟩ ?_
          simp only [nI_1, nI_add]
          exact tail _ _ (by unfold adf; rw [if_neg (by omega)]; omega) (by unfold adf; rw [if_neg (by omega)]; omega)
        · have neg : nI (sv t (unf n code k) 1) - nI b < 0 := by
            rw [fa_lt, pk_sub_toInt (by omega) (by omega), ti_0]; omega
          refine pk2 ⟨fun z => absurd neg (Int32.not_lt.mpr z), neg⟩ ?_
          rw [ng _ (by omega) _ (by omega) (by omega)]
          simp only [nI_1, nI_add]
          exact tail _ _ (by unfold adf; rw [if_pos (by omega)]; omega) (by unfold adf; rw [if_pos (by omega)]; omega)
  -- the product
  have G := up_to (n := n) (i := 1) (G := fun k => Wq none 1 196 19 [(0, .ref 176), (1, .int (nI s)), (2, .int (nI T)), (3, .int c), (4, .int (nI n)), (5, .int (nI (facN k))), (6, .int (nI (k + 1)))] [] di dl (RI K)) ?_ ?_ hn1
  · exact G
  · refine r_196_19 (pk1 ⟨nI_lt (by omega) (by omega), fun z => absurd (nI_lt (show n < n + 1 by omega) (by omega)) (Int32.not_lt.mpr z)⟩ ?_)
    exact C (-1) di rfl (fun _ _ _ _ => rfl)
  · intro k hk ik
    refine r_196_19 (pk2 ⟨fun z => absurd (nI_le (show k + 1 ≤ n by omega) (by omega)) (Int32.not_le.mpr z), nI_le (by omega) (by omega)⟩ ?_)
    rw [pk_mul, nI_1]
    exact ik
theorem k_197 {t : tTown} {di : tDi} {dl : tDl} {K : Int32 → tDi → tDl → Prop} (hx : Itx di) (hs : Ise di) (hw : Wt t) (hc : Cs t di) (a b c : Int32) (kk : ∀ d, Rs t d → FM di d → K (a_ro t a b c) d dl) : ClI 7 197 [.ref 176, .int a, .int b, .int c] di dl K := by
  have w1 := hw.1.1
  refine r_197 (c_163 hx hs hw hc ?_)
  intro d hr fm
  have c1 := hr.1
  unfold a_ro at kk
  by_cases h : (0 ≤ a.toInt ∧ a.toInt < nS t ∧ a.toInt < 6) ∧ (0 ≤ b.toInt ∧ b.toInt ≤ 99) ∧ (-1 ≤ c.toInt ∧ c.toInt < 6)
  · rcases ixp a with z | ⟨s, hs, rfl⟩
    · omega
    rcases ixp b with z | ⟨T, hT, rfl⟩
    · omega
    rw [nI_toInt hs, nI_toInt hT] at h
    simp only [nI_toInt hs, nI_toInt hT, if_pos h, Int.toNat_natCast] at kk
    have hcc : c = -1 ∨ ∃ i, i < 6 ∧ c = nI i := by
      rcases ixm c 6 (by omega) with z | z | z | z
      · omega
      · exact Or.inl z
      · exact Or.inr z
      · omega
    simp (disch := omega) only [true_imp_iff, false_imp_iff, not_true_eq_false, not_false_eq_true, and_true, true_and, Int32.reduceToInt, Int64.reduceToInt, Int32.reduceAdd, fa_lt, fa_le, fa_eq, cmi_lt, cmi_le, cmi_gt, cmi_ge, cmi_eq, fa_lt64, fa_le64, fa_eq64, Int32.toInt_toInt64, nI_toInt, ti_m1, sub1_ti, inB_iff, nI_clamp, Int32.add_zero, nI_1, nI_add, nI_p2, nI_p3, nI_p4, nI_p5, nI_p6, nI_p8, nI_p9, nI_p10, nI_m3, nI_m4, nI_m5, nI_m6, nI_m8, nI_m10, nI_m31, nI_m48, nI_m60, nI_m256, nI_t5, nI_t6, nI_a1, nI_a48, nI_a96, nI_d5, nI_d6, nI_d8, nI_d10, nI_d20, nI_s1, nI_s48, pk_sub, c1, show (-1 : Int64).toInt = -1 from rfl]
    repeat (first | (with_reducible refine pk1 ?_ ?_; omega) | (with_reducible refine pk2 ?_ ?_; omega) | (with_reducible refine bd1 ?_ ?_; omega))
    refine c_196 hw hr (by omega) (by omega) (by omega) hcc ?_
    intro e hr2 fi
    exact kk e hr2 (FM_of fm fi)
  · have kb := kk d hr (FM_of fm FI_rf)
    rw [if_neg h] at kb
    simp (disch := omega) only [true_imp_iff, false_imp_iff, not_true_eq_false, not_false_eq_true, and_true, true_and, Int32.reduceToInt, Int64.reduceToInt, Int32.reduceAdd, fa_lt, fa_le, fa_eq, cmi_lt, cmi_le, cmi_gt, cmi_ge, cmi_eq, fa_lt64, fa_le64, fa_eq64, Int32.toInt_toInt64, nI_toInt, ti_m1, sub1_ti, inB_iff, nI_clamp, Int32.add_zero, nI_1, nI_add, nI_p2, nI_p3, nI_p4, nI_p5, nI_p6, nI_p8, nI_p9, nI_p10, nI_m3, nI_m4, nI_m5, nI_m6, nI_m8, nI_m10, nI_m31, nI_m48, nI_m60, nI_m256, nI_t5, nI_t6, nI_a1, nI_a48, nI_a96, nI_d5, nI_d6, nI_d8, nI_d10, nI_d20, nI_s1, nI_s48, pk_sub, c1, show (-1 : Int64).toInt = -1 from rfl]
    exact ⟨fun _ => kb, fun z1 => ⟨fun _ => kb, fun z2 => ⟨fun _ => kb, fun z3 => ⟨fun _ => kb, fun z4 => ⟨fun _ => kb, fun z5 => ⟨fun _ => kb, fun z6 => ⟨fun _ => kb, fun z7 => absurd ⟨⟨by omega, by omega, by omega⟩, ⟨by omega, by omega⟩, by omega, by omega⟩ h⟩⟩⟩⟩⟩⟩⟩
