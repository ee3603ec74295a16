/-! seen -/
def Fn (di di' : tDi) : Prop := ∀ a k, ¬ (160 ≤ a ∧ a < 163) → ¬ a = 193 → ¬ (a = 159 ∧ k = 8) → ¬ (a = 176 ∧ k = 18) → di' a k = di a k
/-- the class's note, the reference's note -/
def nt1 (di : tDi) (n : Nat) (a b c : Int32) : tDi := up2 (up2 (up2 (up2 di 160 n a) 161 n b) 162 n c) 159 8 (nI (n + 1))
def nt2 (di : tDi) (n : Nat) (a b c : Int32) : tDi := up2 (up2 (up2 (up2 di 193 (3 * n) a) 193 (3 * n + 1) b) 193 (3 * n + 2) c) 176 18 (nI (n + 1))
theorem c_25 {di : tDi} {dl : tDl} {n : Nat} (hn : n < 8) (h : di 159 8 = nI n) (a b c : Int32) {K : tDi → tDl → Prop} (kk : K (nt1 di n a b c) dl) : ClV 0 25 [.ref 159, .int a, .int b, .int c] di dl K := by
  refine r_25 ?_
  rw [h, nI_clamp (by omega), nI_1]
  exact w_r (nI_pos' (by omega)) (w_l (nI_lt (b := 8) hn (by decide)) ⟨inB_n hn (by decide), kk⟩)
def inC (c : Int32) : Prop := c = -1 ∨ ∃ j, j < 8 ∧ c = nI j
theorem note2 {di : tDi} (H : Ini di) {n q s : Nat} (hn : n < 8) (h : di 159 8 = nI n) (hq : q ≤ 24) (hs : s < 8) {c : Int32} (hc : inC c) : Ini (nt2 (nt1 di n (nI q) (nI s) c) n (nI q) (nI s) c) ∧ Fn di (nt2 (nt1 di n (nI q) (nI s) c) n (nI q) (nI s) c) := by
  obtain ⟨n', h4, h5, h6, h7⟩ := H
  have e : n' = n := (nI_eq (by omega) (by omega)).mp (h5.symm.trans h)
  subst e
  refine ⟨⟨n' + 1, by omega, ?_, ?_, fun k hk => ?_⟩, ?_⟩
  · unfold nt2 nt1
    rw [up_na (by decide), up_na (by decide), up_na (by decide), up_na (by decide), up_eq]
  · unfold nt2
    rw [up_eq]
  · by_cases e : k = n'
    · subst e
      refine ⟨q, s, c, hq, hs, hc, ?_, ?_, ?_, ?_, ?_, ?_⟩
      · unfold nt2 nt1
        rw [up_na (by decide), up_na (by decide), up_na (by decide), up_na (by decide), up_na (by decide), up_na (by decide), up_na (by decide), up_eq]
      · unfold nt2
        rw [up_na (by decide), up_nk (by omega), up_nk (by omega), up_eq]
      · unfold nt2 nt1
        rw [up_na (by decide), up_na (by decide), up_na (by decide), up_na (by decide), up_na (by decide), up_na (by decide), up_eq]
      · unfold nt2
        rw [up_na (by decide), up_nk (by omega), up_eq]
      · unfold nt2 nt1
        rw [up_na (by decide), up_na (by decide), up_na (by decide), up_na (by decide), up_na (by decide), up_eq]
      · unfold nt2
        rw [up_na (by decide), up_eq]
    · have q160 : ∀ x, 160 ≤ x → x < 163 → nt2 (nt1 di n' (nI q) (nI s) c) n' (nI q) (nI s) c x k = di x k := by
        intro x x1 x2
        unfold nt2 nt1
        rw [up_na (by omega), up_na (by omega), up_na (by omega), up_na (by omega), up_na (by omega), up_nk e, up_nk e, up_nk e]
      have q193 : ∀ y, y < 3 * n' → nt2 (nt1 di n' (nI q) (nI s) c) n' (nI q) (nI s) c 193 y = di 193 y := by
        intro y y1
        unfold nt2 nt1
        rw [up_na (by omega), up_nk (by omega), up_nk (by omega), up_nk (by omega), up_na (by omega), up_na (by omega), up_na (by omega), up_na (by omega)]
      rw [q160 160 (by omega) (by omega), q160 161 (by omega) (by omega), q160 162 (by omega) (by omega), q193 _ (by omega), q193 _ (by omega), q193 _ (by omega)]
      exact h7 k (by omega)
  · intro x y q1 q2 q3 q4
    unfold nt2 nt1 up2
    rw [if_neg (by omega), if_neg (by omega), if_neg (by omega), if_neg (by omega), if_neg (by omega), if_neg (by omega), if_neg (by omega), if_neg (by omega)]
def Pn (di : tDi) (dl : tDl) (r r' : Int32) (di2 : tDi) (dl2 : tDl) : Prop := r = r' ∧ Ini di2 ∧ Fn di di2 ∧ dl2 = dl
theorem Pn_same {di : tDi} {dl : tDl} {r : Int32} (hs : Ini di) : Pn di dl r r di dl := ⟨rfl, hs, fun _ _ _ _ _ _ => rfl, rfl⟩
theorem wl_m1 {x : Int32} : lg_cmp x.toInt64 (-1) < 0 ↔ x < -1 := wide_lt (k := -1) rfl
theorem wx_m1 {x : Int32} : 0 ≤ lg_cmp x.toInt64 (-1) ↔ -1 ≤ x := wide_ge (k := -1) rfl
theorem p_seen {di : tDi} {dl : tDl} (hs : Ini di) (a b c : Int32) : ClI 1 108 [.ref 0, .int a, .int b, .int c] di dl (fun r di1 dl1 => ClI 1 200 [.ref 176, .int a, .int b, .int c] di1 dl1 (fun r' di2 dl2 => Pn di dl r r' di2 dl2)) := by
  have hs0 := hs
  obtain ⟨n, h4, h5, h6, h7⟩ := hs
  rcases ix3 a 25 (by decide) with h | ⟨h, h0⟩ | ⟨q, hq, rfl, h0, h25⟩
  · refine r_108 (w_l h (r_200 ?_))
    simp only [wl_0, wx_0]
    exact w_l h (Pn_same hs0)
  · have h1 : 24 < a := by
      rw [fa_le, nI_toInt (by decide)] at h
      rw [fa_lt, ti_24]; omega
    refine r_108 (w_r h0 (w_l h1 (r_200 ?_)))
    simp only [wl_0, wx_0, wg_24, wm_24]
    exact w_r h0 (w_l h1 (Pn_same hs0))
  have h1 : nI q ≤ 24 := nI_le (b := 24) (by omega) (by decide)
  rcases ix3 b 8 (by decide) with g | ⟨g, g0⟩ | ⟨s, hs8, rfl, g0, g8⟩
  · refine r_108 (w_r h0 (w_r h1 (w_l g (r_200 ?_))))
    simp only [wl_0, wx_0, wg_24, wm_24]
    exact w_r h0 (w_r h1 (w_l g (Pn_same hs0)))
  · have g1 : 7 < b := by
      rw [fa_le, nI_toInt (by decide)] at g
      rw [fa_lt, show (7 : Int32).toInt = 7 from rfl]; omega
    refine r_108 (w_r h0 (w_r h1 (w_r g0 (w_l' g (r_200 ?_)))))
    simp only [wl_0, wx_0, wg_24, wm_24, wg_7, wm_7]
    exact w_r h0 (w_r h1 (w_r g0 (w_l g1 (Pn_same hs0))))
  have g7 : nI s ≤ 7 := nI_le (b := 7) (by omega) (by decide)
  rcases Int32.lt_or_le c (-1) with k | k
  · refine r_108 (w_r h0 (w_r h1 (w_r g0 (w_r' g8 (w_l k (r_200 ?_))))))
    simp only [wl_0, wx_0, wg_24, wm_24, wg_7, wm_7, wl_m1, wx_m1]
    exact w_r h0 (w_r h1 (w_r g0 (w_r g7 (w_l k (Pn_same hs0)))))
  rcases Int32.lt_or_le c 8 with k8 | k8
  · have k7 : c ≤ 7 := by
      rw [fa_lt, ti_8] at k8
      rw [fa_le, show (7 : Int32).toInt = 7 from rfl]; omega
    have hc : inC c := by
      rcases ix3 c 8 (by decide) with z | ⟨z, _⟩ | ⟨j, hj, z, _, _⟩
      · left
        rw [fa_lt, ti_0] at z
        rw [fa_le, ti_m1] at k
        rw [fa_eq, ti_m1]; omega
      · exact absurd k8 (Int32.not_lt.mpr z)
      · exact Or.inr ⟨j, hj, z⟩
    refine r_108 (w_r h0 (w_r h1 (w_r g0 (w_r' g8 (w_r k (w_r' k8 ?_))))))
    rw [h5]
    by_cases hn : n < 8
    · refine w_l (nI_lt (b := 8) hn (by decide)) (c_25 hn h5 _ _ _ (r_200 ?_))
      have e18 : nt1 di n (nI q) (nI s) c 176 18 = nI n := by
        unfold nt1
        rw [up_na (by decide), up_na (by decide), up_na (by decide), up_na (by decide)]; exact h6
      simp only [wl_0, wx_0, wg_24, wm_24, wg_7, wm_7, wl_m1, wx_m1]
      refine w_r h0 (w_r h1 (w_r g0 (w_r g7 (w_r k (w_r k7 ?_)))))
      rw [e18, show (3 : Int32) = nI 3 from rfl, pk_mul, show (1 : Int32) = nI 1 from rfl, show (2 : Int32) = nI 2 from rfl, nI_add, nI_add, nI_add, nI_clamp (by omega), nI_clamp (by omega), nI_clamp (by omega)]
      refine w_e' (fun z => by
        have := (nI_eq (b := 8) (by omega) (by decide)).mp z
        omega) ⟨inB_n (by omega) (by decide), inB_n (by omega) (by decide), inB_n (by omega) (by decide), ?_⟩
      obtain ⟨f1, f2⟩ := note2 hs0 hn h5 (show q ≤ 24 by omega) hs8 hc
      refine ⟨?_, f1, f2, rfl⟩
      unfold nt1
      rw [up_eq]
    · have e8 : n = 8 := by omega
      subst e8
      refine w_r (Int32.le_refl _) (r_200 ?_)
      simp only [wl_0, wx_0, wg_24, wm_24, wg_7, wm_7, wl_m1, wx_m1]
      refine w_r h0 (w_r h1 (w_r g0 (w_r g7 (w_r k (w_r k7 ?_)))))
      exact w_n' h6 (Pn_same hs0)
  · have k7 : 7 < c := by
      rw [fa_le, ti_8] at k8
      rw [fa_lt, show (7 : Int32).toInt = 7 from rfl]; omega
    refine r_108 (w_r h0 (w_r h1 (w_r g0 (w_r' g8 (w_r k (w_l' k8 (r_200 ?_)))))))
    simp only [wl_0, wx_0, wg_24, wm_24, wg_7, wm_7, wl_m1, wx_m1]
    exact w_r h0 (w_r h1 (w_r g0 (w_r g7 (w_r k (w_l k7 (Pn_same hs0))))))
