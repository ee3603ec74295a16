/-! sheet -/
def zf (di : tDi) (a lo k : Nat) : tDi := fun x y => if x = a ∧ lo ≤ y ∧ y < lo + k then 0 else di x y
theorem zf_0 {di : tDi} {a lo : Nat} : zf di a lo 0 = di := by
  funext x y
  exact if_neg (fun z => by omega)
theorem zf_s {di : tDi} {a lo k : Nat} : up2 (zf di a lo k) a (lo + k) 0 = zf di a lo (k + 1) := by
  funext x y
  unfold up2 zf
  by_cases h : x = a ∧ y = lo + k
  · rw [if_pos h, if_pos ⟨h.1, by omega⟩]
  · rw [if_neg h]
    by_cases h2 : x = a ∧ lo ≤ y ∧ y < lo + k
    · rw [if_pos h2, if_pos ⟨h2.1, by omega⟩]
    · rw [if_neg h2, if_neg (fun z => h2 ⟨z.1, z.2.1, by
        have : ¬ y = lo + k := fun e => h ⟨z.1, e⟩
        omega⟩)]
theorem zf_na {di : tDi} {a lo k x y : Nat} (h : ¬ x = a) : zf di a lo k x y = di x y := if_neg (fun z => h z.1)
theorem mm60 : ∀ n, n < 61 → imax 0 (imin (nI n) 60) = nI n := by decide +kernel
theorem c_38 {di : tDi} {dl : tDl} {s n : Nat} (hs4 : s < 4) (hn : n ≤ 60) (f : Int32) {K : tDi → tDl → Prop} (kk : K (zf (up2 (up2 di (168 + 2 * s) 1 f) (168 + 2 * s) 2 (nI n)) (169 + 2 * s) 0 60) dl) : ClV 0 38 [.ref (168 + 2 * s), .int f, .int (nI n)] di dl K := by
  have hc : (nI s).toNatClampNeg = s := nI_clamp (by omega)
  have hb : inB (nI s) 4 = true := inB_n hs4 (by decide)
  have h := r_38 (j := nI s) hb (a1 := f) (a2 := nI n) (di := di) (dl := dl) (K := K)
  rw [hc, mm60 n (by omega)] at h
  refine h ?_
  generalize up2 (up2 di (168 + 2 * s) 1 f) (168 + 2 * s) 2 (nI n) = dj at kk
  have L : ∀ m k, k + m = 60 → Wq none 0 38 21 [(0, .ref (168 + 2 * s)), (3, .int (nI k))] [] (zf dj (169 + 2 * s) 0 k) dl (RV K) := by
    intro m
    induction m with
    | zero =>
      intro k hk
      have h := r_38_21 (j := nI s) hb (x3 := nI k) (di := zf dj (169 + 2 * s) 0 k) (dl := dl) (K := K)
      rw [hc] at h
      have e : k = 60 := by omega
      subst e
      exact h (w_l' (Int32.le_refl _) kk)
    | succ m ih =>
      intro k hk
      have h := r_38_21 (j := nI s) hb (x3 := nI k) (di := zf dj (169 + 2 * s) 0 k) (dl := dl) (K := K)
      rw [hc] at h
      refine h (w_r' (nI_lt (b := 60) (by omega) (by decide)) ⟨inB_n (by omega) (by decide), ?_⟩)
      have e := zf_s (di := dj) (a := 169 + 2 * s) (lo := 0) (k := k)
      rw [Nat.zero_add] at e
      rw [nI_clamp (by omega), e, nI_1]
      exact ih (k + 1) (by omega)
  have := L 60 0 (by omega)
  rw [zf_0] at this
  exact this
theorem l_144 {di : tDi} {dl : tDl} {s n : Nat} (hs4 : s < 4) (hn : n ≤ 60) {K : Int32 → tDi → tDl → Prop} (kk : K (nI n) (zf di 179 (60 * s) n) dl) : Wq none 2 144 55 [(0, .ref 176), (1, .int (nI s)), (3, .int (nI n)), (4, .int 0)] [] di dl (RI K) := by
  have L : ∀ m k, k + m = n → Wq none 2 144 55 [(0, .ref 176), (1, .int (nI s)), (3, .int (nI n)), (4, .int (nI k))] [] (zf di 179 (60 * s) k) dl (RI K) := by
    intro m
    induction m with
    | zero =>
      intro k hk
      have e : k = n := by omega
      subst e
      exact r_144_55 (w_l' (Int32.le_refl _) kk)
    | succ m ih =>
      intro k hk
      refine r_144_55 (w_r' (nI_lt (by omega) (by omega)) ?_)
      rw [show (60 : Int32) = nI 60 from rfl, pk_mul, nI_add, nI_clamp (by omega), zf_s, nI_1]
      exact ⟨inB_n (by omega) (by decide), ih (k + 1) (by omega)⟩
  have := L n 0 (by omega)
  rw [zf_0] at this
  exact this
theorem p_sheet {di : tDi} {dl : tDl} (hs : Ish di) (hl : Ila di) (a b i : Int32) : ClI 1 115 [.ref 0, .int a, .int b, .int i] di dl (fun r di1 dl1 => ClI 2 144 [.ref 176, .int a, .int b, .int i] di1 dl1 (fun r' di2 dl2 => Ps di dl r r' di2 dl2)) := by
  rcases ix3 a 4 (by decide) with h | ⟨h, h0⟩ | ⟨s, hs4, rfl, h0, h4⟩
  · refine r_115 (w_l h (r_144 ?_))
    simp only [wl_0, wx_0]
    exact w_l h (Ps_same hs hl)
  · refine r_115 (w_r h0 (w_l' h (r_144 ?_)))
    simp only [wl_0, wx_0, wg_3, wm_3]
    exact w_r h0 (w_l (le4_3 h) (Ps_same hs hl))
  have hc : (nI s).toNatClampNeg = s := nI_clamp (by omega)
  have hb : inB (nI s) 4 = true := inB_n hs4 (by decide)
  rcases ix3 b 3 (by decide) with g | ⟨g, g0⟩ | ⟨f, hf3, rfl, g0, g4⟩
  · refine r_115 (w_r h0 (w_r' h4 ⟨hb, w_l g (r_144 ?_)⟩))
    simp only [wl_0, wx_0, wg_3, wm_3]
    exact w_r h0 (w_r (lt4_3 h4) (w_l g (Ps_same hs hl)))
  · refine r_115 (w_r h0 (w_r' h4 ⟨hb, w_r g0 (w_l' g (r_144 ?_))⟩))
    simp only [wl_0, wx_0, wg_3, wm_3, wg_2, wm_2]
    exact w_r h0 (w_r (lt4_3 h4) (w_r g0 (w_l (le3_2 g) (Ps_same hs hl))))
  have hx : ∀ di1 dl1 {K : Int32 → tDi → tDl → Prop}, ((i ≤ 60 → ((0 ≤ i → (inB (nI s) 4 = true ∧ (Wq none 2 144 55 [(0, .ref 176), (1, .int (nI s)), (3, .int i), (4, .int 0)] [] (up2 (up2 di1 177 s (nI f)) 178 s i) dl1 (RI K)))) ∧ (i < 0 → (K (((-10) : Int32) - 5) (up2 di1 176 4 5) dl1)))) ∧ (60 < i → (K (-2) di1 dl1))) → ClI 2 144 [.ref 176, .int (nI s), .int (nI f), .int i] di1 dl1 K := by
    intro di1 dl1 K k
    refine r_144 ?_
    simp only [wl_0, wx_0, wg_3, wm_3, wg_2, wm_2]
    rw [hc]
    exact w_r h0 (w_r (lt4_3 h4) (w_r g0 (w_r (lt3_2 g4) k)))
  refine r_115 (w_r h0 (w_r' h4 ⟨hb, w_r g0 (w_r' g4 ?_)⟩))
  rw [hc]
  rcases ix3 i 61 (by decide) with k | ⟨k, k0⟩ | ⟨n, hn, rfl, k0, k4⟩
  · have k60 : i ≤ 60 := by
      rw [fa_lt, ti_0] at k
      rw [fa_le, ti_60]; omega
    obtain ⟨f1, f2, f3⟩ := find2 (v := 5) hs
    exact w_l' k60 (w_r' k (hx _ _ (w_l' k60 (w_r' k ⟨rfl, f1, f2, f3, rfl⟩))))
  · have k60 : 60 < i := by
      rw [fa_le, nI_toInt (by decide)] at k
      rw [fa_lt, ti_60]; omega
    exact w_r' k60 (hx _ _ (w_r' k60 (Ps_same hs hl)))
  · have k60 : nI n ≤ 60 := nI_le (b := 60) (by omega) (by decide)
    refine w_l' k60 (w_l' k0 (c_38 hs4 (by omega) _ (hx _ _ (w_l' k60 (w_l' k0 ⟨hb, l_144 hs4 (by omega) ?_⟩)))))
    refine ⟨rfl, ?_, ?_, ?_, rfl⟩
    · intro t ht
      by_cases e : t = s
      · subst e
        refine ⟨?_, Or.inr ⟨⟨f, hf3, ?_⟩, n, by omega, ?_, ?_, fun j hj => ?_⟩⟩
        · rw [zf_na (by omega), up_na (by omega), up_na (by omega), zf_na (by omega), up_nk (by decide), up_eq, zf_na (by omega), up_na (by omega), up_eq]
        · rw [zf_na (by omega), up_na (by omega), up_eq]
        · rw [zf_na (by omega), up_na (by omega), up_na (by omega), zf_na (by omega), up_eq]
        · rw [zf_na (by omega), up_eq]
        · rw [zf_na (by omega), up_na (by omega), up_na (by omega)]
          unfold zf
          rw [if_pos ⟨rfl, by omega⟩, if_pos ⟨rfl, by omega⟩]
      · obtain ⟨g1, g2⟩ := hs t ht
        refine ⟨?_, ?_⟩
        · rw [zf_na (by omega), up_na (by omega), up_na (by omega), zf_na (by omega), up_na (by omega), up_na (by omega), zf_na (by omega), up_na (by omega), up_nk e, zf_na (by omega), up_na (by omega), up_na (by omega)]
          exact g1
        · rw [zf_na (by omega), up_na (by omega), up_nk e, zf_na (by omega), up_na (by omega), up_na (by omega), zf_na (by omega), up_na (by omega), up_na (by omega), zf_na (by omega), up_na (by omega), up_na (by omega), zf_na (by omega), up_nk e, up_na (by omega), zf_na (by omega), up_na (by omega), up_na (by omega)]
          refine g2.imp id ?_
          rintro ⟨h3, n', h4', h5, h6, h7⟩
          refine ⟨h3, n', h4', h5, h6, fun j hj => ?_⟩
          rw [zf_na (by omega), up_na (by omega), up_na (by omega), zf_na (by omega), up_na (by omega), up_na (by omega), h7 j hj]
          unfold zf
          rw [if_neg (by omega), up_na (by omega), up_na (by omega), if_neg (by omega), up_na (by omega), up_na (by omega)]
    · exact Ila_cong (by rw [zf_na (by omega), up_na (by omega), up_na (by omega), zf_na (by omega), up_na (by omega), up_na (by omega)]) (by rw [zf_na (by omega), up_na (by omega), up_na (by omega), zf_na (by omega), up_na (by omega), up_na (by omega)]) hl
    · intro x y q1 q2 q3 q4
      rw [zf_na (by omega), up_na (by omega), up_na (by omega), zf_na (by omega), up_na (by omega), up_na (by omega)]
