/-! get -/
theorem le4_3 {x : Int32} (h : 4 ≤ x) : 3 < x := by
  rw [fa_le, ti_4] at h
  rw [fa_lt, ti_3]; omega
theorem le3_2 {x : Int32} (h : 3 ≤ x) : 2 < x := by
  rw [fa_le, ti_3] at h
  rw [fa_lt, ti_2]; omega
theorem lt4_3 {x : Int32} (h : x < 4) : x ≤ 3 := by
  rw [fa_lt, ti_4] at h
  rw [fa_le, ti_3]; omega
theorem lt3_2 {x : Int32} (h : x < 3) : x ≤ 2 := by
  rw [fa_lt, ti_3] at h
  rw [fa_le, ti_2]; omega
/-- the reference's lacks, for a sheet tied to the class's: what it finds -/
theorem c_146 {di : tDi} {dl : tDl} {s : Nat} (hs4 : s < 4) (b i : Int32) (hf : di 177 s = -1 ∨ ((∃ f, f < 3 ∧ di 177 s = nI f) ∧ ∃ n, n ≤ 60 ∧ di 178 s = nI n)) {K : Int32 → tDi → tDl → Prop}
    (k1 : di 177 s = -1 → K (-11) (up2 di 176 4 1) dl) (k3 : ¬ di 177 s = -1 → ¬ di 177 s = b → K (-13) (up2 di 176 4 3) dl)
    (k2 : ¬ di 177 s = -1 → di 177 s = b → (i < 0 ∨ di 178 s ≤ i) → K (-12) (up2 di 176 4 2) dl)
    (k0 : ∀ n j, ¬ di 177 s = -1 → di 177 s = b → n ≤ 60 → di 178 s = nI n → i = nI j → j < n → K 0 di dl) : ClI 1 146 [.ref 176, .int (nI s), .int b, .int i] di dl K := by
  have hc : (nI s).toNatClampNeg = s := nI_clamp (by omega)
  refine r_146 ⟨inB_n hs4 (by decide), ?_⟩
  rw [hc]
  rcases hf with hf | ⟨⟨f, hf3, hf⟩, n, hn, h5⟩
  · rw [hf] at k1
    rw [hf]
    exact w_r' (by decide) (k1 rfl)
  · have hne : ¬ di 177 s = -1 := by
      rw [hf, fa_eq, nI_toInt (by omega), ti_m1]; omega
    refine w_l' (by rw [hf]; exact nI_pos' (by omega)) ?_
    by_cases he : di 177 s = b
    · refine w_e he ?_
      simp only [wl_0, wx_0]
      rcases ix3 i n (by omega) with h | ⟨h, h0⟩ | ⟨j, hj, rfl, h0, h4⟩
      · exact w_l h (k2 hne he (Or.inl h))
      · refine w_r h0 ?_
        have hw := wide_gt (x := i) (k := di 178 s - 1) rfl
        refine w_l (hw.mpr ?_) (k2 hne he (Or.inr (by rw [h5]; exact h)))
        rw [h5, fa_lt, show (1 : Int32) = nI 1 from rfl, pk_sub_toInt (by omega) (by decide)]
        rw [fa_le, nI_toInt (by omega)] at h
        omega
      · refine w_r h0 ?_
        have hw := wide_le (x := nI j) (k := di 178 s - 1) rfl
        refine w_r (hw.mpr ?_) (k0 n j hne he hn h5 rfl hj)
        rw [h5, fa_le, show (1 : Int32) = nI 1 from rfl, pk_sub_toInt (by omega) (by decide), nI_toInt (by omega)]
        omega
    · exact w_n he (k3 hne he)
theorem p_get {di : tDi} {dl : tDl} (hs : Ish di) (hl : Ila di) (a b i : Int32) : ClI 2 118 [.ref 0, .int a, .int b, .int i] di dl (fun r di1 dl1 => ClI 2 149 [.ref 176, .int a, .int b, .int i] di1 dl1 (fun r' di2 dl2 => Ps di dl r r' di2 dl2)) := by
  rcases ix3 a 4 (by decide) with h | ⟨h, h0⟩ | ⟨s, hs4, rfl, h0, h4⟩
  · refine r_118 (w_l h (r_149 ?_))
    simp only [wl_0, wx_0]
    exact w_l h (Ps_same hs hl)
  · refine r_118 (w_r h0 (w_l' h (r_149 ?_)))
    simp only [wl_0, wx_0, wg_3, wm_3]
    exact w_r h0 (w_l (le4_3 h) (Ps_same hs hl))
  have hc : (nI s).toNatClampNeg = s := nI_clamp (by omega)
  have hb : inB (nI s) 4 = true := inB_n hs4 (by decide)
  rcases ix3 b 3 (by decide) with g | ⟨g, g0⟩ | ⟨f, hf3, rfl, g0, g4⟩
  · refine r_118 (w_r h0 (w_r' h4 ⟨hb, w_l g (r_149 ?_)⟩))
    simp only [wl_0, wx_0, wg_3, wm_3]
    exact w_r h0 (w_r (lt4_3 h4) (w_l g (Ps_same hs hl)))
  · refine r_118 (w_r h0 (w_r' h4 ⟨hb, w_r g0 (w_l' g (r_149 ?_))⟩))
    simp only [wl_0, wx_0, wg_3, wm_3, wg_2, wm_2]
    exact w_r h0 (w_r (lt4_3 h4) (w_r g0 (w_l (le3_2 g) (Ps_same hs hl))))
  obtain ⟨h1, h2⟩ := hs s hs4
  have hx : ∀ di1 dl1 {K : Int32 → tDi → tDl → Prop}, (di1 177 s = -1 ∨ ((∃ f, f < 3 ∧ di1 177 s = nI f) ∧ ∃ n, n ≤ 60 ∧ di1 178 s = nI n)) → (di1 177 s = -1 → K (-2147483648) (up2 di1 176 4 1) dl1) → (¬ di1 177 s = -1 → ¬ di1 177 s = nI f → K (-2147483648) (up2 di1 176 4 3) dl1) → (¬ di1 177 s = -1 → di1 177 s = nI f → (i < 0 ∨ di1 178 s ≤ i) → K (-2147483648) (up2 di1 176 4 2) dl1) → (∀ n j, ¬ di1 177 s = -1 → di1 177 s = nI f → n ≤ 60 → di1 178 s = nI n → i = nI j → j < n → K (di1 179 (60 * s + j)) di1 dl1) → ClI 2 149 [.ref 176, .int (nI s), .int (nI f), .int i] di1 dl1 K := by
    intro di1 dl1 K hf k1 k3 k2 k0
    refine r_149 ?_
    simp only [wl_0, wx_0, wg_3, wm_3, wg_2, wm_2]
    refine w_r h0 (w_r (lt4_3 h4) (w_r g0 (w_r (lt3_2 g4) ?_)))
    refine c_146 hs4 _ _ hf (fun z => w_n (by decide) (k1 z)) (fun z z2 => w_n (by decide) (k3 z z2)) (fun z z2 z3 => w_n (by decide) (k2 z z2 z3)) (fun n j z z2 z3 z4 z5 z6 => w_e rfl ?_)
    have e : (60 : Int32) * nI s + i = nI (60 * s + j) := by rw [z5, show (60 : Int32) = nI 60 from rfl, pk_mul, nI_add]
    rw [e, nI_clamp (by omega)]
    exact ⟨inB_n (by omega) (by decide), k0 n j z z2 z3 z4 z5 z6⟩
  refine r_118 (w_r h0 (w_r' h4 ⟨hb, w_r g0 (w_r' g4 ?_)⟩))
  rw [hc]
  rcases h2 with h2 | ⟨⟨f', hf', h3⟩, n, hn, h5, h6, h7⟩
  · obtain ⟨f1, f2, f3⟩ := find2 (v := 1) hs
    have e : up2 di 0 10 1 177 s = -1 := by rw [up_na (by decide)]; exact h2
    exact w_n' (h1.trans h2) (hx _ _ (Or.inl e) (fun _ => ⟨rfl, f1, f2, f3, rfl⟩) (fun z => absurd e z) (fun z => absurd e z) (fun _ _ z => absurd e z))
  have hne : ¬ di 177 s = -1 := by
    rw [h3, fa_eq, nI_toInt (by omega), ti_m1]; omega
  refine w_e' (by rw [h1]; exact hne) ?_
  by_cases he : di (168 + 2 * s) 1 = nI f
  · refine w_e he ?_
    rw [h1] at he
    have hd : ∀ v, (up2 di 0 10 v 177 s = -1 ∨ ((∃ f, f < 3 ∧ up2 di 0 10 v 177 s = nI f) ∧ ∃ n, n ≤ 60 ∧ up2 di 0 10 v 178 s = nI n)) := fun v => by
      rw [up_na (by decide), up_na (by decide)]
      exact Or.inr ⟨⟨f', hf', h3⟩, n, hn, h6⟩
    have bad : (i < 0 ∨ nI n ≤ i) → ClI 2 149 [.ref 176, .int (nI s), .int (nI f), .int i] (up2 di 0 10 2) dl (fun r' di2 dl2 => Ps di dl (-2147483648) r' di2 dl2) := by
      intro hi
      obtain ⟨f1, f2, f3⟩ := find2 (v := 2) hs
      refine hx _ _ (hd 2) (fun z => absurd (by rw [up_na (by decide)] at z; exact z) hne) (fun _ z => absurd (by rw [up_na (by decide)]; exact he) z) (fun _ _ _ => ⟨rfl, f1, f2, f3, rfl⟩) (fun n' j _ _ _ z4 z5 z6 => ?_)
      exfalso
      rw [up_na (by decide), h6] at z4
      have e : n = n' := (nI_eq (by omega) (by omega)).mp z4
      subst e
      rcases hi with hi | hi
      · rw [z5] at hi; exact nI_pos (by omega) hi
      · rw [z5] at hi; exact nI_ge z6 (by omega) hi
    rw [h5]
    rcases ix3 i n (by omega) with k | ⟨k, k0⟩ | ⟨j, hj, rfl, k0, k4⟩
    · exact w_l k (bad (Or.inl k))
    · exact w_r k0 (w_l' k (bad (Or.inr k)))
    · have k60 : nI j < 60 := nI_lt (b := 60) (by omega) (by decide)
      refine w_r k0 (w_r' k4 (w_r' k60 (w_r k0 (w_r' k4 (w_r' k60 ⟨inB_n (by omega) (by decide), ?_⟩)))))
      rw [nI_clamp (by omega), h7 j hj]
      refine hx _ _ (Or.inr ⟨⟨f', hf', h3⟩, n, hn, h6⟩) (fun z => absurd z hne) (fun _ z => absurd he z) (fun _ _ z => ?_) (fun n' j' _ _ _ _ z5 _ => ?_)
      · exfalso
        rw [h6] at z
        exact z.elim (nI_pos (by omega)) (nI_ge hj (by omega))
      · have e : j = j' := (nI_eq (by omega) (by omega)).mp z5
        subst e
        exact Ps_same hs hl
  · refine w_n he ?_
    rw [h1] at he
    obtain ⟨f1, f2, f3⟩ := find2 (v := 3) hs
    refine hx _ _ (by rw [up_na (by decide), up_na (by decide)]; exact Or.inr ⟨⟨f', hf', h3⟩, n, hn, h6⟩) (fun z => absurd (by rw [up_na (by decide)] at z; exact z) hne) (fun _ _ => ⟨rfl, f1, f2, f3, rfl⟩) (fun _ z => absurd (by rw [up_na (by decide)] at z; exact z) he) (fun _ _ _ z => absurd (by rw [up_na (by decide)] at z; exact z) he)
