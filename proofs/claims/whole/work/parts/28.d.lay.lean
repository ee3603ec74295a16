/-! lay -/
theorem p_lay {di : tDi} {dl : tDl} (hs : Ish di) (hl : Ila di) (a b i v : Int32) : ClI 2 117 [.ref 0, .int a, .int b, .int i, .int v] di dl (fun r di1 dl1 => ClI 2 148 [.ref 176, .int a, .int b, .int i, .int v] di1 dl1 (fun r' di2 dl2 => Ps di dl r r' di2 dl2)) := by
  rcases ix3 a 4 (by decide) with h | ⟨h, h0⟩ | ⟨s, hs4, rfl, h0, h4⟩
  · refine r_117 (w_l h (r_148 ?_))
    simp only [wl_0, wx_0]
    exact w_l h (Ps_same hs hl)
  · refine r_117 (w_r h0 (w_l' h (r_148 ?_)))
    simp only [wl_0, wx_0, wg_3, wm_3]
    exact w_r h0 (w_l (le4_3 h) (Ps_same hs hl))
  have hc : (nI s).toNatClampNeg = s := nI_clamp (by omega)
  have hb : inB (nI s) 4 = true := inB_n hs4 (by decide)
  rcases ix3 b 3 (by decide) with g | ⟨g, g0⟩ | ⟨f, hf3, rfl, g0, g4⟩
  · refine r_117 (w_r h0 (w_r' h4 ⟨hb, w_l g (r_148 ?_)⟩))
    simp only [wl_0, wx_0, wg_3, wm_3]
    exact w_r h0 (w_r (lt4_3 h4) (w_l g (Ps_same hs hl)))
  · refine r_117 (w_r h0 (w_r' h4 ⟨hb, w_r g0 (w_l' g (r_148 ?_))⟩))
    simp only [wl_0, wx_0, wg_3, wm_3, wg_2, wm_2]
    exact w_r h0 (w_r (lt4_3 h4) (w_r g0 (w_l (le3_2 g) (Ps_same hs hl))))
  obtain ⟨h1, h2⟩ := hs s hs4
  have hx : ∀ di1 dl1 {K : Int32 → tDi → tDl → Prop}, (di1 177 s = -1 ∨ ((∃ f, f < 3 ∧ di1 177 s = nI f) ∧ ∃ n, n ≤ 60 ∧ di1 178 s = nI n)) → (di1 177 s = -1 → K (-11) (up2 di1 176 4 1) dl1) → (¬ di1 177 s = -1 → ¬ di1 177 s = nI f → K (-13) (up2 di1 176 4 3) dl1) → (¬ di1 177 s = -1 → di1 177 s = nI f → (i < 0 ∨ di1 178 s ≤ i) → K (-12) (up2 di1 176 4 2) dl1) → (∀ n j, ¬ di1 177 s = -1 → di1 177 s = nI f → n ≤ 60 → di1 178 s = nI n → i = nI j → j < n → K 1 (up2 di1 179 (60 * s + j) (cutI f v)) dl1) → ClI 2 148 [.ref 176, .int (nI s), .int (nI f), .int i, .int v] di1 dl1 K := by
    intro di1 dl1 K hf k1 k3 k2 k0
    refine r_148 ?_
    simp only [wl_0, wx_0, wg_3, wm_3, wg_2, wm_2]
    refine w_r h0 (w_r (lt4_3 h4) (w_r g0 (w_r (lt3_2 g4) ?_)))
    refine c_146 hs4 _ _ hf (fun z => w_n (by decide) (k1 z)) (fun z z2 => w_n (by decide) (k3 z z2)) (fun z z2 z3 => w_n (by decide) (k2 z z2 z3)) (fun n j z z2 z3 z4 z5 z6 => w_e rfl ?_)
    have e : (60 : Int32) * nI s + i = nI (60 * s + j) := by rw [z5, show (60 : Int32) = nI 60 from rfl, pk_mul, nI_add]
    have kk := k0 n j z z2 z3 z4 z5 z6
    have hbk : inB (nI (60 * s + j)) 240 = true := inB_n (by omega) (by decide)
    rw [e, nI_clamp (by omega)]
    unfold cutI at kk
    by_cases e0 : f = 0
    · subst e0
      exact w_n' rfl ⟨hbk, kk⟩
    · rw [if_neg e0] at kk
      refine w_e' (nI_ne0 (by omega) (by omega)) ?_
      by_cases e1 : f = 1
      · subst e1
        exact w_n' rfl ⟨hbk, kk⟩
      · rw [if_neg e1] at kk
        exact w_e' (fun z => e1 ((nI_eq (b := 1) (by omega) (by decide)).mp z)) ⟨hbk, kk⟩
  refine r_117 (w_r h0 (w_r' h4 ⟨hb, w_r g0 (w_r' g4 ?_)⟩))
  rw [hc]
  rcases h2 with h2 | ⟨⟨f', hf', h3⟩, n, hn, h5, h6, h7⟩
  · obtain ⟨f1, f2, f3⟩ := find2 (v := 1) hs
    have e : up2 di 0 10 1 177 s = -1 := by rw [up_na (by decide)]; exact h2
    exact w_n' (h1.trans h2) (hx _ _ (Or.inl e) (fun _ => ⟨rfl, f1, f2, f3, rfl⟩) (fun z => absurd e z) (fun z => absurd e z) (fun _ _ z => absurd e z))
  have hne : ¬ di 177 s = -1 := by
    rw [h3, fa_eq, nI_toInt (by omega), ti_m1]; omega
  refine w_e' (by rw [h1]; exact hne) ?_
  by_cases he : di (168 + 2 * s) 1 = nI f
  · refine w_e he ?_
    have he0 := he
    rw [h1] at he
    have hd : ∀ v, (up2 di 0 10 v 177 s = -1 ∨ ((∃ f, f < 3 ∧ up2 di 0 10 v 177 s = nI f) ∧ ∃ n, n ≤ 60 ∧ up2 di 0 10 v 178 s = nI n)) := fun v => by
      rw [up_na (by decide), up_na (by decide)]
      exact Or.inr ⟨⟨f', hf', h3⟩, n, hn, h6⟩
    have bad : (i < 0 ∨ nI n ≤ i) → ClI 2 148 [.ref 176, .int (nI s), .int (nI f), .int i, .int v] (up2 di 0 10 2) dl (fun r' di2 dl2 => Ps di dl (((-10) : Int32) - 2) r' di2 dl2) := by
      intro hi
      obtain ⟨f1, f2, f3⟩ := find2 (v := 2) hs
      refine hx _ _ (hd 2) (fun z => absurd (by rw [up_na (by decide)] at z; exact z) hne) (fun _ z => absurd (by rw [up_na (by decide)]; exact he) z) (fun _ _ _ => ⟨rfl, f1, f2, f3, rfl⟩) (fun n' j _ _ _ z4 z5 z6 => ?_)
      exfalso
      rw [up_na (by decide), h6] at z4
      have e : n = n' := (nI_eq (by omega) (by omega)).mp z4
      subst e
      rcases hi with hi | hi
      · rw [z5] at hi; exact nI_pos (by omega) hi
      · rw [z5] at hi; exact nI_ge z6 (by omega) hi
    rw [h5]
    rcases ix3 i n (by omega) with k | ⟨k, k0⟩ | ⟨j, hj, rfl, k0, k4⟩
    · exact w_l k (bad (Or.inl k))
    · exact w_r k0 (w_l' k (bad (Or.inr k)))
    · have k60 : nI j < 60 := nI_lt (b := 60) (by omega) (by decide)
      refine w_r k0 (w_r' k4 (w_r' k60 ?_))
      refine c_42 hs4 hf3 he0 hn h5 hj v ?_
      have e7 : ∀ k, up2 di (169 + 2 * s) j (cutI f v) 177 k = di 177 k := fun k => up_na (by omega)
      have e8 : ∀ k, up2 di (169 + 2 * s) j (cutI f v) 178 k = di 178 k := fun k => up_na (by omega)
      refine hx _ _ (by rw [e7, e8]; exact Or.inr ⟨⟨f', hf', h3⟩, n, hn, h6⟩) (fun z => absurd (by rw [e7] at z; exact z) hne) (fun _ z => absurd (by rw [e7]; exact he) z) (fun _ _ z => ?_) (fun n' j' _ _ _ _ z5 _ => ?_)
      · exfalso
        rw [e8, h6] at z
        exact z.elim (nI_pos (by omega)) (nI_ge hj (by omega))
      · have e : j = j' := (nI_eq (by omega) (by omega)).mp z5
        subst e
        exact ⟨rfl, put2 hs hs4 (by omega) _, Ila_cong (by rw [up_na (by omega), up_na (by omega)]) (by rw [up_na (by omega), up_na (by omega)]) hl, Fs_up (by omega) (Fs_up (by omega) Fs_rf), rfl⟩
  · refine w_n he ?_
    rw [h1] at he
    obtain ⟨f1, f2, f3⟩ := find2 (v := 3) hs
    refine hx _ _ (by rw [up_na (by decide), up_na (by decide)]; exact Or.inr ⟨⟨f', hf', h3⟩, n, hn, h6⟩) (fun z => absurd (by rw [up_na (by decide)] at z; exact z) hne) (fun _ _ => ⟨rfl, f1, f2, f3, rfl⟩) (fun _ z => absurd (by rw [up_na (by decide)] at z; exact z) he) (fun _ _ _ z => absurd (by rw [up_na (by decide)] at z; exact z) he)
