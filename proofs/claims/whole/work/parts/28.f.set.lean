/-! set -/
def Fe (di di' : tDi) : Prop := ∀ a k, ¬ (a = 8 ∧ 8 ≤ k ∧ k ≤ 10) → ¬ a = 187 → di' a k = di a k
def Pe (di : tDi) (dl : tDl) (r r' : Int32) (di2 : tDi) (dl2 : tDl) : Prop := r = r' ∧ Ise di2 ∧ Fe di di2 ∧ (di2 8 10 = 1 ∨ di2 = di) ∧ dl2 = dl
theorem Pe_same {di : tDi} {dl : tDl} {r : Int32} (hs : Ise di) : Pe di dl r r di dl := ⟨rfl, hs, fun _ _ _ _ => rfl, Or.inr rfl, rfl⟩
theorem p_set {di : tDi} {dl : tDl} (hs : Ise di) (a v : Int32) : ClI 1 98 [.ref 0, .int a, .int v] di dl (fun r di1 dl1 => ClI 2 171 [.ref 176, .int a, .int v] di1 dl1 (fun r' di2 dl2 => Pe di dl r r' di2 dl2)) := by
  have hs0 := hs
  obtain ⟨⟨s, hs1, hs2, hs3⟩, w, hw1, hw2, hw3⟩ := hs
  rcases ix3 a 2 (by decide) with h | ⟨h, h0⟩ | ⟨j, hj, rfl, h0, h2⟩
  · have n0 : ¬ a = 0 := fun e => by subst e; exact absurd h (by decide)
    have n1 : ¬ a = 1 := fun e => by subst e; exact absurd h (by decide)
    refine r_98 (w_e' n0 (w_e' n1 (r_171 ?_)))
    simp only [wl_0, wx_0]
    exact w_l h (Pe_same hs0)
  · have n0 : ¬ a = 0 := fun e => by subst e; exact absurd h (by decide)
    have n1 : ¬ a = 1 := fun e => by subst e; exact absurd h (by decide)
    have h1 : 1 < a := by
      rw [fa_le, nI_toInt (by decide)] at h
      rw [fa_lt, ti_1]; omega
    refine r_98 (w_e' n0 (w_e' n1 (r_171 ?_)))
    simp only [wl_0, wx_0, wg_1, wm_1]
    exact w_r h0 (w_l h1 (Pe_same hs0))
  · have h1 : nI j ≤ 1 := nI_le (b := 1) (by omega) (by decide)
    have hc : (nI j).toNatClampNeg = j := nI_clamp (by omega)
    have hb : inB (nI j) 2 = true := inB_n hj (by decide)
    by_cases e : j = 0
    · subst e
      have n1 : ¬ nI 0 = 1 := by decide
      rcases ix3 v 41 (by decide) with k | ⟨k, k0⟩ | ⟨n, hn, rfl, k0, k4⟩
      · refine r_98 (w_n' rfl (w_l k (w_e' n1 (r_171 ?_))))
        simp only [wl_0, wx_0, wg_1, wm_1]
        exact w_r h0 (w_r h1 (w_n' rfl (w_l k (Pe_same hs0))))
      · have k1 : 40 < v := by
          rw [fa_le, nI_toInt (by decide)] at k
          rw [fa_lt, ti_40]; omega
        refine r_98 (w_n' rfl (w_r k0 (w_l k1 (w_e' n1 (r_171 ?_)))))
        simp only [wl_0, wx_0, wg_1, wm_1, wg_40, wm_40]
        exact w_r h0 (w_r h1 (w_n' rfl (w_r k0 (w_l k1 (Pe_same hs0)))))
      · have k1 : nI n ≤ 40 := nI_le (b := 40) (by omega) (by decide)
        refine r_98 (w_n' rfl (w_r k0 (w_r k1 (r_171 ?_))))
        simp only [wl_0, wx_0, wg_1, wm_1, wg_40, wm_40]
        refine w_r h0 (w_r h1 (w_n' rfl (w_r k0 (w_r k1 ⟨hb, ?_⟩))))
        rw [hc, up_na (by decide), up_na (by decide)]
        refine ⟨by rw [hs2, hs3], ⟨⟨n, by omega, ?_, ?_⟩, w, hw1, ?_, ?_⟩, ?_, Or.inl ?_, rfl⟩
        · rw [up_na (by decide), up_nk (by decide), up_eq]
        · rw [up_eq]
        · rw [up_na (by decide), up_nk (by decide), up_nk (by decide)]; exact hw2
        · rw [up_nk (by decide), up_na (by decide), up_na (by decide)]; exact hw3
        · intro x y q1 q2
          rw [up_na q2]
          unfold up2
          rw [if_neg (by omega), if_neg (by omega)]
        · rw [up_na (by decide), up_eq]
    · have e1 : j = 1 := by omega
      subst e1
      have n0 : ¬ nI 1 = 0 := by decide
      rcases ix3 v 2 (by decide) with k | ⟨k, k0⟩ | ⟨n, hn, rfl, k0, k4⟩
      · refine r_98 (w_e' n0 (w_n' rfl (w_l k (r_171 ?_))))
        simp only [wl_0, wx_0, wg_1, wm_1]
        exact w_r h0 (w_r h1 (w_e' n0 (w_l k (Pe_same hs0))))
      · have k1 : 1 < v := by
          rw [fa_le, nI_toInt (by decide)] at k
          rw [fa_lt, ti_1]; omega
        refine r_98 (w_e' n0 (w_n' rfl (w_r k0 (w_l k1 (r_171 ?_)))))
        simp only [wl_0, wx_0, wg_1, wm_1]
        exact w_r h0 (w_r h1 (w_e' n0 (w_r k0 (w_l k1 (Pe_same hs0)))))
      · have k1 : nI n ≤ 1 := nI_le (b := 1) (by omega) (by decide)
        refine r_98 (w_e' n0 (w_n' rfl (w_r k0 (w_r k1 (r_171 ?_)))))
        simp only [wl_0, wx_0, wg_1, wm_1]
        refine w_r h0 (w_r h1 (w_e' n0 (w_r k0 (w_r k1 ⟨hb, ?_⟩))))
        rw [hc, up_na (by decide), up_na (by decide)]
        refine ⟨by rw [hw2, hw3], ⟨⟨s, hs1, ?_, ?_⟩, n, by omega, ?_, ?_⟩, ?_, Or.inl ?_, rfl⟩
        · rw [up_na (by decide), up_nk (by decide), up_nk (by decide)]; exact hs2
        · rw [up_nk (by decide), up_na (by decide), up_na (by decide)]; exact hs3
        · rw [up_na (by decide), up_nk (by decide), up_eq]
        · rw [up_eq]
        · intro x y q1 q2
          rw [up_na q2]
          unfold up2
          rw [if_neg (by omega), if_neg (by omega)]
        · rw [up_na (by decide), up_eq]
