/-! a value put on a sheet -/
def cutI (f : Nat) (v : Int32) : Int32 := if f = 0 then v.toInt8.toInt32 else if f = 1 then v.toInt16.toInt32 else v
theorem c_42 {di : tDi} {dl : tDl} {s f n k : Nat} (hs4 : s < 4) (hf3 : f < 3) (hf : di (168 + 2 * s) 1 = nI f) (hn : n ≤ 60) (h5 : di (168 + 2 * s) 2 = nI n) (hk : k < n) (v : Int32) {K : tDi → tDl → Prop} (kk : K (up2 di (169 + 2 * s) k (cutI f v)) dl) : ClV 1 42 [.ref (168 + 2 * s), .int (nI k), .int v] di dl K := by
  have hc : (nI s).toNatClampNeg = s := nI_clamp (by omega)
  have hb : inB (nI s) 4 = true := inB_n hs4 (by decide)
  have h := r_42 (j := nI s) hb (a1 := nI k) (a2 := v) (di := di) (dl := dl) (K := K)
  rw [hc, hf, h5, nI_clamp (show k < 2 ^ 31 by omega)] at h
  refine h (w_r (nI_pos' (by omega)) (w_r' (nI_lt hk (by omega)) (w_r' (nI_lt (b := 60) (by omega) (by decide)) ?_)))
  have hbk : inB (nI k) 60 = true := inB_n (by omega) (by decide)
  unfold cutI at kk
  by_cases e0 : f = 0
  · subst e0
    exact w_n' rfl ⟨hbk, kk⟩
  · rw [if_neg e0] at kk
    refine w_e' (nI_ne0 (by omega) (by omega)) ?_
    by_cases e1 : f = 1
    · subst e1
      exact w_n' rfl ⟨hbk, kk⟩
    · rw [if_neg e1] at kk
      exact w_e' (fun z => e1 ((nI_eq (b := 1) (by omega) (by decide)).mp z)) ⟨hbk, kk⟩
/-- the same value put in both worlds -/
theorem put2 {di : tDi} (hs : Ish di) {s k : Nat} (hs4 : s < 4) (hk : k < 60) (v : Int32) : Ish (up2 (up2 di (169 + 2 * s) k v) 179 (60 * s + k) v) := by
  intro t ht
  obtain ⟨h1, h2⟩ := hs t ht
  have q1 : ∀ j, up2 (up2 di (169 + 2 * s) k v) 179 (60 * s + k) v (168 + 2 * t) j = di (168 + 2 * t) j := fun j => by rw [up_na (by omega), up_na (by omega)]
  have q3 : ∀ j, up2 (up2 di (169 + 2 * s) k v) 179 (60 * s + k) v 177 j = di 177 j := fun j => by rw [up_na (by omega), up_na (by omega)]
  have q4 : ∀ j, up2 (up2 di (169 + 2 * s) k v) 179 (60 * s + k) v 178 j = di 178 j := fun j => by rw [up_na (by omega), up_na (by omega)]
  unfold Sh1
  simp only [q1, q3, q4]
  refine ⟨h1, h2.imp id ?_⟩
  rintro ⟨h3, n, h4, h5, h6, h7⟩
  refine ⟨h3, n, h4, h5, h6, fun i hi => ?_⟩
  by_cases e : t = s
  · subst e
    by_cases e2 : i = k
    · subst e2
      rw [up_na (by omega), up_eq, up_eq]
    · rw [up_na (by omega), up_nk e2, up_nk (by omega), up_na (by omega)]
      exact h7 i hi
  · rw [up_na (by omega), up_na (by omega), up_nk (by omega), up_na (by omega)]
    exact h7 i hi
