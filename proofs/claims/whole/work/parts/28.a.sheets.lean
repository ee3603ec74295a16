/-! sheets -/
theorem ti_1 : (1 : Int32).toInt = 1 := rfl
theorem ti_2 : (2 : Int32).toInt = 2 := rfl
theorem ti_3 : (3 : Int32).toInt = 3 := rfl
theorem ti_4 : (4 : Int32).toInt = 4 := rfl
theorem ti_5 : (5 : Int32).toInt = 5 := rfl
theorem ti_6 : (6 : Int32).toInt = 6 := rfl
theorem ti_8 : (8 : Int32).toInt = 8 := rfl
theorem ti_9 : (9 : Int32).toInt = 9 := rfl
theorem ti_10 : (10 : Int32).toInt = 10 := rfl
theorem ti_12 : (12 : Int32).toInt = 12 := rfl
theorem ti_16 : (16 : Int32).toInt = 16 := rfl
theorem ti_23 : (23 : Int32).toInt = 23 := rfl
theorem ti_24 : (24 : Int32).toInt = 24 := rfl
theorem ti_25 : (25 : Int32).toInt = 25 := rfl
theorem ti_26 : (26 : Int32).toInt = 26 := rfl
theorem ti_39 : (39 : Int32).toInt = 39 := rfl
theorem ti_40 : (40 : Int32).toInt = 40 := rfl
theorem ti_47 : (47 : Int32).toInt = 47 := rfl
theorem ti_48 : (48 : Int32).toInt = 48 := rfl
theorem ti_57 : (57 : Int32).toInt = 57 := rfl
theorem ti_60 : (60 : Int32).toInt = 60 := rfl
theorem ti_99 : (99 : Int32).toInt = 99 := rfl
theorem ti_255 : (255 : Int32).toInt = 255 := rfl
theorem ti_400 : (400 : Int32).toInt = 400 := rfl
theorem ti_m1 : (-1 : Int32).toInt = -1 := rfl
/-- what calls on sheets leave alone -/
def Fs (di di' : tDi) : Prop := ∀ a k, ¬ (168 ≤ a ∧ a < 176) → ¬ (177 ≤ a ∧ a < 181) → ¬ (a = 0 ∧ k = 10) → ¬ (a = 176 ∧ k = 4) → di' a k = di a k
theorem Fs_rf {di : tDi} : Fs di di := fun _ _ _ _ _ _ => rfl
theorem Fs_up {di di' : tDi} {a k : Nat} {v : Int32} (h : (168 ≤ a ∧ a < 176) ∨ (177 ≤ a ∧ a < 181) ∨ (a = 0 ∧ k = 10) ∨ (a = 176 ∧ k = 4)) (H : Fs di di') : Fs di (up2 di' a k v) := by
  intro x y h1 h2 h3 h4
  rw [← H x y h1 h2 h3 h4]
  refine if_neg ?_
  rintro ⟨rfl, rfl⟩
  rcases h with h | h | h | h
  · exact h1 h
  · exact h2 h
  · exact h3 h
  · exact h4 h
/-- a finding in both worlds -/
theorem find2 {di : tDi} {v : Int32} (hs : Ish di) : Ish (up2 (up2 di 0 10 v) 176 4 v) ∧ Ila (up2 (up2 di 0 10 v) 176 4 v) ∧ Fs di (up2 (up2 di 0 10 v) 176 4 v) := by
  refine ⟨Ish_cong (fun a ha => Sm_tr (Sm_up (by omega)) (Sm_up (by omega))) hs, ?_, Fs_up (by omega) (Fs_up (by omega) Fs_rf)⟩
  unfold Ila
  rw [up_na (by decide), up_eq, up_eq]
def Ps (di : tDi) (dl : tDl) (r r' : Int32) (di2 : tDi) (dl2 : tDl) : Prop := r = r' ∧ Ish di2 ∧ Ila di2 ∧ Fs di di2 ∧ dl2 = dl
theorem Ps_same {di : tDi} {dl : tDl} {r : Int32} (hs : Ish di) (hl : Ila di) : Ps di dl r r di dl := ⟨rfl, hs, hl, Fs_rf, rfl⟩
theorem p_lose {di : tDi} {dl : tDl} (hs : Ish di) (hl : Ila di) (a : Int32) : ClI 1 116 [.ref 0, .int a] di dl (fun r di1 dl1 => ClI 2 145 [.ref 176, .int a] di1 dl1 (fun r' di2 dl2 => Ps di dl r r' di2 dl2)) := by
  have w0 := wide_lt (x := a) (k := 0) (n := 0) rfl
  have w1 := wide_ge (x := a) (k := 0) (n := 0) rfl
  have w2 := wide_gt (x := a) (k := 3) (n := 3) rfl
  have w3 := wide_le (x := a) (k := 3) (n := 3) rfl
  simp only [fa_lt, fa_le, ti_0, ti_3] at w0 w1 w2 w3
  rcases pk_ix a (n := 4) (by decide) with h | h | ⟨s, hs4, rfl⟩
  · simp only [fa_lt, ti_0] at h
    refine r_116 ⟨fun _ => ?_, fun z => ?_⟩
    · refine r_145 ⟨fun _ => Ps_same hs hl, fun z => ?_⟩
      simp only [fa_le, ti_0] at z
      omega
    · simp only [fa_le, ti_0] at z
      omega
  · have h4 : (nI 4).toInt = 4 := rfl
    simp only [fa_le, h4] at h
    refine r_116 ⟨fun z => ?_, fun _ => ⟨fun _ => ?_, fun z => ?_⟩⟩
    · simp only [fa_lt, ti_0] at z
      omega
    · refine r_145 ⟨fun _ => Ps_same hs hl, fun _ => ⟨fun _ => Ps_same hs hl, fun z => ?_⟩⟩
      simp only [fa_le, ti_0] at z
      omega
    · simp only [fa_lt, ti_4] at z
      omega
  · have hc : (nI s).toNatClampNeg = s := nI_clamp (by omega)
    have hb : inB (nI s) 4 = true := inB_n hs4 (by decide)
    have ht : (nI s).toInt = s := nI_toInt (by omega)
    refine r_116 ⟨fun z => ?_, fun _ => ⟨fun z => ?_, fun _ => ⟨hb, ?_⟩⟩⟩
    · simp only [fa_lt, ti_0] at z
      omega
    · simp only [fa_le, ti_4] at z
      omega
    rw [hc]
    obtain ⟨h1, h2⟩ := hs s hs4
    refine ⟨fun hf => ?_, fun hf => ?_⟩
    · rcases h2 with h2 | ⟨⟨f, hf3, h3⟩, n, hn, h4, h5, h6⟩
      · exact absurd (h1.trans h2) hf
      refine r_145 ⟨fun z => ?_, fun _ => ⟨fun z => ?_, fun _ => ⟨hb, ?_⟩⟩⟩
      · simp only [fa_lt, ti_0] at z
        omega
      · simp only [fa_lt, ti_0] at z
        omega
      rw [hc]
      have e177 : up2 (up2 di (168 + 2 * s) 1 (-1)) (168 + 2 * s) 2 0 177 s = di 177 s := by rw [up_na (by omega), up_na (by omega)]
      have e178 : up2 (up2 di (168 + 2 * s) 1 (-1)) (168 + 2 * s) 2 0 178 s = di 178 s := by rw [up_na (by omega), up_na (by omega)]
      rw [e177, e178]
      refine ⟨fun _ => ?_, fun z => ?_⟩
      · refine ⟨by rw [h4, h5], ?_, ?_, Fs_up (by omega) (Fs_up (by omega) (Fs_up (by omega) Fs_rf)), rfl⟩
        · intro t ht4
          by_cases e : t = s
          · subst e
            refine ⟨?_, Or.inl ?_⟩
            · rw [up_na (by omega), up_nk (by decide), up_eq, up_eq]
            · rw [up_eq]
          · obtain ⟨g1, g2⟩ := hs t ht4
            unfold Sh1
            have q1 : ∀ k, up2 (up2 (up2 di (168 + 2 * s) 1 (-1)) (168 + 2 * s) 2 0) 177 s (-1) (168 + 2 * t) k = di (168 + 2 * t) k := fun k => by rw [up_na (by omega), up_na (by omega), up_na (by omega)]
            have q2 : ∀ k, up2 (up2 (up2 di (168 + 2 * s) 1 (-1)) (168 + 2 * s) 2 0) 177 s (-1) (169 + 2 * t) k = di (169 + 2 * t) k := fun k => by rw [up_na (by omega), up_na (by omega), up_na (by omega)]
            have q3 : up2 (up2 (up2 di (168 + 2 * s) 1 (-1)) (168 + 2 * s) 2 0) 177 s (-1) 177 t = di 177 t := by rw [up_nk e, up_na (by omega), up_na (by omega)]
            have q4 : ∀ k, up2 (up2 (up2 di (168 + 2 * s) 1 (-1)) (168 + 2 * s) 2 0) 177 s (-1) 178 k = di 178 k := fun k => by rw [up_na (by omega), up_na (by omega), up_na (by omega)]
            have q5 : ∀ k, up2 (up2 (up2 di (168 + 2 * s) 1 (-1)) (168 + 2 * s) 2 0) 177 s (-1) 179 k = di 179 k := fun k => by rw [up_na (by omega), up_na (by omega), up_na (by omega)]
            simp only [q1, q2, q3, q4, q5]
            exact ⟨g1, g2⟩
        · exact Ila_cong (by rw [up_na (by omega), up_na (by omega), up_na (by omega)]) (by rw [up_na (by omega), up_na (by omega), up_na (by omega)]) hl
      · rw [h3] at z
        simp only [fa_lt, ti_0, nI_toInt (show f < 2 ^ 31 by omega)] at z
        omega
    · refine r_145 ⟨fun z => ?_, fun _ => ⟨fun z => ?_, fun _ => ⟨hb, ?_⟩⟩⟩
      · simp only [fa_lt, ti_0] at z
        omega
      · simp only [fa_lt, ti_0] at z
        omega
      rw [hc, up_na (by decide)]
      have e : di 177 s = -1 := by rw [← h1]; exact hf
      rw [e]
      refine ⟨fun z => absurd z (by decide), fun _ => ?_⟩
      obtain ⟨f1, f2, f3⟩ := find2 (v := 1) hs
      exact ⟨rfl, f1, f2, f3, rfl⟩
