/-! what ties both worlds: sheets, the latest finding, what was seen, settings -/
/-- the two worlds' ints are the same at an address -/
def Sm (di di' : tDi) (a : Nat) : Prop := ∀ k, di' a k = di a k
theorem Sm_up {di : tDi} {a k x : Nat} {v : Int32} (h : ¬ x = a) : Sm di (up2 di a k v) x := fun _ => up_na h
theorem Sm_tr {di di1 di2 : tDi} {a : Nat} (h : Sm di di1 a) (h2 : Sm di1 di2 a) : Sm di di2 a := fun k => (h2 k).trans (h k)
theorem Sm_rf {di : tDi} {a : Nat} : Sm di di a := fun _ => rfl
/-- sheet s is lost in both, or of one form, one size, with the same items -/
def Sh1 (di : tDi) (s : Nat) : Prop := di (168 + 2 * s) 1 = di 177 s ∧ (di 177 s = -1 ∨ ((∃ f, f < 3 ∧ di 177 s = nI f) ∧ ∃ n, n ≤ 60 ∧ di (168 + 2 * s) 2 = nI n ∧ di 178 s = nI n ∧ ∀ i, i < n → di (169 + 2 * s) i = di 179 (60 * s + i)))
def Ish (di : tDi) : Prop := ∀ s, s < 4 → Sh1 di s
def Ila (di : tDi) : Prop := di 0 10 = di 176 4
/-- n sights, each of months, a statue, a cloth or none -/
def Ini (di : tDi) : Prop := ∃ n, n ≤ 8 ∧ di 159 8 = nI n ∧ di 176 18 = nI n ∧ ∀ k, k < n → ∃ q s : Nat, ∃ c : Int32, q ≤ 24 ∧ s < 8 ∧ (c = -1 ∨ ∃ j, j < 8 ∧ c = nI j) ∧ di 160 k = nI q ∧ di 193 (3 * k) = nI q ∧ di 161 k = nI s ∧ di 193 (3 * k + 1) = nI s ∧ di 162 k = c ∧ di 193 (3 * k + 2) = c
def Ise (di : tDi) : Prop := (∃ s, s ≤ 40 ∧ di 8 8 = nI s ∧ di 187 0 = nI s) ∧ ∃ w, w ≤ 1 ∧ di 8 9 = nI w ∧ di 187 1 = nI w
theorem Ish_cong {di di' : tDi} (h : ∀ a, (168 ≤ a ∧ a < 176 ∨ 177 ≤ a ∧ a < 180) → Sm di di' a) (H : Ish di) : Ish di' := by
  intro s hs
  obtain ⟨h1, h2⟩ := H s hs
  have e1 : Sm di di' (168 + 2 * s) := h _ (by omega)
  have e2 : Sm di di' (169 + 2 * s) := h _ (by omega)
  have e3 : Sm di di' 177 := h _ (by omega)
  have e4 : Sm di di' 178 := h _ (by omega)
  have e5 : Sm di di' 179 := h _ (by omega)
  unfold Sh1
  rw [e1 1, e1 2, e3 s, e4 s]
  refine ⟨h1, h2.imp id ?_⟩
  rintro ⟨h3, n, h4, h5, h6, h7⟩
  exact ⟨h3, n, h4, h5, h6, fun i hi => by rw [e2 i, e5 _]; exact h7 i hi⟩
theorem Ila_cong {di di' : tDi} (h : di' 0 10 = di 0 10) (h2 : di' 176 4 = di 176 4) (H : Ila di) : Ila di' := by
  unfold Ila
  rw [h, h2]; exact H
theorem Ini_cong {di di' : tDi} (h : di' 159 8 = di 159 8) (h2 : di' 176 18 = di 176 18) (h3 : ∀ a, (160 ≤ a ∧ a < 163 ∨ a = 193) → Sm di di' a) (H : Ini di) : Ini di' := by
  obtain ⟨n, h4, h5, h6, h7⟩ := H
  refine ⟨n, h4, by rw [h, h5], by rw [h2, h6], fun k hk => ?_⟩
  rw [h3 160 (by omega) k, h3 161 (by omega) k, h3 162 (by omega) k, h3 193 (by omega), h3 193 (by omega), h3 193 (by omega)]
  exact h7 k hk
theorem Ise_cong {di di' : tDi} (h : di' 8 8 = di 8 8) (h2 : di' 8 9 = di 8 9) (h3 : Sm di di' 187) (H : Ise di) : Ise di' := by
  unfold Ise
  rw [h, h2, h3 0, h3 1]; exact H
/-- forget -/
theorem p_forget {di : tDi} {dl : tDl} (hn : Ini di) : ClI 0 109 [.ref 0] di dl (fun r di1 dl1 => ClI 0 201 [.ref 176] di1 dl1 (fun r' di2 dl2 => r = r' ∧ di2 = up2 (up2 di 159 8 0) 176 18 0 ∧ dl2 = dl ∧ Ini di2)) := by
  refine r_109 (r_201 ?_)
  obtain ⟨n, h1, h2, h3, _⟩ := hn
  refine ⟨?_, rfl, rfl, 0, by omega, ?_, ?_, fun k hk => by omega⟩
  · rw [up_na (by decide), h2, h3]
  · rw [up_na (by decide), up_eq]; rfl
  · rw [up_eq]; rfl
