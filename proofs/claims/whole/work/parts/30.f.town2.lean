/-! the town out of the texts; reads -/
theorem pS {t : tTown} {di : tDi} {n x m : Nat} {r : Int32} {f : Nat → Nat} (X : Xt di 0 39 n f) (hf : ftS n x r m) (hm : di 1 4 = nI m) (hw : Wt t) (hc : CsS t di) : m = nS t ∧ ∀ q, q < m → ∀ j, j < 4 → vS j (f (5 * q + j)) = sv t q j := by
  obtain ⟨hn, x1, x2, x3, x4⟩ := X
  obtain ⟨⟨w1, w2, w3, w4, w5⟩, w6, _⟩ := hw
  obtain ⟨c1, l, c2, c3, c4, c5⟩ := hc
  have hm8 : m ≤ 8 := by
    rcases hf with h | h | h <;> omega
  have e : m = nS t := (nI_eq (by omega) (by omega)).mp (hm.symm.trans c1)
  have el : l = n := (nI_eq (by omega) (by omega)).mp (c3.symm.trans x2)
  refine ⟨e, fun q hq j hj => ?_⟩
  obtain ⟨g1, g2, g3, g4⟩ := c5 q (by omega)
  obtain ⟨v1, v2, v3, v4, v5⟩ := w6 q (by omega)
  have b0 := x4 (5 * q) (by omega)
  have b1 := x4 (5 * q + 1) (by omega)
  have b2 := x4 (5 * q + 2) (by omega)
  have b3 := x4 (5 * q + 3) (by omega)
  have f0 : f (5 * q) = 48 + sv t q 0 := (nI_eq (by omega) (by omega)).mp (b0.2.1.symm.trans g1)
  have f1 : f (5 * q + 1) = 48 + sv t q 1 := (nI_eq (by omega) (by omega)).mp (b1.2.1.symm.trans g2)
  have f2 : f (5 * q + 2) = 48 + sv t q 2 := (nI_eq (by omega) (by omega)).mp (b2.2.1.symm.trans g3)
  have hl3 : lN2 (sv t q 3) < 200 := by
    unfold lN2
    split <;> omega
  have f3 : f (5 * q + 3) = lN2 (sv t q 3) := (nI_eq (by omega) (by omega)).mp (b3.2.1.symm.trans g4)
  rcases (by omega : j = 0 ∨ j = 1 ∨ j = 2 ∨ j = 3) with e | e | e | e
  · subst e
    show f (5 * q) - 48 = _
    omega
  · subst e
    show f (5 * q + 1) - 48 = _
    omega
  · subst e
    show f (5 * q + 2) - 48 = _
    omega
  · subst e
    show (if f (5 * q + 3) = 110 then 1 else 0) = _
    rw [f3]
    unfold lN2
    by_cases h : sv t q 3 = 1
    · rw [if_pos h, if_pos rfl, h]
    · rw [if_neg h, if_neg (by omega)]
      omega
theorem pC {t : tTown} {di : tDi} {n x m : Nat} {r : Int32} {f : Nat → Nat} (X : Xt di 1 47 n f) (hf : ftC n x r m) (hm : di 3 4 = nI m) (hw : Wt t) (hc : CsC t di) : m = nC t ∧ ∀ q, q < m → ∀ j, j < 4 → vC j (fun i => f (6 * q + i)) = cv t q j := by
  obtain ⟨hn, x1, x2, x3, x4⟩ := X
  obtain ⟨⟨w1, w2, w3, w4, w5⟩, _, w6, _⟩ := hw
  obtain ⟨c1, l, c2, c3, c4, c5⟩ := hc
  have hm8 : m ≤ 8 := by
    rcases hf with h | h | h <;> omega
  have e : m = nC t := (nI_eq (by omega) (by omega)).mp (hm.symm.trans c1)
  have el : l = n := (nI_eq (by omega) (by omega)).mp (c3.symm.trans x2)
  refine ⟨e, fun q hq j hj => ?_⟩
  obtain ⟨g1, g2, g3, g4, g5⟩ := c5 q (by omega)
  obtain ⟨v1, v2, v3, v4, v5, v6⟩ := w6 q (by omega)
  have b0 := x4 (6 * q) (by omega)
  have b1 := x4 (6 * q + 1) (by omega)
  have b2 := x4 (6 * q + 2) (by omega)
  have b3 := x4 (6 * q + 3) (by omega)
  have b4 := x4 (6 * q + 4) (by omega)
  have f0 : f (6 * q) = 48 + cv t q 0 / 10 := (nI_eq (by omega) (by omega)).mp (b0.2.1.symm.trans g1)
  have f1 : f (6 * q + 1) = 48 + cv t q 0 % 10 := (nI_eq (by omega) (by omega)).mp (b1.2.1.symm.trans g2)
  have hl3 : lK (cv t q 1) < 200 := by
    unfold lK
    split
    · omega
    · split <;> omega
  have f2 : f (6 * q + 2) = lK (cv t q 1) := (nI_eq (by omega) (by omega)).mp (b2.2.1.symm.trans g3)
  have f3 : f (6 * q + 3) = 48 + cv t q 2 := (nI_eq (by omega) (by omega)).mp (b3.2.1.symm.trans g4)
  have f4 : f (6 * q + 4) = 48 + cv t q 3 := (nI_eq (by omega) (by omega)).mp (b4.2.1.symm.trans g5)
  rcases (by omega : j = 0 ∨ j = 1 ∨ j = 2 ∨ j = 3) with e | e | e | e
  · subst e
    show 10 * (f (6 * q) - 48) + (f (6 * q + 1) - 48) = _
    omega
  · subst e
    show vK (f (6 * q + 2)) = _
    rw [f2]
    rcases (by omega : cv t q 1 = 0 ∨ cv t q 1 = 1 ∨ cv t q 1 = 2) with h | h | h <;> (rw [h]; rfl)
  · subst e
    show f (6 * q + 3) - 48 = _
    omega
  · subst e
    show f (6 * q + 4) - 48 = _
    omega
theorem vM_l : ∀ v, v ≤ 4 → vM (lM v) = v := by
  intro v hv
  rcases (by omega : v = 0 ∨ v = 1 ∨ v = 2 ∨ v = 3 ∨ v = 4) with h | h | h | h | h <;> (rw [h]; rfl)
theorem lM_lt (v : Nat) : lM v < 200 := by
  unfold lM
  split
  · omega
  · split
    · omega
    · split
      · omega
      · split <;> omega
theorem pM {t : tTown} {di : tDi} {n x m : Nat} {r : Int32} {f : Nat → Nat} (X : Xt di 2 24 n f) (hf : ftM n x r m) (hm : di 5 4 = nI m) (hw : Wt t) (hc : CsM t di) : m = nM t ∧ ∀ q, q < m → vM (f q) = mo t q := by
  obtain ⟨hn, x1, x2, x3, x4⟩ := X
  obtain ⟨⟨w1, w2, w3, w4, w5⟩, _, _, w6⟩ := hw
  obtain ⟨c1, l, c2, c3, c4, c5⟩ := hc
  have hm8 : m ≤ 24 := by
    rcases hf with h | h <;> omega
  have e : m = nM t := (nI_eq (by omega) (by omega)).mp (hm.symm.trans c1)
  have el : l = n := (nI_eq (by omega) (by omega)).mp (c3.symm.trans x2)
  refine ⟨e, fun q hq => ?_⟩
  have g1 := c5 q (by omega)
  have b0 := x4 q (by omega)
  have := lM_lt (mo t q)
  have f0 : f q = lM (mo t q) := (nI_eq (by omega) (by omega)).mp (b0.2.1.symm.trans g1)
  rw [f0]
  exact vM_l _ (w6 q (by omega))
/-- what reads changes -/
def Fm (di d : tDi) : Prop := ∀ a y, ¬ (a = 176 ∧ y = 7) → ¬ (183 ≤ a ∧ a ≤ 186) → d a y = di a y
theorem Ise_t {t : tTown} {di : tDi} (hs : Ise di) (hc : Cs t di) : di 187 0 = nI (sk t) ∧ di 187 1 = nI (wy t) := by
  obtain ⟨⟨s, _, h1, h2⟩, w, _, h3, h4⟩ := hs
  obtain ⟨_, _, _, c4, c5⟩ := hc
  exact ⟨h2.trans (h1.symm.trans c4), h4.trans (h3.symm.trans c5)⟩
theorem c_163 {t : tTown} {di : tDi} {dl : tDl} (hx : Itx di) (hs : Ise di) (hw : Wt t) (hc : Cs t di) {K : tDi → tDl → Prop} (kk : ∀ d, Rs t d → Fm di d → K d dl) : ClV 6 163 [.ref 176] di dl K := by
  obtain ⟨s1, s2⟩ := Ise_t hs hc
  obtain ⟨hS, hC, hM, hk, hy⟩ := hc
  obtain ⟨⟨n0, f0, X0, x0, r0, m0, F0, t0, a0, b0⟩, ⟨n1, f1, X1, x1, r1, m1, F1, t1, a1, b1⟩, ⟨n2, f2, X2, x2, r2, m2, F2, t2, a2, b2⟩⟩ := hx
  obtain ⟨e0, v0⟩ := pS X0 t0 b0 hw hS
  obtain ⟨e1, v1⟩ := pC X1 t1 b1 hw hC
  obtain ⟨e2, v2⟩ := pM X2 t2 b2 hw hM
  obtain ⟨p1, p2, p3, p4, p5⟩ := X0
  obtain ⟨q1, q2, q3, q4, q5⟩ := X1
  obtain ⟨u1, u2, u3, u4, u5⟩ := X2
  refine r_163 (r_163_2 (pk2 (by decide) ?_))
  refine c_162S (n := n0) (f := f0) p1 p4 (fun i hi => ⟨(p5 i hi).1, by
    have := (p5 i hi).2.2
    rw [Nat.mul_zero, Nat.zero_add] at this
    exact this⟩) ?_
  intro d x r m hF hf d3 dv fr
  have ex := FF_u hF F0
  subst ex
  obtain ⟨_, em⟩ := ftS_u hf t0
  subst em
  refine r_163_2 (pk2 (by decide) ?_)
  refine c_162C (n := n1) (f := f1) q1 (by rw [fr _ _ (by omega) (by omega) (by omega)]; exact q4) (fun i hi => ⟨(q5 i hi).1, by rw [fr _ _ (by omega) (by omega) (by omega)]; exact (q5 i hi).2.2⟩) ?_
  intro g y r' m' hF' hf' g3 gv gr
  have ex := FF_u hF' F1
  subst ex
  obtain ⟨_, em⟩ := ftC_u hf' t1
  subst em
  refine r_163_2 (pk2 (by decide) (r_162 (pk2 (by decide) ?_)))
  refine c_161 (n := n2) (f := f2) u1 (by rw [gr _ _ (by omega) (by omega) (by omega), fr _ _ (by omega) (by omega) (by omega)]; exact u4) (fun i hi => ⟨(u5 i hi).1, by rw [gr _ _ (by omega) (by omega) (by omega), fr _ _ (by omega) (by omega) (by omega)]; exact (u5 i hi).2.2⟩) ?_
  intro h z r'' m'' hF'' hf'' h3 hv hr
  have ex := FF_u hF'' F2
  subst ex
  obtain ⟨_, em⟩ := ftM_u hf'' t2
  subst em
  refine r_163_2 (pk1 (by decide) ?_)
  refine kk h ⟨?_, ?_, ?_, ?_, ?_, ?_, ?_, ?_⟩ ?_
  · rw [hr _ _ (by omega) (by omega), gr _ _ (by omega) (by omega) (by omega), d3, e0]
  · rw [hr _ _ (by omega) (by omega), g3, e1]
  · rw [h3, e2]
  · rw [hr _ _ (by omega) (by omega), gr _ _ (by omega) (by omega) (by omega), fr _ _ (by omega) (by omega) (by omega)]; exact s1
  · rw [hr _ _ (by omega) (by omega), gr _ _ (by omega) (by omega) (by omega), fr _ _ (by omega) (by omega) (by omega)]; exact s2
  · intro k hk j hj
    rw [hr _ _ (by omega) (by omega), gr _ _ (by omega) (by omega) (by omega), dv k (by omega) j hj, v0 k (by omega) j hj]
  · intro k hk j hj
    rw [hr _ _ (by omega) (by omega), gv k (by omega) j hj, v1 k (by omega) j hj]
  · intro k hk
    rw [hv k (by omega), v2 k (by omega)]
  · intro a k z1 z2
    rw [hr _ _ (by omega) (by omega), gr _ _ (by omega) (by omega) (by omega), fr _ _ (by omega) (by omega) (by omega)]
/-- the town that three texts tell -/
def mkT (a b c s w : Nat) (f g h : Nat → Nat) : tTown := fun x j => if x = 0 then (if j = 0 then a else if j = 1 then b else if j = 2 then c else if j = 3 then s else w) else if x = 1 then vM (h j) else if x < 20 then vS j (f (5 * (x - 10) + j)) else vC j (fun i => g (6 * (x - 20) + i))
theorem town_of {di : tDi} (hx : Itx di) (hs : Ise di) : ∃ t, Wt t ∧ Cs t di := by
  obtain ⟨⟨n0, f0, X0, x0, r0, m0, F0, t0, a0, b0⟩, ⟨n1, f1, X1, x1, r1, m1, F1, t1, a1, b1⟩, ⟨n2, f2, X2, x2, r2, m2, F2, t2, a2, b2⟩⟩ := hx
  obtain ⟨⟨s, s1, s2, _⟩, w, w1, w2, _⟩ := hs
  obtain ⟨p1, p2, p3, p4, p5⟩ := X0
  obtain ⟨q1, q2, q3, q4, q5⟩ := X1
  obtain ⟨u1, u2, u3, u4, u5⟩ := X2
  have es : ∀ k, k < 8 → ∀ j, sv (mkT m0 m1 m2 s w f0 f1 f2) k j = vS j (f0 (5 * k + j)) := by
    intro k hk j
    unfold sv mkT
    rw [if_neg (by omega), if_neg (by omega), if_pos (by omega), Nat.add_sub_cancel_left]
  have ec : ∀ k j, cv (mkT m0 m1 m2 s w f0 f1 f2) k j = vC j (fun i => f1 (6 * k + i)) := by
    intro k j
    unfold cv mkT
    rw [if_neg (by omega), if_neg (by omega), if_neg (by omega), Nat.add_sub_cancel_left]
  have em : ∀ k, mo (mkT m0 m1 m2 s w f0 f1 f2) k = vM (f2 k) := fun k => rfl
  have h0 : m0 ≤ 8 ∧ (m0 = 0 ∨ (5 * m0 = n0 + 1 ∧ ∀ i, i < n0 → oS f0 i)) := by
    obtain ⟨F0a, F0b, _⟩ := F0
    rcases t0 with h | ⟨h, h', _, h2⟩ | h
    · omega
    · refine ⟨by omega, ?_⟩
      rcases h' with z | z
      · omega
      · exact Or.inr ⟨by omega, fun i hi => F0b i (by omega)⟩
    · omega
  have h1 : m1 ≤ 8 ∧ (m1 = 0 ∨ (6 * m1 = n1 + 1 ∧ ∀ i, i < n1 → oC f1 i)) := by
    obtain ⟨F0a, F0b, _⟩ := F1
    rcases t1 with h | ⟨h, h', _, h2⟩ | h
    · omega
    · refine ⟨by omega, ?_⟩
      rcases h' with z | z
      · omega
      · exact Or.inr ⟨by omega, fun i hi => F0b i (by omega)⟩
    · omega
  have h2 : m2 ≤ 24 ∧ (m2 = 0 ∨ (m2 = n2 ∧ ∀ i, i < n2 → oM f2 i)) := by
    obtain ⟨F0a, F0b, _⟩ := F2
    rcases t2 with h | ⟨h, h', h2⟩
    · omega
    · exact ⟨by omega, Or.inr ⟨by omega, fun i hi => F0b i (by omega)⟩⟩
  have S : ∀ k, k < m0 → 5 * k + 3 < n0 ∧ okS 0 (f0 (5 * k)) ∧ okS 1 (f0 (5 * k + 1)) ∧ okS 2 (f0 (5 * k + 2)) ∧ okS 3 (f0 (5 * k + 3)) := by
    intro k hk
    rcases h0.2 with z | ⟨z, o⟩
    · omega
    have o0 := o (5 * k) (by omega)
    have o1 := o (5 * k + 1) (by omega)
    have o2 := o (5 * k + 2) (by omega)
    have o3 := o (5 * k + 3) (by omega)
    unfold oS at o0 o1 o2 o3
    rw [show 5 * k % 5 = 0 by omega] at o0
    rw [show (5 * k + 1) % 5 = 1 by omega] at o1
    rw [show (5 * k + 2) % 5 = 2 by omega] at o2
    rw [show (5 * k + 3) % 5 = 3 by omega] at o3
    exact ⟨by omega, o0, o1, o2, o3⟩
  have C : ∀ k, k < m1 → 6 * k + 4 < n1 ∧ okD 0 (f1 (6 * k - 1)) (f1 (6 * k)) ∧ okD 1 (f1 (6 * k)) (f1 (6 * k + 1)) ∧ okD 2 (f1 (6 * k + 1)) (f1 (6 * k + 2)) ∧ okD 3 (f1 (6 * k + 2)) (f1 (6 * k + 3)) ∧ okD 4 (f1 (6 * k + 3)) (f1 (6 * k + 4)) := by
    intro k hk
    rcases h1.2 with z | ⟨z, o⟩
    · omega
    have o0 := o (6 * k) (by omega)
    have o1 := o (6 * k + 1) (by omega)
    have o2 := o (6 * k + 2) (by omega)
    have o3 := o (6 * k + 3) (by omega)
    have o4 := o (6 * k + 4) (by omega)
    unfold oC at o0 o1 o2 o3 o4
    rw [show 6 * k % 6 = 0 by omega] at o0
    rw [show (6 * k + 1) % 6 = 1 by omega] at o1
    rw [show (6 * k + 2) % 6 = 2 by omega] at o2
    rw [show (6 * k + 3) % 6 = 3 by omega] at o3
    rw [show (6 * k + 4) % 6 = 4 by omega] at o4
    exact ⟨by omega, o0, o1, o2, o3, o4⟩
  refine ⟨mkT m0 m1 m2 s w f0 f1 f2, ⟨⟨h0.1, h1.1, h2.1, s1, w1⟩, ?_, ?_, ?_⟩, ⟨b0, n0, p1, p3, ?_, ?_⟩, ⟨b1, n1, q1, q3, ?_, ?_⟩, ⟨b2, n2, u1, u3, ?_, ?_⟩, s2, w2⟩
  · intro k hk
    have hk' : k < m0 := hk
    obtain ⟨z, o0, o1, o2, o3⟩ := S k hk'
    have := h0.1
    rw [es k (by omega), es k (by omega), es k (by omega), es k (by omega)]
    unfold okS at o0 o1 o2 o3
    refine ⟨?_, ?_, ?_, ?_, ?_⟩
    · show 1 ≤ f0 (5 * k) - 48
      omega
    · show f0 (5 * k) - 48 ≤ 9
      omega
    · show f0 (5 * k + 1) - 48 ≤ 9
      omega
    · show f0 (5 * k + 2) - 48 ≤ 9
      omega
    · show (if f0 (5 * k + 3) = 110 then 1 else 0) ≤ 1
      split <;> omega
  · intro k hk
    have hk' : k < m1 := hk
    obtain ⟨z, o0, o1, o2, o3, o4⟩ := C k hk'
    rw [ec, ec, ec, ec]
    unfold okD at o0 o1 o2 o3 o4
    refine ⟨?_, ?_, ?_, ?_, ?_, ?_⟩
    · show 10 ≤ 10 * (f1 (6 * k) - 48) + (f1 (6 * k + 1) - 48)
      omega
    · show 10 * (f1 (6 * k) - 48) + (f1 (6 * k + 1) - 48) ≤ 99
      omega
    · show vK (f1 (6 * k + 2)) ≤ 2
      unfold vK
      split
      · omega
      · split <;> omega
    · show f1 (6 * k + 3) - 48 ≤ 9
      omega
    · show 1 ≤ f1 (6 * k + 4) - 48
      omega
    · show f1 (6 * k + 4) - 48 ≤ 9
      omega
  · intro k hk
    rw [em]
    unfold vM
    split
    · omega
    · split
      · omega
      · split
        · omega
        · split <;> omega
  · show 5 * m0 ≤ n0 + 1
    rcases h0.2 with z | ⟨z, o⟩ <;> omega
  · intro k hk
    have hk' : k < m0 := hk
    obtain ⟨z, o0, o1, o2, o3⟩ := S k hk'
    have := h0.1
    rw [es k (by omega), es k (by omega), es k (by omega), es k (by omega)]
    unfold okS at o0 o1 o2 o3
    refine ⟨?_, ?_, ?_, ?_⟩
    · rw [show 48 + vS 0 (f0 (5 * k + 0)) = f0 (5 * k) by show 48 + (f0 (5 * k) - 48) = _; omega]
      exact (p5 _ (by omega)).2.1
    · rw [show 48 + vS 1 (f0 (5 * k + 1)) = f0 (5 * k + 1) by show 48 + (f0 (5 * k + 1) - 48) = _; omega]
      exact (p5 _ (by omega)).2.1
    · rw [show 48 + vS 2 (f0 (5 * k + 2)) = f0 (5 * k + 2) by show 48 + (f0 (5 * k + 2) - 48) = _; omega]
      exact (p5 _ (by omega)).2.1
    · have : lN2 (vS 3 (f0 (5 * k + 3))) = f0 (5 * k + 3) := by
        rcases (by omega : f0 (5 * k + 3) = 110 ∨ f0 (5 * k + 3) = 115) with h | h <;> (rw [h]; rfl)
      rw [this]
      exact (p5 _ (by omega)).2.1
  · show 6 * m1 ≤ n1 + 1
    rcases h1.2 with z | ⟨z, o⟩ <;> omega
  · intro k hk
    have hk' : k < m1 := hk
    obtain ⟨z, o0, o1, o2, o3, o4⟩ := C k hk'
    rw [ec, ec, ec, ec]
    unfold okD at o0 o1 o2 o3 o4
    have z0 : vC 0 (fun i => f1 (6 * k + i)) = 10 * (f1 (6 * k) - 48) + (f1 (6 * k + 1) - 48) := rfl
    refine ⟨?_, ?_, ?_, ?_, ?_⟩
    · rw [z0, show 48 + (10 * (f1 (6 * k) - 48) + (f1 (6 * k + 1) - 48)) / 10 = f1 (6 * k) by omega]
      exact (q5 _ (by omega)).2.1
    · rw [z0, show 48 + (10 * (f1 (6 * k) - 48) + (f1 (6 * k + 1) - 48)) % 10 = f1 (6 * k + 1) by omega]
      exact (q5 _ (by omega)).2.1
    · have : lK (vC 1 (fun i => f1 (6 * k + i))) = f1 (6 * k + 2) := by
        show lK (vK (f1 (6 * k + 2))) = _
        rcases (by omega : f1 (6 * k + 2) = 119 ∨ f1 (6 * k + 2) = 108 ∨ f1 (6 * k + 2) = 104) with h | h | h <;> (rw [h]; rfl)
      rw [this]
      exact (q5 _ (by omega)).2.1
    · rw [show 48 + vC 2 (fun i => f1 (6 * k + i)) = f1 (6 * k + 3) by show 48 + (f1 (6 * k + 3) - 48) = _; omega]
      exact (q5 _ (by omega)).2.1
    · rw [show 48 + vC 3 (fun i => f1 (6 * k + i)) = f1 (6 * k + 4) by show 48 + (f1 (6 * k + 4) - 48) = _; omega]
      exact (q5 _ (by omega)).2.1
  · show m2 ≤ n2
    rcases h2.2 with z | ⟨z, o⟩ <;> omega
  · intro k hk
    have hk' : k < m2 := hk
    rcases h2.2 with z | ⟨z, o⟩
    · omega
    rw [em]
    have : lM (vM (f2 k)) = f2 k := by
      rcases o k (by omega) with h | h | h | h | h <;> (rw [h]; rfl)
    rw [this]
    exact (u5 _ (by omega)).2.1
