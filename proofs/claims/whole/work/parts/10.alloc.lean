/-! cells that are made -/
theorem rW_push {base bs : Nat} {tc : Nat → ClassId} {D : va_G} {w w' : tW} {H H1 : Heap} (hP : va_P D vwCl (rW base bs tc w) H) (hold : ∀ q : Nat, q < H.size → H1[q]? = H[q]?) (hpre : ∀ k, k < w.1.length → w'.1[k]? = w.1[k]?) (he : ∀ k c, k < w.1.length → rE base bs tc w' k c = rE base bs tc w k c)
    (hnew : ∀ k c, w.1.length ≤ k → w'.1[k]? = some c → va_at D vwCl (base + k, rE base bs tc w' k c) H1) : va_P D vwCl (rW base bs tc w') H1 := by
  intro k q hk
  rw [rW_get] at hk
  cases hc : w'.1[k]? with
  | none => rw [hc] at hk; cases hk
  | some c =>
    rw [hc] at hk
    cases Option.some.inj hk
    show va_at D vwCl (base + k, rE base bs tc w' k c) H1
    by_cases hlt : k < w.1.length
    · rw [he k c hlt]
      have h0 := hP k _ (rW_at (base := base) (bs := bs) (tc := tc) ((hpre k hlt).symm.trans hc))
      exact h0.kept (hold _ h0.lt)
    · exact hnew k c (Nat.not_lt.mp hlt) hc
theorem rE_old {base bs : Nat} {tc : Nat → ClassId} {w w' : tW} {k : Nat} (h1 : w'.2.1 k = w.2.1 k) (h2 : w'.2.2 k = w.2.2 k) (c : tS) : rE base bs tc w' k c = rE base bs tc w k c := by
  have h3 : ∀ ci rf q, fv w' k ci rf q = fv w k ci rf q := by
    intro ci rf q; unfold fv; simp only [h1, h2]
  unfold rE
  split <;> simp only [h1, h2, h3]
theorem rep_getD (n j : Nat) : (List.replicate n (none : Option Nat)).getD j none = none := by
  rw [List.getD_eq_getElem?_getD, List.getElem?_replicate]
  split <;> rfl
def dfl (t : FieldType) : Value := match t with
  | .int => .int 0
  | .boolean => .int 0
  | .long => .long 0
  | _ => .null
theorem cty_dfl : ∀ ci, ci < 11 → ∀ j, j < cN ci → defaultValue (cty ci j) = dfl (cty ci j) := by decide +kernel
theorem ac_int : Cond.arrayClass .int ∈ tTS := tTS_all (ws := [.arrayClass .int]) (by decide +kernel) _ List.mem_cons_self
theorem ac_long : Cond.arrayClass .long ∈ tTS := tTS_all (ws := [.arrayClass .long]) (by decide +kernel) _ List.mem_cons_self
section SD3
variable {base bs : Nat} {dC : Nat → ClassId} {dI : Nat → Nat → Nat} {tc : Nat → ClassId} {sc : tSc} {p : Program} {l : Launch} {e : Env} {R : Room} {s : State} {m : MethodId} {args : Array Value} {below : List Frame} {meth : Method} {c : Code} {mi d : Nat} {Z : State → Prop}
variable {x : tX} {pc : Nat} {ls : tF} {st : List Value} {w : tW} {b : tB} {c' : tC}
theorem S_grow {H H1 : Heap} {locs : List Loc} (hS : va_S (fun q => base ≤ q) s.heap H locs) (hz : H.size ≤ H1.size) (ho : ∀ q : Nat, q < H.size → H1[q]? = H[q]?) : va_S (fun q => base ≤ q) s.heap H1 locs :=
  ⟨Nat.le_trans hS.1 hz, fun q h1 h2 => (ho q (Nat.lt_of_lt_of_le h1 hS.1)).trans (hS.2.1 q h1 h2), hS.2.2⟩
theorem sd_new {n : Nat} (C : tCx base bs dC dI tc sc p R s m args meth c mi d) (hi : ins mi pc = some (.new n, x)) (h : stp sc mi (.new n) x pc ls st w b = some (.inl c')) (k : tG base bs dC dI tc p l e R s m args below meth c mi Z c') : tG base bs dC dI tc p l e R s m args below meth c mi Z (pc, ls, st, w, b) := by
  obtain ⟨hx, hb, hml, hown, hts, hK, hNW, hini, hfr, hlo, hbase, hscr⟩ := C
  have hc := ins_spec hi
  unfold chk at hc
  simp only [Bool.and_eq_true] at hc
  have hc2 := hc.2
  simp only [stp, nx] at h
  split at h
  next hq =>
    obtain ⟨q1, q2, q3, q4, q5⟩ := hq
    cases Option.some.inj h
    split at hc2
    next a0 b0 c0 u0 r heq hcl =>
      simp only [Bool.and_eq_true, decide_eq_true_eq] at hc2
      obtain ⟨⟨l1, l2⟩, l3⟩ := hc2
      obtain ⟨Cn, T, N⟩ := r
      obtain ⟨hN, hin, hty, hnm⟩ := cls_facts x.1 _ hcl
      dsimp only at hN hin hty hnm l1 l2 l3
      intro H locs cells slots la hR hl
      have hsz := hR.2.2.1 q1
      have hKn := hK.1 x.1 _ hcl
      have r1 := hR.2.2.2.1
      have r2 := hR.2.2.2.2.1
      dsimp only at r1 r2 hsz
      refine W.newcK hx hb hown (wd hts l1 rfl) (wd hts l2 rfl) (wd hts l3 rfl) rfl (dec_of hi rfl rfl) (by omega) (by rw [hN]; omega) hKn.2.1 rfl fun H1 kC hkC e1 z1 o1 => ?_
      rw [hsz] at e1
      have hst : rs base bs (.ref w.1.length :: st) = .ref H.size :: rs base bs st := by rw [hsz]; simp [rs, rv, ra_of q5]
      refine W.cs rfl (by rw [hN]) ?_
      have hk := k H1 locs (cells + 1) (slots + cN x.1) la ?_ hl
      · rw [show (rs base bs (pc + 3, ls, Value.ref w.1.length :: st, (w.1 ++ [blankS x.1], (fun a k => if a = w.1.length then 0 else w.2.1 a k), fun a k => if a = w.1.length then 0 else w.2.2 a k), true, b.2.1 - 1, b.2.2 - cN x.1).2.2.1) = .ref H.size :: rs base bs st from hst] at hk
        exact hk
      · refine ⟨?_, S_grow hR.2.1 (by omega) o1, fun _ => by show H1.size = base + (w.1 ++ [blankS x.1]).length; simp; omega, by show cells + 1 + (b.2.1 - 1) ≤ R.cells; omega, by show slots + cN x.1 + (b.2.2 - cN x.1) ≤ R.slots; omega, by show (w.1 ++ [blankS x.1]).length ≤ SCR; simp; omega⟩
        refine rW_push hR.1 o1 (fun k hk => by show (w.1 ++ [blankS x.1])[k]? = _; rw [List.getElem?_append_left hk]) (fun k c hk => rE_old (by funext y; show (if k = w.1.length then _ else _) = _; rw [if_neg (Nat.ne_of_lt hk)]) (by funext y; show (if k = w.1.length then _ else _) = _; rw [if_neg (Nat.ne_of_lt hk)]) c) (fun k c hk hc => ?_)
        have hkl : w.1.length ≤ k := hk
        have hk0 : k = w.1.length := by
          have := (List.getElem?_eq_some_iff.mp hc).1
          have h9 : k < (w.1 ++ [blankS x.1]).length := this
          simp at h9; omega
        subst hk0
        have hc9 : (w.1 ++ [blankS x.1])[w.1.length]? = some c := hc
        rw [List.getElem?_append_right (Nat.le_refl _), Nat.sub_self] at hc9
        cases hc9
        refine ⟨_, hcl, (u_born (cty x.1) hts hin hKn hkC e1 hty).to (fun j hj => ?_)⟩
        have hj2 : j < cN x.1 := by rw [← hN]; exact hj
        rw [cty_dfl x.1 q4 j hj2]
        show _ = vp_V ((List.range (cN x.1)).map _) j
        unfold vp_V
        rw [List.getD_eq_getElem?_getD, rng_get _ hj2]
        show dfl (cty x.1 j) = rv base bs (fv _ w.1.length x.1 (List.replicate (cN x.1) none) j)
        unfold fv dfl
        rw [rep_getD]
        generalize cty x.1 j = t
        cases t <;> simp [rv, va_rf]
    next => cases hc2
  next => cases h
theorem sd_newarray {t : ArrayType} (C : tCx base bs dC dI tc sc p R s m args meth c mi d) (hi : ins mi pc = some (.newarray t, x)) (h : stp sc mi (.newarray t) x pc ls st w b = some (.inl c')) (k : tG base bs dC dI tc p l e R s m args below meth c mi Z c') : tG base bs dC dI tc p l e R s m args below meth c mi Z (pc, ls, st, w, b) := by
  obtain ⟨hx, hb, hml, hown, hts, hK, hNW, hini, hfr, hlo, hbase, hscr⟩ := C
  simp only [stp, nx] at h
  split at h
  next n r =>
    split at h
    next hq =>
      obtain ⟨q1, q2, q3, q4, q5, q6, q7⟩ := hq
      cases Option.some.inj h
      intro H locs cells slots la hR hl
      have hsz := hR.2.2.1 q1
      have r1 := hR.2.2.2.1
      have r2 := hR.2.2.2.2.1
      dsimp only at r1 r2 hsz
      have harr : (Cond.arrayClass (newarray.typeOf t)).before args s = true := by
        rcases q6 with rfl | rfl
        · exact hts _ ac_int
        · exact hts _ ac_long
      have hby : n.toNatClampNeg * componentBytes (newarray.typeOf t) ≤ 536870912 := by
        rcases q6 with rfl | rfl
        · show n.toNatClampNeg * 4 ≤ _; omega
        · show n.toNatClampNeg * 8 ≤ _; omega
      refine va_newaK hx hb harr rfl (dec_of hi rfl rfl) rfl q4 rfl hby (by omega) (by omega) rfl fun H1 cA e1 z1 o1 hAr hNm => ?_
      rw [hsz] at e1
      have hst : rs base bs (.ref w.1.length :: r) = .ref H.size :: rs base bs r := by rw [hsz]; simp [rs, rv, ra_of q7]
      have hk := k H1 locs (cells + 1) (slots + n.toNatClampNeg) la ?_ hl
      · rw [show (rs base bs (pc + 2, ls, Value.ref w.1.length :: r, (w.1 ++ [Sum.inr (if t = .int then 0 else 1, n.toNatClampNeg, [])], (fun a k => if a = w.1.length then 0 else w.2.1 a k), fun a k => if a = w.1.length then 0 else w.2.2 a k), true, b.2.1 - 1, b.2.2 - n.toNatClampNeg).2.2.1) = .ref H.size :: rs base bs r from hst] at hk
        exact hk
      · refine ⟨?_, S_grow hR.2.1 (by omega) o1, fun _ => by show H1.size = base + (w.1 ++ [_]).length; simp; omega, by show cells + 1 + (b.2.1 - 1) ≤ R.cells; omega, by show slots + n.toNatClampNeg + (b.2.2 - n.toNatClampNeg) ≤ R.slots; omega, by show (w.1 ++ [_]).length ≤ SCR; simp; omega⟩
        refine rW_push hR.1 o1 (fun k hk => by show (w.1 ++ [_])[k]? = _; rw [List.getElem?_append_left hk]) (fun k c hk => rE_old (by funext y; show (if k = w.1.length then _ else _) = _; rw [if_neg (Nat.ne_of_lt hk)]) (by funext y; show (if k = w.1.length then _ else _) = _; rw [if_neg (Nat.ne_of_lt hk)]) c) (fun k c hk hc => ?_)
        have hkl : w.1.length ≤ k := hk
        have hk0 : k = w.1.length := by
          have := (List.getElem?_eq_some_iff.mp hc).1
          have h9 : k < (w.1 ++ [(Sum.inr (if t = .int then 0 else 1, n.toNatClampNeg, []) : tS)]).length := this
          simp at h9; omega
        subst hk0
        have hc9 : (w.1 ++ [(Sum.inr (if t = .int then 0 else 1, n.toNatClampNeg, []) : tS)])[w.1.length]? = some c := hc
        rw [List.getElem?_append_right (Nat.le_refl _), Nat.sub_self] at hc9
        cases hc9
        rcases q6 with rfl | rfl
        · have hcA : tc 0 = cA := Option.some.inj ((hK.2 0 _ rfl).2.symm.trans hNm)
          show H1[base + w.1.length]? = some (vp_cell (tc 0) (n.toNatClampNeg, .inl (fun y => if w.1.length = w.1.length then 0 else w.2.1 w.1.length y)))
          rw [hcA, e1, vp_cell_i]
          congr 2
          funext j
          simp [newarray.typeOf, defaultValue]
        · have hcA : tc 1 = cA := Option.some.inj ((hK.2 1 _ rfl).2.symm.trans hNm)
          show H1[base + w.1.length]? = some (vp_cell (tc 1) (n.toNatClampNeg, .inr (.inl (fun y => if w.1.length = w.1.length then 0 else w.2.2 w.1.length y))))
          rw [hcA, e1, vp_cell_l]
          congr 2
          funext j
          simp [newarray.typeOf, defaultValue]
    next => cases h
  next => cases h
theorem sd_anewarray {i0 : Nat} (C : tCx base bs dC dI tc sc p R s m args meth c mi d) (hi : ins mi pc = some (.anewarray i0, x)) (h : stp sc mi (.anewarray i0) x pc ls st w b = some (.inl c')) (k : tG base bs dC dI tc p l e R s m args below meth c mi Z c') : tG base bs dC dI tc p l e R s m args below meth c mi Z (pc, ls, st, w, b) := by
  obtain ⟨hx, hb, hml, hown, hts, hK, hNW, hini, hfr, hlo, hbase, hscr⟩ := C
  have hc := ins_spec hi
  unfold chk at hc
  simp only [Bool.and_eq_true] at hc
  have hc2 := hc.2
  simp only [stp, nx] at h
  split at h
  next n r =>
    split at h
    next hq =>
      obtain ⟨q1, q2, q3, q4, q5, q6, q7⟩ := hq
      cases Option.some.inj h
      split at hc2
      next a0 b0 heq =>
        simp only [Bool.and_eq_true, decide_eq_true_eq] at hc2
        obtain ⟨l1, l2⟩ := hc2
        intro H locs cells slots la hR hl
        have hsz := hR.2.2.1 q1
        have r1 := hR.2.2.2.1
        have r2 := hR.2.2.2.2.1
        dsimp only at r1 r2 hsz
        have hov := hNW _ (List.mem_of_getElem? l2)
        refine W.anew hx hb hown (wd hts l1 rfl) hov rfl (dec_of hi rfl rfl) rfl q4 (by omega) (by omega) (by omega) fun cA kA comp f1 f2 f3 f4 => ?_
        generalize hH1 : H.push ({ cls := cA, slots := Array.replicate n.toNatClampNeg .null, vm := .none } : Cell) = H1
        have z1 : H1.size = H.size + 1 := by rw [← hH1, Array.size_push]
        have e1 : H1[H.size]? = some (arrV cA n.toNatClampNeg (fun _ => .null)) := by rw [← hH1, Array.getElem?_push_size, ← arrV_new]
        have o1 : ∀ q : Nat, q < H.size → H1[q]? = H[q]? := fun q hq => by rw [← hH1, Array.getElem?_push, if_neg (Nat.ne_of_lt hq)]
        rw [hsz] at e1
        have hst : rs base bs (.ref w.1.length :: r) = .ref H.size :: rs base bs r := by rw [hsz]; simp [rs, rv, ra_of q7]
        have hk := k H1 locs (cells + 1) (slots + n.toNatClampNeg) la ?_ hl
        · rw [show (rs base bs (pc + 3, ls, Value.ref w.1.length :: r, (w.1 ++ [Sum.inr (x.1, n.toNatClampNeg, List.replicate n.toNatClampNeg none)], w.2), true, b.2.1 - 1, b.2.2 - n.toNatClampNeg).2.2.1) = .ref H.size :: rs base bs r from hst] at hk
          exact hk
        · refine ⟨?_, S_grow hR.2.1 (by omega) o1, fun _ => by show H1.size = base + (w.1 ++ [_]).length; simp; omega, by show cells + 1 + (b.2.1 - 1) ≤ R.cells; omega, by show slots + n.toNatClampNeg + (b.2.2 - n.toNatClampNeg) ≤ R.slots; omega, by show (w.1 ++ [_]).length ≤ SCR; simp; omega⟩
          refine rW_push hR.1 o1 (fun k hk => by show (w.1 ++ [_])[k]? = _; rw [List.getElem?_append_left hk]) (fun k c hk => rE_old rfl rfl c) (fun k c hk hc => ?_)
          have hkl : w.1.length ≤ k := hk
          have hk0 : k = w.1.length := by
            have := (List.getElem?_eq_some_iff.mp hc).1
            have h9 : k < (w.1 ++ [(Sum.inr (x.1, n.toNatClampNeg, List.replicate n.toNatClampNeg none) : tS)]).length := this
            simp at h9; omega
          subst hk0
          have hc9 : (w.1 ++ [(Sum.inr (x.1, n.toNatClampNeg, List.replicate n.toNatClampNeg none) : tS)])[w.1.length]? = some c := hc
          rw [List.getElem?_append_right (Nat.le_refl _), Nat.sub_self] at hc9
          cases hc9
          have hfn : (fun i => ((List.replicate n.toNatClampNeg (none : Option Nat)).getD i none).map (ra base bs)) = fun _ => none := by
            funext i
            rw [rep_getD]; rfl
          rcases q6 with q6 | q6
          · rw [q6] at f1 f4 ⊢
            obtain ⟨k8, c8, g1, g2, g3, g4⟩ := (hK.2 2 _ rfl).2
            have hcA : tc 2 = cA := Option.some.inj (g4.symm.trans f1)
            show H1[base + w.1.length]? = some (vp_cell (tc 2) (n.toNatClampNeg, .inr (.inr (.inr (.inr (fun i => ((List.replicate n.toNatClampNeg (none : Option Nat)).getD i none).map (ra base bs)))))))
            rw [hfn, hcA, e1, vp_cell_q]; rfl
          · rw [q6] at f1 f4 ⊢
            obtain ⟨k8, c8, g1, g2, g3, g4⟩ := (hK.2 3 _ rfl).2
            have hcA : tc 3 = cA := Option.some.inj (g4.symm.trans f1)
            show H1[base + w.1.length]? = some (vp_cell (tc 3) (n.toNatClampNeg, .inr (.inr (.inr (.inr (fun i => ((List.replicate n.toNatClampNeg (none : Option Nat)).getD i none).map (ra base bs)))))))
            rw [hfn, hcA, e1, vp_cell_q]; rfl
      next => cases hc2
    next => cases h
  next => cases h
theorem nw_cast {C : String} (hNW : ∀ w ∈ NWs, va_Nw w s) (hm : Cond.castable C RX8 ∈ NWs) : ∀ comp c0 : ClassId, s.vm.findClass RX8 = some comp → s.vm.findClass C = some c0 → s.vm.assignable c0 comp = true := by
  intro comp c0 h1 h2
  obtain ⟨a, t, f1, f2, f3⟩ := Cond.castable_spec (va_Nw.use (A := #[]) rfl (hNW _ hm))
  cases f1.symm.trans h2
  cases f2.symm.trans h1
  exact f3
theorem sd_aastore (C : tCx base bs dC dI tc sc p R s m args meth c mi d) (hi : ins mi pc = some (.aastore, x)) (h : stp sc mi (.aastore) x pc ls st w b = some (.inl c')) (k : tG base bs dC dI tc p l e R s m args below meth c mi Z c') : tG base bs dC dI tc p l e R s m args below meth c mi Z (pc, ls, st, w, b) := by
  obtain ⟨hx, hb, hml, hown, hts, hK, hNW, hini, hfr, hlo, hbase, hscr⟩ := C
  have up : ∀ (rf : List (Option Nat)) (j v : Nat), j < rf.length → (fun i => ((rf.set j (some v)).getD i none).map (ra base bs)) = va_up (fun i => (rf.getD i none).map (ra base bs)) j (some (ra base bs v)) := by
    intro rf j v hj
    funext i
    by_cases hij : i = j
    · subst hij; simp [List.getD, va_up, List.getElem?_set_self hj]
    · simp [List.getD, va_up, hij, List.getElem?_set_ne (Ne.symm hij)]
  simp only [stp, nx] at h
  split at h
  next v j a r =>
    split at h
    next n rf ci rfv hw hv =>
      split at h
      next hq =>
        obtain ⟨q1, q2, q3⟩ := hq
        cases Option.some.inj h
        intro H locs cells slots la hR hl
        have ha : a < SCR := Nat.lt_of_lt_of_le (List.getElem?_eq_some_iff.mp hw).1 hR.2.2.2.2.2
        have hv9 : v < SCR := Nat.lt_of_lt_of_le (List.getElem?_eq_some_iff.mp hv).1 hR.2.2.2.2.2
        have hst : rs base bs (.ref v :: .int j :: .ref a :: r) = .ref (base + v) :: .int j :: .ref (base + a) :: rs base bs r := by simp [rs, rv, ra_of ha, ra_of hv9]
        have hjl : j.toNatClampNeg < rf.length := by rw [q2]; exact Nat.not_le.mp fun q => inB_in q1 (Or.inr q)
        show W p l e R s m args below meth c H locs cells slots Z (F0 m pc la (rs base bs (.ref v :: .int j :: .ref a :: r)))
        rw [hst]
        have hany : va_Any RX8 s H (base + v) := by
          rcases q3 with rfl | rfl | rfl
          · exact va_rAny hK hR.1 (rW_at hv) (ci := 1) rfl (nw_cast hNW (by decide +kernel))
          · exact va_rAny hK hR.1 (rW_at hv) (ci := 5) rfl (nw_cast hNW (by decide +kernel))
          · exact va_rAny hK hR.1 (rW_at hv) (ci := 7) rfl (nw_cast hNW (by decide +kernel))
        refine my_astq hx hb hK hR.1 (rW_D base bs tc w) hR.2.1 a 2 (rW_at hw) rfl hany (inB_in q1) (dec_of hi rfl rfl) (fun H1 locs1 p1 p2 p3 => ?_)
        refine k H1 locs1 cells slots la ⟨?_, p3, fun hq => by show H1.size = base + (w.1.set _ _).length; rw [p2, List.length_set]; exact hR.2.2.1 hq, hR.2.2.2.1, hR.2.2.2.2.1, by show (w.1.set _ _).length ≤ SCR; rw [List.length_set]; exact hR.2.2.2.2.2⟩ hl
        have := rW_set (base := base) (bs := bs) (tc := tc) (w' := (w.1.set a (.inr (2, n, rf.set j.toNatClampNeg (some v))), w.2)) (c' := .inr (2, n, rf.set j.toNatClampNeg (some v))) hw (set_at hw) (fun q c _ => rE_sh q c)
        rw [← this]
        rw [show base + v = ra base bs v from (ra_of hv9).symm, ← up rf j.toNatClampNeg v hjl] at p1
        exact p1
      next => cases h
    next n rf ci rfv hw hv =>
      split at h
      next hq =>
        obtain ⟨q1, q2, q3⟩ := hq
        cases Option.some.inj h
        intro H locs cells slots la hR hl
        have ha : a < SCR := Nat.lt_of_lt_of_le (List.getElem?_eq_some_iff.mp hw).1 hR.2.2.2.2.2
        have hv9 : v < SCR := Nat.lt_of_lt_of_le (List.getElem?_eq_some_iff.mp hv).1 hR.2.2.2.2.2
        have hst : rs base bs (.ref v :: .int j :: .ref a :: r) = .ref (base + v) :: .int j :: .ref (base + a) :: rs base bs r := by simp [rs, rv, ra_of ha, ra_of hv9]
        have hjl : j.toNatClampNeg < rf.length := by rw [q2]; exact Nat.not_le.mp fun q => inB_in q1 (Or.inr q)
        show W p l e R s m args below meth c H locs cells slots Z (F0 m pc la (rs base bs (.ref v :: .int j :: .ref a :: r)))
        rw [hst]
        subst q3
        have hany : va_Any RX6 s H (base + v) := va_rAny hK hR.1 (rW_at hv) (ci := 6) rfl (fun comp c0 h1 h2 => by
          cases h1.symm.trans h2
          have h9 := (hK.1 6 _ rfl).2
          cases h1.symm.trans h9.1
          exact va_assign h9)
        refine my_astq hx hb hK hR.1 (rW_D base bs tc w) hR.2.1 a 3 (rW_at hw) rfl hany (inB_in q1) (dec_of hi rfl rfl) (fun H1 locs1 p1 p2 p3 => ?_)
        refine k H1 locs1 cells slots la ⟨?_, p3, fun hq => by show H1.size = base + (w.1.set _ _).length; rw [p2, List.length_set]; exact hR.2.2.1 hq, hR.2.2.2.1, hR.2.2.2.2.1, by show (w.1.set _ _).length ≤ SCR; rw [List.length_set]; exact hR.2.2.2.2.2⟩ hl
        have := rW_set (base := base) (bs := bs) (tc := tc) (w' := (w.1.set a (.inr (3, n, rf.set j.toNatClampNeg (some v))), w.2)) (c' := .inr (3, n, rf.set j.toNatClampNeg (some v))) hw (set_at hw) (fun q c _ => rE_sh q c)
        rw [← this]
        rw [show base + v = ra base bs v from (ra_of hv9).symm, ← up rf j.toNatClampNeg v hjl] at p1
        exact p1
      next => cases h
    next => cases h
  next => cases h
theorem mn_outer (cc : ClassId) (N h0 : Nat) : ∀ i : Nat, Jvm.Free.Multi.outerC cc N h0 i = arrV cc N (fun j => va_rf (if j < i then some (h0 + 1 + j) else none))
  | 0 => by
    show ({ cls := cc, slots := Array.replicate N .null, vm := .none } : Cell) = _
    rw [arrV_new]
    refine congrArg (arrV cc N) (funext fun j => ?_)
    simp [va_rf]
  | i + 1 => by
    show (Jvm.Free.Multi.outerC cc N h0 i).setSlot i (.ref (h0 + 1 + i)) = _
    rw [mn_outer cc N h0 i, arrV_store]
    refine congrArg (arrV cc N) (funext fun j => ?_)
    by_cases e : j = i
    · subst e; simp [updV, va_rf]
    · by_cases h : j < i
      · simp [updV, e, h, Nat.lt_succ_of_lt h]
      · simp [updV, e, h, show ¬ j < i + 1 by omega]
theorem mn_name : "[" ++ (FieldType.array .int).toString = "[[I" := by decide +kernel
theorem mn_name2 : "[" ++ FieldType.int.toString = (FieldType.array .int).toString := by decide +kernel
theorem sd_multianewarray {i0 n0 : Nat} (C : tCx base bs dC dI tc sc p R s m args meth c mi d) (hi : ins mi pc = some (.multianewarray i0 n0, x)) (h : stp sc mi (.multianewarray i0 n0) x pc ls st w b = some (.inl c')) (k : tG base bs dC dI tc p l e R s m args below meth c mi Z c') : tG base bs dC dI tc p l e R s m args below meth c mi Z (pc, ls, st, w, b) := by
  obtain ⟨hx, hb, hml, hown, hts, hK, hNW, hini, hfr, hlo, hbase, hscr⟩ := C
  have hc := ins_spec hi
  unfold chk at hc
  simp only [Bool.and_eq_true, decide_eq_true_eq] at hc
  obtain ⟨-, hn0, hc2⟩ := hc
  subst hn0
  simp only [stp, nx] at h
  split at h
  next kk n r =>
    split at h
    next hq =>
      obtain ⟨q1, q2, q3, q4, q5, q6, q7, q8⟩ := hq
      cases Option.some.inj h
      split at hc2
      next a0 b0 heq =>
        simp only [Bool.and_eq_true, decide_eq_true_eq] at hc2
        obtain ⟨l1, l2⟩ := hc2
        intro H locs cells slots la hR hl
        have hsz := hR.2.2.1 q1
        have r1 := hR.2.2.2.1
        have r2 := hR.2.2.2.2.1
        dsimp only at r1 r2 hsz
        have hov := hNW _ (List.mem_of_getElem? l2)
        have hcl : (Cond.classLink (clsN (mOwn mi)) i0 ("[" ++ (FieldType.array .int).toString)).before args s = true := by rw [mn_name]; exact wd hts l1 rfl
        intro T hT Xs
        obtain ⟨vm₁, cA, comp, -, fA, fC, hO, -, X', step⟩ := Xs.multianewarray2F hx hown hcl hov (hts _ ac_int) (g := F0 m pc la (rs base bs (.int kk :: .int n :: r))) rfl (by rw [hb]; exact dec_of hi rfl rfl) rfl q4 q5 (by omega) (by show kk.toNatClampNeg * 4 ≤ _; omega) (by omega) rfl rfl (by omega) (by omega)
        generalize hF : Jvm.Free.Multi.fill (T.setVm vm₁) cA comp n.toNatClampNeg kk.toNatClampNeg (defaultValue .int) n.toNatClampNeg = F at X' step
        have hTh : (T.setVm vm₁).heap = H := hT
        obtain ⟨f1, f2, -, -⟩ := Jvm.Free.Multi.fill_facts (T.setVm vm₁) cA comp n.toNatClampNeg kk.toNatClampNeg (defaultValue .int) n.toNatClampNeg
        rw [hF, hTh] at f1 f2
        have hold : ∀ q : Nat, q < H.size → F.heap[q]? = H[q]? := fun q hq => by
          have := Jvm.Free.Multi.fill_old (T.setVm vm₁) cA comp n.toNatClampNeg kk.toNatClampNeg (defaultValue .int) (a := q) (by rw [hTh]; exact hq) n.toNatClampNeg
          rw [hF, hTh] at this
          exact this
        have hrow : ∀ j : Nat, j < n.toNatClampNeg → F.heap[H.size + 1 + j]? = some (Jvm.Free.Multi.innerC comp kk.toNatClampNeg (defaultValue .int)) := fun j hj => by
          have := Jvm.Free.Multi.fill_inner (T.setVm vm₁) cA comp n.toNatClampNeg kk.toNatClampNeg (defaultValue .int) n.toNatClampNeg j hj
          rw [hF, hTh] at this
          exact this
        rw [mn_outer] at f2
        have h4 : tc 4 = cA := Option.some.inj ((hK.2 4 _ rfl).2.symm.trans fA)
        have h0 : tc 0 = comp := by
          have h9 := (hK.2 0 _ rfl).2
          have h8 : s.vm.findClass ("[" ++ FieldType.int.toString) = some (tc 0) := h9
          rw [mn_name2] at h8
          exact Option.some.inj (h8.symm.trans fC)
        have hk : ∃ t, Steps p.tables e below (F.setTop (F0 m (pc + 4) la (rs base bs (.ref w.1.length :: r)))) t ∧ Z t := k F.heap locs (cells + 1 + n.toNatClampNeg) (slots + n.toNatClampNeg + n.toNatClampNeg * kk.toNatClampNeg) la ?_ hl F rfl X'
        · have e8 : rs base bs (.ref w.1.length :: r) = .ref (base + w.1.length) :: rs base bs r := by simp [rs, rv, ra_of (show w.1.length < SCR by omega)]
          rw [e8] at hk
          obtain ⟨t, a1, b1⟩ := hk
          refine ⟨t, step t ?_, b1⟩
          have e9 : T.heap.size = H.size := by rw [hT]
          rw [e9, hsz]
          exact a1
        · refine ⟨?_, S_grow hR.2.1 (by omega) hold, fun _ => by show F.heap.size = base + ((w.1 ++ [_]) ++ List.replicate _ _).length; simp; omega, by show cells + 1 + n.toNatClampNeg + (b.2.1 - (1 + n.toNatClampNeg)) ≤ R.cells; omega, by show slots + n.toNatClampNeg + n.toNatClampNeg * kk.toNatClampNeg + (b.2.2 - (n.toNatClampNeg + n.toNatClampNeg * kk.toNatClampNeg)) ≤ R.slots; omega, by show ((w.1 ++ [_]) ++ List.replicate _ _).length ≤ SCR; simp; omega⟩
          refine rW_push hR.1 hold (fun k hk => ?_) (fun k c hk => ?_) (fun k c hk hc => ?_)
          · show ((w.1 ++ [_]) ++ List.replicate _ _)[k]? = _
            have hk' : k < w.1.length := hk
            rw [List.getElem?_append_left (by simp; omega), List.getElem?_append_left hk']
          · have hk' : k < w.1.length := hk
            refine rE_old ?_ ?_ c
            · funext y
              show (if w.1.length ≤ k then 0 else w.2.1 k y) = _
              rw [if_neg (by omega)]
            · rfl
          · have hkl : w.1.length ≤ k := hk
            have hc9 : ((w.1 ++ [(Sum.inr (4, n.toNatClampNeg, (List.range n.toNatClampNeg).map (fun i => some (w.1.length + 1 + i))) : tS)]) ++ List.replicate n.toNatClampNeg (Sum.inr (0, kk.toNatClampNeg, [])))[k]? = some c := hc
            by_cases hk0 : k = w.1.length
            · subst hk0
              rw [List.getElem?_append_left (by simp), List.getElem?_append_right (Nat.le_refl _), Nat.sub_self] at hc9
              cases hc9
              show F.heap[base + w.1.length]? = some (vp_cell (tc 4) (n.toNatClampNeg, .inr (.inr (.inr (.inr (fun i => (((List.range n.toNatClampNeg).map (fun i => some (w.1.length + 1 + i))).getD i none).map (ra base bs)))))))
              rw [← hsz, f2, h4, vp_cell_q]
              congr 2
              funext j
              congr 1
              rw [List.getD_eq_getElem?_getD]
              by_cases hj : j < n.toNatClampNeg
              · rw [rng_get _ hj, if_pos hj]
                show _ = some (ra base bs (w.1.length + 1 + j))
                rw [ra_of (by omega), hsz]
                congr 1; omega
              · rw [if_neg hj, List.getElem?_eq_none (by simpa using hj)]; rfl
            · rw [List.getElem?_append_right (by simp; omega), List.getElem?_replicate] at hc9
              split at hc9
              next hlt =>
                cases hc9
                simp at hlt
                show F.heap[base + k]? = some (vp_cell (tc 0) (kk.toNatClampNeg, .inl (fun y => if w.1.length ≤ k then 0 else w.2.1 k y)))
                have e7 : base + k = H.size + 1 + (k - (w.1.length + 1)) := by omega
                rw [e7, hrow _ (by omega), h0, vp_cell_i]
                show some (({ cls := comp, slots := Array.replicate kk.toNatClampNeg (defaultValue .int), vm := .none } : Cell)) = _
                rw [arrV_new]
                congr 2
                funext j
                rw [if_pos hkl]; rfl
              next => cases hc9
      next => cases hc2
    next => cases h
  next => cases h
end SD3
