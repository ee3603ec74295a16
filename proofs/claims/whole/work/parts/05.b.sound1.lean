/-! The small machine's world in the JVM's heap; each of its steps is a step of the JVM -/
def ra (base bs k : Nat) : Nat := if k = SCR then bs else base + k
def rv (base bs : Nat) (v : Value) : Value := match v with
  | .ref k => .ref (ra base bs k)
  | v => v
def rs (base bs : Nat) (st : List Value) : List Value := st.map (rv base bs)
def rl (base bs : Nat) (ls : tF) : tF := ls.map (fun q => (q.1, rv base bs q.2))
def rE (base bs : Nat) (tc : Nat → ClassId) (w : tW) (k : Nat) (c : tS) : va_E := match c with
  | .inl (ci, rf) => .inr (ci, (List.range (cN ci)).map (fun j => rv base bs (fv w k ci rf j)))
  | .inr (0, n, _) => .inl (tc 0, n, .inl (w.2.1 k))
  | .inr (1, n, _) => .inl (tc 1, n, .inr (.inl (w.2.2 k)))
  | .inr (kd + 2, n, rf) => .inl (tc (kd + 2), n, .inr (.inr (.inr (.inr (fun i => (rf.getD i none).map (ra base bs))))))
def rW (base bs : Nat) (tc : Nat → ClassId) (w : tW) : va_W := w.1.mapIdx (fun k c => (base + k, rE base bs tc w k c))
theorem rW_get (base bs : Nat) (tc : Nat → ClassId) (w : tW) (k : Nat) : (rW base bs tc w)[k]? = (w.1[k]?).map (fun c => (base + k, rE base bs tc w k c)) := by
  simp [rW, List.getElem?_mapIdx]
theorem rW_at {base bs : Nat} {tc : Nat → ClassId} {w : tW} {k : Nat} {c : tS} (h : w.1[k]? = some c) : (rW base bs tc w)[k]? = some (base + k, rE base bs tc w k c) := by
  rw [rW_get, h]; rfl
theorem rW_D (base bs : Nat) (tc : Nat → ClassId) (w : tW) : va_D (fun q => base ≤ q) (rW base bs tc w) := by
  refine ⟨fun i j x y hi hj hxy => ?_, fun k q hk => ?_⟩
  · rw [rW_get] at hi hj
    cases hc : w.1[i]? with
    | none => rw [hc] at hi; cases hi
    | some c =>
      cases hd : w.1[j]? with
      | none => rw [hd] at hj; cases hj
      | some d =>
        rw [hc] at hi; rw [hd] at hj
        cases hi; cases hj
        have h9 : base + i = base + j := hxy
        omega
  · rw [rW_get] at hk
    cases hc : w.1[k]? with
    | none => rw [hc] at hk; cases hk
    | some c => rw [hc] at hk; cases hk; exact Nat.le_add_right _ _
theorem rW_set {base bs : Nat} {tc : Nat → ClassId} {w w' : tW} {a : Nat} {c c' : tS} (h : w.1[a]? = some c) (hl : ∀ k, w'.1[k]? = if k = a then some c' else w.1[k]?) (he : ∀ k c, k ≠ a → rE base bs tc w' k c = rE base bs tc w k c) :
    (rW base bs tc w).set a (base + a, rE base bs tc w' a c') = rW base bs tc w' := by
  have hlt : a < (rW base bs tc w).length := by
    have := (List.getElem?_eq_some_iff.mp h).1
    simpa [rW] using this
  apply List.ext_getElem?
  intro k
  rw [rW_get, hl]
  by_cases hk : k = a
  · subst hk
    rw [List.getElem?_set_self hlt, if_pos rfl]; rfl
  · rw [List.getElem?_set_ne (Ne.symm hk), if_neg hk, rW_get]
    cases w.1[k]? with
    | none => rfl
    | some d => show some (base + k, _) = some (base + k, _); rw [he k d hk]
theorem rE_i {base bs : Nat} {tc : Nat → ClassId} {w : tW} {a j : Nat} {v : Int32} (k : Nat) (c : tS) (hk : k ≠ a) : rE base bs tc (w.1, up2 w.2.1 a j v, w.2.2) k c = rE base bs tc w k c := by
  have h1 : up2 w.2.1 a j v k = w.2.1 k := by funext y; simp [up2, hk]
  have h2 : ∀ ci rf q, fv (w.1, up2 w.2.1 a j v, w.2.2) k ci rf q = fv w k ci rf q := by
    intro ci rf q; unfold fv; simp only [h1]
  unfold rE
  split <;> simp only [h1, h2]
theorem rE_l {base bs : Nat} {tc : Nat → ClassId} {w : tW} {a j : Nat} {v : Int64} (k : Nat) (c : tS) (hk : k ≠ a) : rE base bs tc (w.1, w.2.1, up2 w.2.2 a j v) k c = rE base bs tc w k c := by
  have h1 : up2 w.2.2 a j v k = w.2.2 k := by funext y; simp [up2, hk]
  have h2 : ∀ ci rf q, fv (w.1, w.2.1, up2 w.2.2 a j v) k ci rf q = fv w k ci rf q := by
    intro ci rf q; unfold fv; simp only [h1]
  unfold rE
  split <;> simp only [h1, h2]
theorem rE_sh {base bs : Nat} {tc : Nat → ClassId} {w : tW} {sh : List tS} (k : Nat) (c : tS) : rE base bs tc (sh, w.2) k c = rE base bs tc w k c := by
  have h2 : ∀ ci rf q, fv (sh, w.2) k ci rf q = fv w k ci rf q := by
    intro ci rf q; unfold fv; rfl
  unfold rE
  split <;> simp only [h2]
theorem same_at {w : tW} {a : Nat} {c : tS} (h : w.1[a]? = some c) (k : Nat) : w.1[k]? = if k = a then some c else w.1[k]? := by
  by_cases hk : k = a
  · subst hk; rw [if_pos rfl]; exact h
  · rw [if_neg hk]
theorem set_at {w : tW} {a : Nat} {c c' : tS} (h : w.1[a]? = some c) (k : Nat) : (w.1.set a c')[k]? = if k = a then some c' else w.1[k]? := by
  have hlt := (List.getElem?_eq_some_iff.mp h).1
  by_cases hk : k = a
  · subst hk; rw [if_pos rfl, List.getElem?_set_self hlt]
  · rw [if_neg hk, List.getElem?_set_ne (Ne.symm hk)]

/-- what is known of an activation of method mi, with d calls below it allowed -/
def tCx (base bs : Nat) (dC : Nat → ClassId) (dI : Nat → Nat → Nat) (tc : Nat → ClassId) (sc : tSc) (p : Program) (R : Room) (s : State) (m : MethodId) (args : Array Value) (meth : Method) (c : Code) (mi d : Nat) : Prop :=
  p.tables.exec = Jvm.exec ∧ c.code = mCode mi ∧ c.maxLocals = mMax mi ∧ s.vm.findClass (clsN (mOwn mi)) = some m.cls ∧ (∀ w ∈ tTS, w.before args s = true) ∧
  va_K (dC, dI) vwCl [(tc 0, .int), (tc 1, .long), (tc 2, .object RX8), (tc 3, .object RX6), (tc 4, .array .int)] s ∧ (∀ w ∈ NWs, va_Nw w s) ∧ ((mNm mi).name = "<init>" → meth.name = "<init>") ∧
  d + 1 ≤ R.frames ∧ 40 * (d + 1) ≤ R.locals ∧ base ≤ s.heap.size ∧ (∀ L xs, sc = some (L, xs) → va_X bs L xs s s.heap ∧ bs < s.heap.size ∧ bs < base)
def tRel (base bs : Nat) (dC : Nat → ClassId) (dI : Nat → Nat → Nat) (tc : Nat → ClassId) (R : Room) (s : State) (w : tW) (b : tB) (H : Heap) (locs : List Loc) (cells slots : Nat) : Prop :=
  va_P (dC, dI) vwCl (rW base bs tc w) H ∧ va_S (fun q => base ≤ q) s.heap H locs ∧ (b.1 = true → H.size = base + w.1.length) ∧ cells + b.2.1 ≤ R.cells ∧ slots + b.2.2 ≤ R.slots ∧ w.1.length ≤ SCR
def tG (base bs : Nat) (dC : Nat → ClassId) (dI : Nat → Nat → Nat) (tc : Nat → ClassId) (p : Program) (l : Launch) (e : Env) (R : Room) (s : State) (m : MethodId) (args : Array Value) (below : List Frame) (meth : Method) (c : Code) (mi : Nat) (Z : State → Prop) (cf : tC) : Prop :=
  ∀ (H : Heap) (locs : List Loc) (cells slots : Nat) (la : Array Slot), tRel base bs dC dI tc R s cf.2.2.2.1 cf.2.2.2.2 H locs cells slots → lv_has la (mMax mi) (rl base bs cf.2.1) → W p l e R s m args below meth c H locs cells slots Z (F0 m cf.1 la (rs base bs cf.2.2.1))

theorem ins_spec {m pc : Nat} {i : Instr} {x : tX} (h : ins m pc = some (i, x)) : chk m (pc, i, x) = true := by
  unfold ins at h
  cases hz : iZ.find? (fun q => q.1 == m) with
  | none => rw [hz] at h; cases h
  | some q =>
    rw [hz] at h
    have hm : q ∈ iZ := List.mem_of_find?_eq_some hz
    have hq : q.1 = m := by simpa using List.find?_some hz
    have key : ∀ (l : List (Nat × Instr × tX)), fnd l pc = some (i, x) → (pc, i, x) ∈ l := by
      intro l
      induction l with
      | nil => intro hh; cases hh
      | cons e t ih =>
        intro hh
        unfold fnd at hh
        split at hh
        next he =>
          obtain ⟨e1, e2⟩ := e
          have he' : e1 = pc := he
          have h2 : e2 = (i, x) := Option.some.inj hh
          rw [he', h2]
          exact List.mem_cons_self
        next => exact List.mem_cons_of_mem _ (ih hh)
    have := iZ_ok q hm _ (key q.2 h)
    rw [hq] at this
    exact this
theorem ins_dec {m pc : Nat} {i : Instr} {x : tX} (h : ins m pc = some (i, x)) : ∃ n, decode (mCode m) pc = .ok (i, n) ∧ (isSw i = true ∨ n = ilen i) := by
  have h1 := ins_spec h
  unfold chk at h1
  simp only [Bool.and_eq_true] at h1
  have h2 := h1.1
  split at h2
  next j n hd =>
    simp only [Bool.and_eq_true, Bool.or_eq_true, decide_eq_true_eq] at h2
    exact ⟨n, by rw [hd, h2.1], h2.2⟩
  next => cases h2
theorem dec_of {m pc n : Nat} {i : Instr} {x : tX} (h : ins m pc = some (i, x)) (hs : isSw i = false) (hn : ilen i = n) : decode (mCode m) pc = .ok (i, n) := by
  obtain ⟨k, h1, h2⟩ := ins_dec h
  rcases h2 with h2 | h2
  · rw [hs] at h2; cases h2
  · rw [h1, h2, hn]
theorem wd {args : Array Value} {s : State} (hts : ∀ w ∈ tTS, w.before args s = true) {i : Nat} {w : Cond} (h : lwx[i]? = some w) (hg : goodWord w = true) : w.before args s = true := hts w (tTS_at i h hg)

theorem lget_at {base bs : Nat} {ls : tF} {i nL : Nat} {v : Value} {la : Array Slot} (hl : lv_has la nL (rl base bs ls)) (h : lget ls i = some v) : la[i]? = some (.val (rv base bs v)) := by
  have key : ∀ ls : tF, lget ls i = some v → (i, v) ∈ ls := by
    intro ls
    induction ls with
    | nil => intro hh; cases hh
    | cons q t ih =>
      intro hh
      obtain ⟨j, u⟩ := q
      unfold lget at hh
      split at hh
      next he => rw [he, Option.some.inj hh]; exact List.mem_cons_self
      next => exact List.mem_cons_of_mem _ (ih hh)
  exact hl.2.2 (i, rv base bs v) (List.mem_map.mpr ⟨(i, v), key ls h, rfl⟩)
theorem mem_lins {i : Nat} {v : Value} {q : Nat × Value} : ∀ {ls : tF}, q ∈ lins i v ls → q = (i, v) ∨ q ∈ ls
  | [], h => by simp [lins] at h; exact Or.inl h
  | (j, u) :: t, h => by
    unfold lins at h
    split at h
    · rcases List.mem_cons.mp h with h | h
      · exact Or.inl h
      · exact Or.inr h
    · rcases List.mem_cons.mp h with h | h
      · exact Or.inr (by rw [h]; exact List.mem_cons_self)
      · rcases mem_lins h with h | h
        · exact Or.inl h
        · exact Or.inr (List.mem_cons_of_mem _ h)
theorem rv_cat (base bs : Nat) (v : Value) : (rv base bs v).category = v.category := by cases v <;> rfl
theorem rs_cat (base bs : Nat) (st : List Value) : ((rs base bs st).map fun v => v.category).sum = (st.map fun v => v.category).sum := by
  unfold rs
  rw [List.map_map]
  congr 1
  apply List.map_congr_left
  intro v _
  exact rv_cat base bs v
theorem lset1_has {base bs : Nat} {ls : tF} {i nL : Nat} {v : Value} {la : Array Slot} (h : lv_has la nL ((i, rv base bs v) :: (rl base bs ls).filter (fun q => !(q.1 == i) && !(q.1 + 1 == i && q.2.category == 2)))) : lv_has la nL (rl base bs (lset1 ls i v)) := by
  refine ⟨h.1, h.2.1, fun q hq => h.2.2 q ?_⟩
  obtain ⟨u, hu, rfl⟩ := List.mem_map.mp hq
  rcases mem_lins hu with hu | hu
  · rw [hu]; exact List.mem_cons_self
  · refine List.mem_cons_of_mem _ (List.mem_filter.mpr ⟨List.mem_map.mpr ⟨u, (List.mem_filter.mp hu).1, rfl⟩, ?_⟩)
    have := (List.mem_filter.mp hu).2
    simp only [rv_cat]
    exact this
theorem lset2_has {base bs : Nat} {ls : tF} {i nL : Nat} {v : Value} {la : Array Slot} (h : lv_has la nL ((i, rv base bs v) :: (rl base bs ls).filter (fun q => !(q.1 == i) && (!(q.1 == i + 1) && !(q.1 + 1 == i && q.2.category == 2))))) : lv_has la nL (rl base bs (lset2 ls i v)) := by
  refine ⟨h.1, h.2.1, fun q hq => h.2.2 q ?_⟩
  obtain ⟨u, hu, rfl⟩ := List.mem_map.mp hq
  rcases mem_lins hu with hu | hu
  · rw [hu]; exact List.mem_cons_self
  · refine List.mem_cons_of_mem _ (List.mem_filter.mpr ⟨List.mem_map.mpr ⟨u, (List.mem_filter.mp hu).1, rfl⟩, ?_⟩)
    have := (List.mem_filter.mp hu).2
    simp only [rv_cat]
    exact this
theorem lflt_has {base bs : Nat} {o : Option (List Nat)} {ls : tF} {nL : Nat} {la : Array Slot} (h : lv_has la nL (rl base bs ls)) : lv_has la nL (rl base bs (lflt o ls)) := by
  refine ⟨h.1, h.2.1, fun q hq => h.2.2 q ?_⟩
  obtain ⟨u, hu, rfl⟩ := List.mem_map.mp hq
  refine List.mem_map.mpr ⟨u, ?_, rfl⟩
  unfold lflt at hu
  split at hu
  · exact hu
  · exact (List.mem_filter.mp hu).1
