/-! the law by the small machine -/
/-! THE CLAIM OUT OF ONE WALK OF THE LAW'S BODY. Your part is whole_start (and what it stands on); all else here is the same for every law, but numbers. -/
def R_law : String := "StatueCoatsLaw"
def lw_P (b : Addr) (xs : List Int32) (args : Array Value) (s : State) : Prop := args = #[.ref b] ∧ s.IntsAt b xs ∧ xs.length ≤ 384 ∧ (Jvm.Cond.and given_1 narrow_1).before args s = true
def lw_Q (_ : Array Value) (s : State) (o : Outcome) (t : State) : Prop := o = .returned (some (.int 1)) ∧ Framed s o t [] 600000 7302250
def lw_Z (below : List Frame) (a : Array Value) (s : State) : State → Prop := fun t => ∃ o, t.status = .running ∧ Ended t below o ∧ lw_Q a s o t
/-- the law's own end, with 1 on the stack, nothing written that was there before, its room as the claim has it -/
theorem lw_ret {p : Program} {l : Launch} {e : Env} {s : State} {m : MethodId} {below : List Frame} {meth : Method} {c : Code} {b : Nat} (hx : p.tables.exec = Jvm.exec) (hb : c.code = code) (hr : meth.sig.returnType = ret) (hlocks : meth.locks = false) {pc : Nat} {H : Heap} {ls : Array Slot} (hdg : decode code pc = .ok (.ireturn, 1)) : W p l e room_1 s m #[Value.ref b] below meth c H [] 600000 7302250 (lw_Z below #[Value.ref b] s) (F0 m pc ls [.int 1]) := by
  intro T hT X
  obtain ⟨fs, hret, hrun, hended, hW, hframe⟩ := X.leave (v := some (.int 1)) (hlocks := hlocks) (fun h => by rw [hr] at h; cases h)
  have hmeth' : T.vm.method? m = some meth := X.method'
  refine ⟨T.setFrames fs, ?_, .returned (some (.int 1)), hrun, hended, rfl, ⟨_, rfl⟩, hW, hframe⟩
  jvm_step X.here [X.here.top, hx, hb, hdg, hmeth', hr, ret, narrow_b1]
  (try refine ⟨rfl, ?_⟩); (try refine ⟨rfl, ?_⟩)
  first | (intro acts; rw [hret _ acts rfl rfl rfl]) | rw [hret _ _ rfl rfl rfl]
  exact Steps.refl _
/-- what holds at the law's entry: the machine, the code, the tables' words (any of lw_tbl by 'hts w (by decide +kernel)'), the script of L ints xs at the cell b, what the Statement gives of the start (any of its parts by flat_of_before) -/
def lw_At (p : Program) (s : State) (m : MethodId) (meth : Method) (c : Code) (b L : Nat) (xs : Nat → Int32) : Prop :=
  p.tables.exec = Jvm.exec ∧ c.code = code ∧ meth.sig.returnType = ret ∧ c.maxLocals = 4 ∧ s.vm.findClass R_law = some m.cls ∧ (∀ w ∈ lw_tbl, w.before #[Value.ref b] s = true) ∧ va_X b L xs s s.heap ∧ b < s.heap.size ∧ meth.locks = false ∧ (Jvm.Cond.and given_1 narrow_1).before #[Value.ref b] s = true

theorem ty_prim {args : Array Value} {s : State} {t : FieldType} (h : (Cond.arrayClass t).before args s = true) (ho : ∀ C, t ≠ .object C) : ∃ c : ClassId, ArrOfT s c t ∧ va_RA s c t := by
  obtain ⟨c, k, comp, h1, h2, h3⟩ := Cond.arrayClass_spec h
  refine ⟨c, fun N z => ⟨(fun q hq => by cases hq), k, h2, comp, h3⟩, ?_⟩
  cases t <;> first | exact h1 | exact absurd rfl (ho _)
theorem ty_obj {s : State} {C : String} (h : va_AO C s) : ∃ c : ClassId, ArrOfT s c (.object C) ∧ va_RA s c (.object C) := by
  obtain ⟨comp, c, k, h1, h2, h3, h4, h5⟩ := Cond.arrayOver_spec h
  exact ⟨c, fun N z => ⟨(fun q hq => by cases hq), k, h3, comp, h4⟩, k, comp, h3, h4, h1, h5⟩
theorem ty_arr {s : State} {t : FieldType} {args : Array Value} (h : (Cond.arrayOver (.array t)).before args s = true) : ∃ c : ClassId, ArrOfT s c (.array t) ∧ va_RA s c (.array t) := by
  obtain ⟨comp, c, k, h1, h2, h3, h4⟩ := Cond.arrayOver_specA h
  exact ⟨c, fun N z => ⟨(fun q hq => by cases hq), k, h2, comp, h3⟩, h4⟩
theorem nw_all {s : State} {args : Array Value} (h : ∀ w ∈ lw_tbl, w.before args s = true) : ∀ w ∈ NWs, va_Nw w s := by
  intro w hw
  have hm : ∀ w ∈ NWs, w ∈ lw_tbl := by decide +kernel
  have h1 := h w (hm w hw)
  simp only [NWs, List.mem_cons, List.not_mem_nil, or_false] at hw
  rcases hw with rfl | rfl | rfl | rfl | rfl | rfl | rfl | rfl | rfl | rfl | rfl | rfl | rfl | rfl | rfl | rfl | rfl | rfl | rfl | rfl
  all_goals first | exact va_Nw.of rfl h1 | exact h1
theorem inst_at : ∀ ci : Nat, ci < 11 → ∃ r : vw_C, vwCl[ci]? = some r ∧ Cond.instantiable r.1 r.2.2 ∈ lw_tbl := by
  intro ci h
  match ci, h with
  | 0, _ => exact ⟨_, rfl, List.mem_of_getElem? (i := 291) (by decide +kernel)⟩
  | 1, _ => exact ⟨_, rfl, List.mem_of_getElem? (i := 135) (by decide +kernel)⟩
  | 2, _ => exact ⟨_, rfl, List.mem_of_getElem? (i := 204) (by decide +kernel)⟩
  | 3, _ => exact ⟨_, rfl, List.mem_of_getElem? (i := 224) (by decide +kernel)⟩
  | 4, _ => exact ⟨_, rfl, List.mem_of_getElem? (i := 252) (by decide +kernel)⟩
  | 5, _ => exact ⟨_, rfl, List.mem_of_getElem? (i := 147) (by decide +kernel)⟩
  | 6, _ => exact ⟨_, rfl, List.mem_of_getElem? (i := 317) (by decide +kernel)⟩
  | 7, _ => exact ⟨_, rfl, List.mem_of_getElem? (i := 85) (by decide +kernel)⟩
  | 8, _ => exact ⟨_, rfl, List.mem_of_getElem? (i := 161) (by decide +kernel)⟩
  | 9, _ => exact ⟨_, rfl, List.mem_of_getElem? (i := 77) (by decide +kernel)⟩
  | 10, _ => exact ⟨_, rfl, List.mem_of_getElem? (i := 959) (by decide +kernel)⟩
def w00 : tW := ([], fun _ _ => 0, fun _ _ => 0)
/-- the law's run in the small machine gives the claim's walk -/
theorem law_of (hrun : ∀ (L : Nat) (xs : Nat → Int32), L ≤ 384 → Wp (some (L, xs)) 100 220 (0, [(0, .ref SCR)], [], w00, (true, 196, 7188)) (fun v _ => v = some (.int 1))) {p : Program} {e : Env} {s : State} {m : MethodId} {below : List Frame} {meth : Method} {c : Code} (l : Launch) {b L : Nat} {xs : Nat → Int32} (hL : L ≤ 384) (C0 : lw_At p s m meth c b L xs) : W p l e room_1 s m #[Value.ref b] below meth c s.heap [] 0 0 (lw_Z below #[Value.ref b] s) (entryFrame m ([Value.ref b] : List Value).toArray 4) := by
  obtain ⟨hx, hb, hr, hml, hown, hts0, hX, hbl, hlocks, hgv⟩ := C0
  have htx := lwx_ok hts0
  have hts : ∀ w ∈ tTS, w.before #[Value.ref b] s = true := fun w hw => htx w (List.mem_filter.mp hw).1
  have hNW := nw_all hts0
  have hkn : ∀ ci : Nat, ∃ (cC : ClassId) (iS : Nat → Nat), ∀ r : vw_C, vwCl[ci]? = some r → u_Kn s r.1 r.2.1 r.2.2 cC iS := by
    intro ci
    by_cases h : ci < 11
    · obtain ⟨r, hr, hi⟩ := inst_at ci h
      obtain ⟨cC, iS, hK⟩ := u_known (C := r.1) (T := r.2.1) (N := r.2.2) hts (cls_facts ci r hr).2.1 (hts0 _ hi)
      exact ⟨cC, iS, fun r' hr' => by cases hr.symm.trans hr'; exact hK⟩
    · exact ⟨0, fun _ => 0, fun r hr => absurd (List.getElem?_eq_some_iff.mp hr).1 h⟩
  obtain ⟨t0, a0, b0⟩ := ty_prim (hts _ ac_int) (fun C => by intro h; cases h)
  obtain ⟨t1, a1, b1⟩ := ty_prim (hts _ ac_long) (fun C => by intro h; cases h)
  obtain ⟨t2, a2, b2⟩ := ty_obj (C := RX8) (hNW _ (by decide +kernel))
  obtain ⟨t3, a3, b3⟩ := ty_obj (C := RX6) (hNW _ (by decide +kernel))
  obtain ⟨t4, a4, b4⟩ := ty_arr (t := .int) (args := #[]) (hNW _ (by decide +kernel))
  let tc : Nat → ClassId := fun k => match k with | 0 => t0 | 1 => t1 | 2 => t2 | 3 => t3 | _ => t4
  let dC : Nat → ClassId := fun k => Classical.choose (hkn k)
  let dI : Nat → Nat → Nat := fun k => Classical.choose (Classical.choose_spec (hkn k))
  have hK : va_K (dC, dI) vwCl (tTy tc) s := by
    refine ⟨fun k q hq => Classical.choose_spec (Classical.choose_spec (hkn k)) q hq, fun k q hq => ?_⟩
    match k, hq with
    | 0, hq => cases hq; exact ⟨a0, b0⟩
    | 1, hq => cases hq; exact ⟨a1, b1⟩
    | 2, hq => cases hq; exact ⟨a2, b2⟩
    | 3, hq => cases hq; exact ⟨a3, b3⟩
    | 4, hq => cases hq; exact ⟨a4, b4⟩
    | k + 5, hq => simp at hq
  have hC : tCx s.heap.size b dC dI tc (some (L, xs)) p room_1 s m #[Value.ref b] meth c 220 100 := by
    refine ⟨hx, by rw [hb]; rfl, by rw [hml]; rfl, hown, hts, hK, hNW, fun h => absurd h (by decide +kernel), by decide +kernel, by decide +kernel, Nat.le_refl _, fun L' xs' h => ?_⟩
    cases h
    exact ⟨hX, hbl, hbl⟩
  obtain ⟨n, hn⟩ := hrun L xs hL
  have hl := lv_entry ([.ref b]) (n := 4) (Nat.le_of_ble_eq_true rfl)
  rw [lg_entry_eq]
  generalize (lg_sl ([.ref b]) ++ List.replicate (4 - (lg_sl ([.ref b])).length) Slot.unset).toArray = la at hl ⊢
  refine sound s.heap.size b dC dI tc l n 100 220 (some (L, xs)) _ _ hn hC ?_ s.heap [] 0 0 la ⟨fun k q h => by simp [rW, w00] at h, va_S.rf, fun _ => rfl, by decide +kernel, by decide +kernel, by decide +kernel⟩ hl
  intro v w b' H locs cells slots la pc hq hR hal hret
  subst hq
  have r1 := hR.2.2.2.1
  have r2 := hR.2.2.2.2.1
  refine va_forget (fun q hq => hR.2.1.2.2 q hq) ?_
  refine W.widen (k := 600000) (n := 7302250) (Nat.le_trans (Nat.le_add_right _ _) r1) (Nat.le_trans (Nat.le_add_right _ _) r2) ?_
  exact lw_ret hx hb hr hlocks hret.1
