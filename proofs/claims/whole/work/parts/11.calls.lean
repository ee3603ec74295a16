/-! calls: what a callee needs, what it gives back -/
theorem NW_warm {s U : State} (hW : s.WarmedH U.vm) (h : ∀ w ∈ NWs, va_Nw w s) : ∀ w ∈ NWs, va_Nw w U := by
  intro w hw
  have h1 := h w hw
  simp only [NWs, List.mem_cons, List.not_mem_nil, or_false] at hw
  rcases hw with rfl | rfl | rfl | rfl | rfl | rfl | rfl | rfl | rfl | rfl | rfl | rfl | rfl | rfl | rfl | rfl | rfl | rfl | rfl | rfl
  all_goals first | exact va_Nw.warmF hW h1 | exact va_Nw.warmM hW h1 | exact va_Nw.warmD hW h1 | exact va_Nw.warmC hW h1 | exact va_AO.moved hW.alike h1 | exact over_moved hW.alike h1
theorem NW_same {u U : State} (hv : u.vm = U.vm) (h : ∀ w ∈ NWs, va_Nw w u) : ∀ w ∈ NWs, va_Nw w U := by
  intro w hw
  have h1 := h w hw
  have ha : u.vm.Alike U.vm := by rw [hv]; exact Vm.Alike.refl _
  simp only [NWs, List.mem_cons, List.not_mem_nil, or_false] at hw
  rcases hw with rfl | rfl | rfl | rfl | rfl | rfl | rfl | rfl | rfl | rfl | rfl | rfl | rfl | rfl | rfl | rfl | rfl | rfl | rfl | rfl
  all_goals first | exact va_Nw.same rfl hv h1 | exact va_AO.moved ha h1 | exact over_moved ha h1
abbrev tTy (tc : Nat → ClassId) : List (ClassId × FieldType) := [(tc 0, .int), (tc 1, .long), (tc 2, .object RX8), (tc 3, .object RX6), (tc 4, .array .int)]
def wsF (f : Nat) : List Cond := Cond.code (mNm f) (mCode f) (mMax f) (mRet f) :: tTS
def rmF (d f : Nat) : Room := { frames := d + 1, cells := mCc f, slots := mSc f, locals := 40 * (d + 1) }
def PcF (base bs : Nat) (dC : Nat → ClassId) (dI : Nat → Nat → Nat) (tc : Nat → ClassId) (f : Nat) (as : List Value) (w : tW) : Array Value → State → Prop := va_Pc (rs base bs as) (fun U => va_P (dC, dI) vwCl (rW base bs tc w) U.heap ∧ va_K (dC, dI) vwCl (tTy tc) U ∧ (∀ w ∈ NWs, va_Nw w U) ∧ base ≤ U.heap.size ∧ (¬ mCc f = 0 → U.heap.size = base + w.1.length) ∧ w.1.length ≤ SCR)
def QcF (base bs : Nat) (dC : Nat → ClassId) (dI : Nat → Nat → Nat) (tc : Nat → ClassId) (f : Nat) (Q : tQ) : Array Value → State → Outcome → State → Prop := fun _ st oc t => (∃ v w', oc = .returned (v.map (rv base bs)) ∧ Q v w' ∧ va_P (dC, dI) vwCl (rW base bs tc w') t.heap ∧ (¬ mCc f = 0 → t.heap.size = base + w'.1.length) ∧ w'.1.length ≤ SCR) ∧ va_F (fun q => base ≤ q) st t
theorem mOK_at {f : Nat} (hf : f < 220) : lwx[mPl f]? = some (.code (mNm f) (mCode f) (mMax f) (mRet f)) ∧ plainName (mNm f).cls = true ∧ (mNm f).cls = clsN (mOwn f) ∧ mMax f ≤ 16 ∧ (mCc f = 0 → mSc f = 0) := by
  have h := mR_ok f (mR_in f hf)
  unfold mOK at h
  simp only [Bool.and_eq_true, decide_eq_true_eq] at h
  obtain ⟨⟨⟨⟨h1, h2⟩, h3⟩, h4⟩, h5⟩ := h
  exact ⟨h1, h2, h3, h4, h5⟩
theorem wsF_good {f : Nat} (hf : f < 220) : GoodIn tTS (wsF f) := by
  intro w hw
  rcases List.mem_cons.mp hw with hw | hw
  · rw [hw]; exact ⟨tTS_at _ (mOK_at hf).1 rfl, good_of_word rfl⟩
  · exact tTS_good w hw
section CG
variable {base bs : Nat} {dC : Nat → ClassId} {dI : Nat → Nat → Nat} {tc : Nat → ClassId} {sc : tSc} {p : Program} {l : Launch} {e : Env} {R : Room} {s : State} {m : MethodId} {args : Array Value} {below : List Frame} {meth : Method} {c : Code} {mi d : Nat} {Z : State → Prop}
variable {x : tX} {pc : Nat} {ls : tF} {st : List Value} {w : tW} {b : tB} {c' : tC} {H : Heap} {locs : List Loc} {cells slots : Nat} {la : Array Slot}
theorem Pc_blind {f : Nat} {as : List Value} : FrameBlind (PcF base bs dC dI tc f as w) := by
  intro a U g mk q
  obtain ⟨q1, q2, q3, q4, q5, q6, q7⟩ := q
  exact ⟨q1, q2, va_K.moved (u := U) (U := U.calling g mk a) (Vm.Alike.refl U.vm) q3, NW_same (u := U) (U := U.calling g mk a) rfl q4, q5, q6, q7⟩
theorem Pc_at {f : Nat} {as : List Value} (hP : va_P (dC, dI) vwCl (rW base bs tc w) H) (hK : va_K (dC, dI) vwCl (tTy tc) s) (hNW : ∀ w ∈ NWs, va_Nw w s) (hb0 : base ≤ H.size) (hz : ¬ mCc f = 0 → H.size = base + w.1.length) (hS : w.1.length ≤ SCR) : ∀ U : State, U.heap = H → s.WarmedH U.vm → PcF base bs dC dI tc f as w (rs base bs as).toArray U := by
  intro U hU hW
  exact ⟨rfl, by rw [hU]; exact hP, va_K.moved hW.alike hK, NW_warm hW hNW, by rw [hU]; exact hb0, by rw [hU]; exact hz, hS⟩
theorem call_go {f mc ms : Nat} {rest : List Value} {st0 : List Value} {Q' : tQ} {av : Array Value} (hr : va_Run p l e R s m args below meth c H locs cells slots mc ms (F0 m pc la st0) (rs base bs rest) (QcF base bs dC dI tc f Q' av) (fun q => base ≤ q)) (hS : va_S (fun q => base ≤ q) s.heap H locs)
    (kk : ∀ (v : Option Value) (w' : tW) (H1 : Heap) (locs1 : List Loc), Q' v w' → va_P (dC, dI) vwCl (rW base bs tc w') H1 → va_S (fun q => base ≤ q) s.heap H1 locs1 → (¬ mCc f = 0 → H1.size = base + w'.1.length) → w'.1.length ≤ SCR →
      W p l e R s m args below meth c H1 locs1 (cells + mc) (slots + ms) Z (F0 m (pc + 3) la (rs base bs (v.toList ++ rest)))) : W p l e R s m args below meth c H locs cells slots Z (F0 m pc la st0) := by
  intro T hT X
  obtain ⟨v, st₀, t, T', L, h0, X', hL, e1, e2, ⟨⟨v', w', hv, hq, h1, h2, h3⟩, hz, hk⟩, stp⟩ := hr T hT X
  have hv' : v = v'.map (rv base bs) := by cases hv; rfl
  rw [h0] at hz hk
  have hS1 : va_S (fun q => base ≤ q) s.heap T'.heap (locs ++ L) := by
    refine ⟨Nat.le_trans hS.1 (by rw [e1]; exact hz), fun q a1 a2 => by rw [e1, hk q (Nat.lt_of_lt_of_le a1 hS.1) a2]; exact hS.2.1 q a1 a2, fun q hq => ?_⟩
    rcases List.mem_append.mp hq with h | h
    · exact hS.2.2 q h
    · exact hL q h
  obtain ⟨t2, a1, b1⟩ := kk v' w' T'.heap (locs ++ L) hq (by rw [e1]; exact h1) hS1 (by rw [e1]; exact h2) h3 T' rfl X'
  refine ⟨t2, stp t2 ?_, b1⟩
  have e9 : rs base bs (v'.toList ++ rest) = v.toList ++ rs base bs rest := by rw [hv']; cases v' <;> simp [rs]
  rw [e9] at a1
  exact a1
/-- the room of a callee within ours -/
theorem rm_in {f : Nat} (hf : f < 220) (h1 : (d + 1) + 1 ≤ R.frames) (h2 : 40 * ((d + 1) + 1) ≤ R.locals) : (rmF d f).frames + 1 ≤ R.frames ∧ 8 + (mMax f + 11) + (rmF d f).locals ≤ R.locals := by
  have := (mOK_at hf).2.2.2.1
  exact ⟨h1, by show 8 + (mMax f + 11) + 40 * (d + 1) ≤ R.locals; omega⟩
theorem cb_of {o i f : Nat} (hf : f < 220) (hts : ∀ w ∈ tTS, w.before args s = true) (hm : mhOK (mNm f) (mPar f) = true) (hl : (Cond.methodLink (clsN o) i (mNm f)).before args s = true) (hini : (Cond.initialized (mNm f).cls).before args s = true) (hr : (rmF d f).frames + 1 ≤ R.frames ∧ 8 + (mMax f + 11) + (rmF d f).locals ≤ R.locals) :
    CallB R s args (clsN o) i (mNm f) (mCode f) (mMax f) (mRet f) (wsF f) (rmF d f) (mCc f) (mSc f) (mPar f) := by
  unfold mhOK at hm
  simp only [Bool.and_eq_true, decide_eq_true_eq] at hm
  refine ⟨rfl, rfl, hr.1, hr.2, pay_in hts (wsF_good hf), List.mem_cons_self, wd hts (mOK_at hf).1 rfl, hini, ⟨hm.1.1, hm.1.2⟩, fun sig h => ?_, hl⟩
  have h2 := hm.2
  rw [h] at h2
  exact (Option.some.inj h2).symm
end CG
/-! a static method by the name of a class that inherits it -/
theorem is_coldUp {Q : Unit → Pre} {E : CtlPost} {e : Env} {d : Bool} {acts : List Action} {s s₀ : State} {f : JFrame} {index ci n cn : Nat} {m : MethodId} {dk ck : Class} {cf : ClassFile} {name desc : String} (hs : s.topJava?.isSome) (hp : e.platform.polymorphicOnlyByInvokevirtual = true)
    (hW : s₀.WarmedH s.vm) (hE : s₀.MethodEntryUp e s.vm f.method.cls index cn m ci) (h1 : s₀.vm.classes[f.method.cls]? = some dk) (h2 : dk.cf = some cf)
    (h3 : cf.constantPool[index]? = some (.methodref ci n)) (h4 : cf.constantPool.nameAndType? n = some (name, desc))
    (hck : s₀.vm.classes[cn]? = some ck) (hnone : (ck.methods.any fun x => x.name == name && !x.isStatic && signaturePolymorphic ck x) = false) :
    Sem.wp (invokestatic.sem index) Q E e d acts (s.setTop f) ↔ Sem.wp (invokestatic.sem index) Q E e d acts ((s.setVm (s.vm.calledUp f.method.cls ci index cn m)).setTop f) := by
  obtain ⟨hgc, hrc, hW₁, hgm⟩ := hE.classFirst
  obtain ⟨k₀, hk₀, he₀⟩ := hW.alike.2.2 _ _ h1
  obtain ⟨k₂, hk₂, he₂⟩ := hE.warmed.alike.2.2 _ _ h1
  obtain ⟨c₁, hc₁, hec₁⟩ := hW₁.alike.2.2 _ _ hck
  obtain ⟨c₂, hc₂, hec₂⟩ := hE.warmed.alike.2.2 _ _ hck
  have h3' : cf.constantPool[index]? = some (if (false : Bool) then .interfaceMethodref ci n else .methodref ci n) := h3
  have hb₀ := memberRef_ask_via (e := e) hk₀ (by rw [he₀]; exact h2) h3' h4
  have hb₂ := memberRef_ask_via (e := e) hk₂ (by rw [he₂]; exact h2) h3' h4
  have hn₁ : (c₁.methods.any fun x => x.name == name && !x.isStatic && signaturePolymorphic c₁ x) = false := by rw [hec₁]; exact hnone
  have hn₂ : (c₂.methods.any fun x => x.name == name && !x.isStatic && signaturePolymorphic c₂ x) = false := by rw [hec₂]; exact hnone
  have hs₁ : (s.setVm (s.vm.noted f.method.cls ci (.cls cn))).topJava?.isSome := hs
  have hs₂ : (s.setVm (s.vm.calledUp f.method.cls ci index cn m)).topJava?.isSome := hs
  have hL : ∀ {Q' : ClassId → Pre} {d' : Bool} {acts' : List Action}, Sem.wp (Jvm.resolveClassAt ci) Q' E e d' acts' (s.setTop f) ↔ Q' cn d' acts' ((s.setVm (s.vm.noted f.method.cls ci (.cls cn))).setTop f) :=
    W.resolveClassAt_links (t := s.setTop f) (State.method?_setTop f hs) hgc
  have hM : ∀ {Q' : MethodId → Pre} {d' : Bool} {acts' : List Action}, Sem.wp (Jvm.resolveMethodAt index) Q' E e d' acts' ((s.setVm (s.vm.noted f.method.cls ci (.cls cn))).setTop f) ↔ Q' m d' acts' ((s.setVm (s.vm.calledUp f.method.cls ci index cn m)).setTop f) :=
    W.resolveMethodAt_links (t := (s.setVm (s.vm.noted f.method.cls ci (.cls cn))).setTop f) (State.method?_setTop f hs₁) hgm
  simp [invokestatic.sem, hp, Seam.memberRefOf, State.method?_setTop f hs, State.method?_setTop f hs₂, hb₀, hb₂, hL, W.resolveClassAt_ready (s := (s.setVm (s.vm.calledUp f.method.cls ci index cn m)).setTop f) (State.method?_setTop f hs₂) hE.classReady,
    hc₁, hc₂, hn₁, hn₂, hM, W.resolveMethodAt_ready (s := (s.setVm (s.vm.calledUp f.method.cls ci index cn m)).setTop f) (State.method?_setTop f hs₂) hE.ready, -Array.any_eq_true]
section ISU
variable {p : Program} {l : Launch} {e : Env} {R : Room} {s : State} {m : MethodId} {args : Array Value} {below : List Frame} {meth : Method} {c : Code} {T : State} {locs : List Loc} {cells slots : Nat}
theorem is_up (X : Stand p l e R s m args below meth c T locs cells slots) (hexec : p.tables.exec = Jvm.exec)
    {own owner : String} {index : Nat} {x : MethodName} (hown : s.vm.findClass own = some m.cls) (hlink : (Cond.methodLink own index x).before args s = true)
    (hsame : (Cond.sameMethod x.cls owner x.name x.desc).before args s = true) (howner : owner ≠ "java/lang/invoke/MethodHandle" ∧ owner ≠ "java/lang/invoke/VarHandle")
    {m' : MethodId} {meth' : Method} {k' : Class} (hn : s.methodNamed? ⟨owner, x.name, x.desc⟩ = some m') (hm' : s.vm.method? m' = some meth') (hstatic : meth'.isStatic = true)
    (hk' : s.vm.classes[m'.cls]? = some k') (hinit : k'.init = .initialized)
    {g : JFrame} (hg : g.method = m) {argsL rest : List Value} (hlen : argsL.length = meth'.sig.parameters.length) (hstack : g.stack = argsL.reverse ++ rest)
    (hdg : decode c.code g.pc = .ok (.invokestatic index, 3)) :
    ∃ vm', Stand p l e R s m args below meth c (T.setVm vm') locs cells slots ∧
      ∀ target, (∀ acts, Steps p.tables e below (doInvoke e ((T.setVm vm').setTop { g with stack := rest }) acts m' argsL.toArray).1 target) → Steps p.tables e below (T.setTop g) target := by
  have hpl : e.platform.magicAccessors = ({} : Platform).magicAccessors := by rw [X.admits.platform]
  have hpv : e.platform.polymorphicOnlyByInvokevirtual = true := by rw [X.admits.platform]
  obtain ⟨cn, ck, r1, hcn, hck, hni, hf, hn1⟩ := Cond.sameMethod_found hsame
  cases hn.symm.trans hn1
  obtain ⟨ci, hl, hright⟩ := Cond.methodLink_specUp hown hcn hck hni hf hlink e.platform hpl (by rw [X.admits.platform])
  have hE : s.MethodEntryUp e T.vm m.cls index cn m' ci := State.methodEntryUp X.warmed hl hright
  obtain ⟨kx, hkx, hnx⟩ := className_of_methodNamed hn
  cases hk'.symm.trans hkx
  obtain ⟨dk, cfile, nt, mname, mdesc, ck2, _, _, hd, hcf, hcp, hnt, -, -, hck2, -, hnopoly, -⟩ := hl.here
  cases hck.symm.trans hck2
  have alike := hE.warmed.alike
  obtain ⟨dk₂, hdk₂, hed₂⟩ := alike.2.2 _ _ hd
  obtain ⟨k₂, hk₂, he₂⟩ := alike.2.2 _ _ hk'
  obtain ⟨ck₃, hck₃, hec₃⟩ := alike.2.2 _ _ hck
  have hnone : (ck.methods.any fun y => y.name == mname && !y.isStatic && signaturePolymorphic ck y) = false := by simp [hnopoly]
  have hnone₂ : (ck₃.methods.any fun y => y.name == mname && !y.isStatic && signaturePolymorphic ck₃ y) = false := by rw [hec₃]; exact hnone
  have hcp' : cfile.constantPool[index]? = some (if (false : Bool) then .interfaceMethodref ci nt else .methodref ci nt) := hcp
  refine ⟨T.vm.calledUp m.cls ci index cn m', X.noted hE.warmed, fun target hrest => ?_⟩
  subst hg
  jvm_step X.here [hexec, hdg, is_coldUp (e := e) (s := T) (s₀ := s) (f := g) X.here.top hpv X.warmed hE hd hcf hcp hnt hck hnone,
    invokestatic.wp_ready (e := e) (s := T.setVm (T.vm.calledUp g.method.cls ci index cn m')) (k := k₂) (meth := meth') (m := m') (args := argsL) (rest := rest) (f := g)
      X.here.top ⟨ci, mname, mdesc, false, cn, ck₃, memberRef_ask_via (e := e) hdk₂ (by rw [hed₂]; exact hcf) hcp' hnt, hE.classReady, hck₃, hnone₂⟩ hE.ready hk₂
      (by show (T.vm.calledUp g.method.cls ci index cn m').method? m' = some meth'; rw [alike.method?]; exact hm') (by rw [he₂]; show signaturePolymorphic k' meth' = false; simp [signaturePolymorphic, hnx, howner.1, howner.2]) hstatic (by rw [he₂]; exact hinit) hlen hstack]
  exact fun acts => hrest _
end ISU
