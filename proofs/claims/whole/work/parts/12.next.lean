/-! calls and returns; the small machine is sound -/
theorem my_runSU {p : Program} {l : Launch} {e : Env} {R : Room} {s : State} {m : MethodId} {args : Array Value} {below : List Frame} {meth : Method} {c : Code} {H : Heap} {locs : List Loc} {cells slots : Nat} {x y : MethodName} {bytes cc : ByteArray} {maxL nL mc ms index : Nat} {ret : Option FieldType} {ws : List Cond} {rm : Room} {Pc : Array Value → State → Prop} {Qc : Array Value → State → Outcome → State → Prop} {free : Addr → Prop} {own owner : String} {As rest : List Value} {g : JFrame}
    (hx : p.tables.exec = Jvm.exec) (hb : c.code = cc) (hml : c.maxLocals = nL) (ho : s.vm.findClass own = some m.cls) (hM : Met l y ws rm Pc Qc mc ms free) (hrc : rm.cells = mc) (hrs : rm.slots = ms) (hfr : rm.frames + 1 ≤ R.frames) (hlo : 8 + (maxL + 11) + rm.locals ≤ R.locals) (hws : ∀ w ∈ ws, ∀ (a' : Array Value) (U : State), s.WarmedH U.vm → w.before a' U = true) (hcw : Cond.code y bytes maxL ret ∈ ws)
    (hcode : (Cond.code y bytes maxL ret).before args s = true) (hini : (Cond.initialized y.cls).before args s = true) (hstat : (Cond.static y).before args s = true) (hlink : (Cond.methodLink own index x).before args s = true) (hsame : (Cond.sameMethod x.cls owner x.name x.desc).before args s = true) (hyx : y = ⟨owner, x.name, x.desc⟩) (howner : owner ≠ "java/lang/invoke/MethodHandle" ∧ owner ≠ "java/lang/invoke/VarHandle")
    (hlen : ∀ sig, parseMethodDescriptor y.desc = some sig → As.length = sig.parameters.length) (hp : PreS s H Pc As) (hg : g.method = m) (hsize : g.locals.size = nL) (hstack : g.stack = As.reverse ++ rest) (hW : 2 * g.monitorRoom + (rest.map fun v => v.category).sum ≤ 8) (hdg : decode cc g.pc = .ok (.invokestatic index, 3)) (hf : cells + mc ≤ R.cells ∧ slots + ms ≤ R.slots) :
    va_Run p l e R s m args below meth c H locs cells slots mc ms g rest (Qc As.toArray) (free) := by
  have hK : Back l R p e below s args y 3 8 (PreOf R mc ms Pc) (PostOf Qc mc ms free) := back_of (bytes := bytes) (maxL := maxL) (ret := ret) hM hp.1 hrc hrs hfr hlo hws hcw (fun a' U hW => word_at hW (Or.inl (by first | rfl | simp [Cond.onTables, Cond.keeps, Cond.steady])) hini)
  intro T hT X
  obtain ⟨mk, hnamed⟩ := Cond.code_named hcode
  obtain ⟨methM, cM, hmethM, -, -, -, -, -, -, hsigM⟩ := Cond.code_spec hnamed hcode
  have hstatic : methM.isStatic = true := Cond.static_spec hnamed hmethM hstat
  obtain ⟨kP, hkP, -⟩ := className_of_methodNamed hnamed
  have hinitP : kP.init = .initialized := Cond.initialized_spec (findClass_of_methodNamed hnamed) hkP hini
  obtain ⟨vm₁, X₁, hstep₁⟩ := is_up X hx ho hlink hsame howner (by rw [← hyx]; exact hnamed) hmethM hstatic hkP hinitP hg (argsL := As) (rest := rest) (hlen _ hsigM) hstack (by rw [hb]; exact hdg)
  obtain ⟨v, B, X', hpost, hsteps⟩ := hK m meth c ⟨T.setVm vm₁, locs, cells, slots⟩ { g with stack := rest } (.invokestatic index) mk As.toArray X₁ hg (hsize.trans hml.symm) (by rw [hb]; exact hdg) hW (X₁.named hnamed) ⟨hf.1, hf.2, hp.2 (T.setVm vm₁) hT X₁.warmed⟩
  obtain ⟨U', l2, c2, s2⟩ := B
  obtain ⟨g', mk', t, L, e1, e2, hq, h1, hL, h2, h3⟩ := hpost
  dsimp only [Pt.U, Pt.locs, Pt.cells, Pt.slots] at X' e1 e2 h1 h2 h3 hsteps
  subst h1; subst h2; subst h3
  exact ⟨v, (T.setVm vm₁).calling g' mk' As.toArray, t, U', L, hT, X', hL, e1, e2, hq, fun target h => hstep₁ _ fun acts => by rw [doInvoke_state]; exact hsteps.trans h⟩
theorem mt_rowV {m pc n : Nat} {x : tX} (hi : ins m pc = some (.invokevirtual n, x)) {ci r : Nat} (h : rowOf x ci = some r) {o i kd c1 f : Nat} {ref own : String} {ps : List Nat} (hr : mTr[r]? = some (o, i, kd, c1, f, ref, own, ps)) : tOK (o, i, kd, c1, f, ref, own, ps) = true ∧ o = mOwn m ∧ i = n ∧ c1 = ci ∧ mPar f = x.1 := by
  have hc := ins_spec hi
  unfold chk at hc
  simp only [Bool.and_eq_true] at hc
  have hc2 := hc.2
  unfold rowOf at h
  cases hf : x.2.2.1.find? (fun q => q.1 == ci) with
  | none => rw [hf] at h; cases h
  | some q =>
    rw [hf] at h
    have hm := List.mem_of_find?_eq_some hf
    have hq : q.1 = ci := by simpa using List.find?_some hf
    have hq2 : q.2 = r := Option.some.inj h
    have h3 := List.all_eq_true.mp hc2 q hm
    rw [hq2, hr] at h3
    refine ⟨mTr_ok _ (List.mem_of_getElem? hr), ?_⟩
    simp only [Bool.and_eq_true, Bool.or_eq_true, decide_eq_true_eq] at h3
    exact ⟨h3.1.1.1.1, h3.1.1.1.2, by rw [h3.1.1.2, hq], h3.2⟩
theorem mt_rowS {m pc n : Nat} {x : tX} (hi : ins m pc = some (.invokestatic n, x)) {ci r : Nat} (h : rowOf x ci = some r) {o i kd c1 f : Nat} {ref own : String} {ps : List Nat} (hr : mTr[r]? = some (o, i, kd, c1, f, ref, own, ps)) : tOK (o, i, kd, c1, f, ref, own, ps) = true ∧ o = mOwn m ∧ i = n ∧ (kd = 8 ∨ kd = 10 ∨ kd = 11 ∨ kd = 12 ∨ mPar f = x.1) := by
  have hc := ins_spec hi
  unfold chk at hc
  simp only [Bool.and_eq_true] at hc
  have hc2 := hc.2
  unfold rowOf at h
  cases hf : x.2.2.1.find? (fun q => q.1 == ci) with
  | none => rw [hf] at h; cases h
  | some q =>
    rw [hf] at h
    have hm := List.mem_of_find?_eq_some hf
    have hq : q.1 = ci := by simpa using List.find?_some hf
    have hq2 : q.2 = r := Option.some.inj h
    have h3 := List.all_eq_true.mp hc2 q hm
    rw [hq2, hr] at h3
    refine ⟨mTr_ok _ (List.mem_of_getElem? hr), ?_⟩
    simp only [Bool.and_eq_true, Bool.or_eq_true, decide_eq_true_eq] at h3
    refine ⟨h3.1.1, h3.1.2, ?_⟩
    rcases h3.2 with (((h | h) | h) | h) | h
    · exact Or.inl h
    · exact Or.inr (Or.inl h)
    · exact Or.inr (Or.inr (Or.inl h))
    · exact Or.inr (Or.inr (Or.inr (Or.inl h)))
    · exact Or.inr (Or.inr (Or.inr (Or.inr h.2)))
theorem mt_rowI {m pc n : Nat} {x : tX} (hi : ins m pc = some (.invokespecial n, x)) {ci r : Nat} (h : rowOf x ci = some r) {o i kd c1 f : Nat} {ref own : String} {ps : List Nat} (hr : mTr[r]? = some (o, i, kd, c1, f, ref, own, ps)) : tOK (o, i, kd, c1, f, ref, own, ps) = true ∧ o = mOwn m ∧ i = n ∧ (kd = 9 ∨ mPar f = x.1) := by
  have hc := ins_spec hi
  unfold chk at hc
  simp only [Bool.and_eq_true] at hc
  have hc2 := hc.2
  unfold rowOf at h
  cases hf : x.2.2.1.find? (fun q => q.1 == ci) with
  | none => rw [hf] at h; cases h
  | some q =>
    rw [hf] at h
    have hm := List.mem_of_find?_eq_some hf
    have hq : q.1 = ci := by simpa using List.find?_some hf
    have hq2 : q.2 = r := Option.some.inj h
    have h3 := List.all_eq_true.mp hc2 q hm
    rw [hq2, hr] at h3
    refine ⟨mTr_ok _ (List.mem_of_getElem? hr), ?_⟩
    simp only [Bool.and_eq_true, Bool.or_eq_true, decide_eq_true_eq] at h3
    refine ⟨h3.1.1, h3.1.2, ?_⟩
    rcases h3.2 with h | h
    · exact Or.inl h
    · exact Or.inr h.2
theorem tOK_0 {o i ci f : Nat} {ref own : String} {ps : List Nat} : tOK (o, i, 0, ci, f, ref, own, ps) = (match vwCl[ci]?, ps with
  | some (C, _), [a, b, c, d] => mhOK (mNm f) (mPar f) && decide ((mNm f).cls = C) && decide (lwx[a]? = some (.methodLink (clsN o) i (mNm f))) && decide (lwx[b]? = some (.instanceMethod (mNm f))) && decide (lwx[c]? = some (.selects C (mNm f) (mNm f))) && decide (lwx[d]? = some (.initialized C))
  | _, _ => false) := rfl
theorem tOK_1 {o i ci f : Nat} {ref own : String} {ps : List Nat} : tOK (o, i, 1, ci, f, ref, own, ps) = (match vwCl[ci]?, ps with
  | some (C, _), [a, b, c, d, e, g] => mhOK ⟨own, (mNm f).name, (mNm f).desc⟩ (mPar f) && decide (lwx[a]? = some (.methodLink (clsN o) i ⟨ref, (mNm f).name, (mNm f).desc⟩)) && decide (lwx[b]? = some (.sameMethod ref own (mNm f).name (mNm f).desc)) && decide (lwx[c]? = some (.selects C ⟨ref, (mNm f).name, (mNm f).desc⟩ (mNm f))) && decide (lwx[d]? = some (.instanceMethod (mNm f))) && decide (lwx[e]? = some (.initialized (mNm f).cls)) &&
    (if g = 0 then decide ((mNm f).cls = own) else decide (NWs[g - 1]? = some (.declares ⟨own, (mNm f).name, (mNm f).desc⟩)))
  | _, _ => false) := rfl
theorem tOK_2 {o i ci f : Nat} {ref own : String} {ps : List Nat} : tOK (o, i, 2, ci, f, ref, own, ps) = (match ps with
  | [a, b, c, _] => mhOK (mNm f) (mPar f) && decide (lwx[a]? = some (.methodLink (clsN o) i (mNm f))) && decide (lwx[b]? = some (.static (mNm f))) && decide (lwx[c]? = some (.initialized (mNm f).cls))
  | _ => false) := rfl
theorem tOK_3 {o i ci f : Nat} {ref own : String} {ps : List Nat} : tOK (o, i, 3, ci, f, ref, own, ps) = (match ps with
  | [a, b, c, _] => mhOK (mNm f) (mPar f) && decide ((mNm f).name = "<init>") && decide (mRet f = none) && decide (lwx[a]? = some (.methodLink (clsN o) i (mNm f))) && decide (lwx[b]? = some (.instanceMethod (mNm f))) && decide (lwx[c]? = some (.initialized (mNm f).cls))
  | _ => false) := rfl
theorem tOK_4 {o i ci f : Nat} {ref own : String} {ps : List Nat} : tOK (o, i, 4, ci, f, ref, own, ps) = (match ps with
  | [a, b, c, _] => mhOK (mNm f) (mPar f) && decide ((mNm f).name = "<init>") && decide (mRet f = none) && decide (NWs[a]? = some (.methodLinkNest (clsN o) i (mNm f) RX10)) && decide (lwx[b]? = some (.instanceMethod (mNm f))) && decide (lwx[c]? = some (.initialized (mNm f).cls))
  | _ => false) := rfl
theorem tOK_6 {o i ci f : Nat} {ref own : String} {ps : List Nat} : tOK (o, i, 6, ci, f, ref, own, ps) = (match ps with
  | [a, b, c, d] => mhOK (mNm f) (mPar f) && decide ((mNm f).cls = own) && decide (lwx[a]? = some (.methodLink (clsN o) i ⟨ref, (mNm f).name, (mNm f).desc⟩)) && decide (lwx[b]? = some (.static (mNm f))) && decide (lwx[c]? = some (.initialized (mNm f).cls)) && decide (lwx[d]? = some (.sameMethod ref own (mNm f).name (mNm f).desc))
  | _ => false) := rfl
theorem tOK_8 {o i ci f : Nat} {ref own : String} {ps : List Nat} : tOK (o, i, 8, ci, f, ref, own, ps) = (match ps with
  | [a, b, c, d] => decide (lwx[a]? = some (.methodLink (clsN o) i arraycopyName)) && decide (lwx[b]? = some (.native arraycopyName)) && decide (lwx[c]? = some (.static arraycopyName)) && decide (lwx[d]? = some (.initialized "java/lang/System"))
  | _ => false) := rfl
theorem tOK_10 {o i ci f : Nat} {ref own : String} {ps : List Nat} : tOK (o, i, 10, ci, f, ref, own, ps) = (match ps with
  | [a, b, c, d] => decide (lwx[a]? = some (.methodLink (clsN o) i Lib.Math.max.name)) && decide (lwx[b]? = some (.static Lib.Math.max.name)) && decide (lwx[c]? = some (.initialized "java/lang/Math")) && decide (lwx[d]? = some (.code Lib.Math.max.name Lib.Math.max.code 2 (some .int)))
  | _ => false) := rfl
theorem tOK_11 {o i ci f : Nat} {ref own : String} {ps : List Nat} : tOK (o, i, 11, ci, f, ref, own, ps) = (match ps with
  | [a, b, c, d] => decide (lwx[a]? = some (.methodLink (clsN o) i Lib.Math.min.name)) && decide (lwx[b]? = some (.static Lib.Math.min.name)) && decide (lwx[c]? = some (.initialized "java/lang/Math")) && decide (lwx[d]? = some (.code Lib.Math.min.name Lib.Math.min.code 2 (some .int)))
  | _ => false) := rfl
theorem tOK_12 {o i ci f : Nat} {ref own : String} {ps : List Nat} : tOK (o, i, 12, ci, f, ref, own, ps) = (match ps with
  | [a, b, c, d] => decide (lwx[a]? = some (.methodLink (clsN o) i Lib.Math.abs.name)) && decide (lwx[b]? = some (.static Lib.Math.abs.name)) && decide (lwx[c]? = some (.initialized "java/lang/Math")) && decide (lwx[d]? = some (.code Lib.Math.abs.name Lib.Math.abs.code 1 (some .int)))
  | _ => false) := rfl
theorem tOK_9 {o i ci f : Nat} {ref own : String} {ps : List Nat} : tOK (o, i, 9, ci, f, ref, own, ps) = (match ps with
  | [a, b, _, _] => decide (lwx[a]? = some (.methodLink (clsN o) i objectInit)) && decide (lwx[b]? = some (.instanceMethod objectInit))
  | _ => false) := rfl
theorem take_rev {base bs n : Nat} {st : List Value} : rs base bs st = (rs base bs (st.take n).reverse).reverse ++ rs base bs (st.drop n) := by
  unfold rs
  rw [← List.map_reverse, List.reverse_reverse, ← List.map_append, List.take_append_drop]
theorem rE_cp {base bs : Nat} {tc : Nat → ClassId} {w : tW} {a t sp dp n : Nat} (k : Nat) (c : tS) (hk : k ≠ t) : rE base bs tc (w.1, cpy2 w.2.1 a t sp dp n, w.2.2) k c = rE base bs tc w k c := by
  refine rE_old ?_ ?_ c
  · funext y; simp [cpy2, hk]
  · rfl
theorem nfw : nativeFrameWords "java/lang/System" "arraycopy" 5 = 7 := by decide +kernel
theorem oi_code : Cond.code objectInit ⟨#[0xb1]⟩ 1 none ∈ tTS := tTS_all (ws := [.code objectInit ⟨#[0xb1]⟩ 1 none]) (by decide +kernel) _ List.mem_cons_self
section SD4
variable {base bs : Nat} {dC : Nat → ClassId} {dI : Nat → Nat → Nat} {tc : Nat → ClassId} {sc : tSc} {p : Program} {l : Launch} {e : Env} {R : Room} {s : State} {m : MethodId} {args : Array Value} {below : List Frame} {meth : Method} {c : Code} {mi d : Nat} {Z : State → Prop}
variable {x : tX} {pc : Nat} {ls : tF} {st : List Value} {w : tW} {b : tB} {c' : tC}
theorem s_call_inl {f : Nat} {as rest : List Value} (h : s_call pc f as ls rest w b = some (.inl c')) : False := by
  unfold s_call at h
  split at h
  · split at h
    · cases h
    · split at h <;> cases h
  · cases h
theorem sd_invokestatic {n : Nat} (C : tCx base bs dC dI tc sc p R s m args meth c mi d) (hi : ins mi pc = some (.invokestatic n, x)) (h : stp sc mi (.invokestatic n) x pc ls st w b = some (.inl c')) (k : tG base bs dC dI tc p l e R s m args below meth c mi Z c') : tG base bs dC dI tc p l e R s m args below meth c mi Z (pc, ls, st, w, b) := by
  obtain ⟨hx, hb, hml, hown, hts, hK, hNW, hini, hfr, hlo, hbase, hscr⟩ := C
  simp only [stp, nx] at h
  split at h
  next r hrow =>
    split at h
    next o i kd c1 f rst hmt =>
      obtain ⟨ref, own, ps⟩ := rst
      obtain ⟨hok, ho, hi2, hpar⟩ := mt_rowS hi hrow hmt
      subst ho; subst hi2
      split at h
      next hk8 =>
        subst hk8
        rw [tOK_8] at hok
        split at hok
        next a1 a2 a3 a4 =>
          simp only [Bool.and_eq_true, decide_eq_true_eq] at hok
          obtain ⟨⟨⟨w1, w2⟩, w3⟩, w4⟩ := hok
          split at h
          next n1 dp t sp s1 rest =>
            split at h
            next n0 rf0 n2 rf1 hs1 ht1 =>
              split at h
              next hq =>
                obtain ⟨g1, g2, g3, g4, g5, g6⟩ := hq
                subst g6
                cases Option.some.inj h
                intro H locs cells slots la hR hl
                have hS1 : s1 < SCR := Nat.lt_of_lt_of_le (List.getElem?_eq_some_iff.mp hs1).1 hR.2.2.2.2.2
                have hT1 : t < SCR := Nat.lt_of_lt_of_le (List.getElem?_eq_some_iff.mp ht1).1 hR.2.2.2.2.2
                have hst : rs base bs (.int n1 :: .int dp :: .ref t :: .int sp :: .ref s1 :: []) = .int n1 :: .int dp :: .ref (base + t) :: .int sp :: .ref (base + s1) :: [] := by simp [rs, rv, ra_of hS1, ra_of hT1]
                show W p l e R s m args below meth c H locs cells slots Z (F0 m pc la (rs base bs (.int n1 :: .int dp :: .ref t :: .int sp :: .ref s1 :: [])))
                rw [hst]
                refine va_copyi hx hb (by rw [hml, hl.1]) hown (wd hts w1 rfl) (wd hts w2 rfl) (wd hts w3 rfl) (wd hts w4 rfl) hK hR.1 (rW_D base bs tc w) hR.2.1 s1 t 0 0 (rW_at hs1) (rW_at ht1) rfl rfl rfl g1 g2 g3 g4 g5 (fun _ _ => rfl) (by omega) (by rw [nfw]; show 0 + (7 + 11) ≤ R.locals; omega) (dec_of hi rfl rfl) (fun H1 locs1 p1 p2 p3 => ?_)
                refine k H1 locs1 cells slots la ⟨?_, p3, fun hq => (by cases hq), hR.2.2.2.1, hR.2.2.2.2.1, hR.2.2.2.2.2⟩ hl
                have e1 : va_cpy (w.2.1 s1) (w.2.1 t) sp.toNatClampNeg dp.toNatClampNeg n1.toNatClampNeg = cpy2 w.2.1 s1 t sp.toNatClampNeg dp.toNatClampNeg n1.toNatClampNeg t := by funext q; simp [va_cpy, cpy2]
                rw [e1] at p1
                have := rW_set (base := base) (bs := bs) (tc := tc) (w' := (w.1, cpy2 w.2.1 s1 t sp.toNatClampNeg dp.toNatClampNeg n1.toNatClampNeg, w.2.2)) (c' := .inr (0, n2, rf1)) ht1 (same_at ht1) rE_cp
                rw [← this]
                exact p1
              next => cases h
            next => cases h
          next => cases h
        next => cases hok
      next => 
        split at h
        next hk9 =>
          subst hk9
          rw [tOK_10] at hok
          split at hok
          next a1 a2 a3 a4 =>
            simp only [Bool.and_eq_true, decide_eq_true_eq] at hok
            obtain ⟨⟨⟨w1, w2⟩, w3⟩, w4⟩ := hok
            split at h
            next y1 x1 rest =>
              split at h
              next hq =>
                cases Option.some.inj h
                intro H locs cells slots la hR hl
                have r1 := hR.2.2.2.1
                have r2 := hR.2.2.2.2.1
                dsimp only at r1 r2
                exact va_mmax hx hb (by rw [hml, hl.1]) hown (wd hts w1 rfl) (wd hts w2 rfl) (wd hts w3 rfl) (wd hts w4 rfl) (by omega) (by have h9 := rs_cat base bs rest; unfold rs at h9; omega) (by omega) (by omega) (dec_of hi rfl rfl) (k H locs cells slots la hR hl)
              next => cases h
            next => cases h
          next => cases hok
        next => 
        split at h
        next hk9 =>
          subst hk9
          rw [tOK_11] at hok
          split at hok
          next a1 a2 a3 a4 =>
            simp only [Bool.and_eq_true, decide_eq_true_eq] at hok
            obtain ⟨⟨⟨w1, w2⟩, w3⟩, w4⟩ := hok
            split at h
            next y1 x1 rest =>
              split at h
              next hq =>
                cases Option.some.inj h
                intro H locs cells slots la hR hl
                have r1 := hR.2.2.2.1
                have r2 := hR.2.2.2.2.1
                dsimp only at r1 r2
                exact va_mmin hx hb (by rw [hml, hl.1]) hown (wd hts w1 rfl) (wd hts w2 rfl) (wd hts w3 rfl) (wd hts w4 rfl) (by omega) (by have h9 := rs_cat base bs rest; unfold rs at h9; omega) (by omega) (by omega) (dec_of hi rfl rfl) (k H locs cells slots la hR hl)
              next => cases h
            next => cases h
          next => cases hok
        next => 
        split at h
        next hk9 =>
          subst hk9
          rw [tOK_12] at hok
          split at hok
          next a1 a2 a3 a4 =>
            simp only [Bool.and_eq_true, decide_eq_true_eq] at hok
            obtain ⟨⟨⟨w1, w2⟩, w3⟩, w4⟩ := hok
            split at h
            next x1 rest =>
              split at h
              next hq =>
                cases Option.some.inj h
                intro H locs cells slots la hR hl
                have r1 := hR.2.2.2.1
                have r2 := hR.2.2.2.2.1
                dsimp only at r1 r2
                exact va_mabs hx hb (by rw [hml, hl.1]) hown (wd hts w1 rfl) (wd hts w2 rfl) (wd hts w3 rfl) (wd hts w4 rfl) (by omega) (by have h9 := rs_cat base bs rest; unfold rs at h9; omega) (by omega) (by omega) (dec_of hi rfl rfl) (k H locs cells slots la hR hl)
              next => cases h
            next => cases h
          next => cases hok
        next => 
        split at h
        next => exact (s_call_inl h).elim
        next => cases h
    next => cases h
  next => cases h
theorem sd_invokespecial {n : Nat} (C : tCx base bs dC dI tc sc p R s m args meth c mi d) (hi : ins mi pc = some (.invokespecial n, x)) (h : stp sc mi (.invokespecial n) x pc ls st w b = some (.inl c')) (k : tG base bs dC dI tc p l e R s m args below meth c mi Z c') : tG base bs dC dI tc p l e R s m args below meth c mi Z (pc, ls, st, w, b) := by
  obtain ⟨hx, hb, hml, hown, hts, hK, hNW, hini, hfr, hlo, hbase, hscr⟩ := C
  simp only [stp, nx] at h
  split at h
  next r hrow =>
    split at h
    next o i kd c1 f rst hmt =>
      obtain ⟨ref, own, ps⟩ := rst
      obtain ⟨hok, ho, hi2, hpar⟩ := mt_rowI hi hrow hmt
      subst ho; subst hi2
      split at h
      next a rest hst0 =>
        split at h
        next hk9 =>
          subst hk9
          rw [tOK_9] at hok
          split at hok
          next a1 a2 a3 a4 =>
            simp only [Bool.and_eq_true, decide_eq_true_eq] at hok
            obtain ⟨w1, w2⟩ := hok
            split at h
            next hq =>
              obtain ⟨g1, g2⟩ := hq
              cases Option.some.inj h
              rw [g1, List.drop_zero] at hst0
              subst hst0
              intro H locs cells slots la hR hl
              refine W.objInit hx hb hown (wd hts w1 rfl) (wd hts w2 rfl) (hts _ oi_code) rfl (by show la.size = _; rw [hml, hl.1]) rfl (dec_of hi rfl rfl) (by omega) ?_ (k H locs cells slots la hR hl)
              have h9 := rs_cat base bs rest
              unfold rs at h9
              show 2 * 0 + ((rest.map (rv base bs)).map fun v => v.category).sum + 12 ≤ R.locals
              omega
            next => cases h
          next => cases hok
        next =>
          split at h
          next => exact (s_call_inl h).elim
          next => cases h
      next => cases h
    next => cases h
  next => cases h
theorem stp_next {i : Instr} (C : tCx base bs dC dI tc sc p R s m args meth c mi d) (hi : ins mi pc = some (i, x)) (h : stp sc mi i x pc ls st w b = some (.inl c')) (k : tG base bs dC dI tc p l e R s m args below meth c mi Z c') : tG base bs dC dI tc p l e R s m args below meth c mi Z (pc, ls, st, w, b) := by
  cases i with
  | iconst a1 => exact sd_iconst C hi h k
  | bipush a1 => exact sd_bipush C hi h k
  | sipush a1 => exact sd_sipush C hi h k
  | lconst a1 => exact sd_lconst C hi h k
  | ldc a1 => exact sd_ldc C hi h k
  | ldc_w a1 => exact sd_ldc_w C hi h k
  | ldc2_w a1 => exact sd_ldc2_w C hi h k
  | iload_n a1 => exact sd_iload_n C hi h k
  | iload a1 => exact sd_iload C hi h k
  | lload_n a1 => exact sd_lload_n C hi h k
  | lload a1 => exact sd_lload C hi h k
  | aload_n a1 => exact sd_aload_n C hi h k
  | aload a1 => exact sd_aload C hi h k
  | istore_n a1 => exact sd_istore_n C hi h k
  | istore a1 => exact sd_istore C hi h k
  | lstore_n a1 => exact sd_lstore_n C hi h k
  | lstore a1 => exact sd_lstore C hi h k
  | astore_n a1 => exact sd_astore_n C hi h k
  | astore a1 => exact sd_astore C hi h k
  | goto a1 => exact sd_goto C hi h k
  | ifnull a1 => exact sd_ifnull C hi h k
  | ifnonnull a1 => exact sd_ifnonnull C hi h k
  | getfield a1 => exact sd_getfield C hi h k
  | putfield a1 => exact sd_putfield C hi h k
  | new a1 => exact sd_new C hi h k
  | newarray a1 => exact sd_newarray C hi h k
  | anewarray a1 => exact sd_anewarray C hi h k
  | invokestatic a1 => exact sd_invokestatic C hi h k
  | invokespecial a1 => exact sd_invokespecial C hi h k
  | iinc a1 a2 => exact sd_iinc C hi h k
  | ifCond a1 a2 => exact sd_ifCond C hi h k
  | if_icmp a1 a2 => exact sd_if_icmp C hi h k
  | multianewarray a1 a2 => exact sd_multianewarray C hi h k
  | lookupswitch a1 a2 => exact sd_lookupswitch C hi h k
  | iadd => exact sd_iadd C hi h k
  | isub => exact sd_isub C hi h k
  | imul => exact sd_imul C hi h k
  | iand => exact sd_iand C hi h k
  | ior => exact sd_ior C hi h k
  | ixor => exact sd_ixor C hi h k
  | ishl => exact sd_ishl C hi h k
  | ishr => exact sd_ishr C hi h k
  | iushr => exact sd_iushr C hi h k
  | idiv => exact sd_idiv C hi h k
  | irem => exact sd_irem C hi h k
  | ineg => exact sd_ineg C hi h k
  | i2b => exact sd_i2b C hi h k
  | i2s => exact sd_i2s C hi h k
  | i2l => exact sd_i2l C hi h k
  | ladd => exact sd_ladd C hi h k
  | lsub => exact sd_lsub C hi h k
  | lmul => exact sd_lmul C hi h k
  | ldiv => exact sd_ldiv C hi h k
  | lrem => exact sd_lrem C hi h k
  | lcmp => exact sd_lcmp C hi h k
  | dup => exact sd_dup C hi h k
  | pop => exact sd_pop C hi h k
  | dup2 => exact sd_dup2 C hi h k
  | iaload => exact sd_iaload C hi h k
  | laload => exact sd_laload C hi h k
  | aaload => exact sd_aaload C hi h k
  | iastore => exact sd_iastore C hi h k
  | lastore => exact sd_lastore C hi h k
  | aastore => exact sd_aastore C hi h k
  | arraylength => exact sd_arraylength C hi h k
  | tableswitch a1 a2 a3 a4 => exact sd_tableswitch C hi h k
  | aconst_null => exact sd_null C hi h k
  | invokevirtual a1 =>
    exfalso
    simp only [stp] at h
    split at h
    next =>
      split at h
      next =>
        split at h
        next =>
          split at h
          next =>
            split at h
            next => exact s_call_inl h
            next => cases h
          next => cases h
        next => cases h
      next => cases h
    next => cases h
  | ireturn =>
    exfalso
    simp only [stp] at h
    split at h
    next => split at h <;> first | (split at h <;> cases h) | cases h
    next => cases h
  | lreturn =>
    exfalso
    simp only [stp] at h
    split at h
    next => split at h <;> cases h
    next => cases h
  | areturn =>
    exfalso
    simp only [stp] at h
    split at h
    next => split at h <;> first | (split at h <;> cases h) | cases h
    next => split at h <;> first | (split at h <;> cases h) | cases h
    next => cases h
  | return_ =>
    exfalso
    simp only [stp] at h
    split at h
    next => split at h <;> cases h
    next => cases h
  | _ => exact absurd (show (none : Option tR) = _ from h) (by simp)
end SD4
