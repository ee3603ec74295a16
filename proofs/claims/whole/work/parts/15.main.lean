theorem lv_args_rl {base bs : Nat} : ∀ (as : List Value) (i : Nat), lv_args i (rs base bs as) = rl base bs (lv_args i as)
  | [], _ => rfl
  | v :: vs, i => by
    show (i, rv base bs v) :: lv_args (if (rv base bs v).category = 2 then i + 2 else i + 1) (rs base bs vs) = (i, rv base bs v) :: rl base bs (lv_args (if v.category = 2 then i + 2 else i + 1) vs)
    rw [rv_cat, lv_args_rl vs]
theorem lg_len {base bs : Nat} (as : List Value) : (lg_sl (rs base bs as)).length = (lg_sl as).length := by
  induction as with
  | nil => rfl
  | cons v t ih =>
    have h1 : ∀ (u : Value) (t : List Value), (lg_sl (u :: t)).length = (if u.category = 2 then 2 else 1) + (lg_sl t).length := by
      intro u t
      show ((if u.category = 2 then [Slot.val u, Slot.second] else [Slot.val u]) ++ lg_sl t).length = _
      rw [List.length_append]
      split <;> rfl
    show (lg_sl (rv base bs v :: rs base bs t)).length = _
    rw [h1, h1, rv_cat, ih]
/-- what a method's end must give, for the small machine's answer Q -/
def tFin (base bs : Nat) (dC : Nat → ClassId) (dI : Nat → Nat → Nat) (tc : Nat → ClassId) (sc : tSc) (p : Program) (l : Launch) (e : Env) (R : Room) (s : State) (m : MethodId) (args : Array Value) (below : List Frame) (meth : Method) (c : Code) (mi : Nat) (Z : State → Prop) (Q : tQ) : Prop :=
  ∀ (v : Option Value) (w : tW) (b : tB) (H : Heap) (locs : List Loc) (cells slots : Nat) (la : Array Slot) (pc : Nat), Q v w → tRel base bs dC dI tc R s w b H locs cells slots → (mCc mi = 0 ∨ b.1 = true ∨ sc.isSome = true) → retOK mi pc v → W p l e R s m args below meth c H locs cells slots Z (F0 m pc la (rs base bs v.toList))
theorem sound (base bs : Nat) (dC : Nat → ClassId) (dI : Nat → Nat → Nat) (tc : Nat → ClassId) (l : Launch) : ∀ (n d mi : Nat) (sc : tSc) (cf : tC) (Q : tQ), wp sc n d mi cf Q → ∀ {p : Program} {e : Env} {R : Room} {s : State} {m : MethodId} {args : Array Value} {below : List Frame} {meth : Method} {c : Code} {Z : State → Prop},
    tCx base bs dC dI tc sc p R s m args meth c mi d → tFin base bs dC dI tc sc p l e R s m args below meth c mi Z Q → tG base bs dC dI tc p l e R s m args below meth c mi Z cf := by
  intro n
  induction n with
  | zero => intro d mi sc cf Q h; exact h.elim
  | succ n ih =>
    intro d mi sc cf Q h p e R s m args below meth c Z C F
    have met : ∀ (d f : Nat) (as : List Value) (w : tW) (Q' : tQ), f < 220 → (lg_sl as).length ≤ mMax f → wp none n d f (ent f as w) Q' → tMet base bs dC dI tc l d f as w Q' := by
      intro d f as w Q' hf hlg hw
      obtain ⟨m1, m2, m3, m4, m5⟩ := mOK_at hf
      refine Met.ofW (cc := mCode f) (maxL := mMax f) (ret := mRet f) m2 rfl ?_
      intro p e s m args below meth c s₁ B hml hv
      obtain ⟨rfl, hP, hK, hNW, hb0, hz, hS⟩ := hv
      have hts : ∀ w ∈ tTS, w.before (rs base bs as).toArray s = true := fun w hw => atoms_spec (ws := wsF f) B.pre w (List.mem_cons_of_mem _ hw)
      have hown : s.vm.findClass (clsN (mOwn f)) = some m.cls := by rw [← m3]; exact findClass_of_methodNamed B.named
      have hC : tCx base bs dC dI tc none p (headSpec (wsF f) (rmF d f)).room s m (rs base bs as).toArray meth c f d := ⟨B.exec, B.bytes, hml, hown, hts, hK, hNW, fun h => by rw [(name_of_methodNamed B.named B.method).1]; exact h, Nat.le_refl _, Nat.le_refl _, hb0, fun _ _ h => (by cases h)⟩
      have hl := lv_entry (rs base bs as) (n := mMax f) (by rw [lg_len]; exact hlg)
      rw [lg_entry_eq]
      generalize (lg_sl (rs base bs as) ++ List.replicate (mMax f - (lg_sl (rs base bs as)).length) Slot.unset).toArray = la at hl ⊢
      rw [lv_args_rl] at hl
      have hlocks := B.notSynchronized
      have hr := B.returns
      refine ih d f none (ent f as w) Q' hw hC ?_ s.heap [] 0 0 la ⟨hP, va_S.rf, fun h => hz (of_decide_eq_true h), by show 0 + mCc f ≤ mCc f; omega, by show 0 + mSc f ≤ mSc f; omega, hS⟩ hl
      intro v w' b' H locs cells slots la pc hq hR hal hret
      have q1 : cells ≤ mCc f := Nat.le_trans (Nat.le_add_right _ _) hR.2.2.2.1
      have q2 : slots ≤ mSc f := Nat.le_trans (Nat.le_add_right _ _) hR.2.2.2.2.1
      refine W.widen q1 q2 ?_
      have hend : ∀ t : State, t.heap = H → s.WarmedH t.vm → QcF base bs dC dI tc f Q' (rs base bs as).toArray s (.returned (v.map (rv base bs))) t := by
        intro t ht hW
        refine ⟨⟨v, w', rfl, hq, by rw [ht]; exact hR.1, fun hn => ?_, hR.2.2.2.2.2⟩, hR.2.1.F ht⟩
        rw [ht]
        rcases hal with h | h | h
        · exact absurd h hn
        · exact hR.2.2.1 h
        · cases h
      cases v with
      | none => exact W.vret B.exec B.bytes (by rw [hr]; exact hret.2) hend hR.2.1.2.2 hret.1
      | some y =>
        cases y with
        | int y =>
          rcases hret.2 with h | ⟨h, hy⟩
          · exact W.iret B.exec B.bytes (by rw [hr]; exact h) hend hR.2.1.2.2 hret.1
          · exact W.zret (ty := .boolean) B.exec B.bytes (by rw [hr]; exact h) (by rcases hy with rfl | rfl <;> rfl) hend hR.2.1.2.2 hret.1
        | long y => exact W.lret B.exec B.bytes (by rw [hr]; exact hret.2) hend hR.2.1.2.2 hret.1
        | ref y =>
          rcases hret.2 with h | h
          · exact W.aret (rt := .object RX8) B.exec B.bytes (by rw [hr]; exact h) (Or.inl ⟨_, rfl⟩) (Or.inr ⟨_, rfl⟩) hend hR.2.1.2.2 hret.1
          · exact W.aret (rt := .object RX6) B.exec B.bytes (by rw [hr]; exact h) (Or.inl ⟨_, rfl⟩) (Or.inr ⟨_, rfl⟩) hend hR.2.1.2.2 hret.1
        | null =>
          rcases hret.2 with h | h
          · exact W.aret (rt := .object RX8) B.exec B.bytes (by rw [hr]; exact h) (Or.inl ⟨_, rfl⟩) (Or.inl rfl) hend hR.2.1.2.2 hret.1
          · exact W.aret (rt := .object RX6) B.exec B.bytes (by rw [hr]; exact h) (Or.inl ⟨_, rfl⟩) (Or.inl rfl) hend hR.2.1.2.2 hret.1
        | float y => exact hret.elim
        | double y => exact hret.elim
        | retAddr y => exact hret.elim
    unfold wp at h
    cases hi : ins mi cf.1 with
    | none => rw [hi] at h; exact h.elim
    | some ix =>
      obtain ⟨i, x⟩ := ix
      rw [hi] at h
      dsimp only at h
      obtain ⟨pc, ls, st, w, b⟩ := cf
      dsimp only at h hi
      -- the locals that are dead are forgotten
      have key : tG base bs dC dI tc p l e R s m args below meth c mi Z (pc, lflt x.2.2.2 ls, st, w, b) := by
        cases hs : stp sc mi i x pc (lflt x.2.2.2 ls) st w b with
        | none => rw [hs] at h; exact h.elim
        | some r =>
          rw [hs] at h
          rcases r with c' | ⟨f, as, c'⟩ | v
          · exact stp_next C hi hs (ih d mi sc c' Q h C F)
          · dsimp only at h
            cases d with
            | zero => exact h.elim
            | succ d =>
              obtain ⟨k1, k2, k3⟩ := stp_call hs
              have hM := met d f as c'.2.2.2.1 _ k1 k2 h
              have hk : ∀ (v : Option Value) (w' : tW), wp sc n (d + 1) mi (c'.1, c'.2.1, v.toList ++ c'.2.2.1, w', c'.2.2.2.2) Q → tG base bs dC dI tc p l e R s m args below meth c mi Z (c'.1, c'.2.1, v.toList ++ c'.2.2.1, w', c'.2.2.2.2) := fun v w' hw => ih (d + 1) mi sc _ Q hw C F
              rcases k3 with ⟨q, rfl⟩ | ⟨q, rfl⟩ | ⟨q, rfl⟩
              · exact sc_virtual C hi hs hM hk
              · exact sc_static C hi hs hM hk
              · exact sc_special C hi hs hM hk
          · obtain ⟨h1, h2, h3⟩ := stp_ret hi hs
            intro H locs cells slots la hR hl
            show W p l e R s m args below meth c H locs cells slots Z (F0 m pc la (rs base bs st))
            rw [h1]
            exact F v w b H locs cells slots la pc h hR h3 h2
      intro H locs cells slots la hR hl
      exact key H locs cells slots la hR (lflt_has hl)
