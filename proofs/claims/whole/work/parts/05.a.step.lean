def up2 {α : Type} (f : Nat → Nat → α) (a k : Nat) (v : α) : Nat → Nat → α := fun x y => if x = a ∧ y = k then v else f x y
/-- n items of f at a from sp on come to b, from dp on -/
def cpy2 (f : Nat → Nat → Int32) (a b sp dp n : Nat) : Nat → Nat → Int32 := fun x y => if x = b ∧ (dp ≤ y ∧ y < dp + n) then f a (sp + (y - dp)) else f x y
def lget : tF → Nat → Option Value
  | [], _ => none
  | (j, v) :: t, i => if j = i then some v else lget t i
def lins (i : Nat) (v : Value) : tF → tF
  | [] => [(i, v)]
  | (j, u) :: t => if i < j then (i, v) :: (j, u) :: t else (j, u) :: lins i v t
def lset1 (ls : tF) (i : Nat) (v : Value) : tF := lins i v (ls.filter (fun q => !(q.1 == i) && !(q.1 + 1 == i && q.2.category == 2)))
def lset2 (ls : tF) (i : Nat) (v : Value) : tF := lins i v (ls.filter (fun q => !(q.1 == i) && (!(q.1 == i + 1) && !(q.1 + 1 == i && q.2.category == 2))))
def lflt (o : Option (List Nat)) (ls : tF) : tF := match o with
  | none => ls
  | some L => ls.filter (fun q => L.contains q.1)

def cty (ci : Nat) : Nat → FieldType := match ci with
  | 0 => tyX0 | 1 => tyX1 | 2 => tyX2 | 3 => tyX3 | 4 => tyX4 | 5 => tyX5 | 6 => tyX6 | 7 => tyX7 | 8 => tyX9 | 9 => tyX10 | _ => tyX11
def cN (ci : Nat) : Nat := match ci with
  | 0 => 5 | 1 => 5 | 2 => 4 | 3 => 7 | 4 => 10 | 5 => 5 | 6 => 3 | 7 => 5 | 8 => 11 | 9 => 11 | _ => 22
def cFin (ci k : Nat) : Bool := match vwCl[ci]? with
  | some r => (r.2.1 k).2.2.2
  | none => true
/-- a field's value -/
def fv (w : tW) (a ci : Nat) (rf : List (Option Nat)) (k : Nat) : Value := match cty ci k with
  | .int => .int (w.2.1 a k)
  | .boolean => .int (w.2.1 a k)
  | .long => .long (w.2.2 a k)
  | _ => va_rf (rf.getD k none)
/-- a field's value is set -/
def pv (w : tW) (a ci : Nat) (rf : List (Option Nat)) (k : Nat) (v : Value) : Option tW := match cty ci k, v with
  | .int, .int x => some (w.1, up2 w.2.1 a k x, w.2.2)
  | .boolean, .int x => if x = 0 ∨ x = 1 then some (w.1, up2 w.2.1 a k x, w.2.2) else none
  | .long, .long x => some (w.1, w.2.1, up2 w.2.2 a k x)
  | .array _, .ref r => some (w.1.set a (.inl (ci, rf.set k (some r))), w.2)
  | .object _, .ref r => some (w.1.set a (.inl (ci, rf.set k (some r))), w.2)
  | _, _ => none

def nx (pc : Nat) (ls : tF) (st : List Value) (w : tW) (b : tB) : Option tR := some (.inl (pc, ls, st, w, b))
def s_il (pc i : Nat) (ls : tF) (st : List Value) (w : tW) (b : tB) : Option tR := match lget ls i with
  | some (.int x) => nx pc ls (.int x :: st) w b
  | _ => none
def s_ll (pc i : Nat) (ls : tF) (st : List Value) (w : tW) (b : tB) : Option tR := match lget ls i with
  | some (.long x) => nx pc ls (.long x :: st) w b
  | _ => none
def s_al (pc i : Nat) (ls : tF) (st : List Value) (w : tW) (b : tB) : Option tR := match lget ls i with
  | some (.ref x) => nx pc ls (.ref x :: st) w b
  | some .null => nx pc ls (.null :: st) w b
  | _ => none
def s_is (m pc i : Nat) (ls : tF) (st : List Value) (w : tW) (b : tB) : Option tR := match st with
  | .int x :: r => if i < mMax m then nx pc (lset1 ls i (.int x)) r w b else none
  | _ => none
def s_ls (m pc i : Nat) (ls : tF) (st : List Value) (w : tW) (b : tB) : Option tR := match st with
  | .long x :: r => if i + 1 < mMax m then nx pc (lset2 ls i (.long x)) r w b else none
  | _ => none
def s_as (m pc i : Nat) (ls : tF) (st : List Value) (w : tW) (b : tB) : Option tR := match st with
  | .ref x :: r => if i < mMax m then nx pc (lset1 ls i (.ref x)) r w b else none
  | .null :: r => if i < mMax m then nx pc (lset1 ls i .null) r w b else none
  | _ => none
def s_ii (f : Int32 → Int32 → Int32) (pc : Nat) (ls : tF) (st : List Value) (w : tW) (b : tB) : Option tR := match st with
  | .int y :: .int x :: r => nx (pc + 1) ls (.int (f x y) :: r) w b
  | _ => none
def s_jj (f : Int64 → Int64 → Int64) (pc : Nat) (ls : tF) (st : List Value) (w : tW) (b : tB) : Option tR := match st with
  | .long y :: .long x :: r => nx (pc + 1) ls (.long (f x y) :: r) w b
  | _ => none
def s_i (f : Int32 → Int32) (pc : Nat) (ls : tF) (st : List Value) (w : tW) (b : tB) : Option tR := match st with
  | .int x :: r => nx (pc + 1) ls (.int (f x) :: r) w b
  | _ => none
def cnd (k : ClassFile.Cond) (x y : Int32) : Prop := match k with
  | .eq => x = y | .ne => ¬ x = y | .lt => x < y | .ge => y ≤ x | .gt => y < x | .le => x ≤ y
def cndB (k : ClassFile.Cond) (x y : Int32) : Bool := match k with
  | .eq => decide (x = y) | .ne => !decide (x = y) | .lt => decide (x < y) | .ge => decide (y ≤ x) | .gt => decide (y < x) | .le => decide (x ≤ y)
def s_br (c : Bool) (t e : Nat) (ls : tF) (st : List Value) (w : tW) (b : tB) : Option tR := if c = true then nx t ls st w b else nx e ls st w b
def swt : List (Nat × Nat) → Nat → Int32 → Nat
  | [], d, _ => d
  | (k, t) :: l, d, x => if x = Int32.ofNat k then t else swt l d x
def inB (i : Int32) (n : Nat) : Bool := decide (¬ (i < 0 ∨ n ≤ i.toNatClampNeg))
def rowOf (x : tX) (ci : Nat) : Option Nat := (x.2.2.1.find? (fun q => q.1 == ci)).map (·.2)
/-- a call: the callee, its arguments, where we go on -/
def s_call (pc f : Nat) (as : List Value) (ls : tF) (rest : List Value) (w : tW) (b : tB) : Option tR :=
  if (rest.map fun v => v.category).sum ≤ 8 ∧ (lg_sl as).length ≤ mMax f ∧ f < 220 then
    if mCc f = 0 then some (.inr (.inl (f, as, (pc + 3, ls, rest, w, (false, b.2)))))
    else if b.1 = true ∧ mCc f ≤ b.2.1 ∧ mSc f ≤ b.2.2 then some (.inr (.inl (f, as, (pc + 3, ls, rest, w, (true, b.2.1 - mCc f, b.2.2 - mSc f))))) else none
  else none
def blankS (ci : Nat) : tS := .inl (ci, List.replicate (cN ci) none)

def stp (sc : tSc) (m : Nat) (i : Instr) (x : tX) (pc : Nat) (ls : tF) (st : List Value) (w : tW) (b : tB) : Option tR := match i with
  | .iconst n => nx (pc + 1) ls (.int (Int32.ofInt n) :: st) w b
  | .bipush n => nx (pc + 2) ls (.int (Int8.ofInt n).toInt32 :: st) w b
  | .sipush n => nx (pc + 3) ls (.int (Int16.ofInt n).toInt32 :: st) w b
  | .lconst n => nx (pc + 1) ls (.long (Int64.ofNat n) :: st) w b
  | .aconst_null => nx (pc + 1) ls (.null :: st) w b
  | .ldc _ => nx (pc + 2) ls (.int (Int32.ofInt x.2.1) :: st) w b
  | .ldc_w _ => nx (pc + 3) ls (.int (Int32.ofInt x.2.1) :: st) w b
  | .ldc2_w _ => nx (pc + 3) ls (.long (Int64.ofInt x.2.1) :: st) w b
  | .iload_n k => s_il (pc + 1) k ls st w b
  | .iload k => s_il (pc + 2) k ls st w b
  | .lload_n k => s_ll (pc + 1) k ls st w b
  | .lload k => s_ll (pc + 2) k ls st w b
  | .aload_n k => s_al (pc + 1) k ls st w b
  | .aload k => s_al (pc + 2) k ls st w b
  | .istore_n k => s_is m (pc + 1) k ls st w b
  | .istore k => s_is m (pc + 2) k ls st w b
  | .lstore_n k => s_ls m (pc + 1) k ls st w b
  | .lstore k => s_ls m (pc + 2) k ls st w b
  | .astore_n k => s_as m (pc + 1) k ls st w b
  | .astore k => s_as m (pc + 2) k ls st w b
  | .iinc k n => match lget ls k with
    | some (.int y) => if k < mMax m then nx (pc + 3) (lset1 ls k (.int (y + Int32.ofInt n))) st w b else none
    | _ => none
  | .iadd => s_ii (fun x y => x + y) pc ls st w b
  | .isub => s_ii (fun x y => x - y) pc ls st w b
  | .imul => s_ii (fun x y => x * y) pc ls st w b
  | .iand => s_ii (fun x y => x &&& y) pc ls st w b
  | .ior => s_ii (fun x y => x ||| y) pc ls st w b
  | .ixor => s_ii (fun x y => x ^^^ y) pc ls st w b
  | .ishl => s_ii (fun x y => x <<< (y &&& 31)) pc ls st w b
  | .ishr => s_ii (fun x y => x >>> (y &&& 31)) pc ls st w b
  | .iushr => s_ii (fun x y => (x.toUInt32 >>> (y.toUInt32 &&& Int32.toUInt32 31)).toInt32) pc ls st w b
  | .idiv => match st with
    | .int y :: .int x :: r => if y = 0 then none else nx (pc + 1) ls (.int (x / y) :: r) w b
    | _ => none
  | .irem => match st with
    | .int y :: .int x :: r => if y = 0 then none else nx (pc + 1) ls (.int (x - x / y * y) :: r) w b
    | _ => none
  | .ineg => s_i (fun x => -x) pc ls st w b
  | .i2b => s_i (fun x => x.toInt8.toInt32) pc ls st w b
  | .i2s => s_i (fun x => x.toInt16.toInt32) pc ls st w b
  | .i2l => match st with
    | .int x :: r => nx (pc + 1) ls (.long x.toInt64 :: r) w b
    | _ => none
  | .ladd => s_jj (fun x y => x + y) pc ls st w b
  | .lsub => s_jj (fun x y => x - y) pc ls st w b
  | .lmul => s_jj (fun x y => x * y) pc ls st w b
  | .ldiv => match st with
    | .long y :: .long x :: r => if y = 0 then none else nx (pc + 1) ls (.long (x / y) :: r) w b
    | _ => none
  | .lrem => match st with
    | .long y :: .long x :: r => if y = 0 then none else nx (pc + 1) ls (.long (x - x / y * y) :: r) w b
    | _ => none
  | .lcmp => match st with
    | .long y :: .long x :: r => nx (pc + 1) ls (.int (lg_cmp x y) :: r) w b
    | _ => none
  | .dup => match st with
    | v :: r => if v.category = 1 then nx (pc + 1) ls (v :: v :: r) w b else none
    | _ => none
  | .pop => match st with
    | v :: r => if v.category = 1 then nx (pc + 1) ls r w b else none
    | _ => none
  | .dup2 => match st with
    | v :: u :: r => if v.category = 1 ∧ u.category = 1 then nx (pc + 1) ls (v :: u :: v :: u :: r) w b else none
    | _ => none
  | .ifCond k _ => match st with
    | .int y :: r => s_br (cndB k y 0) x.1 (pc + 3) ls r w b
    | _ => none
  | .if_icmp k _ => match st with
    | .int z :: .int y :: r => s_br (cndB k y z) x.1 (pc + 3) ls r w b
    | _ => none
  | .goto _ => nx x.1 ls st w b
  | .ifnull _ => match st with
    | .null :: r => nx x.1 ls r w b
    | .ref _ :: r => nx (pc + 3) ls r w b
    | _ => none
  | .ifnonnull _ => match st with
    | .null :: r => nx (pc + 3) ls r w b
    | .ref _ :: r => nx x.1 ls r w b
    | _ => none
  | .tableswitch _ _ _ _ => match st with
    | .int y :: r => nx (swt x.2.2.1 x.1 y) ls r w b
    | _ => none
  | .lookupswitch _ _ => match st with
    | .int y :: r => nx (swt x.2.2.1 x.1 y) ls r w b
    | _ => none
  | .getfield _ => match st with
    | .ref a :: r => match w.1[a]? with
      | some (.inl (ci, rf)) => if (rowOf x ci).isSome = true ∧ x.1 < cN ci then nx (pc + 3) ls (fv w a ci rf x.1 :: r) w b else none
      | _ => none
    | _ => none
  | .putfield _ => match st with
    | v :: .ref a :: r => match w.1[a]? with
      | some (.inl (ci, rf)) => if (rowOf x ci).isSome = true ∧ x.1 < cN ci ∧ rf.length = cN ci ∧ (cFin ci x.1 = true → (mNm m).name = "<init>") then (match pv w a ci rf x.1 v with
        | some w' => nx (pc + 3) ls r w' b
        | none => none) else none
      | _ => none
    | _ => none
  | .iaload => match st with
    | .int j :: .ref a :: r => if a = SCR then (match sc with
        | some (L, xs) => if inB j L = true then nx (pc + 1) ls (.int (xs j.toNatClampNeg) :: r) w b else none
        | none => none) else match w.1[a]? with
      | some (.inr (0, n, _)) => if inB j n = true then nx (pc + 1) ls (.int (w.2.1 a j.toNatClampNeg) :: r) w b else none
      | _ => none
    | _ => none
  | .laload => match st with
    | .int j :: .ref a :: r => match w.1[a]? with
      | some (.inr (1, n, _)) => if inB j n = true then nx (pc + 1) ls (.long (w.2.2 a j.toNatClampNeg) :: r) w b else none
      | _ => none
    | _ => none
  | .aaload => match st with
    | .int j :: .ref a :: r => match w.1[a]? with
      | some (.inr (k + 2, n, rf)) => if inB j n = true ∧ k < 3 then nx (pc + 1) ls (va_rf (rf.getD j.toNatClampNeg none) :: r) w b else none
      | _ => none
    | _ => none
  | .iastore => match st with
    | .int v :: .int j :: .ref a :: r => match w.1[a]? with
      | some (.inr (0, n, _)) => if inB j n = true then nx (pc + 1) ls r (w.1, up2 w.2.1 a j.toNatClampNeg v, w.2.2) b else none
      | _ => none
    | _ => none
  | .lastore => match st with
    | .long v :: .int j :: .ref a :: r => match w.1[a]? with
      | some (.inr (1, n, _)) => if inB j n = true then nx (pc + 1) ls r (w.1, w.2.1, up2 w.2.2 a j.toNatClampNeg v) (false, b.2) else none
      | _ => none
    | _ => none
  | .aastore => match st with
    | .ref v :: .int j :: .ref a :: r => match w.1[a]?, w.1[v]? with
      | some (.inr (2, n, rf)), some (.inl (ci, _)) => if inB j n = true ∧ rf.length = n ∧ (ci = 1 ∨ ci = 5 ∨ ci = 7) then nx (pc + 1) ls r (w.1.set a (.inr (2, n, rf.set j.toNatClampNeg (some v))), w.2) b else none
      | some (.inr (3, n, rf)), some (.inl (ci, _)) => if inB j n = true ∧ rf.length = n ∧ ci = 6 then nx (pc + 1) ls r (w.1.set a (.inr (3, n, rf.set j.toNatClampNeg (some v))), w.2) b else none
      | _, _ => none
    | _ => none
  | .arraylength => match st with
    | .ref a :: r => if a = SCR then (match sc with
        | some (L, _) => nx (pc + 1) ls (.int (Int32.ofNat L) :: r) w b
        | none => none) else match w.1[a]? with
      | some (.inr (k, n, _)) => if k < 5 then nx (pc + 1) ls (.int (Int32.ofNat n) :: r) w b else none
      | _ => none
    | _ => none
  | .new _ => if b.1 = true ∧ 1 ≤ b.2.1 ∧ cN x.1 ≤ b.2.2 ∧ x.1 < 11 ∧ w.1.length < SCR then nx (pc + 3) ls (.ref w.1.length :: st) (w.1 ++ [blankS x.1], fun a k => if a = w.1.length then 0 else w.2.1 a k, fun a k => if a = w.1.length then 0 else w.2.2 a k) (true, b.2.1 - 1, b.2.2 - cN x.1) else none
  | .newarray t => match st with
    | .int n :: r => if b.1 = true ∧ 1 ≤ b.2.1 ∧ n.toNatClampNeg ≤ b.2.2 ∧ ¬ n < 0 ∧ n.toNatClampNeg ≤ 1000000 ∧ (t = .int ∨ t = .long) ∧ w.1.length < SCR then nx (pc + 2) ls (.ref w.1.length :: r) (w.1 ++ [.inr (if t = .int then 0 else 1, n.toNatClampNeg, [])], fun a k => if a = w.1.length then 0 else w.2.1 a k, fun a k => if a = w.1.length then 0 else w.2.2 a k) (true, b.2.1 - 1, b.2.2 - n.toNatClampNeg) else none
    | _ => none
  | .anewarray _ => match st with
    | .int n :: r => if b.1 = true ∧ 1 ≤ b.2.1 ∧ n.toNatClampNeg ≤ b.2.2 ∧ ¬ n < 0 ∧ n.toNatClampNeg ≤ 1000000 ∧ (x.1 = 2 ∨ x.1 = 3) ∧ w.1.length < SCR then nx (pc + 3) ls (.ref w.1.length :: r) (w.1 ++ [.inr (x.1, n.toNatClampNeg, List.replicate n.toNatClampNeg none)], w.2) (true, b.2.1 - 1, b.2.2 - n.toNatClampNeg) else none
    | _ => none
  | .multianewarray _ _ => match st with
    | .int k :: .int n :: r => if b.1 = true ∧ 1 + n.toNatClampNeg ≤ b.2.1 ∧ n.toNatClampNeg + n.toNatClampNeg * k.toNatClampNeg ≤ b.2.2 ∧ ¬ n < 0 ∧ ¬ k < 0 ∧ n.toNatClampNeg ≤ 1000000 ∧ k.toNatClampNeg ≤ 1000000 ∧ w.1.length + 1 + n.toNatClampNeg ≤ SCR then
        nx (pc + 4) ls (.ref w.1.length :: r) ((w.1 ++ [.inr (4, n.toNatClampNeg, (List.range n.toNatClampNeg).map (fun i => some (w.1.length + 1 + i)))]) ++ List.replicate n.toNatClampNeg (.inr (0, k.toNatClampNeg, [])), fun a k => if w.1.length ≤ a then 0 else w.2.1 a k, w.2.2) (true, b.2.1 - (1 + n.toNatClampNeg), b.2.2 - (n.toNatClampNeg + n.toNatClampNeg * k.toNatClampNeg)) else none
    | _ => none
  | .invokevirtual _ => match st.drop x.1 with
    | .ref a :: rest => match w.1[a]? with
      | some (.inl (ci, _)) => match rowOf x ci with
        | some r => match mTr[r]? with
          | some (_, _, k, _, f, _) => if k < 2 ∧ (st.take x.1).length = x.1 then s_call pc f (.ref a :: (st.take x.1).reverse) ls rest w b else none
          | none => none
        | none => none
      | _ => none
    | _ => none
  | .invokestatic _ => match rowOf x 0 with
    | some r => match mTr[r]? with
      | some (_, _, k, _, f, _) => if k = 8 then (match st with
          | .int n :: .int dp :: .ref t :: .int sp :: .ref s :: rest => match w.1[s]?, w.1[t]? with
            | some (.inr (0, n0, _)), some (.inr (0, n1, _)) => if ¬ sp < 0 ∧ ¬ dp < 0 ∧ ¬ n < 0 ∧ sp.toNatClampNeg + n.toNatClampNeg ≤ n0 ∧ dp.toNatClampNeg + n.toNatClampNeg ≤ n1 ∧ rest = [] then
                nx (pc + 3) ls [] (w.1, cpy2 w.2.1 s t sp.toNatClampNeg dp.toNatClampNeg n.toNatClampNeg, w.2.2) (false, b.2) else none
            | _, _ => none
          | _ => none)
        else if k = 10 then (match st with
          | .int y :: .int x :: rest => if (rest.map fun v => v.category).sum ≤ 8 then nx (pc + 3) ls (.int (if x < y then y else x) :: rest) w b else none
          | _ => none)
        else if k = 11 then (match st with
          | .int y :: .int x :: rest => if (rest.map fun v => v.category).sum ≤ 8 then nx (pc + 3) ls (.int (if y < x then y else x) :: rest) w b else none
          | _ => none)
        else if k = 12 then (match st with
          | .int x :: rest => if (rest.map fun v => v.category).sum ≤ 8 then nx (pc + 3) ls (.int (if 0 ≤ x then x else 0 - x) :: rest) w b else none
          | _ => none)
        else if (k = 2 ∨ k = 6) ∧ (st.take x.1).length = x.1 then s_call pc f (st.take x.1).reverse ls (st.drop x.1) w b else none
      | none => none
    | none => none
  | .invokespecial _ => match rowOf x 0 with
    | some r => match mTr[r]? with
      | some (_, _, k, _, f, _) => match st.drop x.1 with
        | .ref a :: rest => if k = 9 then (if x.1 = 0 ∧ (rest.map fun v => v.category).sum ≤ 8 then nx (pc + 3) ls rest w b else none)
          else if (k = 3 ∨ k = 4) ∧ (st.take x.1).length = x.1 then s_call pc f (.ref a :: (st.take x.1).reverse) ls rest w b else none
        | _ => none
      | none => none
    | none => none
  | .ireturn => match st with
    | [.int v] => if mRet m = some .int ∨ (mRet m = some .boolean ∧ (v = 0 ∨ v = 1)) then (if mCc m = 0 ∨ b.1 = true ∨ sc.isSome = true then some (.inr (.inr (some (.int v)))) else none) else none
    | _ => none
  | .lreturn => match st with
    | [.long v] => if mRet m = some .long ∧ mCc m = 0 then some (.inr (.inr (some (.long v)))) else none
    | _ => none
  | .areturn => match st with
    | [.ref v] => if mRet m = some (.object RX8) ∨ mRet m = some (.object RX6) then (if mCc m = 0 then some (.inr (.inr (some (.ref v)))) else none) else none
    | [.null] => if mRet m = some (.object RX8) ∨ mRet m = some (.object RX6) then (if mCc m = 0 then some (.inr (.inr (some .null))) else none) else none
    | _ => none
  | .return_ => match st with
    | [] => if mRet m = none ∧ (mCc m = 0 ∨ b.1 = true) then some (.inr (.inr none)) else none
    | _ => none
  | _ => none
/-- the start of a method -/
def ent (f : Nat) (as : List Value) (w : tW) : tC := (0, lv_args 0 as, [], w, (decide (¬ mCc f = 0), mCc f, mSc f))
def wp (sc : tSc) : Nat → Nat → Nat → tC → tQ → Prop
  | 0, _, _, _, _ => False
  | n + 1, d, m, c, Q => match ins m c.1 with
    | none => False
    | some (i, x) => match stp sc m i x c.1 (lflt x.2.2.2 c.2.1) c.2.2.1 c.2.2.2.1 c.2.2.2.2 with
      | none => False
      | some (.inl c') => wp sc n d m c' Q
      | some (.inr (.inl (f, as, c'))) => match d with
        | 0 => False
        | d' + 1 => wp none n d' f (ent f as c'.2.2.2.1) (fun v w' => wp sc n (d' + 1) m (c'.1, c'.2.1, v.toList ++ c'.2.2.1, w', c'.2.2.2.2) Q)
      | some (.inr (.inr v)) => Q v c.2.2.2.1
