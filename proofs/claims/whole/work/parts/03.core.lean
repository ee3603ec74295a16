/-! A SMALL MACHINE of our own: instructions over a world of numbered cells. Part 05 shows that what it does, the JVM of the Statement does. -/
abbrev tF : Type := List (Nat × Value)
/-- a cell's shape: an object (class, its references), or an array (kind, length, its references). kinds: 0 int[], 1 long[], 2 Text[], 3 Sheet[], 4 int[][] -/
abbrev tS : Type := (Nat × List (Option Nat)) ⊕ (Nat × Nat × List (Option Nat))
/-- a world: the cells' shapes, the ints in them, the longs in them -/
abbrev tW : Type := List tS × (Nat → Nat → Int32) × (Nat → Nat → Int64)
/-- whether the size of the heap is known; cells and slots that may yet be made -/
abbrev tB : Type := Bool × Nat × Nat
/-- a point of a method: pc, locals, stack, world, room -/
abbrev tC : Type := Nat × tF × List Value × tW × tB
abbrev tR : Type := tC ⊕ ((Nat × List Value × tC) ⊕ Option Value)
abbrev tQ : Type := Option Value → tW → Prop
/-- the script: its length and its ints; its address in our world -/
abbrev tSc : Type := Option (Nat × (Nat → Int32))
abbrev SCR : Nat := 1000000

def mDef : tM := (yL_law, code, 0, none, 0, 0, 0, 0, 0)
def mGet (m : Nat) : tM := mL.getD m mDef
def mNm (m : Nat) : MethodName := (mGet m).1
def mCode (m : Nat) : ByteArray := (mGet m).2.1
def mMax (m : Nat) : Nat := (mGet m).2.2.1
def mRet (m : Nat) : Option FieldType := (mGet m).2.2.2.1
def mPar (m : Nat) : Nat := (mGet m).2.2.2.2.1
def mOwn (m : Nat) : Nat := (mGet m).2.2.2.2.2.1
def mPl (m : Nat) : Nat := (mGet m).2.2.2.2.2.2.1
def mCc (m : Nat) : Nat := (mGet m).2.2.2.2.2.2.2.1
def mSc (m : Nat) : Nat := (mGet m).2.2.2.2.2.2.2.2
def fnd : List (Nat × Instr × tX) → Nat → Option (Instr × tX)
  | [], _ => none
  | e :: l, pc => if e.1 = pc then some e.2 else fnd l pc
def ins (m pc : Nat) : Option (Instr × tX) := match iZ.find? (fun q => q.1 == m) with
  | some q => fnd q.2 pc
  | none => none

