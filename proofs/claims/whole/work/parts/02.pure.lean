/-! THE PURE MACHINE: values by names, a state of typed rows, a step of a block as a proposition (weakest precondition) -/
abbrev mV : Type := Int ⊕ (Int64 ⊕ (UInt32 ⊕ (UInt64 ⊕ (Nat × Nat))))
abbrev mi (x : Int) : mV := .inl x
abbrev ml (x : Int64) : mV := .inr (.inl x)
abbrev mf (x : UInt32) : mV := .inr (.inr (.inl x))
abbrev md (x : UInt64) : mV := .inr (.inr (.inr (.inl x)))
abbrev mr (k i : Nat) : mV := .inr (.inr (.inr (.inr (k, i))))
def inR (x : Int) : Prop := -2147483648 ≤ x ∧ x ≤ 2147483647
/-- ints by kind, object, place; longs; doubles; how many objects a group has; the ship of a sailing; a list's objects -/
abbrev mS : Type := (Nat → Nat → Nat → Int) × (Nat → Nat → Nat → Int64) × (Nat → Nat → Nat → UInt64) × (Nat → Nat) × (Nat → Nat) × (Nat → List Nat)
def sI (st : mS) : Nat → Nat → Nat → Int := st.1
def sJ (st : mS) : Nat → Nat → Nat → Int64 := st.2.1
def sD (st : mS) : Nat → Nat → Nat → UInt64 := st.2.2.1
def sN (st : mS) : Nat → Nat := st.2.2.2.1
def sR (st : mS) : Nat → Nat := st.2.2.2.2.1
def sL (st : mS) : Nat → List Nat := st.2.2.2.2.2
def up3 {α : Type} (f : Nat → Nat → Nat → α) (k i j : Nat) (v : α) : Nat → Nat → Nat → α := fun a b c => if a = k ∧ b = i ∧ c = j then v else f a b c
def up1 {α : Type} (f : Nat → α) (k : Nat) (v : α) : Nat → α := fun a => if a = k then v else f a
def putI (st : mS) (k i j : Nat) (v : Int) : mS := (up3 st.1 k i j v, st.2)
def putJ (st : mS) (k i j : Nat) (v : Int64) : mS := (st.1, up3 st.2.1 k i j v, st.2.2)
def putD (st : mS) (k i j : Nat) (v : UInt64) : mS := (st.1, st.2.1, up3 st.2.2.1 k i j v, st.2.2.2)
def putN (st : mS) (g v : Nat) : mS := (st.1, st.2.1, st.2.2.1, up1 st.2.2.2.1 g v, st.2.2.2.2)
def putR (st : mS) (i v : Nat) : mS := (st.1, st.2.1, st.2.2.1, st.2.2.2.1, up1 st.2.2.2.2.1 i v, st.2.2.2.2.2)
def putL (st : mS) (k : Nat) (v : List Nat) : mS := (st.1, st.2.1, st.2.2.1, st.2.2.2.1, st.2.2.2.2.1, up1 st.2.2.2.2.2 k v)
/-- outcomes: a value, none, or an exception's class -/
abbrev mO : Type := Option mV ⊕ Nat
/-- the class's fields: 0 an int, 1 a long, 2 the ship of a sailing, n + 3 the object of kind n with the same number -/
def mKd (k : Nat) : Option (Nat × List Nat) := match k with
  | 0 => some (10, [23, 24, 25, 15, 20, 0, 0, 0])
  | 1 => some (5, [1])
  | 2 => some (5, [1])
  | 3 => some (7, [0, 4, 5, 7, 8, 0, 0, 9, 0])
  | 7 => some (9, [11, 0, 0])
  | 9 => some (8, [2, 0, 0, 0, 13, 14])
  | 12 => some (4, [0, 16, 17, 18, 19, 0])
  | 17 => some (6, [26, 21, 22, 0, 0])
  | 30 => some (11, [0, 0, 0, 0, 0, 0, 0, 0, 34, 35, 36, 37, 38, 39, 40, 41, 42, 43, 44, 45, 46, 47, 48, 49, 50, 51, 52, 53, 54, 55, 56, 57, 58])
  | _ => none
/-- a field's type: 0 int, 1 boolean, 2 char -/
def mFt (k j : Nat) : Nat := match k, j with
  | 7, 2 => 1
  | 9, 3 => 2
  | _, _ => 0
/-- a field that may be written behind the constructor -/
def mMut (k j : Nat) : Bool := match k, j with
  | 3, 0 => false
  | 9, 1 => false
  | 9, 2 => false
  | _, _ => true
/-- rows: 0 ints, 1 booleans, 2 longs, 3 doubles; how long -/
def mAd (k : Nat) : Option (Nat × Nat) := match k with
  | 4 => some (0, 4)
  | 5 => some (0, 4)
  | 6 => some (0, 1000)
  | 8 => some (0, 3)
  | 10 => some (0, 3)
  | 11 => some (0, 3)
  | 13 => some (0, 3)
  | 14 => some (0, 3)
  | 15 => some (0, 3)
  | 16 => some (0, 3)
  | 18 => some (0, 4)
  | 19 => some (0, 4)
  | 31 => some (1, 32)
  | 32 => some (1, 336)
  | 33 => some (1, 336)
  | 34 => some (1, 8)
  | 35 => some (0, 32)
  | 36 => some (0, 32)
  | 37 => some (0, 8)
  | 38 => some (0, 8)
  | 39 => some (0, 4)
  | 40 => some (0, 12)
  | 41 => some (0, 24)
  | 42 => some (0, 24)
  | 43 => some (0, 24)
  | 44 => some (0, 24)
  | 45 => some (0, 72)
  | 46 => some (0, 1001)
  | 47 => some (0, 3)
  | 48 => some (0, 3)
  | 49 => some (1, 24)
  | 50 => some (0, 4)
  | 51 => some (0, 4)
  | 52 => some (0, 72)
  | 53 => some (0, 24)
  | 54 => some (0, 72)
  | 55 => some (0, 24)
  | 60 => some (2, 1)
  | 61 => some (3, 1)
  | _ => none
/-- the group that a kind is counted in: 0 the office, 1 people, 2 ships, 3 sailings, 4 the model, 5 and 6 the law's rows -/
def mG (k : Nat) : Nat := match k with
  | 1 => 1 | 2 => 1 | 3 => 1 | 4 => 1 | 5 => 1 | 6 => 1
  | 7 => 2 | 8 => 2
  | 9 => 3 | 10 => 3 | 11 => 3
  | 60 => 5 | 61 => 6
  | k => if k < 30 then 0 else 4
/-- what a list holds -/
def mEk (k : Nat) : Nat := match k with
  | 20 => 3 | 21 => 7 | _ => 9
def mLen (st : mS) (k : Nat) : Option (Nat × Nat) := match k with
  | 62 => some (0, sN st 62)
  | k => mAd k
abbrev mLs : Type := List (Nat × mV)
def mcat (v : mV) : Nat := match v with
  | .inr (.inl _) => 2
  | .inr (.inr (.inr (.inl _))) => 2
  | _ => 1
def mget : mLs → Nat → Option mV
  | [], _ => none
  | q :: r, i => cond (Nat.beq q.1 i) (some q.2) (mget r i)
def mrem (ls : mLs) (i : Nat) : mLs := ls.filter (fun q => !(q.1 == i) && !(q.1 + 1 == i && mcat q.2 == 2))
def mset1 (ls : mLs) (i : Nat) (v : mV) : mLs := (i, v) :: mrem ls i
def mset2 (ls : mLs) (i : Nat) (v : mV) : mLs := (i, v) :: ls.filter (fun q => !(q.1 == i) && (!(q.1 == i + 1) && !(q.1 + 1 == i && mcat q.2 == 2)))
def mproj (ks : List Nat) (ls : mLs) : mLs := ks.filterMap (fun i => (mget ls i).map (fun v => (i, v)))
def mroom (st : List mV) : Bool := Nat.ble ((st.map mcat).sum) 8
def bAnd (a b : Int) : Int := (Int32.ofInt a &&& Int32.ofInt b).toInt
def bOr (a b : Int) : Int := (Int32.ofInt a ||| Int32.ofInt b).toInt
def bXor (a b : Int) : Int := (Int32.ofInt a ^^^ Int32.ofInt b).toInt
def bShl (a b : Int) : Int := (Int32.ofInt a <<< (Int32.ofInt b &&& 31)).toInt
def bShr (a b : Int) : Int := (Int32.ofInt a >>> (Int32.ofInt b &&& 31)).toInt
def bChar (a : Int) : Int := ((Int32.ofInt a).toUInt32 % 65536).toInt32.toInt
def tyOK (c : Nat) (v : Int) : Prop := match c with
  | 1 => v = 0 ∨ v = 1
  | 2 => 0 ≤ v ∧ v < 65536
  | _ => True
/-- macro rows: kind (0: new, dup, ldc, invokespecial, athrow; 1: the same with ldc_w; 2: new, dup, loads, invokespecial), pool numbers, the loads -/
abbrev mMac : Type := Nat × Nat × Nat × Nat × List (Instr × Nat)
abbrev mI : Type := (Instr × Nat) ⊕ mMac
/-- a class's pool: fields (pool number, class's place in vwCl, field), calls (pool number, method), casts, exceptions, constants -/
abbrev mPool : Type := List (Nat × Nat × Nat) × List (Nat × Nat) × List (Nat × Nat) × List (Nat × Nat) × List (Nat × Int) × List (Nat × Int64)
def look2 : List (Nat × Nat) → Nat → Option Nat
  | [], _ => none
  | q :: r, i => cond (Nat.beq q.1 i) (some q.2) (look2 r i)
def lookC {α : Type} : List (Nat × α) → Nat → Option α
  | [], _ => none
  | q :: r, i => cond (Nat.beq q.1 i) (some q.2) (lookC r i)
def look3 : List (Nat × Nat × Nat) → Nat → Option (Nat × Nat)
  | [], _ => none
  | q :: r, i => cond (Nat.beq q.1 i) (some q.2) (look3 r i)
/-- a method: how many values it takes, cells and slots that it may make, its object's class by its place in vwCl -/
abbrev mSig : Type := Nat → Nat × Nat × Nat × Nat
abbrev mCall : Type := Nat → List mV → mS → (mO → mS → Prop) → Prop
abbrev mK : Type := Nat → mLs → List mV → Nat × Nat → mS → Prop
/-- a name's value of a field -/
def mfv (st : mS) (k i j fd : Nat) : mV := match fd with
  | 0 => mi (sI st k i j)
  | 1 => ml (sJ st k i j)
  | 2 => mr 7 (sR st i)
  | n + 3 => mr n i
def mbin (stk : List mV) (f : Int → Int → List mV → Prop) : Prop := match stk with
  | .inl b :: .inl a :: r => f a b r
  | _ => False
def mbinJ (stk : List mV) (f : Int64 → Int64 → List mV → Prop) : Prop := match stk with
  | .inr (.inl b) :: .inr (.inl a) :: r => f a b r
  | _ => False
def mun (stk : List mV) (f : Int → List mV → Prop) : Prop := match stk with
  | .inl a :: r => f a r
  | _ => False
def mload (ls : mLs) (k : Nat) (f : mV → Prop) : Prop := match mget ls k with
  | some v => f v
  | none => False
def mif (b : Prop) (t f : Prop) : Prop := (b → t) ∧ (¬ b → f)
def mcmp (c : Jvm.ClassFile.Cond) (a b : Int) : Prop := match c with
  | .eq => a = b
  | .ne => a ≠ b
  | .lt => a < b
  | .ge => b ≤ a
  | .gt => b < a
  | .le => a ≤ b
def isI (v : mV) (t : Prop) : Prop := match v with | .inl _ => t | _ => False
def isRf (v : mV) (t : Prop) : Prop := match v with | .inr (.inr (.inr (.inr _))) => t | _ => False
def isF (v : mV) (t : Prop) : Prop := match v with | .inr (.inr (.inl _)) => t | _ => False
def isDb (v : mV) (t : Prop) : Prop := match v with | .inr (.inr (.inr (.inl _))) => t | _ => False
def isJ (v : mV) (t : Prop) : Prop := match v with | .inr (.inl _) => t | _ => False
def mGet (P : mPool) (x k i : Nat) (st : mS) (f : mV → Prop) : Prop := match look3 P.1 x, mKd k with
  | some (ci, j), some (cj, fds) => cond (Nat.beq ci cj) (match fds[j]? with | some fd => f (mfv st k i j fd) | none => False) False
  | _, _ => False
def mPut (P : mPool) (x k c : Nat) (f : Nat → Prop) : Prop := match look3 P.1 x, mKd k with
  | some (ci, j), some (cj, fds) => cond (Nat.beq ci cj && mMut k j) (match fds[j]? with | some fd => cond (Nat.beq fd c) (f j) False | none => False) False
  | _, _ => False
def mRow (q : Option (Nat × Nat)) (c : Nat) (j : Int) (f : Prop) : Prop := match q with
  | some z => cond (Nat.beq z.1 c) ((0 ≤ j ∧ j < z.2) ∧ f) False
  | none => False
def mLn (q : Option (Nat × Nat)) (f : Nat → Prop) : Prop := match q with
  | some z => f z.2
  | none => False
def mCast (P : mPool) (x k : Nat) (f : Prop) : Prop := match look2 P.2.2.1 x, mKd k with
  | some ci, some (cj, _) => cond (Nat.beq ci cj) f False
  | _, _ => False
def mrcv (ci : Nat) (v : Option mV) (f : Prop) : Prop := match v with
  | some (.inr (.inr (.inr (.inr q)))) => (match mKd q.1 with | some z => cond (Nat.beq ci z.1) f False | none => False)
  | _ => False
def mstat (o : Option Nat) (mx mn : Prop) (f : Nat → Prop) : Prop := match o with
  | some y => cond (Nat.beq y 401) mx (cond (Nat.beq y 402) mn (f y))
  | none => False
section MStep
variable (P : mPool) (rt : Nat) (sg : mSig) (C : mCall) (J : mK) (X : Nat → Nat → mLs → Nat × Nat → mS → Prop) (post : mO → mS → Prop)
def mtgt (pc : Nat) (off : Int) : Nat := ((pc : Int) + off).toNat
/-- what a call of method y does with the stack, then on at the next row -/
def mcall (y pc : Nat) (ls : mLs) (stk : List mV) (rem : Nat × Nat) (st : mS) (nx : mLs → List mV → Nat × Nat → mS → Prop) : Prop :=
  cond (mroom (stk.drop (sg y).1)) ((sg y).2.1 ≤ rem.1 ∧ (sg y).2.2.1 ≤ rem.2 ∧ C y (stk.take (sg y).1).reverse st (fun out st' => match out with
    | .inl none => nx ls (stk.drop (sg y).1) (rem.1 - (sg y).2.1, rem.2 - (sg y).2.2.1) st'
    | .inl (some v) => nx ls (v :: stk.drop (sg y).1) (rem.1 - (sg y).2.1, rem.2 - (sg y).2.2.1) st'
    | .inr x => X x pc ls (rem.1 - (sg y).2.1, rem.2 - (sg y).2.2.1) st')) False
def mstep (i : Instr) (pc : Nat) (ls : mLs) (stk : List mV) (rem : Nat × Nat) (st : mS) (nx : mLs → List mV → Nat × Nat → mS → Prop) : Prop :=
  match i with
  | .iload_n k => mload ls k.val (fun v => isI v (nx ls (v :: stk) rem st))
  | .iload k => mload ls k (fun v => isI v (nx ls (v :: stk) rem st))
  | .aload_n k => mload ls k.val (fun v => isRf v (nx ls (v :: stk) rem st))
  | .aload k => mload ls k (fun v => isRf v (nx ls (v :: stk) rem st))
  | .fload k => mload ls k (fun v => isF v (nx ls (v :: stk) rem st))
  | .dload k => mload ls k (fun v => isDb v (nx ls (v :: stk) rem st))
  | .lload_n k => mload ls k.val (fun v => isJ v (nx ls (v :: stk) rem st))
  | .istore_n k => match stk with | v :: r => isI v (nx (mset1 ls k.val v) r rem st) | _ => False
  | .istore k => match stk with | v :: r => isI v (nx (mset1 ls k v) r rem st) | _ => False
  | .astore_n k => match stk with | v :: r => isRf v (nx (mset1 ls k.val v) r rem st) | _ => False
  | .astore k => match stk with | v :: r => isRf v (nx (mset1 ls k v) r rem st) | _ => False
  | .fstore k => match stk with | v :: r => isF v (nx (mset1 ls k v) r rem st) | _ => False
  | .dstore k => match stk with | v :: r => isDb v (nx (mset2 ls k v) r rem st) | _ => False
  | .lstore_n k => match stk with | v :: r => isJ v (nx (mset2 ls k.val v) r rem st) | _ => False
  | .iconst n => nx ls (mi n :: stk) rem st
  | .bipush n => nx ls (mi n :: stk) rem st
  | .sipush n => nx ls (mi n :: stk) rem st
  | .ldc x => (match lookC P.2.2.2.2.1 x with | some v => nx ls (mi v :: stk) rem st | none => False)
  | .ldc2_w x => (match lookC P.2.2.2.2.2 x with | some v => nx ls (ml v :: stk) rem st | none => False)
  | .lconst n => nx ls (ml (Int64.ofNat n.val) :: stk) rem st
  | .dup => match stk with | v :: r => cond (Nat.beq (mcat v) 1) (nx ls (v :: v :: r) rem st) False | _ => False
  | .dup2 => match stk with | v :: w :: r => cond (Nat.beq (mcat v) 1 && Nat.beq (mcat w) 1) (nx ls (v :: w :: v :: w :: r) rem st) False | _ => False
  | .pop => match stk with | v :: r => cond (Nat.beq (mcat v) 1) (nx ls r rem st) False | _ => False
  | .iadd => mbin stk fun a b r => inR (a + b) ∧ nx ls (mi (a + b) :: r) rem st
  | .isub => mbin stk fun a b r => inR (a - b) ∧ nx ls (mi (a - b) :: r) rem st
  | .imul => mbin stk fun a b r => inR (a * b) ∧ nx ls (mi (a * b) :: r) rem st
  | .idiv => mbin stk fun a b r => (0 ≤ a ∧ 0 < b) ∧ nx ls (mi (a / b) :: r) rem st
  | .irem => mbin stk fun a b r => (0 ≤ a ∧ 0 < b) ∧ nx ls (mi (a % b) :: r) rem st
  | .iand => mbin stk fun a b r => nx ls (mi (bAnd a b) :: r) rem st
  | .ior => mbin stk fun a b r => nx ls (mi (bOr a b) :: r) rem st
  | .ixor => mbin stk fun a b r => nx ls (mi (bXor a b) :: r) rem st
  | .ishl => mbin stk fun a b r => nx ls (mi (bShl a b) :: r) rem st
  | .ishr => mbin stk fun a b r => nx ls (mi (bShr a b) :: r) rem st
  | .iinc k n => mload ls k fun v => mun [v] fun a _ => inR (a + n) ∧ nx (mset1 ls k (mi (a + n))) stk rem st
  | .i2l => mun stk fun a r => nx ls (ml (Int32.ofInt a).toInt64 :: r) rem st
  | .l2i => match stk with | .inr (.inl a) :: r => nx ls (mi a.toInt32.toInt :: r) rem st | _ => False
  | .i2c => mun stk fun a r => nx ls (mi (bChar a) :: r) rem st
  | .i2f => mun stk fun a r => nx ls (mf (FP.i2f (Int32.ofInt a)) :: r) rem st
  | .i2d => mun stk fun a r => nx ls (md (FP.i2d (Int32.ofInt a)) :: r) rem st
  | .f2d => match stk with | .inr (.inr (.inl a)) :: r => vf_n64 (FP.f2d a) ∧ nx ls (md (FP.f2d a) :: r) rem st | _ => False
  | .fdiv => match stk with | .inr (.inr (.inl b)) :: .inr (.inr (.inl a)) :: r => vf_n32 (FP.fdiv a b) ∧ nx ls (mf (FP.fdiv a b) :: r) rem st | _ => False
  | .ddiv => match stk with | .inr (.inr (.inr (.inl b))) :: .inr (.inr (.inr (.inl a))) :: r => vf_n64 (FP.ddiv a b) ∧ nx ls (md (FP.ddiv a b) :: r) rem st | _ => False
  | .fcmp op => match stk with | .inr (.inr (.inl b)) :: .inr (.inr (.inl a)) :: r => nx ls (mi (Op.cmpValue (FP.fcmp a b) op).toInt :: r) rem st | _ => False
  | .dcmp op => match stk with | .inr (.inr (.inr (.inl b))) :: .inr (.inr (.inr (.inl a))) :: r => nx ls (mi (Op.cmpValue (FP.dcmp a b) op).toInt :: r) rem st | _ => False
  | .ladd => mbinJ stk fun a b r => nx ls (ml (a + b) :: r) rem st
  | .lsub => mbinJ stk fun a b r => nx ls (ml (a - b) :: r) rem st
  | .land => mbinJ stk fun a b r => nx ls (ml (a &&& b) :: r) rem st
  | .lor => mbinJ stk fun a b r => nx ls (ml (a ||| b) :: r) rem st
  | .lcmp => mbinJ stk fun a b r => nx ls (mi (lg_cmp a b).toInt :: r) rem st
  | .lshl => match stk with | .inl b :: .inr (.inl a) :: r => nx ls (ml (a <<< ((Int32.ofInt b).toInt64 &&& 63)) :: r) rem st | _ => False
  | .lushr => match stk with | .inl b :: .inr (.inl a) :: r => nx ls (ml (a.toUInt64 >>> ((Int32.ofInt b).toInt64.toUInt64 &&& Int64.toUInt64 63)).toInt64 :: r) rem st | _ => False
  | .goto off => J (mtgt pc off) ls stk rem st
  | .if_icmp c off => mbin stk fun a b r => mif (mcmp c a b) (J (mtgt pc off) ls r rem st) (nx ls r rem st)
  | .ifCond c off => mun stk fun a r => mif (mcmp c a 0) (J (mtgt pc off) ls r rem st) (nx ls r rem st)
  | .if_acmp .ne off => match stk with | .inr (.inr (.inr (.inr b))) :: .inr (.inr (.inr (.inr a))) :: r => cond (Nat.blt a.1 20 && Nat.blt b.1 20) (mif (¬ a = b) (J (mtgt pc off) ls r rem st) (nx ls r rem st)) False | _ => False
  | .tableswitch d lo hi offs => mun stk fun a r => (a < lo ∨ hi < a → J (mtgt pc d) ls r rem st) ∧ (lo ≤ a ∧ a ≤ hi → match offs[(a - lo).toNat]? with | some off => J (mtgt pc off) ls r rem st | none => False)
  | .getfield x => match stk with | .inr (.inr (.inr (.inr q))) :: r => mGet P x q.1 q.2 st (fun v => nx ls (v :: r) rem st) | _ => False
  | .putfield x => match stk with
    | .inl v :: .inr (.inr (.inr (.inr q))) :: r => mPut P x q.1 0 (fun j => tyOK (mFt q.1 j) v ∧ nx ls r rem (putI st q.1 q.2 j v))
    | .inr (.inl v) :: .inr (.inr (.inr (.inr q))) :: r => mPut P x q.1 1 (fun j => nx ls r rem (putJ st q.1 q.2 j v))
    | _ => False
  | .iaload => match stk with | .inl j :: .inr (.inr (.inr (.inr q))) :: r => mRow (mLen st q.1) 0 j (nx ls (mi (sI st q.1 q.2 j.toNat) :: r) rem st) | _ => False
  | .baload => match stk with | .inl j :: .inr (.inr (.inr (.inr q))) :: r => mRow (mAd q.1) 1 j (nx ls (mi (sI st q.1 q.2 j.toNat) :: r) rem st) | _ => False
  | .laload => match stk with | .inl j :: .inr (.inr (.inr (.inr q))) :: r => mRow (mAd q.1) 2 j (nx ls (ml (sJ st q.1 q.2 j.toNat) :: r) rem st) | _ => False
  | .daload => match stk with | .inl j :: .inr (.inr (.inr (.inr q))) :: r => mRow (mAd q.1) 3 j (nx ls (md (sD st q.1 q.2 j.toNat) :: r) rem st) | _ => False
  | .iastore => match stk with | .inl v :: .inl j :: .inr (.inr (.inr (.inr q))) :: r => mRow (mAd q.1) 0 j (nx ls r rem (putI st q.1 q.2 j.toNat v)) | _ => False
  | .bastore => match stk with | .inl v :: .inl j :: .inr (.inr (.inr (.inr q))) :: r => mRow (mAd q.1) 1 j ((v = 0 ∨ v = 1) ∧ nx ls r rem (putI st q.1 q.2 j.toNat v)) | _ => False
  | .lastore => match stk with | .inr (.inl v) :: .inl j :: .inr (.inr (.inr (.inr q))) :: r => mRow (mAd q.1) 2 j (nx ls r rem (putJ st q.1 q.2 j.toNat v)) | _ => False
  | .dastore => match stk with | .inr (.inr (.inr (.inl v))) :: .inl j :: .inr (.inr (.inr (.inr q))) :: r => mRow (mAd q.1) 3 j (nx ls r rem (putD st q.1 q.2 j.toNat v)) | _ => False
  | .arraylength => match stk with | .inr (.inr (.inr (.inr q))) :: r => mLn (mLen st q.1) (fun n => nx ls (mi n :: r) rem st) | _ => False
  | .checkcast x => match stk with | .inr (.inr (.inr (.inr q))) :: r => mCast P x q.1 (nx ls (mr q.1 q.2 :: r) rem st) | _ => False
  | .invokevirtual x => match look2 P.2.1 x with | some y => mrcv (sg y).2.2.2 (stk[(sg y).1 - 1]?) (mcall sg C X y pc ls stk rem st nx) | none => False
  | .invokestatic x => mstat (look2 P.2.1 x) (mbin stk fun a b r => cond (mroom r) (nx ls (mi (max a b) :: r) rem st) False) (mbin stk fun a b r => cond (mroom r) (nx ls (mi (min a b) :: r) rem st) False) (fun y => cond (Nat.ble (sg y).1 stk.length) (mcall sg C X y pc ls stk rem st nx) False)
  | .invokeinterface x _ => match look2 P.2.1 x with | some y => mcall sg C X y pc ls stk rem st nx | none => False
  | .ireturn => match stk with | .inl v :: r => tyOK rt v ∧ cond (r.isEmpty) (post (.inl (some (mi v))) st) False | _ => False
  | .areturn => match stk with | .inr (.inr (.inr (.inr q))) :: r => cond (r.isEmpty) (post (.inl (some (mr q.1 q.2))) st) False | _ => False
  | .freturn => match stk with | .inr (.inr (.inl v)) :: r => cond (r.isEmpty) (post (.inl (some (mf v))) st) False | _ => False
  | .dreturn => match stk with | .inr (.inr (.inr (.inl v))) :: r => cond (r.isEmpty) (post (.inl (some (md v))) st) False | _ => False
  | .return_ => cond (stk.isEmpty) (post (.inl none) st) False
  | _ => False
/-- loads ahead of a constructor's call -/
def mloads (ls : mLs) : List (Instr × Nat) → Option (List mV)
  | [] => some []
  | (.iload_n k, _) :: r => (match mget ls k.val, mloads ls r with | some (.inl v), some vs => some (mi v :: vs) | _, _ => none)
  | (.iload k, _) :: r => (match mget ls k, mloads ls r with | some (.inl v), some vs => some (mi v :: vs) | _, _ => none)
  | (.aload_n k, _) :: r => (match mget ls k.val, mloads ls r with | some (.inr (.inr (.inr (.inr v)))), some vs => some (mr v.1 v.2 :: vs) | _, _ => none)
  | (.aload k, _) :: r => (match mget ls k, mloads ls r with | some (.inr (.inr (.inr (.inr v)))), some vs => some (mr v.1 v.2 :: vs) | _, _ => none)
  | _ => none
def macLen (q : mMac) : Nat := match q.1 with
  | 2 => 7 + (q.2.2.2.2.map (fun z => z.2)).sum
  | _ => 10
def mblk : List mI → Nat → mLs → List mV → Nat × Nat → mS → Prop
  | [], pc, ls, stk, rem, st => J pc ls stk rem st
  | .inl (i, n) :: r, pc, ls, stk, rem, st => mstep P rt sg C J X post i pc ls stk rem st (fun ls' stk' rem' st' => mblk r (pc + n) ls' stk' rem' st')
  | .inr q :: r, pc, ls, stk, rem, st => match q.1 with
    | 2 => (match mloads ls q.2.2.2.2, look2 P.2.1 q.2.2.2.1 with
      | some vs, some y => cond (mroom (mr 99 0 :: stk)) ((sg y).2.1 ≤ rem.1 ∧ (sg y).2.2.1 ≤ rem.2 ∧ C y vs st (fun out st' => match out with
        | .inl (some v) => mblk r (pc + macLen q) ls (v :: stk) (rem.1 - (sg y).2.1, rem.2 - (sg y).2.2.1) st'
        | _ => False)) False
      | _, _ => False)
    | _ => (match look2 P.2.2.2.1 q.2.1 with
      | some x => cond (stk.isEmpty) ((1 ≤ rem.1 ∧ 6 ≤ rem.2) ∧ post (.inr x) st) False
      | none => False)
end MStep
/-- a method's blocks: where each begins, the locals that live there, its rows -/
abbrev mCode : Type := List (Nat × List Nat × List mI)
def mfind : mCode → Nat → Option (List Nat × List mI)
  | [], _ => none
  | q :: r, pc => cond (Nat.beq q.1 pc) (some q.2) (mfind r pc)
/-- handlers: from, to, where, which class -/
abbrev mHd : Type := List (Nat × Nat × Nat × Nat)
def mhand : mHd → Nat → Nat → Option Nat
  | [], _, _ => none
  | q :: r, pc, x => cond (Nat.ble q.1 pc && Nat.blt pc q.2.1 && Nat.beq q.2.2.2 x) (some q.2.2.1) (mhand r pc x)
/-- a jump: the locals that live at the label -/
def mjmp (cd : mCode) (K : mK) : mK := fun t ls stk rem st => match mfind cd t with
  | some (lv, _) => K t (mproj lv ls) stk rem st
  | none => False
def mexc (hd : mHd) (K : mK) (post : mO → mS → Prop) (cd : mCode) : Nat → Nat → mLs → Nat × Nat → mS → Prop := fun x pc ls rem st => match mhand hd pc x with
  | some h => ∀ q : Nat, mjmp cd K h ls [mr 99 q] rem st
  | none => post (.inr x) st
/-- one block, from its label -/
def mat (P : mPool) (rt : Nat) (sg : mSig) (cd : mCode) (hd : mHd) (C : mCall) (K : mK) (post : mO → mS → Prop) (t : Nat) (ls : mLs) (stk : List mV) (rem : Nat × Nat) (st : mS) : Prop :=
  match mfind cd t with
  | some (_, l) => mblk P rt sg C (mjmp cd K) (mexc hd K post cd) post l t ls stk rem st
  | none => False
def margs : Nat → List mV → mLs
  | _, [] => []
  | n, v :: r => (n, v) :: margs (n + mcat v) r
