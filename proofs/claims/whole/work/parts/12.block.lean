/-! BLOCKS: what a program checks of the code; one block's simulation -/
def inB (k : Int) : Bool := decide (-2147483648 ≤ k) && decide (k ≤ 2147483647)
theorem inB_ok {k : Int} (h : inB k = true) : inR k := by
  unfold inB at h
  rw [Bool.and_eq_true] at h
  exact ⟨of_decide_eq_true h.1, of_decide_eq_true h.2⟩
def tgB (pc : Nat) (off : Int) : Bool := decide ((pc : Int) + off = ((mtgt pc off : Nat) : Int))
abbrev mTbl : Type := Nat → Option mMeth
def refB (ret : Option FieldType) : Bool := match ret with
  | some (.object _) => true
  | _ => false
def vcB (P : mPool) (M : mTbl) (x : Nat) : Bool := match look2 P.2.1 x with
  | some y => Nat.blt y 400 && (match M y with | some q => !(qS q) | none => false)
  | none => false
def scB (P : mPool) (M : mTbl) (x : Nat) : Bool := match look2 P.2.1 x with
  | some y => Nat.beq y 401 || Nat.beq y 402 || (Nat.blt y 400 && (match M y with | some q => qS q | none => false))
  | none => false
def icB (P : mPool) (x k : Nat) : Bool := match look2 P.2.1 x with
  | some y => Nat.ble 501 y && Nat.ble y 506 && Nat.beq k (match y with | 501 => 1 | 502 => 2 | 503 => 2 | 504 => 3 | 505 => 2 | _ => 1)
  | none => false
def iOK (P : mPool) (M : mTbl) (rt : Nat) (ret : Option FieldType) (nL pc n : Nat) (i : Instr) : Bool := match i with
  | .iload_n _ => Nat.beq n 1
  | .iload _ => Nat.beq n 2
  | .aload_n _ => Nat.beq n 1
  | .aload _ => Nat.beq n 2
  | .fload _ => Nat.beq n 2
  | .dload _ => Nat.beq n 2
  | .lload_n _ => Nat.beq n 1
  | .istore_n k => Nat.beq n 1 && Nat.blt k.val nL
  | .istore k => Nat.beq n 2 && Nat.blt k nL
  | .astore_n k => Nat.beq n 1 && Nat.blt k.val nL
  | .astore k => Nat.beq n 2 && Nat.blt k nL
  | .fstore k => Nat.beq n 2 && Nat.blt k nL
  | .dstore k => Nat.beq n 2 && Nat.blt (k + 1) nL
  | .lstore_n k => Nat.beq n 1 && Nat.blt (k.val + 1) nL
  | .iconst k => Nat.beq n 1 && inB k
  | .bipush k => Nat.beq n 2 && (inB k && decide ((Int8.ofInt k).toInt32 = Int32.ofInt k))
  | .sipush k => Nat.beq n 3 && (inB k && decide ((Int16.ofInt k).toInt32 = Int32.ofInt k))
  | .lconst _ => Nat.beq n 1
  | .ldc _ => Nat.beq n 2
  | .ldc2_w _ => Nat.beq n 3
  | .dup => Nat.beq n 1
  | .dup2 => Nat.beq n 1
  | .pop => Nat.beq n 1
  | .iadd => Nat.beq n 1
  | .isub => Nat.beq n 1
  | .imul => Nat.beq n 1
  | .idiv => Nat.beq n 1
  | .irem => Nat.beq n 1
  | .iand => Nat.beq n 1
  | .ior => Nat.beq n 1
  | .ixor => Nat.beq n 1
  | .ishl => Nat.beq n 1
  | .ishr => Nat.beq n 1
  | .i2l => Nat.beq n 1
  | .l2i => Nat.beq n 1
  | .i2c => Nat.beq n 1
  | .i2f => Nat.beq n 1
  | .i2d => Nat.beq n 1
  | .f2d => Nat.beq n 1
  | .fdiv => Nat.beq n 1
  | .ddiv => Nat.beq n 1
  | .ladd => Nat.beq n 1
  | .lsub => Nat.beq n 1
  | .land => Nat.beq n 1
  | .lor => Nat.beq n 1
  | .lcmp => Nat.beq n 1
  | .lshl => Nat.beq n 1
  | .lushr => Nat.beq n 1
  | .fcmp _ => Nat.beq n 1
  | .dcmp _ => Nat.beq n 1
  | .iinc k _ => Nat.beq n 3 && Nat.blt k nL
  | .goto off => Nat.beq n 3 && tgB pc off
  | .if_icmp _ off => Nat.beq n 3 && tgB pc off
  | .ifCond _ off => Nat.beq n 3 && tgB pc off
  | .if_acmp _ off => Nat.beq n 3 && tgB pc off
  | .getfield _ => Nat.beq n 3
  | .putfield _ => Nat.beq n 3
  | .iaload => Nat.beq n 1
  | .baload => Nat.beq n 1
  | .laload => Nat.beq n 1
  | .daload => Nat.beq n 1
  | .iastore => Nat.beq n 1
  | .bastore => Nat.beq n 1
  | .lastore => Nat.beq n 1
  | .dastore => Nat.beq n 1
  | .arraylength => Nat.beq n 1
  | .checkcast _ => Nat.beq n 3
  | .invokevirtual x => Nat.beq n 3 && vcB P M x
  | .invokestatic x => Nat.beq n 3 && scB P M x
  | .invokeinterface x k => Nat.beq n 5 && icB P x k
  | .ireturn => Nat.beq n 1 && decide (ret = some (tyF rt))
  | .areturn => Nat.beq n 1 && refB ret
  | .freturn => Nat.beq n 1 && decide (ret = some .float)
  | .dreturn => Nat.beq n 1 && decide (ret = some .double)
  | .return_ => Nat.beq n 1 && decide (ret = none)
  | .tableswitch d _ _ offs => tgB pc d && offs.toList.all (tgB pc)
  | _ => false
def decB (cc : ByteArray) (pc : Nat) (i : Instr) (n : Nat) : Bool := decide (decode cc pc = .ok (i, n))
def loadsB (cc : ByteArray) : Nat → List (Instr × Nat) → Bool
  | _, [] => true
  | pc, q :: r => decB cc pc q.1 q.2 && (match q.1 with | .iload_n _ => Nat.beq q.2 1 | .iload _ => Nat.beq q.2 2 | .aload_n _ => Nat.beq q.2 1 | .aload _ => Nat.beq q.2 2 | _ => false) && loadsB cc (pc + q.2) r
def lensum (l : List (Instr × Nat)) : Nat := (l.map (fun z => z.2)).sum
/-- throws that the tables know: pool numbers of the class and of its constructor, which -/
abbrev mThr : Type := List (Nat × Nat × Nat)
/-- the class that a constructor makes, by its place -/
def cnP (y : Nat) : Nat := match y with
  | 601 => 7
  | 602 => 9
  | _ => 8
def macB (own : String) (P : mPool) (S : mStr) (TH : mThr) (cc : ByteArray) (pc : Nat) (q : mMac) : Bool := decB cc pc (.new q.2.1) 3 && decB cc (pc + 3) .dup 1 && (match q.1 with
  | 0 => decB cc (pc + 4) (.ldc q.2.2.1) 2 && decB cc (pc + 6) (.invokespecial q.2.2.2.1) 3 && decB cc (pc + 9) .athrow 1 && S.any (fun z => z.1 == own && Nat.beq z.2.1 q.2.2.1) && (match look2 P.2.2.2.1 q.2.1 with | some x => TH.any (fun z => Nat.beq z.1 q.2.1 && Nat.beq z.2.1 q.2.2.2.1 && Nat.beq z.2.2 x) | none => false)
  | 1 => decB cc (pc + 4) (.ldc_w q.2.2.1) 3 && decB cc (pc + 7) (.invokespecial q.2.2.2.1) 3 && decB cc (pc + 10) .athrow 1 && S.any (fun z => z.1 == own && Nat.beq z.2.1 q.2.2.1) && (match look2 P.2.2.2.1 q.2.1 with | some x => TH.any (fun z => Nat.beq z.1 q.2.1 && Nat.beq z.2.1 q.2.2.2.1 && Nat.beq z.2.2 x) | none => false)
  | 2 => loadsB cc (pc + 4) q.2.2.2.2 && decB cc (pc + 4 + lensum q.2.2.2.2) (.invokespecial q.2.2.2.1) 3 && (match look2 P.2.1 q.2.2.2.1 with | some y => Nat.ble 601 y && Nat.ble y 603 && (match look2 P.2.2.1 q.2.1 with | some ci => Nat.beq ci (cnP y) | none => false) | none => false)
  | _ => false)
def blkB (own : String) (P : mPool) (M : mTbl) (S : mStr) (TH : mThr) (cc : ByteArray) (rt : Nat) (ret : Option FieldType) (nL : Nat) : Nat → List mI → Bool
  | _, [] => true
  | pc, .inl (i, n) :: r => decB cc pc i n && iOK P M rt ret nL pc n i && blkB own P M S TH cc rt ret nL (pc + n) r
  | pc, .inr q :: r => macB own P S TH cc pc q && blkB own P M S TH cc rt ret nL (pc + macLen q) r
def codB (own : String) (P : mPool) (M : mTbl) (S : mStr) (TH : mThr) (cc : ByteArray) (rt : Nat) (ret : Option FieldType) (nL : Nat) (cd : mCode) : Bool := cd.all (fun b => blkB own P M S TH cc rt ret nL b.1 b.2.2)
