/-! ONE ROW, ONE BLOCK: the pure machine's proposition gives the walk -/
section Sound
variable {E : mEnv} {S : mStr} {F : mFr} {cc : ByteArray} {own : String} {nL mc ms d : Nat} {st0 : mS} {La0 : mLa}
variable {P : mPool} {M : mTbl} {TH : mThr} {rt : Nat} {ret : Option FieldType} {sg : mSig} {C : mCall} {J : mK} {Xx : Nat → Nat → mLs → Nat × Nat → mS → Prop} {post : mO → mS → Prop}
def mOK (E : mEnv) (S : mStr) (F : mFr) (own : String) (P : mPool) (M : mTbl) (sg : mSig) (C : mCall) (d : Nat) : Prop := poolOK own P ∧
  (∀ x y q, look2 P.2.1 x = some y → M y = some q → Jvm.Cond.methodLink own x (qY q) ∈ lw_good) ∧
  (∀ y q, M y = some q → methOK q) ∧ (∀ y q, y < 400 → M y = some q → sg y = (qN q, qC q, qT q, qI q)) ∧
  (∀ y q, y < 400 → M y = some q → ∀ vs st post, C y vs st post → mMet E S F.2.1 q d vs st post) ∧
  (∀ x, look2 P.2.1 x = some 401 → mathOK own x Lib.Math.max.name Lib.Math.max.code) ∧ (∀ x, look2 P.2.1 x = some 402 → mathOK own x Lib.Math.min.name Lib.Math.min.code)
def isRet (i : Instr) : Bool := match i with
  | .ireturn => true | .areturn => true | .freturn => true | .dreturn => true | .return_ => true
  | _ => false
/-- interface calls, returns, and macro rows: what the simulation of blocks takes as given -/
abbrev mKi (E : mEnv) (F : mFr) (cc : ByteArray) (nL mc ms : Nat) (st0 : mS) (La0 : mLa) (P : mPool) (sg : mSig) (C : mCall) (Xx : Nat → Nat → mLs → Nat × Nat → mS → Prop) : Prop :=
  ∀ x k y pc ls stk rem st nx, look2 P.2.1 x = some y → icB P x k = true → decode cc pc = .ok (.invokeinterface x k, 5) → mcall sg C Xx y pc ls stk rem st nx → mKn E F nL mc ms st0 La0 (pc + 5) nx → mSim E F nL mc ms st0 La0 pc ls stk rem st
abbrev mKe (E : mEnv) (F : mFr) (cc : ByteArray) (nL mc ms : Nat) (st0 : mS) (La0 : mLa) (P : mPool) (M : mTbl) (rt : Nat) (ret : Option FieldType) (sg : mSig) (C : mCall) (J : mK) (Xx : Nat → Nat → mLs → Nat × Nat → mS → Prop) (post : mO → mS → Prop) : Prop :=
  ∀ i pc ls stk rem st nx, isRet i = true → decode cc pc = .ok (i, 1) → iOK P M rt ret nL pc 1 i = true → mstep P rt sg C J Xx post i pc ls stk rem st nx → mSim E F nL mc ms st0 La0 pc ls stk rem st
variable {pc : Nat} {ls : mLs} {stk : List mV} {rem : Nat × Nat} {st : mS} {nx : mLs → List mV → Nat × Nat → mS → Prop}
theorem beq1 {n k : Nat} (h : Nat.beq n k = true) : n = k := Nat.eq_of_beq_eq_true h
theorem beq2 {n k : Nat} {b : Bool} (h : (Nat.beq n k && b) = true) : n = k ∧ b = true := by
  rw [Bool.and_eq_true] at h
  exact ⟨beq1 h.1, h.2⟩
theorem blt1 {n k : Nat} (h : Nat.blt n k = true) : n < k := Nat.le_of_ble_eq_true h
theorem tgB1 {pc : Nat} {off : Int} (h : tgB pc off = true) : (pc : Int) + off = ((mtgt pc off : Nat) : Int) := of_decide_eq_true h
set_option maxHeartbeats 4000000 in
theorem step_sound (X : mCtx E F cc own nL) (T : mTab E S (fS F)) (hR : mFits F d mc ms) (hO : mOK E S F own P M sg C d)
    (ki : mKi E F cc nL mc ms st0 La0 P sg C Xx) (ke : mKe E F cc nL mc ms st0 La0 P M rt ret sg C J Xx post)
    (kj : mKj E F nL mc ms st0 La0 J) (kx : mKx E F nL mc ms st0 La0 Xx) {i : Instr} {n : Nat}
    (hd : decode cc pc = .ok (i, n)) (hi : iOK P M rt ret nL pc n i = true) (h : mstep P rt sg C J Xx post i pc ls stk rem st nx) (kn : mKn E F nL mc ms st0 La0 (pc + n) nx) : mSim E F nL mc ms st0 La0 pc ls stk rem st := by
  cases i
  case iload_n k =>
    obtain rfl := beq1 (k := 1) hi
    exact sm_iload_n X hd h kn
  case iload k =>
    obtain rfl := beq1 (k := 2) hi
    exact sm_iload X hd h kn
  case aload_n k =>
    obtain rfl := beq1 (k := 1) hi
    exact sm_aload_n X hd h kn
  case aload k =>
    obtain rfl := beq1 (k := 2) hi
    exact sm_aload X hd h kn
  case fload k =>
    obtain rfl := beq1 (k := 2) hi
    exact sm_fload X hd h kn
  case dload k =>
    obtain rfl := beq1 (k := 2) hi
    exact sm_dload X hd h kn
  case lload_n k =>
    obtain rfl := beq1 (k := 1) hi
    exact sm_lload_n X hd h kn
  case istore_n k =>
    obtain ⟨rfl, hb⟩ := beq2 (k := 1) (b := Nat.blt (k.val) nL) hi
    exact sm_istore_n (blt1 hb) X hd h kn
  case istore k =>
    obtain ⟨rfl, hb⟩ := beq2 (k := 2) (b := Nat.blt (k) nL) hi
    exact sm_istore (blt1 hb) X hd h kn
  case astore_n k =>
    obtain ⟨rfl, hb⟩ := beq2 (k := 1) (b := Nat.blt (k.val) nL) hi
    exact sm_astore_n (blt1 hb) X hd h kn
  case astore k =>
    obtain ⟨rfl, hb⟩ := beq2 (k := 2) (b := Nat.blt (k) nL) hi
    exact sm_astore (blt1 hb) X hd h kn
  case fstore k =>
    obtain ⟨rfl, hb⟩ := beq2 (k := 2) (b := Nat.blt (k) nL) hi
    exact sm_fstore (blt1 hb) X hd h kn
  case dstore k =>
    obtain ⟨rfl, hb⟩ := beq2 (k := 2) (b := Nat.blt (k + 1) nL) hi
    exact sm_dstore (blt1 hb) X hd h kn
  case lstore_n k =>
    obtain ⟨rfl, hb⟩ := beq2 (k := 1) (b := Nat.blt (k.val + 1) nL) hi
    exact sm_lstore_n (blt1 hb) X hd h kn
  case iconst k =>
    obtain ⟨rfl, hb⟩ := beq2 (k := 1) (b := inB k) hi
    exact sm_iconst (inB_ok hb) X hd h kn
  case bipush k =>
    obtain ⟨rfl, hb⟩ := beq2 (k := 2) (b := inB k && decide ((Int8.ofInt k).toInt32 = Int32.ofInt k)) hi
    rw [Bool.and_eq_true] at hb
    exact sm_bipush ⟨inB_ok hb.1, of_decide_eq_true hb.2⟩ X hd h kn
  case sipush k =>
    obtain ⟨rfl, hb⟩ := beq2 (k := 3) (b := inB k && decide ((Int16.ofInt k).toInt32 = Int32.ofInt k)) hi
    rw [Bool.and_eq_true] at hb
    exact sm_sipush ⟨inB_ok hb.1, of_decide_eq_true hb.2⟩ X hd h kn
  case ldc x =>
    obtain rfl := beq1 (k := 2) hi
    exact sm_ldc hO.1 X hd h kn
  case ldc2_w x =>
    obtain rfl := beq1 (k := 3) hi
    exact sm_ldc2_w hO.1 X hd h kn
  case lconst k =>
    obtain rfl := beq1 (k := 1) hi
    exact sm_lconst X hd h kn
  case dup =>
    obtain rfl := beq1 (k := 1) hi
    exact sm_dup X hd h kn
  case dup2 =>
    obtain rfl := beq1 (k := 1) hi
    exact sm_dup2 X hd h kn
  case pop =>
    obtain rfl := beq1 (k := 1) hi
    exact sm_pop X hd h kn
  case iadd =>
    obtain rfl := beq1 (k := 1) hi
    exact sm_iadd X hd h kn
  case isub =>
    obtain rfl := beq1 (k := 1) hi
    exact sm_isub X hd h kn
  case imul =>
    obtain rfl := beq1 (k := 1) hi
    exact sm_imul X hd h kn
  case idiv =>
    obtain rfl := beq1 (k := 1) hi
    exact sm_idiv X hd h kn
  case irem =>
    obtain rfl := beq1 (k := 1) hi
    exact sm_irem X hd h kn
  case iand =>
    obtain rfl := beq1 (k := 1) hi
    exact sm_iand X hd h kn
  case ior =>
    obtain rfl := beq1 (k := 1) hi
    exact sm_ior X hd h kn
  case ixor =>
    obtain rfl := beq1 (k := 1) hi
    exact sm_ixor X hd h kn
  case ishl =>
    obtain rfl := beq1 (k := 1) hi
    exact sm_ishl X hd h kn
  case ishr =>
    obtain rfl := beq1 (k := 1) hi
    exact sm_ishr X hd h kn
  case i2l =>
    obtain rfl := beq1 (k := 1) hi
    exact sm_i2l X hd h kn
  case l2i =>
    obtain rfl := beq1 (k := 1) hi
    exact sm_l2i X hd h kn
  case i2c =>
    obtain rfl := beq1 (k := 1) hi
    exact sm_i2c X hd h kn
  case i2f =>
    obtain rfl := beq1 (k := 1) hi
    exact sm_i2f X hd h kn
  case i2d =>
    obtain rfl := beq1 (k := 1) hi
    exact sm_i2d X hd h kn
  case f2d =>
    obtain rfl := beq1 (k := 1) hi
    exact sm_f2d X hd h kn
  case fdiv =>
    obtain rfl := beq1 (k := 1) hi
    exact sm_fdiv X hd h kn
  case ddiv =>
    obtain rfl := beq1 (k := 1) hi
    exact sm_ddiv X hd h kn
  case ladd =>
    obtain rfl := beq1 (k := 1) hi
    exact sm_ladd X hd h kn
  case lsub =>
    obtain rfl := beq1 (k := 1) hi
    exact sm_lsub X hd h kn
  case land =>
    obtain rfl := beq1 (k := 1) hi
    exact sm_land X hd h kn
  case lor =>
    obtain rfl := beq1 (k := 1) hi
    exact sm_lor X hd h kn
  case lcmp =>
    obtain rfl := beq1 (k := 1) hi
    exact sm_lcmp X hd h kn
  case lshl =>
    obtain rfl := beq1 (k := 1) hi
    exact sm_lshl X hd h kn
  case lushr =>
    obtain rfl := beq1 (k := 1) hi
    exact sm_lushr X hd h kn
  case iaload =>
    obtain rfl := beq1 (k := 1) hi
    exact sm_iaload X hd h kn
  case baload =>
    obtain rfl := beq1 (k := 1) hi
    exact sm_baload X hd h kn
  case laload =>
    obtain rfl := beq1 (k := 1) hi
    exact sm_laload X hd h kn
  case daload =>
    obtain rfl := beq1 (k := 1) hi
    exact sm_daload X hd h kn
  case iastore =>
    obtain rfl := beq1 (k := 1) hi
    exact sm_iastore X hd h kn
  case bastore =>
    obtain rfl := beq1 (k := 1) hi
    exact sm_bastore X hd h kn
  case lastore =>
    obtain rfl := beq1 (k := 1) hi
    exact sm_lastore X hd h kn
  case dastore =>
    obtain rfl := beq1 (k := 1) hi
    exact sm_dastore X hd h kn
  case arraylength =>
    obtain rfl := beq1 (k := 1) hi
    exact sm_arraylength X hd h kn
  case fcmp op =>
    obtain rfl := beq1 (k := 1) hi
    exact sm_fcmp X hd h kn
  case dcmp op =>
    obtain rfl := beq1 (k := 1) hi
    exact sm_dcmp X hd h kn
  case iinc k z =>
    obtain ⟨rfl, hb⟩ := beq2 (k := 3) (b := Nat.blt k nL) hi
    exact sm_iinc (blt1 hb) X hd h kn
  case goto off =>
    obtain ⟨rfl, hb⟩ := beq2 (k := 3) (b := tgB pc off) hi
    exact sm_goto (tgB1 hb) X hd h kj
  case if_icmp c off =>
    obtain ⟨rfl, hb⟩ := beq2 (k := 3) (b := tgB pc off) hi
    cases c
    · exact sm_icmp_eq (tgB1 hb) X hd h kj kn
    · exact sm_icmp_ne (tgB1 hb) X hd h kj kn
    · exact sm_icmp_lt (tgB1 hb) X hd h kj kn
    · exact sm_icmp_ge (tgB1 hb) X hd h kj kn
    · exact sm_icmp_gt (tgB1 hb) X hd h kj kn
    · exact sm_icmp_le (tgB1 hb) X hd h kj kn
  case ifCond c off =>
    obtain ⟨rfl, hb⟩ := beq2 (k := 3) (b := tgB pc off) hi
    cases c
    · exact sm_if_eq (tgB1 hb) X hd h kj kn
    · exact sm_if_ne (tgB1 hb) X hd h kj kn
    · exact sm_if_lt (tgB1 hb) X hd h kj kn
    · exact sm_if_ge (tgB1 hb) X hd h kj kn
    · exact sm_if_gt (tgB1 hb) X hd h kj kn
    · exact sm_if_le (tgB1 hb) X hd h kj kn
  case if_acmp c off =>
    obtain ⟨rfl, hb⟩ := beq2 (k := 3) (b := tgB pc off) hi
    cases c
    · exact (show False from h).elim
    · exact sm_acmp_ne (tgB1 hb) X hd h kj kn
  case tableswitch d lo hi offs =>
    have hb : (tgB pc d && offs.toList.all (tgB pc)) = true := hi
    rw [Bool.and_eq_true] at hb
    exact sm_tableswitch (tgB1 hb.1) (fun off ho => tgB1 (List.all_eq_true.mp hb.2 off ho)) X hd h kj
  case getfield x =>
    obtain rfl := beq1 (k := 3) hi
    exact sm_getfield hO.1 X hd h kn
  case putfield x =>
    obtain rfl := beq1 (k := 3) hi
    exact sm_putfield hO.1 X hd h kn
  case checkcast x =>
    obtain rfl := beq1 (k := 3) hi
    exact sm_checkcast hO.1 X hd h kn
  case invokevirtual x =>
    obtain ⟨rfl, hb⟩ := beq2 (k := 3) (b := vcB P M x) hi
    unfold vcB at hb
    cases hy : look2 P.2.1 x with
    | none => rw [hy] at hb; exact absurd (show false = true from hb) (by decide)
    | some y =>
      rw [hy] at hb
      dsimp only at hb
      rw [Bool.and_eq_true] at hb
      cases hm : M y with
      | none => rw [hm] at hb; exact absurd hb.2 (by decide)
      | some q =>
        rw [hm] at hb
        have hs : qS q = false := by have := hb.2; dsimp only at this; rw [Bool.not_eq_true'] at this; exact this
        exact sm_callV (hO.2.2.1 y q hm) hs (hO.2.1 x y q hy hm) hy (hO.2.2.2.1 y q (blt1 hb.1) hm) (hO.2.2.2.2.1 y q (blt1 hb.1) hm) hR T X hd h kn kx
  case invokestatic x =>
    obtain ⟨rfl, hb⟩ := beq2 (k := 3) (b := scB P M x) hi
    unfold scB at hb
    cases hy : look2 P.2.1 x with
    | none => rw [hy] at hb; exact absurd (show false = true from hb) (by decide)
    | some y =>
      rw [hy] at hb
      dsimp only at hb
      have h0 : mstat (look2 P.2.1 x) (mbin stk fun a b r => cond (mroom r) (nx ls (mi (max a b) :: r) rem st) False) (mbin stk fun a b r => cond (mroom r) (nx ls (mi (min a b) :: r) rem st) False) (fun y => cond (Nat.ble (sg y).1 stk.length) (mcall sg C Xx y pc ls stk rem st nx) False) := h
      by_cases y1 : y = 401
      · subst y1
        rw [hy] at h0
        exact sm_mmax (hO.2.2.2.2.2.1 x hy) hR X hd h0 kn
      · by_cases y2 : y = 402
        · subst y2
          rw [hy] at h0
          exact sm_mmin (hO.2.2.2.2.2.2 x hy) hR X hd h0 kn
        · have n1 : Nat.beq y 401 = false := by
            cases e : Nat.beq y 401 with
            | false => rfl
            | true => exact absurd (beq1 e) y1
          have n2 : Nat.beq y 402 = false := by
            cases e : Nat.beq y 402 with
            | false => rfl
            | true => exact absurd (beq1 e) y2
          rw [n1, n2, Bool.false_or, Bool.false_or, Bool.and_eq_true] at hb
          cases hm : M y with
          | none => rw [hm] at hb; exact absurd hb.2 (by decide)
          | some q =>
            rw [hm] at hb
            exact sm_callS (hO.2.2.1 y q hm) hb.2 (hO.2.1 x y q hy hm) hy (blt1 hb.1) (hO.2.2.2.1 y q (blt1 hb.1) hm) (hO.2.2.2.2.1 y q (blt1 hb.1) hm) hR T X hd h kn kx
  case invokeinterface x k =>
    obtain ⟨rfl, hb⟩ := beq2 (k := 5) (b := icB P x k) hi
    cases hy : look2 P.2.1 x with
    | none => unfold icB at hb; rw [hy] at hb; exact absurd (show false = true from hb) (by decide)
    | some y =>
      have h0 : (match look2 P.2.1 x with | some y => mcall sg C Xx y pc ls stk rem st nx | none => False) := h
      rw [hy] at h0
      exact ki x k y pc ls stk rem st nx hy hb hd h0 kn
  case ireturn =>
    obtain ⟨rfl, hb⟩ := beq2 (k := 1) (b := decide (ret = some (tyF rt))) hi
    exact ke _ pc ls stk rem st nx rfl hd hi h
  case areturn =>
    obtain ⟨rfl, hb⟩ := beq2 (k := 1) (b := refB ret) hi
    exact ke _ pc ls stk rem st nx rfl hd hi h
  case freturn =>
    obtain ⟨rfl, hb⟩ := beq2 (k := 1) (b := decide (ret = some .float)) hi
    exact ke _ pc ls stk rem st nx rfl hd hi h
  case dreturn =>
    obtain ⟨rfl, hb⟩ := beq2 (k := 1) (b := decide (ret = some .double)) hi
    exact ke _ pc ls stk rem st nx rfl hd hi h
  case return_ =>
    obtain ⟨rfl, hb⟩ := beq2 (k := 1) (b := decide (ret = none)) hi
    exact ke _ pc ls stk rem st nx rfl hd hi h
  all_goals exact absurd (show false = true from hi) (by decide)
end Sound
