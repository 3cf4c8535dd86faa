def mathOK (own : String) (x : Nat) (y : MethodName) (b : ByteArray) : Prop := Jvm.Cond.methodLink own x y ∈ lw_good ∧ Jvm.Cond.static y ∈ lw_good ∧ Jvm.Cond.initialized "java/lang/Math" ∈ lw_good ∧ Jvm.Cond.code y b 2 (some .int) ∈ lw_good
section Math1
variable {E : mEnv} {S : mStr} {F : mFr} {cc : ByteArray} {own : String} {nL mc ms d : Nat} {st0 : mS} {La0 : mLa}
variable {P : mPool} {rt : Nat} {sg : mSig} {C : mCall} {J : mK} {Xx : Nat → Nat → mLs → Nat × Nat → mS → Prop} {post : mO → mS → Prop}
variable {pc : Nat} {ls : mLs} {stk : List mV} {rem : Nat × Nat} {st : mS} {nx : mLs → List mV → Nat × Nat → mS → Prop}
theorem room13 {a z R : Nat} (h : a ≤ 8) (hR : z + 440 ≤ R) : a + 13 ≤ R := by omega
theorem sm_mmax {x : Nat} (hw9 : mathOK own x Lib.Math.max.name Lib.Math.max.code) (hR : mFits F d mc ms) (X : mCtx E F cc own nL) (hd : decode cc pc = .ok (.invokestatic x, 3))
    (h : mbin stk fun a b r => cond (mroom r) (nx ls (mi (max a b) :: r) rem st) False) (kn : mKn E F nL mc ms st0 La0 (pc + 3) nx) : mSim E F nL mc ms st0 La0 pc ls stk rem st := by
  obtain ⟨a, b, r, rfl, h1⟩ := mbin_inv h
  obtain ⟨hr, h2⟩ := cond_inv h1
  intro La H locs cells slots lsA hw hm he hl hs hS hls hc hsl
  obtain ⟨o1, o2, o3⟩ := ok_2 hs
  have hi := i32_lt o2 o1
  have hv : vOK st (mi (max a b)) := by
    rcases Int.le_total a b with q | q
    · rw [Int.max_eq_right q]; exact o1
    · rw [Int.max_eq_left q]; exact o2
  have go := kn _ _ _ _ h2 La H locs cells slots lsA hw hm he hl (ok_cons hv o3) hS hls hc hsl
  refine va_mmax X.1 X.2.1 (X.2.2.1.trans hls.1.symm) X.2.2.2.1 (X.2.2.2.2.1 _ hw9.1) (X.2.2.2.2.1 _ hw9.2.1) (X.2.2.2.2.1 _ hw9.2.2.1) (X.2.2.2.2.1 _ hw9.2.2.2) (by have := hR.1; omega) (room13 (mroom_R hr) hR.2.1) (Nat.le_trans (by omega) hR.2.2.1) (Nat.le_trans (by omega) hR.2.2.2) hd ?_
  have e : (if Int32.ofInt a < Int32.ofInt b then Int32.ofInt b else Int32.ofInt a) = Int32.ofInt (max a b) := by
    by_cases q : a < b
    · rw [if_pos (hi.mpr q), Int.max_eq_right (by omega)]
    · rw [if_neg (fun z => q (hi.mp z)), Int.max_eq_left (by omega)]
  rw [e]
  exact go
theorem sm_mmin {x : Nat} (hw9 : mathOK own x Lib.Math.min.name Lib.Math.min.code) (hR : mFits F d mc ms) (X : mCtx E F cc own nL) (hd : decode cc pc = .ok (.invokestatic x, 3))
    (h : mbin stk fun a b r => cond (mroom r) (nx ls (mi (min a b) :: r) rem st) False) (kn : mKn E F nL mc ms st0 La0 (pc + 3) nx) : mSim E F nL mc ms st0 La0 pc ls stk rem st := by
  obtain ⟨a, b, r, rfl, h1⟩ := mbin_inv h
  obtain ⟨hr, h2⟩ := cond_inv h1
  intro La H locs cells slots lsA hw hm he hl hs hS hls hc hsl
  obtain ⟨o1, o2, o3⟩ := ok_2 hs
  have hi := i32_lt o1 o2
  have hv : vOK st (mi (min a b)) := by
    rcases Int.le_total a b with q | q
    · rw [Int.min_eq_left q]; exact o2
    · rw [Int.min_eq_right q]; exact o1
  have go := kn _ _ _ _ h2 La H locs cells slots lsA hw hm he hl (ok_cons hv o3) hS hls hc hsl
  refine va_mmin X.1 X.2.1 (X.2.2.1.trans hls.1.symm) X.2.2.2.1 (X.2.2.2.2.1 _ hw9.1) (X.2.2.2.2.1 _ hw9.2.1) (X.2.2.2.2.1 _ hw9.2.2.1) (X.2.2.2.2.1 _ hw9.2.2.2) (by have := hR.1; omega) (room13 (mroom_R hr) hR.2.1) (Nat.le_trans (by omega) hR.2.2.1) (Nat.le_trans (by omega) hR.2.2.2) hd ?_
  have e : (if Int32.ofInt b < Int32.ofInt a then Int32.ofInt b else Int32.ofInt a) = Int32.ofInt (min a b) := by
    by_cases q : b < a
    · rw [if_pos (hi.mpr q), Int.min_eq_right (by omega)]
    · rw [if_neg (fun z => q (hi.mp z)), Int.min_eq_left (by omega)]
  rw [e]
  exact go
end Math1
/-- what a list's members do, and constructors: 501 size, 502 get, 503 add, 504 add at a place, 505 remove, 506 clear; 601 Person, 602 Ship, 603 Sailing -/
def lk (k : Nat) : Bool := Nat.ble 20 k && Nat.blt k 24
def newPerson (st : mS) (n : Int) : mS := ((fun k i j => if mG k = 1 ∧ i = sN st 1 then (if k = 3 then (if j = 0 then n else if j = 5 ∨ j = 6 then -1 else 0) else if k = 5 ∧ j < 4 then -1 else 0) else sI st k i j),
  (fun k i j => if mG k = 1 ∧ i = sN st 1 then 0 else sJ st k i j), sD st, up1 (sN st) 1 (sN st 1 + 1), sR st, sL st)
def newShip (st : mS) (n : Int) : mS := ((fun k i j => if mG k = 2 ∧ i = sN st 2 then (if k = 7 then (if j = 1 then 1 else 0) else if k = 8 ∧ j = 0 then n else 0) else sI st k i j),
  sJ st, sD st, up1 (sN st) 2 (sN st 2 + 1), sR st, sL st)
def newSailing (st : mS) (ship : Nat) (a b : Int) : mS := ((fun k i j => if mG k = 3 ∧ i = sN st 3 then (if k = 9 then (if j = 1 then a else if j = 2 then b else if j = 3 then 112 else 0) else if k = 10 ∧ j < 3 then -1 else 0) else sI st k i j),
  sJ st, sD st, up1 (sN st) 3 (sN st 3 + 1), up1 (sR st) (sN st 3) ship, sL st)
def mPrim (y : Nat) (vs : List mV) (st : mS) (post : mO → mS → Prop) : Prop := match y, vs with
  | 501, [.inr (.inr (.inr (.inr q)))] => cond (lk q.1 && Nat.beq q.2 0) (post (.inl (some (mi (sL st q.1).length))) st) False
  | 502, [.inr (.inr (.inr (.inr q))), .inl j] => cond (lk q.1 && Nat.beq q.2 0) (0 ≤ j ∧ ∃ x, (sL st q.1)[j.toNat]? = some x ∧ post (.inl (some (mr (mEk q.1) x))) st) False
  | 503, [.inr (.inr (.inr (.inr q))), .inr (.inr (.inr (.inr z)))] => cond (lk q.1 && Nat.beq q.2 0 && Nat.beq z.1 (mEk q.1)) ((sL st q.1).length ≤ 32 ∧ post (.inl (some (mi 1))) (putL st q.1 (sL st q.1 ++ [z.2]))) False
  | 504, [.inr (.inr (.inr (.inr q))), .inl j, .inr (.inr (.inr (.inr z)))] => cond (lk q.1 && Nat.beq q.2 0 && Nat.beq z.1 (mEk q.1)) ((0 ≤ j ∧ j.toNat ≤ (sL st q.1).length ∧ (sL st q.1).length ≤ 8) ∧ post (.inl none) (putL st q.1 ((sL st q.1).take j.toNat ++ z.2 :: (sL st q.1).drop j.toNat))) False
  | 505, [.inr (.inr (.inr (.inr q))), .inl j] => cond (lk q.1 && Nat.beq q.2 0) (0 ≤ j ∧ ∃ x, (sL st q.1)[j.toNat]? = some x ∧ post (.inl (some (mr (mEk q.1) x))) (putL st q.1 ((sL st q.1).take j.toNat ++ (sL st q.1).drop (j.toNat + 1)))) False
  | 506, [.inr (.inr (.inr (.inr q)))] => cond (lk q.1 && Nat.beq q.2 0) (post (.inl none) (putL st q.1 [])) False
  | 601, [.inl n] => post (.inl (some (mr 3 (sN st 1)))) (newPerson st n)
  | 602, [.inl n] => post (.inl (some (mr 7 (sN st 2)))) (newShip st n)
  | 603, [.inr (.inr (.inr (.inr q))), .inl a, .inl b] => cond (Nat.beq q.1 7) (post (.inl (some (mr 9 (sN st 3)))) (newSailing st q.2 a b)) False
  | _, _ => False
/-- what the members may take -/
def mPsg (y : Nat) : Nat × Nat × Nat × Nat := match y with
  | 501 => (1, 0, 0, 3)
  | 502 => (2, 0, 0, 3)
  | 503 => (2, 1, 64, 3)
  | 504 => (3, 1, 16, 3)
  | 505 => (2, 0, 0, 3)
  | 506 => (1, 0, 0, 3)
  | 601 => (1, 6, 1024, 7)
  | 602 => (1, 2, 8, 9)
  | _ => (3, 3, 16, 8)
