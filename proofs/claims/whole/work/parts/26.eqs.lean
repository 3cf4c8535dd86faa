/-! ROWS for symbolic runs of the pure machine (all by computation) -/
theorem e_get0 {k : Nat} {v : mV} {r : mLs} : mget ((k, v) :: r) k = some v := by unfold mget; rw [show Nat.beq k k = true from Nat.beq_refl k]; rfl
theorem e_getn {j k : Nat} {v : mV} {r : mLs} (h : j ≠ k) : mget ((j, v) :: r) k = mget r k := by
  have e : Nat.beq j k = false := by
    cases e : Nat.beq j k with
    | false => rfl
    | true => exact absurd (Nat.eq_of_beq_eq_true e) h
  conv => lhs; unfold mget
  rw [show Nat.beq (j, v).1 k = false from e]
  rfl
theorem e_load0 {k : Nat} {v : mV} {r : mLs} {f : mV → Prop} : mload ((k, v) :: r) k f = f v := by unfold mload; rw [e_get0]
theorem e_loadn {j k : Nat} {v : mV} {r : mLs} {f : mV → Prop} (h : j ≠ k) : mload ((j, v) :: r) k f = mload r k f := by unfold mload; rw [e_getn h]
theorem e_remnil {i : Nat} : mrem [] i = [] := (rfl)
theorem e_rem0 {i : Nat} {v : mV} {r : mLs} : mrem ((i, v) :: r) i = mrem r i := by simp [mrem]
theorem e_remi {j i : Nat} {x : Int} {r : mLs} (h : j ≠ i) : mrem ((j, mi x) :: r) i = (j, mi x) :: mrem r i := by simp [mrem, h, mcat]
theorem e_remr {j i k n : Nat} {r : mLs} (h : j ≠ i) : mrem ((j, mr k n) :: r) i = (j, mr k n) :: mrem r i := by simp [mrem, h, mcat]
theorem e_pnil {ls : mLs} : mproj [] ls = [] := (rfl)
def mpc (o : Option mV) (k : Nat) (r : mLs) : mLs := match o with
  | some v => (k, v) :: r
  | none => r
theorem e_pc {k : Nat} {v : mV} {r : mLs} : mpc (some v) k r = (k, v) :: r := (rfl)
theorem e_pcons {k : Nat} {ks : List Nat} {ls : mLs} : mproj (k :: ks) ls = mpc (mget ls k) k (mproj ks ls) := by
  cases h : mget ls k with
  | none => simp [mproj, mpc, h]
  | some v => simp [mproj, mpc, h]
theorem e_set1 {ls : mLs} {i : Nat} {v : mV} : mset1 ls i v = (i, v) :: mrem ls i := (rfl)
section EqS
variable {P : mPool} {rt : Nat} {sg : mSig} {C : mCall} {J : mK} {X : Nat → Nat → mLs → Nat × Nat → mS → Prop} {post : mO → mS → Prop}
variable {pc : Nat} {ls : mLs} {r : List mV} {rem : Nat × Nat} {st : mS} {nx : mLs → List mV → Nat × Nat → mS → Prop}
theorem e_isI {x : Int} {t : Prop} : isI (mi x) t = t := (rfl)
theorem e_isR {k i : Nat} {t : Prop} : isRf (mr k i) t = t := (rfl)
theorem e_isJ {x : Int64} {t : Prop} : isJ (ml x) t = t := (rfl)
theorem e_mun {x : Int} {f : Int → List mV → Prop} : mun (mi x :: r) f = f x r := (rfl)
theorem e_mbin {x y : Int} {f : Int → Int → List mV → Prop} : mbin (mi y :: mi x :: r) f = f x y r := (rfl)
theorem e_mbinJ {x y : Int64} {f : Int64 → Int64 → List mV → Prop} : mbinJ (ml y :: ml x :: r) f = f x y r := (rfl)
theorem e_iload_0 : mstep P rt sg C J X post (.iload_n 0) pc ls r rem st nx = mload ls 0 (fun v => isI v (nx ls (v :: r) rem st)) := (rfl)
theorem e_iload_1 : mstep P rt sg C J X post (.iload_n 1) pc ls r rem st nx = mload ls 1 (fun v => isI v (nx ls (v :: r) rem st)) := (rfl)
theorem e_iload_2 : mstep P rt sg C J X post (.iload_n 2) pc ls r rem st nx = mload ls 2 (fun v => isI v (nx ls (v :: r) rem st)) := (rfl)
theorem e_iload_3 : mstep P rt sg C J X post (.iload_n 3) pc ls r rem st nx = mload ls 3 (fun v => isI v (nx ls (v :: r) rem st)) := (rfl)
theorem e_iload {k : Nat} : mstep P rt sg C J X post (.iload k) pc ls r rem st nx = mload ls k (fun v => isI v (nx ls (v :: r) rem st)) := (rfl)
theorem e_aload_0 : mstep P rt sg C J X post (.aload_n 0) pc ls r rem st nx = mload ls 0 (fun v => isRf v (nx ls (v :: r) rem st)) := (rfl)
theorem e_aload_1 : mstep P rt sg C J X post (.aload_n 1) pc ls r rem st nx = mload ls 1 (fun v => isRf v (nx ls (v :: r) rem st)) := (rfl)
theorem e_aload_2 : mstep P rt sg C J X post (.aload_n 2) pc ls r rem st nx = mload ls 2 (fun v => isRf v (nx ls (v :: r) rem st)) := (rfl)
theorem e_aload_3 : mstep P rt sg C J X post (.aload_n 3) pc ls r rem st nx = mload ls 3 (fun v => isRf v (nx ls (v :: r) rem st)) := (rfl)
theorem e_aload {k : Nat} : mstep P rt sg C J X post (.aload k) pc ls r rem st nx = mload ls k (fun v => isRf v (nx ls (v :: r) rem st)) := (rfl)
theorem e_istore_0 {x : Int} : mstep P rt sg C J X post (.istore_n 0) pc ls (mi x :: r) rem st nx = nx (mset1 ls 0 (mi x)) r rem st := (rfl)
theorem e_istore_1 {x : Int} : mstep P rt sg C J X post (.istore_n 1) pc ls (mi x :: r) rem st nx = nx (mset1 ls 1 (mi x)) r rem st := (rfl)
theorem e_istore_2 {x : Int} : mstep P rt sg C J X post (.istore_n 2) pc ls (mi x :: r) rem st nx = nx (mset1 ls 2 (mi x)) r rem st := (rfl)
theorem e_istore_3 {x : Int} : mstep P rt sg C J X post (.istore_n 3) pc ls (mi x :: r) rem st nx = nx (mset1 ls 3 (mi x)) r rem st := (rfl)
theorem e_istore {k : Nat} {x : Int} : mstep P rt sg C J X post (.istore k) pc ls (mi x :: r) rem st nx = nx (mset1 ls k (mi x)) r rem st := (rfl)
theorem e_astore_0 {x y : Nat} : mstep P rt sg C J X post (.astore_n 0) pc ls (mr x y :: r) rem st nx = nx (mset1 ls 0 (mr x y)) r rem st := (rfl)
theorem e_astore_1 {x y : Nat} : mstep P rt sg C J X post (.astore_n 1) pc ls (mr x y :: r) rem st nx = nx (mset1 ls 1 (mr x y)) r rem st := (rfl)
theorem e_astore_2 {x y : Nat} : mstep P rt sg C J X post (.astore_n 2) pc ls (mr x y :: r) rem st nx = nx (mset1 ls 2 (mr x y)) r rem st := (rfl)
theorem e_astore_3 {x y : Nat} : mstep P rt sg C J X post (.astore_n 3) pc ls (mr x y :: r) rem st nx = nx (mset1 ls 3 (mr x y)) r rem st := (rfl)
theorem e_astore {k x y : Nat} : mstep P rt sg C J X post (.astore k) pc ls (mr x y :: r) rem st nx = nx (mset1 ls k (mr x y)) r rem st := (rfl)
theorem e_iconst {n : Int} : mstep P rt sg C J X post (.iconst n) pc ls r rem st nx = nx ls (mi n :: r) rem st := (rfl)
theorem e_bipush {n : Int} : mstep P rt sg C J X post (.bipush n) pc ls r rem st nx = nx ls (mi n :: r) rem st := (rfl)
theorem e_sipush {n : Int} : mstep P rt sg C J X post (.sipush n) pc ls r rem st nx = nx ls (mi n :: r) rem st := (rfl)
theorem e_lconst0 : mstep P rt sg C J X post (.lconst 0) pc ls r rem st nx = nx ls (ml 0 :: r) rem st := (rfl)
theorem e_lconst1 : mstep P rt sg C J X post (.lconst 1) pc ls r rem st nx = nx ls (ml 1 :: r) rem st := (rfl)
theorem e_dupi {x : Int} : mstep P rt sg C J X post .dup pc ls (mi x :: r) rem st nx = nx ls (mi x :: mi x :: r) rem st := (rfl)
theorem e_dupr {x y : Nat} : mstep P rt sg C J X post .dup pc ls (mr x y :: r) rem st nx = nx ls (mr x y :: mr x y :: r) rem st := (rfl)
theorem e_dup2 {x y : Nat} {z : Int} : mstep P rt sg C J X post .dup2 pc ls (mi z :: mr x y :: r) rem st nx = nx ls (mi z :: mr x y :: mi z :: mr x y :: r) rem st := (rfl)
theorem e_popi {x : Int} : mstep P rt sg C J X post .pop pc ls (mi x :: r) rem st nx = nx ls r rem st := (rfl)
theorem e_popr {x y : Nat} : mstep P rt sg C J X post .pop pc ls (mr x y :: r) rem st nx = nx ls r rem st := (rfl)
theorem e_iadd {a b : Int} : mstep P rt sg C J X post .iadd pc ls (mi b :: mi a :: r) rem st nx = (inR (a + b) ∧ nx ls (mi (a + b) :: r) rem st) := (rfl)
theorem e_isub {a b : Int} : mstep P rt sg C J X post .isub pc ls (mi b :: mi a :: r) rem st nx = (inR (a - b) ∧ nx ls (mi (a - b) :: r) rem st) := (rfl)
theorem e_imul {a b : Int} : mstep P rt sg C J X post .imul pc ls (mi b :: mi a :: r) rem st nx = (inR (a * b) ∧ nx ls (mi (a * b) :: r) rem st) := (rfl)
theorem e_idiv {a b : Int} : mstep P rt sg C J X post .idiv pc ls (mi b :: mi a :: r) rem st nx = ((0 ≤ a ∧ 0 < b) ∧ nx ls (mi (a / b) :: r) rem st) := (rfl)
theorem e_irem {a b : Int} : mstep P rt sg C J X post .irem pc ls (mi b :: mi a :: r) rem st nx = ((0 ≤ a ∧ 0 < b) ∧ nx ls (mi (a % b) :: r) rem st) := (rfl)
theorem e_iand {a b : Int} : mstep P rt sg C J X post .iand pc ls (mi b :: mi a :: r) rem st nx = nx ls (mi (bAnd a b) :: r) rem st := (rfl)
theorem e_ior {a b : Int} : mstep P rt sg C J X post .ior pc ls (mi b :: mi a :: r) rem st nx = nx ls (mi (bOr a b) :: r) rem st := (rfl)
theorem e_ixor {a b : Int} : mstep P rt sg C J X post .ixor pc ls (mi b :: mi a :: r) rem st nx = nx ls (mi (bXor a b) :: r) rem st := (rfl)
theorem e_ishl {a b : Int} : mstep P rt sg C J X post .ishl pc ls (mi b :: mi a :: r) rem st nx = nx ls (mi (bShl a b) :: r) rem st := (rfl)
theorem e_ishr {a b : Int} : mstep P rt sg C J X post .ishr pc ls (mi b :: mi a :: r) rem st nx = nx ls (mi (bShr a b) :: r) rem st := (rfl)
theorem e_iinc {k : Nat} {n : Int} : mstep P rt sg C J X post (.iinc k n) pc ls r rem st nx = mload ls k (fun v => mun [v] fun a _ => inR (a + n) ∧ nx (mset1 ls k (mi (a + n))) r rem st) := (rfl)
theorem e_goto {off : Int} {t : Nat} (h : mtgt pc off = t) : mstep P rt sg C J X post (.goto off) pc ls r rem st nx = J t ls r rem st := by rw [← h]; rfl
theorem e_icmp {c : Jvm.ClassFile.Cond} {off : Int} {a b : Int} {t : Nat} (h : mtgt pc off = t) : mstep P rt sg C J X post (.if_icmp c off) pc ls (mi b :: mi a :: r) rem st nx = ((mcmp c a b → J t ls r rem st) ∧ (¬ mcmp c a b → nx ls r rem st)) := by rw [← h]; rfl
theorem e_ifc {c : Jvm.ClassFile.Cond} {off : Int} {a : Int} {t : Nat} (h : mtgt pc off = t) : mstep P rt sg C J X post (.ifCond c off) pc ls (mi a :: r) rem st nx = ((mcmp c a 0 → J t ls r rem st) ∧ (¬ mcmp c a 0 → nx ls r rem st)) := by rw [← h]; rfl
theorem e_ceq {a b : Int} : mcmp .eq a b = (a = b) := (rfl)
theorem e_cne {a b : Int} : mcmp .ne a b = (a ≠ b) := (rfl)
theorem e_clt {a b : Int} : mcmp .lt a b = (a < b) := (rfl)
theorem e_cge {a b : Int} : mcmp .ge a b = (b ≤ a) := (rfl)
theorem e_cgt {a b : Int} : mcmp .gt a b = (b < a) := (rfl)
theorem e_cle {a b : Int} : mcmp .le a b = (a ≤ b) := (rfl)
theorem e_getf {x k i : Nat} : mstep P rt sg C J X post (.getfield x) pc ls (mr k i :: r) rem st nx = mGet P x k i st (fun v => nx ls (v :: r) rem st) := (rfl)
theorem e_putf {x k i : Nat} {v : Int} : mstep P rt sg C J X post (.putfield x) pc ls (mi v :: mr k i :: r) rem st nx = mPut P x k 0 (fun j => tyOK (mFt k j) v ∧ nx ls r rem (putI st k i j v)) := (rfl)
theorem e_putfJ {x k i : Nat} {v : Int64} : mstep P rt sg C J X post (.putfield x) pc ls (ml v :: mr k i :: r) rem st nx = mPut P x k 1 (fun j => nx ls r rem (putJ st k i j v)) := (rfl)
theorem e_row {c n : Nat} {j : Int} {f : Prop} : mRow (some (c, n)) c j f = ((0 ≤ j ∧ j < n) ∧ f) := by
  show cond (Nat.beq c c) _ False = _
  rw [Nat.beq_refl c]; rfl
theorem e_iald {k i : Nat} {j : Int} : mstep P rt sg C J X post .iaload pc ls (mi j :: mr k i :: r) rem st nx = mRow (mLen st k) 0 j (nx ls (mi (sI st k i j.toNat) :: r) rem st) := (rfl)
theorem e_bald {k i : Nat} {j : Int} : mstep P rt sg C J X post .baload pc ls (mi j :: mr k i :: r) rem st nx = mRow (mAd k) 1 j (nx ls (mi (sI st k i j.toNat) :: r) rem st) := (rfl)
theorem e_iast {k i : Nat} {j v : Int} : mstep P rt sg C J X post .iastore pc ls (mi v :: mi j :: mr k i :: r) rem st nx = mRow (mAd k) 0 j (nx ls r rem (putI st k i j.toNat v)) := (rfl)
theorem e_bast {k i : Nat} {j v : Int} : mstep P rt sg C J X post .bastore pc ls (mi v :: mi j :: mr k i :: r) rem st nx = mRow (mAd k) 1 j ((v = 0 ∨ v = 1) ∧ nx ls r rem (putI st k i j.toNat v)) := (rfl)
theorem e_alen {k i : Nat} : mstep P rt sg C J X post .arraylength pc ls (mr k i :: r) rem st nx = mLn (mLen st k) (fun n => nx ls (mi n :: r) rem st) := (rfl)
theorem e_ln {c n : Nat} {f : Nat → Prop} : mLn (some (c, n)) f = f n := (rfl)
theorem e_cast {x k i : Nat} : mstep P rt sg C J X post (.checkcast x) pc ls (mr k i :: r) rem st nx = mCast P x k (nx ls (mr k i :: r) rem st) := (rfl)
theorem e_exc {K : mK} {cd : mCode} {x : Nat} : mexc [] K post cd x pc ls rem st = post (.inr x) st := (rfl)
theorem e_cond {t f : Prop} : cond true t f = t := (rfl)
theorem e_ireturn {v : Int} : mstep P rt sg C J X post .ireturn pc ls [mi v] rem st nx = (tyOK rt v ∧ post (.inl (some (mi v))) st) := (rfl)
theorem e_areturn {k i : Nat} : mstep P rt sg C J X post .areturn pc ls [mr k i] rem st nx = post (.inl (some (mr k i))) st := (rfl)
theorem e_return : mstep P rt sg C J X post .return_ pc ls [] rem st nx = post (.inl none) st := (rfl)
theorem e_i2l {a : Int} : mstep P rt sg C J X post .i2l pc ls (mi a :: r) rem st nx = nx ls (ml (Int32.ofInt a).toInt64 :: r) rem st := (rfl)
theorem e_lushr {a : Int64} {b : Int} : mstep P rt sg C J X post .lushr pc ls (mi b :: ml a :: r) rem st nx = nx ls (ml (a.toUInt64 >>> ((Int32.ofInt b).toInt64.toUInt64 &&& Int64.toUInt64 63)).toInt64 :: r) rem st := (rfl)
theorem e_lshl {a : Int64} {b : Int} : mstep P rt sg C J X post .lshl pc ls (mi b :: ml a :: r) rem st nx = nx ls (ml (a <<< ((Int32.ofInt b).toInt64 &&& 63)) :: r) rem st := (rfl)
theorem e_land {a b : Int64} : mstep P rt sg C J X post .land pc ls (ml b :: ml a :: r) rem st nx = nx ls (ml (a &&& b) :: r) rem st := (rfl)
theorem e_lor {a b : Int64} : mstep P rt sg C J X post .lor pc ls (ml b :: ml a :: r) rem st nx = nx ls (ml (a ||| b) :: r) rem st := (rfl)
theorem e_lsub {a b : Int64} : mstep P rt sg C J X post .lsub pc ls (ml b :: ml a :: r) rem st nx = nx ls (ml (a - b) :: r) rem st := (rfl)
theorem e_lcmp {a b : Int64} : mstep P rt sg C J X post .lcmp pc ls (ml b :: ml a :: r) rem st nx = nx ls (mi (lg_cmp a b).toInt :: r) rem st := (rfl)
theorem e_ifacmp {off : Int} {k i k2 i2 t : Nat} (h : mtgt pc off = t) (h1 : (Nat.blt k 20 && Nat.blt k2 20) = true) : mstep P rt sg C J X post (.if_acmp .ne off) pc ls (mr k2 i2 :: mr k i :: r) rem st nx = ((¬ (k, i) = (k2, i2) → J t ls r rem st) ∧ (¬ ¬ (k, i) = (k2, i2) → nx ls r rem st)) := by
  rw [← h]
  show cond (Nat.blt k 20 && Nat.blt k2 20) _ _ = _
  rw [h1]; rfl
theorem e_nil : mblk P rt sg C J X post [] pc ls r rem st = J pc ls r rem st := (rfl)
theorem e_ins {i : Instr} {n : Nat} {l : List mI} : mblk P rt sg C J X post (.inl (i, n) :: l) pc ls r rem st = mstep P rt sg C J X post i pc ls r rem st (fun ls' stk' rem' st' => mblk P rt sg C J X post l (pc + n) ls' stk' rem' st') := (rfl)
theorem e_ty0 {v : Int} : tyOK 0 v = True := (rfl)
theorem e_ty1 {v : Int} : tyOK 1 v = (v = 0 ∨ v = 1) := (rfl)
theorem e_ty2 {v : Int} : tyOK 2 v = (0 ≤ v ∧ v < 65536) := (rfl)
/-- a call's answer goes on -/
def mck (X : Nat → Nat → mLs → Nat × Nat → mS → Prop) (pc : Nat) (ls : mLs) (r : List mV) (rem : Nat × Nat) (nx : mLs → List mV → Nat × Nat → mS → Prop) : mO → mS → Prop := fun out st' => match out with
  | .inl none => nx ls r rem st'
  | .inl (some v) => nx ls (v :: r) rem st'
  | .inr x => X x pc ls rem st'
theorem e_ck0 {st' : mS} : mck X pc ls r rem nx (.inl none) st' = nx ls r rem st' := (rfl)
theorem e_ckv {st' : mS} {v : mV} : mck X pc ls r rem nx (.inl (some v)) st' = nx ls (v :: r) rem st' := (rfl)
theorem e_ckx {st' : mS} {x : Nat} : mck X pc ls r rem nx (.inr x) st' = X x pc ls rem st' := (rfl)
theorem e_max {x : Nat} {a b : Int} (h : look2 P.2.1 x = some 401) (hr : mroom r = true) : mstep P rt sg C J X post (.invokestatic x) pc ls (mi b :: mi a :: r) rem st nx = nx ls (mi (max a b) :: r) rem st := by
  show mstat (look2 P.2.1 x) _ _ _ = _
  rw [h]
  show cond (mroom r) _ _ = _
  rw [hr]; rfl
theorem e_min {x : Nat} {a b : Int} (h : look2 P.2.1 x = some 402) (hr : mroom r = true) : mstep P rt sg C J X post (.invokestatic x) pc ls (mi b :: mi a :: r) rem st nx = nx ls (mi (min a b) :: r) rem st := by
  show mstat (look2 P.2.1 x) _ _ _ = _
  rw [h]
  show cond (mroom r) _ _ = _
  rw [hr]; rfl
end EqS
