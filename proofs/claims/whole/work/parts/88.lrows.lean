/-! ROWS for the law; its wrappers' contracts on the pure side -/
section LRows_
variable {P : mPool} {rt : Nat} {sg : mSig} {C : mCall} {J : mK} {X : Nat → Nat → mLs → Nat × Nat → mS → Prop} {post : mO → mS → Prop}
variable {pc : Nat} {ls : mLs} {r : List mV} {rem : Nat × Nat} {st : mS} {nx : mLs → List mV → Nat × Nat → mS → Prop}
theorem and_tr {p q : Prop} (hp : p) : (p ∧ q) = q := propext ⟨fun h => h.2, fun h => ⟨hp, h⟩⟩
theorem L_last {v : Int64} {i : Nat} : mstep P rt sg C J X post .lastore pc ls (ml v :: mi 0 :: mr 60 i :: r) rem st nx = nx ls r rem (putJ st 60 i 0 v) := and_tr (show (0 : Int) ≤ 0 ∧ (0 : Int) < ((1 : Nat) : Int) by decide)
theorem L_dast {v : UInt64} {i : Nat} : mstep P rt sg C J X post .dastore pc ls (md v :: mi 0 :: mr 61 i :: r) rem st nx = nx ls r rem (putD st 61 i 0 v) := and_tr (show (0 : Int) ≤ 0 ∧ (0 : Int) < ((1 : Nat) : Int) by decide)
theorem L_lald {i : Nat} : mstep P rt sg C J X post .laload pc ls (mi 0 :: mr 60 i :: r) rem st nx = nx ls (ml (sJ st 60 i 0) :: r) rem st := and_tr (show (0 : Int) ≤ 0 ∧ (0 : Int) < ((1 : Nat) : Int) by decide)
theorem L_dald {i : Nat} : mstep P rt sg C J X post .daload pc ls (mi 0 :: mr 61 i :: r) rem st nx = nx ls (md (sD st 61 i 0) :: r) rem st := and_tr (show (0 : Int) ≤ 0 ∧ (0 : Int) < ((1 : Nat) : Int) by decide)
theorem L_i2c {a : Int} : mstep P rt sg C J X post .i2c pc ls (mi a :: r) rem st nx = nx ls (mi (bChar a) :: r) rem st := (rfl)
theorem L_f2d {a : UInt32} : mstep P rt sg C J X post .f2d pc ls (mf a :: r) rem st nx = (vf_n64 (FP.f2d a) ∧ nx ls (md (FP.f2d a) :: r) rem st) := (rfl)
theorem L_fstore {k : Nat} {v : UInt32} : mstep P rt sg C J X post (.fstore k) pc ls (mf v :: r) rem st nx = nx (mset1 ls k (mf v)) r rem st := (rfl)
theorem L_fload {k : Nat} : mstep P rt sg C J X post (.fload k) pc ls r rem st nx = mload ls k (fun v => isF v (nx ls (v :: r) rem st)) := (rfl)
theorem L_dstore {k : Nat} {v : UInt64} : mstep P rt sg C J X post (.dstore k) pc ls (md v :: r) rem st nx = nx (mset2 ls k (md v)) r rem st := (rfl)
theorem L_dload {k : Nat} : mstep P rt sg C J X post (.dload k) pc ls r rem st nx = mload ls k (fun v => isDb v (nx ls (v :: r) rem st)) := (rfl)
theorem L_dcmp {a b : UInt64} {op} : mstep P rt sg C J X post (.dcmp op) pc ls (md b :: md a :: r) rem st nx = nx ls (mi (Op.cmpValue (FP.dcmp a b) op).toInt :: r) rem st := (rfl)
theorem L_fcmp {a b : UInt32} {op} : mstep P rt sg C J X post (.fcmp op) pc ls (mf b :: mf a :: r) rem st nx = nx ls (mi (Op.cmpValue (FP.fcmp a b) op).toInt :: r) rem st := (rfl)
theorem L_isF {v : UInt32} {t : Prop} : isF (mf v) t = t := (rfl)
theorem L_isD {v : UInt64} {t : Prop} : isDb (md v) t = t := (rfl)
end LRows_
def frW (st st' : mS) : Prop := (∀ k i j, 30 ≤ k → sI st' k i j = sI st k i j) ∧ ∀ g, (g = 0 ∨ 4 ≤ g) → sN st' g = sN st g
theorem frC.W {st st' : mS} (h : frC st st') : frW st st' := ⟨h.1, h.2.2.2⟩
theorem frW_J {st st' : mS} {v : Int64} (h : frW st st') : frW st (putJ st' 60 0 0 v) := h
theorem frW_D {st st' : mS} {v : UInt64} (h : frW st st') : frW st (putD st' 61 0 0 v) := h
theorem RelC_J60 {st : mS} {A : oA} {v : Int64} (h : RelC st A) : RelC (putJ st 60 0 0 v) A := h
theorem RelC_D61 {st : mS} {A : oA} {v : UInt64} (h : RelC st A) : RelC (putD st 61 0 0 v) A := h
theorem sJ_60 {st : mS} {v : Int64} : sJ (putJ st 60 0 0 v) 60 0 0 = v := rfl
def mGoodW (CC : Nat → mCall) (CW : mCall) : Prop := ∀ y q k hd, lookC wL_ y = some (q, k, hd) → ∀ vs st post, (vs.map mcat).sum ≤ qL q → mBodyH P_RL sg_ k hd (CC 30) q vs st post → CW y vs st post
def wH (st : mS) (l : List Nat) (r : oRes) (post : mO → mS → Prop) : Prop := ∀ st', frW st st' → RelC st' r.2.2 → (r.1 = 0 → sJ st' 60 0 0 = (Int32.ofInt r.2.1).toInt64) → post (.inl (some (mi (cod l r.1)))) st'
theorem nextF_code (A : oA) (p h : Int) : ∀ (n : Nat) (x : Int), (nextF A p h n x).1 = 0 ∨ (nextF A p h n x).1 = 4
  | 0, _ => Or.inr rfl
  | n + 1, x => by
    unfold nextF oif
    split
    · split
      · exact Or.inl rfl
      · exact nextF_code A p h n (x + 1)
    · exact Or.inr rfl
theorem outI_y {r : oRes} {x : Nat} (h : r.1 = x + 1) : outI r = .inr (x + 1) := by
  unfold outI
  rw [if_neg (by omega), h]
theorem wH_0 {st : mS} {l : List Nat} {r : oRes} {post : mO → mS → Prop} (h : wH st l r post) (e : r.1 = 0) {st' : mS} (f : frC st st') (hR : RelC st' r.2.2) : post (.inl (some (mi 0))) (putJ st' 60 0 0 (Int32.ofInt r.2.1).toInt64) := by
  have := h _ (frW_J f.W) (RelC_J60 hR) (fun _ => sJ_60)
  rw [e] at this
  exact this
theorem wH_x {st : mS} {l : List Nat} {r : oRes} {post : mO → mS → Prop} (h : wH st l r post) {x : Nat} {c : Int} (e : r.1 = x + 1) (hc : cod l (x + 1) = c) {st' : mS} (f : frC st st') (hR : RelC st' r.2.2) : post (.inl (some (mi c))) st' := by
  have := h st' f.W hR (fun z => by omega)
  rw [e, hc] at this
  exact this
