/-! WHAT EACH CALL DOES to an office: exception (0: none; 1 IAE, 2 ISE, 3 IOOBE, 4 NSEE, 5 UOE, 6 Arithmetic), answer, the office behind -/
abbrev oRes : Type := Nat × Int × oA
noncomputable def oif {α : Type} (P : Prop) (a b : α) : α := @ite α P (Classical.propDecidable P) a b
theorem oif_pos {α : Type} {P : Prop} {a b : α} (h : P) : oif P a b = a := if_pos h
theorem oif_neg {α : Type} {P : Prop} {a b : α} (h : ¬ P) : oif P a b = b := if_neg h
def oTd (A : oA) : Int := A 30 4 / 24
def isPs (A : oA) (p : Int) : Prop := 0 ≤ p ∧ p < A 30 1
def isSh (A : oA) (j : Int) : Prop := 0 ≤ j ∧ j < A 30 2
def isSl (A : oA) (s : Int) : Prop := 0 ≤ s ∧ s < A 30 3
def isKd (k : Int) : Prop := 0 ≤ k ∧ k < 4
noncomputable def oSetDay (A : oA) (h : Int) : oRes := oif (1 ≤ h ∧ h ≤ 24) (0, A 30 5, upA A 30 5 h) (1, 0, A)
noncomputable def oSetWeek (A : oA) (h : Int) : oRes := oif (1 ≤ h ∧ h ≤ 168) (0, A 30 6, upA A 30 6 h) (1, 0, A)
noncomputable def oAddPerson (A : oA) : oRes := oif (8 ≤ A 30 1) (2, 0, A) (0, A 30 1, upA A 30 1 (A 30 1 + 1))
def ix4 (p k : Int) : Nat := 4 * p.toNat + k.toNat
def upC (A : oA) (a : Nat) (f l : Int) : oA := upA (upA (upA A 31 a 1) 35 a f) 36 a l
noncomputable def oGrant (A : oA) (p k n : Int) : oRes := oif (isPs A p) (oif (isKd k ∧ 1 ≤ n ∧ n ≤ 60) (oif (A 31 (ix4 p k) = 1 ∧ oTd A ≤ A 36 (ix4 p k)) (2, 0, A) (0, oTd A + n - 1, upC A (ix4 p k) (oTd A) (oTd A + n - 1))) (1, 0, A)) (3, 0, A)
noncomputable def oRenew (A : oA) (p k n : Int) : oRes := oif (isPs A p) (oif (isKd k ∧ 1 ≤ n ∧ n ≤ 60) (oif (A 31 (ix4 p k) = 1) (oif (A 36 (ix4 p k) < oTd A ∨ oTd A < A 36 (ix4 p k) - 9) (2, 0, A) (0, A 36 (ix4 p k) + n, upA A 36 (ix4 p k) (A 36 (ix4 p k) + n))) (4, 0, A)) (1, 0, A)) (3, 0, A)
noncomputable def oLastDay (A : oA) (p k : Int) : oRes := oif (isPs A p) (oif (isKd k) (oif (A 31 (ix4 p k) = 1) (0, A 36 (ix4 p k), A) (4, 0, A)) (1, 0, A)) (3, 0, A)
def setB (A : oA) (k0 p : Nat) (a b v : Int) : oA := fun k j => if k = k0 ∧ 42 * p ≤ j ∧ j < 42 * p + 42 ∧ a ≤ ((j - 42 * p : Nat) : Int) ∧ ((j - 42 * p : Nat) : Int) ≤ b then v else A k j
noncomputable def oTouch (A : oA) (p a b : Int) : Int := sumN (fun s => cif (A 44 s = 112 ∧ hasP A s p ∧ fD A s ≤ b ∧ a ≤ lD A s) 1 0) (aV A)
noncomputable def oCallSick (A : oA) (p n : Int) : oRes := oif (isPs A p) (oif (1 ≤ n ∧ n ≤ 20) (0, oTouch A p (oTd A) (oTd A + n - 1), setB A 32 p.toNat (oTd A) (oTd A + n - 1) 1) (1, 0, A)) (3, 0, A)
noncomputable def cntB (A : oA) (k0 p : Nat) (a : Int) : Int := sumN (fun e => cif (a ≤ e ∧ A k0 (42 * p + e) = 1) 1 0) 42
noncomputable def oRecover (A : oA) (p : Int) : oRes := oif (isPs A p) (oif (cntB A 32 p.toNat (oTd A) = 0) (2, 0, A) (0, cntB A 32 p.toNat (oTd A), setB A 32 p.toNat (oTd A) 41 0)) (3, 0, A)
noncomputable def oEnroll (A : oA) (p k f n : Int) : oRes := oif (isPs A p) (oif (isKd k ∧ oTd A < f ∧ f ≤ 41 ∧ 1 ≤ n ∧ n ≤ 10 ∧ f + n - 1 ≤ 41) (oif (A 34 p.toNat = 1) (2, 0, A) (0, f + n - 1, setB (upA (upA (upA A 34 p.toNat 1) 37 p.toNat k) 38 p.toNat (f + n - 1)) 33 p.toNat f (f + n - 1) 1)) (1, 0, A)) (3, 0, A)
noncomputable def oLeave (A : oA) (p : Int) : oRes := oif (isPs A p) (oif (A 34 p.toNat = 1) (0, cntB A 33 p.toNat (oTd A), setB (upA A 34 p.toNat 0) 33 p.toNat (oTd A) 41 0) (2, 0, A)) (3, 0, A)
noncomputable def oIsAway (A : oA) (p e : Int) : oRes := oif (isPs A p) (oif (0 ≤ e ∧ e ≤ 41) (0, cif (A 32 (42 * p.toNat + e.toNat) = 1 ∨ A 33 (42 * p.toNat + e.toNat) = 1) 1 0, A) (1, 0, A)) (3, 0, A)
noncomputable def oAddShip (A : oA) (k : Int) : oRes := oif (isKd k) (oif (4 ≤ A 30 2) (2, 0, A) (0, A 30 2, upA (upA (upA A 39 (aS A) 1) 40 (3 * aS A) k) 30 2 (A 30 2 + 1))) (1, 0, A)
def isUsd (A : oA) (j : Nat) : Prop := ∃ t, t < aV A ∧ A 41 t = j
noncomputable def oAddPost (A : oA) (j k : Int) : oRes := oif (isSh A j) (oif (isKd k) (oif (3 ≤ A 39 j.toNat ∨ isUsd A j.toNat) (2, 0, A) (0, A 39 j.toNat + 1, upA (upA A 40 (3 * j.toNat + (A 39 j.toNat).toNat) k) 39 j.toNat (A 39 j.toNat + 1))) (1, 0, A)) (3, 0, A)
def planA (A : oA) (j f h : Int) : oA := fun a b => if a = 30 ∧ b = 3 then A 30 3 + 1 else if a = 41 ∧ b = aV A then j else if a = 42 ∧ b = aV A then f else if a = 43 ∧ b = aV A then h else if a = 44 ∧ b = aV A then 112 else if a = 45 ∧ 3 * aV A ≤ b ∧ b < 3 * aV A + 3 then -1 else A a b
noncomputable def oPlan (A : oA) (j f h : Int) : oRes := oif (isSh A j) (oif (A 30 4 < f ∧ f ≤ 999 ∧ 1 ≤ h ∧ h ≤ 12 ∧ f + h ≤ 999) (oif (24 ≤ A 30 3 ∨ ∃ t, t < aV A ∧ inWay A j.toNat f (f + h) t) (2, 0, A) (0, A 30 3, planA A j f h)) (1, 0, A)) (3, 0, A)
def isPo (A : oA) (s q : Int) : Prop := 0 ≤ q ∧ q < psN A s.toNat
noncomputable def oAssign (A : oA) (s q p : Int) : oRes := oif (isSl A s) (oif (isPo A s q ∧ isPs A p) (oif (A 44 s.toNat = 112) (oif (hasP A s.toNat p) (1, 0, A) (oif (oReason A s.toNat q.toNat p.toNat = 0) (0, A 45 (3 * s.toNat + q.toNat), upA A 45 (3 * s.toNat + q.toNat) p) (5, 0, A))) (2, 0, A)) (3, 0, A)) (4, 0, A)
noncomputable def oRelease (A : oA) (s q : Int) : oRes := oif (isSl A s) (oif (isPo A s q) (oif (A 44 s.toNat = 112 ∧ A 45 (3 * s.toNat + q.toNat) ≠ -1) (0, A 45 (3 * s.toNat + q.toNat), upA A 45 (3 * s.toNat + q.toNat) (-1)) (2, 0, A)) (3, 0, A)) (4, 0, A)
def crewN (A : oA) (s : Nat) : Int := (if A 45 (3 * s) = -1 then 0 else 1) + (if A 45 (3 * s + 1) = -1 then 0 else 1) + (if A 45 (3 * s + 2) = -1 then 0 else 1)
noncomputable def oCancel (A : oA) (s : Int) : oRes := oif (isSl A s) (oif (A 44 s.toNat = 112) (0, crewN A s.toNat, dropA A s.toNat) (2, 0, A)) (4, 0, A)
noncomputable def oRelieve (A : oA) (s : Int) : oRes := oif (isSl A s) (oif (A 44 s.toNat = 112) (oif ((rBest A s.toNat).1 < 9) (0, (rBest A s.toNat).1, oRelA A s.toNat) (5, 0, A)) (2, 0, A)) (4, 0, A)
noncomputable def oStateOf (A : oA) (s : Int) : oRes := oif (isSl A s) (0, A 44 s.toNat, A) (4, 0, A)
noncomputable def oPersonOn (A : oA) (s q : Int) : oRes := oif (isSl A s) (oif (isPo A s q) (0, A 45 (3 * s.toNat + q.toNat), A) (3, 0, A)) (4, 0, A)
noncomputable def oIsComplete (A : oA) (s : Int) : oRes := oif (isSl A s) (oif (A 44 s.toNat = 112) (0, cif (oFull A s.toNat) 1 0, A) (2, 0, A)) (4, 0, A)
noncomputable def oReasonR (A : oA) (s q p : Int) : oRes := oif (isSl A s) (oif (isPo A s q ∧ isPs A p) (oif (A 44 s.toNat = 112) (0, oReason A s.toNat q.toNat p.toNat, A) (2, 0, A)) (3, 0, A)) (4, 0, A)
noncomputable def oFitting (A : oA) (s q : Int) : oRes := oif (isSl A s) (oif (isPo A s q) (oif (A 44 s.toNat = 112) (0, sumN (fun p => cif (oReason A s.toNat q.toNat p = 0) 1 0) (aP A), A) (2, 0, A)) (3, 0, A)) (4, 0, A)
noncomputable def oShorts (A : oA) : Int := sumN (fun s => cif (oShort A s) 1 0) (aV A)
noncomputable def oSailings (A : oA) (c : Int) : oRes := oif (c = 112 ∨ c = 115 ∨ c = 99) (0, sumN (fun s => cif (A 44 s = c) 1 0) (aV A), A) (1, 0, A)
noncomputable def oWork (A : oA) (p f t : Int) : oRes := oif (isPs A p) (oif (0 ≤ f ∧ f < t ∧ t ≤ 999) (0, cnt (wrk A p 24) f (t - f).toNat, A) (1, 0, A)) (3, 0, A)
noncomputable def mostV (A : oA) (p : Int) (L : Nat) : Int := Classical.epsilon (isMax (wrk A p 24) L)
noncomputable def oMost (A : oA) (p : Int) (L : Nat) : oRes := oif (isPs A p) (0, mostV A p L, A) (3, 0, A)
noncomputable def nextF (A : oA) (p h : Int) : Nat → Int → oRes
  | 0, _ => (4, 0, A)
  | n + 1, x => oif (x + h ≤ 999) (oif (oAgainst (wrk A p 24) x h (A 30 5) (A 30 6) = 0) (0, x, A) (nextF A p h n (x + 1))) (4, 0, A)
noncomputable def oNext (A : oA) (p h : Int) : oRes := oif (isPs A p) (oif (1 ≤ h ∧ h ≤ 12) (nextF A p h 1000 (A 30 4 + 1)) (1, 0, A)) (3, 0, A)
/-- the hours: courses end, sailings leave -/
def oEnd1 (A : oA) (day : Int) (p : Nat) : oA := if A 34 p = 1 ∧ A 38 p = day then (if A 31 (4 * p + (A 37 p).toNat) = 1 ∧ day ≤ A 36 (4 * p + (A 37 p).toNat) then upA (upA A 34 p 0) 36 (4 * p + (A 37 p).toNat) (A 36 (4 * p + (A 37 p).toNat) + 30) else upC (upA A 34 p 0) (4 * p + (A 37 p).toNat) (day + 1) (day + 30)) else A
def oEnds (A : oA) (day : Int) : Nat → oA
  | 0 => A
  | n + 1 => oEnd1 (oEnds A day n) day n
noncomputable def oDep1 (s : Nat) (r : oA × Int) : oA × Int := oif (r.1 44 s = 112 ∧ r.1 42 s = r.1 30 4) (oif (oFull r.1 s) (mkA r.1 s 115 (fun k => r.1 45 (3 * s + k)), r.2) (dropA r.1 s, r.2 + 1)) r
noncomputable def oDeps : Nat → oA × Int → oA × Int
  | 0, r => r
  | n + 1, r => oDep1 n (oDeps n r)
noncomputable def oHourA (A : oA) : oA := oif ((A 30 4 + 1) % 24 = 0) (oEnds (upA A 30 4 (A 30 4 + 1)) ((A 30 4 + 1) / 24 - 1) (aP A)) (upA A 30 4 (A 30 4 + 1))
noncomputable def oHour (r : oA × Int) : oA × Int := oDeps (aV r.1) (oHourA r.1, r.2)
noncomputable def oHours : Nat → oA × Int → oA × Int
  | 0, r => r
  | n + 1, r => oHour (oHours n r)
noncomputable def oPass (A : oA) (h : Int) : oRes := oif (1 ≤ h ∧ h ≤ 48) (oif (A 30 4 + h ≤ 999) (0, (oHours h.toNat (A, 0)).2, (oHours h.toNat (A, 0)).1) (2, 0, A)) (1, 0, A)
/-- an answer, as the class gives it -/
def outI (r : oRes) : mO := if r.1 = 0 then .inl (some (mi r.2.1)) else .inr r.1
theorem outI_v {v : Int} {A : oA} : outI (0, v, A) = .inl (some (mi v)) := (rfl)
theorem outI_x {x : Nat} {v : Int} {A : oA} : outI (x + 1, v, A) = .inr (x + 1) := (rfl)
