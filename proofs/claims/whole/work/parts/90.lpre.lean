/-! THE LAW: what holds between its calls -/
theorem lg_self (x : Int64) : (lg_cmp x x).toInt = 0 := by
  have h : lg_cmp x x = 0 := by rw [lg_cmp_eq]
  rw [h]; rfl
theorem cod_0 {l : List Nat} : cod l 0 = 0 := rfl
theorem cod_p {l : List Nat} {x : Nat} (h : x ≠ 0) : cod l x ≠ 0 := by unfold cod; rw [if_neg h]; omega
def mGoodL (CC : Nat → mCall) (CL : mCall) : Prop := mGoodW CC CL ∧ ∀ y vs st post, y < 201 → CC 31 y vs st post → CL y vs st post
def LI (st : mS) (A : oA) : Prop := OA A ∧ RelC st A ∧ RelM st A
def LX (xs : Nat → Int) (n : Nat) (st : mS) : Prop := sN st 62 = n ∧ ∀ j, j < n → sI st 62 0 j = xs j
theorem RelM_W {st st' : mS} {A : oA} (h : RelM st A) (hf : frW st st') : RelM st' A := ⟨fun j h1 h2 => by rw [hf.1 30 0 j (by omega)]; exact h.1 j h1 h2, fun k j h1 h2 => by rw [hf.1 k 0 j (by omega)]; exact h.2 k j h1 h2⟩
theorem LX_W {xs : Nat → Int} {n : Nat} {st st' : mS} (h : LX xs n st) (hf : frW st st') : LX xs n st' := ⟨by rw [hf.2 62 (by omega)]; exact h.1, fun j hj => by rw [hf.1 62 0 j (by omega)]; exact h.2 j hj⟩
theorem LX_M {xs : Nat → Int} {n : Nat} {st st' : mS} (h : LX xs n st) (hf : frP mQ st st') : LX xs n st' := ⟨by rw [hf.N]; exact h.1, fun j hj => by rw [hf.1 62 0 j (fun z => by unfold mQ at z; omega)]; exact h.2 j hj⟩
theorem nextF_A (A : oA) (p h : Int) : ∀ (n : Nat) (x : Int), (nextF A p h n x).2.2 = A
  | 0, _ => rfl
  | n + 1, x => by
    unfold nextF oif
    split
    · split
      · rfl
      · exact nextF_A A p h n (x + 1)
    · rfl
theorem OA_eq {A B : oA} (h : OA A) (e : B = A) : OA B := by rw [e]; exact h
theorem eA_lastDay {A : oA} {p k : Int} : (oLastDay A p k).2.2 = A := by
  unfold oLastDay oif
  repeat' split
  all_goals rfl
theorem eA_isAway {A : oA} {p e : Int} : (oIsAway A p e).2.2 = A := by
  unfold oIsAway oif
  repeat' split
  all_goals rfl
theorem eA_stateOf {A : oA} {s : Int} : (oStateOf A s).2.2 = A := by
  unfold oStateOf oif
  repeat' split
  all_goals rfl
theorem eA_personOn {A : oA} {s q : Int} : (oPersonOn A s q).2.2 = A := by
  unfold oPersonOn oif
  repeat' split
  all_goals rfl
theorem eA_isComplete {A : oA} {s : Int} : (oIsComplete A s).2.2 = A := by
  unfold oIsComplete oif
  repeat' split
  all_goals rfl
theorem eA_reason {A : oA} {s q p : Int} : (oReasonR A s q p).2.2 = A := by
  unfold oReasonR oif
  repeat' split
  all_goals rfl
theorem eA_fitting {A : oA} {s q : Int} : (oFitting A s q).2.2 = A := by
  unfold oFitting oif
  repeat' split
  all_goals rfl
theorem eA_sailings {A : oA} {c : Int} : (oSailings A c).2.2 = A := by
  unfold oSailings oif
  repeat' split
  all_goals rfl
theorem eA_work {A : oA} {p f t : Int} : (oWork A p f t).2.2 = A := by
  unfold oWork oif
  repeat' split
  all_goals rfl
theorem eA_most {A : oA} {p : Int} {L : Nat} : (oMost A p L).2.2 = A := by
  unfold oMost oif
  repeat' split
  all_goals rfl
theorem eA_next {A : oA} {p h : Int} : (oNext A p h).2.2 = A := by
  unfold oNext oif
  split
  · split
    · exact nextF_A A p h _ _
    · rfl
  · rfl
theorem L_set2 {c i : Int} {v : UInt64} : mset2 [(6, mi c), (0, mr 62 0), (1, mr 0 0), (2, mr 30 0), (3, mr 60 0), (4, mr 61 0), (5, mi i)] 7 (md v) = [(7, md v), (6, mi c), (0, mr 62 0), (1, mr 0 0), (2, mr 30 0), (3, mr 60 0), (4, mr 61 0), (5, mi i)] := rfl
theorem d_self {x : UInt64} (h : FP.Core.dIsNaN x = false) : (Op.cmpValue (FP.dcmp x x) .l).toInt = 0 := by
  rw [show FP.dcmp x x = some .eq from FP.Core.dcmp_self ((FP.Core.notNaN_iff x).mp h)]
  rfl
theorem frm0_C {st st' : mS} {A : oA} (hR : RelC st A) (hf : frP mQ0 st st') : RelC st' A := RelC_M hR (fr0 hf)
theorem nan_omean {A : oA} (hA : OA A) (h : A 30 1 ≠ 0) : FP.Core.dIsNaN (oMean A) = false := nan_ddiv h (inR_of (by have := hA.1.1; omega) (by have := hA.1.1; omega))
