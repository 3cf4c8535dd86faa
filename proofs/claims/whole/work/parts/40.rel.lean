/-! THE ABSTRACT OFFICE (rows as the model has them), what holds of it, and what the class's objects hold of it -/
abbrev oA : Type := Nat → Nat → Int
def aP (A : oA) : Nat := (A 30 1).toNat
def aS (A : oA) : Nat := (A 30 2).toNat
def aV (A : oA) : Nat := (A 30 3).toNat
def upA (A : oA) (k j : Nat) (v : Int) : oA := fun a b => if a = k ∧ b = j then v else A a b
def hasP (A : oA) (s : Nat) (p : Int) : Prop := A 45 (3 * s) = p ∨ A 45 (3 * s + 1) = p ∨ A 45 (3 * s + 2) = p
def covS (A : oA) (s : Nat) (h : Int) : Prop := A 42 s ≤ h ∧ h < A 42 s + A 43 s
/-- a person works at an hour, one sailing left out -/
def wrk (A : oA) (p : Int) (s0 : Nat) (h : Int) : Prop := ∃ t, t < aV A ∧ t ≠ s0 ∧ hasP A t p ∧ covS A t h
noncomputable def cif (P : Prop) (a b : Int) : Int := @ite _ P (Classical.propDecidable P) a b
theorem cif_pos {P : Prop} {a b : Int} (h : P) : cif P a b = a := if_pos h
theorem cif_neg {P : Prop} {a b : Int} (h : ¬ P) : cif P a b = b := if_neg h
theorem cif_01 {P : Prop} : cif P 1 0 = 0 ∨ cif P 1 0 = 1 := by
  by_cases h : P
  · exact Or.inr (cif_pos h)
  · exact Or.inl (cif_neg h)
/-- on how many sailings a person works at an hour -/
noncomputable def nAt (A : oA) (p : Int) (h : Int) : Int := sumN (fun t => cif (hasP A t p ∧ covS A t h) 1 0) (aV A)
noncomputable def nWo (A : oA) (p : Int) (s : Nat) (h : Int) : Int := sumN (fun t => cif (t ≠ s ∧ hasP A t p ∧ covS A t h) 1 0) (aV A)
theorem nWo_nonneg {A : oA} {p : Int} {s : Nat} {h : Int} : 0 ≤ nWo A p s h := sumN_nonneg fun t _ => by rcases cif_01 (P := t ≠ s ∧ hasP A t p ∧ covS A t h) with e | e <;> omega
theorem nAt_nonneg {A : oA} {p : Int} {h : Int} : 0 ≤ nAt A p h := sumN_nonneg fun t _ => by rcases cif_01 (P := hasP A t p ∧ covS A t h) with e | e <;> omega
theorem sumN_le_n {f : Nat → Int} : ∀ {n : Nat}, (∀ x, x < n → f x ≤ 1) → sumN f n ≤ n
  | 0, _ => Int.le_refl 0
  | n + 1, h => by
    have := sumN_le_n (n := n) fun x hx => h x (by omega)
    have := h n (by omega)
    show sumN f n + f n ≤ _
    omega
theorem nAt_le {A : oA} {p : Int} {h : Int} : nAt A p h ≤ aV A := sumN_le_n fun t _ => by rcases cif_01 (P := hasP A t p ∧ covS A t h) with e | e <;> omega
theorem nAt_split {A : oA} {p : Int} {s : Nat} {h : Int} (hs : s < aV A) : nAt A p h = nWo A p s h + cif (hasP A s p ∧ covS A s h) 1 0 := by
  have e1 : nAt A p h = sumN (fun t => cif (t ≠ s ∧ hasP A t p ∧ covS A t h) 1 0 + (if t = s then cif (hasP A s p ∧ covS A s h) 1 0 else 0)) (aV A) := sumN_congr fun t _ => by
    by_cases e : t = s
    · subst e
      have := cif_neg (P := t ≠ t ∧ hasP A t p ∧ covS A t h) (a := 1) (b := 0) (fun z => z.1 rfl)
      rw [if_pos rfl]; omega
    · rw [if_neg e, Int.add_zero]
      by_cases h2 : hasP A t p ∧ covS A t h
      · rw [cif_pos h2, cif_pos ⟨e, h2⟩]
      · rw [cif_neg h2, cif_neg (fun z => h2 z.2)]
  rw [e1, sumN_add, sumN_one hs (fun t _ ht => if_neg ht), if_pos rfl]
  rfl
theorem sumN_pos {f : Nat → Int} {n : Nat} (h0 : ∀ x, x < n → 0 ≤ f x) : 0 < sumN f n ↔ ∃ x, x < n ∧ 0 < f x := by
  constructor
  · intro h
    refine Classical.byContradiction fun hn => ?_
    have : sumN f n ≤ sumN (fun _ => 0) n := sumN_le fun x hx => Classical.byContradiction fun z => hn ⟨x, hx, by omega⟩
    rw [sumN_zero fun _ _ => rfl] at this
    omega
  · rintro ⟨x, hx, h⟩
    have := sumN_term hx h0
    omega
theorem cif_gt {P : Prop} : 0 < cif P 1 0 ↔ P := by
  by_cases h : P
  · rw [cif_pos h]; exact ⟨fun _ => h, fun _ => by omega⟩
  · rw [cif_neg h]; exact ⟨fun z => by omega, fun z => absurd z h⟩
theorem nWo_pos {A : oA} {p : Int} {s : Nat} {h : Int} : 0 < nWo A p s h ↔ wrk A p s h := by
  unfold nWo
  rw [sumN_pos fun t _ => by rcases cif_01 (P := t ≠ s ∧ hasP A t p ∧ covS A t h) with e | e <;> omega]
  unfold wrk
  constructor
  · rintro ⟨t, h1, h2⟩
    exact ⟨t, h1, cif_gt.mp h2⟩
  · rintro ⟨t, h1, h2⟩
    exact ⟨t, h1, cif_gt.mpr h2⟩
theorem nAt_pos {A : oA} {p : Int} {s : Nat} {h : Int} (hs : aV A ≤ s) : 0 < nAt A p h ↔ wrk A p s h := by
  unfold nAt
  rw [sumN_pos fun t _ => by rcases cif_01 (P := hasP A t p ∧ covS A t h) with e | e <;> omega]
  unfold wrk
  constructor
  · rintro ⟨t, h1, h2⟩
    exact ⟨t, h1, by omega, cif_gt.mp h2⟩
  · rintro ⟨t, h1, h3, h2⟩
    exact ⟨t, h1, cif_gt.mpr h2⟩
/-- what holds of every office -/
def oBnd (A : oA) : Prop := (0 ≤ A 30 1 ∧ A 30 1 ≤ 8) ∧ (0 ≤ A 30 2 ∧ A 30 2 ≤ 4) ∧ (0 ≤ A 30 3 ∧ A 30 3 ≤ 24) ∧ (0 ≤ A 30 4 ∧ A 30 4 ≤ 999) ∧ (1 ≤ A 30 5 ∧ A 30 5 ≤ 24) ∧ (1 ≤ A 30 6 ∧ A 30 6 ≤ 168)
def oCert (A : oA) : Prop := (∀ a, A 31 a = 0 ∨ A 31 a = 1) ∧ (∀ a, 4 * aP A ≤ a → A 31 a = 0) ∧ ∀ a, A 31 a = 1 → (0 ≤ A 35 a ∧ A 35 a ≤ 1000) ∧ (0 ≤ A 36 a ∧ A 36 a ≤ 110 + 30 * (A 30 4 / 24))
def oDays (A : oA) : Prop := (∀ a, A 32 a = 0 ∨ A 32 a = 1) ∧ (∀ a, A 33 a = 0 ∨ A 33 a = 1) ∧ (∀ a, 42 * aP A ≤ a → A 32 a = 0 ∧ A 33 a = 0)
def oCrs (A : oA) : Prop := (∀ p, A 34 p = 0 ∨ A 34 p = 1) ∧ (∀ p, aP A ≤ p → A 34 p = 0) ∧ ∀ p, A 34 p = 1 → (0 ≤ A 37 p ∧ A 37 p < 4) ∧ (0 ≤ A 38 p ∧ A 38 p ≤ 41)
def oShp (A : oA) : Prop := ∀ j, j < aS A → (1 ≤ A 39 j ∧ A 39 j ≤ 3) ∧ ∀ k : Nat, (k : Int) < A 39 j → 0 ≤ A 40 (3 * j + k) ∧ A 40 (3 * j + k) < 4
def shN (A : oA) (s : Nat) : Nat := (A 41 s).toNat
def psN (A : oA) (s : Nat) : Nat := (A 39 (shN A s)).toNat
def oSt (A : oA) (s : Nat) : Prop := (0 ≤ A 41 s ∧ A 41 s < aS A) ∧ (1 ≤ A 42 s ∧ 1 ≤ A 43 s ∧ A 43 s ≤ 12 ∧ A 42 s + A 43 s ≤ 999) ∧ (A 44 s = 112 ∨ A 44 s = 115 ∨ A 44 s = 99)
def oCrw (A : oA) (s : Nat) : Prop := (∀ k, k < 3 → A 45 (3 * s + k) = -1 ∨ (0 ≤ A 45 (3 * s + k) ∧ A 45 (3 * s + k) < aP A)) ∧ (∀ k, k < 3 → psN A s ≤ k → A 45 (3 * s + k) = -1) ∧
  (∀ k l, k < 3 → l < 3 → k ≠ l → A 45 (3 * s + k) = A 45 (3 * s + l) → A 45 (3 * s + k) = -1) ∧ (A 44 s = 99 → ∀ k, k < 3 → A 45 (3 * s + k) = -1) ∧ (A 44 s = 115 → ∀ k, k < psN A s → A 45 (3 * s + k) ≠ -1)
def oNo (A : oA) : Prop := ∀ s t p h, s < aV A → t < aV A → s ≠ t → 0 ≤ p → hasP A s p → hasP A t p → covS A s h → covS A t h → False
def OA (A : oA) : Prop := oBnd A ∧ oCert A ∧ oDays A ∧ oCrs A ∧ oShp A ∧ (∀ s, s < aV A → oSt A s) ∧ (∀ s, s < aV A → oCrw A s) ∧ oNo A
/-- what the class's objects hold of an office -/
def R0 (st : mS) (A : oA) : Prop := (sL st 20 = List.range (aP A) ∧ sL st 21 = List.range (aS A) ∧ sL st 22 = List.range (aV A)) ∧ (sN st 1 = aP A ∧ sN st 2 = aS A ∧ sN st 3 = aV A) ∧ (sI st 0 0 5 = A 30 4 ∧ sI st 0 0 6 = A 30 5 ∧ sI st 0 0 7 = A 30 6)
def RP1 (st : mS) (A : oA) (p : Nat) : Prop := sI st 3 p 0 = p ∧ (∀ k, k < 4 → (A 31 (4 * p + k) = 1 → sI st 4 p k = A 35 (4 * p + k) ∧ sI st 5 p k = A 36 (4 * p + k)) ∧ (A 31 (4 * p + k) = 0 → sI st 5 p k = -1)) ∧
  (∀ e, e < 64 → (dbit (sJ st 1 p 0) e = true ↔ e < 42 ∧ A 32 (42 * p + e) = 1)) ∧ (∀ e, e < 64 → (dbit (sJ st 2 p 0) e = true ↔ e < 42 ∧ A 33 (42 * p + e) = 1)) ∧
  (A 34 p = 1 → sI st 3 p 5 = A 37 p ∧ sI st 3 p 6 = A 38 p) ∧ (A 34 p = 0 → sI st 3 p 6 = -1)
def RW1 (st : mS) (A : oA) (p : Nat) : Prop := (∀ h, h < 1000 → sI st 6 p h = nAt A p h) ∧ sI st 3 p 8 = sumN (fun h => sI st 6 p h) 1000
def RS1 (st : mS) (A : oA) (j : Nat) : Prop := sI st 7 j 1 = A 39 j ∧ (sI st 7 j 2 = 0 ∨ sI st 7 j 2 = 1) ∧ (sI st 7 j 2 = 1 ↔ ∃ t, t < aV A ∧ A 41 t = j) ∧ ∀ k : Nat, (k : Int) < A 39 j → sI st 8 j k = A 40 (3 * j + k)
def RV1 (st : mS) (A : oA) (s : Nat) : Prop := sR st s = shN A s ∧ sI st 9 s 1 = A 42 s ∧ sI st 9 s 2 = A 42 s + A 43 s ∧ sI st 9 s 3 = A 44 s ∧ ∀ k, k < 3 → sI st 10 s k = A 45 (3 * s + k)
def RelC (st : mS) (A : oA) : Prop := R0 st A ∧ (∀ p, p < aP A → RP1 st A p) ∧ (∀ p, p < aP A → RW1 st A p) ∧ (∀ j, j < aS A → RS1 st A j) ∧ (∀ s, s < aV A → RV1 st A s)
/-- a state that differs from another one at these places alone -/
def frP (Q : Nat → Nat → Nat → Prop) (st st' : mS) : Prop := (∀ k i j, ¬ Q k i j → sI st' k i j = sI st k i j) ∧ st'.2 = st.2
theorem frP.refl {Q : Nat → Nat → Nat → Prop} (st : mS) : frP Q st st := ⟨fun _ _ _ _ => rfl, rfl⟩
theorem frP.trans {Q : Nat → Nat → Nat → Prop} {a b c : mS} (h1 : frP Q a b) (h2 : frP Q b c) : frP Q a c := ⟨fun k i j n => (h2.1 k i j n).trans (h1.1 k i j n), h2.2.trans h1.2⟩
theorem frP.mono {Q R : Nat → Nat → Nat → Prop} {a b : mS} (h1 : frP Q a b) (h : ∀ k i j, Q k i j → R k i j) : frP R a b := ⟨fun k i j n => h1.1 k i j (fun z => n (h k i j z)), h1.2⟩
theorem frP.L {Q : Nat → Nat → Nat → Prop} {a b : mS} (h1 : frP Q a b) : sL b = sL a := by unfold sL; rw [h1.2]
theorem frP.R {Q : Nat → Nat → Nat → Prop} {a b : mS} (h1 : frP Q a b) : sR b = sR a := by unfold sR; rw [h1.2]
theorem frP.N {Q : Nat → Nat → Nat → Prop} {a b : mS} (h1 : frP Q a b) : sN b = sN a := by unfold sN; rw [h1.2]
theorem frP.J {Q : Nat → Nat → Nat → Prop} {a b : mS} (h1 : frP Q a b) : sJ b = sJ a := by unfold sJ; rw [h1.2]
/-- places that no office speaks of: the searches' rows, the model -/
def scr (k _i _j : Nat) : Prop := 11 ≤ k
theorem RelC_scr {st st' : mS} {A : oA} (h : RelC st A) (hf : frP scr st st') : RelC st' A := by
  have e : ∀ k i j, k < 11 → sI st' k i j = sI st k i j := fun k i j hk => hf.1 k i j (fun z => by unfold scr at z; omega)
  obtain ⟨h0, h1, h2, h3, h4⟩ := h
  refine ⟨?_, fun p hp => ?_, fun p hp => ?_, fun j hj => ?_, fun s hs => ?_⟩
  · unfold R0; rw [hf.L, hf.N, e 0 0 5 (by omega), e 0 0 6 (by omega), e 0 0 7 (by omega)]; exact h0
  · have := h1 p hp
    unfold RP1 at this ⊢
    simp only [hf.J, e 3 _ _ (by omega), e 4 _ _ (by omega), e 5 _ _ (by omega)]; exact this
  · have := h2 p hp
    unfold RW1 at this ⊢
    simp only [e 3 _ _ (by omega), e 6 _ _ (by omega)]; exact this
  · have := h3 j hj
    unfold RS1 at this ⊢
    simp only [e 7 _ _ (by omega), e 8 _ _ (by omega)]; exact this
  · have := h4 s hs
    unfold RV1 at this ⊢
    simp only [hf.R, e 9 _ _ (by omega), e 10 _ _ (by omega)]; exact this
