/-! THE FIRST STATE: an office as both sides make it -/
def fA1 : oA := fun k j => if k = 30 ∧ j = 5 then 14 else if k = 30 ∧ j = 6 then 72 else 0
def fst (L : Nat) (xs : Nat → Int32) : mS := ((fun k _ j => if k = 62 then (xs j).toInt else if (k = 0 ∧ j = 6) ∨ (k = 30 ∧ j = 5) then 14 else if (k = 0 ∧ j = 7) ∨ (k = 30 ∧ j = 6) then 72 else 0),
  (fun _ _ _ => 0), (fun _ _ _ => 0), (fun g => if g = 62 then L else if g = 0 ∨ g = 4 ∨ g = 5 ∨ g = 6 then 1 else 0), (fun _ => 0), fun _ => [])
section First
variable {L : Nat} {xs : Nat → Int32}
theorem fst_I {k i j : Nat} : sI (fst L xs) k i j = if k = 62 then (xs j).toInt else if (k = 0 ∧ j = 6) ∨ (k = 30 ∧ j = 5) then 14 else if (k = 0 ∧ j = 7) ∨ (k = 30 ∧ j = 6) then 72 else 0 := rfl
theorem fst_0 {k i j : Nat} (h : k ≠ 62) (h0 : k ≠ 0) (h3 : k ≠ 30) : sI (fst L xs) k i j = 0 := by
  rw [fst_I, if_neg h, if_neg (by omega), if_neg (by omega)]
theorem fA1_0 {k j : Nat} (h : ¬ (k = 30 ∧ (j = 5 ∨ j = 6))) : fA1 k j = 0 := by
  unfold fA1
  rw [if_neg (by omega), if_neg (by omega)]
theorem fP : aP fA1 = 0 := by unfold aP; rw [fA1_0 (by omega)]; rfl
theorem fS9 : aS fA1 = 0 := by unfold aS; rw [fA1_0 (by omega)]; rfl
theorem fV : aV fA1 = 0 := by unfold aV; rw [fA1_0 (by omega)]; rfl
theorem fA1_5 : fA1 30 5 = 14 := rfl
theorem fA1_6 : fA1 30 6 = 72 := rfl
theorem fst_OA : OA fA1 := by
  refine ⟨⟨?_, ?_, ?_, ?_, ?_, ?_⟩, ⟨fun a => Or.inl (fA1_0 (by omega)), fun a _ => fA1_0 (by omega), fun a h => ?_⟩, ⟨fun a => Or.inl (fA1_0 (by omega)), fun a => Or.inl (fA1_0 (by omega)), fun a _ => ⟨fA1_0 (by omega), fA1_0 (by omega)⟩⟩, ⟨fun p => Or.inl (fA1_0 (by omega)), fun p _ => fA1_0 (by omega), fun p h => ?_⟩, fun j hj => ?_, fun s hs => ?_, fun s hs => ?_, fun s t p h hs => ?_⟩
  · rw [fA1_0 (by omega)]; exact ⟨by omega, by omega⟩
  · rw [fA1_0 (by omega)]; exact ⟨by omega, by omega⟩
  · rw [fA1_0 (by omega)]; exact ⟨by omega, by omega⟩
  · rw [fA1_0 (by omega)]; exact ⟨by omega, by omega⟩
  · rw [fA1_5]; exact ⟨by omega, by omega⟩
  · rw [fA1_6]; exact ⟨by omega, by omega⟩
  · rw [fA1_0 (by omega)] at h; exact absurd h (by decide)
  · rw [fA1_0 (by omega)] at h; exact absurd h (by decide)
  · rw [fS9] at hj; omega
  · rw [fV] at hs; omega
  · rw [fV] at hs; omega
  · rw [fV] at hs; omega
theorem fst_LI : LI (fst L xs) fA1 := by
  refine ⟨fst_OA, ⟨⟨⟨?_, ?_, ?_⟩, ⟨?_, ?_, ?_⟩, ?_, ?_, ?_⟩, fun p hp => ?_, fun p hp => ?_, fun j hj => ?_, fun s hs => ?_⟩, fun j h1 h2 => ?_, fun k j h1 h2 => ?_⟩
  · rw [fP]; rfl
  · rw [fS9]; rfl
  · rw [fV]; rfl
  · rw [fP]; rfl
  · rw [fS9]; rfl
  · rw [fV]; rfl
  · rw [fA1_0 (by omega)]; rfl
  · rfl
  · rfl
  · rw [fP] at hp; omega
  · rw [fP] at hp; omega
  · rw [fS9] at hj; omega
  · rw [fV] at hs; omega
  · rcases (show j = 1 ∨ j = 2 ∨ j = 3 ∨ j = 4 ∨ j = 5 ∨ j = 6 by omega) with rfl | rfl | rfl | rfl | rfl | rfl <;> rfl
  · rw [fst_0 (by omega) (by omega) (by omega), fA1_0 (by omega)]
theorem fst_LX : LX (fun j => (xs j).toInt) L (fst L xs) := ⟨rfl, fun j _ => rfl⟩
end First
