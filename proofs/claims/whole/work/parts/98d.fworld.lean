/-! THE FIRST WORLD: what the heap holds behind the constructors, as a world of the first state -/
def KS : List Nat := [0, 20, 21, 22, 12, 13, 14, 15, 16, 17, 23, 18, 19] ++ (30 :: ([31, 32, 33, 34, 35, 36, 37, 38, 39, 40, 41, 42, 43, 44, 45, 46, 47, 48, 49, 50, 51, 52, 53, 54, 55] ++ [60, 61]))
def eA (E : mEnv) (u : Nat → Nat) (k : Nat) : va_E := match k with
  | 0 => .inr (10, [.ref (u 20), .ref (u 21), .ref (u 22), .ref (u 12), .ref (u 17), .int 0, .int 14, .int 72])
  | 12 => .inr (4, [.int 0, .ref (u 13), .ref (u 14), .ref (u 15), .ref (u 16), .int 0])
  | 17 => .inr (6, [.ref (u 23), .ref (u 18), .ref (u 19), .int 0, .int 0])
  | 20 => .inr (3, [.int 0, .ref (eE E), .int 0])
  | 21 => .inr (3, [.int 0, .ref (eE E), .int 0])
  | 22 => .inr (3, [.int 0, .ref (eE E), .int 0])
  | 23 => .inr (3, [.int 0, .ref (eE E), .int 0])
  | 30 => .inr (11, FM u)
  | 60 => .inl (eC E 2, 1, .inr (.inl (fun _ => 0)))
  | 61 => .inl (eC E 3, 1, .inr (.inr (.inr (.inl (fun _ => 0)))))
  | k => match mAd k with
    | some (ty, n) => .inl (eC E ty, n, .inl (fun _ => 0))
    | none => .inr (0, [])
def wsA (E : mEnv) (u : Nat → Nat) : va_W := KS.map (fun k => (u k, eA E u k))
theorem KS_in : ∀ k : Nat, k < 62 → ((mKd k).isSome || (mAd k).isSome || (Nat.ble 20 k && Nat.ble k 23)) = true → (Nat.ble 1 k && Nat.ble k 11) = false → KS.contains k = true := by decide +kernel
theorem k62_d {k : Nat} (h : 62 ≤ k) : mKd k = none ∧ mAd k = none := by
  obtain ⟨a, rfl⟩ : ∃ a, k = a + 62 := ⟨k - 62, by omega⟩
  exact ⟨rfl, rfl⟩
section FW
variable {E : mEnv} {u : Nat → Nat} {L : Nat} {xs : Nat → Int32}
theorem fst_N0 {k : Nat} (h1 : 1 ≤ k) (h2 : k ≤ 11) : sN (fst L xs) (mG k) = 0 := by
  rcases (show k = 1 ∨ k = 2 ∨ k = 3 ∨ k = 4 ∨ k = 5 ∨ k = 6 ∨ k = 7 ∨ k = 8 ∨ k = 9 ∨ k = 10 ∨ k = 11 by omega) with rfl | rfl | rfl | rfl | rfl | rfl | rfl | rfl | rfl | rfl | rfl <;> rfl
theorem mG_b : ∀ k : Nat, k < 62 → (Nat.ble 1 k && Nat.ble k 11) = true ∨ mG k = 0 ∨ mG k = 4 ∨ mG k = 5 ∨ mG k = 6 := by decide +kernel
theorem mG_v (k : Nat) (h : k < 62) (h2 : ¬ (1 ≤ k ∧ k ≤ 11)) : mG k = 0 ∨ mG k = 4 ∨ mG k = 5 ∨ mG k = 6 := by
  rcases mG_b k h with h3 | h3
  · rw [Bool.and_eq_true] at h3
    exact absurd ⟨Nat.le_of_ble_eq_true h3.1, Nat.le_of_ble_eq_true h3.2⟩ h2
  · exact h3
theorem fst_N1 {k : Nat} (h : k < 62) (h2 : ¬ (1 ≤ k ∧ k ≤ 11)) : sN (fst L xs) (mG k) = 1 := by
  rcases mG_v k h h2 with e | e | e | e <;> rw [e] <;> rfl
theorem fst_row {k i : Nat} (h : k ≠ 62) (h0 : k ≠ 0) (h3 : k ≠ 30) : (fun j => Int32.ofInt (sI (fst L xs) k i j)) = fun _ => 0 := by
  funext j
  rw [fst_0 h h0 h3]
  rfl
theorem eA_d {k ty n : Nat} (h : mAd k = some (ty, n)) (h60 : k ≠ 60) (h61 : k ≠ 61) : eA E u k = .inl (eC E ty, n, .inl (fun _ => 0)) := by
  unfold eA
  split <;> first | (exact absurd rfl h60) | (exact absurd rfl h61) | (exact absurd (show (none : Option (Nat × Nat)) = some (ty, n) from h) (by intro z; cases z)) | skip
  rw [h]
theorem mAd_ty : ∀ k : Nat, k < 62 → k ≠ 60 → k ≠ 61 → (match mAd k with | some (ty, n) => Nat.blt ty 2 | none => true) = true := by decide +kernel
theorem cell30 : ([0, 0, 0, 0, 0, 0, 0, 0, 34, 35, 36, 37, 38, 39, 40, 41, 42, 43, 44, 45, 46, 47, 48, 49, 50, 51, 52, 53, 54, 55, 56, 57, 58] : List Nat).mapIdx (fun j fd => mR E (fun k _ => u k) (mfv (fst L xs) 30 0 j fd)) = FM u := by
  apply List.ext_getElem?
  intro j
  rw [List.getElem?_mapIdx]
  by_cases h : j < 33
  · rcases (show j = 0 ∨ j = 1 ∨ j = 2 ∨ j = 3 ∨ j = 4 ∨ j = 5 ∨ j = 6 ∨ j = 7 ∨ j = 8 ∨ j = 9 ∨ j = 10 ∨ j = 11 ∨ j = 12 ∨ j = 13 ∨ j = 14 ∨ j = 15 ∨ j = 16 ∨ j = 17 ∨ j = 18 ∨ j = 19 ∨ j = 20 ∨ j = 21 ∨ j = 22 ∨ j = 23 ∨ j = 24 ∨ j = 25 ∨ j = 26 ∨ j = 27 ∨ j = 28 ∨ j = 29 ∨ j = 30 ∨ j = 31 ∨ j = 32 by omega) with rfl | rfl | rfl | rfl | rfl | rfl | rfl | rfl | rfl | rfl | rfl | rfl | rfl | rfl | rfl | rfl | rfl | rfl | rfl | rfl | rfl | rfl | rfl | rfl | rfl | rfl | rfl | rfl | rfl | rfl | rfl | rfl | rfl <;> rfl
  · rw [List.getElem?_eq_none (by show 33 ≤ j; omega), List.getElem?_eq_none (by show 33 ≤ j; omega)]
    rfl
theorem cell_first {k i : Nat} {e : va_E} (h : mCell E (fun _ => 0) (fun _ => 0) (fst L xs) (fun k _ => u k) k i = some e) : i = 0 ∧ KS.contains k = true ∧ e = eA E u k := by
  have hk : k < 62 := by
    apply Decidable.byContradiction
    intro hk
    unfold mCell at h
    split at h
    · cases h
    · rw [(k62_d (Nat.le_of_not_lt hk)).1, (k62_d (Nat.le_of_not_lt hk)).2] at h
      dsimp only at h
      rw [if_neg (by omega), if_neg (by omega)] at h
      cases h
  by_cases hn : 1 ≤ k ∧ k ≤ 11
  · unfold mCell at h
    rw [if_pos (by rw [fst_N0 hn.1 hn.2]; exact Nat.zero_le _)] at h
    cases h
  unfold mCell at h
  rw [fst_N1 hk hn] at h
  by_cases hi : 1 ≤ i
  · rw [if_pos hi] at h
    cases h
  obtain rfl : i = 0 := by omega
  rw [if_neg hi] at h
  refine ⟨rfl, ?_⟩
  have hb : (Nat.ble 1 k && Nat.ble k 11) = false := by
    cases e9 : (Nat.ble 1 k && Nat.ble k 11) with
    | false => rfl
    | true =>
      rw [Bool.and_eq_true] at e9
      exact absurd ⟨Nat.le_of_ble_eq_true e9.1, Nat.le_of_ble_eq_true e9.2⟩ hn
  cases e1 : mKd k with
  | some z =>
    refine ⟨KS_in k hk (by rw [e1]; rfl) hb, ?_⟩
    have h4 : k = 0 ∨ k = 12 ∨ k = 17 ∨ k = 30 := by
      have : ∀ k : Nat, k < 62 → (mKd k).isSome = true → (Nat.ble 1 k && Nat.ble k 11) = false → k = 0 ∨ k = 12 ∨ k = 17 ∨ k = 30 := by decide +kernel
      exact this k hk (by rw [e1]; rfl) hb
    rw [e1] at h
    obtain ⟨ci, fds⟩ := z
    dsimp only at h
    rcases h4 with rfl | rfl | rfl | rfl
    · cases e1
      cases h
      rfl
    · cases e1
      cases h
      rfl
    · cases e1
      cases h
      rfl
    · cases e1
      rw [cell30] at h
      exact (Option.some.inj h).symm
  | none =>
    rw [e1] at h
    dsimp only at h
    cases e2 : mAd k with
    | some z =>
      refine ⟨KS_in k hk (by rw [e2, e1]; rfl) hb, ?_⟩
      obtain ⟨ty, n⟩ := z
      by_cases h60 : k = 60
      · subst h60
        cases e2
        cases h
        rfl
      by_cases h61 : k = 61
      · subst h61
        cases e2
        cases h
        rfl
      have h0 : k ≠ 0 := by rintro rfl; cases e2
      have h3 : k ≠ 30 := by rintro rfl; cases e2
      rw [eA_d e2 h60 h61]
      have ht := mAd_ty k hk h60 h61
      rw [e2] at h ht
      rcases (show ty = 0 ∨ ty = 1 by have := blt1 ht; omega) with rfl | rfl
      · try dsimp only at h
        rw [fst_row (by omega) h0 h3] at h
        exact (Option.some.inj h).symm
      · try dsimp only at h
        rw [fst_row (by omega) h0 h3] at h
        exact (Option.some.inj h).symm
    | none =>
      rw [e2] at h
      dsimp only at h
      by_cases h2 : 20 ≤ k ∧ k < 24
      · rw [if_pos ⟨h2.1, h2.2, rfl⟩] at h
        refine ⟨KS_in k hk (by rw [Bool.or_eq_true, Bool.and_eq_true]; exact Or.inr ⟨Nat.ble_eq_true_of_le h2.1, Nat.ble_eq_true_of_le (by omega)⟩) hb, ?_⟩
        rcases (show k = 20 ∨ k = 21 ∨ k = 22 ∨ k = 23 by omega) with rfl | rfl | rfl | rfl
        · exact (Option.some.inj h).symm
        · exact (Option.some.inj h).symm
        · exact (Option.some.inj h).symm
        · exact (Option.some.inj h).symm
      · rw [if_neg (by omega), if_neg (fun z => z.2.2.2 rfl)] at h
        cases h
theorem KS_at {k : Nat} (h : KS.contains k = true) : ∃ n : Nat, KS[n]? = some k ∧ (wsA E u)[n]? = some (u k, eA E u k) := by
  obtain ⟨n, hn⟩ := List.getElem?_of_mem (List.contains_iff_mem.mp h)
  refine ⟨n, hn, ?_⟩
  unfold wsA
  rw [List.getElem?_map, hn]
  rfl
theorem first_cells {A : Nat → Prop} {H : Heap} (hP : va_P (eD E) vwCl (wsA E u) H) (hD : va_D A (wsA E u)) (hA : ∀ q, A q → eN E ≤ q) : mCells E (fst L xs) (fun k _ => u k) H := by
  refine ⟨fun _ => 0, fun _ => 0, fun k _ _ => ⟨Nat.zero_le _, Nat.zero_le _⟩, fun k i e h => ?_, fun k i k' i' e e' h h' he => ?_⟩
  · obtain ⟨rfl, hk, rfl⟩ := cell_first h
    obtain ⟨n, -, hn⟩ := KS_at (E := E) (u := u) hk
    exact ⟨hA _ (hD.2 n _ hn), hP n _ hn⟩
  · obtain ⟨rfl, hk, rfl⟩ := cell_first h
    obtain ⟨rfl, hk', rfl⟩ := cell_first h'
    obtain ⟨n, hn1, hn⟩ := KS_at (E := E) (u := u) hk
    obtain ⟨n', hn1', hn'⟩ := KS_at (E := E) (u := u) hk'
    have e9 := hD.1 n n' _ _ hn hn' he
    subst e9
    rw [hn1] at hn1'
    exact ⟨Option.some.inj hn1', rfl⟩
theorem first_WF (hL : eL E = L) (hX : eX E = xs) (h31 : L < 2 ^ 31) : mWF E (fst L xs) := by
  refine ⟨fun k i j => ?_, fun i h => absurd h (Nat.not_lt_zero _), fun k x h => absurd h List.not_mem_nil, ⟨hL.symm, by rw [hL]; exact h31⟩, fun i j _ => by rw [hX]; rfl⟩
  rw [fst_I]
  split
  · exact i32_inR _
  · split
    · exact ⟨by decide, by decide⟩
    · split
      · exact ⟨by decide, by decide⟩
      · exact i32_0
theorem first_base {A : Nat → Prop} {H : Heap} {locs : List Loc} (hS : va_S A (eH E) H locs) (hA : ∀ q, A q → eN E ≤ q) (hN : eN E = (eH E).size) : mBase E H :=
  ⟨by rw [hN]; exact hS.1, fun q h => hS.2.1 q (by rw [← hN]; exact h) (fun z => by have := hA q z; omega)⟩
theorem first_world {A : Nat → Prop} {H : Heap} {locs : List Loc} (hP : va_P (eD E) vwCl (wsA E u) H) (hD : va_D A (wsA E u)) (hS : va_S A (eH E) H locs) (hA : ∀ q, A q → eN E ≤ q) (hN : eN E = (eH E).size) (hL : eL E = L) (hX : eX E = xs) (h31 : L < 2 ^ 31) : mWorld E (fst L xs) (fun k _ => u k) H :=
  ⟨first_base hS hA hN, first_WF hL hX h31, first_cells hP hD hA⟩
end FW
