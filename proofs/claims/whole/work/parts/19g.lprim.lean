/-! INTERFACE CALLS of the pure machine are what the members do -/
theorem nI_ofInt {n : Nat} (h : n < 2 ^ 31) : Int32.ofInt (n : Int) = nI n := Int32.toInt_inj.mp (by rw [i32_toInt ⟨by omega, by omega⟩, nI_toInt h])
theorem ofInt_nn {j : Int} (h0 : 0 ≤ j) (hj : inR j) : Int32.ofInt j = nI j.toNat := by
  obtain ⟨n, rfl⟩ := Int.eq_ofNat_of_zero_le h0
  obtain ⟨_, h2⟩ := hj
  exact nI_ofInt (by omega)
theorem lf_app {xs : List Nat} {g : Nat → Nat} {z : Nat} : (fun j => ((xs ++ [z])[j]?).map g) = va_up (fun j => (xs[j]?).map g) xs.length (some (g z)) := by
  funext j
  unfold va_up
  by_cases h : j = xs.length
  · rw [if_pos h, h, List.getElem?_append_right (Nat.le_refl _), Nat.sub_self]
    rfl
  · rw [if_neg h]
    rcases Nat.lt_or_ge j xs.length with h1 | h1
    · rw [List.getElem?_append_left h1]
    · rw [List.getElem?_eq_none (by rw [List.length_append, List.length_singleton]; omega)]
      show none = (xs[j]?).map g
      rw [List.getElem?_eq_none h1]
      rfl
theorem lf_ins {xs : List Nat} {g : Nat → Nat} {z i : Nat} (hi : i ≤ xs.length) : (fun j => ((xs.take i ++ z :: xs.drop i)[j]?).map g) = va_up (va_cpy (fun j => (xs[j]?).map g) (fun j => (xs[j]?).map g) i (i + 1) (xs.length - i)) i (some (g z)) := by
  funext j
  have hl : (xs.take i).length = i := by rw [List.length_take]; omega
  unfold va_up
  by_cases h : j = i
  · rw [if_pos h, h, List.getElem?_append_right (by omega), hl, Nat.sub_self]
    rfl
  · rw [if_neg h]
    rcases Nat.lt_or_ge j i with h1 | h1
    · rw [List.getElem?_append_left (by omega), List.getElem?_take_of_lt h1, pk_cpy_out (Or.inl (by omega))]
    · obtain ⟨t, rfl⟩ : ∃ t, j = i + 1 + t := ⟨j - (i + 1), by omega⟩
      rw [List.getElem?_append_right (by omega), hl, show i + 1 + t - i = t + 1 by omega, List.getElem?_cons_succ, List.getElem?_drop]
      by_cases h2 : t < xs.length - i
      · rw [pk_cpy_in (by omega) (by omega), Nat.add_sub_cancel_left]
      · rw [pk_cpy_out (Or.inr (by omega)), List.getElem?_eq_none (by omega), List.getElem?_eq_none (by omega)]
theorem lf_del {xs : List Nat} {g : Nat → Nat} {i : Nat} (hi : i < xs.length) : (fun j => ((xs.take i ++ xs.drop (i + 1))[j]?).map g) = va_up (va_cpy (fun j => (xs[j]?).map g) (fun j => (xs[j]?).map g) (i + 1) i (xs.length - 1 - i)) (xs.length - 1) none := by
  funext j
  have hl : (xs.take i).length = i := by rw [List.length_take]; omega
  unfold va_up
  rcases Nat.lt_or_ge j i with h1 | h1
  · rw [if_neg (by omega), List.getElem?_append_left (by omega), List.getElem?_take_of_lt h1, pk_cpy_out (Or.inl (by omega))]
  · obtain ⟨t, rfl⟩ : ∃ t, j = i + t := ⟨j - i, by omega⟩
    rw [List.getElem?_append_right (by omega), hl, Nat.add_sub_cancel_left, List.getElem?_drop]
    by_cases h2 : i + t = xs.length - 1
    · rw [if_pos h2, List.getElem?_eq_none (by omega)]
      rfl
    · rw [if_neg h2]
      by_cases h3 : t < xs.length - 1 - i
      · rw [pk_cpy_in (by omega) (by omega), Nat.add_sub_cancel_left]
      · rw [pk_cpy_out (Or.inr (by omega)), List.getElem?_eq_none (by omega), List.getElem?_eq_none (by omega)]
theorem lk_in {k : Nat} (h : lk k = true) : 20 ≤ k ∧ k < 24 := by
  unfold lk at h
  rw [Bool.and_eq_true] at h
  exact ⟨Nat.le_of_ble_eq_true h.1, blt1 h.2⟩
section Shapes
variable {stk : List mV} {st : mS} {post : mO → mS → Prop}
theorem pr_1 (h : mPrim 501 (stk.take 1).reverse st post) : ∃ k r, stk = mr k 0 :: r ∧ (20 ≤ k ∧ k < 24) ∧ post (.inl (some (mi (sL st k).length))) st := by
  rcases stk with _ | ⟨v, r⟩
  · exact (show False from h).elim
  · rcases v with z | z | z | z | ⟨q1, q2⟩
    · exact (show False from h).elim
    · exact (show False from h).elim
    · exact (show False from h).elim
    · exact (show False from h).elim
    · obtain ⟨hb, h2⟩ := cond_inv h
      rw [Bool.and_eq_true] at hb
      obtain rfl : q2 = 0 := beq1 hb.2
      exact ⟨q1, r, rfl, lk_in hb.1, h2⟩
theorem pr_6 (h : mPrim 506 (stk.take 1).reverse st post) : ∃ k r, stk = mr k 0 :: r ∧ (20 ≤ k ∧ k < 24) ∧ post (.inl none) (putL st k []) := by
  rcases stk with _ | ⟨v, r⟩
  · exact (show False from h).elim
  · rcases v with z | z | z | z | ⟨q1, q2⟩
    · exact (show False from h).elim
    · exact (show False from h).elim
    · exact (show False from h).elim
    · exact (show False from h).elim
    · obtain ⟨hb, h2⟩ := cond_inv h
      rw [Bool.and_eq_true] at hb
      obtain rfl : q2 = 0 := beq1 hb.2
      exact ⟨q1, r, rfl, lk_in hb.1, h2⟩
theorem pr_2 (h : mPrim 502 (stk.take 2).reverse st post) : ∃ k j r, stk = mi j :: mr k 0 :: r ∧ (20 ≤ k ∧ k < 24) ∧ 0 ≤ j ∧ ∃ x, (sL st k)[j.toNat]? = some x ∧ post (.inl (some (mr (mEk k) x))) st := by
  rcases stk with _ | ⟨v, _ | ⟨v2, r⟩⟩
  · exact (show False from h).elim
  · rcases v with z | z | z | z | ⟨q1, q2⟩ <;> exact (show False from h).elim
  · rcases v2 with z | z | z | z | ⟨q1, q2⟩ <;> rcases v with y | y | y | y | ⟨y1, y2⟩ <;> first | exact (show False from h).elim | skip
    obtain ⟨hb, h2⟩ := cond_inv h
    rw [Bool.and_eq_true] at hb
    obtain rfl : q2 = 0 := beq1 hb.2
    exact ⟨q1, y, r, rfl, lk_in hb.1, h2⟩
theorem pr_5 (h : mPrim 505 (stk.take 2).reverse st post) : ∃ k j r, stk = mi j :: mr k 0 :: r ∧ (20 ≤ k ∧ k < 24) ∧ 0 ≤ j ∧ ∃ x, (sL st k)[j.toNat]? = some x ∧ post (.inl (some (mr (mEk k) x))) (putL st k ((sL st k).take j.toNat ++ (sL st k).drop (j.toNat + 1))) := by
  rcases stk with _ | ⟨v, _ | ⟨v2, r⟩⟩
  · exact (show False from h).elim
  · rcases v with z | z | z | z | ⟨q1, q2⟩ <;> exact (show False from h).elim
  · rcases v2 with z | z | z | z | ⟨q1, q2⟩ <;> rcases v with y | y | y | y | ⟨y1, y2⟩ <;> first | exact (show False from h).elim | skip
    obtain ⟨hb, h2⟩ := cond_inv h
    rw [Bool.and_eq_true] at hb
    obtain rfl : q2 = 0 := beq1 hb.2
    exact ⟨q1, y, r, rfl, lk_in hb.1, h2⟩
theorem pr_3 (h : mPrim 503 (stk.take 2).reverse st post) : ∃ k x r, stk = mr (mEk k) x :: mr k 0 :: r ∧ (20 ≤ k ∧ k < 24) ∧ (sL st k).length ≤ 32 ∧ post (.inl (some (mi 1))) (putL st k (sL st k ++ [x])) := by
  rcases stk with _ | ⟨v, _ | ⟨v2, r⟩⟩
  · exact (show False from h).elim
  · rcases v with z | z | z | z | ⟨q1, q2⟩ <;> exact (show False from h).elim
  · rcases v2 with z | z | z | z | ⟨q1, q2⟩ <;> rcases v with y | y | y | y | ⟨y1, y2⟩ <;> first | exact (show False from h).elim | skip
    obtain ⟨hb, h2⟩ := cond_inv h
    rw [Bool.and_eq_true, Bool.and_eq_true] at hb
    obtain rfl : q2 = 0 := beq1 hb.1.2
    obtain rfl : y1 = mEk q1 := beq1 hb.2
    exact ⟨q1, y2, r, rfl, lk_in hb.1.1, h2⟩
theorem pr_4 (h : mPrim 504 (stk.take 3).reverse st post) : ∃ k j x r, stk = mr (mEk k) x :: mi j :: mr k 0 :: r ∧ (20 ≤ k ∧ k < 24) ∧ (0 ≤ j ∧ j.toNat ≤ (sL st k).length ∧ (sL st k).length ≤ 8) ∧ post (.inl none) (putL st k ((sL st k).take j.toNat ++ x :: (sL st k).drop j.toNat)) := by
  rcases stk with _ | ⟨v, _ | ⟨v2, _ | ⟨v3, r⟩⟩⟩
  · exact (show False from h).elim
  · rcases v with z | z | z | z | ⟨q1, q2⟩ <;> exact (show False from h).elim
  · rcases v2 with z | z | z | z | ⟨q1, q2⟩ <;> rcases v with y | y | y | y | ⟨y1, y2⟩ <;> exact (show False from h).elim
  · rcases v3 with z | z | z | z | ⟨q1, q2⟩ <;> rcases v2 with w | w | w | w | ⟨w1, w2⟩ <;> rcases v with y | y | y | y | ⟨y1, y2⟩ <;> first | exact (show False from h).elim | skip
    obtain ⟨hb, h2⟩ := cond_inv h
    rw [Bool.and_eq_true, Bool.and_eq_true] at hb
    obtain rfl : q2 = 0 := beq1 hb.1.2
    obtain rfl : y1 = mEk q1 := beq1 hb.2
    exact ⟨q1, w, y2, r, rfl, lk_in hb.1.1, h2⟩
end Shapes
