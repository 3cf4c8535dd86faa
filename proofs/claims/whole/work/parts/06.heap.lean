/-! THE SIMULATION: fields, rows, casts -/
def tyF (c : Nat) : FieldType := match c with
  | 1 => .boolean
  | 2 => .char
  | _ => .int
/-- what the tables say of a kind of object -/
def kdOK (k ci : Nat) (fds : List Nat) : Prop := ∃ (C : String) (T : u_T) (N : Nat) (ty0 : Nat → FieldType), vwCl[ci]? = some (C, T, N) ∧ fds.length = N ∧ (∀ w ∈ u_ws C T N, w ∈ lw_good) ∧ (∀ j, j < N → parseFieldDescriptor (T j).2.2.1 = some (ty0 j)) ∧ (∀ a, a < N → ∀ b, b < N → a ≠ b → (T a).2.1 ≠ (T b).2.1) ∧
  (∀ j, j < N → fds[j]? = some 0 → mMut k j = true → (T j).2.2.2 = false ∧ ty0 j = tyF (mFt k j)) ∧ (∀ j, j < N → fds[j]? = some 1 → (T j).2.2.2 = false ∧ ty0 j = .long)
set_option maxRecDepth 100000 in
theorem gw_X0 : ∀ w ∈ u_ws RX0 TX0 6, w ∈ lw_good := by decide +kernel
set_option maxRecDepth 100000 in
theorem gw_X1 : ∀ w ∈ u_ws RX1 TX1 1, w ∈ lw_good := by decide +kernel
set_option maxRecDepth 100000 in
theorem gw_X2 : ∀ w ∈ u_ws RX2 TX2 5, w ∈ lw_good := by decide +kernel
set_option maxRecDepth 100000 in
theorem gw_X3 : ∀ w ∈ u_ws RX3 TX3 9, w ∈ lw_good := by decide +kernel
set_option maxRecDepth 100000 in
theorem gw_X4 : ∀ w ∈ u_ws RX4 TX4 6, w ∈ lw_good := by decide +kernel
set_option maxRecDepth 100000 in
theorem gw_X5 : ∀ w ∈ u_ws RX5 TX5 3, w ∈ lw_good := by decide +kernel
set_option maxRecDepth 100000 in
theorem gw_X6 : ∀ w ∈ u_ws RX6 TX6 8, w ∈ lw_good := by decide +kernel
set_option maxRecDepth 100000 in
theorem gw_X7 : ∀ w ∈ u_ws RX7 TX7 33, w ∈ lw_good := by decide +kernel
set_option maxRecDepth 100000 in
theorem kd_ok {k ci : Nat} {fds : List Nat} (h : mKd k = some (ci, fds)) : kdOK k ci fds := by
  unfold mKd at h
  split at h <;> cases h
  · exact ⟨RX6, TX6, 8, tyX6, rfl, rfl, gw_X6, tyX6_ok, nmX6, by decide +kernel, by decide +kernel⟩
  · exact ⟨RX1, TX1, 1, tyX1, rfl, rfl, gw_X1, tyX1_ok, nmX1, by decide +kernel, by decide +kernel⟩
  · exact ⟨RX1, TX1, 1, tyX1, rfl, rfl, gw_X1, tyX1_ok, nmX1, by decide +kernel, by decide +kernel⟩
  · exact ⟨RX3, TX3, 9, tyX3, rfl, rfl, gw_X3, tyX3_ok, nmX3, by decide +kernel, by decide +kernel⟩
  · exact ⟨RX5, TX5, 3, tyX5, rfl, rfl, gw_X5, tyX5_ok, nmX5, by decide +kernel, by decide +kernel⟩
  · exact ⟨RX4, TX4, 6, tyX4, rfl, rfl, gw_X4, tyX4_ok, nmX4, by decide +kernel, by decide +kernel⟩
  · exact ⟨RX0, TX0, 6, tyX0, rfl, rfl, gw_X0, tyX0_ok, nmX0, by decide +kernel, by decide +kernel⟩
  · exact ⟨RX2, TX2, 5, tyX2, rfl, rfl, gw_X2, tyX2_ok, nmX2, by decide +kernel, by decide +kernel⟩
  · exact ⟨RX7, TX7, 33, tyX7, rfl, rfl, gw_X7, tyX7_ok, nmX7, by decide +kernel, by decide +kernel⟩
/-- what the tables say of a pool -/
def poolOK (own : String) (P : mPool) : Prop :=
  (∀ x ci j, look3 P.1 x = some (ci, j) → ∃ (C : String) (T : u_T) (N : Nat), vwCl[ci]? = some (C, T, N) ∧ j < N ∧ Jvm.Cond.fieldLink own x (T j).1 (T j).2.1 (T j).2.2.1 ∈ lw_good) ∧
  (∀ x ci, look2 P.2.2.1 x = some ci → ∃ (C : String) (T : u_T) (N : Nat), vwCl[ci]? = some (C, T, N) ∧ Jvm.Cond.classLink own x C ∈ lw_good) ∧
  (∀ x v, lookC P.2.2.2.2.1 x = some v → inR v ∧ Jvm.Cond.constant own x (Int32.ofInt v) ∈ lw_good) ∧
  (∀ x v, lookC P.2.2.2.2.2 x = some v → Jvm.Cond.constantLong own x v ∈ lw_good)
theorem kd_no (k : Nat) (h : k = 99 ∨ k = 62 ∨ (24 ≤ k ∧ k < 28) ∨ (20 ≤ k ∧ k < 24)) : mKd k = none := by
  rcases h with rfl | rfl | h | h
  · rfl
  · rfl
  · rcases (show k = 24 ∨ k = 25 ∨ k = 26 ∨ k = 27 by omega) with rfl | rfl | rfl | rfl <;> rfl
  · rcases (show k = 20 ∨ k = 21 ∨ k = 22 ∨ k = 23 by omega) with rfl | rfl | rfl | rfl <;> rfl
theorem ad_no (k : Nat) (h : k = 99 ∨ k = 62 ∨ (24 ≤ k ∧ k < 28) ∨ (20 ≤ k ∧ k < 24)) : mAd k = none := by
  rcases h with rfl | rfl | h | h
  · rfl
  · rfl
  · rcases (show k = 24 ∨ k = 25 ∨ k = 26 ∨ k = 27 by omega) with rfl | rfl | rfl | rfl <;> rfl
  · rcases (show k = 20 ∨ k = 21 ∨ k = 22 ∨ k = 23 by omega) with rfl | rfl | rfl | rfl <;> rfl
/-- a name of a kind of object: it stands -/
theorem kd_in {st : mS} {k i : Nat} {z : Nat × List Nat} (hk : mKd k = some z) (h : vOK st (mr k i)) : k ≠ 99 ∧ k ≠ 62 ∧ i < sN st (mG k) := by
  rcases h with h | h | h
  · rw [kd_no k (Or.inl h)] at hk; cases hk
  · rw [kd_no k (Or.inr (Or.inl h))] at hk; cases hk
  · exact ⟨fun q => (by rw [kd_no k (Or.inl q)] at hk; cases hk), fun q => (by rw [kd_no k (Or.inr (Or.inl q))] at hk; cases hk), h.1⟩
theorem ad_in {st : mS} {k i : Nat} {z : Nat × Nat} (hk : mAd k = some z) (h : vOK st (mr k i)) : k ≠ 99 ∧ k ≠ 62 ∧ i < sN st (mG k) := by
  rcases h with h | h | h
  · rw [ad_no k (Or.inl h)] at hk; cases hk
  · rw [ad_no k (Or.inr (Or.inl h))] at hk; cases hk
  · exact ⟨fun q => (by rw [ad_no k (Or.inl q)] at hk; cases hk), fun q => (by rw [ad_no k (Or.inr (Or.inl q))] at hk; cases hk), h.1⟩
theorem mA_eq {E : mEnv} {La : mLa} {k i : Nat} (h : k ≠ 99) (h2 : k ≠ 62) : mA E La k i = La k i := by unfold mA; rw [if_neg h, if_neg h2]
theorem cell_kd {E : mEnv} {cap : Nat → Nat} {mdc : Nat → Int32} {st : mS} {La : mLa} {k i ci : Nat} {fds : List Nat} (hk : mKd k = some (ci, fds)) (hi : i < sN st (mG k)) :
    mCell E cap mdc st La k i = some (.inr (ci, fds.mapIdx (fun j fd => mR E La (mfv st k i j fd)))) := by
  unfold mCell
  rw [if_neg (by omega), hk]
theorem kd_ad {k : Nat} {z : Nat × Nat} (h : mAd k = some z) : mKd k = none := by
  unfold mAd at h
  split at h <;> first | (cases h; done) | rfl
theorem cell_ad {E : mEnv} {cap : Nat → Nat} {mdc : Nat → Int32} {st : mS} {La : mLa} {k i ty n : Nat} (hk : mAd k = some (ty, n)) (ht : ty < 2) (hi : i < sN st (mG k)) :
    mCell E cap mdc st La k i = some (.inl (eC E ty, n, .inl (fun j => Int32.ofInt (sI st k i j)))) := by
  unfold mCell
  rw [if_neg (by omega), kd_ad hk, hk]
  rcases (show ty = 0 ∨ ty = 1 by omega) with rfl | rfl <;> rfl
theorem cell_ad2 {E : mEnv} {cap : Nat → Nat} {mdc : Nat → Int32} {st : mS} {La : mLa} {k i n : Nat} (hk : mAd k = some (2, n)) (hi : i < sN st (mG k)) :
    mCell E cap mdc st La k i = some (.inl (eC E 2, n, .inr (.inl (sJ st k i)))) := by
  unfold mCell
  rw [if_neg (by omega), kd_ad hk, hk]
  rfl
theorem cell_ad3 {E : mEnv} {cap : Nat → Nat} {mdc : Nat → Int32} {st : mS} {La : mLa} {k i n : Nat} (hk : mAd k = some (3, n)) (hi : i < sN st (mG k)) :
    mCell E cap mdc st La k i = some (.inl (eC E 3, n, .inr (.inr (.inr (.inl (sD st k i)))))) := by
  unfold mCell
  rw [if_neg (by omega), kd_ad hk, hk]
  rfl
theorem one_P {D : va_G} {a : Nat} {e : va_E} {H : Heap} (h : va_at D vwCl (a, e) H) : va_P D vwCl [(a, e)] H := by
  intro k q hk
  match k, hk with
  | 0, hk => cases hk; exact h
theorem mGet_inv {P : mPool} {x k i : Nat} {st : mS} {f : mV → Prop} (h : mGet P x k i st f) : ∃ ci j fds fd, look3 P.1 x = some (ci, j) ∧ mKd k = some (ci, fds) ∧ fds[j]? = some fd ∧ f (mfv st k i j fd) := by
  unfold mGet at h
  split at h
  · rename_i ci j cj fds h1 h2
    obtain ⟨hb, h4⟩ := cond_inv h
    clear h
    have e := Nat.eq_of_beq_eq_true hb
    subst e
    split at h4
    · rename_i fd h3
      exact ⟨_, _, _, _, h1, h2, h3, h4⟩
    · exact h4.elim
  · exact h.elim
theorem mPut_inv {P : mPool} {x k c : Nat} {f : Nat → Prop} (h : mPut P x k c f) : ∃ ci j fds, look3 P.1 x = some (ci, j) ∧ mKd k = some (ci, fds) ∧ fds[j]? = some c ∧ mMut k j = true ∧ f j := by
  unfold mPut at h
  split at h
  · rename_i ci j cj fds h1 h2
    obtain ⟨hb, h4⟩ := cond_inv h
    clear h
    rw [Bool.and_eq_true] at hb
    have e := Nat.eq_of_beq_eq_true hb.1
    subst e
    split at h4
    · rename_i fd h3
      obtain ⟨hc, h5⟩ := cond_inv h4
      have e := Nat.eq_of_beq_eq_true hc
      subst e
      exact ⟨_, _, _, h1, h2, h3, hb.2, h5⟩
    · exact h4.elim
  · exact h.elim
theorem mRow_inv {q : Option (Nat × Nat)} {c : Nat} {j : Int} {f : Prop} (h : mRow q c j f) : ∃ n : Nat, q = some (c, n) ∧ (0 ≤ j ∧ j < n) ∧ f := by
  match q, h with
  | some (z1, z2), h =>
    obtain ⟨hb, h4⟩ := cond_inv h
    have e : z1 = c := Nat.eq_of_beq_eq_true hb
    subst e
    exact ⟨_, rfl, h4⟩
theorem mCast_inv {P : mPool} {x k : Nat} {f : Prop} (h : mCast P x k f) : ∃ ci fds, look2 P.2.2.1 x = some ci ∧ mKd k = some (ci, fds) ∧ f := by
  unfold mCast at h
  split at h
  · rename_i ci cj fds h1 h2
    obtain ⟨hb, h4⟩ := cond_inv h
    have e := Nat.eq_of_beq_eq_true hb
    subst e
    exact ⟨_, _, h1, h2, h4⟩
  · exact h.elim
theorem fds_all {fds : List Nat} {p : Nat → Prop} {j fd : Nat} (h : ∀ z ∈ fds, p z) (hf : fds[j]? = some fd) : p fd := h fd (List.mem_of_getElem? hf)
theorem mKd_fd {k ci j : Nat} {fds : List Nat} {fd : Nat} (hk : mKd k = some (ci, fds)) (hf : fds[j]? = some fd) : 3 ≤ fd → (mG (fd - 3) = mG k ∧ fd - 3 ≠ 99 ∧ ¬ (24 ≤ fd - 3 ∧ fd - 3 < 28)) := by
  unfold mKd at hk
  split at hk <;> cases hk <;> exact fds_all (p := fun fd => 3 ≤ fd → (mG (fd - 3) = mG _ ∧ fd - 3 ≠ 99 ∧ ¬ (24 ≤ fd - 3 ∧ fd - 3 < 28))) (by decide) hf
/-- a field's value is good -/
theorem mfv_ok {E : mEnv} {st : mS} {k i j ci fd : Nat} {fds : List Nat} (hw : mWF E st) (hk : mKd k = some (ci, fds)) (hf : fds[j]? = some fd) (hi : i < sN st (mG k)) (h2 : fd = 2 → mG k = 3) : vOK st (mfv st k i j fd) := by
  match fd, hf, h2 with
  | 0, _, _ => exact hw.1 k i j
  | 1, _, _ => trivial
  | 2, _, h2 =>
    rw [h2 rfl] at hi
    exact Or.inr (Or.inr ⟨hw.2.1 i hi, (by decide : ¬ (24 ≤ 7 ∧ 7 < 28))⟩)
  | n + 3, hf, _ =>
    obtain ⟨e1, e2, e3⟩ := mKd_fd hk hf (by omega)
    rw [Nat.add_sub_cancel] at e1 e2 e3
    exact Or.inr (Or.inr ⟨by show i < sN st (mG n); rw [e1]; exact hi, e3⟩)
theorem mKd_2 {k ci j : Nat} {fds : List Nat} (hk : mKd k = some (ci, fds)) (hf : fds[j]? = some 2) : mG k = 3 := by
  unfold mKd at hk
  split at hk <;> cases hk <;> first | rfl | (have hm := List.mem_of_getElem? hf; exact absurd hm (by decide))
