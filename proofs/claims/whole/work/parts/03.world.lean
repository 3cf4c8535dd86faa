/-! THE WORLD: what the heap holds of a state of the pure machine -/
def lw_good : List Jvm.Cond := lw_tbl.filter goodWord
theorem lw_good_in {w : Jvm.Cond} (h : w ∈ lw_tbl) (g : goodWord w = true) : w ∈ lw_good := List.mem_filter.mpr ⟨h, g⟩
theorem lw_good_good : GoodIn lw_good lw_good := fun w h => ⟨h, good_of_word (List.mem_filter.mp h).2⟩
/-- classes and fields, classes of rows, where the own cells begin, the heap before, ArrayList's empty row, the script, its length -/
abbrev mEnv : Type := va_G × (Nat → ClassId) × Nat × Heap × Nat × Nat × Nat × (Nat → Int32)
abbrev eD (E : mEnv) : va_G := E.1
abbrev eC (E : mEnv) : Nat → ClassId := E.2.1
abbrev eN (E : mEnv) : Nat := E.2.2.1
abbrev eH (E : mEnv) : Heap := E.2.2.2.1
abbrev eE (E : mEnv) : Nat := E.2.2.2.2.1
abbrev eB (E : mEnv) : Nat := E.2.2.2.2.2.1
abbrev eL (E : mEnv) : Nat := E.2.2.2.2.2.2.1
abbrev eX (E : mEnv) : Nat → Int32 := E.2.2.2.2.2.2.2
abbrev mLa : Type := Nat → Nat → Nat
def mA (E : mEnv) (La : mLa) (k i : Nat) : Nat := if k = 99 then i else if k = 62 then eB E else La k i
def mR (E : mEnv) (La : mLa) (v : mV) : Value := match v with
  | .inl x => .int (Int32.ofInt x)
  | .inr (.inl x) => .long x
  | .inr (.inr (.inl x)) => .float x
  | .inr (.inr (.inr (.inl x))) => .double x
  | .inr (.inr (.inr (.inr q))) => .ref (mA E La q.1 q.2)
def mCell (E : mEnv) (cap : Nat → Nat) (mdc : Nat → Int32) (st : mS) (La : mLa) (k i : Nat) : Option va_E :=
  if sN st (mG k) ≤ i then none else
  match mKd k with
  | some (ci, fds) => some (.inr (ci, fds.mapIdx (fun j fd => mR E La (mfv st k i j fd))))
  | none => match mAd k with
    | some (2, n) => some (.inl (eC E 2, n, .inr (.inl (sJ st k i))))
    | some (3, n) => some (.inl (eC E 3, n, .inr (.inr (.inr (.inl (sD st k i))))))
    | some (ty, n) => some (.inl (eC E ty, n, .inl (fun j => Int32.ofInt (sI st k i j))))
    | none => if 20 ≤ k ∧ k < 24 ∧ i = 0 then some (.inr (3, [.int (mdc k), .ref (if cap k = 0 then eE E else La (k + 4) 0), .int (Int32.ofNat (sL st k).length)]))
      else if 24 ≤ k ∧ k < 28 ∧ i = 0 ∧ cap (k - 4) ≠ 0 then some (.inl (eC E 4, cap (k - 4), .inr (.inr (.inr (.inr (fun j => ((sL st (k - 4))[j]?).map (La (mEk (k - 4)))))))))
      else none
/-- the part of a world that speaks of the cells -/
def mCells (E : mEnv) (st : mS) (La : mLa) (H : Heap) : Prop := ∃ (cap : Nat → Nat) (mdc : Nat → Int32), (∀ k, 20 ≤ k → k < 24 → (sL st k).length ≤ cap k ∧ cap k ≤ 64) ∧
  (∀ k i e, mCell E cap mdc st La k i = some e → eN E ≤ La k i ∧ va_at (eD E) vwCl (La k i, e) H) ∧
  (∀ k i k' i' e e', mCell E cap mdc st La k i = some e → mCell E cap mdc st La k' i' = some e' → La k i = La k' i' → k = k' ∧ i = i')
def mWF (E : mEnv) (st : mS) : Prop := (∀ k i j, inR (sI st k i j)) ∧ (∀ i, i < sN st 3 → sR st i < sN st 2) ∧ (∀ k x, x ∈ sL st k → x < sN st (mG (mEk k))) ∧ (sN st 62 = eL E ∧ eL E < 2 ^ 31) ∧ ∀ i j, j < eL E → sI st 62 i j = (eX E j).toInt
def mBase (E : mEnv) (H : Heap) : Prop := eN E ≤ H.size ∧ ∀ q, q < eN E → H[q]? = (eH E)[q]?
def mWorld (E : mEnv) (st : mS) (La : mLa) (H : Heap) : Prop := mBase E H ∧ mWF E st ∧ mCells E st La H
def vOK (st : mS) (v : mV) : Prop := match v with
  | .inl z => inR z
  | .inr (.inr (.inr (.inr q))) => q.1 = 99 ∨ q.1 = 62 ∨ (q.2 < sN st (mG q.1) ∧ ¬ (24 ≤ q.1 ∧ q.1 < 28))
  | _ => True
def mExt (st0 : mS) (La0 La : mLa) : Prop := ∀ k i, i < sN st0 (mG k) → ¬ (24 ≤ k ∧ k < 28) → La k i = La0 k i
def mMono (st0 st : mS) : Prop := ∀ g, sN st0 g ≤ sN st g
theorem vOK.mono {st0 st : mS} (h : mMono st0 st) {v : mV} (hv : vOK st0 v) : vOK st v := by
  match v, hv with
  | .inl z, hv => exact hv
  | .inr (.inl _), _ => trivial
  | .inr (.inr (.inl _)), _ => trivial
  | .inr (.inr (.inr (.inl _))), _ => trivial
  | .inr (.inr (.inr (.inr q))), hv =>
    rcases hv with h1 | h1 | ⟨h1, h2⟩
    · exact Or.inl h1
    · exact Or.inr (Or.inl h1)
    · exact Or.inr (Or.inr ⟨Nat.lt_of_lt_of_le h1 (h _), h2⟩)
theorem mR_ext {E : mEnv} {st0 : mS} {La0 La : mLa} (h : mExt st0 La0 La) {v : mV} (hv : vOK st0 v) : mR E La v = mR E La0 v := by
  match v, hv with
  | .inl z, hv => rfl
  | .inr (.inl _), _ => rfl
  | .inr (.inr (.inl _)), _ => rfl
  | .inr (.inr (.inr (.inl _))), _ => rfl
  | .inr (.inr (.inr (.inr q))), hv =>
    show Value.ref _ = Value.ref _
    unfold mA
    rcases hv with h1 | h1 | ⟨h1, h2⟩
    · rw [if_pos h1, if_pos h1]
    · by_cases h9 : q.1 = 99
      · rw [if_pos h9, if_pos h9]
      · rw [if_neg h9, if_neg h9, if_pos h1, if_pos h1]
    · rw [h _ _ h1 h2]
theorem mcat_R (E : mEnv) (La : mLa) (v : mV) : (mR E La v).category = mcat v := by
  match v with
  | .inl z => rfl
  | .inr (.inl _) => rfl
  | .inr (.inr (.inl _)) => rfl
  | .inr (.inr (.inr (.inl _))) => rfl
  | .inr (.inr (.inr (.inr q))) => rfl
theorem mroom_R {E : mEnv} {La : mLa} {st : List mV} (h : mroom st = true) : ((st.map (mR E La)).map fun v => v.category).sum ≤ 8 := by
  have h1 : (st.map mcat).sum ≤ 8 := Nat.le_of_ble_eq_true h
  have h2 : (st.map (mR E La)).map (fun v => v.category) = st.map mcat := by
    rw [List.map_map]
    exact List.map_congr_left fun v _ => mcat_R E La v
  rw [h2]; exact h1
theorem i32_toInt {z : Int} (h : inR z) : (Int32.ofInt z).toInt = z := by
  obtain ⟨h1, h2⟩ := h
  exact Int32.toInt_ofInt_of_le (by omega) (by omega)
theorem i32_inR (x : Int32) : inR x.toInt := ⟨by have := Int32.le_toInt x; omega, by have := Int32.toInt_lt x; omega⟩
theorem i32_of (x : Int32) : Int32.ofInt x.toInt = x := Int32.ofInt_toInt x
theorem i32_lt {a b : Int} (ha : inR a) (hb : inR b) : Int32.ofInt a < Int32.ofInt b ↔ a < b := by rw [Int32.lt_iff_toInt_lt, i32_toInt ha, i32_toInt hb]
theorem i32_le {a b : Int} (ha : inR a) (hb : inR b) : Int32.ofInt a ≤ Int32.ofInt b ↔ a ≤ b := by rw [Int32.le_iff_toInt_le, i32_toInt ha, i32_toInt hb]
theorem i32_eq {a b : Int} (ha : inR a) (hb : inR b) : Int32.ofInt a = Int32.ofInt b ↔ a = b := by rw [← Int32.toInt_inj, i32_toInt ha, i32_toInt hb]
theorem i32_0 : inR 0 := by unfold inR; decide
theorem i32_idx {j : Int} {n : Nat} (h0 : 0 ≤ j) (h1 : j < n) (hj : inR j) : vp_in (Int32.ofInt j) n ∧ (Int32.ofInt j).toNatClampNeg = j.toNat := by
  have h := i32_toInt hj
  refine ⟨vp_in_iff.mpr ?_, ?_⟩
  · rw [h]; exact ⟨h0, h1⟩
  · show (Int32.ofInt j).toInt.toNat = _
    rw [h]
theorem i32_div {a b : Int} (ha : 0 ≤ a) (hb : 0 < b) (hA : inR a) (hB : inR b) : Int32.ofInt a / Int32.ofInt b = Int32.ofInt (a / b) := by
  obtain ⟨x, rfl⟩ := Int.eq_ofNat_of_zero_le ha
  obtain ⟨y, rfl⟩ := Int.eq_ofNat_of_zero_le (Int.le_of_lt hb)
  obtain ⟨_, hA⟩ := hA
  obtain ⟨_, hB⟩ := hB
  have h := pk_div (a := x) (d := y) (by omega) (by omega) (by omega)
  exact h
theorem i32_rem {a b : Int} (ha : 0 ≤ a) (hb : 0 < b) (hA : inR a) (hB : inR b) : Int32.ofInt a - Int32.ofInt a / Int32.ofInt b * Int32.ofInt b = Int32.ofInt (a % b) := by
  obtain ⟨x, rfl⟩ := Int.eq_ofNat_of_zero_le ha
  obtain ⟨y, rfl⟩ := Int.eq_ofNat_of_zero_le (Int.le_of_lt hb)
  obtain ⟨_, hA⟩ := hA
  obtain ⟨_, hB⟩ := hB
  have h := pk_rem (a := x) (d := y) (by omega) (by omega) (by omega)
  exact h
theorem i32_ne0 {b : Int} (hb : 0 < b) (hB : inR b) : ¬ Int32.ofInt b = 0 := by
  intro h
  have h2 : Int32.ofInt b = Int32.ofInt 0 := h
  rw [i32_eq hB i32_0] at h2
  omega
