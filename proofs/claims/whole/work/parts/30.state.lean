/-! THE STATE's reads behind writes; counts; bits -/
theorem mdep {d k : Nat} (h : k + 1 ≤ d) : ∃ e, d = e + 1 ∧ k ≤ e := ⟨d - 1, by omega, by omega⟩
theorem inR_of {x : Int} (h1 : -2147483648 ≤ x) (h2 : x ≤ 2147483647) : inR x := ⟨h1, h2⟩
theorem e_nc {n : Nat} : ((no_index (OfNat.ofNat n) : Nat) : Int) = OfNat.ofNat n := (rfl)
section Reads
variable {st : mS} {k i j a b c : Nat} {v : Int} {w : Int64} {z : UInt64} {l : List Nat}
theorem q_II : sI (putI st k i j v) a b c = if a = k ∧ b = i ∧ c = j then v else sI st a b c := (rfl)
theorem q_IJ : sI (putJ st k i j w) = sI st := (rfl)
theorem q_ID : sI (putD st k i j z) = sI st := (rfl)
theorem q_IN : sI (putN st k i) = sI st := (rfl)
theorem q_IR : sI (putR st k i) = sI st := (rfl)
theorem q_IL : sI (putL st k l) = sI st := (rfl)
theorem q_JI : sJ (putI st k i j v) = sJ st := (rfl)
theorem q_JJ : sJ (putJ st k i j w) a b c = if a = k ∧ b = i ∧ c = j then w else sJ st a b c := (rfl)
theorem q_JL : sJ (putL st k l) = sJ st := (rfl)
theorem q_JR : sJ (putR st k i) = sJ st := (rfl)
theorem q_JD : sJ (putD st k i j z) = sJ st := (rfl)
theorem q_DI : sD (putI st k i j v) = sD st := (rfl)
theorem q_DJ : sD (putJ st k i j w) = sD st := (rfl)
theorem q_DL : sD (putL st k l) = sD st := (rfl)
theorem q_NI : sN (putI st k i j v) = sN st := (rfl)
theorem q_NJ : sN (putJ st k i j w) = sN st := (rfl)
theorem q_NL : sN (putL st k l) = sN st := (rfl)
theorem q_ND : sN (putD st k i j z) = sN st := (rfl)
theorem q_RI : sR (putI st k i j v) = sR st := (rfl)
theorem q_RJ : sR (putJ st k i j w) = sR st := (rfl)
theorem q_RL : sR (putL st k l) = sR st := (rfl)
theorem q_RD : sR (putD st k i j z) = sR st := (rfl)
theorem q_LI : sL (putI st k i j v) = sL st := (rfl)
theorem q_LJ : sL (putJ st k i j w) = sL st := (rfl)
theorem q_LD : sL (putD st k i j z) = sL st := (rfl)
theorem q_LL : sL (putL st k l) a = if a = k then l else sL st a := (rfl)
end Reads
/-- bits of a long -/
def dbit (b : Int64) (d : Nat) : Bool := b.toBitVec.getLsbD d
theorem sh_amt : ∀ n : Nat, n < 64 → ((Int32.ofInt (n : Int)).toInt64.toUInt64 &&& Int64.toUInt64 63) = UInt64.ofNat n := by decide +kernel
theorem sh_amt2 : ∀ n : Nat, n < 64 → ((Int32.ofInt (n : Int)).toInt64 &&& 63) = Int64.ofNat n := by decide +kernel
theorem shr_bit (b : Int64) (n d : Nat) (h : n < 64) : dbit ((b.toUInt64 >>> ((Int32.ofInt (n : Int)).toInt64.toUInt64 &&& Int64.toUInt64 63)).toInt64) d = dbit b (n + d) := by
  rw [sh_amt n h]
  unfold dbit
  have e : ((b.toUInt64 >>> UInt64.ofNat n).toInt64).toBitVec = b.toBitVec >>> n := by
    show (b.toUInt64 >>> UInt64.ofNat n).toBitVec = _
    rw [UInt64.toBitVec_shiftRight]
    have e2 : (UInt64.ofNat n).toBitVec % 64 = BitVec.ofNat 64 n := by
      apply BitVec.eq_of_toNat_eq
      simp
      omega
    rw [e2]
    show b.toBitVec >>> (BitVec.ofNat 64 n) = _
    rw [BitVec.ushiftRight_eq']
    congr 1
    simp
    omega
  rw [e, BitVec.getLsbD_ushiftRight]
theorem and1_cmp (x : Int64) : (lg_cmp (x &&& 1) 0).toInt = 0 ↔ dbit x 0 = false := by
  have h0 : (lg_cmp (x &&& 1) 0).toInt = 0 ↔ x &&& 1 = 0 := by
    rw [← lg_cmp_eq]
    constructor
    · intro h; exact Int32.toInt_inj.mp h
    · intro h; rw [h]; rfl
  rw [h0, ← Int64.toBitVec_inj]
  unfold dbit
  constructor
  · intro h
    have := congrArg (fun v => v.getLsbD 0) h
    simp at this
    simpa using this
  · intro h
    apply BitVec.eq_of_getLsbD_eq
    intro i hi
    cases i with
    | zero => simpa using h
    | succ i => simp
theorem shl_bit (n d : Nat) (h : n < 64) (hd : d < 64) : dbit ((1 : Int64) <<< ((Int32.ofInt (n : Int)).toInt64 &&& 63)) d = decide (d = n) := by
  rw [sh_amt2 n h]
  unfold dbit
  have hall : ∀ n, n < 64 → ∀ d, d < 64 → ((1 : Int64) <<< Int64.ofNat n).toBitVec.getLsbD d = decide (d = n) := by decide +kernel
  exact hall n h d hd
theorem or_bit (x y : Int64) (d : Nat) : dbit (x ||| y) d = (dbit x d || dbit y d) := by
  unfold dbit
  rw [Int64.toBitVec_or, BitVec.getLsbD_or]
theorem and_bit (x y : Int64) (d : Nat) : dbit (x &&& y) d = (dbit x d && dbit y d) := by
  unfold dbit
  rw [Int64.toBitVec_and, BitVec.getLsbD_and]
theorem msk_bit (n d : Nat) (h : n < 63) (hd : d < 64) : dbit ((1 : Int64) <<< ((Int32.ofInt (n : Int)).toInt64 &&& 63) - 1) d = decide (d < n) := by
  rw [sh_amt2 n (by omega)]
  have hall : ∀ n, n < 63 → ∀ d, d < 64 → (((1 : Int64) <<< Int64.ofNat n) - 1).toBitVec.getLsbD d = decide (d < n) := by decide +kernel
  exact hall n h d hd
theorem dbit_ge (x : Int64) (d : Nat) (h : 64 ≤ d) : dbit x d = false := by
  unfold dbit
  exact BitVec.getLsbD_of_ge _ _ h
/-- how many of the hours from a on, n of them, keep q -/
noncomputable def cnt (q : Int → Prop) (a : Int) : Nat → Int
  | 0 => 0
  | n + 1 => cnt q a n + @ite _ (q (a + n)) (Classical.propDecidable _) 1 0
theorem cnt_pos1 {q : Int → Prop} {a : Int} {n : Nat} (h : q (a + n)) : cnt q a (n + 1) = cnt q a n + 1 := by
  unfold cnt
  conv => lhs; rw [if_pos h]
  cases n <;> rfl
theorem cnt_neg1 {q : Int → Prop} {a : Int} {n : Nat} (h : ¬ q (a + n)) : cnt q a (n + 1) = cnt q a n := by
  conv => lhs; unfold cnt
  rw [if_neg h, Int.add_zero]
theorem cnt_congr {q r : Int → Prop} {a : Int} : ∀ {n : Nat}, (∀ x, a ≤ x → x < a + n → (q x ↔ r x)) → cnt q a n = cnt r a n
  | 0, _ => rfl
  | n + 1, h => by
    have ih := cnt_congr (n := n) fun x h1 h2 => h x h1 (by omega)
    have hn := h (a + n) (by omega) (by omega)
    by_cases hq : q (a + n)
    · rw [cnt_pos1 hq, cnt_pos1 (hn.mp hq), ih]
    · rw [cnt_neg1 hq, cnt_neg1 (fun z => hq (hn.mpr z)), ih]
theorem cnt_add {q : Int → Prop} {a : Int} {m : Nat} : ∀ {n : Nat}, cnt q a (m + n) = cnt q a m + cnt q (a + m) n
  | 0 => by show _ = cnt q a m + 0; rw [Int.add_zero]; rfl
  | n + 1 => by
    have ih := cnt_add (q := q) (a := a) (m := m) (n := n)
    have e : a + (m : Int) + n = a + ((m + n : Nat) : Int) := by omega
    show cnt q a ((m + n) + 1) = _
    by_cases hq : q (a + ((m + n : Nat) : Int))
    · rw [cnt_pos1 hq, cnt_pos1 (by rw [e]; exact hq), ih]; omega
    · rw [cnt_neg1 hq, cnt_neg1 (by rw [e]; exact hq), ih]
theorem cnt_nonneg {q : Int → Prop} {a : Int} : ∀ {n : Nat}, 0 ≤ cnt q a n
  | 0 => Int.le_refl 0
  | n + 1 => by
    have ih := cnt_nonneg (q := q) (a := a) (n := n)
    by_cases hq : q (a + n)
    · rw [cnt_pos1 hq]; omega
    · rw [cnt_neg1 hq]; exact ih
theorem cnt_le {q : Int → Prop} {a : Int} : ∀ {n : Nat}, cnt q a n ≤ n
  | 0 => Int.le_refl 0
  | n + 1 => by
    have ih := cnt_le (q := q) (a := a) (n := n)
    by_cases hq : q (a + n)
    · rw [cnt_pos1 hq]; omega
    · rw [cnt_neg1 hq]; omega
theorem cnt_none {q : Int → Prop} {a : Int} : ∀ {n : Nat}, (∀ x, a ≤ x → x < a + n → ¬ q x) → cnt q a n = 0
  | 0, _ => rfl
  | n + 1, h => by
    rw [cnt_neg1 (h _ (by omega) (by omega))]
    exact cnt_none fun x h1 h2 => h x h1 (by omega)
theorem cnt_all {q : Int → Prop} {a : Int} : ∀ {n : Nat}, (∀ x, a ≤ x → x < a + n → q x) → cnt q a n = n
  | 0, _ => rfl
  | n + 1, h => by
    rw [cnt_pos1 (h _ (by omega) (by omega)), cnt_all fun x h1 h2 => h x h1 (by omega)]
    omega
theorem cnt_pos {q : Int → Prop} {a : Int} : ∀ {n : Nat}, 0 < cnt q a n ↔ ∃ x, a ≤ x ∧ x < a + n ∧ q x
  | 0 => ⟨fun h => absurd h (by show ¬ (0 : Int) < 0; omega), fun ⟨x, h1, h2, _⟩ => by omega⟩
  | n + 1 => by
    have ih := cnt_pos (q := q) (a := a) (n := n)
    by_cases hq : q (a + n)
    · rw [cnt_pos1 hq]
      exact ⟨fun _ => ⟨_, by omega, by omega, hq⟩, fun _ => by have := cnt_nonneg (q := q) (a := a) (n := n); omega⟩
    · rw [cnt_neg1 hq, ih]
      constructor
      · rintro ⟨x, h1, h2, h3⟩; exact ⟨x, h1, by omega, h3⟩
      · rintro ⟨x, h1, h2, h3⟩
        refine ⟨x, h1, ?_, h3⟩
        by_cases hx : x = a + n
        · exact absurd (hx ▸ h3) hq
        · omega
theorem cnt_mono {q r : Int → Prop} {a : Int} : ∀ {n : Nat}, (∀ x, a ≤ x → x < a + n → q x → r x) → cnt q a n ≤ cnt r a n
  | 0, _ => Int.le_refl 0
  | n + 1, h => by
    have ih := cnt_mono (n := n) fun x h1 h2 => h x h1 (by omega)
    by_cases hq : q (a + n)
    · rw [cnt_pos1 hq, cnt_pos1 (h _ (by omega) (by omega) hq)]; omega
    · rw [cnt_neg1 hq]
      by_cases hr : r (a + n)
      · rw [cnt_pos1 hr]; omega
      · rw [cnt_neg1 hr]; exact ih
theorem cnt_or {q r : Int → Prop} {a : Int} : ∀ {n : Nat}, (∀ x, a ≤ x → x < a + n → ¬ (q x ∧ r x)) → cnt (fun x => q x ∨ r x) a n = cnt q a n + cnt r a n
  | 0, _ => rfl
  | n + 1, h => by
    have ih := cnt_or (q := q) (r := r) (n := n) fun x h1 h2 => h x h1 (by omega)
    have hn := h (a + n) (by omega) (by omega)
    by_cases hq : q (a + n)
    · rw [cnt_pos1 (q := fun x => q x ∨ r x) (Or.inl hq), cnt_pos1 hq, cnt_neg1 (fun z => hn ⟨hq, z⟩), ih]; omega
    · by_cases hr : r (a + n)
      · rw [cnt_pos1 (q := fun x => q x ∨ r x) (Or.inr hr), cnt_neg1 hq, cnt_pos1 hr, ih]; omega
      · rw [cnt_neg1 (q := fun x => q x ∨ r x) (fun z => z.elim hq hr), cnt_neg1 hq, cnt_neg1 hr, ih]
theorem cnt_head {q : Int → Prop} {a : Int} {n : Nat} : cnt q a (n + 1) = cnt q a 1 + cnt q (a + 1) n := by
  rw [show n + 1 = 1 + n from by omega, cnt_add]; rfl
/-- an interval's hours among a window's -/
theorem cnt_iv (f t a : Int) : ∀ n : Nat, cnt (fun x => f ≤ x ∧ x < t) a n = max 0 (min t (a + n) - max f a)
  | 0 => by show (0 : Int) = _; omega
  | n + 1 => by
    have ih := cnt_iv f t a n
    by_cases hq : f ≤ a + n ∧ a + n < t
    · rw [cnt_pos1 (q := fun x => f ≤ x ∧ x < t) hq, ih]; omega
    · rw [cnt_neg1 (q := fun x => f ≤ x ∧ x < t) hq, ih]; omega
/-- a sum of whole numbers, below n -/
def sumN (f : Nat → Int) : Nat → Int
  | 0 => 0
  | n + 1 => sumN f n + f n
theorem sumN_congr {f g : Nat → Int} : ∀ {n : Nat}, (∀ x, x < n → f x = g x) → sumN f n = sumN g n
  | 0, _ => rfl
  | n + 1, h => by
    show sumN f n + f n = sumN g n + g n
    rw [sumN_congr fun x hx => h x (by omega), h n (by omega)]
theorem sumN_add {f g : Nat → Int} : ∀ {n : Nat}, sumN (fun x => f x + g x) n = sumN f n + sumN g n
  | 0 => rfl
  | n + 1 => by
    show sumN (fun x => f x + g x) n + (f n + g n) = sumN f n + f n + (sumN g n + g n)
    rw [sumN_add]; omega
theorem sumN_zero {f : Nat → Int} : ∀ {n : Nat}, (∀ x, x < n → f x = 0) → sumN f n = 0
  | 0, _ => rfl
  | n + 1, h => by
    show sumN f n + f n = 0
    rw [sumN_zero fun x hx => h x (by omega), h n (by omega)]; rfl
theorem sumN_nonneg {f : Nat → Int} : ∀ {n : Nat}, (∀ x, x < n → 0 ≤ f x) → 0 ≤ sumN f n
  | 0, _ => Int.le_refl 0
  | n + 1, h => by
    have := sumN_nonneg (n := n) fun x hx => h x (by omega)
    have := h n (by omega)
    show 0 ≤ sumN f n + f n
    omega
theorem sumN_one {f : Nat → Int} {m : Nat} : ∀ {n : Nat}, m < n → (∀ x, x < n → x ≠ m → f x = 0) → sumN f n = f m
  | 0, h, _ => absurd h (by omega)
  | n + 1, h, hz => by
    show sumN f n + f n = f m
    by_cases hm : m = n
    · subst hm
      rw [sumN_zero fun x hx => hz x (by omega) (by omega)]; omega
    · rw [sumN_one (by omega) fun x hx => hz x (by omega), hz n (by omega) (by omega)]; omega
theorem sumN_le {f g : Nat → Int} : ∀ {n : Nat}, (∀ x, x < n → f x ≤ g x) → sumN f n ≤ sumN g n
  | 0, _ => Int.le_refl 0
  | n + 1, h => by
    have := sumN_le (n := n) fun x hx => h x (by omega)
    have := h n (by omega)
    show sumN f n + f n ≤ sumN g n + g n
    omega
theorem sumN_term {f : Nat → Int} {m n : Nat} (hm : m < n) (h : ∀ x, x < n → 0 ≤ f x) : f m ≤ sumN f n := by
  have h1 : sumN (fun x => if x = m then f m else 0) n = f m := by
    have := sumN_one (f := fun x => if x = m then f m else 0) hm (fun x _ hx => if_neg hx)
    rw [this]; exact if_pos rfl
  rw [← h1]
  refine sumN_le fun x hx => ?_
  by_cases e : x = m
  · subst e; rw [if_pos rfl]; exact Int.le_refl _
  · rw [if_neg e]; exact h x hx
