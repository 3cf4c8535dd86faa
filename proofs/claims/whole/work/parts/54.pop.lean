/-! HOW MANY BITS a long has -/
def pMk (c : Nat) : Nat → Nat
  | 0 => 0
  | k + 1 => c + 256 * pMk c k
def pAa (k N : Nat) : Nat := N - (N / 2 &&& pMk 85 k)
def pBb (k N : Nat) : Nat := (N &&& pMk 51 k) + (N / 4 &&& pMk 51 k)
def pCc (k N : Nat) : Nat := (N + N / 16) &&& pMk 15 k
def pop8 (b : Nat) : Nat := b % 2 + b / 2 % 2 + b / 4 % 2 + b / 8 % 2 + b / 16 % 2 + b / 32 % 2 + b / 64 % 2 + b / 128 % 2
def pSs : Nat → Nat → Nat
  | 0, _ => 0
  | k + 1, N => pop8 (N % 256) + 256 * pSs k (N / 256)
set_option maxHeartbeats 4000000 in
set_option maxRecDepth 20000 in
theorem and_split {a c y m : Nat} (ha : a < 256) (hc : c < 256) : (a + 256 * y) &&& (c + 256 * m) = (a &&& c) + 256 * (y &&& m) := by
  have h1 := Nat.and_div_two_pow (a := a + 256 * y) (b := c + 256 * m) (n := 8)
  have h2 := Nat.and_mod_two_pow (a := a + 256 * y) (b := c + 256 * m) (n := 8)
  rw [show 2 ^ 8 = 256 from rfl] at h1 h2
  rw [show (a + 256 * y) / 256 = y by omega, show (c + 256 * m) / 256 = m by omega] at h1
  rw [show (a + 256 * y) % 256 = a by omega, show (c + 256 * m) % 256 = c by omega] at h2
  rw [← h1, ← h2]
  omega
set_option maxHeartbeats 4000000 in
set_option maxRecDepth 20000 in
theorem pop_d1 : ∀ b, b < 256 → ∀ t, t < 2 → (b / 2 + 128 * t) &&& 85 = b / 2 &&& 85 := by decide +kernel
set_option maxHeartbeats 4000000 in
set_option maxRecDepth 20000 in
theorem pop_d2 : ∀ c, c < 256 → ∀ t, t < 4 → (c / 4 + 64 * t) &&& 51 = c / 4 &&& 51 := by decide +kernel
set_option maxHeartbeats 4000000 in
set_option maxRecDepth 20000 in
theorem pop_d3 : ∀ e, e < 69 → ∀ t, t < 5 → (e + e / 16 + 16 * t) &&& 15 = (e + e / 16) &&& 15 := by decide +kernel
def pg1 (b : Nat) : Nat := b - (b / 2 &&& 85)
def pg2 (c : Nat) : Nat := (c &&& 51) + (c / 4 &&& 51)
set_option maxHeartbeats 4000000 in
set_option maxRecDepth 20000 in
theorem pop_d4 : ∀ b, b < 256 → (b / 2 &&& 85) ≤ b ∧ pg1 b < 256 ∧ pg2 (pg1 b) < 69 ∧ pg2 (pg1 b) % 16 < 5 ∧ (pg2 (pg1 b) + pg2 (pg1 b) / 16) &&& 15 = pop8 b := by decide +kernel
set_option maxHeartbeats 4000000 in
set_option maxRecDepth 20000 in
theorem pA_s {k b y : Nat} (hb : b < 256) : pAa (k + 1) (b + 256 * y) = pg1 b + 256 * pAa k y := by
  unfold pAa pg1
  have e : (b + 256 * y) / 2 = (b / 2 + 128 * (y % 2)) + 256 * (y / 2) := by omega
  show b + 256 * y - ((b + 256 * y) / 2 &&& (85 + 256 * pMk 85 k)) = _
  rw [e, and_split (by omega) (by omega), pop_d1 b hb _ (by omega)]
  have h1 := (pop_d4 b hb).1
  have h2 : y / 2 &&& pMk 85 k ≤ y / 2 := Nat.and_le_left
  omega
set_option maxHeartbeats 4000000 in
set_option maxRecDepth 20000 in
theorem pB_s {k c z : Nat} (hc : c < 256) : pBb (k + 1) (c + 256 * z) = pg2 c + 256 * pBb k z := by
  unfold pBb pg2
  have e : (c + 256 * z) / 4 = (c / 4 + 64 * (z % 4)) + 256 * (z / 4) := by omega
  show ((c + 256 * z) &&& (51 + 256 * pMk 51 k)) + ((c + 256 * z) / 4 &&& (51 + 256 * pMk 51 k)) = _
  rw [e, and_split hc (by omega), and_split (by omega) (by omega), pop_d2 c hc _ (by omega)]
  omega
set_option maxHeartbeats 4000000 in
set_option maxRecDepth 20000 in
theorem pC_s {k e w : Nat} (he : e < 69) (hw : w % 16 < 5) : pCc (k + 1) (e + 256 * w) = ((e + e / 16) &&& 15) + 256 * pCc k w := by
  unfold pCc
  have h : (e + 256 * w) + (e + 256 * w) / 16 = (e + e / 16 + 16 * (w % 16)) + 256 * (w + w / 16) := by omega
  show ((e + 256 * w) + (e + 256 * w) / 16) &&& (15 + 256 * pMk 15 k) = _
  rw [h, and_split (by omega) (by omega), pop_d3 e he _ hw]
set_option maxHeartbeats 4000000 in
set_option maxRecDepth 20000 in
theorem pop_m : ∀ k N, pCc k (pBb k (pAa k N)) = pSs k N ∧ pBb k (pAa k N) % 16 < 5
  | 0, N => by
    have e : pBb 0 (pAa 0 N) = 0 := by
      show (pAa 0 N &&& 0) + (pAa 0 N / 4 &&& 0) = 0
      rw [Nat.and_zero, Nat.and_zero]
    rw [e]
    exact ⟨Nat.and_zero _, by omega⟩
  | k + 1, N => by
    obtain ⟨i1, i2⟩ := pop_m k (N / 256)
    obtain ⟨d1, d2, d3, d4, d5⟩ := pop_d4 (N % 256) (by omega)
    have e1 : pAa (k + 1) N = pg1 (N % 256) + 256 * pAa k (N / 256) := by
      rw [← pA_s (by omega)]
      congr 1; omega
    rw [e1, pB_s d2]
    refine ⟨?_, by omega⟩
    rw [pC_s d3 i2, i1, d5]
    rfl
set_option maxHeartbeats 4000000 in
set_option maxRecDepth 20000 in
theorem pop8_le : ∀ b, pop8 b ≤ 8 := by unfold pop8; omega
set_option maxHeartbeats 4000000 in
set_option maxRecDepth 20000 in
theorem pop_sum {N : Nat} : pSs 8 N = pop8 (N % 256) + 256 * (pop8 (N / 256 % 256) + 256 * (pop8 (N / 256 / 256 % 256) + 256 * (pop8 (N / 256 / 256 / 256 % 256) + 256 * (pop8 (N / 256 / 256 / 256 / 256 % 256) + 256 * (pop8 (N / 256 / 256 / 256 / 256 / 256 % 256) + 256 * (pop8 (N / 256 / 256 / 256 / 256 / 256 / 256 % 256) + 256 * (pop8 (N / 256 / 256 / 256 / 256 / 256 / 256 / 256 % 256) + 256 * 0))))))) := rfl
def popN (N : Nat) : Nat := pop8 (N % 256) + pop8 (N / 256 % 256) + pop8 (N / 256 / 256 % 256) + pop8 (N / 256 / 256 / 256 % 256) + pop8 (N / 256 / 256 / 256 / 256 % 256) + pop8 (N / 256 / 256 / 256 / 256 / 256 % 256) + pop8 (N / 256 / 256 / 256 / 256 / 256 / 256 % 256) + pop8 (N / 256 / 256 / 256 / 256 / 256 / 256 / 256 % 256)
set_option maxHeartbeats 4000000 in
set_option maxRecDepth 20000 in
theorem pop_fin {n3 n4 n5 n6 N : Nat} (h3 : n3 = pSs 8 N) (h4 : n4 = n3 + n3 / 256) (h5 : n5 = n4 + n4 / 65536) (h6 : n6 = n5 + n5 / 4294967296) : n3 < 2 ^ 60 ∧ n4 < 2 ^ 61 ∧ n5 < 2 ^ 62 ∧ n6 < 2 ^ 63 ∧ n6 % 128 = popN N ∧ popN N ≤ 64 := by
  rw [pop_sum] at h3
  unfold popN
  have a0 := pop8_le (N % 256)
  have a1 := pop8_le (N / 256 % 256)
  have a2 := pop8_le (N / 256 / 256 % 256)
  have a3 := pop8_le (N / 256 / 256 / 256 % 256)
  have a4 := pop8_le (N / 256 / 256 / 256 / 256 % 256)
  have a5 := pop8_le (N / 256 / 256 / 256 / 256 / 256 % 256)
  have a6 := pop8_le (N / 256 / 256 / 256 / 256 / 256 / 256 % 256)
  have a7 := pop8_le (N / 256 / 256 / 256 / 256 / 256 / 256 / 256 % 256)
  generalize pop8 (N % 256) = p0 at *
  generalize pop8 (N / 256 % 256) = p1 at *
  generalize pop8 (N / 256 / 256 % 256) = p2 at *
  generalize pop8 (N / 256 / 256 / 256 % 256) = p3 at *
  generalize pop8 (N / 256 / 256 / 256 / 256 % 256) = p4 at *
  generalize pop8 (N / 256 / 256 / 256 / 256 / 256 % 256) = p5 at *
  generalize pop8 (N / 256 / 256 / 256 / 256 / 256 / 256 % 256) = p6 at *
  generalize pop8 (N / 256 / 256 / 256 / 256 / 256 / 256 / 256 % 256) = p7 at *
  refine ⟨by omega, by omega, by omega, by omega, ?_, by omega⟩
  have e4 : n4 = (p0 + p1) + 256 * ((p1 + p2) + 256 * ((p2 + p3) + 256 * ((p3 + p4) + 256 * ((p4 + p5) + 256 * ((p5 + p6) + 256 * ((p6 + p7) + 256 * p7)))))) := by omega
  have e5 : n5 = (p0 + p1 + p2 + p3) + 256 * ((p1 + p2 + p3 + p4) + 256 * ((p2 + p3 + p4 + p5) + 256 * ((p3 + p4 + p5 + p6) + 256 * ((p4 + p5 + p6 + p7) + 256 * ((p5 + p6 + p7) + 256 * ((p6 + p7) + 256 * p7)))))) := by omega
  obtain ⟨a0, b0⟩ : ∃ a, a = p0 + p1 + p2 + p3 := ⟨_, rfl⟩
  obtain ⟨a1, b1⟩ : ∃ a, a = p1 + p2 + p3 + p4 := ⟨_, rfl⟩
  obtain ⟨a2, b2⟩ : ∃ a, a = p2 + p3 + p4 + p5 := ⟨_, rfl⟩
  obtain ⟨a3, b3⟩ : ∃ a, a = p3 + p4 + p5 + p6 := ⟨_, rfl⟩
  obtain ⟨a4, b4⟩ : ∃ a, a = p4 + p5 + p6 + p7 := ⟨_, rfl⟩
  obtain ⟨a5, b5⟩ : ∃ a, a = p5 + p6 + p7 := ⟨_, rfl⟩
  obtain ⟨a6, b6⟩ : ∃ a, a = p6 + p7 := ⟨_, rfl⟩
  rw [← b0, ← b1, ← b2, ← b3, ← b4, ← b5, ← b6] at e5
  have c : a0 ≤ 32 ∧ a1 ≤ 32 ∧ a2 ≤ 32 ∧ a3 ≤ 32 ∧ a4 ≤ 32 := by clear e5 e4 h3 h4 h5 h6; omega
  have d : p0 + p1 + p2 + p3 + p4 + p5 + p6 + p7 = a0 + a4 ∧ a0 + a4 ≤ 64 := by clear e5 e4 h3 h4 h5 h6; omega
  rw [d.1]
  clear e4 h4 h3 b0 b1 b2 b3 b4 b5 b6 d h5
  obtain ⟨u, hu⟩ : ∃ u, u = a0 + 256 * (a1 + 256 * (a2 + 256 * a3)) := ⟨_, rfl⟩
  obtain ⟨w, hw⟩ : ∃ w, w = a4 + 256 * (a5 + 256 * (a6 + 256 * p7)) := ⟨_, rfl⟩
  have hu2 : u < 4294967296 := by clear e5 h6 hw; omega
  have hn : n5 = u + 4294967296 * w := by clear h6 hu2; omega
  have hq : n5 / 4294967296 = w := by clear h6 e5 hu hw; omega
  rw [hq, hn] at h6
  clear hn
  obtain ⟨U, hU⟩ : ∃ U, U = a1 + 256 * (a2 + 256 * a3) := ⟨_, rfl⟩
  obtain ⟨V, hV⟩ : ∃ V, V = a5 + 256 * (a6 + 256 * p7) := ⟨_, rfl⟩
  rw [← hU] at hu
  rw [← hV] at hw
  obtain ⟨K, hK⟩ : ∃ K, K = U + 16777216 * w + V := ⟨_, rfl⟩
  have h7 : n6 = (a0 + a4) + 256 * K := by clear hu2 hq hU hV; omega
  clear h6 hu hw hK hq hU hV e5; omega
/-- the sum of the bits -/
def bitN (N e : Nat) : Nat := N / 2 ^ e % 2
set_option maxHeartbeats 4000000 in
set_option maxRecDepth 20000 in
theorem pop8_bits {N i : Nat} (k : Nat) (hk : N / 2 ^ k = i) : pop8 (i % 256) = bitN N k + bitN N (k + 1) + bitN N (k + 2) + bitN N (k + 3) + bitN N (k + 4) + bitN N (k + 5) + bitN N (k + 6) + bitN N (k + 7) := by
  unfold bitN pop8
  simp only [Nat.pow_add, ← Nat.div_div_eq_div_mul, hk]
  omega
def sumB (f : Nat → Nat) : Nat → Nat
  | 0 => 0
  | n + 1 => sumB f n + f n
set_option maxHeartbeats 4000000 in
set_option maxRecDepth 20000 in
theorem popN_bits (N : Nat) : popN N = sumB (bitN N) 64 := by
  unfold popN
  have q : ∀ k : Nat, N / 2 ^ (k + 8) = N / 2 ^ k / 256 := fun k => by rw [Nat.pow_add, ← Nat.div_div_eq_div_mul]
  have h0 : N / 2 ^ 0 = N := by rw [Nat.pow_zero, Nat.div_one]
  have h8 := (q 0).trans (congrArg (· / 256) h0)
  have h16 := (q (0 + 8)).trans (congrArg (· / 256) h8)
  have h24 := (q (0 + 8 + 8)).trans (congrArg (· / 256) h16)
  have h32 := (q (0 + 8 + 8 + 8)).trans (congrArg (· / 256) h24)
  have h40 := (q (0 + 8 + 8 + 8 + 8)).trans (congrArg (· / 256) h32)
  have h48 := (q (0 + 8 + 8 + 8 + 8 + 8)).trans (congrArg (· / 256) h40)
  have h56 := (q (0 + 8 + 8 + 8 + 8 + 8 + 8)).trans (congrArg (· / 256) h48)
  rw [pop8_bits _ h56, pop8_bits _ h48, pop8_bits _ h40, pop8_bits _ h32, pop8_bits _ h24, pop8_bits _ h16, pop8_bits _ h8, pop8_bits _ h0]
  simp only [sumB, Nat.reduceAdd, Nat.zero_add, ← Nat.add_assoc]
set_option maxHeartbeats 4000000 in
set_option maxRecDepth 20000 in
theorem dbit_bitN (x : Int64) (e : Nat) : (if dbit x e = true then 1 else 0) = bitN x.toBitVec.toNat e := by
  unfold dbit bitN
  rw [BitVec.getLsbD, Nat.testBit_eq_decide_div_mod_eq]
  by_cases h : x.toBitVec.toNat / 2 ^ e % 2 = 1
  · simp [h]
  · simp [h]; omega
/-- the shift that a long's bits take -/
def shr64 (x : Int64) (n : Int) : Int64 := (x.toUInt64 >>> ((Int32.ofInt n).toInt64.toUInt64 &&& Int64.toUInt64 63)).toInt64
set_option maxHeartbeats 4000000 in
set_option maxRecDepth 20000 in
theorem shr64_nat (b : Int64) (n : Nat) (h : n < 64) : (shr64 b (n : Int)).toBitVec.toNat = b.toBitVec.toNat / 2 ^ n := by
  have e : (shr64 b (n : Int)).toBitVec = b.toBitVec >>> n := by
    apply BitVec.eq_of_getLsbD_eq
    intro i hi
    have := shr_bit b n i h
    unfold dbit at this
    rw [BitVec.getLsbD_ushiftRight]
    exact this
  rw [e, BitVec.toNat_ushiftRight, Nat.shiftRight_eq_div_pow]
def popX (x : Int64) : Int :=
  let x1 := x - (shr64 x 1 &&& 6148914691236517205)
  let x2 := (x1 &&& 3689348814741910323) + (shr64 x1 2 &&& 3689348814741910323)
  let x3 := (x2 + shr64 x2 4) &&& 1085102592571150095
  let x4 := x3 + shr64 x3 8
  let x5 := x4 + shr64 x4 16
  let x6 := x5 + shr64 x5 32
  bAnd x6.toInt32.toInt 127
set_option maxHeartbeats 4000000 in
set_option maxRecDepth 20000 in
theorem and64_nat (a b : Int64) : (a &&& b).toBitVec.toNat = (a.toBitVec.toNat &&& b.toBitVec.toNat) := by rw [Int64.toBitVec_and, BitVec.toNat_and]
set_option maxHeartbeats 4000000 in
set_option maxRecDepth 20000 in
theorem add64_nat {a b : Int64} (h : a.toBitVec.toNat + b.toBitVec.toNat < 2 ^ 64) : (a + b).toBitVec.toNat = a.toBitVec.toNat + b.toBitVec.toNat := by rw [Int64.toBitVec_add, BitVec.toNat_add, Nat.mod_eq_of_lt h]
set_option maxHeartbeats 4000000 in
set_option maxRecDepth 20000 in
theorem sub64_nat {a b : Int64} (h : b.toBitVec.toNat ≤ a.toBitVec.toNat) : (a - b).toBitVec.toNat = a.toBitVec.toNat - b.toBitVec.toNat := by rw [Int64.toBitVec_sub, BitVec.toNat_sub_of_le h]
set_option maxHeartbeats 4000000 in
set_option maxRecDepth 20000 in
theorem popX_eq (x : Int64) : popX x = ((sumB (fun e => if dbit x e = true then 1 else 0) 64 : Nat) : Int) := by
  obtain ⟨N, hN⟩ : ∃ N, N = x.toBitVec.toNat := ⟨_, rfl⟩
  obtain ⟨x1, h1⟩ : ∃ y, y = x - (shr64 x 1 &&& 6148914691236517205) := ⟨_, rfl⟩
  obtain ⟨x2, h2⟩ : ∃ y, y = (x1 &&& 3689348814741910323) + (shr64 x1 2 &&& 3689348814741910323) := ⟨_, rfl⟩
  obtain ⟨x3, h3⟩ : ∃ y, y = (x2 + shr64 x2 4) &&& 1085102592571150095 := ⟨_, rfl⟩
  obtain ⟨x4, h4⟩ : ∃ y, y = x3 + shr64 x3 8 := ⟨_, rfl⟩
  obtain ⟨x5, h5⟩ : ∃ y, y = x4 + shr64 x4 16 := ⟨_, rfl⟩
  obtain ⟨x6, h6⟩ : ∃ y, y = x5 + shr64 x5 32 := ⟨_, rfl⟩
  have e : popX x = bAnd x6.toInt32.toInt 127 := by rw [h6, h5, h4, h3, h2, h1]; rfl
  have m85 : (6148914691236517205 : Int64).toBitVec.toNat = pMk 85 8 := by decide +kernel
  have m51 : (3689348814741910323 : Int64).toBitVec.toNat = pMk 51 8 := by decide +kernel
  have m15 : (1085102592571150095 : Int64).toBitVec.toNat = pMk 15 8 := by decide +kernel
  have v51 : pMk 51 8 = 3689348814741910323 := by decide +kernel
  have s1 := shr64_nat x 1 (by omega)
  have s2 := shr64_nat x1 2 (by omega)
  have s4 := shr64_nat x2 4 (by omega)
  have s8 := shr64_nat x3 8 (by omega)
  have s16 := shr64_nat x4 16 (by omega)
  have s32 := shr64_nat x5 32 (by omega)
  have n1 : x1.toBitVec.toNat = pAa 8 N := by
    have hl : (shr64 x 1 &&& 6148914691236517205).toBitVec.toNat = (N / 2 &&& pMk 85 8) := by rw [and64_nat, m85, hN]; exact congrArg (· &&& pMk 85 8) s1
    have : N / 2 &&& pMk 85 8 ≤ N / 2 := Nat.and_le_left
    rw [h1, sub64_nat (by rw [hl, ← hN]; omega), hl, ← hN]; rfl
  have n2 : x2.toBitVec.toNat = pBb 8 (pAa 8 N) := by
    have a1 : (x1 &&& 3689348814741910323).toBitVec.toNat = (pAa 8 N &&& pMk 51 8) := by rw [and64_nat, m51, n1]
    have a2 : (shr64 x1 2 &&& 3689348814741910323).toBitVec.toNat = (pAa 8 N / 4 &&& pMk 51 8) := by rw [and64_nat, m51, ← n1]; exact congrArg (· &&& pMk 51 8) s2
    have b1 : pAa 8 N &&& pMk 51 8 ≤ pMk 51 8 := Nat.and_le_right
    have b2 : pAa 8 N / 4 &&& pMk 51 8 ≤ pMk 51 8 := Nat.and_le_right
    rw [h2, add64_nat (by rw [a1, a2]; omega), a1, a2]; rfl
  have l2 : pBb 8 (pAa 8 N) ≤ 2 * pMk 51 8 := by
    have b1 : pAa 8 N &&& pMk 51 8 ≤ pMk 51 8 := Nat.and_le_right
    have b2 : pAa 8 N / 4 &&& pMk 51 8 ≤ pMk 51 8 := Nat.and_le_right
    show (pAa 8 N &&& pMk 51 8) + (pAa 8 N / 4 &&& pMk 51 8) ≤ _
    omega
  have s4' : (shr64 x2 4).toBitVec.toNat = pBb 8 (pAa 8 N) / 16 := by rw [← n2]; exact s4
  have n3 : x3.toBitVec.toNat = pSs 8 N := by
    rw [h3, and64_nat, m15, add64_nat (by rw [n2, s4']; omega), n2, s4', ← (pop_m 8 N).1]; rfl
  obtain ⟨f3, f4, f5, f6, f7, f8⟩ := pop_fin (N := N) (n3 := pSs 8 N) rfl rfl rfl rfl
  have s8' : (shr64 x3 8).toBitVec.toNat = pSs 8 N / 256 := by rw [← n3]; exact s8
  have n4 : x4.toBitVec.toNat = pSs 8 N + pSs 8 N / 256 := by rw [h4, add64_nat (by rw [n3, s8']; omega), n3, s8']
  have s16' : (shr64 x4 16).toBitVec.toNat = (pSs 8 N + pSs 8 N / 256) / 65536 := by rw [← n4]; exact s16
  have n5 : x5.toBitVec.toNat = (pSs 8 N + pSs 8 N / 256) + (pSs 8 N + pSs 8 N / 256) / 65536 := by rw [h5, add64_nat (by rw [n4, s16']; omega), n4, s16']
  have s32' : (shr64 x5 32).toBitVec.toNat = ((pSs 8 N + pSs 8 N / 256) + (pSs 8 N + pSs 8 N / 256) / 65536) / 4294967296 := by rw [← n5]; exact s32
  have n6 : x6.toBitVec.toNat = (pSs 8 N + pSs 8 N / 256) + (pSs 8 N + pSs 8 N / 256) / 65536 + ((pSs 8 N + pSs 8 N / 256) + (pSs 8 N + pSs 8 N / 256) / 65536) / 4294967296 := by rw [h6, add64_nat (by rw [n5, s32']; omega), n5, s32']
  rw [e]
  unfold bAnd
  rw [i32_of]
  have eb : (x6.toInt32 &&& Int32.ofInt 127).toBitVec.toNat = popN N := by
    rw [Int32.toBitVec_and, BitVec.toNat_and]
    have e1 : x6.toInt32.toBitVec.toNat = x6.toBitVec.toNat % 2 ^ 32 := by
      rw [Int64.toBitVec_toInt32, BitVec.signExtend_eq_setWidth_of_le _ (by omega), BitVec.toNat_setWidth]
    rw [e1, show (Int32.ofInt 127).toBitVec.toNat = 2 ^ 7 - 1 from rfl, Nat.and_two_pow_sub_one_eq_mod, n6]
    omega
  have e2 : (x6.toInt32 &&& Int32.ofInt 127).toInt = (popN N : Int) := by
    show (x6.toInt32 &&& Int32.ofInt 127).toBitVec.toInt = _
    rw [BitVec.toInt_eq_toNat_of_lt (by omega), eb]
  rw [e2, popN_bits]
  congr 2
  funext e
  rw [dbit_bitN, hN]
set_option maxHeartbeats 4000000 in
set_option maxRecDepth 20000 in
theorem s_180 {CC : Nat → mCall} (G : mGood CC) {d : Nat} (hd : 1 ≤ d) {x : Int64} {st : mS} {post : mO → mS → Prop} (h : post (.inl (some (mi ((sumB (fun e => if dbit x e = true then 1 else 0) 64 : Nat) : Int)))) st) : CC d 180 [ml x] st post := by
  rw [← popX_eq] at h
  obtain ⟨d, rfl, hd⟩ := mdep hd
  refine go_180 G (Nat.le_of_ble_eq_true rfl) (fun WW hW => hW _ _ _ _ _ ?_)
  exact ⟨trivial, h⟩
