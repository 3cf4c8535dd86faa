/-! CREWS: on and off -/
def agX (A A' : oA) (s : Nat) : Prop := ∀ k j, ¬ (k = 45 ∧ 3 * s ≤ j ∧ j < 3 * s + 3) → ¬ (k = 44 ∧ j = s) → A' k j = A k j
set_option maxHeartbeats 4000000 in
set_option maxRecDepth 20000 in
theorem agX.refl (A : oA) (s : Nat) : agX A A s := fun _ _ _ _ => rfl
set_option maxHeartbeats 4000000 in
set_option maxRecDepth 20000 in
theorem agX.symm {A B : oA} {s : Nat} (h : agX A B s) : agX B A s := fun k j n1 n2 => (h k j n1 n2).symm
set_option maxHeartbeats 4000000 in
set_option maxRecDepth 20000 in
theorem agX.trans {A B C : oA} {s : Nat} (h : agX A B s) (h2 : agX B C s) : agX A C s := fun k j n1 n2 => (h2 k j n1 n2).trans (h k j n1 n2)
set_option maxHeartbeats 4000000 in
set_option maxRecDepth 20000 in
theorem agX.k {A A' : oA} {s : Nat} (h : agX A A' s) {k j : Nat} (hk : k < 44) : A' k j = A k j := h k j (by omega) (by omega)
set_option maxHeartbeats 4000000 in
set_option maxRecDepth 20000 in
theorem agX.P {A A' : oA} {s : Nat} (h : agX A A' s) : aP A' = aP A := by unfold aP; rw [h.k (by omega)]
set_option maxHeartbeats 4000000 in
set_option maxRecDepth 20000 in
theorem agX.S {A A' : oA} {s : Nat} (h : agX A A' s) : aS A' = aS A := by unfold aS; rw [h.k (by omega)]
set_option maxHeartbeats 4000000 in
set_option maxRecDepth 20000 in
theorem agX.V {A A' : oA} {s : Nat} (h : agX A A' s) : aV A' = aV A := by unfold aV; rw [h.k (by omega)]
set_option maxHeartbeats 4000000 in
set_option maxRecDepth 20000 in
theorem agX.cov {A A' : oA} {s : Nat} (h : agX A A' s) {t : Nat} {x : Int} : covS A' t x ↔ covS A t x := by unfold covS; rw [h.k (by omega), h.k (by omega)]
set_option maxHeartbeats 4000000 in
set_option maxRecDepth 20000 in
theorem agX.has {A A' : oA} {s : Nat} (h : agX A A' s) {t : Nat} {p : Int} (ht : t ≠ s) : hasP A' t p ↔ hasP A t p := by unfold hasP; rw [h _ _ (by omega) (by omega), h _ _ (by omega) (by omega), h _ _ (by omega) (by omega)]
set_option maxHeartbeats 4000000 in
set_option maxRecDepth 20000 in
theorem agX.wk {A A' : oA} {s : Nat} (h : agX A A' s) {p x : Int} : wrk A' p s x ↔ wrk A p s x := by
  unfold wrk
  rw [h.V]
  constructor
  · rintro ⟨t, h1, h2, h3, h4⟩; exact ⟨t, h1, h2, (h.has h2).mp h3, h.cov.mp h4⟩
  · rintro ⟨t, h1, h2, h3, h4⟩; exact ⟨t, h1, h2, (h.has h2).mpr h3, h.cov.mpr h4⟩
set_option maxHeartbeats 4000000 in
set_option maxRecDepth 20000 in
theorem agX.nw {A A' : oA} {s : Nat} (h : agX A A' s) {p x : Int} : nWo A' p s x = nWo A p s x := by
  show sumN _ (aV A') = sumN _ (aV A)
  rw [h.V]
  refine sumN_congr fun t _ => ?_
  by_cases h1 : t ≠ s ∧ hasP A t p ∧ covS A t x
  · rw [cif_pos h1, cif_pos ⟨h1.1, (h.has h1.1).mpr h1.2.1, h.cov.mpr h1.2.2⟩]
  · rw [cif_neg h1, cif_neg (fun z => h1 ⟨z.1, (h.has z.1).mp z.2.1, h.cov.mp z.2.2⟩)]
set_option maxHeartbeats 4000000 in
set_option maxRecDepth 20000 in
theorem agX.sh {A A' : oA} {s : Nat} (h : agX A A' s) {t : Nat} : shN A' t = shN A t := by unfold shN; rw [h.k (by omega)]
set_option maxHeartbeats 4000000 in
set_option maxRecDepth 20000 in
theorem agX.ps {A A' : oA} {s : Nat} (h : agX A A' s) {t : Nat} : psN A' t = psN A t := by unfold psN; rw [h.sh, h.k (by omega)]
set_option maxHeartbeats 4000000 in
set_option maxRecDepth 20000 in
theorem agX.reason {A A' : oA} {s : Nat} (h : agX A A' s) {k p : Nat} : oReason A' s k p = oReason A s k p := by
  have e1 : kdN A' s k = kdN A s k := by unfold kdN; rw [h.sh, h.k (by omega)]
  have e2 : fD A' s = fD A s := by unfold fD; rw [h.k (by omega)]
  have e3 : lD A' s = lD A s := by unfold lD; rw [h.k (by omega), h.k (by omega)]
  have e4 : wrk A' p s = wrk A p s := funext fun x => propext h.wk
  unfold oReason
  rw [e1, e2, e3, e4]
  simp only [h.k (show 31 < 44 by omega), h.k (show 35 < 44 by omega), h.k (show 36 < 44 by omega), h.k (show 32 < 44 by omega), h.k (show 33 < 44 by omega), h.k (show 42 < 44 by omega), h.k (show 43 < 44 by omega), h.k (show 30 < 44 by omega)]
/-- what a change of one sailing's crew and state may touch -/
def frQ (s k i j : Nat) : Prop := k = 6 ∨ (k = 3 ∧ j = 8) ∨ (k = 10 ∧ i = s) ∨ (k = 9 ∧ i = s ∧ j = 3)
set_option maxHeartbeats 4000000 in
set_option maxRecDepth 20000 in
theorem RelC_cr {st st' : mS} {A A' : oA} {s : Nat} (hR : RelC st A) (hX : agX A A' s) (hs : s < aV A) (hF : frP (frQ s) st st') (hc : ∀ k, k < 3 → sI st' 10 s k = A' 45 (3 * s + k)) (h9 : sI st' 9 s 3 = A' 44 s)
    (h6 : ∀ p, p < aP A → ∀ h : Nat, h < 1000 → sI st' 6 p h = nWo A p s h + cif (hasP A' s p ∧ covS A s h) 1 0) (h8 : ∀ p, p < aP A → sI st' 3 p 8 = sumN (fun h => sI st' 6 p h) 1000) : RelC st' A' := by
  have e : ∀ k i j, k < 3 ∨ k = 4 ∨ k = 5 ∨ k = 7 ∨ k = 8 → sI st' k i j = sI st k i j := fun k i j hk => hF.1 k i j (fun z => by unfold frQ at z; omega)
  have e3 : ∀ i j, j ≠ 8 → sI st' 3 i j = sI st 3 i j := fun i j hj => hF.1 3 i j (fun z => by unfold frQ at z; omega)
  obtain ⟨h0, h1, h2, h3, h4⟩ := hR
  refine ⟨?_, fun p hp => ?_, fun p hp => ?_, fun j hj => ?_, fun t ht => ?_⟩
  · unfold R0; rw [hF.L, hF.N, e 0 0 5 (by omega), e 0 0 6 (by omega), e 0 0 7 (by omega), hX.P, hX.S, hX.V, hX.k (by omega), hX.k (by omega), hX.k (by omega)]; exact h0
  · rw [hX.P] at hp
    have := h1 p hp
    unfold RP1 at this ⊢
    simp only [hF.J, e3 p 0 (by omega), e3 p 5 (by omega), e3 p 6 (by omega), e 4 _ _ (by omega), e 5 _ _ (by omega), hX.k (show 31 < 44 by omega), hX.k (show 35 < 44 by omega), hX.k (show 36 < 44 by omega), hX.k (show 32 < 44 by omega), hX.k (show 33 < 44 by omega), hX.k (show 34 < 44 by omega), hX.k (show 37 < 44 by omega), hX.k (show 38 < 44 by omega)]
    exact this
  · rw [hX.P] at hp
    refine ⟨fun h hh => ?_, h8 p hp⟩
    rw [h6 p hp h hh, nAt_split (s := s) (by rw [hX.V]; exact hs), hX.nw]
    congr 1
    by_cases z : hasP A' s p ∧ covS A s h
    · rw [cif_pos z, cif_pos ⟨z.1, hX.cov.mpr z.2⟩]
    · rw [cif_neg z, cif_neg (fun y => z ⟨y.1, hX.cov.mp y.2⟩)]
  · rw [hX.S] at hj
    have := h3 j hj
    unfold RS1 at this ⊢
    simp only [e 7 _ _ (by omega), e 8 _ _ (by omega), hX.V, hX.k (show 39 < 44 by omega), hX.k (show 40 < 44 by omega), hX.k (show 41 < 44 by omega)]
    exact this
  · rw [hX.V] at ht
    obtain ⟨g1, g2, g3, g4, g5⟩ := h4 t ht
    have e9 : ∀ j, j ≠ 3 → sI st' 9 t j = sI st 9 t j := fun j hj => hF.1 9 t j (fun z => by unfold frQ at z; omega)
    refine ⟨by rw [hF.R, hX.sh]; exact g1, by rw [e9 1 (by omega), hX.k (by omega)]; exact g2, by rw [e9 2 (by omega), hX.k (by omega), hX.k (by omega)]; exact g3, ?_, ?_⟩
    · by_cases et : t = s
      · subst et; exact h9
      · rw [hF.1 9 t 3 (fun z => by unfold frQ at z; omega), hX 44 t (by omega) (by omega)]; exact g4
    · intro k hk
      by_cases et : t = s
      · subst et; exact hc k hk
      · rw [hF.1 10 t k (fun z => by unfold frQ at z; omega), hX 45 (3 * t + k) (by omega) (by omega)]; exact g5 k hk
set_option maxHeartbeats 4000000 in
set_option maxRecDepth 20000 in
theorem sumN_iv (a b : Int) (ha : 0 ≤ a) (hab : a ≤ b) : ∀ n : Nat, sumN (fun h => if a ≤ h ∧ (h : Int) < b then 1 else 0) n = max 0 (min b n - a)
  | 0 => by show (0 : Int) = _; omega
  | n + 1 => by
    show sumN _ n + (if a ≤ n ∧ (n : Int) < b then 1 else 0) = _
    rw [sumN_iv a b ha hab n]
    split <;> omega
set_option maxHeartbeats 4000000 in
set_option maxRecDepth 20000 in
theorem sumN_wk {f : Nat → Int} (a b dl : Int) (ha : 0 ≤ a) (hab : a ≤ b) (hb : b ≤ 1000) (hd : dl = 1 ∨ dl = -1) : sumN (fun h => if a ≤ h ∧ (h : Int) < b then f h + dl else f h) 1000 = sumN f 1000 + (if dl = 1 then b - a else a - b) := by
  have e1 : sumN (fun h => if a ≤ h ∧ (h : Int) < b then f h + dl else f h) 1000 = sumN (fun h => f h + (if a ≤ h ∧ (h : Int) < b then dl else 0)) 1000 := sumN_congr fun x _ => by split <;> omega
  rw [e1, sumN_add]
  have e2 := sumN_iv a b ha hab 1000
  rcases hd with rfl | rfl
  · rw [e2, if_pos rfl]; omega
  · have e3 : sumN (fun h => (if a ≤ h ∧ (h : Int) < b then 1 else 0) + (if a ≤ h ∧ (h : Int) < b then (-1 : Int) else 0)) 1000 = 0 := sumN_zero fun x _ => by split <;> omega
    rw [sumN_add] at e3
    rw [if_neg (by omega)]; omega
set_option maxHeartbeats 4000000 in
set_option maxRecDepth 20000 in
theorem agX_up {A : oA} {s k : Nat} {v : Int} (hk : k < 3) : agX A (upA A 45 (3 * s + k) v) s := fun a b n1 n2 => if_neg (fun z => n1 ⟨z.1, by omega, by omega⟩)
set_option maxHeartbeats 4000000 in
set_option maxRecDepth 20000 in
theorem upA_45 {A : oA} {s k l : Nat} {v : Int} : upA A 45 (3 * s + k) v 45 (3 * s + l) = if l = k then v else A 45 (3 * s + l) := by
  unfold upA
  by_cases h : l = k
  · rw [if_pos ⟨rfl, by omega⟩, if_pos h]
  · rw [if_neg (fun z => h (by omega)), if_neg h]
set_option maxHeartbeats 4000000 in
set_option maxRecDepth 20000 in
theorem upA_self {A : oA} {k j : Nat} {v : Int} (h : A k j = v) : upA A k j v = A := by
  funext a b
  unfold upA
  split
  · rename_i z; rw [z.1, z.2, h]
  · rfl
set_option maxHeartbeats 4000000 in
set_option maxRecDepth 20000 in
theorem hasP_iff {A : oA} {s : Nat} {p : Int} : hasP A s p ↔ ∃ k, k < 3 ∧ A 45 (3 * s + k) = p := by
  unfold hasP
  constructor
  · rintro (h | h | h)
    · exact ⟨0, by omega, h⟩
    · exact ⟨1, by omega, h⟩
    · exact ⟨2, by omega, h⟩
  · rintro ⟨k, hk, h⟩
    rcases (by omega : k = 0 ∨ k = 1 ∨ k = 2) with rfl | rfl | rfl
    · exact Or.inl h
    · exact Or.inr (Or.inl h)
    · exact Or.inr (Or.inr h)
set_option maxHeartbeats 4000000 in
set_option maxRecDepth 20000 in
theorem RelC_mv {st : mS} {A : oA} {s k p : Nat} {v dl : Int} (hR : RelC st A) (hs : s < aV A) (hst : oSt A s) (hk : k < 3) (hd : dl = 1 ∨ dl = -1) (h1 : hasP A s p ↔ dl = -1) (h2 : hasP (upA A 45 (3 * s + k) v) s p ↔ dl = 1) (h3 : ∀ i : Nat, i ≠ p → (hasP (upA A 45 (3 * s + k) v) s i ↔ hasP A s i)) :
    frP (frQ s) st (wkSt (putI st 10 s k v) p (A 42 s) (A 42 s + A 43 s) dl (if dl = 1 then A 42 s + A 43 s - A 42 s else A 42 s - (A 42 s + A 43 s))) ∧ RelC (wkSt (putI st 10 s k v) p (A 42 s) (A 42 s + A 43 s) dl (if dl = 1 then A 42 s + A 43 s - A 42 s else A 42 s - (A 42 s + A 43 s))) (upA A 45 (3 * s + k) v) := by
  obtain ⟨t, ht⟩ : ∃ t, t = (if dl = 1 then A 42 s + A 43 s - A 42 s else A 42 s - (A 42 s + A 43 s)) := ⟨_, rfl⟩
  rw [← ht]
  have hF : frP (frQ s) st (wkSt (putI st 10 s k v) p (A 42 s) (A 42 s + A 43 s) dl t) := ⟨fun a b c n => by
    unfold frQ at n
    rw [q_wk, q_II, if_neg (by omega), if_neg (by omega), if_neg (by omega)], rfl⟩
  have r6 : ∀ i h : Nat, sI (wkSt (putI st 10 s k v) p (A 42 s) (A 42 s + A 43 s) dl t) 6 i h = if i = p ∧ A 42 s ≤ h ∧ (h : Int) < A 42 s + A 43 s then sI st 6 i h + dl else sI st 6 i h := fun i h => by
    rw [q_wk, q_II, if_neg (show ¬ (6 = 10 ∧ i = s ∧ h = k) by omega)]
    by_cases c : i = p ∧ A 42 s ≤ h ∧ (h : Int) < A 42 s + A 43 s
    · rw [if_pos ⟨rfl, c⟩, if_pos c]
    · rw [if_neg (fun z => c z.2), if_neg c, if_neg (by omega)]
  refine ⟨hF, RelC_cr hR (agX_up hk) hs hF (fun l hl => ?_) ?_ (fun i hi h hh => ?_) (fun i hi => ?_)⟩
  · rw [q_wk, if_neg (by omega), if_neg (by omega), q_II, upA_45]
    by_cases e : l = k
    · rw [if_pos ⟨rfl, rfl, e⟩, if_pos e]
    · rw [if_neg (fun z => e z.2.2), if_neg e]; exact (hR.2.2.2.2 s hs).2.2.2.2 l hl
  · rw [q_wk, if_neg (by omega), if_neg (by omega), q_II, if_neg (by omega)]
    unfold upA
    rw [if_neg (by omega)]
    exact (hR.2.2.2.2 s hs).2.2.2.1
  · rw [r6, (hR.2.2.1 i hi).1 h hh, nAt_split hs]
    unfold covS
    by_cases e : i = p
    · subst e
      rcases hd with rfl | rfl
      · have n1 : ¬ hasP A s i := fun z => absurd (h1.mp z) (by omega)
        have n2 := h2.mpr rfl
        by_cases c : A 42 s ≤ h ∧ (h : Int) < A 42 s + A 43 s
        · rw [if_pos ⟨rfl, c⟩, cif_neg (fun z => n1 z.1), cif_pos ⟨n2, c⟩]; omega
        · rw [if_neg (fun z => c z.2), cif_neg (fun z => n1 z.1), cif_neg (fun z => c z.2)]
      · have n1 := h1.mpr rfl
        have n2 : ¬ hasP (upA A 45 (3 * s + k) v) s i := fun z => absurd (h2.mp z) (by omega)
        by_cases c : A 42 s ≤ h ∧ (h : Int) < A 42 s + A 43 s
        · rw [if_pos ⟨rfl, c⟩, cif_pos ⟨n1, c⟩, cif_neg (fun z => n2 z.1)]; omega
        · rw [if_neg (fun z => c z.2), cif_neg (fun z => c z.2), cif_neg (fun z => c z.2)]
    · rw [if_neg (fun z => e z.1)]
      congr 1
      by_cases c : hasP A s i ∧ A 42 s ≤ h ∧ (h : Int) < A 42 s + A 43 s
      · rw [cif_pos c, cif_pos ⟨(h3 i e).mpr c.1, c.2⟩]
      · rw [cif_neg c, cif_neg (fun z => c ⟨(h3 i e).mp z.1, z.2⟩)]
  · have e8 := (hR.2.2.1 i hi).2
    have hst2 := hst.2.1
    rw [q_wk, if_neg (by omega)]
    by_cases e : i = p
    · subst e
      rw [if_pos ⟨rfl, rfl, rfl⟩, q_II, if_neg (by omega), e8]
      have e9 : sumN (fun h => sI (wkSt (putI st 10 s k v) i (A 42 s) (A 42 s + A 43 s) dl t) 6 i h) 1000 = sumN (fun h => if A 42 s ≤ (h : Int) ∧ (h : Int) < A 42 s + A 43 s then sI st 6 i h + dl else sI st 6 i h) 1000 := sumN_congr fun h _ => by
        rw [r6]
        by_cases c : A 42 s ≤ h ∧ (h : Int) < A 42 s + A 43 s
        · rw [if_pos ⟨rfl, c⟩, if_pos c]
        · rw [if_neg (fun z => c z.2), if_neg c]
      rw [e9, sumN_wk (f := fun h => sI st 6 i h) _ _ _ (by omega) (by omega) (by omega) hd, ← ht]
    · rw [if_neg (fun z => e z.2.1), q_II, if_neg (by omega), e8]
      exact sumN_congr fun h _ => by rw [r6, if_neg (fun z => e z.1)]
set_option maxHeartbeats 4000000 in
set_option maxRecDepth 20000 in
theorem s_155 {CC : Nat → mCall} (G : mGood CC) {d : Nat} (hd : 2 ≤ d) {A : oA} {s k p : Nat} {st : mS} {post : mO → mS → Prop} (hB : oBnd A) (hR : RelC st A) (hs : s < aV A) (hst : oSt A s) (hk : k < 3) (hp : p < aP A) (hold : A 45 (3 * s + k) = -1) (hno : ¬ hasP A s p)
    (h : ∀ st', frP (frQ s) st st' → RelC st' (upA A 45 (3 * s + k) p) → post (.inl none) st') : CC d 155 [mr 0 0, mr 9 s, mi (k : Int), mi (p : Int)] st post := by
  have hL := hR.1.1.1
  have hL' : ∀ v, sL (putI st 10 s k v) 20 = List.range (aP A) := fun _ => hL
  obtain ⟨v1, v2, v3, v4, v5⟩ := hR.2.2.2.2 s hs
  obtain ⟨u1, u2, u3⟩ := RW1_sum hB (hR.2.2.1 p hp)
  have hst2 := hst.2.1
  have u3' : ∀ j, j < 1000 → -1000000 ≤ sI (putI st 10 s k (p : Int)) 6 p j ∧ sI (putI st 10 s k (p : Int)) 6 p j ≤ 1000000 := fun j hj => by
    have := u3 j hj
    rw [q_II, if_neg (by omega)]; omega
  have u1' : -1000000 ≤ sI (putI st 10 s k (p : Int)) 3 p 8 ∧ sI (putI st 10 s k (p : Int)) 3 p 8 ≤ 1000000 := by rw [q_II, if_neg (by omega)]; omega
  obtain ⟨g1, g2⟩ := RelC_mv (v := (p : Int)) (dl := 1) (p := p) hR hs hst hk (Or.inl rfl) ⟨fun z => absurd z hno, fun z => absurd z (by omega)⟩ ⟨fun _ => rfl, fun _ => hasP_iff.mpr ⟨k, hk, by rw [upA_45, if_pos rfl]⟩⟩ (fun i hi => by
    rw [hasP_iff, hasP_iff]
    constructor
    · rintro ⟨l, l1, l2⟩
      rw [upA_45] at l2
      by_cases e : l = k
      · rw [if_pos e] at l2; omega
      · rw [if_neg e] at l2; exact ⟨l, l1, l2⟩
    · rintro ⟨l, l1, l2⟩
      refine ⟨l, l1, ?_⟩
      rw [upA_45]
      by_cases e : l = k
      · subst e; omega
      · rw [if_neg e]; exact l2)
  rw [if_pos rfl] at g1 g2
  have go := h _ g1 g2
  obtain ⟨d, rfl, hd⟩ := mdep hd; refine go_155 G (Nat.le_of_ble_eq_true rfl) (fun WW hW => ?_)
  (refine hW _ _ _ _ _ ?_; simp only [e_get0, e_getn, e_load0, e_loadn, e_remnil, e_rem0, e_remi, e_remr, e_pnil, e_pcons, e_pc, e_set1, e_isI, e_isR, e_isJ, e_mun, e_mbin, e_mbinJ, e_nil, e_ins, e_exc, e_cond, margs, mcat, e_ceq, e_cne, e_clt, e_cge, e_cgt, e_cle, e_ty0, e_ty1, e_ty2, a_155_0, a_155_38, e_aload_0, e_aload_1, e_cast, e_ck0, e_ckv, e_ckx, e_getf, e_iload_2, e_iload_3, e_return, f_RX6_10_0, f_RX6_338_9, f_RX6_88_9, j_155_0, j_155_38, k_RX6_103, rm_, rm_i, rm_ii, rm_iii, rm_iiii, rm_iiir, rm_iir, rm_iiri, rm_iirr, rm_ir, rm_iri, rm_irii, rm_irir, rm_irr, rm_irri, rm_irrr, rm_r, rm_ri, rm_rii, rm_riii, rm_riir, rm_rir, rm_riri, rm_rirr, rm_rr, rm_rri, rm_rrii, rm_rrir, rm_rrr, rm_rrri, rm_rrrr, v_RX6_199_0, v_RX6_335_9, v_RX6_341_3, v_RX6_78, zeq_5_33, Nat.reduceLeDiff, Nat.reduceSub, Nat.reduceAdd, Nat.reduceEqDiff, Nat.le_refl, Nat.zero_le, true_and, and_true, ne_eq, not_false_eq_true, Nat.sub_zero, Nat.zero_add, Int.reduceLT, Int.reduceLE, Int.reduceAdd, Int.reduceSub, Int.reduceNeg, Int.reduceMul, Int.reduceToNat, e_nc, Int.reduceEq, Int.reduceNe, not_true_eq_false, not_false_eq_true, forall_const, false_implies, implies_true, Int.reduceGE, Int.reduceGT, Nat.reduceMul, reduceCtorEq, true_implies, true_or, or_true, or_self, Int.toNat_natCast, Nat.zero_ne_one, Nat.one_ne_zero, false_and, and_false, if_false, if_true, and_self, eq_self, Int.lt_irrefl, q_II, q_IJ, q_IL, q_JI, q_JJ, q_JL, q_NI, q_NJ, q_NL, q_RI, q_RJ, q_RL, q_LI, q_LJ, q_LL, v2, v3])
  repeat' (first | exact go | refine s_129 G (by omega) hL (fun _ => ?_) (fun z => (by omega)) | refine s_76 G (by omega) hk ?_ | refine g_20 G (hL' _) hp ?_ | refine s_106 G (by omega) (by omega) (by omega) (by omega) u3' u1' ?_ | with_reducible apply And.intro | exact inR_of (by omega) (by omega) | (refine hW _ _ _ _ _ ?_; simp only [e_get0, e_getn, e_load0, e_loadn, e_remnil, e_rem0, e_remi, e_remr, e_pnil, e_pcons, e_pc, e_set1, e_isI, e_isR, e_isJ, e_mun, e_mbin, e_mbinJ, e_nil, e_ins, e_exc, e_cond, margs, mcat, e_ceq, e_cne, e_clt, e_cge, e_cgt, e_cle, e_ty0, e_ty1, e_ty2, a_155_0, a_155_38, e_aload_0, e_aload_1, e_cast, e_ck0, e_ckv, e_ckx, e_getf, e_iload_2, e_iload_3, e_return, f_RX6_10_0, f_RX6_338_9, f_RX6_88_9, j_155_0, j_155_38, k_RX6_103, rm_, rm_i, rm_ii, rm_iii, rm_iiii, rm_iiir, rm_iir, rm_iiri, rm_iirr, rm_ir, rm_iri, rm_irii, rm_irir, rm_irr, rm_irri, rm_irrr, rm_r, rm_ri, rm_rii, rm_riii, rm_riir, rm_rir, rm_riri, rm_rirr, rm_rr, rm_rri, rm_rrii, rm_rrir, rm_rrr, rm_rrri, rm_rrrr, v_RX6_199_0, v_RX6_335_9, v_RX6_341_3, v_RX6_78, zeq_5_33, Nat.reduceLeDiff, Nat.reduceSub, Nat.reduceAdd, Nat.reduceEqDiff, Nat.le_refl, Nat.zero_le, true_and, and_true, ne_eq, not_false_eq_true, Nat.sub_zero, Nat.zero_add, Int.reduceLT, Int.reduceLE, Int.reduceAdd, Int.reduceSub, Int.reduceNeg, Int.reduceMul, Int.reduceToNat, e_nc, Int.reduceEq, Int.reduceNe, not_true_eq_false, not_false_eq_true, forall_const, false_implies, implies_true, Int.reduceGE, Int.reduceGT, Nat.reduceMul, reduceCtorEq, true_implies, true_or, or_true, or_self, Int.toNat_natCast, Nat.zero_ne_one, Nat.one_ne_zero, false_and, and_false, if_false, if_true, and_self, eq_self, Int.lt_irrefl, q_II, q_IJ, q_IL, q_JI, q_JJ, q_JL, q_NI, q_NJ, q_NL, q_RI, q_RJ, q_RL, q_LI, q_LJ, q_LL, v2, v3]) | (with_reducible show mck _ _ _ _ _ _ _ _; simp only [e_get0, e_getn, e_load0, e_loadn, e_remnil, e_rem0, e_remi, e_remr, e_pnil, e_pcons, e_pc, e_set1, e_isI, e_isR, e_isJ, e_mun, e_mbin, e_mbinJ, e_nil, e_ins, e_exc, e_cond, margs, mcat, e_ceq, e_cne, e_clt, e_cge, e_cgt, e_cle, e_ty0, e_ty1, e_ty2, a_155_0, a_155_38, e_aload_0, e_aload_1, e_cast, e_ck0, e_ckv, e_ckx, e_getf, e_iload_2, e_iload_3, e_return, f_RX6_10_0, f_RX6_338_9, f_RX6_88_9, j_155_0, j_155_38, k_RX6_103, rm_, rm_i, rm_ii, rm_iii, rm_iiii, rm_iiir, rm_iir, rm_iiri, rm_iirr, rm_ir, rm_iri, rm_irii, rm_irir, rm_irr, rm_irri, rm_irrr, rm_r, rm_ri, rm_rii, rm_riii, rm_riir, rm_rir, rm_riri, rm_rirr, rm_rr, rm_rri, rm_rrii, rm_rrir, rm_rrr, rm_rrri, rm_rrrr, v_RX6_199_0, v_RX6_335_9, v_RX6_341_3, v_RX6_78, zeq_5_33, Nat.reduceLeDiff, Nat.reduceSub, Nat.reduceAdd, Nat.reduceEqDiff, Nat.le_refl, Nat.zero_le, true_and, and_true, ne_eq, not_false_eq_true, Nat.sub_zero, Nat.zero_add, Int.reduceLT, Int.reduceLE, Int.reduceAdd, Int.reduceSub, Int.reduceNeg, Int.reduceMul, Int.reduceToNat, e_nc, Int.reduceEq, Int.reduceNe, not_true_eq_false, not_false_eq_true, forall_const, false_implies, implies_true, Int.reduceGE, Int.reduceGT, Nat.reduceMul, reduceCtorEq, true_implies, true_or, or_true, or_self, Int.toNat_natCast, Nat.zero_ne_one, Nat.one_ne_zero, false_and, and_false, if_false, if_true, and_self, eq_self, Int.lt_irrefl, q_II, q_IJ, q_IL, q_JI, q_JJ, q_JL, q_NI, q_NJ, q_NL, q_RI, q_RJ, q_RL, q_LI, q_LJ, q_LL, v2, v3]) | intro _ | omega)
set_option maxHeartbeats 4000000 in
set_option maxRecDepth 20000 in
theorem s_155n {CC : Nat → mCall} (G : mGood CC) {d : Nat} (hd : 2 ≤ d) {s : Nat} {n : Nat} {k : Int} {st : mS} {post : mO → mS → Prop} (hL : sL st 20 = List.range n) (h : post (.inl none) st) : CC d 155 [mr 0 0, mr 9 s, mi k, mi (-1)] st post := by
  obtain ⟨d, rfl, hd⟩ := mdep hd; refine go_155 G (Nat.le_of_ble_eq_true rfl) (fun WW hW => ?_)
  (refine hW _ _ _ _ _ ?_; simp only [e_get0, e_getn, e_load0, e_loadn, e_remnil, e_rem0, e_remi, e_remr, e_pnil, e_pcons, e_pc, e_set1, e_isI, e_isR, e_isJ, e_mun, e_mbin, e_mbinJ, e_nil, e_ins, e_exc, e_cond, margs, mcat, e_ceq, e_cne, e_clt, e_cge, e_cgt, e_cle, e_ty0, e_ty1, e_ty2, a_155_0, a_155_38, e_aload_0, e_aload_1, e_cast, e_ck0, e_ckv, e_ckx, e_getf, e_iload_2, e_iload_3, e_return, f_RX6_10_0, f_RX6_338_9, f_RX6_88_9, j_155_0, j_155_38, k_RX6_103, rm_, rm_i, rm_ii, rm_iii, rm_iiii, rm_iiir, rm_iir, rm_iiri, rm_iirr, rm_ir, rm_iri, rm_irii, rm_irir, rm_irr, rm_irri, rm_irrr, rm_r, rm_ri, rm_rii, rm_riii, rm_riir, rm_rir, rm_riri, rm_rirr, rm_rr, rm_rri, rm_rrii, rm_rrir, rm_rrr, rm_rrri, rm_rrrr, v_RX6_199_0, v_RX6_335_9, v_RX6_341_3, v_RX6_78, zeq_5_33, Nat.reduceLeDiff, Nat.reduceSub, Nat.reduceAdd, Nat.reduceEqDiff, Nat.le_refl, Nat.zero_le, true_and, and_true, ne_eq, not_false_eq_true, Nat.sub_zero, Nat.zero_add, Int.reduceLT, Int.reduceLE, Int.reduceAdd, Int.reduceSub, Int.reduceNeg, Int.reduceMul, Int.reduceToNat, e_nc, Int.reduceEq, Int.reduceNe, not_true_eq_false, not_false_eq_true, forall_const, false_implies, implies_true, Int.reduceGE, Int.reduceGT, Nat.reduceMul, reduceCtorEq, true_implies, true_or, or_true, or_self, Int.toNat_natCast, Nat.zero_ne_one, Nat.one_ne_zero, false_and, and_false, if_false, if_true, and_self, eq_self, Int.lt_irrefl, q_II, q_IJ, q_IL, q_JI, q_JJ, q_JL, q_NI, q_NJ, q_NL, q_RI, q_RJ, q_RL, q_LI, q_LJ, q_LL])
  repeat' (first | exact h | refine s_129 G (by omega) hL (fun z => (by omega)) (fun _ => ?_) | with_reducible apply And.intro | exact inR_of (by omega) (by omega) | (refine hW _ _ _ _ _ ?_; simp only [e_get0, e_getn, e_load0, e_loadn, e_remnil, e_rem0, e_remi, e_remr, e_pnil, e_pcons, e_pc, e_set1, e_isI, e_isR, e_isJ, e_mun, e_mbin, e_mbinJ, e_nil, e_ins, e_exc, e_cond, margs, mcat, e_ceq, e_cne, e_clt, e_cge, e_cgt, e_cle, e_ty0, e_ty1, e_ty2, a_155_0, a_155_38, e_aload_0, e_aload_1, e_cast, e_ck0, e_ckv, e_ckx, e_getf, e_iload_2, e_iload_3, e_return, f_RX6_10_0, f_RX6_338_9, f_RX6_88_9, j_155_0, j_155_38, k_RX6_103, rm_, rm_i, rm_ii, rm_iii, rm_iiii, rm_iiir, rm_iir, rm_iiri, rm_iirr, rm_ir, rm_iri, rm_irii, rm_irir, rm_irr, rm_irri, rm_irrr, rm_r, rm_ri, rm_rii, rm_riii, rm_riir, rm_rir, rm_riri, rm_rirr, rm_rr, rm_rri, rm_rrii, rm_rrir, rm_rrr, rm_rrri, rm_rrrr, v_RX6_199_0, v_RX6_335_9, v_RX6_341_3, v_RX6_78, zeq_5_33, Nat.reduceLeDiff, Nat.reduceSub, Nat.reduceAdd, Nat.reduceEqDiff, Nat.le_refl, Nat.zero_le, true_and, and_true, ne_eq, not_false_eq_true, Nat.sub_zero, Nat.zero_add, Int.reduceLT, Int.reduceLE, Int.reduceAdd, Int.reduceSub, Int.reduceNeg, Int.reduceMul, Int.reduceToNat, e_nc, Int.reduceEq, Int.reduceNe, not_true_eq_false, not_false_eq_true, forall_const, false_implies, implies_true, Int.reduceGE, Int.reduceGT, Nat.reduceMul, reduceCtorEq, true_implies, true_or, or_true, or_self, Int.toNat_natCast, Nat.zero_ne_one, Nat.one_ne_zero, false_and, and_false, if_false, if_true, and_self, eq_self, Int.lt_irrefl, q_II, q_IJ, q_IL, q_JI, q_JJ, q_JL, q_NI, q_NJ, q_NL, q_RI, q_RJ, q_RL, q_LI, q_LJ, q_LL]) | (with_reducible show mck _ _ _ _ _ _ _ _; simp only [e_get0, e_getn, e_load0, e_loadn, e_remnil, e_rem0, e_remi, e_remr, e_pnil, e_pcons, e_pc, e_set1, e_isI, e_isR, e_isJ, e_mun, e_mbin, e_mbinJ, e_nil, e_ins, e_exc, e_cond, margs, mcat, e_ceq, e_cne, e_clt, e_cge, e_cgt, e_cle, e_ty0, e_ty1, e_ty2, a_155_0, a_155_38, e_aload_0, e_aload_1, e_cast, e_ck0, e_ckv, e_ckx, e_getf, e_iload_2, e_iload_3, e_return, f_RX6_10_0, f_RX6_338_9, f_RX6_88_9, j_155_0, j_155_38, k_RX6_103, rm_, rm_i, rm_ii, rm_iii, rm_iiii, rm_iiir, rm_iir, rm_iiri, rm_iirr, rm_ir, rm_iri, rm_irii, rm_irir, rm_irr, rm_irri, rm_irrr, rm_r, rm_ri, rm_rii, rm_riii, rm_riir, rm_rir, rm_riri, rm_rirr, rm_rr, rm_rri, rm_rrii, rm_rrir, rm_rrr, rm_rrri, rm_rrrr, v_RX6_199_0, v_RX6_335_9, v_RX6_341_3, v_RX6_78, zeq_5_33, Nat.reduceLeDiff, Nat.reduceSub, Nat.reduceAdd, Nat.reduceEqDiff, Nat.le_refl, Nat.zero_le, true_and, and_true, ne_eq, not_false_eq_true, Nat.sub_zero, Nat.zero_add, Int.reduceLT, Int.reduceLE, Int.reduceAdd, Int.reduceSub, Int.reduceNeg, Int.reduceMul, Int.reduceToNat, e_nc, Int.reduceEq, Int.reduceNe, not_true_eq_false, not_false_eq_true, forall_const, false_implies, implies_true, Int.reduceGE, Int.reduceGT, Nat.reduceMul, reduceCtorEq, true_implies, true_or, or_true, or_self, Int.toNat_natCast, Nat.zero_ne_one, Nat.one_ne_zero, false_and, and_false, if_false, if_true, and_self, eq_self, Int.lt_irrefl, q_II, q_IJ, q_IL, q_JI, q_JJ, q_JL, q_NI, q_NJ, q_NL, q_RI, q_RJ, q_RL, q_LI, q_LJ, q_LL]) | intro _ | omega)
set_option maxHeartbeats 4000000 in
set_option maxRecDepth 20000 in
theorem s_156 {CC : Nat → mCall} (G : mGood CC) {d : Nat} (hd : 2 ≤ d) {A : oA} {s k : Nat} {st : mS} {post : mO → mS → Prop} (hB : oBnd A) (hR : RelC st A) (hs : s < aV A) (hst : oSt A s) (hk : k < 3) (hrg : A 45 (3 * s + k) = -1 ∨ (0 ≤ A 45 (3 * s + k) ∧ A 45 (3 * s + k) < aP A)) (hdi : ∀ l, l < 3 → l ≠ k → A 45 (3 * s + l) = A 45 (3 * s + k) → A 45 (3 * s + k) = -1)
    (h : ∀ st', frP (frQ s) st st' → RelC st' (upA A 45 (3 * s + k) (-1)) → post (.inl none) st') : CC d 156 [mr 0 0, mr 9 s, mi (k : Int)] st post := by
  have hL := hR.1.1.1
  have hL' : ∀ v, sL (putI st 10 s k v) 20 = List.range (aP A) := fun _ => hL
  obtain ⟨v1, v2, v3, v4, v5⟩ := hR.2.2.2.2 s hs
  have v5k := v5 k hk
  by_cases hne : A 45 (3 * s + k) = -1
  · have go := h st (frP.refl st) (by rw [upA_self hne]; exact hR)
    rw [hne] at v5k
    obtain ⟨d, rfl, hd⟩ := mdep hd; refine go_156 G (Nat.le_of_ble_eq_true rfl) (fun WW hW => ?_)
    (refine hW _ _ _ _ _ ?_; simp only [e_get0, e_getn, e_load0, e_loadn, e_remnil, e_rem0, e_remi, e_remr, e_pnil, e_pcons, e_pc, e_set1, e_isI, e_isR, e_isJ, e_mun, e_mbin, e_mbinJ, e_nil, e_ins, e_exc, e_cond, margs, mcat, e_ceq, e_cne, e_clt, e_cge, e_cgt, e_cle, e_ty0, e_ty1, e_ty2, a_156_0, a_156_44, e_aload_0, e_aload_1, e_cast, e_ck0, e_ckv, e_ckx, e_getf, e_iconst, e_iload_2, e_iload_3, e_istore_3, e_return, f_RX6_10_0, f_RX6_338_9, f_RX6_88_9, j_156_0, j_156_44, k_RX6_103, rm_, rm_i, rm_ii, rm_iii, rm_iiii, rm_iiir, rm_iir, rm_iiri, rm_iirr, rm_ir, rm_iri, rm_irii, rm_irir, rm_irr, rm_irri, rm_irrr, rm_r, rm_ri, rm_rii, rm_riii, rm_riir, rm_rir, rm_riri, rm_rirr, rm_rr, rm_rri, rm_rrii, rm_rrir, rm_rrr, rm_rrri, rm_rrrr, v_RX6_199_0, v_RX6_275_9, v_RX6_335_9, v_RX6_344_3, v_RX6_78, zeq_11_33, Nat.reduceLeDiff, Nat.reduceSub, Nat.reduceAdd, Nat.reduceEqDiff, Nat.le_refl, Nat.zero_le, true_and, and_true, ne_eq, not_false_eq_true, Nat.sub_zero, Nat.zero_add, Int.reduceLT, Int.reduceLE, Int.reduceAdd, Int.reduceSub, Int.reduceNeg, Int.reduceMul, Int.reduceToNat, e_nc, Int.reduceEq, Int.reduceNe, not_true_eq_false, not_false_eq_true, forall_const, false_implies, implies_true, Int.reduceGE, Int.reduceGT, Nat.reduceMul, reduceCtorEq, true_implies, true_or, or_true, or_self, Int.toNat_natCast, Nat.zero_ne_one, Nat.one_ne_zero, false_and, and_false, if_false, if_true, and_self, eq_self, Int.lt_irrefl, q_II, q_IJ, q_IL, q_JI, q_JJ, q_JL, q_NI, q_NJ, q_NL, q_RI, q_RJ, q_RL, q_LI, q_LJ, q_LL, v5k])
    repeat' (first | exact go | refine s_75 G (by omega) hk ?_ | refine s_129 G (by omega) hL (fun z => (by omega)) (fun _ => ?_) | with_reducible apply And.intro | exact inR_of (by omega) (by omega) | (refine hW _ _ _ _ _ ?_; simp only [e_get0, e_getn, e_load0, e_loadn, e_remnil, e_rem0, e_remi, e_remr, e_pnil, e_pcons, e_pc, e_set1, e_isI, e_isR, e_isJ, e_mun, e_mbin, e_mbinJ, e_nil, e_ins, e_exc, e_cond, margs, mcat, e_ceq, e_cne, e_clt, e_cge, e_cgt, e_cle, e_ty0, e_ty1, e_ty2, a_156_0, a_156_44, e_aload_0, e_aload_1, e_cast, e_ck0, e_ckv, e_ckx, e_getf, e_iconst, e_iload_2, e_iload_3, e_istore_3, e_return, f_RX6_10_0, f_RX6_338_9, f_RX6_88_9, j_156_0, j_156_44, k_RX6_103, rm_, rm_i, rm_ii, rm_iii, rm_iiii, rm_iiir, rm_iir, rm_iiri, rm_iirr, rm_ir, rm_iri, rm_irii, rm_irir, rm_irr, rm_irri, rm_irrr, rm_r, rm_ri, rm_rii, rm_riii, rm_riir, rm_rir, rm_riri, rm_rirr, rm_rr, rm_rri, rm_rrii, rm_rrir, rm_rrr, rm_rrri, rm_rrrr, v_RX6_199_0, v_RX6_275_9, v_RX6_335_9, v_RX6_344_3, v_RX6_78, zeq_11_33, Nat.reduceLeDiff, Nat.reduceSub, Nat.reduceAdd, Nat.reduceEqDiff, Nat.le_refl, Nat.zero_le, true_and, and_true, ne_eq, not_false_eq_true, Nat.sub_zero, Nat.zero_add, Int.reduceLT, Int.reduceLE, Int.reduceAdd, Int.reduceSub, Int.reduceNeg, Int.reduceMul, Int.reduceToNat, e_nc, Int.reduceEq, Int.reduceNe, not_true_eq_false, not_false_eq_true, forall_const, false_implies, implies_true, Int.reduceGE, Int.reduceGT, Nat.reduceMul, reduceCtorEq, true_implies, true_or, or_true, or_self, Int.toNat_natCast, Nat.zero_ne_one, Nat.one_ne_zero, false_and, and_false, if_false, if_true, and_self, eq_self, Int.lt_irrefl, q_II, q_IJ, q_IL, q_JI, q_JJ, q_JL, q_NI, q_NJ, q_NL, q_RI, q_RJ, q_RL, q_LI, q_LJ, q_LL, v5k]) | (with_reducible show mck _ _ _ _ _ _ _ _; simp only [e_get0, e_getn, e_load0, e_loadn, e_remnil, e_rem0, e_remi, e_remr, e_pnil, e_pcons, e_pc, e_set1, e_isI, e_isR, e_isJ, e_mun, e_mbin, e_mbinJ, e_nil, e_ins, e_exc, e_cond, margs, mcat, e_ceq, e_cne, e_clt, e_cge, e_cgt, e_cle, e_ty0, e_ty1, e_ty2, a_156_0, a_156_44, e_aload_0, e_aload_1, e_cast, e_ck0, e_ckv, e_ckx, e_getf, e_iconst, e_iload_2, e_iload_3, e_istore_3, e_return, f_RX6_10_0, f_RX6_338_9, f_RX6_88_9, j_156_0, j_156_44, k_RX6_103, rm_, rm_i, rm_ii, rm_iii, rm_iiii, rm_iiir, rm_iir, rm_iiri, rm_iirr, rm_ir, rm_iri, rm_irii, rm_irir, rm_irr, rm_irri, rm_irrr, rm_r, rm_ri, rm_rii, rm_riii, rm_riir, rm_rir, rm_riri, rm_rirr, rm_rr, rm_rri, rm_rrii, rm_rrir, rm_rrr, rm_rrri, rm_rrrr, v_RX6_199_0, v_RX6_275_9, v_RX6_335_9, v_RX6_344_3, v_RX6_78, zeq_11_33, Nat.reduceLeDiff, Nat.reduceSub, Nat.reduceAdd, Nat.reduceEqDiff, Nat.le_refl, Nat.zero_le, true_and, and_true, ne_eq, not_false_eq_true, Nat.sub_zero, Nat.zero_add, Int.reduceLT, Int.reduceLE, Int.reduceAdd, Int.reduceSub, Int.reduceNeg, Int.reduceMul, Int.reduceToNat, e_nc, Int.reduceEq, Int.reduceNe, not_true_eq_false, not_false_eq_true, forall_const, false_implies, implies_true, Int.reduceGE, Int.reduceGT, Nat.reduceMul, reduceCtorEq, true_implies, true_or, or_true, or_self, Int.toNat_natCast, Nat.zero_ne_one, Nat.one_ne_zero, false_and, and_false, if_false, if_true, and_self, eq_self, Int.lt_irrefl, q_II, q_IJ, q_IL, q_JI, q_JJ, q_JL, q_NI, q_NJ, q_NL, q_RI, q_RJ, q_RL, q_LI, q_LJ, q_LL, v5k]) | intro _ | omega)
  · obtain ⟨p, hpp⟩ := Int.eq_ofNat_of_zero_le (show 0 ≤ A 45 (3 * s + k) by omega)
    have hp : p < aP A := by omega
    obtain ⟨u1, u2, u3⟩ := RW1_sum hB (hR.2.2.1 p hp)
    have hst2 := hst.2.1
    have u3' : ∀ j, j < 1000 → -1000000 ≤ sI (putI st 10 s k (-1)) 6 p j ∧ sI (putI st 10 s k (-1)) 6 p j ≤ 1000000 := fun j hj => by
      have := u3 j hj
      rw [q_II, if_neg (by omega)]; omega
    have u1' : -1000000 ≤ sI (putI st 10 s k (-1)) 3 p 8 ∧ sI (putI st 10 s k (-1)) 3 p 8 ≤ 1000000 := by rw [q_II, if_neg (by omega)]; omega
    obtain ⟨g1, g2⟩ := RelC_mv (v := -1) (dl := -1) (p := p) hR hs hst hk (Or.inr rfl) ⟨fun _ => rfl, fun _ => hasP_iff.mpr ⟨k, hk, hpp⟩⟩ ⟨fun z => by
        obtain ⟨l, l1, l2⟩ := hasP_iff.mp z
        rw [upA_45] at l2
        by_cases e : l = k
        · rw [if_pos e] at l2; omega
        · rw [if_neg e] at l2
          have := hdi l l1 e (by rw [l2, hpp])
          omega, fun z => absurd z (by omega)⟩ (fun i hi => by
      rw [hasP_iff, hasP_iff]
      constructor
      · rintro ⟨l, l1, l2⟩
        rw [upA_45] at l2
        by_cases e : l = k
        · rw [if_pos e] at l2; omega
        · rw [if_neg e] at l2; exact ⟨l, l1, l2⟩
      · rintro ⟨l, l1, l2⟩
        refine ⟨l, l1, ?_⟩
        rw [upA_45]
        by_cases e : l = k
        · subst e; omega
        · rw [if_neg e]; exact l2)
    rw [if_neg (by omega)] at g1 g2
    have go := h _ g1 g2
    rw [hpp] at v5k
    have v5k2 : sI st 10 s k = (p : Int) := v5k
    obtain ⟨d, rfl, hd⟩ := mdep hd; refine go_156 G (Nat.le_of_ble_eq_true rfl) (fun WW hW => ?_)
    (refine hW _ _ _ _ _ ?_; simp only [e_get0, e_getn, e_load0, e_loadn, e_remnil, e_rem0, e_remi, e_remr, e_pnil, e_pcons, e_pc, e_set1, e_isI, e_isR, e_isJ, e_mun, e_mbin, e_mbinJ, e_nil, e_ins, e_exc, e_cond, margs, mcat, e_ceq, e_cne, e_clt, e_cge, e_cgt, e_cle, e_ty0, e_ty1, e_ty2, a_156_0, a_156_44, e_aload_0, e_aload_1, e_cast, e_ck0, e_ckv, e_ckx, e_getf, e_iconst, e_iload_2, e_iload_3, e_istore_3, e_return, f_RX6_10_0, f_RX6_338_9, f_RX6_88_9, j_156_0, j_156_44, k_RX6_103, rm_, rm_i, rm_ii, rm_iii, rm_iiii, rm_iiir, rm_iir, rm_iiri, rm_iirr, rm_ir, rm_iri, rm_irii, rm_irir, rm_irr, rm_irri, rm_irrr, rm_r, rm_ri, rm_rii, rm_riii, rm_riir, rm_rir, rm_riri, rm_rirr, rm_rr, rm_rri, rm_rrii, rm_rrir, rm_rrr, rm_rrri, rm_rrrr, v_RX6_199_0, v_RX6_275_9, v_RX6_335_9, v_RX6_344_3, v_RX6_78, zeq_11_33, Nat.reduceLeDiff, Nat.reduceSub, Nat.reduceAdd, Nat.reduceEqDiff, Nat.le_refl, Nat.zero_le, true_and, and_true, ne_eq, not_false_eq_true, Nat.sub_zero, Nat.zero_add, Int.reduceLT, Int.reduceLE, Int.reduceAdd, Int.reduceSub, Int.reduceNeg, Int.reduceMul, Int.reduceToNat, e_nc, Int.reduceEq, Int.reduceNe, not_true_eq_false, not_false_eq_true, forall_const, false_implies, implies_true, Int.reduceGE, Int.reduceGT, Nat.reduceMul, reduceCtorEq, true_implies, true_or, or_true, or_self, Int.toNat_natCast, Nat.zero_ne_one, Nat.one_ne_zero, false_and, and_false, if_false, if_true, and_self, eq_self, Int.lt_irrefl, q_II, q_IJ, q_IL, q_JI, q_JJ, q_JL, q_NI, q_NJ, q_NL, q_RI, q_RJ, q_RL, q_LI, q_LJ, q_LL, v5k2, v2, v3])
    repeat' (first | exact go | refine s_75 G (by omega) hk ?_ | refine s_129 G (by omega) hL (fun _ => ?_) (fun z => (by omega)) | refine s_76 G (by omega) hk ?_ | refine g_20 G (hL' _) hp ?_ | refine s_107 G (by omega) (by omega) (by omega) (by omega) u3' u1' ?_ | with_reducible apply And.intro | exact inR_of (by omega) (by omega) | (refine hW _ _ _ _ _ ?_; simp only [e_get0, e_getn, e_load0, e_loadn, e_remnil, e_rem0, e_remi, e_remr, e_pnil, e_pcons, e_pc, e_set1, e_isI, e_isR, e_isJ, e_mun, e_mbin, e_mbinJ, e_nil, e_ins, e_exc, e_cond, margs, mcat, e_ceq, e_cne, e_clt, e_cge, e_cgt, e_cle, e_ty0, e_ty1, e_ty2, a_156_0, a_156_44, e_aload_0, e_aload_1, e_cast, e_ck0, e_ckv, e_ckx, e_getf, e_iconst, e_iload_2, e_iload_3, e_istore_3, e_return, f_RX6_10_0, f_RX6_338_9, f_RX6_88_9, j_156_0, j_156_44, k_RX6_103, rm_, rm_i, rm_ii, rm_iii, rm_iiii, rm_iiir, rm_iir, rm_iiri, rm_iirr, rm_ir, rm_iri, rm_irii, rm_irir, rm_irr, rm_irri, rm_irrr, rm_r, rm_ri, rm_rii, rm_riii, rm_riir, rm_rir, rm_riri, rm_rirr, rm_rr, rm_rri, rm_rrii, rm_rrir, rm_rrr, rm_rrri, rm_rrrr, v_RX6_199_0, v_RX6_275_9, v_RX6_335_9, v_RX6_344_3, v_RX6_78, zeq_11_33, Nat.reduceLeDiff, Nat.reduceSub, Nat.reduceAdd, Nat.reduceEqDiff, Nat.le_refl, Nat.zero_le, true_and, and_true, ne_eq, not_false_eq_true, Nat.sub_zero, Nat.zero_add, Int.reduceLT, Int.reduceLE, Int.reduceAdd, Int.reduceSub, Int.reduceNeg, Int.reduceMul, Int.reduceToNat, e_nc, Int.reduceEq, Int.reduceNe, not_true_eq_false, not_false_eq_true, forall_const, false_implies, implies_true, Int.reduceGE, Int.reduceGT, Nat.reduceMul, reduceCtorEq, true_implies, true_or, or_true, or_self, Int.toNat_natCast, Nat.zero_ne_one, Nat.one_ne_zero, false_and, and_false, if_false, if_true, and_self, eq_self, Int.lt_irrefl, q_II, q_IJ, q_IL, q_JI, q_JJ, q_JL, q_NI, q_NJ, q_NL, q_RI, q_RJ, q_RL, q_LI, q_LJ, q_LL, v5k2, v2, v3]) | (with_reducible show mck _ _ _ _ _ _ _ _; simp only [e_get0, e_getn, e_load0, e_loadn, e_remnil, e_rem0, e_remi, e_remr, e_pnil, e_pcons, e_pc, e_set1, e_isI, e_isR, e_isJ, e_mun, e_mbin, e_mbinJ, e_nil, e_ins, e_exc, e_cond, margs, mcat, e_ceq, e_cne, e_clt, e_cge, e_cgt, e_cle, e_ty0, e_ty1, e_ty2, a_156_0, a_156_44, e_aload_0, e_aload_1, e_cast, e_ck0, e_ckv, e_ckx, e_getf, e_iconst, e_iload_2, e_iload_3, e_istore_3, e_return, f_RX6_10_0, f_RX6_338_9, f_RX6_88_9, j_156_0, j_156_44, k_RX6_103, rm_, rm_i, rm_ii, rm_iii, rm_iiii, rm_iiir, rm_iir, rm_iiri, rm_iirr, rm_ir, rm_iri, rm_irii, rm_irir, rm_irr, rm_irri, rm_irrr, rm_r, rm_ri, rm_rii, rm_riii, rm_riir, rm_rir, rm_riri, rm_rirr, rm_rr, rm_rri, rm_rrii, rm_rrir, rm_rrr, rm_rrri, rm_rrrr, v_RX6_199_0, v_RX6_275_9, v_RX6_335_9, v_RX6_344_3, v_RX6_78, zeq_11_33, Nat.reduceLeDiff, Nat.reduceSub, Nat.reduceAdd, Nat.reduceEqDiff, Nat.le_refl, Nat.zero_le, true_and, and_true, ne_eq, not_false_eq_true, Nat.sub_zero, Nat.zero_add, Int.reduceLT, Int.reduceLE, Int.reduceAdd, Int.reduceSub, Int.reduceNeg, Int.reduceMul, Int.reduceToNat, e_nc, Int.reduceEq, Int.reduceNe, not_true_eq_false, not_false_eq_true, forall_const, false_implies, implies_true, Int.reduceGE, Int.reduceGT, Nat.reduceMul, reduceCtorEq, true_implies, true_or, or_true, or_self, Int.toNat_natCast, Nat.zero_ne_one, Nat.one_ne_zero, false_and, and_false, if_false, if_true, and_self, eq_self, Int.lt_irrefl, q_II, q_IJ, q_IL, q_JI, q_JJ, q_JL, q_NI, q_NJ, q_NL, q_RI, q_RJ, q_RL, q_LI, q_LJ, q_LL, v5k2, v2, v3]) | intro _ | omega)
