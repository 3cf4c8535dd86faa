/-! EVERY CALL keeps what holds of every office, first part: people -/
theorem OA_gen {A B : oA} (h : OA A) (hX : ∀ k j, 39 ≤ k → B k j = A k j) (h1 : A 30 1 ≤ B 30 1) (h2 : B 30 2 = A 30 2) (h3 : B 30 3 = A 30 3) (hB : oBnd B) (hc : oCert B) (hd : oDays B) (hr : oCrs B) : OA B := by
  have eS : aS B = aS A := by unfold aS; rw [h2]
  have eV : aV B = aV A := by unfold aV; rw [h3]
  have eP : aP A ≤ aP B := by unfold aP; omega
  have esh : ∀ s, shN B s = shN A s := fun s => by unfold shN; rw [hX _ _ (by omega)]
  have eps : ∀ s, psN B s = psN A s := fun s => by unfold psN; rw [esh, hX _ _ (by omega)]
  have ehas : ∀ s p, hasP B s p ↔ hasP A s p := fun s p => by unfold hasP; rw [hX _ _ (by omega), hX _ _ (by omega), hX _ _ (by omega)]
  have ecov : ∀ s x, covS B s x ↔ covS A s x := fun s x => by unfold covS; rw [hX _ _ (by omega), hX _ _ (by omega)]
  obtain ⟨-, -, -, -, hSh, hSt, hCw, hNo⟩ := h
  refine ⟨hB, hc, hd, hr, ?_, fun s hs => ?_, fun s hs => ?_, ?_⟩
  · unfold oShp at hSh ⊢
    intro j hj
    rw [eS] at hj
    have := hSh j hj
    rw [hX 39 j (by omega)]
    exact ⟨this.1, fun k hk => by rw [hX 40 _ (by omega)]; exact this.2 k hk⟩
  · rw [eV] at hs
    have := hSt s hs
    unfold oSt at this ⊢
    rw [eS, hX 41 s (by omega), hX 42 s (by omega), hX 43 s (by omega), hX 44 s (by omega)]; exact this
  · rw [eV] at hs
    have := hCw s hs
    unfold oCrw at this ⊢
    rw [eps, hX 44 s (by omega)]
    refine ⟨fun k hk => ?_, fun k hk hp => ?_, fun k l hk hl hkl he => ?_, fun z k hk => ?_, fun z k hk => ?_⟩
    · rw [hX 45 _ (by omega)]; have := this.1 k hk; omega
    · rw [hX 45 _ (by omega)]; exact this.2.1 k hk hp
    · rw [hX 45 _ (by omega), hX 45 _ (by omega)] at he; rw [hX 45 _ (by omega)]; exact this.2.2.1 k l hk hl hkl he
    · rw [hX 45 _ (by omega)]; exact this.2.2.2.1 z k hk
    · rw [hX 45 _ (by omega)]; exact this.2.2.2.2 z k hk
  · intro a b p x ha hb hab hp q1 q2 q3 q4
    rw [eV] at ha hb
    rw [ehas] at q1 q2
    rw [ecov] at q3 q4
    exact hNo a b p x ha hb hab hp q1 q2 q3 q4
theorem OA_day {A : oA} {x : Int} (h : OA A) (hx : 1 ≤ x ∧ x ≤ 24) : OA (upA A 30 5 x) := by
  have hA := h
  obtain ⟨hB, hC, hD, hCr, -⟩ := h
  refine OA_gen hA (fun k j hk => upA_ne (by omega)) (by rw [upA_ne (by omega)]; exact Int.le_refl _) (upA_ne (by omega)) (upA_ne (by omega)) ?_ ?_ ?_ ?_
  · unfold oBnd at hB ⊢
    rw [upA_ne (by omega), upA_ne (by omega), upA_ne (by omega), upA_ne (by omega), upA_eq, upA_ne (by omega)]
    exact ⟨hB.1, hB.2.1, hB.2.2.1, hB.2.2.2.1, hx, hB.2.2.2.2.2⟩
  · exact hC
  · exact hD
  · exact hCr
theorem OA_week {A : oA} {x : Int} (h : OA A) (hx : 1 ≤ x ∧ x ≤ 168) : OA (upA A 30 6 x) := by
  have hA := h
  obtain ⟨hB, hC, hD, hCr, -⟩ := h
  refine OA_gen hA (fun k j hk => upA_ne (by omega)) (by rw [upA_ne (by omega)]; exact Int.le_refl _) (upA_ne (by omega)) (upA_ne (by omega)) ?_ ?_ ?_ ?_
  · unfold oBnd at hB ⊢
    rw [upA_ne (by omega), upA_ne (by omega), upA_ne (by omega), upA_ne (by omega), upA_ne (by omega), upA_eq]
    exact ⟨hB.1, hB.2.1, hB.2.2.1, hB.2.2.2.1, hB.2.2.2.2.1, hx⟩
  · exact hC
  · exact hD
  · exact hCr
theorem OA_setDay {A : oA} {x : Int} (h : OA A) : OA (oSetDay A x).2.2 := by
  unfold oSetDay
  by_cases c : 1 ≤ x ∧ x ≤ 24
  · rw [oif_pos c]; exact OA_day h c
  · rw [oif_neg c]; exact h
theorem OA_setWeek {A : oA} {x : Int} (h : OA A) : OA (oSetWeek A x).2.2 := by
  unfold oSetWeek
  by_cases c : 1 ≤ x ∧ x ≤ 168
  · rw [oif_pos c]; exact OA_week h c
  · rw [oif_neg c]; exact h
theorem OA_addPerson {A : oA} (h : OA A) : OA (oAddPerson A).2.2 := by
  unfold oAddPerson
  by_cases c : 8 ≤ A 30 1
  · rw [oif_pos c]; exact h
  · rw [oif_neg c]
    have hA := h
    obtain ⟨hB, hC, hD, hCr, -⟩ := h
    have eP : aP (upA A 30 1 (A 30 1 + 1)) = aP A + 1 := by unfold aP; rw [upA_eq]; have := hB.1; omega
    have eA : ∀ k j, k ≠ 30 → upA A 30 1 (A 30 1 + 1) k j = A k j := fun k j hk => upA_ne (by omega)
    show OA (upA A 30 1 (A 30 1 + 1))
    refine OA_gen hA (fun k j hk => upA_ne (by omega)) (by show _ ≤ upA A 30 1 (A 30 1 + 1) 30 1; rw [upA_eq]; omega) (upA_ne (by omega)) (upA_ne (by omega)) ?_ ?_ ?_ ?_
    · show oBnd (upA A 30 1 (A 30 1 + 1))
      unfold oBnd at hB ⊢
      rw [upA_eq, upA_ne (by omega), upA_ne (by omega), upA_ne (by omega), upA_ne (by omega), upA_ne (by omega)]
      exact ⟨by omega, hB.2⟩
    · show oCert (upA A 30 1 (A 30 1 + 1))
      refine ⟨fun a => by rw [eA _ _ (by omega)]; exact hC.1 a, fun a ha => by rw [eA _ _ (by omega)]; exact hC.2.1 a (by omega), fun a ha => ?_⟩
      rw [eA _ _ (by omega)] at ha
      rw [eA _ _ (by omega), eA _ _ (by omega), upA_ne (by omega)]; exact hC.2.2 a ha
    · show oDays (upA A 30 1 (A 30 1 + 1))
      refine ⟨fun a => by rw [eA _ _ (by omega)]; exact hD.1 a, fun a => by rw [eA _ _ (by omega)]; exact hD.2.1 a, fun a ha => by rw [eA _ _ (by omega), eA _ _ (by omega)]; exact hD.2.2 a (by omega)⟩
    · show oCrs (upA A 30 1 (A 30 1 + 1))
      refine ⟨fun a => by rw [eA _ _ (by omega)]; exact hCr.1 a, fun a ha => by rw [eA _ _ (by omega)]; exact hCr.2.1 a (by omega), fun a ha => ?_⟩
      rw [eA _ _ (by omega)] at ha
      rw [eA _ _ (by omega), eA _ _ (by omega)]; exact hCr.2.2 a ha
theorem OA_pers {A B : oA} (h : OA A) (hX : ∀ k j, k = 30 ∨ 39 ≤ k → B k j = A k j) (hc : oCert B) (hd : oDays B) (hr : oCrs B) : OA B := by
  refine OA_gen h (fun k j hk => hX k j (by omega)) (by rw [hX 30 1 (by omega)]; exact Int.le_refl _) (hX 30 2 (by omega)) (hX 30 3 (by omega)) ?_ hc hd hr
  have := h.1
  unfold oBnd at this ⊢
  simp only [hX 30 _ (Or.inl rfl)]
  exact this
theorem cert_up {A : oA} {a0 : Nat} {f l : Int} (h : oCert A) (ha : a0 < 4 * aP A) (hf : 0 ≤ f ∧ f ≤ 1000) (hl : 0 ≤ l ∧ l ≤ 110 + 30 * (A 30 4 / 24)) : oCert (upC A a0 f l) := by
  have eP : aP (upC A a0 f l) = aP A := by unfold aP upC; rw [upA_ne (by omega), upA_ne (by omega), upA_ne (by omega)]
  have e30 : upC A a0 f l 30 4 = A 30 4 := by unfold upC; rw [upA_ne (by omega), upA_ne (by omega), upA_ne (by omega)]
  have e31 : ∀ a, upC A a0 f l 31 a = if a = a0 then 1 else A 31 a := fun a => by
    unfold upC
    rw [upA_ne (by omega), upA_ne (by omega)]
    by_cases e : a = a0
    · subst e; rw [upA_eq, if_pos rfl]
    · rw [upA_ne (fun z => e z.2), if_neg e]
  have e35 : ∀ a, upC A a0 f l 35 a = if a = a0 then f else A 35 a := fun a => by
    unfold upC
    rw [upA_ne (by omega)]
    by_cases e : a = a0
    · subst e; rw [upA_eq, if_pos rfl]
    · rw [upA_ne (fun z => e z.2), if_neg e, upA_ne (by omega)]
  have e36 : ∀ a, upC A a0 f l 36 a = if a = a0 then l else A 36 a := fun a => by
    unfold upC
    by_cases e : a = a0
    · subst e; rw [upA_eq, if_pos rfl]
    · rw [upA_ne (fun z => e z.2), if_neg e, upA_ne (by omega), upA_ne (by omega)]
  refine ⟨fun a => ?_, fun a hq => ?_, fun a hq => ?_⟩
  · rw [e31]
    by_cases e : a = a0
    · rw [if_pos e]; exact Or.inr rfl
    · rw [if_neg e]; exact h.1 a
  · rw [eP] at hq
    rw [e31, if_neg (by omega)]; exact h.2.1 a hq
  · rw [e31] at hq
    rw [e35, e36, e30]
    by_cases e : a = a0
    · rw [if_pos e, if_pos e]; exact ⟨hf, hl⟩
    · rw [if_neg e] at hq
      rw [if_neg e, if_neg e]; exact h.2.2 a hq
theorem OA_grant {A : oA} {p k n : Int} (h : OA A) : OA (oGrant A p k n).2.2 := by
  unfold oGrant isPs isKd
  by_cases c1 : 0 ≤ p ∧ p < A 30 1
  · rw [oif_pos c1]
    by_cases c2 : (0 ≤ k ∧ k < 4) ∧ 1 ≤ n ∧ n ≤ 60
    · rw [oif_pos c2]
      by_cases c3 : A 31 (ix4 p k) = 1 ∧ oTd A ≤ A 36 (ix4 p k)
      · rw [oif_pos c3]; exact h
      · rw [oif_neg c3]
        have hT := h.1.2.2.2.1
        have hP := aP_eq h.1
        have ht : 0 ≤ oTd A ∧ oTd A ≤ 41 ∧ oTd A = A 30 4 / 24 := by unfold oTd; omega
        show OA (upC A (ix4 p k) (oTd A) (oTd A + n - 1))
        refine OA_pers h (fun k' j hk => by unfold upC; rw [upA_ne (by omega), upA_ne (by omega), upA_ne (by omega)]) (cert_up h.2.1 (by unfold ix4; omega) (by omega) (by omega)) ?_ ?_
        · exact h.2.2.1
        · exact h.2.2.2.1
    · rw [oif_neg c2]; exact h
  · rw [oif_neg c1]; exact h
theorem OA_renew {A : oA} {p k n : Int} (h : OA A) : OA (oRenew A p k n).2.2 := by
  unfold oRenew isPs isKd
  by_cases c1 : 0 ≤ p ∧ p < A 30 1
  · rw [oif_pos c1]
    by_cases c2 : (0 ≤ k ∧ k < 4) ∧ 1 ≤ n ∧ n ≤ 60
    · rw [oif_pos c2]
      by_cases c3 : A 31 (ix4 p k) = 1
      · rw [oif_pos c3]
        by_cases c4 : A 36 (ix4 p k) < oTd A ∨ oTd A < A 36 (ix4 p k) - 9
        · rw [oif_pos c4]; exact h
        · rw [oif_neg c4]
          have hT := h.1.2.2.2.1
          have ht : 0 ≤ oTd A ∧ oTd A ≤ 41 ∧ oTd A = A 30 4 / 24 := by unfold oTd; omega
          show OA (upA A 36 (ix4 p k) (A 36 (ix4 p k) + n))
          refine OA_pers h (fun k' j hk => upA_ne (by omega)) ⟨h.2.1.1, h.2.1.2.1, fun a ha => ?_⟩ h.2.2.1 h.2.2.2.1
          rw [upA_ne (by omega)] at ha
          have ho := h.2.1.2.2 a ha
          rw [show upA A 36 (ix4 p k) (A 36 (ix4 p k) + n) 35 a = A 35 a from upA_ne (by omega), show upA A 36 (ix4 p k) (A 36 (ix4 p k) + n) 30 4 = A 30 4 from upA_ne (by omega)]
          by_cases e : a = ix4 p k
          · subst e; rw [upA_eq]; exact ⟨ho.1, by omega⟩
          · rw [upA_ne (fun z => e z.2)]; exact ho
      · rw [oif_neg c3]; exact h
    · rw [oif_neg c2]; exact h
  · rw [oif_neg c1]; exact h
theorem days_set {A : oA} {k0 p : Nat} {a b v : Int} (h : oDays A) (hk : k0 = 32 ∨ k0 = 33) (hp : p < aP A) (hv : v = 0 ∨ v = 1) : oDays (setB A k0 p a b v) := by
  have eP : aP (setB A k0 p a b v) = aP A := by unfold aP; rw [setB_ne (by omega)]
  have hv2 : ∀ k j, setB A k0 p a b v k j = A k j ∨ setB A k0 p a b v k j = v := fun k j => by
    unfold setB
    split
    · exact Or.inr rfl
    · exact Or.inl rfl
  refine ⟨fun j => ?_, fun j => ?_, fun j hj => ?_⟩
  · rcases hv2 32 j with e | e <;> rw [e]
    · exact h.1 j
    · exact hv
  · rcases hv2 33 j with e | e <;> rw [e]
    · exact h.2.1 j
    · exact hv
  · rw [eP] at hj
    have e : ∀ k, setB A k0 p a b v k j = A k j := fun k => if_neg (by omega)
    rw [e, e]; exact h.2.2 j hj
theorem OA_callSick {A : oA} {p n : Int} (h : OA A) : OA (oCallSick A p n).2.2 := by
  unfold oCallSick isPs
  by_cases c1 : 0 ≤ p ∧ p < A 30 1
  · rw [oif_pos c1]
    by_cases c2 : 1 ≤ n ∧ n ≤ 20
    · rw [oif_pos c2]
      have hP := aP_eq h.1
      exact OA_pers h (fun k' j hk => setB_ne (by omega)) h.2.1 (days_set h.2.2.1 (Or.inl rfl) (by omega) (Or.inr rfl)) h.2.2.2.1
    · rw [oif_neg c2]; exact h
  · rw [oif_neg c1]; exact h
theorem OA_recover {A : oA} {p : Int} (h : OA A) : OA (oRecover A p).2.2 := by
  unfold oRecover isPs
  by_cases c1 : 0 ≤ p ∧ p < A 30 1
  · rw [oif_pos c1]
    by_cases c2 : cntB A 32 p.toNat (oTd A) = 0
    · rw [oif_pos c2]; exact h
    · rw [oif_neg c2]
      have hP := aP_eq h.1
      exact OA_pers h (fun k' j hk => setB_ne (by omega)) h.2.1 (days_set h.2.2.1 (Or.inl rfl) (by omega) (Or.inl rfl)) h.2.2.2.1
  · rw [oif_neg c1]; exact h
theorem OA_leave {A : oA} {p : Int} (h : OA A) : OA (oLeave A p).2.2 := by
  unfold oLeave isPs
  by_cases c1 : 0 ≤ p ∧ p < A 30 1
  · rw [oif_pos c1]
    by_cases c2 : A 34 p.toNat = 1
    · rw [oif_pos c2]
      have hP := aP_eq h.1
      have eP : aP (upA A 34 p.toNat 0) = aP A := by unfold aP; rw [upA_ne (by omega)]
      have hd : oDays (upA A 34 p.toNat 0) := h.2.2.1
      refine OA_pers h (fun k' j hk => (setB_ne (by omega)).trans (upA_ne (by omega))) h.2.1 (days_set hd (Or.inr rfl) (by rw [eP]; omega) (Or.inl rfl)) ⟨fun j => ?_, fun j hj => ?_, fun j hj => ?_⟩
      · show setB (upA A 34 p.toNat 0) 33 p.toNat (oTd A) 41 0 34 j = 0 ∨ setB (upA A 34 p.toNat 0) 33 p.toNat (oTd A) 41 0 34 j = 1
        rw [setB_ne (by omega)]
        by_cases e : j = p.toNat
        · subst e; rw [upA_eq]; exact Or.inl rfl
        · rw [upA_ne (fun z => e z.2)]; exact h.2.2.2.1.1 j
      · show setB (upA A 34 p.toNat 0) 33 p.toNat (oTd A) 41 0 34 j = 0
        rw [setB_ne (by omega)]
        by_cases e : j = p.toNat
        · subst e; rw [upA_eq]
        · rw [upA_ne (fun z => e z.2)]; exact h.2.2.2.1.2.1 j hj
      · have hj : setB (upA A 34 p.toNat 0) 33 p.toNat (oTd A) 41 0 34 j = 1 := hj
        rw [setB_ne (by omega)] at hj
        by_cases e : j = p.toNat
        · subst e; rw [upA_eq] at hj; omega
        · rw [upA_ne (fun z => e z.2)] at hj
          exact h.2.2.2.1.2.2 j hj
    · rw [oif_neg c2]; exact h
  · rw [oif_neg c1]; exact h
theorem OA_enroll {A : oA} {p k f n : Int} (h : OA A) : OA (oEnroll A p k f n).2.2 := by
  unfold oEnroll isPs isKd
  by_cases c1 : 0 ≤ p ∧ p < A 30 1
  · rw [oif_pos c1]
    by_cases c2 : (0 ≤ k ∧ k < 4) ∧ oTd A < f ∧ f ≤ 41 ∧ 1 ≤ n ∧ n ≤ 10 ∧ f + n - 1 ≤ 41
    · rw [oif_pos c2]
      by_cases c3 : A 34 p.toNat = 1
      · rw [oif_pos c3]; exact h
      · rw [oif_neg c3]
        have hP := aP_eq h.1
        have hT := h.1.2.2.2.1
        have ht : 0 ≤ oTd A := by unfold oTd; omega
        obtain ⟨B, hB⟩ : ∃ B, B = upA (upA (upA A 34 p.toNat 1) 37 p.toNat k) 38 p.toNat (f + n - 1) := ⟨_, rfl⟩
        have eB : ∀ k' j, k' ≠ 34 → k' ≠ 37 → k' ≠ 38 → B k' j = A k' j := fun k' j h1 h2 h3 => by rw [hB, upA_ne (by omega), upA_ne (by omega), upA_ne (by omega)]
        have eP : aP B = aP A := by unfold aP; rw [eB _ _ (by omega) (by omega) (by omega)]
        have hd : oDays B := by
          have := h.2.2.1
          unfold oDays at this ⊢
          simp only [eP, eB 32 _ (by omega) (by omega) (by omega), eB 33 _ (by omega) (by omega) (by omega)]
          exact this
        have hc : oCert B := by
          have := h.2.1
          unfold oCert at this ⊢
          simp only [eP, eB 30 _ (by omega) (by omega) (by omega), eB 31 _ (by omega) (by omega) (by omega), eB 35 _ (by omega) (by omega) (by omega), eB 36 _ (by omega) (by omega) (by omega)]
          exact this
        show OA (setB (upA (upA (upA A 34 p.toNat 1) 37 p.toNat k) 38 p.toNat (f + n - 1)) 33 p.toNat f (f + n - 1) 1)
        rw [← hB]
        have eS : ∀ k' j, k' ≠ 33 → setB B 33 p.toNat f (f + n - 1) 1 k' j = B k' j := fun k' j hk => setB_ne hk
        have ePS : aP (setB B 33 p.toNat f (f + n - 1) 1) = aP A := by unfold aP; rw [eS _ _ (by omega)]; exact eP
        refine OA_pers h (fun k' j hk => (eS _ _ (by omega)).trans (eB _ _ (by omega) (by omega) (by omega))) ?_ (days_set hd (Or.inr rfl) (by rw [eP]; omega) (Or.inr rfl)) ⟨fun j => ?_, fun j hj => ?_, fun j hj => ?_⟩
        · unfold oCert at hc ⊢
          simp only [ePS, eS 30 _ (show 30 ≠ 33 by omega), eS 31 _ (show 31 ≠ 33 by omega), eS 35 _ (show 35 ≠ 33 by omega), eS 36 _ (show 36 ≠ 33 by omega)]
          rw [eP] at hc
          exact hc
        · rw [eS _ _ (by omega), hB, upA_ne (by omega), upA_ne (by omega)]
          by_cases e : j = p.toNat
          · subst e; rw [upA_eq]; exact Or.inr rfl
          · rw [upA_ne (fun z => e z.2)]; exact h.2.2.2.1.1 j
        · rw [ePS] at hj
          rw [eS _ _ (by omega), hB, upA_ne (by omega), upA_ne (by omega), upA_ne (by omega)]; exact h.2.2.2.1.2.1 j hj
        · rw [eS _ _ (by omega), hB, upA_ne (by omega), upA_ne (by omega)] at hj
          rw [eS _ _ (by omega), eS _ _ (by omega), hB]
          by_cases e : j = p.toNat
          · subst e
            rw [upA_ne (by omega), upA_eq, upA_eq]; exact ⟨c2.1, by omega⟩
          · rw [upA_ne (fun z => e z.2)] at hj
            rw [upA_ne (by omega), upA_ne (fun z => e z.2), upA_ne (by omega), upA_ne (fun z => e z.2), upA_ne (by omega), upA_ne (by omega)]
            exact h.2.2.2.1.2.2 j hj
    · rw [oif_neg c2]; exact h
  · rw [oif_neg c1]; exact h
