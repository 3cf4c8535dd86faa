/-! EVERY CALL keeps what holds of every office, second part: ships and sailings -/
theorem OA_addShip {A : oA} {k : Int} (h : OA A) : OA (oAddShip A k).2.2 := by
  unfold oAddShip isKd
  by_cases c1 : 0 ≤ k ∧ k < 4
  · rw [oif_pos c1]
    by_cases c : 4 ≤ A 30 2
    · rw [oif_pos c]; exact h
    · rw [oif_neg c]
      show OA (shipA A k)
      have hS := aS_eq h.1
      have eP : aP (shipA A k) = aP A := by unfold aP; rw [shipA_ne (by omega) (by omega) (by omega)]
      have eS : aS (shipA A k) = aS A + 1 := by
        unfold aS shipA; rw [upA_eq]; have := h.1.2.1; omega
      have eV : aV (shipA A k) = aV A := by unfold aV; rw [shipA_ne (by omega) (by omega) (by omega)]
      have eA : ∀ a j, a ≠ 30 → a ≠ 39 → a ≠ 40 → shipA A k a j = A a j := fun a j h1 h2 h3 => shipA_ne (by omega) (by omega) (by omega)
      have e30 : ∀ j, j ≠ 2 → shipA A k 30 j = A 30 j := fun j hj => shipA_ne (by omega) (by omega) (by omega)
      have e302 : shipA A k 30 2 = A 30 2 + 1 := by unfold shipA; rw [upA_eq]
      obtain ⟨hB, hC, hD, hCr, hSh, hSt, hCw, hNo⟩ := h
      have esh : ∀ s, shN (shipA A k) s = shN A s := fun s => by unfold shN; rw [eA _ _ (by omega) (by omega) (by omega)]
      have hlt : ∀ s, s < aV A → shN A s < aS A := fun s hs => by have := (hSt s hs).1; unfold shN; omega
      have e39 : ∀ j, j ≠ aS A → shipA A k 39 j = A 39 j := fun j hj => shipA_ne (by omega) (by omega) (by omega)
      have eps : ∀ s, s < aV A → psN (shipA A k) s = psN A s := fun s hs => by unfold psN; rw [esh, e39 _ (by have := hlt s hs; omega)]
      refine ⟨?_, ?_, ?_, ?_, ?_, fun s hs => ?_, fun s hs => ?_, ?_⟩
      · unfold oBnd at hB ⊢
        rw [e30 1 (by omega), e302, e30 3 (by omega), e30 4 (by omega), e30 5 (by omega), e30 6 (by omega)]
        exact ⟨hB.1, by omega, hB.2.2⟩
      · unfold oCert at hC ⊢
        simp only [eP, e30 4 (by omega), eA 31 _ (by omega) (by omega) (by omega), eA 35 _ (by omega) (by omega) (by omega), eA 36 _ (by omega) (by omega) (by omega)]; exact hC
      · unfold oDays at hD ⊢
        simp only [eP, eA 32 _ (by omega) (by omega) (by omega), eA 33 _ (by omega) (by omega) (by omega)]; exact hD
      · unfold oCrs at hCr ⊢
        simp only [eP, eA 34 _ (by omega) (by omega) (by omega), eA 37 _ (by omega) (by omega) (by omega), eA 38 _ (by omega) (by omega) (by omega)]; exact hCr
      · intro j hj
        rw [eS] at hj
        by_cases e : j = aS A
        · subst e
          have q : shipA A k 39 (aS A) = 1 := by unfold shipA; rw [upA_ne (by omega), upA_ne (by omega), upA_eq]
          rw [q]
          refine ⟨by omega, fun x hx => ?_⟩
          have ex : x = 0 := by omega
          subst ex
          have q2 : shipA A k 40 (3 * aS A + 0) = k := by unfold shipA; rw [upA_ne (by omega), Nat.add_zero, upA_eq]
          rw [q2]; exact c1
        · have := hSh j (by omega)
          rw [e39 j e]
          refine ⟨this.1, fun x hx => ?_⟩
          rw [shipA_ne (by omega) (by omega) (by omega)]
          exact this.2 x hx
      · rw [eV] at hs
        have := hSt s hs
        unfold oSt at this ⊢
        rw [eS, eA 41 s (by omega) (by omega) (by omega), eA 42 s (by omega) (by omega) (by omega), eA 43 s (by omega) (by omega) (by omega), eA 44 s (by omega) (by omega) (by omega)]
        exact ⟨by omega, this.2⟩
      · rw [eV] at hs
        have := hCw s hs
        unfold oCrw at this ⊢
        simp only [eP, eps s hs, eA 44 _ (by omega) (by omega) (by omega), eA 45 _ (by omega) (by omega) (by omega)]; exact this
      · unfold oNo hasP covS at hNo ⊢
        simp only [eV, eA 45 _ (by omega) (by omega) (by omega), eA 42 _ (by omega) (by omega) (by omega), eA 43 _ (by omega) (by omega) (by omega)]; exact hNo
  · rw [oif_neg c1]; exact h
theorem OA_addPost {A : oA} {j k : Int} (h : OA A) : OA (oAddPost A j k).2.2 := by
  unfold oAddPost isKd isSh
  by_cases c1 : 0 ≤ j ∧ j < A 30 2
  · rw [oif_pos c1]
    by_cases c2 : 0 ≤ k ∧ k < 4
    · rw [oif_pos c2]
      by_cases c3 : 3 ≤ A 39 j.toNat ∨ isUsd A j.toNat
      · rw [oif_pos c3]; exact h
      · rw [oif_neg c3]
        have hS := aS_eq h.1
        obtain ⟨i, hi⟩ : ∃ i, i = j.toNat := ⟨_, rfl⟩
        rw [← hi] at c3 ⊢
        have hi2 : i < aS A := by omega
        obtain ⟨hB, hC, hD, hCr, hSh, hSt, hCw, hNo⟩ := h
        have h39 := (hSh i hi2).1
        obtain ⟨B, hBB⟩ : ∃ B, B = upA (upA A 40 (3 * i + (A 39 i).toNat) k) 39 i (A 39 i + 1) := ⟨_, rfl⟩
        show OA (upA (upA A 40 (3 * i + (A 39 i).toNat) k) 39 i (A 39 i + 1))
        rw [← hBB]
        have eA : ∀ a x, a ≠ 39 → a ≠ 40 → B a x = A a x := fun a x h1 h2 => by rw [hBB, upA_ne (by omega), upA_ne (by omega)]
        have eP : aP B = aP A := by unfold aP; rw [eA _ _ (by omega) (by omega)]
        have eS : aS B = aS A := by unfold aS; rw [eA _ _ (by omega) (by omega)]
        have eV : aV B = aV A := by unfold aV; rw [eA _ _ (by omega) (by omega)]
        have e39 : ∀ x, x ≠ i → B 39 x = A 39 x := fun x hx => by rw [hBB, upA_ne (by omega), upA_ne (by omega)]
        have e39i : B 39 i = A 39 i + 1 := by rw [hBB, upA_eq]
        have esh : ∀ s, shN B s = shN A s := fun s => by unfold shN; rw [eA _ _ (by omega) (by omega)]
        have hne : ∀ s, s < aV A → shN A s ≠ i := fun s hs e => c3 (Or.inr ⟨s, hs, by have := (hSt s hs).1; unfold shN at e; omega⟩)
        have eps : ∀ s, s < aV A → psN B s = psN A s := fun s hs => by unfold psN; rw [esh, e39 _ (hne s hs)]
        refine ⟨?_, ?_, ?_, ?_, ?_, fun s hs => ?_, fun s hs => ?_, ?_⟩
        · unfold oBnd at hB ⊢
          simp only [eA 30 _ (show 30 ≠ 39 by omega) (show 30 ≠ 40 by omega)]; exact hB
        · unfold oCert at hC ⊢
          simp only [eP, eA 30 _ (show 30 ≠ 39 by omega) (show 30 ≠ 40 by omega), eA 31 _ (show 31 ≠ 39 by omega) (show 31 ≠ 40 by omega), eA 35 _ (show 35 ≠ 39 by omega) (show 35 ≠ 40 by omega), eA 36 _ (show 36 ≠ 39 by omega) (show 36 ≠ 40 by omega)]; exact hC
        · unfold oDays at hD ⊢
          simp only [eP, eA 32 _ (show 32 ≠ 39 by omega) (show 32 ≠ 40 by omega), eA 33 _ (show 33 ≠ 39 by omega) (show 33 ≠ 40 by omega)]; exact hD
        · unfold oCrs at hCr ⊢
          simp only [eP, eA 34 _ (show 34 ≠ 39 by omega) (show 34 ≠ 40 by omega), eA 37 _ (show 37 ≠ 39 by omega) (show 37 ≠ 40 by omega), eA 38 _ (show 38 ≠ 39 by omega) (show 38 ≠ 40 by omega)]; exact hCr
        · intro x hx
          rw [eS] at hx
          by_cases e : x = i
          · subst e
            rw [e39i]
            refine ⟨by omega, fun y hy => ?_⟩
            by_cases ey : y = (A 39 x).toNat
            · rw [ey, hBB, upA_ne (by omega), upA_eq]; exact c2
            · rw [hBB, upA_ne (by omega), upA_ne (by omega)]
              exact (hSh x hi2).2 y (by omega)
          · have h2 := hSh x hx
            rw [e39 x e]
            refine ⟨h2.1, fun y hy => ?_⟩
            rw [hBB, upA_ne (by omega), upA_ne (by omega)]
            exact h2.2 y hy
        · rw [eV] at hs
          have := hSt s hs
          unfold oSt at this ⊢
          rw [eS, eA 41 s (by omega) (by omega), eA 42 s (by omega) (by omega), eA 43 s (by omega) (by omega), eA 44 s (by omega) (by omega)]
          exact this
        · rw [eV] at hs
          have := hCw s hs
          unfold oCrw at this ⊢
          simp only [eP, eps s hs, eA 44 _ (show 44 ≠ 39 by omega) (show 44 ≠ 40 by omega), eA 45 _ (show 45 ≠ 39 by omega) (show 45 ≠ 40 by omega)]; exact this
        · unfold oNo hasP covS at hNo ⊢
          simp only [eV, eA 45 _ (show 45 ≠ 39 by omega) (show 45 ≠ 40 by omega), eA 42 _ (show 42 ≠ 39 by omega) (show 42 ≠ 40 by omega), eA 43 _ (show 43 ≠ 39 by omega) (show 43 ≠ 40 by omega)]; exact hNo
    · rw [oif_neg c2]; exact h
  · rw [oif_neg c1]; exact h
theorem OA_plan {A : oA} {j f n : Int} (h : OA A) : OA (oPlan A j f n).2.2 := by
  unfold oPlan isSh
  by_cases c1 : 0 ≤ j ∧ j < A 30 2
  · rw [oif_pos c1]
    by_cases c2 : A 30 4 < f ∧ f ≤ 999 ∧ 1 ≤ n ∧ n ≤ 12 ∧ f + n ≤ 999
    · rw [oif_pos c2]
      by_cases c3 : 24 ≤ A 30 3 ∨ ∃ t, t < aV A ∧ inWay A j.toNat f (f + n) t
      · rw [oif_pos c3]; exact h
      · rw [oif_neg c3]
        show OA (planA A j f n)
        have hS := aS_eq h.1
        obtain ⟨hB, hC, hD, hCr, hSh, hSt, hCw, hNo⟩ := h
        have hT := hB.2.2.2.1
        have eV := plan_V (j := j) (f := f) (h := n) hB
        have eP : aP (planA A j f n) = aP A := by unfold aP; rw [planA_ne (by omega) (by omega) (by omega)]
        have eS : aS (planA A j f n) = aS A := by unfold aS; rw [planA_ne (by omega) (by omega) (by omega)]
        have eA : ∀ a b, 31 ≤ a ∧ a ≤ 40 → planA A j f n a b = A a b := fun a b h => planA_ne (by omega) (by omega) (by omega)
        have e30 : ∀ b, b ≠ 3 → planA A j f n 30 b = A 30 b := fun b h => planA_ne (by omega) (by omega) (by omega)
        have e303 : planA A j f n 30 3 = A 30 3 + 1 := if_pos ⟨rfl, rfl⟩
        have eo : ∀ a s, 41 ≤ a ∧ a ≤ 44 → s < aV A → planA A j f n a s = A a s := fun a s h1 h2 => planA_ne (by omega) (by omega) (by omega)
        have eo45 : ∀ s k, s < aV A → k < 3 → planA A j f n 45 (3 * s + k) = A 45 (3 * s + k) := fun s k h1 h2 => planA_ne (by omega) (by omega) (by omega)
        have q41 : planA A j f n 41 (aV A) = j := by unfold planA; rw [if_neg (by omega), if_pos ⟨rfl, rfl⟩]
        have q42 : planA A j f n 42 (aV A) = f := by unfold planA; rw [if_neg (by omega), if_neg (by omega), if_pos ⟨rfl, rfl⟩]
        have q43 : planA A j f n 43 (aV A) = n := by unfold planA; rw [if_neg (by omega), if_neg (by omega), if_neg (by omega), if_pos ⟨rfl, rfl⟩]
        have q44 : planA A j f n 44 (aV A) = 112 := by unfold planA; rw [if_neg (by omega), if_neg (by omega), if_neg (by omega), if_neg (by omega), if_pos ⟨rfl, rfl⟩]
        have eps : ∀ s, s < aV A → psN (planA A j f n) s = psN A s := fun s hs => by unfold psN shN; rw [eo _ _ (by omega) hs, eA _ _ (by omega)]
        have hnew : ∀ p, 0 ≤ p → ¬ hasP (planA A j f n) (aV A) p := fun p hp z => by
          obtain ⟨k, k1, k2⟩ := hasP_iff.mp z
          rw [plan_45 k1] at k2; omega
        refine ⟨?_, ?_, ?_, ?_, ?_, fun s hs => ?_, fun s hs => ?_, ?_⟩
        · unfold oBnd at hB ⊢
          rw [e303, e30 1 (by omega), e30 2 (by omega), e30 4 (by omega), e30 5 (by omega), e30 6 (by omega)]
          exact ⟨hB.1, hB.2.1, by omega, hB.2.2.2⟩
        · unfold oCert at hC ⊢
          simp only [eP, e30 4 (by omega), eA 31 _ (by omega), eA 35 _ (by omega), eA 36 _ (by omega)]; exact hC
        · unfold oDays at hD ⊢
          simp only [eP, eA 32 _ (by omega), eA 33 _ (by omega)]; exact hD
        · unfold oCrs at hCr ⊢
          simp only [eP, eA 34 _ (by omega), eA 37 _ (by omega), eA 38 _ (by omega)]; exact hCr
        · unfold oShp at hSh ⊢
          simp only [eS, eA 39 _ (by omega), eA 40 _ (by omega)]; exact hSh
        · rw [eV] at hs
          by_cases e : s = aV A
          · subst e
            unfold oSt
            rw [eS, q41, q42, q43, q44]
            exact ⟨by omega, by omega, Or.inl rfl⟩
          · have := hSt s (by omega)
            unfold oSt at this ⊢
            rw [eS, eo _ _ (by omega) (by omega), eo _ _ (by omega) (by omega), eo _ _ (by omega) (by omega), eo _ _ (by omega) (by omega)]; exact this
        · rw [eV] at hs
          by_cases e : s = aV A
          · subst e
            refine ⟨fun k hk => Or.inl (plan_45 hk), fun k hk _ => plan_45 hk, fun k l hk _ _ _ => plan_45 hk, fun _ k hk => plan_45 hk, fun z => ?_⟩
            rw [q44] at z; omega
          · have hs2 : s < aV A := by omega
            have := hCw s hs2
            unfold oCrw at this ⊢
            rw [eP, eps s hs2, eo 44 s (by omega) hs2]
            have hp3 : psN A s ≤ 3 := by
              have h1 := (hSh (shN A s) (by have := (hSt s hs2).1; unfold shN; omega)).1
              unfold psN; omega
            refine ⟨fun k hk => by rw [eo45 s k hs2 hk]; exact this.1 k hk, fun k hk hp => by rw [eo45 s k hs2 hk]; exact this.2.1 k hk hp, fun k l hk hl hkl he => ?_, fun z k hk => by rw [eo45 s k hs2 hk]; exact this.2.2.2.1 z k hk, fun z k hk => by rw [eo45 s k hs2 (by omega)]; exact this.2.2.2.2 z k hk⟩
            rw [eo45 s k hs2 hk, eo45 s l hs2 hl] at he
            rw [eo45 s k hs2 hk]; exact this.2.2.1 k l hk hl hkl he
        · intro a b p x ha hb hab hp q1 q2 q3 q4
          rw [eV] at ha hb
          by_cases ea : a = aV A
          · subst ea; exact hnew p hp q1
          · by_cases eb : b = aV A
            · subst eb; exact hnew p hp q2
            · exact hNo a b p x (by omega) (by omega) hab hp ((plan_has (by omega)).mp q1) ((plan_has (by omega)).mp q2) ((plan_cov (by omega)).mp q3) ((plan_cov (by omega)).mp q4)
    · rw [oif_neg c2]; exact h
  · rw [oif_neg c1]; exact h
theorem up_mk {A : oA} {s k : Nat} {x : Int} (hk : k < 3) : upA A 45 (3 * s + k) x = mkA A s (A 44 s) (updN (fun k => A 45 (3 * s + k)) k x) := by
  rw [← mo_up hk, mo_self]
theorem no_self {A : oA} {s : Nat} (h : oNo A) (hs : s < aV A) {p x : Int} (hp : 0 ≤ p) (hh : hasP A s p) (hc : covS A s x) : ¬ wrk A p s x := fun ⟨t, t1, t2, t3, t4⟩ => h s t p x hs t1 (fun z => t2 z.symm) hp hh t3 hc t4
theorem OA_assign {A : oA} {s q p : Int} (h : OA A) : OA (oAssign A s q p).2.2 := by
  unfold oAssign isSl isPo isPs
  by_cases c1 : 0 ≤ s ∧ s < A 30 3
  · rw [oif_pos c1]
    by_cases c2 : (0 ≤ q ∧ q < (psN A s.toNat : Int)) ∧ 0 ≤ p ∧ p < A 30 1
    · rw [oif_pos c2]
      by_cases c3 : A 44 s.toNat = 112
      · rw [oif_pos c3]
        by_cases c4 : hasP A s.toNat p
        · rw [oif_pos c4]; exact h
        · rw [oif_neg c4]
          by_cases c5 : oReason A s.toNat q.toNat p.toNat = 0
          · rw [oif_pos c5]
            have hVe := aV_eq h.1
            have hPe := aP_eq h.1
            obtain ⟨i, hi⟩ : ∃ i, i = s.toNat := ⟨_, rfl⟩
            obtain ⟨k, hk⟩ : ∃ k, k = q.toNat := ⟨_, rfl⟩
            rw [← hi] at c2 c3 c4 c5 ⊢
            rw [← hk] at c5 ⊢
            have hs : i < aV A := by omega
            have hk3 : k < 3 ∧ k < psN A i := by
              have h1 := (h.2.2.2.2.1 (shN A i) (by have := (h.2.2.2.2.2.1 i hs).1; unfold shN; omega)).1
              have : psN A i ≤ 3 := by unfold psN; omega
              omega
            show OA (upA A 45 (3 * i + k) p)
            rw [up_mk hk3.1]
            have hcw := h.2.2.2.2.2.2.1 i hs
            have hne : ∀ l, l < 3 → A 45 (3 * i + l) ≠ p := fun l hl e => c4 (hasP_iff.mpr ⟨l, hl, e⟩)
            refine OA_mk h hs ⟨fun l hl => ?_, fun l hl hn => ?_, fun l m hl hm hlm he => ?_⟩ (Or.inl c3) (fun z => by omega) (fun z => by omega) (fun l p' x hl e hp hc => ?_)
            · unfold updN
              split
              · exact Or.inr (by omega)
              · exact hcw.1 l hl
            · unfold updN
              rw [if_neg (by omega)]; exact hcw.2.1 l hl hn
            · unfold updN at he ⊢
              by_cases e1 : l = k
              · rw [if_pos e1] at he
                rw [if_neg (by omega)] at he
                exact absurd he.symm (hne m hm)
              · rw [if_neg e1] at he ⊢
                by_cases e2 : m = k
                · rw [if_pos e2] at he; exact absurd he (hne l hl)
                · rw [if_neg e2] at he; exact hcw.2.2.1 l m hl hm hlm he
            · unfold updN at e
              by_cases e1 : l = k
              · rw [if_pos e1] at e
                rw [← e]
                have := reason_no c5 x hc
                rw [show ((p.toNat : Nat) : Int) = p from by omega] at this
                exact this
              · rw [if_neg e1] at e
                exact no_self h.2.2.2.2.2.2.2 hs hp (hasP_iff.mpr ⟨l, hl, e⟩) hc
          · rw [oif_neg c5]; exact h
      · rw [oif_neg c3]; exact h
    · rw [oif_neg c2]; exact h
  · rw [oif_neg c1]; exact h
theorem OA_release {A : oA} {s q : Int} (h : OA A) : OA (oRelease A s q).2.2 := by
  unfold oRelease isSl isPo
  by_cases c1 : 0 ≤ s ∧ s < A 30 3
  · rw [oif_pos c1]
    by_cases c2 : 0 ≤ q ∧ q < (psN A s.toNat : Int)
    · rw [oif_pos c2]
      by_cases c3 : A 44 s.toNat = 112 ∧ A 45 (3 * s.toNat + q.toNat) ≠ -1
      · rw [oif_pos c3]
        have hVe := aV_eq h.1
        obtain ⟨i, hi⟩ : ∃ i, i = s.toNat := ⟨_, rfl⟩
        obtain ⟨k, hk⟩ : ∃ k, k = q.toNat := ⟨_, rfl⟩
        rw [← hi, ← hk] at c3
        rw [← hi] at c2
        rw [← hi, ← hk]
        have hs : i < aV A := by omega
        have hk3 : k < 3 := by
          have h1 := (h.2.2.2.2.1 (shN A i) (by have := (h.2.2.2.2.2.1 i hs).1; unfold shN; omega)).1
          have : psN A i ≤ 3 := by unfold psN; omega
          omega
        show OA (upA A 45 (3 * i + k) (-1))
        rw [up_mk hk3]
        have hcw := h.2.2.2.2.2.2.1 i hs
        refine OA_mk h hs ⟨fun l hl => ?_, fun l hl hn => ?_, fun l m hl hm hlm he => ?_⟩ (Or.inl c3.1) (fun z => by omega) (fun z => by omega) (fun l p' x hl e hp hc => ?_)
        · unfold updN
          split
          · exact Or.inl rfl
          · exact hcw.1 l hl
        · unfold updN
          split
          · rfl
          · exact hcw.2.1 l hl hn
        · unfold updN at he ⊢
          by_cases e1 : l = k
          · rw [if_pos e1]
          · rw [if_neg e1] at he ⊢
            by_cases e2 : m = k
            · rw [if_pos e2] at he; exact he
            · rw [if_neg e2] at he; exact hcw.2.2.1 l m hl hm hlm he
        · unfold updN at e
          by_cases e1 : l = k
          · rw [if_pos e1] at e; omega
          · rw [if_neg e1] at e
            exact no_self h.2.2.2.2.2.2.2 hs hp (hasP_iff.mpr ⟨l, hl, e⟩) hc
      · rw [oif_neg c3]; exact h
    · rw [oif_neg c2]; exact h
  · rw [oif_neg c1]; exact h
theorem OA_cancel {A : oA} {s : Int} (h : OA A) : OA (oCancel A s).2.2 := by
  unfold oCancel isSl
  by_cases c1 : 0 ≤ s ∧ s < A 30 3
  · rw [oif_pos c1]
    by_cases c3 : A 44 s.toNat = 112
    · rw [oif_pos c3]
      have hVe := aV_eq h.1
      exact OA_drop h (by omega)
    · rw [oif_neg c3]; exact h
  · rw [oif_neg c1]; exact h
theorem OA_relieve {A : oA} {s : Int} (h : OA A) : OA (oRelieve A s).2.2 := by
  unfold oRelieve isSl
  by_cases c1 : 0 ≤ s ∧ s < A 30 3
  · rw [oif_pos c1]
    by_cases c3 : A 44 s.toNat = 112
    · rw [oif_pos c3]
      by_cases c4 : (rBest A s.toNat).1 < 9
      · rw [oif_pos c4]
        have hVe := aV_eq h.1
        exact OA_rel h (by omega) c4 c3
      · rw [oif_neg c4]; exact h
    · rw [oif_neg c3]; exact h
  · rw [oif_neg c1]; exact h
theorem OA_all {A : oA} (h : OA A) : OA (oAllA A) := (runO_OA h (lk_ok h) (lkN A) (oAll_ok h).1).1
