/-! OFFICES behind a relief or a cancelling; orders of relief -/
theorem OA_mk {A : oA} {s : Nat} {v : Int} {w : Nat → Int} (hA : OA A) (hs : s < aV A) (hw : wOK (psN A s) (aP A) w) (hv : v = 112 ∨ v = 115 ∨ v = 99) (h99 : v = 99 → ∀ k, k < 3 → w k = -1) (h115 : v = 115 → ∀ k, k < psN A s → w k ≠ -1)
    (hno : ∀ k p h, k < 3 → w k = p → 0 ≤ p → covS A s h → ¬ wrk A p s h) : OA (mkA A s v w) := by
  obtain ⟨hB, hC, hD, hCr, hSh, hSt, hCw, hNo⟩ := hA
  have hX : agX A (mkA A s v w) s := mo_ag
  refine ⟨oBnd_ag hX hB, ?_, ?_, ?_, oShp_ag hX hSh, fun t ht => ?_, fun t ht => ?_, ?_⟩
  · unfold oCert at hC ⊢
    simp only [hX.P, hX.k (show 31 < 44 by omega), hX.k (show 35 < 44 by omega), hX.k (show 36 < 44 by omega), hX.k (show 30 < 44 by omega)]; exact hC
  · unfold oDays at hD ⊢
    simp only [hX.P, hX.k (show 32 < 44 by omega), hX.k (show 33 < 44 by omega)]; exact hD
  · unfold oCrs at hCr ⊢
    simp only [hX.P, hX.k (show 34 < 44 by omega), hX.k (show 37 < 44 by omega), hX.k (show 38 < 44 by omega)]; exact hCr
  · rw [hX.V] at ht
    have := hSt t ht
    by_cases e : t = s
    · subst e; exact oSt_mk this hv
    · unfold oSt at this ⊢
      rw [hX.S, hX.k (by omega), hX.k (by omega), hX.k (by omega), hX 44 t (by omega) (by omega)]; exact this
  · rw [hX.V] at ht
    by_cases e : t = s
    · subst e
      refine ⟨fun k hk => ?_, fun k hk hp => ?_, fun k l hk hl hkl he => ?_, fun z k hk => ?_, fun z k hk => ?_⟩
      · rw [mo_45 hk, hX.P]; exact hw.1 k hk
      · rw [mo_45 hk]; rw [hX.ps] at hp; exact hw.2.1 k hk hp
      · rw [mo_45 hk, mo_45 hl] at he; rw [mo_45 hk]; exact hw.2.2 k l hk hl hkl he
      · rw [mo_44] at z; rw [mo_45 hk]; exact h99 z k hk
      · rw [mo_44] at z; rw [hX.ps] at hk
        have hj := (hSh _ (show shN A t < aS A by have := (hSt t ht).1; unfold shN; omega)).1
        rw [mo_45 (by unfold psN at hk; omega)]; exact h115 z k hk
    · have := hCw t ht
      unfold oCrw at this ⊢
      rw [hX.P, hX.ps, hX 44 t (by omega) (by omega)]
      have e45 : ∀ k, k < 3 → mkA A s v w 45 (3 * t + k) = A 45 (3 * t + k) := fun k hk => hX 45 (3 * t + k) (by omega) (by omega)
      refine ⟨fun k hk => by rw [e45 k hk]; exact this.1 k hk, fun k hk hp => by rw [e45 k hk]; exact this.2.1 k hk hp, fun k l hk hl hkl he => ?_, fun z k hk => by rw [e45 k hk]; exact this.2.2.2.1 z k hk, fun z k hk => ?_⟩
      · rw [e45 k hk, e45 l hl] at he; rw [e45 k hk]; exact this.2.2.1 k l hk hl hkl he
      · have hj := (hSh _ (show shN A t < aS A by have := (hSt t ht).1; unfold shN; omega)).1
        rw [e45 k (by unfold psN at hk; omega)]; exact this.2.2.2.2 z k hk
  · intro a b p h ha hb hab hp h1 h2 c1 c2
    rw [hX.V] at ha hb
    rw [hX.cov] at c1 c2
    by_cases ea : a = s
    · subst ea
      rw [hX.has (by omega)] at h2
      obtain ⟨k, k1, k2⟩ := hasP_iff.mp h1
      rw [mo_45 k1] at k2
      exact hno k p h k1 k2 hp c1 ⟨b, hb, fun z => hab z.symm, h2, c2⟩
    · rw [hX.has ea] at h1
      by_cases eb : b = s
      · subst eb
        obtain ⟨k, k1, k2⟩ := hasP_iff.mp h2
        rw [mo_45 k1] at k2
        exact hno k p h k1 k2 hp c2 ⟨a, ha, hab, h1, c1⟩
      · rw [hX.has eb] at h2
        exact hNo a b p h ha hb hab hp h1 h2 c1 c2
theorem OA_drop {A : oA} {s : Nat} (hA : OA A) (hs : s < aV A) : OA (dropA A s) := OA_mk hA hs ⟨fun _ _ => Or.inl rfl, fun _ _ _ => rfl, fun _ _ _ _ _ _ => rfl⟩ (Or.inr (Or.inr rfl)) (fun _ _ _ => rfl) (fun z => absurd z (by omega)) (fun k p h hk e hp => by
  have e : (-1 : Int) = p := e
  omega)
theorem reason_no {A : oA} {s k p : Nat} (h : oReason A s k p = 0) : ∀ x, covS A s x → ¬ wrk A p s x := by
  intro x hx hw
  unfold oReason at h
  by_cases c1 : ¬ (A 31 (4 * p + kdN A s k) = 1 ∧ A 35 (4 * p + kdN A s k) ≤ fD A s ∧ lD A s ≤ A 36 (4 * p + kdN A s k))
  · rw [cif_pos c1] at h; omega
  · rw [cif_neg c1] at h
    by_cases c2 : ∃ e : Nat, fD A s ≤ e ∧ (e : Int) ≤ lD A s ∧ A 32 (42 * p + e) = 1
    · rw [cif_pos c2] at h; omega
    · rw [cif_neg c2] at h
      by_cases c3 : ∃ e : Nat, fD A s ≤ e ∧ (e : Int) ≤ lD A s ∧ A 33 (42 * p + e) = 1
      · rw [cif_pos c3] at h; omega
      · rw [cif_neg c3] at h
        unfold oAgainst at h
        rw [cif_pos ⟨x, hx.1, hx.2, hw⟩] at h
        omega
theorem OA_rel {A : oA} {s : Nat} (hA : OA A) (hs : s < aV A) (h9 : (rBest A s).1 < 9) (h44 : A 44 s = 112) : OA (oRelA A s) := by
  refine OA_mk hA hs (wR_ok hA hs h9) (Or.inl h44) (fun z => by omega) (fun z => by omega) (fun k p h hk e hp hc => ?_)
  obtain ⟨g1, g2, g3, g4⟩ := rBest_ok hA hs h9
  have e : (if k < psN A s then (rBest A s).2 k else -1) = p := e
  by_cases c : k < psN A s
  · rw [if_pos c] at e
    obtain ⟨p', p1, p2, p3⟩ := g3 k c
    have e2 : p = (p' : Int) := by omega
    rw [e2]
    exact reason_no (ftB_iff.mp p3).2.2 h hc
  · rw [if_neg c] at e; omega
abbrev ordB : Type := Int × Int × (Nat → Int)
def better (c x : Int) (b : ordB) : Prop := c < b.1 ∨ (c = b.1 ∧ x < b.2.1)
noncomputable def oGo (A : oA) (s : Nat) : oA × Int × Int := @ite _ ((rBest A s).1 < 9) (Classical.propDecidable _) (oRelA A s, 0, (rBest A s).1) (dropA A s, 1, 0)
theorem oGo_y {A : oA} {s : Nat} (h : (rBest A s).1 < 9) : oGo A s = (oRelA A s, 0, (rBest A s).1) := if_pos h
theorem oGo_n {A : oA} {s : Nat} (h : ¬ (rBest A s).1 < 9) : oGo A s = (dropA A s, 1, 0) := if_neg h
noncomputable def oOrd (L : Nat → Nat) (n : Nat) : Nat → Nat → (Nat → Int) → oA → Int → Int → ordB → ordB
  | 0, _, tr, _, c, x, b => @ite _ (better c x b) (Classical.propDecidable _) (c, x, tr) b
  | r + 1, q, tr, A, c, x, b => foldN (fun pl b => if freeB tr q pl then oOrd L n r (q + 1) (updN tr q (pl : Int)) (oGo A (L pl)).1 (c + (oGo A (L pl)).2.1) (x + (oGo A (L pl)).2.2) b else b) n b
theorem oGo_OA {A : oA} {s : Nat} (hA : OA A) (hs : s < aV A) (h44 : A 44 s = 112) : OA (oGo A s).1 ∧ 0 ≤ (oGo A s).2.1 ∧ (oGo A s).2.1 ≤ 1 ∧ 0 ≤ (oGo A s).2.2 ∧ (oGo A s).2.2 ≤ 3 ∧ agX A (oGo A s).1 s := by
  by_cases h9 : (rBest A s).1 < 9
  · rw [oGo_y h9]
    obtain ⟨g1, g2, g3, g4⟩ := rBest_ok hA hs h9
    have hj := (hA.2.2.2.2.1 _ (show shN A s < aS A by have := (hA.2.2.2.2.2.1 s hs).1; unfold shN; omega)).1
    exact ⟨OA_rel hA hs h9 h44, by show (0 : Int) ≤ 0; omega, by show (0 : Int) ≤ 1; omega, g1, by show (rBest A s).1 ≤ 3; unfold psN at g2; omega, mo_ag⟩
  · rw [oGo_n h9]
    exact ⟨OA_drop hA hs, by show (0 : Int) ≤ 1; omega, by show (1 : Int) ≤ 1; omega, by show (0 : Int) ≤ 0; omega, by show (0 : Int) ≤ 3; omega, (mo_ag : agX A (mkA A s 99 (fun _ => -1)) s)⟩
def lkOK (A : oA) (L : Nat → Nat) (n : Nat) (tr : Nat → Int) (q : Nat) : Prop := (∀ i, i < n → L i < aV A) ∧ (∀ i, i < n → freeB tr q i = true → A 44 (L i) = 112) ∧ (∀ i j, i < n → j < n → L i = L j → i = j)
theorem freeB_up {tr : Nat → Int} {q i j : Nat} : freeB (updN tr q (i : Int)) (q + 1) j = (freeB tr q j && decide (j ≠ i)) := by
  rw [Bool.eq_iff_iff, Bool.and_eq_true, freeB_iff, freeB_iff, decide_eq_true_iff]
  constructor
  · intro hh
    refine ⟨fun k hk => ?_, ?_⟩
    · have := hh k (by omega)
      unfold updN at this
      rw [if_neg (by omega)] at this
      exact this
    · have := hh q (by omega)
      unfold updN at this
      rw [if_pos rfl] at this
      omega
  · rintro ⟨h1, h2⟩ k hk
    unfold updN
    split
    · omega
    · exact h1 k (by omega)
theorem lkOK_up {A : oA} {L : Nat → Nat} {n q i : Nat} {tr : Nat → Int} (h : lkOK A L n tr q) (hA : OA A) (hi : i < n) (hf : freeB tr q i = true) : lkOK (oGo A (L i)).1 L n (updN tr q (i : Int)) (q + 1) := by
  obtain ⟨g1, g2, g3, g4, g5, hX⟩ := oGo_OA hA (h.1 i hi) (h.2.1 i hi hf)
  refine ⟨fun j hj => by rw [hX.V]; exact h.1 j hj, fun j hj hfj => ?_, h.2.2⟩
  rw [freeB_up, Bool.and_eq_true, decide_eq_true_iff] at hfj
  rw [hX 44 (L j) (by omega) (fun z => hfj.2 (h.2.2 j i hj hi z.2))]
  exact h.2.1 j hj hfj.1
theorem oOrd_no (L : Nat → Nat) (n : Nat) : ∀ (r q : Nat) (tr : Nat → Int) (A : oA) (c x : Int) (b : ordB), OA A → lkOK A L n tr q → ¬ better c x b → oOrd L n r q tr A c x b = b
  | 0, q, tr, A, c, x, b, _, _, h => by unfold oOrd; exact if_neg h
  | r + 1, q, tr, A, c, x, b, hA, hl, h => by
    unfold oOrd
    have : ∀ m, m ≤ n → foldN (fun pl b => if freeB tr q pl then oOrd L n r (q + 1) (updN tr q (pl : Int)) (oGo A (L pl)).1 (c + (oGo A (L pl)).2.1) (x + (oGo A (L pl)).2.2) b else b) m b = b := by
      intro m
      induction m with
      | zero => intro _; rfl
      | succ m ih =>
        intro hm
        show (if freeB tr q m then oOrd L n r (q + 1) (updN tr q (m : Int)) (oGo A (L m)).1 (c + (oGo A (L m)).2.1) (x + (oGo A (L m)).2.2) (foldN _ m b) else foldN _ m b) = b
        rw [ih (by omega)]
        by_cases hf : freeB tr q m = true
        · rw [if_pos hf]
          obtain ⟨g1, g2, g3, g4, g5, hX⟩ := oGo_OA hA (hl.1 m (by omega)) (hl.2.1 m (by omega) hf)
          refine oOrd_no L n r (q + 1) _ _ _ _ b g1 (lkOK_up hl hA (by omega) hf) (fun z => h ?_)
          unfold better at z ⊢
          omega
        · rw [if_neg hf]
    exact this n (Nat.le_refl _)
