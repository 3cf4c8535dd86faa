/-! A NEW OBJECT IN A WORLD -/
def laN (La : mLa) (g i0 : Nat) (na : Nat → Nat) : mLa := fun k i => if mG k = g ∧ i = i0 then na k else La k i
theorem laN_ne {La : mLa} {g i0 k i : Nat} {na : Nat → Nat} (h : ¬ (mG k = g ∧ i = i0)) : laN La g i0 na k i = La k i := if_neg h
theorem laN_at {La : mLa} {g i0 k : Nat} {na : Nat → Nat} (h : mG k = g) : laN La g i0 na k i0 = na k := if_pos ⟨h, rfl⟩
theorem laN_ext {st : mS} {La : mLa} {g : Nat} {na : Nat → Nat} : mExt st La (laN La g (sN st g) na) := fun k i hi _ => laN_ne (fun z => by
  obtain ⟨z1, z2⟩ := z
  rw [z1] at hi
  omega)
theorem cell_oldN {E : mEnv} {st st' : mS} {La : mLa} {g : Nat} {na : Nat → Nat} {cap : Nat → Nat} {mdc : Nat → Int32} (hw : mWF E st) (hN : sN st' = up1 (sN st) g (sN st g + 1)) (hL : sL st' = sL st) (hg : g ≠ 0)
    (hs : ∀ k i, ¬ (mG k = g ∧ i = sN st g) → sI st' k i = sI st k i ∧ sJ st' k i = sJ st k i ∧ sD st' k i = sD st k i) (hR : ∀ i, i < sN st 3 → sR st' i = sR st i) {k i : Nat} (hn : ¬ (mG k = g ∧ i = sN st g)) :
    mCell E cap mdc st' (laN La g (sN st g) na) k i = mCell E cap mdc st La k i := by
  obtain ⟨s1, s2, s3⟩ := hs k i hn
  have hi : sN st' (mG k) ≤ i ↔ sN st (mG k) ≤ i := by
    rw [hN]
    unfold up1
    by_cases h1 : mG k = g
    · rw [if_pos h1]
      rw [h1]
      have : i ≠ sN st g := fun z => hn ⟨h1, z⟩
      constructor <;> intro h <;> omega
    · rw [if_neg h1]
  unfold mCell
  by_cases h0 : sN st (mG k) ≤ i
  · rw [if_pos h0, if_pos (hi.mpr h0)]
  · rw [if_neg h0, if_neg (fun z => h0 (hi.mp z))]
    cases hk : mKd k with
    | some z =>
      obtain ⟨ci, fds⟩ := z
      dsimp only
      congr 3
      apply List.ext_getElem?
      intro j
      rw [List.getElem?_mapIdx, List.getElem?_mapIdx]
      cases hj : fds[j]? with
      | none => rfl
      | some fd =>
        show some _ = some _
        congr 1
        have e1 : mfv st' k i j fd = mfv st k i j fd := by
          match fd, hj with
          | 0, _ => show mi _ = mi _; rw [s1]
          | 1, _ => show ml _ = ml _; rw [s2]
          | 2, hj =>
            have h3 := mKd_2 hk hj
            rw [h3] at h0
            show mr _ _ = mr _ _
            rw [hR i (by omega)]
          | n + 3, _ => rfl
        dsimp only
        rw [e1]
        exact mR_ext (st0 := st) laN_ext (mfv_ok hw hk hj (by omega) (fun z => by subst z; exact mKd_2 hk hj))
    | none =>
      dsimp only
      cases hA : mAd k with
      | some z =>
        obtain ⟨ty, n⟩ := z
        rw [s1, s2, s3]
        match ty with
        | 2 => rfl
        | 3 => rfl
        | 0 => rfl
        | 1 => rfl
        | t + 4 => rfl
      | none =>
        dsimp only
        by_cases h5 : 20 ≤ k ∧ k < 24 ∧ i = 0
        · rw [if_pos h5, if_pos h5, hL, laN_ne (fun z => hg (by rw [← z.1]; exact lk_G (by omega) (by omega)))]
        · rw [if_neg h5, if_neg h5]
          by_cases h6 : 24 ≤ k ∧ k < 28 ∧ i = 0 ∧ cap (k - 4) ≠ 0
          · rw [if_pos h6, if_pos h6, hL]
            have ef : (fun j : Nat => ((sL st (k - 4))[j]?).map (laN La g (sN st g) na (mEk (k - 4)))) = fun j : Nat => ((sL st (k - 4))[j]?).map (La (mEk (k - 4))) := by
              funext j
              cases hx : (sL st (k - 4))[j]? with
              | none => rfl
              | some x => exact congrArg some (laN_ext (st := st) _ _ (hw.2.2.1 _ x (List.mem_of_getElem? hx)) (mEk_in (k := k - 4)).1)
            rw [ef]
          · rw [if_neg h6, if_neg h6]
theorem world_new {E : mEnv} {st st' : mS} {La : mLa} {H H1 : Heap} {g : Nat} {na : Nat → Nat} (hw : mWorld E st La H) (hwf : mWF E st') (hN : sN st' = up1 (sN st) g (sN st g + 1)) (hL : sL st' = sL st) (hg : g ≠ 0)
    (hs : ∀ k i, ¬ (mG k = g ∧ i = sN st g) → sI st' k i = sI st k i ∧ sJ st' k i = sJ st k i ∧ sD st' k i = sD st k i) (hR : ∀ i, i < sN st 3 → sR st' i = sR st i)
    (hz : H.size ≤ H1.size) (ho : ∀ q : Nat, q < H.size → H1[q]? = H[q]?)
    (hnew : ∀ cap mdc k e, mG k = g → mCell E cap mdc st' (laN La g (sN st g) na) k (sN st g) = some e → va_at (eD E) vwCl (na k, e) H1) (hlo : ∀ k, mG k = g → H.size ≤ na k) (hap : ∀ k k', mG k = g → mG k' = g → na k = na k' → k = k') : mWorld E st' (laN La g (sN st g) na) H1 := by
  obtain ⟨hb, hwf0, cap, mdc, hl, hc, hinj⟩ := hw
  refine ⟨⟨Nat.le_trans hb.1 hz, fun q hq => (ho q (Nat.lt_of_lt_of_le hq hb.1)).trans (hb.2 q hq)⟩, hwf, cap, mdc, by rw [hL]; exact hl, fun k i e he => ?_, fun k1 i1 k2 i2 e1 e2 he1 he2 heq => ?_⟩
  · by_cases hn : mG k = g ∧ i = sN st g
    · obtain ⟨h1, rfl⟩ := hn
      rw [laN_at h1]
      exact ⟨Nat.le_trans hb.1 (hlo k h1), hnew cap mdc k e h1 he⟩
    · rw [cell_oldN hwf0 hN hL hg hs hR hn] at he
      rw [laN_ne hn]
      obtain ⟨g1, g2⟩ := hc k i e he
      exact ⟨g1, g2.kept (ho _ g2.lt)⟩
  · by_cases hn1 : mG k1 = g ∧ i1 = sN st g <;> by_cases hn2 : mG k2 = g ∧ i2 = sN st g
    · obtain ⟨h1, rfl⟩ := hn1
      obtain ⟨h2, rfl⟩ := hn2
      rw [laN_at h1, laN_at h2] at heq
      exact ⟨hap _ _ h1 h2 heq, rfl⟩
    · exfalso
      obtain ⟨h1, rfl⟩ := hn1
      rw [cell_oldN hwf0 hN hL hg hs hR hn2] at he2
      rw [laN_at h1, laN_ne hn2] at heq
      have : La k2 i2 < H.size := (hc _ _ _ he2).2.lt
      have := hlo k1 h1
      omega
    · exfalso
      obtain ⟨h2, rfl⟩ := hn2
      rw [cell_oldN hwf0 hN hL hg hs hR hn1] at he1
      rw [laN_at h2, laN_ne hn1] at heq
      have : La k1 i1 < H.size := (hc _ _ _ he1).2.lt
      have := hlo k2 h2
      omega
    · rw [cell_oldN hwf0 hN hL hg hs hR hn1] at he1
      rw [cell_oldN hwf0 hN hL hg hs hR hn2] at he2
      rw [laN_ne hn1, laN_ne hn2] at heq
      exact hinj _ _ _ _ _ _ he1 he2 heq
