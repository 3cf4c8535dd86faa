/-! A LIST IN A WORLD: its two cells, and the world behind a change of them -/
def laR (La : mLa) (k r : Nat) : mLa := fun k' i' => if k' = k + 4 ∧ i' = 0 then r else La k' i'
theorem laR_ne {La : mLa} {k r k' i' : Nat} (h : ¬ (k' = k + 4 ∧ i' = 0)) : laR La k r k' i' = La k' i' := if_neg h
theorem laR_at {La : mLa} {k r : Nat} : laR La k r (k + 4) 0 = r := if_pos ⟨rfl, rfl⟩
theorem laR_ext {st : mS} {La : mLa} {k r : Nat} (h : 20 ≤ k) (h2 : k < 24) : mExt st La (laR La k r) := fun k' i' _ hk => laR_ne (fun z => hk (by omega))
theorem mEk_v (k : Nat) : mEk k = 3 ∨ mEk k = 7 ∨ mEk k = 9 := by
  unfold mEk
  split
  · exact Or.inl rfl
  · exact Or.inr (Or.inl rfl)
  · exact Or.inr (Or.inr rfl)
theorem putL_ne {st : mS} {k j : Nat} {xs : List Nat} (h : j ≠ k) : sL (putL st k xs) j = sL st j := if_neg h
theorem putL_at {st : mS} {k : Nat} {xs : List Nat} : sL (putL st k xs) k = xs := if_pos rfl
theorem cell_other {E : mEnv} {st : mS} {La : mLa} {k : Nat} (hw : mWF E st) (h : 20 ≤ k) (h2 : k < 24) {cap cap' : Nat → Nat} {mdc mdc' : Nat → Int32} {xs : List Nat} {r1 : Nat} (hcap : ∀ j, j ≠ k → cap' j = cap j) (hmdc : ∀ j, j ≠ k → mdc' j = mdc j) {k' i' : Nat} (n1 : ¬ (k' = k ∧ i' = 0)) (n2 : ¬ (k' = k + 4 ∧ i' = 0)) :
    mCell E cap' mdc' (putL st k xs) (laR La k r1) k' i' = mCell E cap mdc st La k' i' := by
  unfold mCell
  by_cases hN : sN st (mG k') ≤ i'
  · rw [if_pos hN]
    exact if_pos hN
  · rw [if_neg hN, if_neg (show ¬ sN (putL st k xs) (mG k') ≤ i' from hN)]
    cases hk : mKd k' with
    | some z =>
      obtain ⟨ci, fds⟩ := z
      dsimp only
      congr 3
      apply List.ext_getElem?
      intro j
      rw [List.getElem?_mapIdx, List.getElem?_mapIdx]
      cases hj : fds[j]? with
      | none => rfl
      | some fd =>
        show some _ = some _
        congr 1
        exact mR_ext (st0 := st) (laR_ext h h2) (mfv_ok hw hk hj (by omega) (fun z => by subst z; exact mKd_2 hk hj))
    | none =>
      dsimp only
      cases hA : mAd k' with
      | some z =>
        obtain ⟨ty, n⟩ := z
        match ty with
        | 2 => rfl
        | 3 => rfl
        | 0 => rfl
        | 1 => rfl
        | t + 4 => rfl
      | none =>
        dsimp only
        by_cases h5 : 20 ≤ k' ∧ k' < 24 ∧ i' = 0
        · have hne : k' ≠ k := fun z => n1 ⟨z, h5.2.2⟩
          rw [if_pos h5, if_pos h5, hcap k' hne, hmdc k' hne, putL_ne hne, laR_ne (by omega)]
        · rw [if_neg h5, if_neg h5]
          by_cases h6 : 24 ≤ k' ∧ k' < 28 ∧ i' = 0
          · have hne : k' - 4 ≠ k := fun z => n2 ⟨by omega, h6.2.2⟩
            have eL : laR La k r1 (mEk (k' - 4)) = La (mEk (k' - 4)) := funext fun i => laR_ne (fun z => by
              have := mEk_v (k' - 4)
              omega)
            rw [hcap _ hne, putL_ne hne, eL]
          · rw [if_neg (fun z => h6 ⟨z.1, z.2.1, z.2.2.1⟩), if_neg (fun z => h6 ⟨z.1, z.2.1, z.2.2.1⟩)]
theorem mEk_in {k : Nat} : ¬ (24 ≤ mEk k ∧ mEk k < 28) ∧ mEk k ≠ 99 ∧ mEk k ≠ 62 ∧ mEk k < 20 := by
  rcases mEk_v k with h | h | h <;> rw [h] <;> decide
set_option maxHeartbeats 2000000 in
theorem world_list {E : mEnv} {S : mStr} {U : State} {st : mS} {La : mLa} {H : Heap} {k : Nat} (T : mTab E S U) (hw : mWorld E st La H) (h : 20 ≤ k) (h2 : k < 24) (h0 : 0 < sN st 0) :
    ∃ (m : Int32) (r cap : Nat), LW E (La k 0) m r (nI (sL st k).length) cap (lf st La k) H ∧ LH E (La k 0) r cap (lf st La k) ∧ (sL st k).length ≤ cap ∧ ELs E (lci k) (lf st La k) H ∧ (∀ z, z < sN st (mG (mEk k)) → EL E (lci k) (La (mEk k) z) H ∧ La (mEk k) z ≠ La k 0 ∧ La (mEk k) z ≠ r) ∧
      (∀ (H1 : Heap) (m1 : Int32) (r1 cap1 : Nat) (xs : List Nat), H.size ≤ H1.size → (∀ q : Nat, q < H.size → ¬ FG (La k 0) r cap H.size q → H1[q]? = H[q]?) → LW E (La k 0) m1 r1 (nI xs.length) cap1 (fun j => (xs[j]?).map (La (mEk k))) H1 → xs.length ≤ cap1 → cap1 ≤ 64 →
        ((r1 = r ∧ cap1 = cap) ∨ (H.size ≤ r1 ∧ cap1 ≠ 0)) → (∀ x ∈ xs, x < sN st (mG (mEk k))) → mWorld E (putL st k xs) (laR La k r1) H1) := by
  obtain ⟨hb, hwf, cap, mdc, hl, hc, hinj⟩ := hw
  obtain ⟨fds, hkd⟩ := mEk_kd h h2
  obtain ⟨l1, l2⟩ := hl k h h2
  have hcl := hc k 0 _ (cell_list (E := E) (cap := cap) (mdc := mdc) (La := La) h h2 h0)
  have hel : ∀ x ∈ sL st k, ∃ vs, mCell E cap mdc st La (mEk k) x = some (.inr (lci k, vs)) := fun x hx => ⟨_, cell_kd hkd (hwf.2.2.1 k x hx)⟩
  have hlf : ∀ i y, lf st La k i = some y → ∃ x ∈ sL st k, y = La (mEk k) x := by
    intro i y hy
    unfold lf at hy
    cases hx : (sL st k)[i]? with
    | none => rw [hx] at hy; cases hy
    | some x =>
      rw [hx] at hy
      cases hy
      exact ⟨x, List.mem_of_getElem? hx, rfl⟩
  have hEE := T.2.2.2.2.2.2.1.2
  have hrow : lrAt E (if cap k = 0 then eE E else La (k + 4) 0) (cap k) (lf st La k) H := by
    by_cases c0 : cap k = 0
    · rw [if_pos c0]
      exact ⟨Nat.lt_of_lt_of_le hEE.1 hb.1, fun c1 => absurd c0 c1⟩
    · rw [if_neg c0]
      exact lrAt.of (hc (k + 4) 0 _ (cell_lrow h h2 h0 c0)).2
  have hr0 : cap k ≠ 0 → eN E ≤ (if cap k = 0 then eE E else La (k + 4) 0) := fun c0 => by
    rw [if_neg c0]
    exact (hc (k + 4) 0 _ (cell_lrow h h2 h0 c0)).1
  have hne : La k 0 ≠ (if cap k = 0 then eE E else La (k + 4) 0) := by
    by_cases c0 : cap k = 0
    · rw [if_pos c0]
      have := hcl.1
      have := hEE.1
      omega
    · rw [if_neg c0]
      intro z
      have := (hinj _ _ _ _ _ _ (cell_list h h2 h0) (cell_lrow h h2 h0 c0) z).1
      omega
  have hLH : LH E (La k 0) (if cap k = 0 then eE E else La (k + 4) 0) (cap k) (lf st La k) := by
    refine ⟨hne, hcl.1, fun c0 => if_pos c0, hr0, l2, fun j hj => ?_, fun i y hy => ?_⟩
    · unfold lf
      rw [List.getElem?_eq_none (by omega)]
      rfl
    · obtain ⟨x, hx, rfl⟩ := hlf i y hy
      obtain ⟨vs, hcx⟩ := hel x hx
      have c0 : cap k ≠ 0 := fun c0 => by
        have e1 : sL st k = [] := List.length_eq_zero_iff.mp (by omega)
        rw [e1] at hx
        cases hx
      refine ⟨fun z => ?_, fun z => ?_⟩
      · rw [if_neg c0] at z
        have := (hinj _ _ _ _ _ _ hcx (cell_lrow h h2 h0 c0) z).1
        have := mEk_in (k := k)
        omega
      · have := (hinj _ _ _ _ _ _ hcx (cell_list h h2 h0) z).1
        have := mEk_in (k := k)
        omega
  refine ⟨mdc k, _, cap k, ⟨hcl.2, hrow⟩, hLH, l1, fun i y hy => ?_, fun z hz => ?_, ?_⟩
  · obtain ⟨x, hx, rfl⟩ := hlf i y hy
    obtain ⟨vs, hcx⟩ := hel x hx
    exact ⟨vs, (hc _ _ _ hcx).2⟩
  · have hcz := cell_kd (E := E) (cap := cap) (mdc := mdc) (La := La) hkd hz
    have g := hc _ _ _ hcz
    refine ⟨⟨_, g.2⟩, fun q => ?_, fun q => ?_⟩
    · have := (hinj _ _ _ _ _ _ hcz (cell_list h h2 h0) q).1
      have := mEk_in (k := k)
      omega
    · by_cases c0 : cap k = 0
      · rw [if_pos c0] at q
        have := g.1
        have := hEE.1
        omega
      · rw [if_neg c0] at q
        have := (hinj _ _ _ _ _ _ hcz (cell_lrow h h2 h0 c0) q).1
        have := mEk_in (k := k)
        omega
  intro H1 m1 r1 cap1 xs hz hk hLW hx1 hx2 hr1 hxs
  generalize hrr : (if cap k = 0 then eE E else La (k + 4) 0) = r at *
  have hlo := FG.lo (sz := H.size) hLH hb.1
  have hcap' : ∀ j, j ≠ k → (fun j => if j = k then cap1 else cap j) j = cap j := fun j hj => if_neg hj
  have hmdc' : ∀ j, j ≠ k → (fun j => if j = k then m1 else mdc j) j = mdc j := fun j hj => if_neg hj
  have cO : ∀ {k' i' : Nat}, ¬ (k' = k ∧ i' = 0) → ¬ (k' = k + 4 ∧ i' = 0) → mCell E (fun j => if j = k then cap1 else cap j) (fun j => if j = k then m1 else mdc j) (putL st k xs) (laR La k r1) k' i' = mCell E cap mdc st La k' i' := fun n1 n2 => cell_other hwf h h2 hcap' hmdc' n1 n2
  have cK := cell_list (E := E) (cap := fun j => if j = k then cap1 else cap j) (mdc := fun j => if j = k then m1 else mdc j) (st := putL st k xs) (La := laR La k r1) h h2 h0
  rw [if_pos rfl] at cK
  -- where each cell of the new world stood
  have hold : ∀ k' i' e, mCell E (fun j => if j = k then cap1 else cap j) (fun j => if j = k then m1 else mdc j) (putL st k xs) (laR La k r1) k' i' = some e →
      (∃ e0, mCell E cap mdc st La k' i' = some e0 ∧ laR La k r1 k' i' = La k' i') ∨ (k' = k + 4 ∧ i' = 0 ∧ H.size ≤ r1) := by
    intro k' i' e he
    by_cases n1 : k' = k ∧ i' = 0
    · obtain ⟨rfl, rfl⟩ := n1
      exact Or.inl ⟨_, cell_list h h2 h0, laR_ne (by omega)⟩
    · by_cases n2 : k' = k + 4 ∧ i' = 0
      · obtain ⟨rfl, rfl⟩ := n2
        rcases hr1 with ⟨g1, g2⟩ | ⟨g1, g2⟩
        · have c0 : cap k ≠ 0 := fun c0 => by
            unfold mCell at he
            rw [if_neg (by rw [lk_G (by omega) (by omega)]; show ¬ sN st 0 ≤ 0; omega), lk_kd (by omega) (by omega), lk_ad (by omega) (by omega)] at he
            dsimp only at he
            rw [if_neg (by omega), if_neg (fun z => by
              have z1 := z.2.2.2
              rw [Nat.add_sub_cancel, if_pos rfl] at z1
              omega)] at he
            cases he
          refine Or.inl ⟨_, cell_lrow h h2 h0 c0, ?_⟩
          rw [laR_at, g1, ← hrr, if_neg c0]
        · exact Or.inr ⟨rfl, rfl, g1⟩
      · rw [cO n1 n2] at he
        exact Or.inl ⟨e, he, laR_ne n2⟩
  refine ⟨⟨Nat.le_trans hb.1 hz, fun q hq => (hk q (Nat.lt_of_lt_of_le hq hb.1) (fun z => by have := hlo q z; omega)).trans (hb.2 q hq)⟩, ⟨hwf.1, hwf.2.1, fun k' x hx => ?_, hwf.2.2.2⟩, fun j => if j = k then cap1 else cap j, fun j => if j = k then m1 else mdc j, fun j j1 j2 => ?_, fun k' i' e he => ?_, fun k1 i1 k2 i2 e1 e2 he1 he2 heq => ?_⟩
  · by_cases hkk : k' = k
    · subst hkk
      rw [putL_at] at hx
      exact hxs x hx
    · rw [putL_ne hkk] at hx
      exact hwf.2.2.1 k' x hx
  · by_cases hkk : j = k
    · subst hkk
      rw [putL_at]
      dsimp only
      rw [if_pos rfl]
      exact ⟨hx1, hx2⟩
    · rw [putL_ne hkk]
      dsimp only
      rw [if_neg hkk]
      exact hl j j1 j2
  · by_cases n1 : k' = k ∧ i' = 0
    · obtain ⟨rfl, rfl⟩ := n1
      rw [cK] at he
      cases he
      rw [laR_ne (by omega)]
      refine ⟨hcl.1, ?_⟩
      have e1 : (if cap1 = 0 then eE E else laR La k' r1 (k' + 4) 0) = r1 := by
        rw [laR_at]
        split
        · rename_i c1
          rcases hr1 with ⟨g1, g2⟩ | ⟨g1, g2⟩
          · rw [g1, ← hrr, if_pos (by omega)]
          · exact absurd c1 g2
        · rfl
      rw [if_pos rfl, e1, putL_at]
      exact hLW.1
    · by_cases n2 : k' = k + 4 ∧ i' = 0
      · obtain ⟨rfl, rfl⟩ := n2
        have c1 : cap1 ≠ 0 := fun c0 => by
          unfold mCell at he
          rw [if_neg (by rw [lk_G (by omega) (by omega)]; show ¬ sN st 0 ≤ 0; omega), lk_kd (by omega) (by omega), lk_ad (by omega) (by omega)] at he
          dsimp only at he
          rw [if_neg (by omega), if_neg (fun z => by
            have z1 := z.2.2.2
            rw [Nat.add_sub_cancel, if_pos rfl] at z1
            exact z1 c0)] at he
          cases he
        have cR := cell_lrow (E := E) (cap := fun j => if j = k then cap1 else cap j) (mdc := fun j => if j = k then m1 else mdc j) (st := putL st k xs) (La := laR La k r1) h h2 h0 (by rw [if_pos rfl]; exact c1)
        rw [cR] at he
        cases he
        rw [laR_at]
        refine ⟨?_, ?_⟩
        · rcases hr1 with ⟨g1, g2⟩ | ⟨g1, g2⟩
          · rw [g1]; exact hr0 (by omega)
          · exact Nat.le_trans hb.1 g1
        · rw [if_pos rfl]
          have e1 : lf (putL st k xs) (laR La k r1) k = fun j => (xs[j]?).map (La (mEk k)) := by
            funext j
            unfold lf
            rw [putL_at]
            congr 1
            funext i
            exact laR_ne (fun z => by have := mEk_in (k := k); omega)
          rw [e1]
          exact hLW.2.2 c1
      · rw [cO n1 n2] at he
        rw [laR_ne n2]
        obtain ⟨g1, g2⟩ := hc k' i' e he
        refine ⟨g1, g2.kept (hk _ g2.lt (fun z => ?_))⟩
        have hlt := g2.lt
        rcases z with z | ⟨z, c0⟩ | z
        · exact n1 (hinj _ _ _ _ _ _ he (cell_list h h2 h0) z)
        · rw [← hrr, if_neg c0] at z
          exact n2 (hinj _ _ _ _ _ _ he (cell_lrow h h2 h0 c0) z)
        · have : La k' i' < H.size := hlt
          omega
  · rcases hold _ _ _ he1 with ⟨x1, y1, z1⟩ | ⟨p1, p2, p3⟩ <;> rcases hold _ _ _ he2 with ⟨x2, y2, z2⟩ | ⟨p4, p5, p6⟩
    · rw [z1, z2] at heq
      exact hinj _ _ _ _ _ _ y1 y2 heq
    · exfalso
      subst p4; subst p5
      rw [z1, laR_at] at heq
      have : La k1 i1 < H.size := (hc _ _ _ y1).2.lt
      omega
    · exfalso
      subst p1; subst p2
      rw [z2, laR_at] at heq
      have : La k2 i2 < H.size := (hc _ _ _ y2).2.lt
      omega
    · exact ⟨p1.trans p4.symm, p2.trans p5.symm⟩
