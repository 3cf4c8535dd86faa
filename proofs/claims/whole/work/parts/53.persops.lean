/-! THE CLASS's calls about people -/
set_option maxHeartbeats 4000000 in
set_option maxRecDepth 20000 in
theorem aP_eq {A : oA} (h : oBnd A) : (aP A : Int) = A 30 1 := by unfold aP; have := h.1; omega
set_option maxHeartbeats 4000000 in
set_option maxRecDepth 20000 in
theorem aS_eq {A : oA} (h : oBnd A) : (aS A : Int) = A 30 2 := by unfold aS; have := h.2.1; omega
set_option maxHeartbeats 4000000 in
set_option maxRecDepth 20000 in
theorem aV_eq {A : oA} (h : oBnd A) : (aV A : Int) = A 30 3 := by unfold aV; have := h.2.2.1; omega
def agP (A A' : oA) (p : Nat) : Prop := ∀ k j, ¬ (((k = 31 ∨ k = 35 ∨ k = 36) ∧ 4 * p ≤ j ∧ j < 4 * p + 4) ∨ ((k = 32 ∨ k = 33) ∧ 42 * p ≤ j ∧ j < 42 * p + 42) ∨ ((k = 34 ∨ k = 37 ∨ k = 38) ∧ j = p)) → A' k j = A k j
def frPs (p : Nat) (st st' : mS) : Prop := (∀ k i j, ¬ ((k = 3 ∧ i = p ∧ (j = 5 ∨ j = 6)) ∨ ((k = 4 ∨ k = 5) ∧ i = p)) → sI st' k i j = sI st k i j) ∧ (∀ k i j, ¬ ((k = 1 ∨ k = 2) ∧ i = p) → sJ st' k i j = sJ st k i j) ∧ sD st' = sD st ∧ sN st' = sN st ∧ sR st' = sR st ∧ sL st' = sL st
set_option maxHeartbeats 4000000 in
set_option maxRecDepth 20000 in
theorem frPs.C {p : Nat} {st st' : mS} (h : frPs p st st') : frC st st' := ⟨fun k i j hk => h.1 k i j (fun z => by omega), fun k i j hk => h.2.1 k i j (fun z => by omega), h.2.2.1, fun g _ => by rw [h.2.2.2.1]⟩
set_option maxHeartbeats 4000000 in
set_option maxRecDepth 20000 in
theorem nAt_eq {A A' : oA} (h30 : A' 30 3 = A 30 3) (h45 : ∀ j, A' 45 j = A 45 j) (h42 : ∀ j, A' 42 j = A 42 j) (h43 : ∀ j, A' 43 j = A 43 j) {p h : Int} : nAt A' p h = nAt A p h := by
  unfold nAt hasP covS aV
  simp only [h30, h45, h42, h43]
set_option maxHeartbeats 4000000 in
set_option maxRecDepth 20000 in
theorem RelC_pers {st st' : mS} {A A' : oA} {p : Nat} (hR : RelC st A) (hF : frPs p st st') (hX : agP A A' p) (hp : RP1 st' A' p) : RelC st' A' := by
  obtain ⟨f1, f2, f3, f4, f5, f6⟩ := hF
  have eA : ∀ k j, k = 30 ∨ 39 ≤ k → A' k j = A k j := fun k j hk => hX k j (fun z => by omega)
  have e : ∀ k i j, k = 0 ∨ 6 ≤ k → sI st' k i j = sI st k i j := fun k i j hk => f1 k i j (fun z => by omega)
  have eP : aP A' = aP A := by unfold aP; rw [eA 30 1 (by omega)]
  have eS : aS A' = aS A := by unfold aS; rw [eA 30 2 (by omega)]
  have eV : aV A' = aV A := by unfold aV; rw [eA 30 3 (by omega)]
  obtain ⟨h0, h1, h2, h3, h4⟩ := hR
  refine ⟨?_, fun i hi => ?_, fun i hi => ?_, fun j hj => ?_, fun s hs => ?_⟩
  · unfold R0; rw [f6, f4, e 0 0 5 (by omega), e 0 0 6 (by omega), e 0 0 7 (by omega), eP, eS, eV, eA 30 4 (by omega), eA 30 5 (by omega), eA 30 6 (by omega)]; exact h0
  · rw [eP] at hi
    by_cases c : i = p
    · subst c; exact hp
    · have := h1 i hi
      unfold RP1 at this ⊢
      rw [f1 3 i 0 (fun z => by omega), f1 3 i 5 (fun z => by omega), f1 3 i 6 (fun z => by omega), f2 1 i 0 (fun z => by omega), f2 2 i 0 (fun z => by omega), hX 34 i (fun z => by omega), hX 37 i (fun z => by omega), hX 38 i (fun z => by omega)]
      refine ⟨this.1, fun k hk => ?_, fun x hx => ?_, fun x hx => ?_, this.2.2.2.2⟩
      · rw [hX 31 (4 * i + k) (fun z => by omega), hX 35 (4 * i + k) (fun z => by omega), hX 36 (4 * i + k) (fun z => by omega), f1 4 i k (fun z => by omega), f1 5 i k (fun z => by omega)]
        exact this.2.1 k hk
      · rw [this.2.2.1 x hx]
        constructor
        · rintro ⟨y1, y2⟩; exact ⟨y1, by rw [hX 32 (42 * i + x) (fun z => by omega)]; exact y2⟩
        · rintro ⟨y1, y2⟩; exact ⟨y1, by rw [hX 32 (42 * i + x) (fun z => by omega)] at y2; exact y2⟩
      · rw [this.2.2.2.1 x hx]
        constructor
        · rintro ⟨y1, y2⟩; exact ⟨y1, by rw [hX 33 (42 * i + x) (fun z => by omega)]; exact y2⟩
        · rintro ⟨y1, y2⟩; exact ⟨y1, by rw [hX 33 (42 * i + x) (fun z => by omega)] at y2; exact y2⟩
  · rw [eP] at hi
    have := h2 i hi
    refine ⟨fun x hx => ?_, ?_⟩
    · rw [e 6 _ _ (by omega), nAt_eq (eA 30 3 (by omega)) (fun j => eA 45 j (by omega)) (fun j => eA 42 j (by omega)) (fun j => eA 43 j (by omega))]; exact this.1 x hx
    · rw [f1 3 i 8 (fun z => by omega), this.2]
      exact sumN_congr fun x _ => (e 6 _ _ (by omega)).symm
  · rw [eS] at hj
    have := h3 j hj
    unfold RS1 at this ⊢
    simp only [e 7 _ _ (by omega), e 8 _ _ (by omega), eV, eA 39 _ (by omega), eA 40 _ (by omega), eA 41 _ (by omega)]; exact this
  · rw [eV] at hs
    have := h4 s hs
    unfold RV1 shN at this ⊢
    simp only [f5, e 9 _ _ (by omega), e 10 _ _ (by omega), eA 41 _ (by omega), eA 42 _ (by omega), eA 43 _ (by omega), eA 44 _ (by omega), eA 45 _ (by omega)]; exact this
set_option maxHeartbeats 4000000 in
set_option maxRecDepth 20000 in
theorem upA_eq {A : oA} {k j : Nat} {v : Int} : upA A k j v k j = v := if_pos ⟨rfl, rfl⟩
set_option maxHeartbeats 4000000 in
set_option maxRecDepth 20000 in
theorem upA_ne {A : oA} {k j a b : Nat} {v : Int} (h : ¬ (a = k ∧ b = j)) : upA A k j v a b = A a b := if_neg h
set_option maxHeartbeats 4000000 in
set_option maxRecDepth 20000 in
theorem RelC_0 {st st' : mS} {A A' : oA} (hR : RelC st A) (f1 : ∀ k i j, k ≠ 0 → sI st' k i j = sI st k i j) (f2 : st'.2 = st.2) (hX : ∀ k j, ¬ (k = 30 ∧ 4 ≤ j) → A' k j = A k j) (h5 : sI st' 0 0 5 = A' 30 4) (h6 : sI st' 0 0 6 = A' 30 5) (h7 : sI st' 0 0 7 = A' 30 6) : RelC st' A' := by
  have eP : aP A' = aP A := by unfold aP; rw [hX 30 1 (by omega)]
  have eS : aS A' = aS A := by unfold aS; rw [hX 30 2 (by omega)]
  have eV : aV A' = aV A := by unfold aV; rw [hX 30 3 (by omega)]
  have eL : sL st' = sL st := by unfold sL; rw [f2]
  have eN : sN st' = sN st := by unfold sN; rw [f2]
  have eR : sR st' = sR st := by unfold sR; rw [f2]
  have eJ : sJ st' = sJ st := by unfold sJ; rw [f2]
  have eA : ∀ k j, k ≠ 30 → A' k j = A k j := fun k j hk => hX k j (by omega)
  obtain ⟨h0, h1, h2, h3, h4⟩ := hR
  refine ⟨?_, fun i hi => ?_, fun i hi => ?_, fun j hj => ?_, fun s hs => ?_⟩
  · unfold R0; rw [eL, eN, eP, eS, eV]; exact ⟨h0.1, h0.2.1, h5, h6, h7⟩
  · rw [eP] at hi
    have := h1 i hi
    unfold RP1 at this ⊢
    simp only [eJ, f1 3 _ _ (by omega), f1 4 _ _ (by omega), f1 5 _ _ (by omega), eA 31 _ (by omega), eA 32 _ (by omega), eA 33 _ (by omega), eA 34 _ (by omega), eA 35 _ (by omega), eA 36 _ (by omega), eA 37 _ (by omega), eA 38 _ (by omega)]; exact this
  · rw [eP] at hi
    have := h2 i hi
    refine ⟨fun x hx => ?_, ?_⟩
    · rw [f1 6 _ _ (by omega), nAt_eq (hX 30 3 (by omega)) (fun j => eA 45 j (by omega)) (fun j => eA 42 j (by omega)) (fun j => eA 43 j (by omega))]; exact this.1 x hx
    · rw [f1 3 i 8 (by omega), this.2]
      exact sumN_congr fun x _ => (f1 6 _ _ (by omega)).symm
  · rw [eS] at hj
    have := h3 j hj
    unfold RS1 at this ⊢
    simp only [f1 7 _ _ (by omega), f1 8 _ _ (by omega), eV, eA 39 _ (by omega), eA 40 _ (by omega), eA 41 _ (by omega)]; exact this
  · rw [eV] at hs
    have := h4 s hs
    unfold RV1 shN at this ⊢
    simp only [eR, f1 9 _ _ (by omega), f1 10 _ _ (by omega), eA 41 _ (by omega), eA 42 _ (by omega), eA 43 _ (by omega), eA 44 _ (by omega), eA 45 _ (by omega)]; exact this
set_option maxHeartbeats 4000000 in
set_option maxRecDepth 20000 in
theorem s_115 {CC : Nat → mCall} (G : mGood CC) {d : Nat} (hd : 1 ≤ d) {A : oA} {x : Int} {st : mS} {post : mO → mS → Prop} (hR : RelC st A) (h : ∀ st', frC st st' → RelC st' (oSetDay A x).2.2 → post (outI (oSetDay A x)) st') : CC d 115 [mr 0 0, mi x] st post := by
  have e6 := hR.1.2.2.2.1
  unfold oSetDay at h
  by_cases c : 1 ≤ x ∧ x ≤ 24
  · simp only [oif_pos c, outI_v] at h
    have go := h (putI st 0 0 6 x) (frC_I (by omega)) (RelC_0 hR (fun k i j hk => by rw [q_II, if_neg (by omega)]) rfl (fun k j hk => upA_ne (by omega)) ((q_II.trans (if_neg (by omega))).trans (hR.1.2.2.1.trans (upA_ne (by omega)).symm)) (q_II.trans ((if_pos ⟨rfl, rfl, rfl⟩).trans upA_eq.symm)) ((q_II.trans (if_neg (by omega))).trans (hR.1.2.2.2.2.trans (upA_ne (by omega)).symm)))
    obtain ⟨d, rfl, hd⟩ := mdep hd; refine go_115 G (Nat.le_of_ble_eq_true rfl) (fun WW hW => ?_)
    (refine hW _ _ _ _ _ ?_; simp only [e_get0, e_getn, e_load0, e_loadn, e_remnil, e_rem0, e_remi, e_remr, e_pnil, e_pcons, e_pc, e_set1, e_isI, e_isR, e_isJ, e_mun, e_mbin, e_mbinJ, e_nil, e_ins, e_exc, e_cond, margs, mcat, e_ceq, e_cne, e_clt, e_cge, e_cgt, e_cle, e_ty0, e_ty1, e_ty2, a_115_0, a_115_11, a_115_21, cle_8_13, clt_2_9, e_aload_0, e_bipush, e_getf, e_iconst, e_iload_1, e_iload_2, e_ireturn, e_istore_2, e_putf, f_RX6_40_0, ft_0_6, j_115_0, j_115_11, j_115_21, p_RX6_40_0, th_RX6_46_0, Nat.reduceLeDiff, Nat.reduceSub, Nat.reduceAdd, Nat.reduceEqDiff, Nat.le_refl, Nat.zero_le, true_and, and_true, ne_eq, not_false_eq_true, Nat.sub_zero, Nat.zero_add, Int.reduceLT, Int.reduceLE, Int.reduceAdd, Int.reduceSub, Int.reduceNeg, Int.reduceMul, Int.reduceToNat, e_nc, Int.reduceEq, Int.reduceNe, not_true_eq_false, not_false_eq_true, forall_const, false_implies, implies_true, Int.reduceGE, Int.reduceGT, Nat.reduceMul, reduceCtorEq, true_implies, true_or, or_true, or_self, Int.toNat_natCast, Nat.zero_ne_one, Nat.one_ne_zero, false_and, and_false, if_false, if_true, and_self, eq_self, Int.lt_irrefl, q_II, q_IJ, q_IL, q_JI, q_JJ, q_JL, q_NI, q_NJ, q_NL, q_RI, q_RJ, q_RL, q_LI, q_LJ, q_LL, e6])
    repeat' (first | exact go | (exfalso; omega) | with_reducible apply And.intro | exact inR_of (by omega) (by omega) | (refine hW _ _ _ _ _ ?_; simp only [e_get0, e_getn, e_load0, e_loadn, e_remnil, e_rem0, e_remi, e_remr, e_pnil, e_pcons, e_pc, e_set1, e_isI, e_isR, e_isJ, e_mun, e_mbin, e_mbinJ, e_nil, e_ins, e_exc, e_cond, margs, mcat, e_ceq, e_cne, e_clt, e_cge, e_cgt, e_cle, e_ty0, e_ty1, e_ty2, a_115_0, a_115_11, a_115_21, cle_8_13, clt_2_9, e_aload_0, e_bipush, e_getf, e_iconst, e_iload_1, e_iload_2, e_ireturn, e_istore_2, e_putf, f_RX6_40_0, ft_0_6, j_115_0, j_115_11, j_115_21, p_RX6_40_0, th_RX6_46_0, Nat.reduceLeDiff, Nat.reduceSub, Nat.reduceAdd, Nat.reduceEqDiff, Nat.le_refl, Nat.zero_le, true_and, and_true, ne_eq, not_false_eq_true, Nat.sub_zero, Nat.zero_add, Int.reduceLT, Int.reduceLE, Int.reduceAdd, Int.reduceSub, Int.reduceNeg, Int.reduceMul, Int.reduceToNat, e_nc, Int.reduceEq, Int.reduceNe, not_true_eq_false, not_false_eq_true, forall_const, false_implies, implies_true, Int.reduceGE, Int.reduceGT, Nat.reduceMul, reduceCtorEq, true_implies, true_or, or_true, or_self, Int.toNat_natCast, Nat.zero_ne_one, Nat.one_ne_zero, false_and, and_false, if_false, if_true, and_self, eq_self, Int.lt_irrefl, q_II, q_IJ, q_IL, q_JI, q_JJ, q_JL, q_NI, q_NJ, q_NL, q_RI, q_RJ, q_RL, q_LI, q_LJ, q_LL, e6]) | (with_reducible show mck _ _ _ _ _ _ _ _; simp only [e_get0, e_getn, e_load0, e_loadn, e_remnil, e_rem0, e_remi, e_remr, e_pnil, e_pcons, e_pc, e_set1, e_isI, e_isR, e_isJ, e_mun, e_mbin, e_mbinJ, e_nil, e_ins, e_exc, e_cond, margs, mcat, e_ceq, e_cne, e_clt, e_cge, e_cgt, e_cle, e_ty0, e_ty1, e_ty2, a_115_0, a_115_11, a_115_21, cle_8_13, clt_2_9, e_aload_0, e_bipush, e_getf, e_iconst, e_iload_1, e_iload_2, e_ireturn, e_istore_2, e_putf, f_RX6_40_0, ft_0_6, j_115_0, j_115_11, j_115_21, p_RX6_40_0, th_RX6_46_0, Nat.reduceLeDiff, Nat.reduceSub, Nat.reduceAdd, Nat.reduceEqDiff, Nat.le_refl, Nat.zero_le, true_and, and_true, ne_eq, not_false_eq_true, Nat.sub_zero, Nat.zero_add, Int.reduceLT, Int.reduceLE, Int.reduceAdd, Int.reduceSub, Int.reduceNeg, Int.reduceMul, Int.reduceToNat, e_nc, Int.reduceEq, Int.reduceNe, not_true_eq_false, not_false_eq_true, forall_const, false_implies, implies_true, Int.reduceGE, Int.reduceGT, Nat.reduceMul, reduceCtorEq, true_implies, true_or, or_true, or_self, Int.toNat_natCast, Nat.zero_ne_one, Nat.one_ne_zero, false_and, and_false, if_false, if_true, and_self, eq_self, Int.lt_irrefl, q_II, q_IJ, q_IL, q_JI, q_JJ, q_JL, q_NI, q_NJ, q_NL, q_RI, q_RJ, q_RL, q_LI, q_LJ, q_LL, e6]) | intro _ | omega)
  · simp only [oif_neg c, outI_x] at h
    have go := h st (frC.refl st) hR
    obtain ⟨d, rfl, hd⟩ := mdep hd; refine go_115 G (Nat.le_of_ble_eq_true rfl) (fun WW hW => ?_)
    (refine hW _ _ _ _ _ ?_; simp only [e_get0, e_getn, e_load0, e_loadn, e_remnil, e_rem0, e_remi, e_remr, e_pnil, e_pcons, e_pc, e_set1, e_isI, e_isR, e_isJ, e_mun, e_mbin, e_mbinJ, e_nil, e_ins, e_exc, e_cond, margs, mcat, e_ceq, e_cne, e_clt, e_cge, e_cgt, e_cle, e_ty0, e_ty1, e_ty2, a_115_0, a_115_11, a_115_21, cle_8_13, clt_2_9, e_aload_0, e_bipush, e_getf, e_iconst, e_iload_1, e_iload_2, e_ireturn, e_istore_2, e_putf, f_RX6_40_0, ft_0_6, j_115_0, j_115_11, j_115_21, p_RX6_40_0, th_RX6_46_0, Nat.reduceLeDiff, Nat.reduceSub, Nat.reduceAdd, Nat.reduceEqDiff, Nat.le_refl, Nat.zero_le, true_and, and_true, ne_eq, not_false_eq_true, Nat.sub_zero, Nat.zero_add, Int.reduceLT, Int.reduceLE, Int.reduceAdd, Int.reduceSub, Int.reduceNeg, Int.reduceMul, Int.reduceToNat, e_nc, Int.reduceEq, Int.reduceNe, not_true_eq_false, not_false_eq_true, forall_const, false_implies, implies_true, Int.reduceGE, Int.reduceGT, Nat.reduceMul, reduceCtorEq, true_implies, true_or, or_true, or_self, Int.toNat_natCast, Nat.zero_ne_one, Nat.one_ne_zero, false_and, and_false, if_false, if_true, and_self, eq_self, Int.lt_irrefl, q_II, q_IJ, q_IL, q_JI, q_JJ, q_JL, q_NI, q_NJ, q_NL, q_RI, q_RJ, q_RL, q_LI, q_LJ, q_LL, e6])
    repeat' (first | exact go | (exfalso; omega) | with_reducible apply And.intro | exact inR_of (by omega) (by omega) | (refine hW _ _ _ _ _ ?_; simp only [e_get0, e_getn, e_load0, e_loadn, e_remnil, e_rem0, e_remi, e_remr, e_pnil, e_pcons, e_pc, e_set1, e_isI, e_isR, e_isJ, e_mun, e_mbin, e_mbinJ, e_nil, e_ins, e_exc, e_cond, margs, mcat, e_ceq, e_cne, e_clt, e_cge, e_cgt, e_cle, e_ty0, e_ty1, e_ty2, a_115_0, a_115_11, a_115_21, cle_8_13, clt_2_9, e_aload_0, e_bipush, e_getf, e_iconst, e_iload_1, e_iload_2, e_ireturn, e_istore_2, e_putf, f_RX6_40_0, ft_0_6, j_115_0, j_115_11, j_115_21, p_RX6_40_0, th_RX6_46_0, Nat.reduceLeDiff, Nat.reduceSub, Nat.reduceAdd, Nat.reduceEqDiff, Nat.le_refl, Nat.zero_le, true_and, and_true, ne_eq, not_false_eq_true, Nat.sub_zero, Nat.zero_add, Int.reduceLT, Int.reduceLE, Int.reduceAdd, Int.reduceSub, Int.reduceNeg, Int.reduceMul, Int.reduceToNat, e_nc, Int.reduceEq, Int.reduceNe, not_true_eq_false, not_false_eq_true, forall_const, false_implies, implies_true, Int.reduceGE, Int.reduceGT, Nat.reduceMul, reduceCtorEq, true_implies, true_or, or_true, or_self, Int.toNat_natCast, Nat.zero_ne_one, Nat.one_ne_zero, false_and, and_false, if_false, if_true, and_self, eq_self, Int.lt_irrefl, q_II, q_IJ, q_IL, q_JI, q_JJ, q_JL, q_NI, q_NJ, q_NL, q_RI, q_RJ, q_RL, q_LI, q_LJ, q_LL, e6]) | (with_reducible show mck _ _ _ _ _ _ _ _; simp only [e_get0, e_getn, e_load0, e_loadn, e_remnil, e_rem0, e_remi, e_remr, e_pnil, e_pcons, e_pc, e_set1, e_isI, e_isR, e_isJ, e_mun, e_mbin, e_mbinJ, e_nil, e_ins, e_exc, e_cond, margs, mcat, e_ceq, e_cne, e_clt, e_cge, e_cgt, e_cle, e_ty0, e_ty1, e_ty2, a_115_0, a_115_11, a_115_21, cle_8_13, clt_2_9, e_aload_0, e_bipush, e_getf, e_iconst, e_iload_1, e_iload_2, e_ireturn, e_istore_2, e_putf, f_RX6_40_0, ft_0_6, j_115_0, j_115_11, j_115_21, p_RX6_40_0, th_RX6_46_0, Nat.reduceLeDiff, Nat.reduceSub, Nat.reduceAdd, Nat.reduceEqDiff, Nat.le_refl, Nat.zero_le, true_and, and_true, ne_eq, not_false_eq_true, Nat.sub_zero, Nat.zero_add, Int.reduceLT, Int.reduceLE, Int.reduceAdd, Int.reduceSub, Int.reduceNeg, Int.reduceMul, Int.reduceToNat, e_nc, Int.reduceEq, Int.reduceNe, not_true_eq_false, not_false_eq_true, forall_const, false_implies, implies_true, Int.reduceGE, Int.reduceGT, Nat.reduceMul, reduceCtorEq, true_implies, true_or, or_true, or_self, Int.toNat_natCast, Nat.zero_ne_one, Nat.one_ne_zero, false_and, and_false, if_false, if_true, and_self, eq_self, Int.lt_irrefl, q_II, q_IJ, q_IL, q_JI, q_JJ, q_JL, q_NI, q_NJ, q_NL, q_RI, q_RJ, q_RL, q_LI, q_LJ, q_LL, e6]) | intro _ | omega)
