/-! LEAVES of the class: days -/
set_option maxRecDepth 20000 in
theorem putJ_self {st : mS} {k i j : Nat} : putJ st k i j (sJ st k i j) = st := by
  unfold putJ
  have : up3 st.2.1 k i j (sJ st k i j) = st.2.1 := by
    funext a b c
    unfold up3
    split
    · rename_i h; rw [h.1, h.2.1, h.2.2]; rfl
    · rfl
  rw [this]
set_option maxRecDepth 20000 in
theorem putJ_putJ {st : mS} {k i j : Nat} {v w : Int64} : putJ (putJ st k i j v) k i j w = putJ st k i j w := by
  unfold putJ
  have : up3 (up3 st.2.1 k i j v) k i j w = up3 st.2.1 k i j w := by
    funext a b c
    unfold up3
    split <;> rfl
  show (st.1, up3 (up3 st.2.1 k i j v) k i j w, st.2.2) = _
  rw [this]
set_option maxRecDepth 20000 in
theorem s_66 {CC : Nat → mCall} (G : mGood CC) {d : Nat} (hd : 1 ≤ d) {k i : Nat} {first last : Int} {st : mS} {post : mO → mS → Prop} (hk : k = 1 ∨ k = 2)
    (h : ∀ b' : Int64, (∀ e, e < 64 → (dbit b' e = true ↔ dbit (sJ st k i 0) e = true ∨ (first ≤ e ∧ (e : Int) ≤ last ∧ e ≤ 41))) → post (.inl none) (putJ st k i 0 b')) : CC d 66 [mr k i, mi first, mi last] st post := by
  obtain ⟨d, rfl, hd⟩ := mdep hd
  refine go_66 G (Nat.le_of_ble_eq_true rfl) (fun WW hW => ?_)
  have loop : ∀ (n : Nat) (x : Int) (st : mS), 0 ≤ x → 42 - x ≤ n →
      (∀ b' : Int64, (∀ e, e < 64 → (dbit b' e = true ↔ dbit (sJ st k i 0) e = true ∨ (x ≤ e ∧ (e : Int) ≤ last ∧ e ≤ 41))) → post (.inl none) (putJ st k i 0 b')) →
      WW 6 [(0, mr k i), (2, mi last), (3, mi x)] [] (0, 0) st := by
    intro n
    induction n with
    | zero =>
      intro x st h0 hn h
      have hp := h (sJ st k i 0) (fun e he => ⟨fun z => Or.inl z, fun z => z.elim id (fun z => by omega)⟩)
      rw [putJ_self] at hp
      rcases hk with rfl | rfl <;>
      · (refine hW _ _ _ _ _ ?_; simp only [e_get0, e_getn, e_load0, e_loadn, e_remnil, e_rem0, e_remi, e_remr, e_pnil, e_pcons, e_set1, e_isI, e_isR, e_isJ, e_mun, e_mbin, e_mbinJ, e_nil, e_ins, e_exc, e_cond, margs, mcat, e_ceq, e_cne, e_clt, e_cge, e_cgt, e_cle, e_ty0, e_ty1, e_ty2, a_66_0, a_66_35, a_66_6, cgt_14_21, cgt_8_27, e_aload_0, e_bipush, e_dupi, e_dupr, e_getf, e_iconst, e_iinc, e_iload_1, e_iload_2, e_iload_3, e_istore_3, e_lconst0, e_lconst1, e_lor, e_lshl, e_putfJ, e_return, f_RX1_9_1, f_RX1_9_2, g_32_m26, j_66_0, j_66_35, j_66_6, m_RX1_15, p_RX1_9_1, p_RX1_9_2, rm_, rm_i, rm_ii, rm_iii, rm_iiii, rm_iiir, rm_iir, rm_iiri, rm_iirr, rm_ir, rm_iri, rm_irii, rm_irir, rm_irr, rm_irri, rm_irrr, rm_r, rm_ri, rm_rii, rm_riii, rm_riir, rm_rir, rm_riri, rm_rirr, rm_rr, rm_rri, rm_rrii, rm_rrir, rm_rrr, rm_rrri, rm_rrrr, Nat.reduceLeDiff, Nat.reduceSub, Nat.reduceAdd, Nat.reduceEqDiff, Nat.le_refl, Nat.zero_le, true_and, and_true, ne_eq, not_false_eq_true, Nat.sub_zero, Nat.zero_add, Int.reduceLT, Int.reduceLE, Int.reduceAdd, Int.reduceSub, Int.reduceNeg, Int.reduceMul, Int.reduceToNat, e_nc, Int.reduceEq, Int.reduceNe, not_true_eq_false, not_false_eq_true, forall_const, false_implies, implies_true, Int.reduceGE, Int.reduceGT, Nat.reduceMul, reduceCtorEq, true_implies, true_or, or_true, or_self])
        repeat' (first | exact hp | (exfalso; omega) | refine ⟨?_, ?_⟩ | intro _ | (refine hW _ _ _ _ _ ?_; simp only [e_get0, e_getn, e_load0, e_loadn, e_remnil, e_rem0, e_remi, e_remr, e_pnil, e_pcons, e_set1, e_isI, e_isR, e_isJ, e_mun, e_mbin, e_mbinJ, e_nil, e_ins, e_exc, e_cond, margs, mcat, e_ceq, e_cne, e_clt, e_cge, e_cgt, e_cle, e_ty0, e_ty1, e_ty2, a_66_0, a_66_35, a_66_6, cgt_14_21, cgt_8_27, e_aload_0, e_bipush, e_dupi, e_dupr, e_getf, e_iconst, e_iinc, e_iload_1, e_iload_2, e_iload_3, e_istore_3, e_lconst0, e_lconst1, e_lor, e_lshl, e_putfJ, e_return, f_RX1_9_1, f_RX1_9_2, g_32_m26, j_66_0, j_66_35, j_66_6, m_RX1_15, p_RX1_9_1, p_RX1_9_2, rm_, rm_i, rm_ii, rm_iii, rm_iiii, rm_iiir, rm_iir, rm_iiri, rm_iirr, rm_ir, rm_iri, rm_irii, rm_irir, rm_irr, rm_irri, rm_irrr, rm_r, rm_ri, rm_rii, rm_riii, rm_riir, rm_rir, rm_riri, rm_rirr, rm_rr, rm_rri, rm_rrii, rm_rrir, rm_rrr, rm_rrri, rm_rrrr, Nat.reduceLeDiff, Nat.reduceSub, Nat.reduceAdd, Nat.reduceEqDiff, Nat.le_refl, Nat.zero_le, true_and, and_true, ne_eq, not_false_eq_true, Nat.sub_zero, Nat.zero_add, Int.reduceLT, Int.reduceLE, Int.reduceAdd, Int.reduceSub, Int.reduceNeg, Int.reduceMul, Int.reduceToNat, e_nc, Int.reduceEq, Int.reduceNe, not_true_eq_false, not_false_eq_true, forall_const, false_implies, implies_true, Int.reduceGE, Int.reduceGT, Nat.reduceMul, reduceCtorEq, true_implies, true_or, or_true, or_self]))
    | succ n ih =>
      intro x st h0 hn h
      by_cases hc : x ≤ last ∧ x ≤ 41
      · have go := ih (x + 1) (putJ st k i 0 (sJ st k i 0 ||| (1 : Int64) <<< ((Int32.ofInt x).toInt64 &&& 63))) (by omega) (by omega) (fun b' hb => by
          rw [putJ_putJ]
          refine h b' (fun e he => ?_)
          rw [hb e he, q_JJ, if_pos ⟨rfl, rfl, rfl⟩, or_bit, Bool.or_eq_true]
          obtain ⟨m, rfl⟩ := Int.eq_ofNat_of_zero_le h0
          rw [show ((m : Nat) : Int) = ((m : Nat) : Int) from rfl, shl_bit m e (by omega) he, decide_eq_true_iff]
          constructor
          · rintro ((z | z) | z)
            · exact Or.inl z
            · exact Or.inr (by omega)
            · exact Or.inr (by omega)
          · rintro (z | z)
            · exact Or.inl (Or.inl z)
            · by_cases hm : e = m
              · exact Or.inl (Or.inr hm)
              · exact Or.inr (by omega))
        rcases hk with rfl | rfl <;>
        · (refine hW _ _ _ _ _ ?_; simp only [e_get0, e_getn, e_load0, e_loadn, e_remnil, e_rem0, e_remi, e_remr, e_pnil, e_pcons, e_set1, e_isI, e_isR, e_isJ, e_mun, e_mbin, e_mbinJ, e_nil, e_ins, e_exc, e_cond, margs, mcat, e_ceq, e_cne, e_clt, e_cge, e_cgt, e_cle, e_ty0, e_ty1, e_ty2, a_66_0, a_66_35, a_66_6, cgt_14_21, cgt_8_27, e_aload_0, e_bipush, e_dupi, e_dupr, e_getf, e_iconst, e_iinc, e_iload_1, e_iload_2, e_iload_3, e_istore_3, e_lconst0, e_lconst1, e_lor, e_lshl, e_putfJ, e_return, f_RX1_9_1, f_RX1_9_2, g_32_m26, j_66_0, j_66_35, j_66_6, m_RX1_15, p_RX1_9_1, p_RX1_9_2, rm_, rm_i, rm_ii, rm_iii, rm_iiii, rm_iiir, rm_iir, rm_iiri, rm_iirr, rm_ir, rm_iri, rm_irii, rm_irir, rm_irr, rm_irri, rm_irrr, rm_r, rm_ri, rm_rii, rm_riii, rm_riir, rm_rir, rm_riri, rm_rirr, rm_rr, rm_rri, rm_rrii, rm_rrir, rm_rrr, rm_rrri, rm_rrrr, Nat.reduceLeDiff, Nat.reduceSub, Nat.reduceAdd, Nat.reduceEqDiff, Nat.le_refl, Nat.zero_le, true_and, and_true, ne_eq, not_false_eq_true, Nat.sub_zero, Nat.zero_add, Int.reduceLT, Int.reduceLE, Int.reduceAdd, Int.reduceSub, Int.reduceNeg, Int.reduceMul, Int.reduceToNat, e_nc, Int.reduceEq, Int.reduceNe, not_true_eq_false, not_false_eq_true, forall_const, false_implies, implies_true, Int.reduceGE, Int.reduceGT, Nat.reduceMul, reduceCtorEq, true_implies, true_or, or_true, or_self])
          repeat' (first | exact go | (exfalso; omega) | exact inR_of (by omega) (by omega) | refine ⟨?_, ?_⟩ | intro _ | (refine hW _ _ _ _ _ ?_; simp only [e_get0, e_getn, e_load0, e_loadn, e_remnil, e_rem0, e_remi, e_remr, e_pnil, e_pcons, e_set1, e_isI, e_isR, e_isJ, e_mun, e_mbin, e_mbinJ, e_nil, e_ins, e_exc, e_cond, margs, mcat, e_ceq, e_cne, e_clt, e_cge, e_cgt, e_cle, e_ty0, e_ty1, e_ty2, a_66_0, a_66_35, a_66_6, cgt_14_21, cgt_8_27, e_aload_0, e_bipush, e_dupi, e_dupr, e_getf, e_iconst, e_iinc, e_iload_1, e_iload_2, e_iload_3, e_istore_3, e_lconst0, e_lconst1, e_lor, e_lshl, e_putfJ, e_return, f_RX1_9_1, f_RX1_9_2, g_32_m26, j_66_0, j_66_35, j_66_6, m_RX1_15, p_RX1_9_1, p_RX1_9_2, rm_, rm_i, rm_ii, rm_iii, rm_iiii, rm_iiir, rm_iir, rm_iiri, rm_iirr, rm_ir, rm_iri, rm_irii, rm_irir, rm_irr, rm_irri, rm_irrr, rm_r, rm_ri, rm_rii, rm_riii, rm_riir, rm_rir, rm_riri, rm_rirr, rm_rr, rm_rri, rm_rrii, rm_rrir, rm_rrr, rm_rrri, rm_rrrr, Nat.reduceLeDiff, Nat.reduceSub, Nat.reduceAdd, Nat.reduceEqDiff, Nat.le_refl, Nat.zero_le, true_and, and_true, ne_eq, not_false_eq_true, Nat.sub_zero, Nat.zero_add, Int.reduceLT, Int.reduceLE, Int.reduceAdd, Int.reduceSub, Int.reduceNeg, Int.reduceMul, Int.reduceToNat, e_nc, Int.reduceEq, Int.reduceNe, not_true_eq_false, not_false_eq_true, forall_const, false_implies, implies_true, Int.reduceGE, Int.reduceGT, Nat.reduceMul, reduceCtorEq, true_implies, true_or, or_true, or_self]))
      · have hp := h (sJ st k i 0) (fun e he => ⟨fun z => Or.inl z, fun z => z.elim id (fun z => by omega)⟩)
        rw [putJ_self] at hp
        rcases hk with rfl | rfl <;>
        · (refine hW _ _ _ _ _ ?_; simp only [e_get0, e_getn, e_load0, e_loadn, e_remnil, e_rem0, e_remi, e_remr, e_pnil, e_pcons, e_set1, e_isI, e_isR, e_isJ, e_mun, e_mbin, e_mbinJ, e_nil, e_ins, e_exc, e_cond, margs, mcat, e_ceq, e_cne, e_clt, e_cge, e_cgt, e_cle, e_ty0, e_ty1, e_ty2, a_66_0, a_66_35, a_66_6, cgt_14_21, cgt_8_27, e_aload_0, e_bipush, e_dupi, e_dupr, e_getf, e_iconst, e_iinc, e_iload_1, e_iload_2, e_iload_3, e_istore_3, e_lconst0, e_lconst1, e_lor, e_lshl, e_putfJ, e_return, f_RX1_9_1, f_RX1_9_2, g_32_m26, j_66_0, j_66_35, j_66_6, m_RX1_15, p_RX1_9_1, p_RX1_9_2, rm_, rm_i, rm_ii, rm_iii, rm_iiii, rm_iiir, rm_iir, rm_iiri, rm_iirr, rm_ir, rm_iri, rm_irii, rm_irir, rm_irr, rm_irri, rm_irrr, rm_r, rm_ri, rm_rii, rm_riii, rm_riir, rm_rir, rm_riri, rm_rirr, rm_rr, rm_rri, rm_rrii, rm_rrir, rm_rrr, rm_rrri, rm_rrrr, Nat.reduceLeDiff, Nat.reduceSub, Nat.reduceAdd, Nat.reduceEqDiff, Nat.le_refl, Nat.zero_le, true_and, and_true, ne_eq, not_false_eq_true, Nat.sub_zero, Nat.zero_add, Int.reduceLT, Int.reduceLE, Int.reduceAdd, Int.reduceSub, Int.reduceNeg, Int.reduceMul, Int.reduceToNat, e_nc, Int.reduceEq, Int.reduceNe, not_true_eq_false, not_false_eq_true, forall_const, false_implies, implies_true, Int.reduceGE, Int.reduceGT, Nat.reduceMul, reduceCtorEq, true_implies, true_or, or_true, or_self])
          repeat' (first | exact hp | (exfalso; omega) | refine ⟨?_, ?_⟩ | intro _ | (refine hW _ _ _ _ _ ?_; simp only [e_get0, e_getn, e_load0, e_loadn, e_remnil, e_rem0, e_remi, e_remr, e_pnil, e_pcons, e_set1, e_isI, e_isR, e_isJ, e_mun, e_mbin, e_mbinJ, e_nil, e_ins, e_exc, e_cond, margs, mcat, e_ceq, e_cne, e_clt, e_cge, e_cgt, e_cle, e_ty0, e_ty1, e_ty2, a_66_0, a_66_35, a_66_6, cgt_14_21, cgt_8_27, e_aload_0, e_bipush, e_dupi, e_dupr, e_getf, e_iconst, e_iinc, e_iload_1, e_iload_2, e_iload_3, e_istore_3, e_lconst0, e_lconst1, e_lor, e_lshl, e_putfJ, e_return, f_RX1_9_1, f_RX1_9_2, g_32_m26, j_66_0, j_66_35, j_66_6, m_RX1_15, p_RX1_9_1, p_RX1_9_2, rm_, rm_i, rm_ii, rm_iii, rm_iiii, rm_iiir, rm_iir, rm_iiri, rm_iirr, rm_ir, rm_iri, rm_irii, rm_irir, rm_irr, rm_irri, rm_irrr, rm_r, rm_ri, rm_rii, rm_riii, rm_riir, rm_rir, rm_riri, rm_rirr, rm_rr, rm_rri, rm_rrii, rm_rrir, rm_rrr, rm_rrri, rm_rrrr, Nat.reduceLeDiff, Nat.reduceSub, Nat.reduceAdd, Nat.reduceEqDiff, Nat.le_refl, Nat.zero_le, true_and, and_true, ne_eq, not_false_eq_true, Nat.sub_zero, Nat.zero_add, Int.reduceLT, Int.reduceLE, Int.reduceAdd, Int.reduceSub, Int.reduceNeg, Int.reduceMul, Int.reduceToNat, e_nc, Int.reduceEq, Int.reduceNe, not_true_eq_false, not_false_eq_true, forall_const, false_implies, implies_true, Int.reduceGE, Int.reduceGT, Nat.reduceMul, reduceCtorEq, true_implies, true_or, or_true, or_self]))
  have go := loop 42 (max first 0) st (by omega) (by omega) (fun b' hb => h b' (fun e he => by rw [hb e he]; constructor <;> (rintro (z | z); exact Or.inl z; exact Or.inr (by omega))))
  rcases hk with rfl | rfl <;>
  · (refine hW _ _ _ _ _ ?_; simp only [e_get0, e_getn, e_load0, e_loadn, e_remnil, e_rem0, e_remi, e_remr, e_pnil, e_pcons, e_set1, e_isI, e_isR, e_isJ, e_mun, e_mbin, e_mbinJ, e_nil, e_ins, e_exc, e_cond, margs, mcat, e_ceq, e_cne, e_clt, e_cge, e_cgt, e_cle, e_ty0, e_ty1, e_ty2, a_66_0, a_66_35, a_66_6, cgt_14_21, cgt_8_27, e_aload_0, e_bipush, e_dupi, e_dupr, e_getf, e_iconst, e_iinc, e_iload_1, e_iload_2, e_iload_3, e_istore_3, e_lconst0, e_lconst1, e_lor, e_lshl, e_putfJ, e_return, f_RX1_9_1, f_RX1_9_2, g_32_m26, j_66_0, j_66_35, j_66_6, m_RX1_15, p_RX1_9_1, p_RX1_9_2, rm_, rm_i, rm_ii, rm_iii, rm_iiii, rm_iiir, rm_iir, rm_iiri, rm_iirr, rm_ir, rm_iri, rm_irii, rm_irir, rm_irr, rm_irri, rm_irrr, rm_r, rm_ri, rm_rii, rm_riii, rm_riir, rm_rir, rm_riri, rm_rirr, rm_rr, rm_rri, rm_rrii, rm_rrir, rm_rrr, rm_rrri, rm_rrrr, Nat.reduceLeDiff, Nat.reduceSub, Nat.reduceAdd, Nat.reduceEqDiff, Nat.le_refl, Nat.zero_le, true_and, and_true, ne_eq, not_false_eq_true, Nat.sub_zero, Nat.zero_add, Int.reduceLT, Int.reduceLE, Int.reduceAdd, Int.reduceSub, Int.reduceNeg, Int.reduceMul, Int.reduceToNat, e_nc, Int.reduceEq, Int.reduceNe, not_true_eq_false, not_false_eq_true, forall_const, false_implies, implies_true, Int.reduceGE, Int.reduceGT, Nat.reduceMul, reduceCtorEq, true_implies, true_or, or_true, or_self])
    exact go
set_option maxRecDepth 20000 in
theorem s_67 {CC : Nat → mCall} (G : mGood CC) {d : Nat} (hd : 1 ≤ d) {k i : Nat} {day : Nat} {st : mS} {post : mO → mS → Prop} (hk : k = 1 ∨ k = 2) (hday : day ≤ 41)
    (h : ∀ b' : Int64, (∀ e, e < 64 → (dbit b' e = true ↔ dbit (sJ st k i 0) e = true ∧ e < day)) → post (.inl none) (putJ st k i 0 b')) : CC d 67 [mr k i, mi (day : Int)] st post := by
  have go := h (sJ st k i 0 &&& ((1 : Int64) <<< ((Int32.ofInt (day : Int)).toInt64 &&& 63) - 1)) (fun e he => by rw [and_bit, Bool.and_eq_true, msk_bit day e (by omega) he, decide_eq_true_iff])
  obtain ⟨d, rfl, hd⟩ := mdep hd
  refine go_67 G (Nat.le_of_ble_eq_true rfl) (fun WW hW => ?_)
  rcases hk with rfl | rfl <;>
  · (refine hW _ _ _ _ _ ?_; simp only [e_get0, e_getn, e_load0, e_loadn, e_remnil, e_rem0, e_remi, e_remr, e_pnil, e_pcons, e_set1, e_isI, e_isR, e_isJ, e_mun, e_mbin, e_mbinJ, e_nil, e_ins, e_exc, e_cond, margs, mcat, e_ceq, e_cne, e_clt, e_cge, e_cgt, e_cle, e_ty0, e_ty1, e_ty2, a_67_0, a_67_24, cgt_7_17, e_aload_0, e_bipush, e_dupi, e_dupr, e_getf, e_iload_1, e_land, e_lconst0, e_lconst1, e_lshl, e_lsub, e_putfJ, e_return, f_RX1_9_1, f_RX1_9_2, j_67_0, j_67_24, p_RX1_9_1, p_RX1_9_2, zlt_1_23, Nat.reduceLeDiff, Nat.reduceSub, Nat.reduceAdd, Nat.reduceEqDiff, Nat.le_refl, Nat.zero_le, true_and, and_true, ne_eq, not_false_eq_true, Nat.sub_zero, Nat.zero_add, Int.reduceLT, Int.reduceLE, Int.reduceAdd, Int.reduceSub, Int.reduceNeg, Int.reduceMul, Int.reduceToNat, e_nc, Int.reduceEq, Int.reduceNe, not_true_eq_false, not_false_eq_true, forall_const, false_implies, implies_true, Int.reduceGE, Int.reduceGT, Nat.reduceMul, reduceCtorEq, true_implies, true_or, or_true, or_self])
    repeat' (first | refine ⟨?_, ?_⟩ | intro _ | (refine hW _ _ _ _ _ ?_; simp only [e_get0, e_getn, e_load0, e_loadn, e_remnil, e_rem0, e_remi, e_remr, e_pnil, e_pcons, e_set1, e_isI, e_isR, e_isJ, e_mun, e_mbin, e_mbinJ, e_nil, e_ins, e_exc, e_cond, margs, mcat, e_ceq, e_cne, e_clt, e_cge, e_cgt, e_cle, e_ty0, e_ty1, e_ty2, a_67_0, a_67_24, cgt_7_17, e_aload_0, e_bipush, e_dupi, e_dupr, e_getf, e_iload_1, e_land, e_lconst0, e_lconst1, e_lshl, e_lsub, e_putfJ, e_return, f_RX1_9_1, f_RX1_9_2, j_67_0, j_67_24, p_RX1_9_1, p_RX1_9_2, zlt_1_23, Nat.reduceLeDiff, Nat.reduceSub, Nat.reduceAdd, Nat.reduceEqDiff, Nat.le_refl, Nat.zero_le, true_and, and_true, ne_eq, not_false_eq_true, Nat.sub_zero, Nat.zero_add, Int.reduceLT, Int.reduceLE, Int.reduceAdd, Int.reduceSub, Int.reduceNeg, Int.reduceMul, Int.reduceToNat, e_nc, Int.reduceEq, Int.reduceNe, not_true_eq_false, not_false_eq_true, forall_const, false_implies, implies_true, Int.reduceGE, Int.reduceGT, Nat.reduceMul, reduceCtorEq, true_implies, true_or, or_true, or_self]))
    all_goals first | exact go | (exfalso; omega)
set_option maxRecDepth 20000 in
theorem key_69 (v : Int64) {day : Int} (h1 : 0 ≤ day) (h2 : day ≤ 41) : (lg_cmp ((v.toUInt64 >>> ((Int32.ofInt day).toInt64.toUInt64 &&& Int64.toUInt64 63)).toInt64 &&& 1) 0).toInt = 0 ↔ dbit v day.toNat = false := by
  obtain ⟨m, rfl⟩ := Int.eq_ofNat_of_zero_le h1
  rw [and1_cmp]
  have := shr_bit v m 0 (by omega)
  rw [Nat.add_zero] at this
  rw [this, Int.toNat_natCast]
set_option maxRecDepth 20000 in
theorem s_69 {CC : Nat → mCall} (G : mGood CC) {d : Nat} (hd : 1 ≤ d) {k i : Nat} {day : Int} {st : mS} {post : mO → mS → Prop} (hk : k = 1 ∨ k = 2)
    (h0 : ¬ (0 ≤ day ∧ day ≤ 41 ∧ dbit (sJ st k i 0) day.toNat = true) → post (.inl (some (mi 0))) st) (h1 : (0 ≤ day ∧ day ≤ 41 ∧ dbit (sJ st k i 0) day.toNat = true) → post (.inl (some (mi 1))) st) : CC d 69 [mr k i, mi day] st post := by
  obtain ⟨d, rfl, hd⟩ := mdep hd
  refine go_69 G (Nat.le_of_ble_eq_true rfl) (fun WW hW => ?_)
  rcases hk with rfl | rfl <;>
  · (refine hW _ _ _ _ _ ?_; simp only [e_get0, e_getn, e_load0, e_loadn, e_remnil, e_rem0, e_remi, e_remr, e_pnil, e_pcons, e_set1, e_isI, e_isR, e_isJ, e_mun, e_mbin, e_mbinJ, e_nil, e_ins, e_exc, e_cond, margs, mcat, e_ceq, e_cne, e_clt, e_cge, e_cgt, e_cle, e_ty0, e_ty1, e_ty2, a_69_0, a_69_27, a_69_28, cgt_7_20, e_aload_0, e_bipush, e_getf, e_iconst, e_iload_1, e_ireturn, e_land, e_lcmp, e_lconst0, e_lconst1, e_lushr, f_RX1_9_1, f_RX1_9_2, g_24_4, j_69_0, j_69_27, j_69_28, zeq_20_7, zlt_1_26, Nat.reduceLeDiff, Nat.reduceSub, Nat.reduceAdd, Nat.reduceEqDiff, Nat.le_refl, Nat.zero_le, true_and, and_true, ne_eq, not_false_eq_true, Nat.sub_zero, Nat.zero_add, Int.reduceLT, Int.reduceLE, Int.reduceAdd, Int.reduceSub, Int.reduceNeg, Int.reduceMul, Int.reduceToNat, e_nc, Int.reduceEq, Int.reduceNe, not_true_eq_false, not_false_eq_true, forall_const, false_implies, implies_true, Int.reduceGE, Int.reduceGT, Nat.reduceMul, reduceCtorEq, true_implies, true_or, or_true, or_self])
    repeat' (first | refine ⟨?_, ?_⟩ | intro _ | (refine hW _ _ _ _ _ ?_; simp only [e_get0, e_getn, e_load0, e_loadn, e_remnil, e_rem0, e_remi, e_remr, e_pnil, e_pcons, e_set1, e_isI, e_isR, e_isJ, e_mun, e_mbin, e_mbinJ, e_nil, e_ins, e_exc, e_cond, margs, mcat, e_ceq, e_cne, e_clt, e_cge, e_cgt, e_cle, e_ty0, e_ty1, e_ty2, a_69_0, a_69_27, a_69_28, cgt_7_20, e_aload_0, e_bipush, e_getf, e_iconst, e_iload_1, e_ireturn, e_land, e_lcmp, e_lconst0, e_lconst1, e_lushr, f_RX1_9_1, f_RX1_9_2, g_24_4, j_69_0, j_69_27, j_69_28, zeq_20_7, zlt_1_26, Nat.reduceLeDiff, Nat.reduceSub, Nat.reduceAdd, Nat.reduceEqDiff, Nat.le_refl, Nat.zero_le, true_and, and_true, ne_eq, not_false_eq_true, Nat.sub_zero, Nat.zero_add, Int.reduceLT, Int.reduceLE, Int.reduceAdd, Int.reduceSub, Int.reduceNeg, Int.reduceMul, Int.reduceToNat, e_nc, Int.reduceEq, Int.reduceNe, not_true_eq_false, not_false_eq_true, forall_const, false_implies, implies_true, Int.reduceGE, Int.reduceGT, Nat.reduceMul, reduceCtorEq, true_implies, true_or, or_true, or_self]))
    all_goals first
      | (refine h0 (fun z => ?_); obtain ⟨z1, z3, z4⟩ := z; first | omega | (rename_i z2; rw [key_69 _ (by omega) (by omega)] at z2; rw [z2] at z4; cases z4))
      | (refine h1 ⟨by omega, by omega, ?_⟩; rename_i z2; rw [key_69 _ (by omega) (by omega)] at z2; exact eq_true_of_ne_false z2)
