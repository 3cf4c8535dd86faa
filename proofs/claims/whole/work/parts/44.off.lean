/-! A SAILING's state and crew set anew; all off; the best way is a way -/
def mkA (A : oA) (s : Nat) (v : Int) (w : Nat → Int) : oA := fun a b => if a = 44 ∧ b = s then v else if a = 45 ∧ 3 * s ≤ b ∧ b < 3 * s + 3 then w (b - 3 * s) else A a b
set_option maxHeartbeats 4000000 in
set_option maxRecDepth 20000 in
theorem mo_44 {A : oA} {s : Nat} {v : Int} {w : Nat → Int} : mkA A s v w 44 s = v := if_pos ⟨rfl, rfl⟩
set_option maxHeartbeats 4000000 in
set_option maxRecDepth 20000 in
theorem mo_45 {A : oA} {s k : Nat} {v : Int} {w : Nat → Int} (hk : k < 3) : mkA A s v w 45 (3 * s + k) = w k := by
  unfold mkA
  rw [if_neg (by omega), if_pos ⟨rfl, by omega, by omega⟩, show 3 * s + k - 3 * s = k from by omega]
set_option maxHeartbeats 4000000 in
set_option maxRecDepth 20000 in
theorem mo_ag {A : oA} {s : Nat} {v : Int} {w : Nat → Int} : agX A (mkA A s v w) s := fun a b n1 n2 => by
  unfold mkA
  rw [if_neg (fun z => n2 z), if_neg (fun z => n1 z)]
set_option maxHeartbeats 4000000 in
set_option maxRecDepth 20000 in
theorem mo_mk {A : oA} {s : Nat} {v v' : Int} {w w' : Nat → Int} : mkA (mkA A s v w) s v' w' = mkA A s v' w' := by
  funext a b
  unfold mkA
  split
  · rfl
  · split <;> rfl
set_option maxHeartbeats 4000000 in
set_option maxRecDepth 20000 in
theorem mo_self {A : oA} {s : Nat} : mkA A s (A 44 s) (fun k => A 45 (3 * s + k)) = A := by
  funext a b
  unfold mkA
  split
  · rename_i h; rw [h.1, h.2]
  · split
    · rename_i h
      show A 45 (3 * s + (b - 3 * s)) = A a b
      rw [h.1, show 3 * s + (b - 3 * s) = b from by omega]
    · rfl
set_option maxHeartbeats 4000000 in
set_option maxRecDepth 20000 in
theorem mo_up {A : oA} {s k : Nat} {v x : Int} {w : Nat → Int} (hk : k < 3) : upA (mkA A s v w) 45 (3 * s + k) x = mkA A s v (updN w k x) := by
  funext a b
  unfold upA mkA updN
  by_cases h : a = 45 ∧ b = 3 * s + k
  · rw [if_pos h, if_neg (by omega), if_pos ⟨h.1, by omega, by omega⟩, if_pos (by omega)]
  · rw [if_neg h]
    split
    · rfl
    · split
      · rename_i h2
        rw [if_neg (by omega)]
      · rfl
set_option maxHeartbeats 4000000 in
set_option maxRecDepth 20000 in
theorem mo_congr {A : oA} {s : Nat} {v : Int} {w w' : Nat → Int} (h : ∀ k, k < 3 → w k = w' k) : mkA A s v w = mkA A s v w' := by
  funext a b
  unfold mkA
  split
  · rfl
  · split
    · exact h _ (by omega)
    · rfl
set_option maxHeartbeats 4000000 in
set_option maxRecDepth 20000 in
theorem oSt_mk {A : oA} {s : Nat} {v : Int} {w : Nat → Int} (h : oSt A s) (hv : v = 112 ∨ v = 115 ∨ v = 99) : oSt (mkA A s v w) s := by
  have hX : agX A (mkA A s v w) s := mo_ag
  unfold oSt at h ⊢
  rw [hX.k (by omega), hX.k (by omega), hX.k (by omega), hX.S, mo_44]
  exact ⟨h.1, h.2.1, hv⟩
set_option maxHeartbeats 4000000 in
set_option maxRecDepth 20000 in
theorem oBnd_ag {A A' : oA} {s : Nat} (hX : agX A A' s) (h : oBnd A) : oBnd A' := by
  unfold oBnd at h ⊢
  simp only [hX.k (show 30 < 44 by omega)]; exact h
set_option maxHeartbeats 4000000 in
set_option maxRecDepth 20000 in
theorem RelC_st {st : mS} {A : oA} {s : Nat} {v v' : Int} {w : Nat → Int} (hR : RelC st (mkA A s v w)) (hs : s < aV A) : frP (frQ s) st (putI st 9 s 3 v') ∧ RelC (putI st 9 s 3 v') (mkA A s v' w) := by
  have hX : agX (mkA A s v w) (mkA A s v' w) s := agX.trans (agX.symm mo_ag) mo_ag
  have hF : frP (frQ s) st (putI st 9 s 3 v') := ⟨fun k i j n => by unfold frQ at n; rw [q_II, if_neg (by omega)], rfl⟩
  have hs2 : s < aV (mkA A s v w) := by rw [(mo_ag (A := A) (s := s) (v := v) (w := w)).V]; exact hs
  have hh : ∀ p, hasP (mkA A s v' w) s p ↔ hasP (mkA A s v w) s p := fun p => by
    rw [hasP_iff, hasP_iff]
    constructor
    · rintro ⟨l, l1, l2⟩; exact ⟨l, l1, by rw [mo_45 l1] at l2 ⊢; exact l2⟩
    · rintro ⟨l, l1, l2⟩; exact ⟨l, l1, by rw [mo_45 l1] at l2 ⊢; exact l2⟩
  refine ⟨hF, RelC_cr hR hX hs2 hF (fun k hk => ?_) ?_ (fun p hp h hh2 => ?_) (fun p hp => ?_)⟩
  · rw [q_II, if_neg (by omega), mo_45 hk]
    have := (hR.2.2.2.2 s hs2).2.2.2.2 k hk
    rw [mo_45 hk] at this; exact this
  · rw [q_II, if_pos ⟨rfl, rfl, rfl⟩, mo_44]
  · rw [q_II, if_neg (by omega), (hR.2.2.1 p hp).1 h hh2, nAt_split hs2]
    rfl
  · rw [q_II, if_neg (by omega), (hR.2.2.1 p hp).2]
    exact sumN_congr fun h _ => by rw [q_II, if_neg (by omega)]
/-- a row of people for the posts -/
def wOK (n m : Nat) (w : Nat → Int) : Prop := (∀ k, k < 3 → w k = -1 ∨ (0 ≤ w k ∧ w k < m)) ∧ (∀ k, k < 3 → n ≤ k → w k = -1) ∧ (∀ k l, k < 3 → l < 3 → k ≠ l → w k = w l → w k = -1)
set_option maxHeartbeats 4000000 in
set_option maxRecDepth 20000 in
theorem psN_st {st : mS} {A : oA} {s : Nat} (hR : RelC st A) (hst : oSt A s) (hSh : oShp A) (hs : s < aV A) : sI st 7 (sR st s) 1 = (psN A s : Int) ∧ psN A s ≤ 3 ∧ 1 ≤ psN A s ∧ sR st s = shN A s := by
  have hj : shN A s < aS A := by have := hst.1; unfold shN; omega
  have h1 := (hR.2.2.2.1 _ hj).1
  have h2 := (hSh _ hj).1
  have h3 := (hR.2.2.2.2 s hs).1
  rw [h3, h1]
  unfold psN
  exact ⟨by omega, by omega, by omega, rfl⟩
set_option maxHeartbeats 4000000 in
set_option maxRecDepth 20000 in
theorem oShp_ag {A A' : oA} {s : Nat} (hX : agX A A' s) (h : oShp A) : oShp A' := by
  unfold oShp at h ⊢
  simp only [hX.S, hX.k (show 39 < 44 by omega), hX.k (show 40 < 44 by omega)]; exact h
set_option maxHeartbeats 4000000 in
set_option maxRecDepth 20000 in
theorem s_157 {CC : Nat → mCall} (G : mGood CC) {d : Nat} (hd : 3 ≤ d) {A : oA} {s : Nat} {v : Int} {w : Nat → Int} {st : mS} {post : mO → mS → Prop} (hB : oBnd A) (hSh : oShp A) (hst : oSt A s) (hv : v = 112 ∨ v = 115 ∨ v = 99) (hR : RelC st (mkA A s v w)) (hs : s < aV A) (hw : wOK (psN A s) (aP A) w)
    (h : ∀ st', frP (frQ s) st st' → RelC st' (mkA A s v (fun _ => -1)) → post (.inl none) st') : CC d 157 [mr 0 0, mr 9 s] st post := by
  obtain ⟨d, rfl, hd⟩ := mdep hd; refine go_157 G (Nat.le_of_ble_eq_true rfl) (fun WW hW => ?_)
  have loop : ∀ (n k : Nat) (st1 : mS), k + n = psN A s → frP (frQ s) st st1 → RelC st1 (mkA A s v (fun l => if l < k then -1 else w l)) → WW 2 [(0, mr 0 0), (1, mr 9 s), (2, mi (k : Int))] [] (0, 0) st1 := by
    intro n
    induction n with
    | zero =>
      intro k st1 hk hF hR1
      have hX : agX A (mkA A s v (fun l => if l < k then -1 else w l)) s := mo_ag
      obtain ⟨e1, e2, e3, e4⟩ := psN_st hR1 (oSt_mk hst hv) (oShp_ag hX hSh) (by rw [hX.V]; exact hs)
      rw [hX.ps] at e1 e2
      have go := h st1 hF (by
        rw [mo_congr (w' := fun l => if l < k then -1 else w l) (fun l hl => by
          show -1 = if l < k then -1 else w l
          split
          · rfl
          · exact (hw.2.1 l hl (by omega)).symm)]
        exact hR1)
      (refine hW _ _ _ _ _ ?_; simp only [e_get0, e_getn, e_load0, e_loadn, e_remnil, e_rem0, e_remi, e_remr, e_pnil, e_pcons, e_pc, e_set1, e_isI, e_isR, e_isJ, e_mun, e_mbin, e_mbinJ, e_nil, e_ins, e_exc, e_cond, margs, mcat, e_ceq, e_cne, e_clt, e_cge, e_cgt, e_cle, e_ty0, e_ty1, e_ty2, a_157_0, a_157_2, a_157_25, cge_10_15, e_aload_0, e_aload_1, e_ck0, e_ckv, e_ckx, e_getf, e_iconst, e_iinc, e_iload_2, e_istore_2, e_return, f_RX6_225_7, f_RX6_321_9, g_22_m20, j_157_0, j_157_2, j_157_25, rm_, rm_i, rm_ii, rm_iii, rm_iiii, rm_iiir, rm_iir, rm_iiri, rm_iirr, rm_ir, rm_iri, rm_irii, rm_irir, rm_irr, rm_irri, rm_irrr, rm_r, rm_ri, rm_rii, rm_riii, rm_riir, rm_rir, rm_riri, rm_rirr, rm_rr, rm_rri, rm_rrii, rm_rrir, rm_rrr, rm_rrri, rm_rrrr, v_RX6_278_0, Nat.reduceLeDiff, Nat.reduceSub, Nat.reduceAdd, Nat.reduceEqDiff, Nat.le_refl, Nat.zero_le, true_and, and_true, ne_eq, not_false_eq_true, Nat.sub_zero, Nat.zero_add, Int.reduceLT, Int.reduceLE, Int.reduceAdd, Int.reduceSub, Int.reduceNeg, Int.reduceMul, Int.reduceToNat, e_nc, Int.reduceEq, Int.reduceNe, not_true_eq_false, not_false_eq_true, forall_const, false_implies, implies_true, Int.reduceGE, Int.reduceGT, Nat.reduceMul, reduceCtorEq, true_implies, true_or, or_true, or_self, Int.toNat_natCast, Nat.zero_ne_one, Nat.one_ne_zero, false_and, and_false, if_false, if_true, and_self, eq_self, Int.lt_irrefl, q_II, q_IJ, q_IL, q_JI, q_JJ, q_JL, q_NI, q_NJ, q_NL, q_RI, q_RJ, q_RL, q_LI, q_LJ, q_LL, e1])
      repeat' (first | exact go | (exfalso; omega) | with_reducible apply And.intro | exact inR_of (by omega) (by omega) | (refine hW _ _ _ _ _ ?_; simp only [e_get0, e_getn, e_load0, e_loadn, e_remnil, e_rem0, e_remi, e_remr, e_pnil, e_pcons, e_pc, e_set1, e_isI, e_isR, e_isJ, e_mun, e_mbin, e_mbinJ, e_nil, e_ins, e_exc, e_cond, margs, mcat, e_ceq, e_cne, e_clt, e_cge, e_cgt, e_cle, e_ty0, e_ty1, e_ty2, a_157_0, a_157_2, a_157_25, cge_10_15, e_aload_0, e_aload_1, e_ck0, e_ckv, e_ckx, e_getf, e_iconst, e_iinc, e_iload_2, e_istore_2, e_return, f_RX6_225_7, f_RX6_321_9, g_22_m20, j_157_0, j_157_2, j_157_25, rm_, rm_i, rm_ii, rm_iii, rm_iiii, rm_iiir, rm_iir, rm_iiri, rm_iirr, rm_ir, rm_iri, rm_irii, rm_irir, rm_irr, rm_irri, rm_irrr, rm_r, rm_ri, rm_rii, rm_riii, rm_riir, rm_rir, rm_riri, rm_rirr, rm_rr, rm_rri, rm_rrii, rm_rrir, rm_rrr, rm_rrri, rm_rrrr, v_RX6_278_0, Nat.reduceLeDiff, Nat.reduceSub, Nat.reduceAdd, Nat.reduceEqDiff, Nat.le_refl, Nat.zero_le, true_and, and_true, ne_eq, not_false_eq_true, Nat.sub_zero, Nat.zero_add, Int.reduceLT, Int.reduceLE, Int.reduceAdd, Int.reduceSub, Int.reduceNeg, Int.reduceMul, Int.reduceToNat, e_nc, Int.reduceEq, Int.reduceNe, not_true_eq_false, not_false_eq_true, forall_const, false_implies, implies_true, Int.reduceGE, Int.reduceGT, Nat.reduceMul, reduceCtorEq, true_implies, true_or, or_true, or_self, Int.toNat_natCast, Nat.zero_ne_one, Nat.one_ne_zero, false_and, and_false, if_false, if_true, and_self, eq_self, Int.lt_irrefl, q_II, q_IJ, q_IL, q_JI, q_JJ, q_JL, q_NI, q_NJ, q_NL, q_RI, q_RJ, q_RL, q_LI, q_LJ, q_LL, e1]) | (with_reducible show mck _ _ _ _ _ _ _ _; simp only [e_get0, e_getn, e_load0, e_loadn, e_remnil, e_rem0, e_remi, e_remr, e_pnil, e_pcons, e_pc, e_set1, e_isI, e_isR, e_isJ, e_mun, e_mbin, e_mbinJ, e_nil, e_ins, e_exc, e_cond, margs, mcat, e_ceq, e_cne, e_clt, e_cge, e_cgt, e_cle, e_ty0, e_ty1, e_ty2, a_157_0, a_157_2, a_157_25, cge_10_15, e_aload_0, e_aload_1, e_ck0, e_ckv, e_ckx, e_getf, e_iconst, e_iinc, e_iload_2, e_istore_2, e_return, f_RX6_225_7, f_RX6_321_9, g_22_m20, j_157_0, j_157_2, j_157_25, rm_, rm_i, rm_ii, rm_iii, rm_iiii, rm_iiir, rm_iir, rm_iiri, rm_iirr, rm_ir, rm_iri, rm_irii, rm_irir, rm_irr, rm_irri, rm_irrr, rm_r, rm_ri, rm_rii, rm_riii, rm_riir, rm_rir, rm_riri, rm_rirr, rm_rr, rm_rri, rm_rrii, rm_rrir, rm_rrr, rm_rrri, rm_rrrr, v_RX6_278_0, Nat.reduceLeDiff, Nat.reduceSub, Nat.reduceAdd, Nat.reduceEqDiff, Nat.le_refl, Nat.zero_le, true_and, and_true, ne_eq, not_false_eq_true, Nat.sub_zero, Nat.zero_add, Int.reduceLT, Int.reduceLE, Int.reduceAdd, Int.reduceSub, Int.reduceNeg, Int.reduceMul, Int.reduceToNat, e_nc, Int.reduceEq, Int.reduceNe, not_true_eq_false, not_false_eq_true, forall_const, false_implies, implies_true, Int.reduceGE, Int.reduceGT, Nat.reduceMul, reduceCtorEq, true_implies, true_or, or_true, or_self, Int.toNat_natCast, Nat.zero_ne_one, Nat.one_ne_zero, false_and, and_false, if_false, if_true, and_self, eq_self, Int.lt_irrefl, q_II, q_IJ, q_IL, q_JI, q_JJ, q_JL, q_NI, q_NJ, q_NL, q_RI, q_RJ, q_RL, q_LI, q_LJ, q_LL, e1]) | intro _ | omega)
    | succ n ih =>
      intro k st1 hk hF hR1
      have hX : agX A (mkA A s v (fun l => if l < k then -1 else w l)) s := mo_ag
      obtain ⟨e1, e2, e3, e4⟩ := psN_st hR1 (oSt_mk hst hv) (oShp_ag hX hSh) (by rw [hX.V]; exact hs)
      rw [hX.ps] at e1 e2
      have go : ∀ st2, frP (frQ s) st st2 → RelC st2 (mkA A s v (fun l => if l < k + 1 then -1 else w l)) → WW 2 [(0, mr 0 0), (1, mr 9 s), (2, mi ((k : Int) + 1))] [] (0, 0) st2 := fun st2 f2 r2 => by
        have := ih (k + 1) st2 (by omega) f2 r2
        rw [show ((k + 1 : Nat) : Int) = (k : Int) + 1 from by omega] at this
        exact this
      have call : ∀ post', (∀ st2, frP (frQ s) st st2 → RelC st2 (mkA A s v (fun l => if l < k + 1 then -1 else w l)) → post' (.inl none) st2) → CC d 156 [mr 0 0, mr 9 s, mi (k : Int)] st1 post' := fun post' hp' => by
        refine s_156 G (by omega) (oBnd_ag hX hB) hR1 (by rw [hX.V]; exact hs) (oSt_mk hst hv) (k := k) (by omega) ?_ (fun l hl hlk he => ?_) (fun st2 f2 r2 => ?_)
        · rw [mo_45 (by omega), if_neg (by omega), hX.P]; exact hw.1 k (by omega)
        · rw [mo_45 hl, mo_45 (by omega)] at he
          have he : (if l < k then (-1 : Int) else w l) = (if k < k then -1 else w k) := he
          rw [if_neg (show ¬ k < k by omega)] at he
          rw [mo_45 (by omega), if_neg (by omega)]
          by_cases c : l < k
          · rw [if_pos c] at he; exact he.symm
          · rw [if_neg c] at he; exact hw.2.2 k l (by omega) hl (by omega) he.symm
        · refine hp' st2 (hF.trans f2) ?_
          rw [mo_up (by omega)] at r2
          rw [mo_congr (w' := updN (fun l => if l < k then -1 else w l) k (-1)) (fun l hl => by
            unfold updN
            by_cases c : l = k
            · rw [if_pos c, if_pos (by omega)]
            · rw [if_neg c]
              show (if l < k + 1 then (-1 : Int) else w l) = (if l < k then -1 else w l)
              by_cases c2 : l < k
              · rw [if_pos c2, if_pos (by omega)]
              · rw [if_neg c2, if_neg (by omega)])]
          exact r2
      (refine hW _ _ _ _ _ ?_; simp only [e_get0, e_getn, e_load0, e_loadn, e_remnil, e_rem0, e_remi, e_remr, e_pnil, e_pcons, e_pc, e_set1, e_isI, e_isR, e_isJ, e_mun, e_mbin, e_mbinJ, e_nil, e_ins, e_exc, e_cond, margs, mcat, e_ceq, e_cne, e_clt, e_cge, e_cgt, e_cle, e_ty0, e_ty1, e_ty2, a_157_0, a_157_2, a_157_25, cge_10_15, e_aload_0, e_aload_1, e_ck0, e_ckv, e_ckx, e_getf, e_iconst, e_iinc, e_iload_2, e_istore_2, e_return, f_RX6_225_7, f_RX6_321_9, g_22_m20, j_157_0, j_157_2, j_157_25, rm_, rm_i, rm_ii, rm_iii, rm_iiii, rm_iiir, rm_iir, rm_iiri, rm_iirr, rm_ir, rm_iri, rm_irii, rm_irir, rm_irr, rm_irri, rm_irrr, rm_r, rm_ri, rm_rii, rm_riii, rm_riir, rm_rir, rm_riri, rm_rirr, rm_rr, rm_rri, rm_rrii, rm_rrir, rm_rrr, rm_rrri, rm_rrrr, v_RX6_278_0, Nat.reduceLeDiff, Nat.reduceSub, Nat.reduceAdd, Nat.reduceEqDiff, Nat.le_refl, Nat.zero_le, true_and, and_true, ne_eq, not_false_eq_true, Nat.sub_zero, Nat.zero_add, Int.reduceLT, Int.reduceLE, Int.reduceAdd, Int.reduceSub, Int.reduceNeg, Int.reduceMul, Int.reduceToNat, e_nc, Int.reduceEq, Int.reduceNe, not_true_eq_false, not_false_eq_true, forall_const, false_implies, implies_true, Int.reduceGE, Int.reduceGT, Nat.reduceMul, reduceCtorEq, true_implies, true_or, or_true, or_self, Int.toNat_natCast, Nat.zero_ne_one, Nat.one_ne_zero, false_and, and_false, if_false, if_true, and_self, eq_self, Int.lt_irrefl, q_II, q_IJ, q_IL, q_JI, q_JJ, q_JL, q_NI, q_NJ, q_NL, q_RI, q_RJ, q_RL, q_LI, q_LJ, q_LL, e1])
      repeat' (first | exact go _ (by assumption) (by assumption) | (exfalso; omega) | refine call _ (fun st2 f2 r2 => ?_) | with_reducible apply And.intro | exact inR_of (by omega) (by omega) | (refine hW _ _ _ _ _ ?_; simp only [e_get0, e_getn, e_load0, e_loadn, e_remnil, e_rem0, e_remi, e_remr, e_pnil, e_pcons, e_pc, e_set1, e_isI, e_isR, e_isJ, e_mun, e_mbin, e_mbinJ, e_nil, e_ins, e_exc, e_cond, margs, mcat, e_ceq, e_cne, e_clt, e_cge, e_cgt, e_cle, e_ty0, e_ty1, e_ty2, a_157_0, a_157_2, a_157_25, cge_10_15, e_aload_0, e_aload_1, e_ck0, e_ckv, e_ckx, e_getf, e_iconst, e_iinc, e_iload_2, e_istore_2, e_return, f_RX6_225_7, f_RX6_321_9, g_22_m20, j_157_0, j_157_2, j_157_25, rm_, rm_i, rm_ii, rm_iii, rm_iiii, rm_iiir, rm_iir, rm_iiri, rm_iirr, rm_ir, rm_iri, rm_irii, rm_irir, rm_irr, rm_irri, rm_irrr, rm_r, rm_ri, rm_rii, rm_riii, rm_riir, rm_rir, rm_riri, rm_rirr, rm_rr, rm_rri, rm_rrii, rm_rrir, rm_rrr, rm_rrri, rm_rrrr, v_RX6_278_0, Nat.reduceLeDiff, Nat.reduceSub, Nat.reduceAdd, Nat.reduceEqDiff, Nat.le_refl, Nat.zero_le, true_and, and_true, ne_eq, not_false_eq_true, Nat.sub_zero, Nat.zero_add, Int.reduceLT, Int.reduceLE, Int.reduceAdd, Int.reduceSub, Int.reduceNeg, Int.reduceMul, Int.reduceToNat, e_nc, Int.reduceEq, Int.reduceNe, not_true_eq_false, not_false_eq_true, forall_const, false_implies, implies_true, Int.reduceGE, Int.reduceGT, Nat.reduceMul, reduceCtorEq, true_implies, true_or, or_true, or_self, Int.toNat_natCast, Nat.zero_ne_one, Nat.one_ne_zero, false_and, and_false, if_false, if_true, and_self, eq_self, Int.lt_irrefl, q_II, q_IJ, q_IL, q_JI, q_JJ, q_JL, q_NI, q_NJ, q_NL, q_RI, q_RJ, q_RL, q_LI, q_LJ, q_LL, e1]) | (with_reducible show mck _ _ _ _ _ _ _ _; simp only [e_get0, e_getn, e_load0, e_loadn, e_remnil, e_rem0, e_remi, e_remr, e_pnil, e_pcons, e_pc, e_set1, e_isI, e_isR, e_isJ, e_mun, e_mbin, e_mbinJ, e_nil, e_ins, e_exc, e_cond, margs, mcat, e_ceq, e_cne, e_clt, e_cge, e_cgt, e_cle, e_ty0, e_ty1, e_ty2, a_157_0, a_157_2, a_157_25, cge_10_15, e_aload_0, e_aload_1, e_ck0, e_ckv, e_ckx, e_getf, e_iconst, e_iinc, e_iload_2, e_istore_2, e_return, f_RX6_225_7, f_RX6_321_9, g_22_m20, j_157_0, j_157_2, j_157_25, rm_, rm_i, rm_ii, rm_iii, rm_iiii, rm_iiir, rm_iir, rm_iiri, rm_iirr, rm_ir, rm_iri, rm_irii, rm_irir, rm_irr, rm_irri, rm_irrr, rm_r, rm_ri, rm_rii, rm_riii, rm_riir, rm_rir, rm_riri, rm_rirr, rm_rr, rm_rri, rm_rrii, rm_rrir, rm_rrr, rm_rrri, rm_rrrr, v_RX6_278_0, Nat.reduceLeDiff, Nat.reduceSub, Nat.reduceAdd, Nat.reduceEqDiff, Nat.le_refl, Nat.zero_le, true_and, and_true, ne_eq, not_false_eq_true, Nat.sub_zero, Nat.zero_add, Int.reduceLT, Int.reduceLE, Int.reduceAdd, Int.reduceSub, Int.reduceNeg, Int.reduceMul, Int.reduceToNat, e_nc, Int.reduceEq, Int.reduceNe, not_true_eq_false, not_false_eq_true, forall_const, false_implies, implies_true, Int.reduceGE, Int.reduceGT, Nat.reduceMul, reduceCtorEq, true_implies, true_or, or_true, or_self, Int.toNat_natCast, Nat.zero_ne_one, Nat.one_ne_zero, false_and, and_false, if_false, if_true, and_self, eq_self, Int.lt_irrefl, q_II, q_IJ, q_IL, q_JI, q_JJ, q_JL, q_NI, q_NJ, q_NL, q_RI, q_RJ, q_RL, q_LI, q_LJ, q_LL, e1]) | intro _ | omega)
  have go := loop (psN A s) 0 st (by omega) (frP.refl st) (by
    rw [mo_congr (w' := w) (fun l _ => by rw [if_neg (by omega)])]; exact hR)
  have go2 : WW 2 [(0, mr 0 0), (1, mr 9 s), (2, mi 0)] [] (0, 0) st := go
  (refine hW _ _ _ _ _ ?_; simp only [e_get0, e_getn, e_load0, e_loadn, e_remnil, e_rem0, e_remi, e_remr, e_pnil, e_pcons, e_pc, e_set1, e_isI, e_isR, e_isJ, e_mun, e_mbin, e_mbinJ, e_nil, e_ins, e_exc, e_cond, margs, mcat, e_ceq, e_cne, e_clt, e_cge, e_cgt, e_cle, e_ty0, e_ty1, e_ty2, a_157_0, a_157_2, a_157_25, cge_10_15, e_aload_0, e_aload_1, e_ck0, e_ckv, e_ckx, e_getf, e_iconst, e_iinc, e_iload_2, e_istore_2, e_return, f_RX6_225_7, f_RX6_321_9, g_22_m20, j_157_0, j_157_2, j_157_25, rm_, rm_i, rm_ii, rm_iii, rm_iiii, rm_iiir, rm_iir, rm_iiri, rm_iirr, rm_ir, rm_iri, rm_irii, rm_irir, rm_irr, rm_irri, rm_irrr, rm_r, rm_ri, rm_rii, rm_riii, rm_riir, rm_rir, rm_riri, rm_rirr, rm_rr, rm_rri, rm_rrii, rm_rrir, rm_rrr, rm_rrri, rm_rrrr, v_RX6_278_0, Nat.reduceLeDiff, Nat.reduceSub, Nat.reduceAdd, Nat.reduceEqDiff, Nat.le_refl, Nat.zero_le, true_and, and_true, ne_eq, not_false_eq_true, Nat.sub_zero, Nat.zero_add, Int.reduceLT, Int.reduceLE, Int.reduceAdd, Int.reduceSub, Int.reduceNeg, Int.reduceMul, Int.reduceToNat, e_nc, Int.reduceEq, Int.reduceNe, not_true_eq_false, not_false_eq_true, forall_const, false_implies, implies_true, Int.reduceGE, Int.reduceGT, Nat.reduceMul, reduceCtorEq, true_implies, true_or, or_true, or_self, Int.toNat_natCast, Nat.zero_ne_one, Nat.one_ne_zero, false_and, and_false, if_false, if_true, and_self, eq_self, Int.lt_irrefl, q_II, q_IJ, q_IL, q_JI, q_JJ, q_JL, q_NI, q_NJ, q_NL, q_RI, q_RJ, q_RL, q_LI, q_LJ, q_LL])
  exact go2
set_option maxHeartbeats 4000000 in
set_option maxRecDepth 20000 in
theorem s_158 {CC : Nat → mCall} (G : mGood CC) {d : Nat} (hd : 4 ≤ d) {A : oA} {s : Nat} {v : Int} {w : Nat → Int} {st : mS} {post : mO → mS → Prop} (hB : oBnd A) (hSh : oShp A) (hst : oSt A s) (hv : v = 112 ∨ v = 115 ∨ v = 99) (hR : RelC st (mkA A s v w)) (hs : s < aV A) (hw : wOK (psN A s) (aP A) w)
    (h : ∀ st', frP (frQ s) st st' → RelC st' (mkA A s 99 (fun _ => -1)) → post (.inl none) st') : CC d 158 [mr 0 0, mr 9 s] st post := by
  obtain ⟨d, rfl, hd⟩ := mdep hd; refine go_158 G (Nat.le_of_ble_eq_true rfl) (fun WW hW => ?_)
  have go : ∀ st2, frP (frQ s) st st2 → RelC st2 (mkA A s v (fun _ => -1)) → post (.inl none) (putI st2 9 s 3 99) := fun st2 f2 r2 => by
    obtain ⟨g1, g2⟩ := RelC_st (v' := 99) r2 hs
    exact h _ (f2.trans g1) g2
  (refine hW _ _ _ _ _ ?_; simp only [e_get0, e_getn, e_load0, e_loadn, e_remnil, e_rem0, e_remi, e_remr, e_pnil, e_pcons, e_pc, e_set1, e_isI, e_isR, e_isJ, e_mun, e_mbin, e_mbinJ, e_nil, e_ins, e_exc, e_cond, margs, mcat, e_ceq, e_cne, e_clt, e_cge, e_cgt, e_cle, e_ty0, e_ty1, e_ty2, a_158_0, e_aload_0, e_aload_1, e_bipush, e_ck0, e_ckv, e_ckx, e_putf, e_return, ft_9_3, j_158_0, p_RX6_95_9, rm_, rm_i, rm_ii, rm_iii, rm_iiii, rm_iiir, rm_iir, rm_iiri, rm_iirr, rm_ir, rm_iri, rm_irii, rm_irir, rm_irr, rm_irri, rm_irrr, rm_r, rm_ri, rm_rii, rm_riii, rm_riir, rm_rir, rm_riri, rm_rirr, rm_rr, rm_rri, rm_rrii, rm_rrir, rm_rrr, rm_rrri, rm_rrrr, v_RX6_347_0, Nat.reduceLeDiff, Nat.reduceSub, Nat.reduceAdd, Nat.reduceEqDiff, Nat.le_refl, Nat.zero_le, true_and, and_true, ne_eq, not_false_eq_true, Nat.sub_zero, Nat.zero_add, Int.reduceLT, Int.reduceLE, Int.reduceAdd, Int.reduceSub, Int.reduceNeg, Int.reduceMul, Int.reduceToNat, e_nc, Int.reduceEq, Int.reduceNe, not_true_eq_false, not_false_eq_true, forall_const, false_implies, implies_true, Int.reduceGE, Int.reduceGT, Nat.reduceMul, reduceCtorEq, true_implies, true_or, or_true, or_self, Int.toNat_natCast, Nat.zero_ne_one, Nat.one_ne_zero, false_and, and_false, if_false, if_true, and_self, eq_self, Int.lt_irrefl, q_II, q_IJ, q_IL, q_JI, q_JJ, q_JL, q_NI, q_NJ, q_NL, q_RI, q_RJ, q_RL, q_LI, q_LJ, q_LL])
  repeat' (first | exact go _ (by assumption) (by assumption) | refine s_157 G (by omega) hB hSh hst hv hR hs hw (fun st2 f2 r2 => ?_) | with_reducible apply And.intro | exact inR_of (by omega) (by omega) | (refine hW _ _ _ _ _ ?_; simp only [e_get0, e_getn, e_load0, e_loadn, e_remnil, e_rem0, e_remi, e_remr, e_pnil, e_pcons, e_pc, e_set1, e_isI, e_isR, e_isJ, e_mun, e_mbin, e_mbinJ, e_nil, e_ins, e_exc, e_cond, margs, mcat, e_ceq, e_cne, e_clt, e_cge, e_cgt, e_cle, e_ty0, e_ty1, e_ty2, a_158_0, e_aload_0, e_aload_1, e_bipush, e_ck0, e_ckv, e_ckx, e_putf, e_return, ft_9_3, j_158_0, p_RX6_95_9, rm_, rm_i, rm_ii, rm_iii, rm_iiii, rm_iiir, rm_iir, rm_iiri, rm_iirr, rm_ir, rm_iri, rm_irii, rm_irir, rm_irr, rm_irri, rm_irrr, rm_r, rm_ri, rm_rii, rm_riii, rm_riir, rm_rir, rm_riri, rm_rirr, rm_rr, rm_rri, rm_rrii, rm_rrir, rm_rrr, rm_rrri, rm_rrrr, v_RX6_347_0, Nat.reduceLeDiff, Nat.reduceSub, Nat.reduceAdd, Nat.reduceEqDiff, Nat.le_refl, Nat.zero_le, true_and, and_true, ne_eq, not_false_eq_true, Nat.sub_zero, Nat.zero_add, Int.reduceLT, Int.reduceLE, Int.reduceAdd, Int.reduceSub, Int.reduceNeg, Int.reduceMul, Int.reduceToNat, e_nc, Int.reduceEq, Int.reduceNe, not_true_eq_false, not_false_eq_true, forall_const, false_implies, implies_true, Int.reduceGE, Int.reduceGT, Nat.reduceMul, reduceCtorEq, true_implies, true_or, or_true, or_self, Int.toNat_natCast, Nat.zero_ne_one, Nat.one_ne_zero, false_and, and_false, if_false, if_true, and_self, eq_self, Int.lt_irrefl, q_II, q_IJ, q_IL, q_JI, q_JJ, q_JL, q_NI, q_NJ, q_NL, q_RI, q_RJ, q_RL, q_LI, q_LJ, q_LL]) | (with_reducible show mck _ _ _ _ _ _ _ _; simp only [e_get0, e_getn, e_load0, e_loadn, e_remnil, e_rem0, e_remi, e_remr, e_pnil, e_pcons, e_pc, e_set1, e_isI, e_isR, e_isJ, e_mun, e_mbin, e_mbinJ, e_nil, e_ins, e_exc, e_cond, margs, mcat, e_ceq, e_cne, e_clt, e_cge, e_cgt, e_cle, e_ty0, e_ty1, e_ty2, a_158_0, e_aload_0, e_aload_1, e_bipush, e_ck0, e_ckv, e_ckx, e_putf, e_return, ft_9_3, j_158_0, p_RX6_95_9, rm_, rm_i, rm_ii, rm_iii, rm_iiii, rm_iiir, rm_iir, rm_iiri, rm_iirr, rm_ir, rm_iri, rm_irii, rm_irir, rm_irr, rm_irri, rm_irrr, rm_r, rm_ri, rm_rii, rm_riii, rm_riir, rm_rir, rm_riri, rm_rirr, rm_rr, rm_rri, rm_rrii, rm_rrir, rm_rrr, rm_rrri, rm_rrrr, v_RX6_347_0, Nat.reduceLeDiff, Nat.reduceSub, Nat.reduceAdd, Nat.reduceEqDiff, Nat.le_refl, Nat.zero_le, true_and, and_true, ne_eq, not_false_eq_true, Nat.sub_zero, Nat.zero_add, Int.reduceLT, Int.reduceLE, Int.reduceAdd, Int.reduceSub, Int.reduceNeg, Int.reduceMul, Int.reduceToNat, e_nc, Int.reduceEq, Int.reduceNe, not_true_eq_false, not_false_eq_true, forall_const, false_implies, implies_true, Int.reduceGE, Int.reduceGT, Nat.reduceMul, reduceCtorEq, true_implies, true_or, or_true, or_self, Int.toNat_natCast, Nat.zero_ne_one, Nat.one_ne_zero, false_and, and_false, if_false, if_true, and_self, eq_self, Int.lt_irrefl, q_II, q_IJ, q_IL, q_JI, q_JJ, q_JL, q_NI, q_NJ, q_NL, q_RI, q_RJ, q_RL, q_LI, q_LJ, q_LL]) | intro _ | omega)
set_option maxHeartbeats 4000000 in
set_option maxRecDepth 20000 in
theorem tWay_le (ft : Nat → Nat → Bool) (bf : Nat → Int) : ∀ (r q : Nat) (tr : Nat → Int) (c : Int) (b : wayB), (tWay ft bf r q tr c b).1 ≤ b.1 := by
  intro r
  induction r with
  | zero => intro q tr c b; unfold tWay; split <;> simp <;> omega
  | succ r ihr =>
    intro q tr c b
    unfold tWay
    have : ∀ n, (foldN (tStep ft bf (fun tr' c' b' => tWay ft bf r (q + 1) tr' c' b') q tr c) n b).1 ≤ b.1 := by
      intro n
      induction n with
      | zero => exact Int.le_refl _
      | succ n ihn =>
        show (tStep _ _ _ _ _ _ n (foldN _ n b)).1 ≤ b.1
        unfold tStep
        split
        · exact Int.le_trans (ihr _ _ _ _) ihn
        · exact ihn
    exact this 8
/-- the first q posts are filled by people who fit, each once -/
def tOK (ft : Nat → Nat → Bool) (q : Nat) (w : Nat → Int) : Prop := (∀ k, k < q → ∃ p : Nat, p < 8 ∧ w k = (p : Int) ∧ ft k p = true) ∧ ∀ k l, k < q → l < q → k ≠ l → w k ≠ w l
set_option maxHeartbeats 4000000 in
set_option maxRecDepth 20000 in
theorem tOK_up {ft : Nat → Nat → Bool} {q p : Nat} {w : Nat → Int} (h : tOK ft q w) (hp : p < 8) (hf : (ft q p && freeB w q p) = true) : tOK ft (q + 1) (updN w q p) := by
  rw [Bool.and_eq_true, freeB_iff] at hf
  refine ⟨fun k hk => ?_, fun k l hk hl hkl => ?_⟩
  · by_cases e : k = q
    · subst e; exact ⟨p, hp, if_pos rfl, hf.1⟩
    · obtain ⟨p', h1, h2, h3⟩ := h.1 k (by omega)
      exact ⟨p', h1, (if_neg e).trans h2, h3⟩
  · unfold updN
    by_cases e : k = q
    · rw [if_pos e, if_neg (by omega)]
      exact fun z => hf.2 l (by omega) z.symm
    · rw [if_neg e]
      by_cases e2 : l = q
      · rw [if_pos e2]; exact hf.2 k (by omega)
      · rw [if_neg e2]; exact h.2 k l (by omega) (by omega) hkl
set_option maxHeartbeats 4000000 in
set_option maxRecDepth 20000 in
theorem tWay_ok (ft : Nat → Nat → Bool) (bf : Nat → Int) (n : Nat) : ∀ (r q : Nat) (tr : Nat → Int) (c : Int) (b : wayB), q + r = n → 0 ≤ c → c ≤ q → tOK ft q tr → tWay ft bf r q tr c b = b ∨ (0 ≤ (tWay ft bf r q tr c b).1 ∧ (tWay ft bf r q tr c b).1 ≤ n ∧ tOK ft n (tWay ft bf r q tr c b).2) := by
  intro r
  induction r with
  | zero =>
    intro q tr c b hq h0 h1 ht
    unfold tWay
    split
    · exact Or.inr ⟨h0, by show c ≤ n; omega, by have : q = n := by omega
                                                 subst this; exact ht⟩
    · exact Or.inl rfl
  | succ r ih =>
    intro q tr c b hq h0 h1 ht
    unfold tWay
    have key : ∀ m, m ≤ 8 → (foldN (tStep ft bf (fun tr' c' b' => tWay ft bf r (q + 1) tr' c' b') q tr c) m b = b ∨ (0 ≤ (foldN (tStep ft bf (fun tr' c' b' => tWay ft bf r (q + 1) tr' c' b') q tr c) m b).1 ∧ (foldN (tStep ft bf (fun tr' c' b' => tWay ft bf r (q + 1) tr' c' b') q tr c) m b).1 ≤ n ∧ tOK ft n (foldN (tStep ft bf (fun tr' c' b' => tWay ft bf r (q + 1) tr' c' b') q tr c) m b).2)) := by
      intro m
      induction m with
      | zero => intro _; exact Or.inl rfl
      | succ m ihm =>
        intro hm
        obtain ⟨z, hz⟩ : ∃ z, z = foldN (tStep ft bf (fun tr' c' b' => tWay ft bf r (q + 1) tr' c' b') q tr c) m b := ⟨_, rfl⟩
        have ihm := ihm (by omega)
        rw [← hz] at ihm
        show tStep ft bf (fun tr' c' b' => tWay ft bf r (q + 1) tr' c' b') q tr c m (foldN _ m b) = b ∨ _
        show tStep ft bf (fun tr' c' b' => tWay ft bf r (q + 1) tr' c' b') q tr c m (foldN _ m b) = b ∨ (0 ≤ (tStep ft bf (fun tr' c' b' => tWay ft bf r (q + 1) tr' c' b') q tr c m (foldN _ m b)).1 ∧ (tStep ft bf (fun tr' c' b' => tWay ft bf r (q + 1) tr' c' b') q tr c m (foldN _ m b)).1 ≤ n ∧ tOK ft n (tStep ft bf (fun tr' c' b' => tWay ft bf r (q + 1) tr' c' b') q tr c m (foldN _ m b)).2)
        rw [← hz]
        unfold tStep
        by_cases hf : (ft q m && freeB tr q m) = true
        · rw [if_pos hf]
          have hc : 0 ≤ c + (if bf q = (m : Int) then 0 else 1) ∧ c + (if bf q = (m : Int) then 0 else 1) ≤ ((q + 1 : Nat) : Int) := by split <;> omega
          rcases ih (q + 1) (updN tr q m) (c + if bf q = (m : Int) then 0 else 1) z (by omega) hc.1 hc.2 (tOK_up ht (by omega) hf) with g | g
          · show (tWay ft bf r (q + 1) (updN tr q m) (c + if bf q = (m : Int) then 0 else 1) z) = b ∨ (0 ≤ (tWay ft bf r (q + 1) (updN tr q m) (c + if bf q = (m : Int) then 0 else 1) z).1 ∧ (tWay ft bf r (q + 1) (updN tr q m) (c + if bf q = (m : Int) then 0 else 1) z).1 ≤ n ∧ tOK ft n (tWay ft bf r (q + 1) (updN tr q m) (c + if bf q = (m : Int) then 0 else 1) z).2)
            rw [g]; exact ihm
          · exact Or.inr g
        · rw [if_neg hf]; exact ihm
    exact key 8 (Nat.le_refl _)
set_option maxHeartbeats 4000000 in
set_option maxRecDepth 20000 in
theorem tWay_init (ft : Nat → Nat → Bool) (bf : Nat → Int) (n : Nat) : ∀ (r q : Nat) (tr : Nat → Int) (c : Int) (b b' : wayB), q + r = n → 0 ≤ c → c ≤ q → (b = b' ∨ ((n : Int) < b.1 ∧ (n : Int) < b'.1)) →
    (tWay ft bf r q tr c b = tWay ft bf r q tr c b' ∨ ((n : Int) < (tWay ft bf r q tr c b).1 ∧ (n : Int) < (tWay ft bf r q tr c b').1)) := by
  intro r
  induction r with
  | zero =>
    intro q tr c b b' hq h0 h1 h
    rcases h with rfl | ⟨g1, g2⟩
    · exact Or.inl rfl
    · left
      unfold tWay
      rw [if_pos (by omega), if_pos (by omega)]
  | succ r ih =>
    intro q tr c b b' hq h0 h1 h
    unfold tWay
    have key : ∀ m, m ≤ 8 → (foldN (tStep ft bf (fun tr' c' b' => tWay ft bf r (q + 1) tr' c' b') q tr c) m b = foldN (tStep ft bf (fun tr' c' b' => tWay ft bf r (q + 1) tr' c' b') q tr c) m b' ∨ ((n : Int) < (foldN (tStep ft bf (fun tr' c' b' => tWay ft bf r (q + 1) tr' c' b') q tr c) m b).1 ∧ (n : Int) < (foldN (tStep ft bf (fun tr' c' b' => tWay ft bf r (q + 1) tr' c' b') q tr c) m b').1)) := by
      intro m
      induction m with
      | zero => intro _; exact h
      | succ m ihm =>
        intro hm
        have ihm := ihm (by omega)
        show tStep ft bf _ q tr c m (foldN _ m b) = tStep ft bf _ q tr c m (foldN _ m b') ∨ ((n : Int) < (tStep ft bf _ q tr c m (foldN _ m b)).1 ∧ (n : Int) < (tStep ft bf _ q tr c m (foldN _ m b')).1)
        unfold tStep at ihm ⊢
        by_cases hf : (ft q m && freeB tr q m) = true
        · rw [if_pos hf, if_pos hf]
          have hc : 0 ≤ c + (if bf q = (m : Int) then 0 else 1) ∧ c + (if bf q = (m : Int) then 0 else 1) ≤ ((q + 1 : Nat) : Int) := by split <;> omega
          exact ih (q + 1) (updN tr q m) _ _ _ (by omega) hc.1 hc.2 ihm
        · rw [if_neg hf, if_neg hf]; exact ihm
    exact key 8 (Nat.le_refl _)
