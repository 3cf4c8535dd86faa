/-! THE CLASS's calls about ships and sailings -/
set_option maxHeartbeats 4000000 in
set_option maxRecDepth 20000 in
theorem RP1_tr {st st' : mS} {A A' : oA} {p : Nat} (h : RP1 st A p) (fI : ∀ k j, k = 3 ∨ k = 4 ∨ k = 5 → sI st' k p j = sI st k p j) (fJ : ∀ k, k = 1 ∨ k = 2 → sJ st' k p 0 = sJ st k p 0) (hX : ∀ k j, 31 ≤ k ∧ k ≤ 38 → A' k j = A k j) : RP1 st' A' p := by
  unfold RP1 at h ⊢
  simp only [fI 3 _ (by omega), fI 4 _ (by omega), fI 5 _ (by omega), fJ 1 (by omega), fJ 2 (by omega), hX 31 _ (by omega), hX 32 _ (by omega), hX 33 _ (by omega), hX 34 _ (by omega), hX 35 _ (by omega), hX 36 _ (by omega), hX 37 _ (by omega), hX 38 _ (by omega)]
  exact h
set_option maxHeartbeats 4000000 in
set_option maxRecDepth 20000 in
theorem RW1_tr {st st' : mS} {A A' : oA} {p : Nat} (h : RW1 st A p) (f6 : ∀ j, sI st' 6 p j = sI st 6 p j) (f3 : sI st' 3 p 8 = sI st 3 p 8) (hn : ∀ x, nAt A' p x = nAt A p x) : RW1 st' A' p := by
  refine ⟨fun x hx => ?_, ?_⟩
  · rw [f6, hn]; exact h.1 x hx
  · rw [f3, h.2]; exact sumN_congr fun x _ => (f6 x).symm
set_option maxHeartbeats 4000000 in
set_option maxRecDepth 20000 in
theorem RS1_tr {st st' : mS} {A A' : oA} {j : Nat} (h : RS1 st A j) (fI : ∀ k i, k = 7 ∨ k = 8 → sI st' k j i = sI st k j i) (hV : (∃ t, t < aV A' ∧ A' 41 t = j) ↔ (∃ t, t < aV A ∧ A 41 t = j)) (h39 : A' 39 j = A 39 j) (h40 : ∀ k : Nat, (k : Int) < A 39 j → A' 40 (3 * j + k) = A 40 (3 * j + k)) : RS1 st' A' j := by
  unfold RS1 at h ⊢
  rw [fI 7 _ (by omega), fI 7 _ (by omega), h39, hV]
  exact ⟨h.1, h.2.1, h.2.2.1, fun k hk => by rw [fI 8 _ (by omega), h40 k hk]; exact h.2.2.2 k hk⟩
set_option maxHeartbeats 4000000 in
set_option maxRecDepth 20000 in
theorem RV1_tr {st st' : mS} {A A' : oA} {s : Nat} (h : RV1 st A s) (fR : sR st' s = sR st s) (fI : ∀ k i, k = 9 ∨ k = 10 → sI st' k s i = sI st k s i) (hX : ∀ k, 41 ≤ k ∧ k ≤ 44 → A' k s = A k s) (h45 : ∀ k, k < 3 → A' 45 (3 * s + k) = A 45 (3 * s + k)) : RV1 st' A' s := by
  unfold RV1 shN at h ⊢
  rw [fR, fI 9 _ (by omega), fI 9 _ (by omega), fI 9 _ (by omega), hX 41 (by omega), hX 42 (by omega), hX 43 (by omega), hX 44 (by omega)]
  exact ⟨h.1, h.2.1, h.2.2.1, h.2.2.2.1, fun k hk => by rw [fI 10 _ (by omega), h45 k hk]; exact h.2.2.2.2 k hk⟩
def mck2 (k : mV → mS → Prop) : mO → mS → Prop := fun out st' => match out with
  | .inl (some v) => k v st'
  | _ => False
set_option maxHeartbeats 4000000 in
set_option maxRecDepth 20000 in
theorem e_ck2 {k : mV → mS → Prop} {v : mV} {st' : mS} : mck2 k (.inl (some v)) st' = k v st' := (rfl)
section Mac2
variable {rt : Nat} {C : mCall} {J : mK} {X : Nat → Nat → mLs → Nat × Nat → mS → Prop} {post : mO → mS → Prop} {l : List mI} {pc : Nat} {rem : Nat × Nat} {st : mS}
set_option maxHeartbeats 4000000 in
set_option maxRecDepth 20000 in
theorem mc_120 {n : Int} : mblk P_RX6 rt sg_ C J X post (.inr (2, 103, 0, 110, [(.iload_n 1, 1)]) :: l) pc [(0, mr 0 0), (1, mi n)] [mr 20 0] rem st = (6 ≤ rem.1 ∧ 1024 ≤ rem.2 ∧ C 601 [mi n] st (mck2 (fun v st' => mblk P_RX6 rt sg_ C J X post l (pc + 8) [(0, mr 0 0), (1, mi n)] [v, mr 20 0] (rem.1 - 6, rem.2 - 1024) st'))) := (rfl)
set_option maxHeartbeats 4000000 in
set_option maxRecDepth 20000 in
theorem mc_134 {n k : Int} : mblk P_RX6 rt sg_ C J X post (.inr (2, 218, 0, 220, [(.iload_n 1, 1)]) :: l) pc [(0, mr 0 0), (1, mi k), (2, mi n)] [mr 21 0] rem st = (2 ≤ rem.1 ∧ 8 ≤ rem.2 ∧ C 602 [mi k] st (mck2 (fun v st' => mblk P_RX6 rt sg_ C J X post l (pc + 8) [(0, mr 0 0), (1, mi k), (2, mi n)] [v, mr 21 0] (rem.1 - 2, rem.2 - 8) st'))) := (rfl)
set_option maxHeartbeats 4000000 in
set_option maxRecDepth 20000 in
theorem mc_136 {f e n : Int} {j : Nat} : mblk P_RX6 rt sg_ C J X post (.inr (2, 82, 0, 250, [(.aload 4, 2), (.iload_n 2, 1), (.iload 5, 2)]) :: l) pc [(0, mr 0 0), (2, mi f), (4, mr 7 j), (5, mi e), (6, mi n)] [mr 22 0] rem st = (3 ≤ rem.1 ∧ 16 ≤ rem.2 ∧ C 603 [mr 7 j, mi f, mi e] st (mck2 (fun v st' => mblk P_RX6 rt sg_ C J X post l (pc + 12) [(0, mr 0 0), (2, mi f), (4, mr 7 j), (5, mi e), (6, mi n)] [v, mr 22 0] (rem.1 - 3, rem.2 - 16) st'))) := (rfl)
end Mac2
set_option maxHeartbeats 4000000 in
set_option maxRecDepth 20000 in
theorem p_601 {CC : Nat → mCall} (G : mGood CC) {d : Nat} {n : Int} {st : mS} {post : mO → mS → Prop} (h : post (.inl (some (mr 3 (sN st 1)))) (newPerson st n)) : CC d 601 [mi n] st post := G.1 d 601 _ st post (by omega) h
set_option maxHeartbeats 4000000 in
set_option maxRecDepth 20000 in
theorem p_602 {CC : Nat → mCall} (G : mGood CC) {d : Nat} {n : Int} {st : mS} {post : mO → mS → Prop} (h : post (.inl (some (mr 7 (sN st 2)))) (newShip st n)) : CC d 602 [mi n] st post := G.1 d 602 _ st post (by omega) h
set_option maxHeartbeats 4000000 in
set_option maxRecDepth 20000 in
theorem p_603 {CC : Nat → mCall} (G : mGood CC) {d j : Nat} {a b : Int} {st : mS} {post : mO → mS → Prop} (h : post (.inl (some (mr 9 (sN st 3)))) (newSailing st j a b)) : CC d 603 [mr 7 j, mi a, mi b] st post := G.1 d 603 _ st post (by omega) h
set_option maxHeartbeats 4000000 in
set_option maxRecDepth 20000 in
theorem a_503 {CC : Nat → mCall} (G : mGood CC) {d k z i : Nat} {st : mS} {post : mO → mS → Prop} (hk : lk k = true) (hz : z = mEk k) (hl : (sL st k).length ≤ 32) (h : post (.inl (some (mi 1))) (putL st k (sL st k ++ [i]))) : CC d 503 [mr k 0, mr z i] st post := by
  subst hz; exact p_503 G hk hl h
set_option maxHeartbeats 4000000 in
set_option maxRecDepth 20000 in
theorem mG_30 {k : Nat} (h : 30 ≤ k) : mG k ≠ 1 ∧ mG k ≠ 2 ∧ mG k ≠ 3 := by
  unfold mG
  split <;> first | omega | (refine ⟨?_, ?_, ?_⟩ <;> (try split) <;> omega)
def nP (st : mS) (n : Int) : mS := putL (newPerson st n) 20 (sL st 20 ++ [sN st 1])
set_option maxHeartbeats 4000000 in
set_option maxRecDepth 20000 in
theorem nP_I {st : mS} {n : Int} {k i j : Nat} : sI (nP st n) k i j = if mG k = 1 ∧ i = sN st 1 then (if k = 3 then (if j = 0 then n else if j = 5 ∨ j = 6 then -1 else 0) else if k = 5 ∧ j < 4 then -1 else 0) else sI st k i j := (rfl)
set_option maxHeartbeats 4000000 in
set_option maxRecDepth 20000 in
theorem nP_J {st : mS} {n : Int} {k i j : Nat} : sJ (nP st n) k i j = if mG k = 1 ∧ i = sN st 1 then 0 else sJ st k i j := (rfl)
set_option maxHeartbeats 4000000 in
set_option maxRecDepth 20000 in
theorem dbit_0 (e : Nat) : dbit 0 e = false := by unfold dbit; simp
set_option maxHeartbeats 4000000 in
set_option maxRecDepth 20000 in
theorem RelC_nP {st : mS} {A : oA} (hA : OA A) (hR : RelC st A) : RelC (nP st (A 30 1)) (upA A 30 1 (A 30 1 + 1)) := by
  have hP := aP_eq hA.1
  have eP : aP (upA A 30 1 (A 30 1 + 1)) = aP A + 1 := by unfold aP; rw [upA_eq]; have := hA.1.1; omega
  have eS : aS (upA A 30 1 (A 30 1 + 1)) = aS A := by unfold aS; rw [upA_ne (by omega)]
  have eV : aV (upA A 30 1 (A 30 1 + 1)) = aV A := by unfold aV; rw [upA_ne (by omega)]
  have eA : ∀ k j, k ≠ 30 → upA A 30 1 (A 30 1 + 1) k j = A k j := fun k j hk => upA_ne (by omega)
  have en : ∀ p x, nAt (upA A 30 1 (A 30 1 + 1)) p x = nAt A p x := fun p x => nAt_eq (upA_ne (by omega)) (fun j => eA 45 j (by omega)) (fun j => eA 42 j (by omega)) (fun j => eA 43 j (by omega))
  obtain ⟨h0, h1, h2, h3, h4⟩ := hR
  have n1 : sN st 1 = aP A := h0.2.1.1
  have oth : ∀ k i j, (mG k ≠ 1 ∨ i ≠ aP A) → sI (nP st (A 30 1)) k i j = sI st k i j := fun k i j h => by
    rw [nP_I, if_neg (fun z => h.elim (fun y => y z.1) (fun y => y (z.2.trans n1)))]
  have othJ : ∀ k i j, i ≠ aP A → sJ (nP st (A 30 1)) k i j = sJ st k i j := fun k i j h => by
    rw [nP_J, if_neg (fun z => h (z.2.trans n1))]
  refine ⟨⟨⟨?_, ?_, ?_⟩, ⟨?_, ?_, ?_⟩, ?_⟩, fun p hp => ?_, fun p hp => ?_, fun j hj => ?_, fun s hs => ?_⟩
  · rw [eP]
    show (if 20 = 20 then sL st 20 ++ [sN st 1] else sL st 20) = _
    rw [if_pos rfl, h0.1.1, n1, List.range_succ]
  · rw [eS]; exact h0.1.2.1
  · rw [eV]; exact h0.1.2.2
  · rw [eP]
    show (if 1 = 1 then sN st 1 + 1 else sN st 1) = _
    rw [if_pos rfl, n1]
  · rw [eS]; exact h0.2.1.2.1
  · rw [eV]; exact h0.2.1.2.2
  · rw [oth 0 _ _ (Or.inl (by decide)), oth 0 _ _ (Or.inl (by decide)), oth 0 _ _ (Or.inl (by decide)), upA_ne (by omega), upA_ne (by omega), upA_ne (by omega)]; exact h0.2.2
  · by_cases c : p = aP A
    · subst c
      have q31 : ∀ k, k < 4 → A 31 (4 * aP A + k) = 0 := fun k hk => hA.2.1.2.1 _ (by omega)
      have q32 := fun e => hA.2.2.1.2.2 (42 * aP A + e) (by omega)
      have q34 := hA.2.2.2.1.2.1 (aP A) (Nat.le_refl _)
      refine ⟨?_, fun k hk => ⟨fun z => ?_, fun _ => ?_⟩, fun e he => ?_, fun e he => ?_, fun z => ?_, fun _ => ?_⟩
      · rw [nP_I, if_pos ⟨rfl, n1.symm⟩, if_pos rfl, if_pos rfl, hP]
      · rw [eA _ _ (by omega), q31 k hk] at z; omega
      · rw [nP_I, if_pos ⟨rfl, n1.symm⟩, if_neg (by omega), if_pos ⟨rfl, hk⟩]
      · rw [nP_J, if_pos ⟨rfl, n1.symm⟩, dbit_0, eA _ _ (by omega), (q32 e).1]
        exact ⟨fun z => (nomatch z), fun z => by omega⟩
      · rw [nP_J, if_pos ⟨rfl, n1.symm⟩, dbit_0, eA _ _ (by omega), (q32 e).2]
        exact ⟨fun z => (nomatch z), fun z => by omega⟩
      · rw [eA _ _ (by omega), q34] at z; omega
      · rw [nP_I, if_pos ⟨rfl, n1.symm⟩, if_pos rfl, if_neg (by omega), if_pos (by omega)]
    · rw [eP] at hp
      exact RP1_tr (h1 p (by omega)) (fun k j _ => oth k p j (Or.inr c)) (fun k _ => othJ k p 0 c) (fun k j hk => eA k j (by omega))
  · by_cases c : p = aP A
    · subst c
      have z6 : ∀ x, sI (nP st (A 30 1)) 6 (aP A) x = 0 := fun x => by rw [nP_I, if_pos ⟨rfl, n1.symm⟩, if_neg (by omega), if_neg (by omega)]
      refine ⟨fun x hx => ?_, ?_⟩
      · rw [z6, en]
        refine (sumN_zero fun t ht => cif_neg (fun z => ?_)).symm
        obtain ⟨k, k1, k2⟩ := hasP_iff.mp z.1
        have := (hA.2.2.2.2.2.2.1 t ht).1 k k1
        omega
      · rw [sumN_zero fun x _ => z6 x, nP_I, if_pos ⟨rfl, n1.symm⟩, if_pos rfl, if_neg (by omega), if_neg (by omega)]
    · rw [eP] at hp
      exact RW1_tr (h2 p (by omega)) (fun j => oth 6 p j (Or.inr c)) (oth 3 p 8 (Or.inr c)) (fun x => en p x)
  · rw [eS] at hj
    exact RS1_tr (h3 j hj) (fun k i hk => oth k j i (Or.inl (by rcases hk with rfl | rfl <;> decide))) (by rw [eV]; simp only [eA 41 _ (by omega)]) (eA _ _ (by omega)) (fun k _ => eA _ _ (by omega))
  · rw [eV] at hs
    exact RV1_tr (h4 s hs) rfl (fun k i hk => oth k s i (Or.inl (by rcases hk with rfl | rfl <;> decide))) (fun k hk => eA _ _ (by omega)) (fun k _ => eA _ _ (by omega))
set_option maxHeartbeats 4000000 in
set_option maxRecDepth 20000 in
theorem nP_C {st : mS} {n : Int} : frC st (nP st n) := ⟨fun k i j hk => by rw [nP_I, if_neg (fun z => (mG_30 hk).1 z.1)], fun k i j hk => by rw [nP_J, if_neg (fun z => (mG_30 hk).1 z.1)], rfl, fun g hg => by
  show (if g = 1 then _ else _) = _
  rw [if_neg (by omega)]⟩
set_option maxHeartbeats 4000000 in
set_option maxRecDepth 20000 in
theorem s_120 {CC : Nat → mCall} (G : mGood CC) {d : Nat} (hd : 1 ≤ d) {A : oA} {st : mS} {post : mO → mS → Prop} (hA : OA A) (hR : RelC st A) (h : ∀ st', frC st st' → RelC st' (oAddPerson A).2.2 → post (outI (oAddPerson A)) st') : CC d 120 [mr 0 0] st post := by
  have hL := hR.1.1.1
  have hP := aP_eq hA.1
  have hB := hA.1.1
  unfold oAddPerson at h
  by_cases c : 8 ≤ A 30 1
  · simp only [oif_pos c, outI_x] at h
    have go := h st (frC.refl st) hR
    obtain ⟨d, rfl, hd⟩ := mdep hd; refine go_120 G (Nat.le_of_ble_eq_true rfl) (fun WW hW => ?_)
    (refine hW _ _ _ _ _ ?_; simp only [e_get0, e_getn, e_load0, e_loadn, e_remnil, e_rem0, e_remi, e_remr, e_pnil, e_pcons, e_pc, e_set1, e_isI, e_isR, e_isJ, e_mun, e_mbin, e_mbinJ, e_nil, e_ins, e_exc, e_cond, margs, mcat, e_ceq, e_cne, e_clt, e_cge, e_cgt, e_cle, e_ty0, e_ty1, e_ty2, a_120_0, a_120_26, clt_13_13, e_aload_0, e_bipush, e_ck0, e_ckv, e_ckx, e_getf, e_iload_1, e_ireturn, e_istore_1, e_popi, e_popr, f_RX6_10_0, j_120_0, j_120_26, rm_, rm_i, rm_ii, rm_iii, rm_iiii, rm_iiir, rm_iir, rm_iiri, rm_iirr, rm_ir, rm_iri, rm_irii, rm_irir, rm_irr, rm_irri, rm_irrr, rm_r, rm_ri, rm_rii, rm_riii, rm_riir, rm_rir, rm_riri, rm_rirr, rm_rr, rm_rri, rm_rrii, rm_rrir, rm_rrr, rm_rrri, rm_rrrr, th_RX6_53_0, v_RX6_112, v_RX6_73, Nat.reduceLeDiff, Nat.reduceSub, Nat.reduceAdd, Nat.reduceEqDiff, Nat.le_refl, Nat.zero_le, true_and, and_true, ne_eq, not_false_eq_true, Nat.sub_zero, Nat.zero_add, Int.reduceLT, Int.reduceLE, Int.reduceAdd, Int.reduceSub, Int.reduceNeg, Int.reduceMul, Int.reduceToNat, e_nc, Int.reduceEq, Int.reduceNe, not_true_eq_false, not_false_eq_true, forall_const, false_implies, implies_true, Int.reduceGE, Int.reduceGT, Nat.reduceMul, reduceCtorEq, true_implies, true_or, or_true, or_self, Int.toNat_natCast, Nat.zero_ne_one, Nat.one_ne_zero, false_and, and_false, if_false, if_true, and_self, eq_self, Int.lt_irrefl, q_II, q_IJ, q_IL, q_JI, q_JJ, q_JL, q_NI, q_NJ, q_NL, q_RI, q_RJ, q_RL, q_LI, q_LJ, q_LL])
    repeat' (first | exact go | (exfalso; omega) | refine g_len G rfl hL ?_ | with_reducible apply And.intro | exact inR_of (by omega) (by omega) | (refine hW _ _ _ _ _ ?_; simp only [e_get0, e_getn, e_load0, e_loadn, e_remnil, e_rem0, e_remi, e_remr, e_pnil, e_pcons, e_pc, e_set1, e_isI, e_isR, e_isJ, e_mun, e_mbin, e_mbinJ, e_nil, e_ins, e_exc, e_cond, margs, mcat, e_ceq, e_cne, e_clt, e_cge, e_cgt, e_cle, e_ty0, e_ty1, e_ty2, a_120_0, a_120_26, clt_13_13, e_aload_0, e_bipush, e_ck0, e_ckv, e_ckx, e_getf, e_iload_1, e_ireturn, e_istore_1, e_popi, e_popr, f_RX6_10_0, j_120_0, j_120_26, rm_, rm_i, rm_ii, rm_iii, rm_iiii, rm_iiir, rm_iir, rm_iiri, rm_iirr, rm_ir, rm_iri, rm_irii, rm_irir, rm_irr, rm_irri, rm_irrr, rm_r, rm_ri, rm_rii, rm_riii, rm_riir, rm_rir, rm_riri, rm_rirr, rm_rr, rm_rri, rm_rrii, rm_rrir, rm_rrr, rm_rrri, rm_rrrr, th_RX6_53_0, v_RX6_112, v_RX6_73, Nat.reduceLeDiff, Nat.reduceSub, Nat.reduceAdd, Nat.reduceEqDiff, Nat.le_refl, Nat.zero_le, true_and, and_true, ne_eq, not_false_eq_true, Nat.sub_zero, Nat.zero_add, Int.reduceLT, Int.reduceLE, Int.reduceAdd, Int.reduceSub, Int.reduceNeg, Int.reduceMul, Int.reduceToNat, e_nc, Int.reduceEq, Int.reduceNe, not_true_eq_false, not_false_eq_true, forall_const, false_implies, implies_true, Int.reduceGE, Int.reduceGT, Nat.reduceMul, reduceCtorEq, true_implies, true_or, or_true, or_self, Int.toNat_natCast, Nat.zero_ne_one, Nat.one_ne_zero, false_and, and_false, if_false, if_true, and_self, eq_self, Int.lt_irrefl, q_II, q_IJ, q_IL, q_JI, q_JJ, q_JL, q_NI, q_NJ, q_NL, q_RI, q_RJ, q_RL, q_LI, q_LJ, q_LL]) | (with_reducible show mck _ _ _ _ _ _ _ _; simp only [e_get0, e_getn, e_load0, e_loadn, e_remnil, e_rem0, e_remi, e_remr, e_pnil, e_pcons, e_pc, e_set1, e_isI, e_isR, e_isJ, e_mun, e_mbin, e_mbinJ, e_nil, e_ins, e_exc, e_cond, margs, mcat, e_ceq, e_cne, e_clt, e_cge, e_cgt, e_cle, e_ty0, e_ty1, e_ty2, a_120_0, a_120_26, clt_13_13, e_aload_0, e_bipush, e_ck0, e_ckv, e_ckx, e_getf, e_iload_1, e_ireturn, e_istore_1, e_popi, e_popr, f_RX6_10_0, j_120_0, j_120_26, rm_, rm_i, rm_ii, rm_iii, rm_iiii, rm_iiir, rm_iir, rm_iiri, rm_iirr, rm_ir, rm_iri, rm_irii, rm_irir, rm_irr, rm_irri, rm_irrr, rm_r, rm_ri, rm_rii, rm_riii, rm_riir, rm_rir, rm_riri, rm_rirr, rm_rr, rm_rri, rm_rrii, rm_rrir, rm_rrr, rm_rrri, rm_rrrr, th_RX6_53_0, v_RX6_112, v_RX6_73, Nat.reduceLeDiff, Nat.reduceSub, Nat.reduceAdd, Nat.reduceEqDiff, Nat.le_refl, Nat.zero_le, true_and, and_true, ne_eq, not_false_eq_true, Nat.sub_zero, Nat.zero_add, Int.reduceLT, Int.reduceLE, Int.reduceAdd, Int.reduceSub, Int.reduceNeg, Int.reduceMul, Int.reduceToNat, e_nc, Int.reduceEq, Int.reduceNe, not_true_eq_false, not_false_eq_true, forall_const, false_implies, implies_true, Int.reduceGE, Int.reduceGT, Nat.reduceMul, reduceCtorEq, true_implies, true_or, or_true, or_self, Int.toNat_natCast, Nat.zero_ne_one, Nat.one_ne_zero, false_and, and_false, if_false, if_true, and_self, eq_self, Int.lt_irrefl, q_II, q_IJ, q_IL, q_JI, q_JJ, q_JL, q_NI, q_NJ, q_NL, q_RI, q_RJ, q_RL, q_LI, q_LJ, q_LL]) | intro _ | omega)
  · simp only [oif_neg c, outI_v] at h
    have go := h (nP st (A 30 1)) nP_C (RelC_nP hA hR)
    unfold nP at go
    have hl : (sL (newPerson st (A 30 1)) 20).length ≤ 32 := by
      show (sL st 20).length ≤ 32
      rw [hL, List.length_range]; omega
    obtain ⟨d, rfl, hd⟩ := mdep hd; refine go_120 G (Nat.le_of_ble_eq_true rfl) (fun WW hW => ?_)
    (refine hW _ _ _ _ _ ?_; simp only [e_get0, e_getn, e_load0, e_loadn, e_remnil, e_rem0, e_remi, e_remr, e_pnil, e_pcons, e_pc, e_set1, e_isI, e_isR, e_isJ, e_mun, e_mbin, e_mbinJ, e_nil, e_ins, e_exc, e_cond, margs, mcat, e_ceq, e_cne, e_clt, e_cge, e_cgt, e_cle, e_ty0, e_ty1, e_ty2, a_120_0, a_120_26, clt_13_13, e_aload_0, e_bipush, e_ck0, e_ckv, e_ckx, e_getf, e_iload_1, e_ireturn, e_istore_1, e_popi, e_popr, f_RX6_10_0, j_120_0, j_120_26, rm_, rm_i, rm_ii, rm_iii, rm_iiii, rm_iiir, rm_iir, rm_iiri, rm_iirr, rm_ir, rm_iri, rm_irii, rm_irir, rm_irr, rm_irri, rm_irrr, rm_r, rm_ri, rm_rii, rm_riii, rm_riir, rm_rir, rm_riri, rm_rirr, rm_rr, rm_rri, rm_rrii, rm_rrir, rm_rrr, rm_rrri, rm_rrrr, th_RX6_53_0, v_RX6_112, v_RX6_73, Nat.reduceLeDiff, Nat.reduceSub, Nat.reduceAdd, Nat.reduceEqDiff, Nat.le_refl, Nat.zero_le, true_and, and_true, ne_eq, not_false_eq_true, Nat.sub_zero, Nat.zero_add, Int.reduceLT, Int.reduceLE, Int.reduceAdd, Int.reduceSub, Int.reduceNeg, Int.reduceMul, Int.reduceToNat, e_nc, Int.reduceEq, Int.reduceNe, not_true_eq_false, not_false_eq_true, forall_const, false_implies, implies_true, Int.reduceGE, Int.reduceGT, Nat.reduceMul, reduceCtorEq, true_implies, true_or, or_true, or_self, Int.toNat_natCast, Nat.zero_ne_one, Nat.one_ne_zero, false_and, and_false, if_false, if_true, and_self, eq_self, Int.lt_irrefl, q_II, q_IJ, q_IL, q_JI, q_JJ, q_JL, q_NI, q_NJ, q_NL, q_RI, q_RJ, q_RL, q_LI, q_LJ, q_LL, hP])
    repeat' (first | exact go | (exfalso; omega) | refine g_len G rfl hL ?_ | refine p_601 G ?_ | (with_reducible show mck2 _ _ _; simp only [e_ck2]) | refine a_503 G rfl rfl hl ?_ | with_reducible apply And.intro | exact inR_of (by omega) (by omega) | (refine hW _ _ _ _ _ ?_; simp only [e_get0, e_getn, e_load0, e_loadn, e_remnil, e_rem0, e_remi, e_remr, e_pnil, e_pcons, e_pc, e_set1, e_isI, e_isR, e_isJ, e_mun, e_mbin, e_mbinJ, e_nil, e_ins, e_exc, e_cond, margs, mcat, e_ceq, e_cne, e_clt, e_cge, e_cgt, e_cle, e_ty0, e_ty1, e_ty2, a_120_0, a_120_26, clt_13_13, e_aload_0, e_bipush, e_ck0, e_ckv, e_ckx, e_getf, e_iload_1, e_ireturn, e_istore_1, e_popi, e_popr, f_RX6_10_0, j_120_0, j_120_26, rm_, rm_i, rm_ii, rm_iii, rm_iiii, rm_iiir, rm_iir, rm_iiri, rm_iirr, rm_ir, rm_iri, rm_irii, rm_irir, rm_irr, rm_irri, rm_irrr, rm_r, rm_ri, rm_rii, rm_riii, rm_riir, rm_rir, rm_riri, rm_rirr, rm_rr, rm_rri, rm_rrii, rm_rrir, rm_rrr, rm_rrri, rm_rrrr, th_RX6_53_0, v_RX6_112, v_RX6_73, Nat.reduceLeDiff, Nat.reduceSub, Nat.reduceAdd, Nat.reduceEqDiff, Nat.le_refl, Nat.zero_le, true_and, and_true, ne_eq, not_false_eq_true, Nat.sub_zero, Nat.zero_add, Int.reduceLT, Int.reduceLE, Int.reduceAdd, Int.reduceSub, Int.reduceNeg, Int.reduceMul, Int.reduceToNat, e_nc, Int.reduceEq, Int.reduceNe, not_true_eq_false, not_false_eq_true, forall_const, false_implies, implies_true, Int.reduceGE, Int.reduceGT, Nat.reduceMul, reduceCtorEq, true_implies, true_or, or_true, or_self, Int.toNat_natCast, Nat.zero_ne_one, Nat.one_ne_zero, false_and, and_false, if_false, if_true, and_self, eq_self, Int.lt_irrefl, q_II, q_IJ, q_IL, q_JI, q_JJ, q_JL, q_NI, q_NJ, q_NL, q_RI, q_RJ, q_RL, q_LI, q_LJ, q_LL, hP, mc_120, e_ck2]) | (with_reducible show mck _ _ _ _ _ _ _ _; simp only [e_get0, e_getn, e_load0, e_loadn, e_remnil, e_rem0, e_remi, e_remr, e_pnil, e_pcons, e_pc, e_set1, e_isI, e_isR, e_isJ, e_mun, e_mbin, e_mbinJ, e_nil, e_ins, e_exc, e_cond, margs, mcat, e_ceq, e_cne, e_clt, e_cge, e_cgt, e_cle, e_ty0, e_ty1, e_ty2, a_120_0, a_120_26, clt_13_13, e_aload_0, e_bipush, e_ck0, e_ckv, e_ckx, e_getf, e_iload_1, e_ireturn, e_istore_1, e_popi, e_popr, f_RX6_10_0, j_120_0, j_120_26, rm_, rm_i, rm_ii, rm_iii, rm_iiii, rm_iiir, rm_iir, rm_iiri, rm_iirr, rm_ir, rm_iri, rm_irii, rm_irir, rm_irr, rm_irri, rm_irrr, rm_r, rm_ri, rm_rii, rm_riii, rm_riir, rm_rir, rm_riri, rm_rirr, rm_rr, rm_rri, rm_rrii, rm_rrir, rm_rrr, rm_rrri, rm_rrrr, th_RX6_53_0, v_RX6_112, v_RX6_73, Nat.reduceLeDiff, Nat.reduceSub, Nat.reduceAdd, Nat.reduceEqDiff, Nat.le_refl, Nat.zero_le, true_and, and_true, ne_eq, not_false_eq_true, Nat.sub_zero, Nat.zero_add, Int.reduceLT, Int.reduceLE, Int.reduceAdd, Int.reduceSub, Int.reduceNeg, Int.reduceMul, Int.reduceToNat, e_nc, Int.reduceEq, Int.reduceNe, not_true_eq_false, not_false_eq_true, forall_const, false_implies, implies_true, Int.reduceGE, Int.reduceGT, Nat.reduceMul, reduceCtorEq, true_implies, true_or, or_true, or_self, Int.toNat_natCast, Nat.zero_ne_one, Nat.one_ne_zero, false_and, and_false, if_false, if_true, and_self, eq_self, Int.lt_irrefl, q_II, q_IJ, q_IL, q_JI, q_JJ, q_JL, q_NI, q_NJ, q_NL, q_RI, q_RJ, q_RL, q_LI, q_LJ, q_LL, hP, mc_120, e_ck2]) | intro _ | omega)
