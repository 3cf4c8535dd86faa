/-! MEMBERS OF ArrayList: remove, clear -/
theorem cpy_0 {f : Nat → Option Nat} {a b : Nat} : va_cpy f f a b 0 = f := funext fun j => pk_cpy_out (by omega)
section LTails2
variable {p : Program} {l : Launch} {e : Env} {R : Room} {s : State} {m : MethodId} {args : Array Value} {below : List Frame} {meth : Method} {c : Code} {H : Heap} {locs : List Loc} {cells slots : Nat} {Q : State → Prop}
variable {E : mEnv} {S : mStr} {ls : Array Slot} {F : Nat → Prop} {H0 : Heap} {a r cap : Nat} {m0 n0 : Int32} {f : Nat → Option Nat} {n i x : Nat} {C : String} {ci : Nat}
theorem lt_frem (X : lC E S p s m c cJx4a65c_fastRemove_b59b0 4 args RJx4a65c) (hw : LW E a m0 r n0 cap f H) (hne : a ≠ r) (hFa : F a) (hFr : F r) (hS : va_S F H0 H locs) (hn : n < cap) (hcap : cap < 2 ^ 31) (hl : lv_has ls 4 [(0, .ref a), (1, .ref r), (2, .int (nI i)), (3, .int (nI n))])
    (kk : ∀ (H1 : Heap) (locs1 : List Loc), LW E a m0 r (nI n) cap (va_up f n none) H1 → va_S F H0 H1 locs1 → W p l e R s m args below meth c H1 locs1 cells slots Q (F0 m 43 ls [])) : W p l e R s m args below meth c H locs cells slots Q (F0 m 34 ls []) := by
  have hx := X.1.1
  have hb := X.1.2.1
  refine lv_aload_n hx hb dJx4a65c_fastRemove_b59b0_34 rfl (lv_at hl 1 rfl) ?_
  refine lv_aload_n hx hb dJx4a65c_fastRemove_b59b0_35 rfl (lv_at hl 0 rfl) ?_
  refine lv_iload_n hx hb dJx4a65c_fastRemove_b59b0_36 rfl (lv_at hl 3 rfl) ?_
  refine lv_dup_x1 hx hb dJx4a65c_fastRemove_b59b0_37 rfl rfl ?_
  refine lw_puts X hw hne hFa hS dJx4a65c_fastRemove_b59b0_38 (fun H1 locs1 hw1 z1 oq1 hS => ?_)
  refine lv_null hx hb dJx4a65c_fastRemove_b59b0_41 ?_
  refine lw_astN hx hb X.2 hw1 hne hFr hS (vp_in_nI hn hcap) dJx4a65c_fastRemove_b59b0_42 (fun H2 locs2 hw2 z2 oq2 hS => ?_)
  rw [nI_clamp (by omega)] at hw2
  exact kk H2 locs2 hw2 hS
/-- clear's loop -/
theorem lt_clr (X : lC E S p s m c cJx4a65c_clear_da8c8 4 args RJx4a65c) (hne : a ≠ r) (hFa : F a) (hFr : cap ≠ 0 → F r) (hn : n ≤ cap) (hcap : cap < 2 ^ 31)
    (kk : ∀ (H1 : Heap) (locs1 : List Loc) (ls : Array Slot), LW E a m0 r n0 cap (fun k => if k < n then none else f k) H1 → va_S F H0 H1 locs1 → W p l e R s m args below meth c H1 locs1 cells slots Q (F0 m 42 ls [])) :
    ∀ (t j : Nat), j + t = n → ∀ (H : Heap) (locs : List Loc) (ls : Array Slot), LW E a m0 r n0 cap (fun k => if k < j then none else f k) H → va_S F H0 H locs → lv_has ls 4 [(0, .ref a), (1, .ref r), (2, .int (nI n)), (3, .int (nI j))] → W p l e R s m args below meth c H locs cells slots Q (F0 m 27 ls []) := by
  have hx := X.1.1
  have hb := X.1.2.1
  intro t
  induction t with
  | zero =>
    intro j hj H locs ls hw hS hl
    have ej : j = n := by omega
    subst ej
    refine lv_iload_n hx hb dJx4a65c_clear_da8c8_27 rfl (lv_at hl 3 rfl) ?_
    refine lv_iload_n hx hb dJx4a65c_clear_da8c8_28 rfl (lv_at hl 2 rfl) ?_
    refine lv_icmp_ge (tgt := 42) hx hb dJx4a65c_clear_da8c8_29 (by decide) (fun c1 => ?_) (fun c1 => absurd (nI_le (Nat.le_refl _) (by omega)) c1)
    exact kk H locs ls hw hS
  | succ t ih =>
    intro j hj H locs ls hw hS hl
    refine lv_iload_n hx hb dJx4a65c_clear_da8c8_27 rfl (lv_at hl 3 rfl) ?_
    refine lv_iload_n hx hb dJx4a65c_clear_da8c8_28 rfl (lv_at hl 2 rfl) ?_
    refine lv_icmp_ge (tgt := 42) hx hb dJx4a65c_clear_da8c8_29 (by decide) (fun c1 => absurd c1 (nI_ge (by omega) (by omega))) (fun c1 => ?_)
    refine lv_aload_n hx hb dJx4a65c_clear_da8c8_32 rfl (lv_at hl 1 rfl) ?_
    refine lv_iload_n hx hb dJx4a65c_clear_da8c8_33 rfl (lv_at hl 3 rfl) ?_
    refine lv_null hx hb dJx4a65c_clear_da8c8_34 ?_
    refine lw_astN hx hb X.2 hw hne (hFr (by omega)) hS (vp_in_nI (by omega) hcap) dJx4a65c_clear_da8c8_35 (fun H1 locs1 hw1 z1 oq1 hS => ?_)
    rw [nI_clamp (by omega)] at hw1
    have ef : va_up (fun k => if k < j then none else f k) j none = (fun k => if k < j + 1 then none else f k) := by
      funext k
      unfold va_up
      by_cases h1 : k = j
      · rw [if_pos h1, if_pos (by omega)]
      · rw [if_neg h1]
        dsimp only
        by_cases h2 : k < j
        · rw [if_pos h2, if_pos (by omega)]
        · rw [if_neg h2, if_neg (by omega)]
    rw [ef] at hw1
    refine lv_iinc (v := nI (j + 1)) (lv' := [(3, .int (nI (j + 1))), (0, .ref a), (1, .ref r), (2, .int (nI n))]) hx hb dJx4a65c_clear_da8c8_36 hl (k := 3) rfl (nI_1 j) (by decide) rfl (fun ls hl => ?_)
    refine lv_goto (tgt := 27) hx hb dJx4a65c_clear_da8c8_39 (by decide) ?_
    exact ih (j + 1) (by omega) H1 locs1 ls hw1 hS (lv_sub hl [1, 2, 3, 0] rfl)
end LTails2
set_option maxHeartbeats 4000000 in
set_option maxRecDepth 100000 in
/-- fastRemove -/
theorem c_frem (l : Launch) (E : mEnv) (S : mStr) {sz a r cap : Nat} {m0 : Int32} {f : Nat → Option Nat} {C : String} {ci n i : Nat} (hc : elOK C ci) (hL : LH E a r cap f) (hn : n ≤ cap) (hi : i < n) : Met l (qY qa_frem) (qWs qa_frem) (lR 1 0 0) (lP E S sz [.ref a, .ref r, .int (nI i)] (fun H => LW E a m0 r (nI n) cap f H ∧ ELs E ci f H)) (va_Qv (fun _ : Unit => True) (fun _ t => ∃ m1, LW E a m1 r (nI (n - 1)) cap (va_up (va_cpy f f (i + 1) i (n - 1 - i)) (n - 1) none) t.heap) (FG a r cap sz)) 0 0 (FG a r cap sz) := by
  refine Met.ofW (cc := cJx4a65c_fastRemove_b59b0) (maxL := 4) (ret := none) (by decide) rfl ?_
  intro p e s m args below meth c s₁ B hml hv
  obtain ⟨rfl, T, hsz, hw, hel⟩ := hv
  subst hsz
  have hx := B.exec
  have hb := B.bytes
  have hr := B.returns
  have hts := fun w hw => atoms_spec (ws := qWs qa_frem) B.pre w (List.mem_cons_of_mem _ hw)
  have hown : s.vm.findClass RJx4a65c = some m.cls := findClass_of_methodNamed B.named
  have hlocks := B.notSynchronized
  have X : lC E S p s m c cJx4a65c_fastRemove_b59b0 4 _ RJx4a65c := ⟨⟨hx, hb, hml, hown, hts⟩, T⟩
  have hS : va_S (FG a r cap s.heap.size) s.heap s.heap [] := va_S.rf
  have hl := lv_entry ([.ref a, .ref r, .int (nI i)]) (n := 4) (Nat.le_of_ble_eq_true rfl)
  rw [lg_entry_eq]
  generalize (lg_sl ([.ref a, .ref r, .int (nI i)]) ++ List.replicate (4 - (lg_sl ([.ref a, .ref r, .int (nI i)])).length) Slot.unset).toArray = ls at hl ⊢
  have hl : lv_has ls 4 [(0, .ref a), (1, .ref r), (2, .int (nI i))] := hl
  obtain ⟨hne, hlo, hz0, hz1, h64, hf, hner⟩ := id hL
  refine lv_aload_n hx hb dJx4a65c_fastRemove_b59b0_0 rfl (lv_at hl 0 rfl) ?_
  refine lv_dup hx hb dJx4a65c_fastRemove_b59b0_1 rfl ?_
  refine lw_getm X hw dJx4a65c_fastRemove_b59b0_2 ?_
  refine lv_iconst (v := 1) hx hb dJx4a65c_fastRemove_b59b0_5 (by decide) ?_
  refine lv_iadd hx hb dJx4a65c_fastRemove_b59b0_6 ?_
  refine lw_putm X hw hne FG.a hS dJx4a65c_fastRemove_b59b0_7 (fun H1 locs1 hw1 z1 oq1 hS => ?_)
  have hel1 := el_put hL hel oq1
  refine lv_aload_n hx hb dJx4a65c_fastRemove_b59b0_10 rfl (lv_at hl 0 rfl) ?_
  refine lw_gets X hw1 dJx4a65c_fastRemove_b59b0_11 ?_
  refine lv_iconst (v := nI 1) hx hb dJx4a65c_fastRemove_b59b0_14 (by decide) ?_
  refine lv_isub hx hb dJx4a65c_fastRemove_b59b0_15 ?_
  rw [pk_sub (by omega)]
  refine lv_dup hx hb dJx4a65c_fastRemove_b59b0_16 rfl ?_
  refine lv_istore_n (lv' := [(3, .int (nI (n - 1))), (0, .ref a), (1, .ref r), (2, .int (nI i))]) hx hb dJx4a65c_fastRemove_b59b0_17 rfl hl (by decide) rfl (fun ls hl => ?_)
  refine lv_iload_n hx hb dJx4a65c_fastRemove_b59b0_18 rfl (lv_at hl 3 rfl) ?_
  refine lv_icmp_le (tgt := 34) hx hb dJx4a65c_fastRemove_b59b0_19 (by decide) (fun c1 => ?_) (fun c1 => ?_)
  · have ei : n - 1 - i = 0 := by have := (nI_leI (by omega) (by omega)).mp c1; omega
    refine lt_frem X hw1 hne FG.a (FG.r (by omega)) hS (by omega) (by omega) (lv_sub hl [1, 2, 3, 0] rfl) (fun H2 locs2 hw2 hS => ?_)
    exact W.vret hx hb hr (fun t ht hW => ⟨⟨(), rfl, trivial, m0 + 1, by subst ht; rw [ei, cpy_0]; exact hw2⟩, hS.F ht⟩) hS.2.2 dJx4a65c_fastRemove_b59b0_43
  · have hlt : i < n - 1 := by
      rcases Nat.lt_or_ge i (n - 1) with h | h
      · exact h
      · exact absurd (nI_le h (by omega)) c1
    refine lv_aload_n hx hb dJx4a65c_fastRemove_b59b0_22 rfl (lv_at hl 2 rfl) ?_
    refine lv_iload_n hx hb dJx4a65c_fastRemove_b59b0_23 rfl (lv_at hl 3 rfl) ?_
    refine lv_iconst (v := 1) hx hb dJx4a65c_fastRemove_b59b0_24 (by decide) ?_
    refine lv_iadd hx hb dJx4a65c_fastRemove_b59b0_25 ?_
    rw [nI_1]
    refine lv_aload_n hx hb dJx4a65c_fastRemove_b59b0_26 rfl (lv_at hl 2 rfl) ?_
    refine lv_iload_n hx hb dJx4a65c_fastRemove_b59b0_27 rfl (lv_at hl 3 rfl) ?_
    refine lv_iload_n hx hb dJx4a65c_fastRemove_b59b0_28 rfl (lv_at hl 0 rfl) ?_
    refine lv_iload_n hx hb dJx4a65c_fastRemove_b59b0_29 rfl (lv_at hl 3 rfl) ?_
    refine lv_isub hx hb dJx4a65c_fastRemove_b59b0_30 ?_
    rw [pk_sub (by omega)]
    have e1 : (nI i).toNatClampNeg = i := nI_clamp (by omega)
    have e2 : (nI (i + 1)).toNatClampNeg = i + 1 := nI_clamp (by omega)
    have e3 : (nI (n - 1 - i)).toNatClampNeg = n - 1 - i := nI_clamp (by omega)
    refine va_copyq (a0 := r) (a := r) (C := C) hx hb (hml.trans hl.1.symm) hown (hts _ la_m112) (hts _ la_nat) (hts _ la_sta) (hts _ la_isys) T.1.1 (two_P hw1.1 (hw1.2.2 (by omega))) (two_D FG.a (FG.r (by omega)) hne) hS 1 1 4 4 rfl rfl rfl rfl (nI_pos (by omega)) (nI_pos (by omega)) (nI_pos (by omega)) (by rw [e2, e3]; omega) (by rw [e1, e3]; omega) (fun i hi y hy => el_cell T hc (hel1 _ y hy)) (fun comp c0 => by
      obtain ⟨TT, N, hcl, hca⟩ := hc
      exact vb_asgC (T.1.2.2.2.2.2.1 _ hca rfl) comp c0) (Nat.le_of_ble_eq_true rfl) (Nat.le_of_ble_eq_true rfl) dJx4a65c_fastRemove_b59b0_31 (fun H2 locs2 hP2 hD2 hS => ?_)
    rw [e1, e2, e3] at hP2
    have hw2 : LW E a (m0 + 1) r (nI n) cap (va_cpy f f (i + 1) i (n - 1 - i)) H2 := ⟨hP2 0 _ rfl, lrAt.of (hP2 1 _ rfl)⟩
    refine lt_frem X hw2 hne FG.a (FG.r (by omega)) hS (by omega) (by omega) (lv_sub hl [1, 2, 3, 0] rfl) (fun H3 locs3 hw3 hS => ?_)
    exact W.vret hx hb hr (fun t ht hW => ⟨⟨(), rfl, trivial, m0 + 1, by subst ht; exact hw3⟩, hS.F ht⟩) hS.2.2 dJx4a65c_fastRemove_b59b0_43
set_option maxHeartbeats 4000000 in
set_option maxRecDepth 100000 in
/-- remove -/
theorem c_rem (l : Launch) (E : mEnv) (S : mStr) {sz a r cap : Nat} {m0 : Int32} {f : Nat → Option Nat} {C : String} {ci n i : Nat} (hc : elOK C ci) (hL : LH E a r cap f) (hn : n ≤ cap) (hi : i < n) {y : Nat} (hy : f i = some y) : Met l (qY qa_rem) (qWs qa_rem) (lR 2 0 0) (lP E S sz [.ref a, .int (nI i)] (fun H => LW E a m0 r (nI n) cap f H ∧ ELs E ci f H)) (va_Qr (fun _ : Unit => True) (fun _ ra t => ra = y ∧ ∃ m1, LW E a m1 r (nI (n - 1)) cap (va_up (va_cpy f f (i + 1) i (n - 1 - i)) (n - 1) none) t.heap) (FG a r cap sz)) 0 0 (FG a r cap sz) := by
  refine Met.ofW (cc := cJx4a65c_remove_915e3) (maxL := 4) (ret := (some (.object "java/lang/Object"))) (by decide) rfl ?_
  intro p e s m args below meth c s₁ B hml hv
  obtain ⟨rfl, T, hsz, hw, hel⟩ := hv
  subst hsz
  have hx := B.exec
  have hb := B.bytes
  have hr := B.returns
  have hts := fun w hw => atoms_spec (ws := qWs qa_rem) B.pre w (List.mem_cons_of_mem _ hw)
  have hown : s.vm.findClass RJx4a65c = some m.cls := findClass_of_methodNamed B.named
  have hlocks := B.notSynchronized
  have X : lC E S p s m c cJx4a65c_remove_915e3 4 _ RJx4a65c := ⟨⟨hx, hb, hml, hown, hts⟩, T⟩
  have hS : va_S (FG a r cap s.heap.size) s.heap s.heap [] := va_S.rf
  have hl := lv_entry ([.ref a, .int (nI i)]) (n := 4) (Nat.le_of_ble_eq_true rfl)
  rw [lg_entry_eq]
  generalize (lg_sl ([.ref a, .int (nI i)]) ++ List.replicate (4 - (lg_sl ([.ref a, .int (nI i)])).length) Slot.unset).toArray = ls at hl ⊢
  have hl : lv_has ls 4 [(0, .ref a), (1, .int (nI i))] := hl
  obtain ⟨hne, hlo, hz0, hz1, h64, hf, hner⟩ := id hL
  refine lv_iload_n hx hb dJx4a65c_remove_915e3_0 rfl (lv_at hl 1 rfl) ?_
  refine lv_aload_n hx hb dJx4a65c_remove_915e3_1 rfl (lv_at hl 0 rfl) ?_
  refine lw_gets X hw dJx4a65c_remove_915e3_2 ?_
  refine va_calli (lc_S (As := [.int (nI i), .int (nI n)]) (rest := []) X (methB_ok ma_ck) rfl la_m118 (c_ck l E S hi (by omega)) lP.blind (fun U hU hW => ⟨rfl, T.warm T.2 hU hW, by rw [hU], trivial⟩) rfl hl.1 rfl (Nat.le_of_ble_eq_true rfl) (Nat.le_of_ble_eq_true rfl) (Nat.le_of_ble_eq_true rfl) ⟨Nat.zero_le _, Nat.zero_le _⟩ dJx4a65c_remove_915e3_5) hS (fun q _ h => h.elim) (fun q h => h.elim) (fun r9 u t H1 locs1 ht hvm hp hB hz hk hS => ?_)
  have hw1 := hw.stay hk id id
  have hel1 : ELs E ci f H1 := fun i y hy => (hel i y hy).kept (hk y (hel i y hy).lt id)
  have hB1 := T.2.F hz hk
  refine lv_pop hx hb dJx4a65c_remove_915e3_8 rfl ?_
  refine lv_aload_n hx hb dJx4a65c_remove_915e3_9 rfl (lv_at hl 0 rfl) ?_
  refine lw_gete X hw1 dJx4a65c_remove_915e3_10 ?_
  refine lv_astore_n (lv' := [(2, .ref r), (0, .ref a), (1, .int (nI i))]) hx hb dJx4a65c_remove_915e3_13 rfl hl (by decide) rfl (fun ls hl => ?_)
  refine lv_aload_n hx hb dJx4a65c_remove_915e3_14 rfl (lv_at hl 0 rfl) ?_
  refine lv_iload_n hx hb dJx4a65c_remove_915e3_15 rfl (lv_at hl 2 rfl) ?_
  refine lw_ald hx hb T hw1.2 (vp_in_nI (by omega) (by omega)) (by rw [nI_clamp (by omega)]; exact hy) dJx4a65c_remove_915e3_16 ?_
  refine lv_astore_n (lv' := [(3, .ref y), (2, .ref r), (0, .ref a), (1, .int (nI i))]) hx hb dJx4a65c_remove_915e3_17 rfl hl (by decide) rfl (fun ls hl => ?_)
  refine lv_aload_n hx hb dJx4a65c_remove_915e3_18 rfl (lv_at hl 2 rfl) ?_
  refine lv_aload_n hx hb dJx4a65c_remove_915e3_19 rfl (lv_at hl 1 rfl) ?_
  refine lv_iload_n hx hb dJx4a65c_remove_915e3_20 rfl (lv_at hl 3 rfl) ?_
  refine va_callv (lc_V (As := [.ref r, .int (nI i)]) (rest := []) X (methB_ok ma_frem) rfl la_m144 (c_frem (m0 := m0) (sz := H1.size) l E S hc hL hn hi) lP.blind hw1.1 (fun U hU hW => ⟨rfl, T.warm hB1 hU hW, by rw [hU], by rw [hU]; exact ⟨hw1, hel1⟩⟩) rfl hl.1 rfl (Nat.le_of_ble_eq_true rfl) (Nat.le_of_ble_eq_true rfl) (Nat.le_of_ble_eq_true rfl) ⟨Nat.zero_le _, Nat.zero_le _⟩ dJx4a65c_remove_915e3_21) hS (fun q _ h => FG.ge hz q h) (fun q h => FG.ge hz q h) (fun u t H2 locs2 ht hvm hp hB hz2 hk2 hS => ?_)
  rw [ht] at hB
  refine lv_aload_n hx hb dJx4a65c_remove_915e3_24 rfl (lv_at hl 0 rfl) ?_
  refine W.widen (k := 0) (n := 0) (Nat.le_of_ble_eq_true rfl) (Nat.le_of_ble_eq_true rfl) ?_
  exact W.aret (v := .ref y) hx hb hr (Or.inl ⟨_, rfl⟩) (Or.inr ⟨y, rfl⟩) (fun t ht hW => ⟨⟨(), y, rfl, trivial, rfl, by subst ht; exact hB⟩, hS.F ht⟩) hS.2.2 dJx4a65c_remove_915e3_25
set_option maxHeartbeats 4000000 in
set_option maxRecDepth 100000 in
/-- clear -/
theorem c_clr (l : Launch) (E : mEnv) (S : mStr) {sz a r cap : Nat} {m0 : Int32} {f : Nat → Option Nat} {n : Nat} (hL : LH E a r cap f) (hn : n ≤ cap) : Met l (qY qa_clr) (qWs qa_clr) (lR 0 0 0) (lP E S sz [.ref a] (fun H => LW E a m0 r (nI n) cap f H)) (va_Qv (fun _ : Unit => True) (fun _ t => ∃ m1, LW E a m1 r (nI 0) cap (fun k => if k < n then none else f k) t.heap) (FG a r cap sz)) 0 0 (FG a r cap sz) := by
  refine Met.ofW (cc := cJx4a65c_clear_da8c8) (maxL := 4) (ret := none) (by decide) rfl ?_
  intro p e s m args below meth c s₁ B hml hv
  obtain ⟨rfl, T, hsz, hw⟩ := hv
  subst hsz
  have hx := B.exec
  have hb := B.bytes
  have hr := B.returns
  have hts := fun w hw => atoms_spec (ws := qWs qa_clr) B.pre w (List.mem_cons_of_mem _ hw)
  have hown : s.vm.findClass RJx4a65c = some m.cls := findClass_of_methodNamed B.named
  have hlocks := B.notSynchronized
  have X : lC E S p s m c cJx4a65c_clear_da8c8 4 _ RJx4a65c := ⟨⟨hx, hb, hml, hown, hts⟩, T⟩
  have hS : va_S (FG a r cap s.heap.size) s.heap s.heap [] := va_S.rf
  have hl := lv_entry ([.ref a]) (n := 4) (Nat.le_of_ble_eq_true rfl)
  rw [lg_entry_eq]
  generalize (lg_sl ([.ref a]) ++ List.replicate (4 - (lg_sl ([.ref a])).length) Slot.unset).toArray = ls at hl ⊢
  have hl : lv_has ls 4 [(0, .ref a)] := hl
  obtain ⟨hne, hlo, hz0, hz1, h64, hf, hner⟩ := id hL
  refine lv_aload_n hx hb dJx4a65c_clear_da8c8_0 rfl (lv_at hl 0 rfl) ?_
  refine lv_dup hx hb dJx4a65c_clear_da8c8_1 rfl ?_
  refine lw_getm X hw dJx4a65c_clear_da8c8_2 ?_
  refine lv_iconst (v := 1) hx hb dJx4a65c_clear_da8c8_5 (by decide) ?_
  refine lv_iadd hx hb dJx4a65c_clear_da8c8_6 ?_
  refine lw_putm X hw hne FG.a hS dJx4a65c_clear_da8c8_7 (fun H1 locs1 hw1 z1 oq1 hS => ?_)
  refine lv_aload_n hx hb dJx4a65c_clear_da8c8_10 rfl (lv_at hl 0 rfl) ?_
  refine lw_gete X hw1 dJx4a65c_clear_da8c8_11 ?_
  refine lv_astore_n (lv' := [(1, .ref r), (0, .ref a)]) hx hb dJx4a65c_clear_da8c8_14 rfl hl (by decide) rfl (fun ls hl => ?_)
  refine lv_aload_n hx hb dJx4a65c_clear_da8c8_15 rfl (lv_at hl 1 rfl) ?_
  refine lw_gets X hw1 dJx4a65c_clear_da8c8_16 ?_
  refine lv_istore_n (lv' := [(2, .int (nI n)), (1, .ref r), (0, .ref a)]) hx hb dJx4a65c_clear_da8c8_19 rfl hl (by decide) rfl (fun ls hl => ?_)
  refine lv_aload_n hx hb dJx4a65c_clear_da8c8_20 rfl (lv_at hl 2 rfl) ?_
  refine lv_iconst (v := nI 0) hx hb dJx4a65c_clear_da8c8_21 (by decide) ?_
  refine lv_dup_x1 hx hb dJx4a65c_clear_da8c8_22 rfl rfl ?_
  refine lw_puts X hw1 hne FG.a hS dJx4a65c_clear_da8c8_23 (fun H2 locs2 hw2 z2 oq2 hS => ?_)
  refine lv_istore_n (lv' := [(3, .int (nI 0)), (2, .int (nI n)), (1, .ref r), (0, .ref a)]) hx hb dJx4a65c_clear_da8c8_26 rfl hl (by decide) rfl (fun ls hl => ?_)
  refine lt_clr (n := n) (f := f) X hne FG.a (fun h => FG.r h) hn (by omega) (fun H3 locs3 ls hw3 hS => ?_) n 0 (by omega) H2 locs2 ls hw2 hS (lv_sub hl [3, 2, 1, 0] rfl)
  exact W.vret hx hb hr (fun t ht hW => ⟨⟨(), rfl, trivial, m0 + 1, by subst ht; exact hw3⟩, hS.F ht⟩) hS.2.2 dJx4a65c_clear_da8c8_42
