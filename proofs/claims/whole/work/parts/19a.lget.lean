/-! MEMBERS OF ArrayList: size, get and what they call -/
theorem lT.warm {E : mEnv} {S : mStr} {s U : State} {H : Heap} (T : lT E S s) (hB : mBase E H) (hU : U.heap = H) (hW : s.WarmedH U.vm) : lT E S U := ⟨T.1.warm hW, by rw [hU]; exact hB⟩
theorem nI_top {n : Nat} (h : n < 2 ^ 31) : ¬ nI n < 0 := nI_pos h
theorem mBase.F {E : mEnv} {H H1 : Heap} (h : mBase E H) (hz : H.size ≤ H1.size) (hk : ∀ q : Nat, q < H.size → ¬ (fun _ : Nat => False) q → H1[q]? = H[q]?) : mBase E H1 :=
  ⟨Nat.le_trans h.1 hz, fun q hq => (hk q (Nat.lt_of_lt_of_le hq h.1) id).trans (h.2 q hq)⟩
set_option maxHeartbeats 4000000 in
set_option maxRecDepth 100000 in
/-- Preconditions.checkIndex, within -/
theorem c_ck3 (l : Launch) (E : mEnv) (S : mStr) {sz i n : Nat} (h : i < n) (hn : n < 2 ^ 31) : Met l (qY qa_ck3) (qWs qa_ck3) (lR 0 0 0) (lP E S sz [.int (nI i), .int (nI n), .null] (fun H => True)) (va_Qi (fun r (_ : Unit) => r = nI i) (fun _ _ => True) (fun _ : Nat => False)) 0 0 (fun _ : Nat => False) := by
  refine Met.ofW (cc := cJ3_checkIndex_8e157) (maxL := 3) (ret := (some .int)) (by decide) rfl ?_
  intro p e s m args below meth c s₁ B hml hv
  obtain ⟨rfl, T, hsz, -⟩ := hv
  subst hsz
  have hx := B.exec
  have hb := B.bytes
  have hr := B.returns
  have hts := fun w hw => atoms_spec (ws := qWs qa_ck3) B.pre w (List.mem_cons_of_mem _ hw)
  have hown : s.vm.findClass RJ3 = some m.cls := findClass_of_methodNamed B.named
  have hlocks := B.notSynchronized
  have X : lC E S p s m c cJ3_checkIndex_8e157 3 _ RJ3 := ⟨⟨hx, hb, hml, hown, hts⟩, T⟩
  have hS : va_S (fun _ : Nat => False) s.heap s.heap [] := va_S.rf
  have hl := lv_entry ([.int (nI i), .int (nI n), .null]) (n := 3) (Nat.le_of_ble_eq_true rfl)
  rw [lg_entry_eq]
  generalize (lg_sl ([.int (nI i), .int (nI n), .null]) ++ List.replicate (3 - (lg_sl ([.int (nI i), .int (nI n), .null])).length) Slot.unset).toArray = ls at hl ⊢
  have hl : lv_has ls 3 [(0, .int (nI i)), (1, .int (nI n)), (2, .null)] := hl
  refine lv_iload_n hx hb dJ3_checkIndex_8e157_0 rfl (lv_at hl 0 rfl) ?_
  refine lv_if_lt (tgt := 9) hx hb dJ3_checkIndex_8e157_1 (by decide) (fun c1 => absurd c1 (nI_pos (by omega))) (fun c1 => ?_)
  refine lv_iload_n hx hb dJ3_checkIndex_8e157_4 rfl (lv_at hl 0 rfl) ?_
  refine lv_iload_n hx hb dJ3_checkIndex_8e157_5 rfl (lv_at hl 1 rfl) ?_
  refine lv_icmp_lt (tgt := 16) hx hb dJ3_checkIndex_8e157_6 (by decide) (fun c2 => ?_) (fun c2 => absurd (nI_lt h hn) c2)
  refine lv_iload_n hx hb dJ3_checkIndex_8e157_16 rfl (lv_at hl 0 rfl) ?_
  exact W.iret (v := nI i) hx hb hr (fun t ht hW => ⟨⟨nI i, (), rfl, rfl, trivial⟩, hS.F ht⟩) hS.2.2 dJ3_checkIndex_8e157_17
set_option maxHeartbeats 4000000 in
set_option maxRecDepth 100000 in
/-- Objects.checkIndex, within -/
theorem c_ck (l : Launch) (E : mEnv) (S : mStr) {sz i n : Nat} (h : i < n) (hn : n < 2 ^ 31) : Met l (qY qa_ck) (qWs qa_ck) (lR 1 0 0) (lP E S sz [.int (nI i), .int (nI n)] (fun H => True)) (va_Qi (fun r (_ : Unit) => r = nI i) (fun _ _ => True) (fun _ : Nat => False)) 0 0 (fun _ : Nat => False) := by
  refine Met.ofW (cc := cJ15_checkIndex_7cf53) (maxL := 2) (ret := (some .int)) (by decide) rfl ?_
  intro p e s m args below meth c s₁ B hml hv
  obtain ⟨rfl, T, hsz, -⟩ := hv
  subst hsz
  have hx := B.exec
  have hb := B.bytes
  have hr := B.returns
  have hts := fun w hw => atoms_spec (ws := qWs qa_ck) B.pre w (List.mem_cons_of_mem _ hw)
  have hown : s.vm.findClass RJ15 = some m.cls := findClass_of_methodNamed B.named
  have hlocks := B.notSynchronized
  have X : lC E S p s m c cJ15_checkIndex_7cf53 2 _ RJ15 := ⟨⟨hx, hb, hml, hown, hts⟩, T⟩
  have hS : va_S (fun _ : Nat => False) s.heap s.heap [] := va_S.rf
  have hl := lv_entry ([.int (nI i), .int (nI n)]) (n := 2) (Nat.le_of_ble_eq_true rfl)
  rw [lg_entry_eq]
  generalize (lg_sl ([.int (nI i), .int (nI n)]) ++ List.replicate (2 - (lg_sl ([.int (nI i), .int (nI n)])).length) Slot.unset).toArray = ls at hl ⊢
  have hl : lv_has ls 2 [(0, .int (nI i)), (1, .int (nI n))] := hl
  refine lv_iload_n hx hb dJ15_checkIndex_7cf53_0 rfl (lv_at hl 0 rfl) ?_
  refine lv_iload_n hx hb dJ15_checkIndex_7cf53_1 rfl (lv_at hl 1 rfl) ?_
  refine lv_null hx hb dJ15_checkIndex_7cf53_2 ?_
  refine va_calli (lc_S (As := [.int (nI i), .int (nI n), .null]) (rest := []) X (methB_ok ma_ck3) rfl la_m105 (c_ck3 l E S h hn) lP.blind (fun U hU hW => ⟨rfl, T.warm T.2 hU hW, by rw [hU], trivial⟩) rfl hl.1 rfl (Nat.le_of_ble_eq_true rfl) (Nat.le_of_ble_eq_true rfl) (Nat.le_of_ble_eq_true rfl) ⟨Nat.le_of_ble_eq_true rfl, Nat.le_of_ble_eq_true rfl⟩ dJ15_checkIndex_7cf53_3) hS (fun q _ h => h.elim) (fun q h => h.elim) (fun r u t H1 locs1 ht hvm hp hB hz hk hS => ?_)
  subst hp
  refine W.widen (k := 0) (n := 0) (Nat.le_of_ble_eq_true rfl) (Nat.le_of_ble_eq_true rfl) ?_
  exact W.iret (v := nI i) hx hb hr (fun t ht hW => ⟨⟨nI i, (), rfl, rfl, trivial⟩, hS.F ht⟩) hS.2.2 dJ15_checkIndex_7cf53_6
set_option maxHeartbeats 4000000 in
set_option maxRecDepth 100000 in
/-- size -/
theorem c_size (l : Launch) (E : mEnv) (S : mStr) {sz a r cap : Nat} {m0 n0 : Int32} {f : Nat → Option Nat} : Met l (qY qa_size) (qWs qa_size) (lR 0 0 0) (lP E S sz [.ref a] (fun H => LW E a m0 r n0 cap f H)) (va_Qi (fun r (_ : Unit) => r = n0) (fun _ _ => True) (fun _ : Nat => False)) 0 0 (fun _ : Nat => False) := by
  refine Met.ofW (cc := cJx4a65c_size_8abf5) (maxL := 1) (ret := (some .int)) (by decide) rfl ?_
  intro p e s m args below meth c s₁ B hml hv
  obtain ⟨rfl, T, hsz, hw⟩ := hv
  subst hsz
  have hx := B.exec
  have hb := B.bytes
  have hr := B.returns
  have hts := fun w hw => atoms_spec (ws := qWs qa_size) B.pre w (List.mem_cons_of_mem _ hw)
  have hown : s.vm.findClass RJx4a65c = some m.cls := findClass_of_methodNamed B.named
  have hlocks := B.notSynchronized
  have X : lC E S p s m c cJx4a65c_size_8abf5 1 _ RJx4a65c := ⟨⟨hx, hb, hml, hown, hts⟩, T⟩
  have hS : va_S (fun _ : Nat => False) s.heap s.heap [] := va_S.rf
  have hl := lv_entry ([.ref a]) (n := 1) (Nat.le_of_ble_eq_true rfl)
  rw [lg_entry_eq]
  generalize (lg_sl ([.ref a]) ++ List.replicate (1 - (lg_sl ([.ref a])).length) Slot.unset).toArray = ls at hl ⊢
  have hl : lv_has ls 1 [(0, .ref a)] := hl
  refine lv_aload_n hx hb dJx4a65c_size_8abf5_0 rfl (lv_at hl 0 rfl) ?_
  refine lw_gets X hw dJx4a65c_size_8abf5_1 ?_
  exact W.iret (v := n0) hx hb hr (fun t ht hW => ⟨⟨n0, (), rfl, rfl, trivial⟩, hS.F ht⟩) hS.2.2 dJx4a65c_size_8abf5_4
set_option maxHeartbeats 4000000 in
set_option maxRecDepth 100000 in
/-- elementData -/
theorem c_eld (l : Launch) (E : mEnv) (S : mStr) {sz a r cap : Nat} {m0 n0 : Int32} {f : Nat → Option Nat} {i y : Nat} (hi : i < cap) (hc : cap < 2 ^ 31) (hy : f i = some y) : Met l (qY qa_eld) (qWs qa_eld) (lR 0 0 0) (lP E S sz [.ref a, .int (nI i)] (fun H => LW E a m0 r n0 cap f H)) (va_Qr (fun (_ : Unit) => True) (fun _ ra _ => ra = y) (fun _ : Nat => False)) 0 0 (fun _ : Nat => False) := by
  refine Met.ofW (cc := cJx4a65c_elementData_915e3) (maxL := 2) (ret := (some (.object "java/lang/Object"))) (by decide) rfl ?_
  intro p e s m args below meth c s₁ B hml hv
  obtain ⟨rfl, T, hsz, hw⟩ := hv
  subst hsz
  have hx := B.exec
  have hb := B.bytes
  have hr := B.returns
  have hts := fun w hw => atoms_spec (ws := qWs qa_eld) B.pre w (List.mem_cons_of_mem _ hw)
  have hown : s.vm.findClass RJx4a65c = some m.cls := findClass_of_methodNamed B.named
  have hlocks := B.notSynchronized
  have X : lC E S p s m c cJx4a65c_elementData_915e3 2 _ RJx4a65c := ⟨⟨hx, hb, hml, hown, hts⟩, T⟩
  have hS : va_S (fun _ : Nat => False) s.heap s.heap [] := va_S.rf
  have hl := lv_entry ([.ref a, .int (nI i)]) (n := 2) (Nat.le_of_ble_eq_true rfl)
  rw [lg_entry_eq]
  generalize (lg_sl ([.ref a, .int (nI i)]) ++ List.replicate (2 - (lg_sl ([.ref a, .int (nI i)])).length) Slot.unset).toArray = ls at hl ⊢
  have hl : lv_has ls 2 [(0, .ref a), (1, .int (nI i))] := hl
  refine lv_aload_n hx hb dJx4a65c_elementData_915e3_0 rfl (lv_at hl 0 rfl) ?_
  refine lw_gete X hw dJx4a65c_elementData_915e3_1 ?_
  refine lv_iload_n hx hb dJx4a65c_elementData_915e3_4 rfl (lv_at hl 1 rfl) ?_
  refine lw_ald hx hb T hw.2 (vp_in_nI hi hc) (by rw [nI_clamp (by omega)]; exact hy) dJx4a65c_elementData_915e3_5 ?_
  exact W.aret (v := .ref y) hx hb hr (Or.inl ⟨_, rfl⟩) (Or.inr ⟨y, rfl⟩) (fun t ht hW => ⟨⟨(), y, rfl, trivial, rfl⟩, hS.F ht⟩) hS.2.2 dJx4a65c_elementData_915e3_6
set_option maxHeartbeats 4000000 in
set_option maxRecDepth 100000 in
/-- get, within -/
theorem c_get (l : Launch) (E : mEnv) (S : mStr) {sz a r cap : Nat} {m0 : Int32} {f : Nat → Option Nat} {n i y : Nat} (hin : i < n) (hnc : n ≤ cap) (hc : cap < 2 ^ 31) (hy : f i = some y) : Met l (qY qa_get) (qWs qa_get) (lR 2 0 0) (lP E S sz [.ref a, .int (nI i)] (fun H => LW E a m0 r (nI n) cap f H)) (va_Qr (fun (_ : Unit) => True) (fun _ ra _ => ra = y) (fun _ : Nat => False)) 0 0 (fun _ : Nat => False) := by
  refine Met.ofW (cc := cJx4a65c_get_915e3) (maxL := 2) (ret := (some (.object "java/lang/Object"))) (by decide) rfl ?_
  intro p e s m args below meth c s₁ B hml hv
  obtain ⟨rfl, T, hsz, hw⟩ := hv
  subst hsz
  have hx := B.exec
  have hb := B.bytes
  have hr := B.returns
  have hts := fun w hw => atoms_spec (ws := qWs qa_get) B.pre w (List.mem_cons_of_mem _ hw)
  have hown : s.vm.findClass RJx4a65c = some m.cls := findClass_of_methodNamed B.named
  have hlocks := B.notSynchronized
  have X : lC E S p s m c cJx4a65c_get_915e3 2 _ RJx4a65c := ⟨⟨hx, hb, hml, hown, hts⟩, T⟩
  have hS : va_S (fun _ : Nat => False) s.heap s.heap [] := va_S.rf
  have hl := lv_entry ([.ref a, .int (nI i)]) (n := 2) (Nat.le_of_ble_eq_true rfl)
  rw [lg_entry_eq]
  generalize (lg_sl ([.ref a, .int (nI i)]) ++ List.replicate (2 - (lg_sl ([.ref a, .int (nI i)])).length) Slot.unset).toArray = ls at hl ⊢
  have hl : lv_has ls 2 [(0, .ref a), (1, .int (nI i))] := hl
  refine lv_iload_n hx hb dJx4a65c_get_915e3_0 rfl (lv_at hl 1 rfl) ?_
  refine lv_aload_n hx hb dJx4a65c_get_915e3_1 rfl (lv_at hl 0 rfl) ?_
  refine lw_gets X hw dJx4a65c_get_915e3_2 ?_
  refine va_calli (lc_S (As := [.int (nI i), .int (nI n)]) (rest := []) X (methB_ok ma_ck) rfl la_m118 (c_ck l E S hin (by omega)) lP.blind (fun U hU hW => ⟨rfl, T.warm T.2 hU hW, by rw [hU], trivial⟩) rfl hl.1 rfl (Nat.le_of_ble_eq_true rfl) (Nat.le_of_ble_eq_true rfl) (Nat.le_of_ble_eq_true rfl) ⟨Nat.le_of_ble_eq_true rfl, Nat.le_of_ble_eq_true rfl⟩ dJx4a65c_get_915e3_5) hS (fun q _ h => h.elim) (fun q h => h.elim) (fun r9 u t H1 locs1 ht hvm hp hB hz hk hS => ?_)
  have hw1 := hw.stay hk id id
  have hB1 := T.2.F hz hk
  refine lv_pop hx hb dJx4a65c_get_915e3_8 rfl ?_
  refine lv_aload_n hx hb dJx4a65c_get_915e3_9 rfl (lv_at hl 0 rfl) ?_
  refine lv_iload_n hx hb dJx4a65c_get_915e3_10 rfl (lv_at hl 1 rfl) ?_
  refine va_callr (lc_V (As := [.int (nI i)]) (rest := []) X (methB_ok ma_eld) rfl la_m123 (c_eld l E S (m0 := m0) (n0 := nI n) (sz := H1.size) (Nat.lt_of_lt_of_le hin hnc) hc hy) lP.blind hw1.1 (fun U hU hW => ⟨rfl, T.warm hB1 hU hW, by rw [hU], by rw [hU]; exact hw1⟩) rfl hl.1 rfl (Nat.le_of_ble_eq_true rfl) (Nat.le_of_ble_eq_true rfl) (Nat.le_of_ble_eq_true rfl) ⟨Nat.le_of_ble_eq_true rfl, Nat.le_of_ble_eq_true rfl⟩ dJx4a65c_get_915e3_11) hS (fun q _ h => h.elim) (fun q h => h.elim) (fun u ra t H2 locs2 ht2 hvm2 hp2 hra hz2 hk2 hS => ?_)
  subst hra
  refine W.widen (k := 0) (n := 0) (Nat.le_of_ble_eq_true rfl) (Nat.le_of_ble_eq_true rfl) ?_
  exact W.aret (v := .ref ra) hx hb hr (Or.inl ⟨_, rfl⟩) (Or.inr ⟨ra, rfl⟩) (fun t ht hW => ⟨⟨(), ra, rfl, trivial, rfl⟩, hS.F ht⟩) hS.2.2 dJx4a65c_get_915e3_14
set_option maxHeartbeats 4000000 in
set_option maxRecDepth 100000 in
/-- rangeCheckForAdd, within -/
theorem c_rng (l : Launch) (E : mEnv) (S : mStr) {sz a r cap : Nat} {m0 : Int32} {f : Nat → Option Nat} {n i : Nat} (hin : i ≤ n) (hc : n < 2 ^ 31) : Met l (qY qa_rng) (qWs qa_rng) (lR 0 0 0) (lP E S sz [.ref a, .int (nI i)] (fun H => LW E a m0 r (nI n) cap f H)) (va_Qv (fun (_ : Unit) => True) (fun _ _ => True) (fun _ : Nat => False)) 0 0 (fun _ : Nat => False) := by
  refine Met.ofW (cc := cJx4a65c_rangeCheckForAdd_d00df) (maxL := 2) (ret := none) (by decide) rfl ?_
  intro p e s m args below meth c s₁ B hml hv
  obtain ⟨rfl, T, hsz, hw⟩ := hv
  subst hsz
  have hx := B.exec
  have hb := B.bytes
  have hr := B.returns
  have hts := fun w hw => atoms_spec (ws := qWs qa_rng) B.pre w (List.mem_cons_of_mem _ hw)
  have hown : s.vm.findClass RJx4a65c = some m.cls := findClass_of_methodNamed B.named
  have hlocks := B.notSynchronized
  have X : lC E S p s m c cJx4a65c_rangeCheckForAdd_d00df 2 _ RJx4a65c := ⟨⟨hx, hb, hml, hown, hts⟩, T⟩
  have hS : va_S (fun _ : Nat => False) s.heap s.heap [] := va_S.rf
  have hl := lv_entry ([.ref a, .int (nI i)]) (n := 2) (Nat.le_of_ble_eq_true rfl)
  rw [lg_entry_eq]
  generalize (lg_sl ([.ref a, .int (nI i)]) ++ List.replicate (2 - (lg_sl ([.ref a, .int (nI i)])).length) Slot.unset).toArray = ls at hl ⊢
  have hl : lv_has ls 2 [(0, .ref a), (1, .int (nI i))] := hl
  refine lv_iload_n hx hb dJx4a65c_rangeCheckForAdd_d00df_0 rfl (lv_at hl 1 rfl) ?_
  refine lv_aload_n hx hb dJx4a65c_rangeCheckForAdd_d00df_1 rfl (lv_at hl 0 rfl) ?_
  refine lw_gets X hw dJx4a65c_rangeCheckForAdd_d00df_2 ?_
  refine lv_icmp_gt (tgt := 12) hx hb dJx4a65c_rangeCheckForAdd_d00df_5 (by decide) (fun c1 => absurd c1 (nI_nlt hin (by omega))) (fun c1 => ?_)
  refine lv_iload_n hx hb dJx4a65c_rangeCheckForAdd_d00df_8 rfl (lv_at hl 1 rfl) ?_
  refine lv_if_ge (tgt := 25) hx hb dJx4a65c_rangeCheckForAdd_d00df_9 (by decide) (fun c2 => ?_) (fun c2 => absurd (nI_pos' (by omega)) c2)
  exact W.vret hx hb hr (fun t ht hW => ⟨⟨(), rfl, trivial, trivial⟩, hS.F ht⟩) hS.2.2 dJx4a65c_rangeCheckForAdd_d00df_25
