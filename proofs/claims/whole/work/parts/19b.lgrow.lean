/-! MEMBERS OF ArrayList: grow and what it calls -/
/-- how long the row becomes when it grows by one -/
def ncap (cap : Nat) : Nat := if cap = 0 then 10 else cap + max 1 (cap / 2)
theorem ncap_gt {cap : Nat} : cap < ncap cap := by
  unfold ncap
  split
  · omega
  · have := Nat.le_max_left 1 (cap / 2); omega
theorem ncap_le {cap : Nat} (h : cap ≤ 64) : ncap cap ≤ 96 := by
  unfold ncap
  split
  · omega
  · have : max 1 (cap / 2) ≤ 32 := Nat.max_le.mpr ⟨by omega, by omega⟩
    omega
def mCls : String := "[Ljava/lang/Object;"
set_option maxHeartbeats 4000000 in
set_option maxRecDepth 100000 in
/-- newLength, by one -/
theorem c_nlen (l : Launch) (E : mEnv) (S : mStr) {sz cap : Nat} (h0 : ¬ cap = 0) (h64 : cap ≤ 64) : Met l (qY qa_nlen) (qWs qa_nlen) (lR 1 0 0) (lP E S sz [.int (nI cap), .int (nI 1), .int (nI (cap / 2))] (fun H => True)) (va_Qi (fun r (_ : Unit) => r = nI (ncap cap)) (fun _ _ => True) (fun _ : Nat => False)) 0 0 (fun _ : Nat => False) := by
  refine Met.ofW (cc := cJ8_newLength_cabcc) (maxL := 4) (ret := (some .int)) (by decide) rfl ?_
  intro p e s m args below meth c s₁ B hml hv
  obtain ⟨rfl, T, hsz, -⟩ := hv
  subst hsz
  have hx := B.exec
  have hb := B.bytes
  have hr := B.returns
  have hts := fun w hw => atoms_spec (ws := qWs qa_nlen) B.pre w (List.mem_cons_of_mem _ hw)
  have hown : s.vm.findClass RJ8 = some m.cls := findClass_of_methodNamed B.named
  have hlocks := B.notSynchronized
  have X : lC E S p s m c cJ8_newLength_cabcc 4 _ RJ8 := ⟨⟨hx, hb, hml, hown, hts⟩, T⟩
  have hS : va_S (fun _ : Nat => False) s.heap s.heap [] := va_S.rf
  have hl := lv_entry ([.int (nI cap), .int (nI 1), .int (nI (cap / 2))]) (n := 4) (Nat.le_of_ble_eq_true rfl)
  rw [lg_entry_eq]
  generalize (lg_sl ([.int (nI cap), .int (nI 1), .int (nI (cap / 2))]) ++ List.replicate (4 - (lg_sl ([.int (nI cap), .int (nI 1), .int (nI (cap / 2))])).length) Slot.unset).toArray = ls at hl ⊢
  have hl : lv_has ls 4 [(0, .int (nI cap)), (1, .int (nI 1)), (2, .int (nI (cap / 2)))] := hl
  refine lv_iload_n hx hb dJ8_newLength_cabcc_0 rfl (lv_at hl 0 rfl) ?_
  refine lv_iload_n hx hb dJ8_newLength_cabcc_1 rfl (lv_at hl 1 rfl) ?_
  refine lv_iload_n hx hb dJ8_newLength_cabcc_2 rfl (lv_at hl 2 rfl) ?_
  refine va_mmax hx hb (hml.trans hl.1.symm) hown (hts _ la_m194) (hts _ la_mxs) (hts _ la_imath) (hts _ la_mxc) (Nat.le_of_ble_eq_true rfl) (Nat.le_of_ble_eq_true rfl) (Nat.le_of_ble_eq_true rfl) (Nat.le_of_ble_eq_true rfl) dJ8_newLength_cabcc_3 ?_
  have e1 : (if nI 1 < nI (cap / 2) then nI (cap / 2) else nI 1) = nI (max 1 (cap / 2)) := by
    by_cases q : 1 < cap / 2
    · rw [if_pos (nI_lt q (by omega)), Nat.max_eq_right (by omega)]
    · rw [if_neg (nI_nlt (by omega) (by omega)), Nat.max_eq_left (by omega)]
  rw [e1]
  refine lv_iadd hx hb dJ8_newLength_cabcc_6 ?_
  rw [nI_add]
  have hnc : ncap cap = cap + max 1 (cap / 2) := if_neg h0
  rw [← hnc]
  have hb2 := ncap_le h64
  refine lv_istore_n (lv' := [(3, .int (nI (ncap cap))), (0, .int (nI cap)), (1, .int (nI 1)), (2, .int (nI (cap / 2)))]) hx hb dJ8_newLength_cabcc_7 rfl hl (by decide) rfl (fun ls hl => ?_)
  refine lv_iconst (v := nI 0) hx hb dJ8_newLength_cabcc_8 (by decide) ?_
  refine lv_iload_n hx hb dJ8_newLength_cabcc_9 rfl (lv_at hl 0 rfl) ?_
  refine lv_icmp_ge (tgt := 21) hx hb dJ8_newLength_cabcc_10 (by decide) (fun c1 => absurd c1 (nI_ge (by have := @ncap_gt cap; omega) (by omega))) (fun c1 => ?_)
  refine lv_iload_n hx hb dJ8_newLength_cabcc_13 rfl (lv_at hl 0 rfl) ?_
  refine lv_ldc hx hb hown (hts _ la_n200) dJ8_newLength_cabcc_14 ?_
  refine lv_icmp_gt (tgt := 21) hx hb dJ8_newLength_cabcc_16 (by decide) (fun c1 => absurd c1 (by rw [show (2147483639 : Int32) = nI 2147483639 from rfl]; exact nI_nlt (by omega) (by decide))) (fun c1 => ?_)
  refine lv_iload_n hx hb dJ8_newLength_cabcc_19 rfl (lv_at hl 0 rfl) ?_
  exact W.iret (v := nI (ncap cap)) hx hb hr (fun t ht hW => ⟨⟨nI (ncap cap), (), rfl, rfl, trivial⟩, hS.F ht⟩) hS.2.2 dJ8_newLength_cabcc_20
def lPm (E : mEnv) (S : mStr) (sz mi : Nat) (av : List Value) (B : Heap → Prop) : Array Value → State → Prop := va_Pc av (fun U => (lT E S U ∧ va_Mi mCls mi U) ∧ U.heap.size = sz ∧ B U.heap)
theorem lPm.blind {E : mEnv} {S : mStr} {sz mi : Nat} {av : List Value} {B : Heap → Prop} : FrameBlind (lPm E S sz mi av B) := fun a U g mk h => ⟨h.1, ⟨h.2.1.1.call, va_Mi.moved (u := U) (U := U.calling g mk a) (Vm.Alike.refl U.vm) h.2.1.2⟩, h.2.2.1, h.2.2.2⟩
/-- what a row's elements are -/
def ELs (E : mEnv) (ci : Nat) (f : Nat → Option Nat) (H : Heap) : Prop := ∀ i y, f i = some y → EL E ci y H
theorem el_cell {E : mEnv} {S : mStr} {s : State} {H : Heap} {C : String} {ci y : Nat} (T : lT E S s) (hc : elOK C ci) (h : EL E ci y H) : ∃ cellV : Cell, H[y]? = some cellV ∧ cellV.vm.isStatics = false ∧ s.vm.findClass C = some cellV.cls := by
  obtain ⟨TT, N, hcl, -⟩ := hc
  obtain ⟨vs, hv⟩ := h
  exact va_recv T.1.1 (one_P hv) hcl (q0 := 0) rfl
theorem lrow_cls {E : mEnv} {S : mStr} {s : State} {cA : ClassId} (T : lT E S s) (h : va_RA s cA (.object "java/lang/Object")) : cA = eC E 4 := by
  have h1 := va_nmO h (rfl : "[" ++ (FieldType.object "java/lang/Object").toString = "[Ljava/lang/Object;")
  have h2 := va_nmO (T.1.1.2 4 _ rfl).2 (rfl : "[" ++ (FieldType.object "java/lang/Object").toString = "[Ljava/lang/Object;")
  exact Option.some.inj (h1.symm.trans h2)
theorem cpy_all {f : Nat → Option Nat} {n : Nat} (h : ∀ j, n ≤ j → f j = none) : va_cpy f (fun _ => none) 0 0 n = f := by
  funext j
  by_cases hj : j < n
  · rw [pk_cpy_in (Nat.zero_le _) (by omega)]
    congr 1
    omega
  · rw [pk_cpy_out (Or.inr (by omega)), h j (by omega)]
set_option maxHeartbeats 4000000 in
set_option maxRecDepth 100000 in
/-- copyOf, with the class of rows of objects -/
theorem c_cpy3 (l : Launch) (E : mEnv) (S : mStr) {sz r cap : Nat} {f : Nat → Option Nat} {C : String} {ci : Nat} (hc : elOK C ci) (h0 : ¬ cap = 0) (h64 : cap ≤ 64) (hf : ∀ j, cap ≤ j → f j = none) (hner : ∀ i y, f i = some y → y ≠ r) {mi : Nat} : Met l (qY qa_cpy3) (qWs qa_cpy3) (lR 1 1 (ncap cap)) (lPm E S sz mi [.ref r, .int (nI (ncap cap)), .ref mi] (fun H => va_at (eD E) vwCl (lrow E r cap f) H ∧ ELs E ci f H)) (va_Qr (fun (_ : Unit) => True) (fun _ ra t => sz ≤ ra ∧ va_at (eD E) vwCl (lrow E ra (ncap cap) f) t.heap ∧ va_at (eD E) vwCl (lrow E r cap f) t.heap) (fun q : Nat => q = r ∨ sz ≤ q)) 1 (ncap cap) (fun q : Nat => q = r ∨ sz ≤ q) := by
  refine Met.ofW (cc := cJ7_copyOf_6403c) (maxL := 4) (ret := (some (.array (.object "java/lang/Object")))) (by decide) rfl ?_
  intro p e s m args below meth c s₁ B hml hv
  obtain ⟨rfl, ⟨T, hmi⟩, hsz, hw, hel⟩ := hv
  subst hsz
  have hx := B.exec
  have hb := B.bytes
  have hr := B.returns
  have hts := fun w hw => atoms_spec (ws := qWs qa_cpy3) B.pre w (List.mem_cons_of_mem _ hw)
  have hown : s.vm.findClass RJ7 = some m.cls := findClass_of_methodNamed B.named
  have hlocks := B.notSynchronized
  have X : lC E S p s m c cJ7_copyOf_6403c 4 _ RJ7 := ⟨⟨hx, hb, hml, hown, hts⟩, T⟩
  have hS : va_S (fun q : Nat => q = r ∨ s.heap.size ≤ q) s.heap s.heap [] := va_S.rf
  have hl := lv_entry ([.ref r, .int (nI (ncap cap)), .ref mi]) (n := 4) (Nat.le_of_ble_eq_true rfl)
  rw [lg_entry_eq]
  generalize (lg_sl ([.ref r, .int (nI (ncap cap)), .ref mi]) ++ List.replicate (4 - (lg_sl ([.ref r, .int (nI (ncap cap)), .ref mi])).length) Slot.unset).toArray = ls at hl ⊢
  have hl : lv_has ls 4 [(0, .ref r), (1, .int (nI (ncap cap))), (2, .ref mi)] := hl
  have hb2 := ncap_le h64
  have hb3 := @ncap_gt cap
  refine lv_aload_n hx hb dJ7_copyOf_6403c_0 rfl (lv_at hl 2 rfl) ?_
  refine va_ldcM hx hb hown (hts _ la_k110) hmi dJ7_copyOf_6403c_1 ?_
  refine lv_acmp_ne (rx := some mi) (ry := some mi) (tgt := 13) hx hb dJ7_copyOf_6403c_3 (by decide) (fun c1 => absurd rfl c1) (fun c1 => ?_)
  refine lv_iload_n hx hb dJ7_copyOf_6403c_6 rfl (lv_at hl 1 rfl) ?_
  have hD0 : va_D (fun q : Nat => q = r ∨ s.heap.size ≤ q) [lrow E r cap f] := ⟨fun i j p q h1 h2 _ => by
    have a1 := (List.getElem?_eq_some_iff.mp h1).1
    have a2 := (List.getElem?_eq_some_iff.mp h2).1
    simp at a1 a2
    omega, fun k q h => by
    have a1 := (List.getElem?_eq_some_iff.mp h).1
    simp at a1
    subst a1
    cases h
    exact Or.inl rfl⟩
  refine va_newq (N' := ncap cap) hx hb hown (hts _ la_k2) T.1.2.2.2.2.2.2.2.2.2.2 T.1.1 (one_P hw) hD0 hS (fun q h => Or.inr h) (nI_pos (by omega)) (nI_clamp (by omega)) (by omega) (by show 0 + 1 ≤ 1; omega) (by show 0 + ncap cap ≤ ncap cap; omega) dJ7_copyOf_6403c_7 (fun qn cA H1 hK1 hP1 hD1 hS => ?_)
  have hcA : cA = eC E 4 := lrow_cls T (hK1.2 5 _ rfl).2
  subst hcA
  have hqs : s.heap.size ≤ qn := by
    rcases hD1.2 1 _ rfl with h | h
    · exact absurd (hD1.1 1 0 _ _ rfl rfl h) (by decide)
    · exact h
  have hel1 : ELs E ci f H1 := fun i y hy => (hel i y hy).kept (hS.2.1 y (hel i y hy).lt (fun z => by
    rcases z with z | z
    · exact hner i y hy z
    · exact absurd (hel i y hy).lt (by omega)))
  refine lv_goto (tgt := 24) hx hb dJ7_copyOf_6403c_10 (by decide) ?_
  refine lv_astore_n (lv' := [(3, .ref qn), (0, .ref r), (1, .int (nI (ncap cap))), (2, .ref mi)]) hx hb dJ7_copyOf_6403c_24 rfl hl (by decide) rfl (fun ls hl => ?_)
  refine lv_aload_n hx hb dJ7_copyOf_6403c_25 rfl (lv_at hl 1 rfl) ?_
  refine lv_iconst (v := nI 0) hx hb dJ7_copyOf_6403c_26 (by decide) ?_
  refine lv_aload_n hx hb dJ7_copyOf_6403c_27 rfl (lv_at hl 0 rfl) ?_
  refine lv_iconst (v := nI 0) hx hb dJ7_copyOf_6403c_28 (by decide) ?_
  refine lv_aload_n hx hb dJ7_copyOf_6403c_29 rfl (lv_at hl 1 rfl) ?_
  refine lw_alenV hx hb T (hP1 0 _ rfl) dJ7_copyOf_6403c_30 ?_
  refine lv_iload_n hx hb dJ7_copyOf_6403c_31 rfl (lv_at hl 2 rfl) ?_
  refine va_mmin hx hb (hml.trans hl.1.symm) hown (hts _ la_m304) (hts _ la_mns) (hts _ la_imath) (hts _ la_mnc) (Nat.le_of_ble_eq_true rfl) (Nat.le_of_ble_eq_true rfl) (by show 0 + 1 ≤ 1; omega) (by show 0 + ncap cap ≤ ncap cap; omega) dJ7_copyOf_6403c_32 ?_
  have e1 : (if nI (ncap cap) < nI cap then nI (ncap cap) else nI cap) = nI cap := if_neg (nI_nlt (by omega) (by omega))
  rw [e1]
  have n0 : (nI 0).toNatClampNeg = 0 := by decide
  have nc : (nI cap).toNatClampNeg = cap := nI_clamp (by omega)
  refine va_copyq (a0 := r) (a := qn) (C := C) hx hb (hml.trans hl.1.symm) hown (hts _ la_m150) (hts _ la_nat) (hts _ la_sta) (hts _ la_isys) hK1 hP1 hD1 hS 0 1 4 4 rfl rfl rfl rfl (nI_pos (by omega)) (nI_pos (by omega)) (nI_pos (by omega)) (by rw [n0, nc]; omega) (by rw [n0, nc]; omega) (fun i hi y hy => el_cell T hc (hel1 _ y hy)) (fun comp c0 => by
    obtain ⟨TT, N, hcl, hca⟩ := hc
    exact vb_asgC (T.1.2.2.2.2.2.1 _ hca rfl) comp c0) (Nat.le_of_ble_eq_true rfl) (Nat.le_of_ble_eq_true rfl) dJ7_copyOf_6403c_35 (fun H2 locs2 hP2 hD2 hS => ?_)
  rw [n0, nc, cpy_all hf] at hP2
  refine lv_aload_n hx hb dJ7_copyOf_6403c_38 rfl (lv_at hl 0 rfl) ?_
  refine W.widen (k := 1) (n := ncap cap) (by omega) (by omega) ?_
  exact W.aret (v := .ref qn) hx hb hr (Or.inr ⟨_, rfl⟩) (Or.inr ⟨qn, rfl⟩) (fun t ht hW => ⟨⟨(), qn, rfl, trivial, hqs, by rw [ht]; exact hP2 1 _ rfl, by rw [ht]; exact hP2 0 _ rfl⟩, hS.F ht⟩) hS.2.2 dJ7_copyOf_6403c_39
set_option maxHeartbeats 4000000 in
set_option maxRecDepth 100000 in
/-- copyOf -/
theorem c_cpy (l : Launch) (E : mEnv) (S : mStr) {sz r cap : Nat} {f : Nat → Option Nat} {C : String} {ci : Nat} (hc : elOK C ci) (h0 : ¬ cap = 0) (h64 : cap ≤ 64) (hf : ∀ j, cap ≤ j → f j = none) (hner : ∀ i y, f i = some y → y ≠ r) : Met l (qY qa_cpy) (qWs qa_cpy) (lR 2 1 (ncap cap)) (lP E S sz [.ref r, .int (nI (ncap cap))] (fun H => va_at (eD E) vwCl (lrow E r cap f) H ∧ ELs E ci f H)) (va_Qr (fun (_ : Unit) => True) (fun _ ra t => sz ≤ ra ∧ va_at (eD E) vwCl (lrow E ra (ncap cap) f) t.heap ∧ va_at (eD E) vwCl (lrow E r cap f) t.heap) (fun q : Nat => q = r ∨ sz ≤ q)) 1 (ncap cap) (fun q : Nat => q = r ∨ sz ≤ q) := by
  refine Met.ofW (cc := cJ7_copyOf_1904c) (maxL := 2) (ret := (some (.array (.object "java/lang/Object")))) (by decide) rfl ?_
  intro p e s m args below meth c s₁ B hml hv
  obtain ⟨rfl, T, hsz, hw, hel⟩ := hv
  subst hsz
  have hx := B.exec
  have hb := B.bytes
  have hr := B.returns
  have hts := fun w hw => atoms_spec (ws := qWs qa_cpy) B.pre w (List.mem_cons_of_mem _ hw)
  have hown : s.vm.findClass RJ7 = some m.cls := findClass_of_methodNamed B.named
  have hlocks := B.notSynchronized
  have X : lC E S p s m c cJ7_copyOf_1904c 2 _ RJ7 := ⟨⟨hx, hb, hml, hown, hts⟩, T⟩
  have hS : va_S (fun q : Nat => q = r ∨ s.heap.size ≤ q) s.heap s.heap [] := va_S.rf
  have hl := lv_entry ([.ref r, .int (nI (ncap cap))]) (n := 2) (Nat.le_of_ble_eq_true rfl)
  rw [lg_entry_eq]
  generalize (lg_sl ([.ref r, .int (nI (ncap cap))]) ++ List.replicate (2 - (lg_sl ([.ref r, .int (nI (ncap cap))])).length) Slot.unset).toArray = ls at hl ⊢
  have hl : lv_has ls 2 [(0, .ref r), (1, .int (nI (ncap cap)))] := hl
  obtain ⟨mi, hmi⟩ := T.1.2.2.2.2.2.2.2.1
  refine lv_aload_n hx hb dJ7_copyOf_1904c_0 rfl (lv_at hl 0 rfl) ?_
  refine lv_iload_n hx hb dJ7_copyOf_1904c_1 rfl (lv_at hl 1 rfl) ?_
  refine lv_aload_n hx hb dJ7_copyOf_1904c_2 rfl (lv_at hl 0 rfl) ?_
  refine va_getC (C := "[Ljava/lang/Object;") hx hb (hml.trans hl.1.symm) hown (hts _ la_m86) (castW_use rfl (T.1.2.2.2.2.2.1 _ la_gdec rfl)) (hts _ la_gsel) (hts _ la_gins) (hts _ la_gnat) hmi ⟨_, hw, rfl, va_nmO (T.1.1.2 4 _ rfl).2 rfl⟩ (Nat.le_of_ble_eq_true rfl) (Nat.le_of_ble_eq_true rfl) dJ7_copyOf_1904c_3 ?_
  refine va_callr (lc_S (As := [.ref r, .int (nI (ncap cap)), .ref mi]) (rest := []) X (methB_ok ma_cpy3) rfl la_m300 (c_cpy3 (mi := mi) l E S hc h0 h64 hf hner) lPm.blind (fun U hU hW => ⟨rfl, ⟨T.warm T.2 hU hW, va_Mi.moved hW.alike hmi⟩, by rw [hU], by rw [hU]; exact ⟨hw, hel⟩⟩) rfl hl.1 rfl (Nat.le_of_ble_eq_true rfl) (Nat.le_of_ble_eq_true rfl) (Nat.le_of_ble_eq_true rfl) ⟨Nat.le_of_ble_eq_true rfl, by show 0 + ncap cap ≤ ncap cap; omega⟩ dJ7_copyOf_1904c_6) hS (fun q _ h => h) (fun q h => h) (fun u ra t H1 locs1 ht hvm hp hB hz hk hS => ?_)
  obtain ⟨z1, z2, z3⟩ := hB
  rw [ht] at z2 z3
  refine W.widen (k := 1) (n := ncap cap) (by omega) (by omega) ?_
  exact W.aret (v := .ref ra) hx hb hr (Or.inr ⟨_, rfl⟩) (Or.inr ⟨ra, rfl⟩) (fun t ht hW => ⟨⟨(), ra, rfl, trivial, z1, by rw [ht]; exact z2, by rw [ht]; exact z3⟩, hS.F ht⟩) hS.2.2 dJ7_copyOf_1904c_9
/-- what a list's two cells are to each other, and its elements to them -/
def LH (E : mEnv) (a r cap : Nat) (f : Nat → Option Nat) : Prop := a ≠ r ∧ eN E ≤ a ∧ (cap = 0 → r = eE E) ∧ (cap ≠ 0 → eN E ≤ r) ∧ cap ≤ 64 ∧ (∀ j, cap ≤ j → f j = none) ∧ ∀ i y, f i = some y → y ≠ r ∧ y ≠ a
/-- the cells that a member may change -/
def FG (a r cap sz : Nat) : Nat → Prop := fun q => q = a ∨ (q = r ∧ cap ≠ 0) ∨ sz ≤ q
theorem FG.a {a r cap sz : Nat} : FG a r cap sz a := Or.inl rfl
theorem FG.r {a r cap sz : Nat} (h : cap ≠ 0) : FG a r cap sz r := Or.inr (Or.inl ⟨rfl, h⟩)
theorem FG.n {a r cap sz q : Nat} (h : sz ≤ q) : FG a r cap sz q := Or.inr (Or.inr h)
theorem FG.lo {E : mEnv} {a r cap sz : Nat} {f : Nat → Option Nat} (h : LH E a r cap f) (hsz : eN E ≤ sz) : ∀ q, FG a r cap sz q → eN E ≤ q := by
  intro q hq
  rcases hq with rfl | ⟨rfl, h0⟩ | hq
  · exact h.2.1
  · exact h.2.2.2.1 h0
  · exact Nat.le_trans hsz hq
theorem one_D {A : Nat → Prop} {x : Nat × va_E} (h : A x.1) : va_D A [x] := ⟨fun i j p q h1 h2 _ => by
    have a1 := (List.getElem?_eq_some_iff.mp h1).1
    have a2 := (List.getElem?_eq_some_iff.mp h2).1
    simp at a1 a2
    omega, fun k q h9 => by
    have a1 := (List.getElem?_eq_some_iff.mp h9).1
    simp at a1
    subst a1
    cases h9
    exact h⟩
theorem el_stay {E : mEnv} {a r cap ci sz : Nat} {f : Nat → Option Nat} {H0 H : Heap} (hL : LH E a r cap f) (hel : ELs E ci f H0) (hsz : H0.size ≤ sz) (hk : ∀ q : Nat, q < H0.size → ¬ FG a r cap sz q → H[q]? = H0[q]?) : ELs E ci f H := fun i y hy => (hel i y hy).kept (hk y (hel i y hy).lt (fun z => by
    obtain ⟨n1, n2⟩ := hL.2.2.2.2.2.2 i y hy
    have := (hel i y hy).lt
    rcases z with z | ⟨z, -⟩ | z
    · exact n2 z
    · exact n1 z
    · omega))
set_option maxHeartbeats 4000000 in
set_option maxRecDepth 100000 in
/-- grow(int) -/
theorem c_growi (l : Launch) (E : mEnv) (S : mStr) {sz a r cap : Nat} {m0 n0 : Int32} {f : Nat → Option Nat} {C : String} {ci : Nat} (hc : elOK C ci) (hL : LH E a r cap f) : Met l (qY qa_growi) (qWs qa_growi) (lR 3 1 (ncap cap)) (lP E S sz [.ref a, .int (nI (cap + 1))] (fun H => LW E a m0 r n0 cap f H ∧ ELs E ci f H)) (va_Qr (fun (_ : Unit) => True) (fun _ ra t => sz ≤ ra ∧ LW E a m0 ra n0 (ncap cap) f t.heap) (FG a r cap sz)) 1 (ncap cap) (FG a r cap sz) := by
  refine Met.ofW (cc := cJx4a65c_grow_92f84) (maxL := 4) (ret := (some (.array (.object "java/lang/Object")))) (by decide) rfl ?_
  intro p e s m args below meth c s₁ B hml hv
  obtain ⟨rfl, T, hsz, hw, hel⟩ := hv
  subst hsz
  have hx := B.exec
  have hb := B.bytes
  have hr := B.returns
  have hts := fun w hw => atoms_spec (ws := qWs qa_growi) B.pre w (List.mem_cons_of_mem _ hw)
  have hown : s.vm.findClass RJx4a65c = some m.cls := findClass_of_methodNamed B.named
  have hlocks := B.notSynchronized
  have X : lC E S p s m c cJx4a65c_grow_92f84 4 _ RJx4a65c := ⟨⟨hx, hb, hml, hown, hts⟩, T⟩
  have hS : va_S (FG a r cap s.heap.size) s.heap s.heap [] := va_S.rf
  have hl := lv_entry ([.ref a, .int (nI (cap + 1))]) (n := 4) (Nat.le_of_ble_eq_true rfl)
  rw [lg_entry_eq]
  generalize (lg_sl ([.ref a, .int (nI (cap + 1))]) ++ List.replicate (4 - (lg_sl ([.ref a, .int (nI (cap + 1))])).length) Slot.unset).toArray = ls at hl ⊢
  have hl : lv_has ls 4 [(0, .ref a), (1, .int (nI (cap + 1)))] := hl
  obtain ⟨hne, hlo, hz0, hz1, h64, hf, hner⟩ := id hL
  have hb2 := ncap_le h64
  have hb3 := @ncap_gt cap
  refine lv_aload_n hx hb dJx4a65c_grow_92f84_0 rfl (lv_at hl 0 rfl) ?_
  refine lw_gete X hw dJx4a65c_grow_92f84_1 ?_
  refine lw_alen hx hb T hS (FG.lo hL T.2.1) hw.2 hz0 dJx4a65c_grow_92f84_4 ?_
  refine lv_istore_n (lv' := [(2, .int (nI cap)), (0, .ref a), (1, .int (nI (cap + 1)))]) hx hb dJx4a65c_grow_92f84_5 rfl hl (by decide) rfl (fun ls hl => ?_)
  refine lv_iload_n hx hb dJx4a65c_grow_92f84_6 rfl (lv_at hl 0 rfl) ?_
  by_cases h0 : cap = 0
  · refine lv_if_gt (tgt := 20) hx hb dJx4a65c_grow_92f84_7 (by decide) (fun c1 => absurd c1 (by rw [h0]; decide)) (fun c1 => ?_)
    refine lv_aload_n hx hb dJx4a65c_grow_92f84_10 rfl (lv_at hl 1 rfl) ?_
    refine lw_gete X hw dJx4a65c_grow_92f84_11 ?_
    have hZ := (T.1.2.2.2.2.2.2.1.1.kept (H1 := s.heap) (fun a ha hn => T.2.2 a (by have := T.1.2.2.2.2.1; omega))).narrow (FG.lo hL T.2.1)
    refine va_gets hx hb hZ hS hown (hts _ la_f39) (fun _ h9 => h9) dJx4a65c_grow_92f84_14 ?_
    refine lv_acmp_eq (rx := some r) (ry := some (eE E)) (tgt := 45) hx hb dJx4a65c_grow_92f84_17 (by decide) (fun c1 => ?_) (fun c1 => absurd (by rw [hz0 h0]) c1)
    refine lv_aload_n hx hb dJx4a65c_grow_92f84_45 rfl (lv_at hl 1 rfl) ?_
    refine lv_bipush (v := nI 10) hx hb dJx4a65c_grow_92f84_46 (by decide) ?_
    refine lv_iload_n hx hb dJx4a65c_grow_92f84_48 rfl (lv_at hl 2 rfl) ?_
    refine va_mmax hx hb (hml.trans hl.1.symm) hown (hts _ la_m79) (hts _ la_mxs) (hts _ la_imath) (hts _ la_mxc) (Nat.le_of_ble_eq_true rfl) (Nat.le_of_ble_eq_true rfl) (by show 0 ≤ 1; omega) (by show 0 ≤ ncap cap; omega) dJx4a65c_grow_92f84_49 ?_
    rw [show (if nI 10 < nI (cap + 1) then nI (cap + 1) else nI 10) = nI 10 from if_neg (nI_nlt (by omega) (by omega))]
    have e10 : ncap cap = 10 := if_pos h0
    refine va_newq (N' := 10) hx hb hown (hts _ la_k7) T.1.2.2.2.2.2.2.2.2.2.2 T.1.1 (one_P hw.1) (one_D FG.a) hS (fun q h => FG.n h) (nI_pos (by omega)) (nI_clamp (by omega)) (by omega) (by show 0 + 1 ≤ 1; omega) (by show 0 + 10 ≤ ncap cap; omega) dJx4a65c_grow_92f84_52 (fun qn cA H1 hK1 hP1 hD1 hS => ?_)
    have hcA : cA = eC E 4 := lrow_cls T (hK1.2 5 _ rfl).2
    subst hcA
    have hqa : qn ≠ a := fun h => absurd (hD1.1 1 0 _ _ rfl rfl h) (by decide)
    have hqs : s.heap.size ≤ qn := by
      rcases hD1.2 1 _ rfl with h | ⟨-, h⟩ | h
      · exact absurd h hqa
      · exact absurd h0 h
      · exact h
    have ef : (fun _ => none) = f := funext fun j => (hf j (by omega)).symm
    have hn1 : va_at (eD E) vwCl (lrow E qn (ncap cap) f) H1 := by rw [e10, ← ef]; exact hP1 1 _ rfl
    refine lv_dup_x1 hx hb dJx4a65c_grow_92f84_55 rfl rfl ?_
    refine lw_pute X (hP1 0 _ rfl) (lrAt.of hn1) (Ne.symm hqa) FG.a hS dJx4a65c_grow_92f84_56 (fun H2 locs2 hw2 z2 oq2 hS => ?_)
    refine W.widen (k := 1) (n := ncap cap) (by omega) (by omega) ?_
    exact W.aret (v := .ref qn) hx hb hr (Or.inr ⟨_, rfl⟩) (Or.inr ⟨qn, rfl⟩) (fun t ht hW => ⟨⟨(), qn, rfl, trivial, hqs, by rw [ht]; exact hw2⟩, hS.F ht⟩) hS.2.2 dJx4a65c_grow_92f84_59
  · refine lv_if_gt (tgt := 20) hx hb dJx4a65c_grow_92f84_7 (by decide) (fun c1 => ?_) (fun c1 => absurd (by have := nI_lt (a := 0) (b := cap) (by omega) (by omega); rwa [nI_0] at this) c1)
    refine lv_iload_n hx hb dJx4a65c_grow_92f84_20 rfl (lv_at hl 0 rfl) ?_
    refine lv_iload_n hx hb dJx4a65c_grow_92f84_21 rfl (lv_at hl 2 rfl) ?_
    refine lv_iload_n hx hb dJx4a65c_grow_92f84_22 rfl (lv_at hl 0 rfl) ?_
    refine lv_isub hx hb dJx4a65c_grow_92f84_23 ?_
    rw [pk_sub (Nat.le_succ cap), Nat.succ_eq_add_one, Nat.add_sub_cancel_left]
    refine lv_iload_n hx hb dJx4a65c_grow_92f84_24 rfl (lv_at hl 0 rfl) ?_
    refine lv_iconst (v := 1) hx hb dJx4a65c_grow_92f84_25 (by decide) ?_
    refine lv_ishr hx hb dJx4a65c_grow_92f84_26 ?_
    rw [show nI cap >>> ((1 : Int32) &&& 31) = nI (cap / 2) from (pk_shrN (by omega) ((1 : Int32) &&& 31) 1 (by decide)).trans (by rw [Nat.pow_one])]
    refine va_calli (lc_S (As := [.int (nI cap), .int (nI 1), .int (nI (cap / 2))]) (rest := []) X (methB_ok ma_nlen) rfl la_m73 (c_nlen l E S h0 h64) lP.blind (fun U hU hW => ⟨rfl, T.warm T.2 hU hW, by rw [hU], trivial⟩) rfl hl.1 rfl (Nat.le_of_ble_eq_true rfl) (Nat.le_of_ble_eq_true rfl) (Nat.le_of_ble_eq_true rfl) ⟨Nat.zero_le _, Nat.zero_le _⟩ dJx4a65c_grow_92f84_27) hS (fun q _ h => h.elim) (fun q h => h.elim) (fun r9 u t H1 locs1 ht hvm hp hB hz hk hS => ?_)
    subst hp
    have hw1 := hw.stay hk id id
    have hB1 := T.2.F hz hk
    have hel1 : ELs E ci f H1 := fun i y hy => (hel i y hy).kept (hk y (hel i y hy).lt id)
    refine lv_istore_n (lv' := [(3, .int (nI (ncap cap))), (2, .int (nI cap)), (0, .ref a), (1, .int (nI (cap + 1)))]) hx hb dJx4a65c_grow_92f84_30 rfl hl (by decide) rfl (fun ls hl => ?_)
    refine lv_aload_n hx hb dJx4a65c_grow_92f84_31 rfl (lv_at hl 2 rfl) ?_
    refine lv_aload_n hx hb dJx4a65c_grow_92f84_32 rfl (lv_at hl 2 rfl) ?_
    refine lw_gete X hw1 dJx4a65c_grow_92f84_33 ?_
    refine lv_iload_n hx hb dJx4a65c_grow_92f84_36 rfl (lv_at hl 0 rfl) ?_
    refine va_callr (lc_S (As := [.ref r, .int (nI (ncap cap))]) (rest := [.ref a]) X (methB_ok ma_cpy) rfl la_m66 (c_cpy (sz := H1.size) l E S hc h0 h64 hf (fun i y hy => (hner i y hy).1)) lP.blind (fun U hU hW => ⟨rfl, T.warm hB1 hU hW, by rw [hU], by rw [hU]; exact ⟨hw1.2.2 h0, hel1⟩⟩) rfl hl.1 rfl (Nat.le_of_ble_eq_true rfl) (Nat.le_of_ble_eq_true rfl) (Nat.le_of_ble_eq_true rfl) ⟨Nat.le_of_ble_eq_true rfl, by show 0 + 0 + ncap cap ≤ ncap cap; omega⟩ dJx4a65c_grow_92f84_37) hS (fun q _ h => h.elim (fun h => by rw [h]; exact FG.r h0) (fun h => FG.n (Nat.le_trans hz h))) (fun q h => h.elim (fun h => by rw [h]; exact FG.r h0) (fun h => FG.n (Nat.le_trans hz h))) (fun u ra t2 H2 locs2 ht2 hvm2 hp2 hB2 hz2 hk2 hS => ?_)
    obtain ⟨g1, g2, g3⟩ := hB2
    rw [ht2] at g2 g3
    have hal := hw1.1.lt
    have hla : va_at (eD E) vwCl (llist a m0 r n0) H2 := hw1.1.kept (hk2 a hal (fun z => by
      rcases z with z | z
      · exact hne z
      · have : a < H1.size := hal
        omega))
    have hane : a ≠ ra := fun z => by
      have : a < H1.size := hal
      omega
    refine lv_dup_x1 hx hb dJx4a65c_grow_92f84_40 rfl rfl ?_
    refine lw_pute X hla (lrAt.of g2) hane FG.a hS dJx4a65c_grow_92f84_41 (fun H3 locs3 hw3 z3 oq3 hS => ?_)
    refine W.widen (k := 1) (n := ncap cap) (by omega) (by omega) ?_
    exact W.aret (v := .ref ra) hx hb hr (Or.inr ⟨_, rfl⟩) (Or.inr ⟨ra, rfl⟩) (fun t ht hW => ⟨⟨(), ra, rfl, trivial, Nat.le_trans hz g1, by rw [ht]; exact hw3⟩, hS.F ht⟩) hS.2.2 dJx4a65c_grow_92f84_44
set_option maxHeartbeats 4000000 in
set_option maxRecDepth 100000 in
/-- grow() -/
theorem c_grow (l : Launch) (E : mEnv) (S : mStr) {sz a r cap : Nat} {m0 : Int32} {f : Nat → Option Nat} {C : String} {ci : Nat} (hc : elOK C ci) (hL : LH E a r cap f) : Met l (qY qa_grow) (qWs qa_grow) (lR 4 1 (ncap cap)) (lP E S sz [.ref a] (fun H => LW E a m0 r (nI cap) cap f H ∧ ELs E ci f H)) (va_Qr (fun (_ : Unit) => True) (fun _ ra t => sz ≤ ra ∧ LW E a m0 ra (nI cap) (ncap cap) f t.heap) (FG a r cap sz)) 1 (ncap cap) (FG a r cap sz) := by
  refine Met.ofW (cc := cJx4a65c_grow_d5877) (maxL := 1) (ret := (some (.array (.object "java/lang/Object")))) (by decide) rfl ?_
  intro p e s m args below meth c s₁ B hml hv
  obtain ⟨rfl, T, hsz, hw, hel⟩ := hv
  subst hsz
  have hx := B.exec
  have hb := B.bytes
  have hr := B.returns
  have hts := fun w hw => atoms_spec (ws := qWs qa_grow) B.pre w (List.mem_cons_of_mem _ hw)
  have hown : s.vm.findClass RJx4a65c = some m.cls := findClass_of_methodNamed B.named
  have hlocks := B.notSynchronized
  have X : lC E S p s m c cJx4a65c_grow_d5877 1 _ RJx4a65c := ⟨⟨hx, hb, hml, hown, hts⟩, T⟩
  have hS : va_S (FG a r cap s.heap.size) s.heap s.heap [] := va_S.rf
  have hl := lv_entry ([.ref a]) (n := 1) (Nat.le_of_ble_eq_true rfl)
  rw [lg_entry_eq]
  generalize (lg_sl ([.ref a]) ++ List.replicate (1 - (lg_sl ([.ref a])).length) Slot.unset).toArray = ls at hl ⊢
  have hl : lv_has ls 1 [(0, .ref a)] := hl
  refine lv_aload_n hx hb dJx4a65c_grow_d5877_0 rfl (lv_at hl 0 rfl) ?_
  refine lv_aload_n hx hb dJx4a65c_grow_d5877_1 rfl (lv_at hl 0 rfl) ?_
  refine lw_gets X hw dJx4a65c_grow_d5877_2 ?_
  refine lv_iconst (v := 1) hx hb dJx4a65c_grow_d5877_5 (by decide) ?_
  refine lv_iadd hx hb dJx4a65c_grow_d5877_6 ?_
  rw [nI_1]
  refine va_callr (lc_V (As := [.int (nI (cap + 1))]) (rest := []) X (methB_ok ma_growi) rfl la_m69 (c_growi (m0 := m0) (n0 := nI cap) l E S hc hL) lP.blind hw.1 (fun U hU hW => ⟨rfl, T.warm T.2 hU hW, by rw [hU], by rw [hU]; exact ⟨hw, hel⟩⟩) rfl hl.1 rfl (Nat.le_of_ble_eq_true rfl) (Nat.le_of_ble_eq_true rfl) (Nat.le_of_ble_eq_true rfl) ⟨Nat.le_of_ble_eq_true rfl, by show 0 + ncap cap ≤ ncap cap; omega⟩ dJx4a65c_grow_d5877_7) hS (fun q _ h => h) (fun q h => h) (fun u ra t H1 locs1 ht hvm hp hB hz hk hS => ?_)
  obtain ⟨g1, g2⟩ := hB
  rw [ht] at g2
  refine W.widen (k := 1) (n := ncap cap) (by omega) (by omega) ?_
  exact W.aret (v := .ref ra) hx hb hr (Or.inr ⟨_, rfl⟩) (Or.inr ⟨ra, rfl⟩) (fun t ht hW => ⟨⟨(), ra, rfl, trivial, g1, by rw [ht]; exact g2⟩, hS.F ht⟩) hS.2.2 dJx4a65c_grow_d5877_10
