/-! MEMBERS OF ArrayList: add -/
theorem two_D {A : Nat → Prop} {x y : Nat × va_E} (hx : A x.1) (hy : A y.1) (hne : x.1 ≠ y.1) : va_D A [x, y] := ⟨fun i j p q h1 h2 h3 => by
    match i, j, h1, h2 with
    | 0, 0, _, _ => rfl
    | 1, 1, _, _ => rfl
    | 0, 1, h1, h2 => cases h1; cases h2; exact absurd h3 hne
    | 1, 0, h1, h2 => cases h1; cases h2; exact absurd h3.symm hne
    | i + 2, _, h1, _ => simp at h1
    | 0, j + 2, _, h2 => simp at h2
    | 1, j + 2, _, h2 => simp at h2, fun k q h => by
    match k, h with
    | 0, h => cases h; exact hx
    | 1, h => cases h; exact hy
    | k + 2, h => simp at h⟩
theorem two_P {D : va_G} {x y : Nat × va_E} {H : Heap} (hx : va_at D vwCl x H) (hy : va_at D vwCl y H) : va_P D vwCl [x, y] H := by
  intro k q h
  match k, h with
  | 0, h => cases h; exact hx
  | 1, h => cases h; exact hy
  | k + 2, h => simp at h
section LTails
variable {p : Program} {l : Launch} {e : Env} {R : Room} {s : State} {m : MethodId} {args : Array Value} {below : List Frame} {meth : Method} {c : Code} {H : Heap} {locs : List Loc} {cells slots : Nat} {Q : State → Prop}
variable {E : mEnv} {S : mStr} {ls : Array Slot} {F : Nat → Prop} {H0 : Heap} {a r cap : Nat} {m0 n0 : Int32} {f : Nat → Option Nat} {n i x : Nat} {C : String} {ci : Nat}
theorem lt_addh (X : lC E S p s m c cJx4a65c_add_72be8 4 args RJx4a65c) (hw : LW E a m0 r (nI n) cap f H) (hne : a ≠ r) (hFa : F a) (hFr : F r) (hS : va_S F H0 H locs) (hc : elOK C ci) (hv : EL E ci x H) (hn : n < cap) (hcap : cap < 2 ^ 31) (hl : lv_has ls 4 [(0, .ref a), (1, .ref x), (2, .ref r), (3, .int (nI n))])
    (kk : ∀ (H1 : Heap) (locs1 : List Loc), LW E a m0 r (nI (n + 1)) cap (va_up f n (some x)) H1 → va_S F H0 H1 locs1 → W p l e R s m args below meth c H1 locs1 cells slots Q (F0 m 22 ls [])) : W p l e R s m args below meth c H locs cells slots Q (F0 m 11 ls []) := by
  have hx := X.1.1
  have hb := X.1.2.1
  refine lv_aload_n hx hb dJx4a65c_add_72be8_11 rfl (lv_at hl 2 rfl) ?_
  refine lv_iload_n hx hb dJx4a65c_add_72be8_12 rfl (lv_at hl 3 rfl) ?_
  refine lv_aload_n hx hb dJx4a65c_add_72be8_13 rfl (lv_at hl 1 rfl) ?_
  refine lw_ast hx hb X.2 hw hne hFr hS hc hv (vp_in_nI hn hcap) dJx4a65c_add_72be8_14 (fun H1 locs1 hw1 z1 oq1 hS => ?_)
  rw [nI_clamp (by omega)] at hw1
  refine lv_aload_n hx hb dJx4a65c_add_72be8_15 rfl (lv_at hl 0 rfl) ?_
  refine lv_iload_n hx hb dJx4a65c_add_72be8_16 rfl (lv_at hl 3 rfl) ?_
  refine lv_iconst (v := 1) hx hb dJx4a65c_add_72be8_17 (by decide) ?_
  refine lv_iadd hx hb dJx4a65c_add_72be8_18 ?_
  rw [nI_1]
  refine lw_puts X hw1 hne hFa hS dJx4a65c_add_72be8_19 (fun H2 locs2 hw2 z2 oq2 hS => ?_)
  exact kk H2 locs2 hw2 hS
theorem lt_addi (X : lC E S p s m c cJx4a65c_add_7a177 5 args RJx4a65c) (hml : c.maxLocals = 5) (hw : LW E a m0 r (nI n) cap f H) (hne : a ≠ r) (hFa : F a) (hFr : F r) (hS : va_S F H0 H locs) (hc : elOK C ci) (hel : ELs E ci f H) (hv : EL E ci x H0) (hvF : ¬ F x) (hi : i ≤ n) (hn : n < cap) (hcap : cap < 2 ^ 31) (hR : 1 ≤ R.frames) (hRl : 40 ≤ R.locals) (hl : lv_has ls 5 [(0, .ref a), (1, .int (nI i)), (2, .ref x), (3, .int (nI n)), (4, .ref r)])
    (kk : ∀ (H1 : Heap) (locs1 : List Loc), LW E a m0 r (nI (n + 1)) cap (va_up (va_cpy f f i (i + 1) (n - i)) i (some x)) H1 → va_S F H0 H1 locs1 → W p l e R s m args below meth c H1 locs1 cells slots Q (F0 m 64 ls [])) : W p l e R s m args below meth c H locs cells slots Q (F0 m 38 ls []) := by
  have hx := X.1.1
  have hb := X.1.2.1
  have hts := X.1.2.2.2.2
  have T := X.2
  refine lv_aload hx hb dJx4a65c_add_7a177_38 (lv_at hl 4 rfl) ?_
  refine lv_iload_n hx hb dJx4a65c_add_7a177_40 rfl (lv_at hl 1 rfl) ?_
  refine lv_aload hx hb dJx4a65c_add_7a177_41 (lv_at hl 4 rfl) ?_
  refine lv_iload_n hx hb dJx4a65c_add_7a177_43 rfl (lv_at hl 1 rfl) ?_
  refine lv_iconst (v := 1) hx hb dJx4a65c_add_7a177_44 (by decide) ?_
  refine lv_iadd hx hb dJx4a65c_add_7a177_45 ?_
  rw [nI_1]
  refine lv_iload_n hx hb dJx4a65c_add_7a177_46 rfl (lv_at hl 3 rfl) ?_
  refine lv_iload_n hx hb dJx4a65c_add_7a177_47 rfl (lv_at hl 1 rfl) ?_
  refine lv_isub hx hb dJx4a65c_add_7a177_48 ?_
  rw [pk_sub hi]
  have e1 : (nI i).toNatClampNeg = i := nI_clamp (by omega)
  have e2 : (nI (i + 1)).toNatClampNeg = i + 1 := nI_clamp (by omega)
  have e3 : (nI (n - i)).toNatClampNeg = n - i := nI_clamp (by omega)
  refine va_copyq (a0 := r) (a := r) (C := C) hx hb (hml.trans hl.1.symm) X.1.2.2.2.1 (hts _ la_m112) (hts _ la_nat) (hts _ la_sta) (hts _ la_isys) T.1.1 (two_P hw.1 (hw.2.2 (by omega))) (two_D hFa hFr hne) hS 1 1 4 4 rfl rfl rfl rfl (nI_pos (by omega)) (nI_pos (by omega)) (nI_pos (by omega)) (by rw [e1, e3]; omega) (by rw [e2, e3]; omega) (fun i hi y hy => el_cell T hc (hel _ y hy)) (fun comp c0 => by
    obtain ⟨TT, N, hcl, hca⟩ := hc
    exact vb_asgC (T.1.2.2.2.2.2.1 _ hca rfl) comp c0) hR (Nat.le_trans (Nat.le_of_ble_eq_true rfl) hRl) dJx4a65c_add_7a177_49 (fun H2 locs2 hP2 hD2 hS => ?_)
  rw [e1, e2, e3] at hP2
  have hw2 : LW E a m0 r (nI n) cap (va_cpy f f i (i + 1) (n - i)) H2 := ⟨hP2 0 _ rfl, lrAt.of (hP2 1 _ rfl)⟩
  have hv2 : EL E ci x H2 := hv.kept (hS.2.1 _ hv.lt hvF)
  refine lv_aload hx hb dJx4a65c_add_7a177_52 (lv_at hl 4 rfl) ?_
  refine lv_iload_n hx hb dJx4a65c_add_7a177_54 rfl (lv_at hl 1 rfl) ?_
  refine lv_aload_n hx hb dJx4a65c_add_7a177_55 rfl (lv_at hl 2 rfl) ?_
  refine lw_ast hx hb T hw2 hne hFr hS hc hv2 (vp_in_nI (Nat.lt_of_le_of_lt hi hn) hcap) dJx4a65c_add_7a177_56 (fun H1 locs1 hw1 z1 oq1 hS => ?_)
  rw [e1] at hw1
  refine lv_aload_n hx hb dJx4a65c_add_7a177_57 rfl (lv_at hl 0 rfl) ?_
  refine lv_iload_n hx hb dJx4a65c_add_7a177_58 rfl (lv_at hl 3 rfl) ?_
  refine lv_iconst (v := 1) hx hb dJx4a65c_add_7a177_59 (by decide) ?_
  refine lv_iadd hx hb dJx4a65c_add_7a177_60 ?_
  rw [nI_1]
  refine lw_puts X hw1 hne hFa hS dJx4a65c_add_7a177_61 (fun H3 locs3 hw3 z3 oq3 hS => ?_)
  exact kk H3 locs3 hw3 hS
end LTails
/-- where a list's row is after a member that adds -/
def lAd (r cap n sz : Nat) (u : Nat × Nat) : Prop := (n < cap ∧ u = (r, cap)) ∨ (n = cap ∧ sz ≤ u.1 ∧ u.2 = ncap cap)
theorem FG.at {a r cap sz sz' : Nat} (h : sz' = sz) : ∀ q, FG a r cap sz' q → FG a r cap sz q := fun q hq => by rw [← h]; exact hq
theorem FG.ge {a r cap sz sz' : Nat} (h : sz ≤ sz') : ∀ q, FG a r cap sz' q → FG a r cap sz q := fun q hq => by
  rcases hq with h1 | h1 | h1
  · exact Or.inl h1
  · exact Or.inr (Or.inl h1)
  · exact Or.inr (Or.inr (Nat.le_trans h h1))
theorem el_put {E : mEnv} {a r cap ci : Nat} {f : Nat → Option Nat} {H H1 : Heap} (hL : LH E a r cap f) (hel : ELs E ci f H) (oq : ∀ q : Nat, q ≠ a → H1[q]? = H[q]?) : ELs E ci f H1 := fun i y hy => (hel i y hy).kept (oq _ (hL.2.2.2.2.2.2 i y hy).2)
set_option maxHeartbeats 4000000 in
set_option maxRecDepth 100000 in
/-- add behind the last, over the row -/
theorem c_addh (l : Launch) (E : mEnv) (S : mStr) {sz a r cap : Nat} {m0 : Int32} {f : Nat → Option Nat} {C : String} {ci n x : Nat} (hc : elOK C ci) (hL : LH E a r cap f) (hn : n ≤ cap) (hxa : x ≠ a) (hxr : x ≠ r) {sl : Nat} (hsl : n = cap → ncap cap ≤ sl) : Met l (qY qa_addh) (qWs qa_addh) (lR 5 1 sl) (lP E S sz [.ref a, .ref x, .ref r, .int (nI n)] (fun H => LW E a m0 r (nI n) cap f H ∧ ELs E ci f H ∧ EL E ci x H)) (va_Qv (fun u : Nat × Nat => lAd r cap n sz u) (fun u t => LW E a m0 u.1 (nI (n + 1)) u.2 (va_up f n (some x)) t.heap) (FG a r cap sz)) 1 sl (FG a r cap sz) := by
  refine Met.ofW (cc := cJx4a65c_add_72be8) (maxL := 4) (ret := none) (by decide) rfl ?_
  intro p e s m args below meth c s₁ B hml hv
  obtain ⟨rfl, T, hsz, hw, hel, hxe⟩ := hv
  subst hsz
  have hx := B.exec
  have hb := B.bytes
  have hr := B.returns
  have hts := fun w hw => atoms_spec (ws := qWs qa_addh) B.pre w (List.mem_cons_of_mem _ hw)
  have hown : s.vm.findClass RJx4a65c = some m.cls := findClass_of_methodNamed B.named
  have hlocks := B.notSynchronized
  have X : lC E S p s m c cJx4a65c_add_72be8 4 _ RJx4a65c := ⟨⟨hx, hb, hml, hown, hts⟩, T⟩
  have hS : va_S (FG a r cap s.heap.size) s.heap s.heap [] := va_S.rf
  have hl := lv_entry ([.ref a, .ref x, .ref r, .int (nI n)]) (n := 4) (Nat.le_of_ble_eq_true rfl)
  rw [lg_entry_eq]
  generalize (lg_sl ([.ref a, .ref x, .ref r, .int (nI n)]) ++ List.replicate (4 - (lg_sl ([.ref a, .ref x, .ref r, .int (nI n)])).length) Slot.unset).toArray = ls at hl ⊢
  have hl : lv_has ls 4 [(0, .ref a), (1, .ref x), (2, .ref r), (3, .int (nI n))] := hl
  obtain ⟨hne, hlo, hz0, hz1, h64, hf, hner⟩ := id hL
  have hb2 := ncap_le h64
  have hb3 := @ncap_gt cap
  have hxF : ¬ FG a r cap s.heap.size x := fun z => by
    rcases z with z | ⟨z, -⟩ | z
    · exact hxa z
    · exact hxr z
    · exact absurd hxe.lt (by omega)
  refine lv_iload_n hx hb dJx4a65c_add_72be8_0 rfl (lv_at hl 3 rfl) ?_
  refine lv_aload_n hx hb dJx4a65c_add_72be8_1 rfl (lv_at hl 2 rfl) ?_
  refine lw_alen hx hb T hS (FG.lo hL T.2.1) hw.2 hz0 dJx4a65c_add_72be8_2 ?_
  refine lv_icmp_ne (tgt := 11) hx hb dJx4a65c_add_72be8_3 (by decide) (fun c1 => ?_) (fun c1 => ?_)
  · have hlt : n < cap := Nat.lt_of_le_of_ne hn (fun h => c1 (by rw [h]))
    refine lt_addh X hw hne FG.a (FG.r (by omega)) hS hc hxe hlt (by omega) hl (fun H1 locs1 hw1 hS => ?_)
    refine W.widen (k := 1) (n := sl) (by omega) (by omega) ?_
    exact W.vret hx hb hr (fun t ht hW => ⟨⟨(r, cap), rfl, Or.inl ⟨hlt, rfl⟩, by subst ht; exact hw1⟩, hS.F ht⟩) hS.2.2 dJx4a65c_add_72be8_22
  · have hcn : n = cap := (nI_eq (by omega) (by omega)).mp c1
    subst hcn
    refine lv_aload_n hx hb dJx4a65c_add_72be8_6 rfl (lv_at hl 0 rfl) ?_
    refine va_callr (lc_V (As := []) (rest := []) X (methB_ok ma_grow) rfl la_m129 (c_grow (m0 := m0) l E S hc hL) lP.blind hw.1 (fun U hU hW => ⟨rfl, T.warm T.2 hU hW, by rw [hU], by rw [hU]; exact ⟨hw, hel⟩⟩) rfl hl.1 rfl (Nat.le_of_ble_eq_true rfl) (Nat.le_of_ble_eq_true rfl) (Nat.le_of_ble_eq_true rfl) ⟨Nat.le_of_ble_eq_true rfl, by show 0 + ncap n ≤ sl; have := hsl rfl; omega⟩ dJx4a65c_add_72be8_7) hS (fun q _ h => h) (fun q h => h) (fun u ra t H1 locs1 ht hvm hp hB hz hk hS => ?_)
    obtain ⟨g1, g2⟩ := hB
    rw [ht] at g2
    refine lv_astore_n (lv' := [(2, .ref ra), (0, .ref a), (1, .ref x), (3, .int (nI n))]) hx hb dJx4a65c_add_72be8_10 rfl hl (by decide) rfl (fun ls hl => ?_)
    have har : a ≠ ra := fun z => by have : a < s.heap.size := hw.1.lt; omega
    refine lt_addh X g2 har FG.a (FG.n g1) hS hc (hxe.kept (hk _ hxe.lt hxF)) hb3 (by omega) (lv_sub hl [1, 2, 0, 3] rfl) (fun H2 locs2 hw2 hS => ?_)
    refine W.widen (k := 1) (n := sl) (by omega) (by have := hsl rfl; omega) ?_
    exact W.vret hx hb hr (fun t ht hW => ⟨⟨(ra, ncap n), rfl, Or.inr ⟨rfl, g1, rfl⟩, by subst ht; exact hw2⟩, hS.F ht⟩) hS.2.2 dJx4a65c_add_72be8_22
set_option maxHeartbeats 4000000 in
set_option maxRecDepth 100000 in
/-- add -/
theorem c_add (l : Launch) (E : mEnv) (S : mStr) {sz a r cap : Nat} {m0 : Int32} {f : Nat → Option Nat} {C : String} {ci n x : Nat} (hc : elOK C ci) (hL : LH E a r cap f) (hn : n ≤ cap) (hxa : x ≠ a) (hxr : x ≠ r) {sl : Nat} (hsl : n = cap → ncap cap ≤ sl) : Met l (qY qa_add) (qWs qa_add) (lR 6 1 sl) (lP E S sz [.ref a, .ref x] (fun H => LW E a m0 r (nI n) cap f H ∧ ELs E ci f H ∧ EL E ci x H)) (va_Qi (fun v (u : Nat × Nat) => v = 1 ∧ lAd r cap n sz u) (fun u t => ∃ m1, LW E a m1 u.1 (nI (n + 1)) u.2 (va_up f n (some x)) t.heap) (FG a r cap sz)) 1 sl (FG a r cap sz) := by
  refine Met.ofW (cc := cJx4a65c_add_9ea2d) (maxL := 2) (ret := (some .boolean)) (by decide) rfl ?_
  intro p e s m args below meth c s₁ B hml hv
  obtain ⟨rfl, T, hsz, hw, hel, hxe⟩ := hv
  subst hsz
  have hx := B.exec
  have hb := B.bytes
  have hr := B.returns
  have hts := fun w hw => atoms_spec (ws := qWs qa_add) B.pre w (List.mem_cons_of_mem _ hw)
  have hown : s.vm.findClass RJx4a65c = some m.cls := findClass_of_methodNamed B.named
  have hlocks := B.notSynchronized
  have X : lC E S p s m c cJx4a65c_add_9ea2d 2 _ RJx4a65c := ⟨⟨hx, hb, hml, hown, hts⟩, T⟩
  have hS : va_S (FG a r cap s.heap.size) s.heap s.heap [] := va_S.rf
  have hl := lv_entry ([.ref a, .ref x]) (n := 2) (Nat.le_of_ble_eq_true rfl)
  rw [lg_entry_eq]
  generalize (lg_sl ([.ref a, .ref x]) ++ List.replicate (2 - (lg_sl ([.ref a, .ref x])).length) Slot.unset).toArray = ls at hl ⊢
  have hl : lv_has ls 2 [(0, .ref a), (1, .ref x)] := hl
  obtain ⟨hne, hlo, hz0, hz1, h64, hf, hner⟩ := id hL
  refine lv_aload_n hx hb dJx4a65c_add_9ea2d_0 rfl (lv_at hl 0 rfl) ?_
  refine lv_dup hx hb dJx4a65c_add_9ea2d_1 rfl ?_
  refine lw_getm X hw dJx4a65c_add_9ea2d_2 ?_
  refine lv_iconst (v := 1) hx hb dJx4a65c_add_9ea2d_5 (by decide) ?_
  refine lv_iadd hx hb dJx4a65c_add_9ea2d_6 ?_
  refine lw_putm X hw hne FG.a hS dJx4a65c_add_9ea2d_7 (fun H1 locs1 hw1 z1 oq1 hS => ?_)
  refine lv_aload_n hx hb dJx4a65c_add_9ea2d_10 rfl (lv_at hl 0 rfl) ?_
  refine lv_aload_n hx hb dJx4a65c_add_9ea2d_11 rfl (lv_at hl 1 rfl) ?_
  refine lv_aload_n hx hb dJx4a65c_add_9ea2d_12 rfl (lv_at hl 0 rfl) ?_
  refine lw_gete X hw1 dJx4a65c_add_9ea2d_13 ?_
  refine lv_aload_n hx hb dJx4a65c_add_9ea2d_16 rfl (lv_at hl 0 rfl) ?_
  refine lw_gets X hw1 dJx4a65c_add_9ea2d_17 ?_
  have hB1 := T.2.S (FG.lo hL T.2.1) hS
  refine va_callv (lc_V (As := [.ref x, .ref r, .int (nI n)]) (rest := []) X (methB_ok ma_addh) rfl la_m131 (c_addh (m0 := m0 + 1) (sz := H1.size) l E S hc hL hn hxa hxr hsl) lP.blind hw1.1 (fun U hU hW => ⟨rfl, T.warm hB1 hU hW, by rw [hU], by rw [hU]; exact ⟨hw1, el_put hL hel oq1, hxe.kept (oq1 _ hxa)⟩⟩) rfl hl.1 rfl (Nat.le_of_ble_eq_true rfl) (Nat.le_of_ble_eq_true rfl) (Nat.le_of_ble_eq_true rfl) ⟨Nat.le_of_ble_eq_true rfl, by show 0 + sl ≤ sl; omega⟩ dJx4a65c_add_9ea2d_20) hS (fun q _ h => FG.at z1 q h) (fun q h => FG.at z1 q h) (fun u t H2 locs2 ht hvm hp hB hz hk hS => ?_)
  rw [ht] at hB
  rw [z1] at hp
  refine lv_iconst (v := 1) hx hb dJx4a65c_add_9ea2d_23 (by decide) ?_
  refine W.widen (k := 1) (n := sl) (by omega) (by omega) ?_
  exact W.zret (v := 1) hx hb hr rfl (fun t ht hW => ⟨⟨1, u, rfl, ⟨rfl, hp⟩, m0 + 1, by subst ht; exact hB⟩, hS.F ht⟩) hS.2.2 dJx4a65c_add_9ea2d_24
set_option maxHeartbeats 4000000 in
set_option maxRecDepth 100000 in
/-- add at a place -/
theorem c_addi (l : Launch) (E : mEnv) (S : mStr) {sz a r cap : Nat} {m0 : Int32} {f : Nat → Option Nat} {C : String} {ci n x : Nat} (hc : elOK C ci) (hL : LH E a r cap f) (hn : n ≤ cap) (hxa : x ≠ a) (hxr : x ≠ r) {sl : Nat} (hsl : n = cap → ncap cap ≤ sl) {i : Nat} (hi : i ≤ n) : Met l (qY qa_addi) (qWs qa_addi) (lR 5 1 sl) (lP E S sz [.ref a, .int (nI i), .ref x] (fun H => LW E a m0 r (nI n) cap f H ∧ ELs E ci f H ∧ EL E ci x H)) (va_Qv (fun u : Nat × Nat => lAd r cap n sz u) (fun u t => ∃ m1, LW E a m1 u.1 (nI (n + 1)) u.2 (va_up (va_cpy f f i (i + 1) (n - i)) i (some x)) t.heap) (FG a r cap sz)) 1 sl (FG a r cap sz) := by
  refine Met.ofW (cc := cJx4a65c_add_7a177) (maxL := 5) (ret := none) (by decide) rfl ?_
  intro p e s m args below meth c s₁ B hml hv
  obtain ⟨rfl, T, hsz, hw, hel, hxe⟩ := hv
  subst hsz
  have hx := B.exec
  have hb := B.bytes
  have hr := B.returns
  have hts := fun w hw => atoms_spec (ws := qWs qa_addi) B.pre w (List.mem_cons_of_mem _ hw)
  have hown : s.vm.findClass RJx4a65c = some m.cls := findClass_of_methodNamed B.named
  have hlocks := B.notSynchronized
  have X : lC E S p s m c cJx4a65c_add_7a177 5 _ RJx4a65c := ⟨⟨hx, hb, hml, hown, hts⟩, T⟩
  have hS : va_S (FG a r cap s.heap.size) s.heap s.heap [] := va_S.rf
  have hl := lv_entry ([.ref a, .int (nI i), .ref x]) (n := 5) (Nat.le_of_ble_eq_true rfl)
  rw [lg_entry_eq]
  generalize (lg_sl ([.ref a, .int (nI i), .ref x]) ++ List.replicate (5 - (lg_sl ([.ref a, .int (nI i), .ref x])).length) Slot.unset).toArray = ls at hl ⊢
  have hl : lv_has ls 5 [(0, .ref a), (1, .int (nI i)), (2, .ref x)] := hl
  obtain ⟨hne, hlo, hz0, hz1, h64, hf, hner⟩ := id hL
  have hb2 := ncap_le h64
  have hb3 := @ncap_gt cap
  have hxF : ¬ FG a r cap s.heap.size x := fun z => by
    rcases z with z | ⟨z, -⟩ | z
    · exact hxa z
    · exact hxr z
    · exact absurd hxe.lt (by omega)
  refine lv_aload_n hx hb dJx4a65c_add_7a177_0 rfl (lv_at hl 0 rfl) ?_
  refine lv_iload_n hx hb dJx4a65c_add_7a177_1 rfl (lv_at hl 1 rfl) ?_
  refine va_callv (lc_V (As := [.int (nI i)]) (rest := []) X (methB_ok ma_rng) rfl la_m135 (c_rng (m0 := m0) l E S hi (by omega)) lP.blind hw.1 (fun U hU hW => ⟨rfl, T.warm T.2 hU hW, by rw [hU], by rw [hU]; exact hw⟩) rfl hl.1 rfl (Nat.le_of_ble_eq_true rfl) (Nat.le_of_ble_eq_true rfl) (Nat.le_of_ble_eq_true rfl) ⟨Nat.zero_le _, Nat.zero_le _⟩ dJx4a65c_add_7a177_2) hS (fun q _ h => h.elim) (fun q h => h.elim) (fun u0 t0 H9 locs9 ht9 hvm9 hp9 hB9 hz9 hk9 hS => ?_)
  have hw9 := hw.stay hk9 id id
  have hel9 : ELs E ci f H9 := fun i y hy => (hel i y hy).kept (hk9 y (hel i y hy).lt id)
  have hx9 : EL E ci x H9 := hxe.kept (hk9 _ hxe.lt id)
  have hB9 := T.2.F hz9 hk9
  refine lv_aload_n hx hb dJx4a65c_add_7a177_5 rfl (lv_at hl 0 rfl) ?_
  refine lv_dup hx hb dJx4a65c_add_7a177_6 rfl ?_
  refine lw_getm X hw9 dJx4a65c_add_7a177_7 ?_
  refine lv_iconst (v := 1) hx hb dJx4a65c_add_7a177_10 (by decide) ?_
  refine lv_iadd hx hb dJx4a65c_add_7a177_11 ?_
  refine lw_putm X hw9 hne FG.a hS dJx4a65c_add_7a177_12 (fun H1 locs1 hw1 z1 oq1 hS => ?_)
  have hel1 := el_put hL hel9 oq1
  refine lv_aload_n hx hb dJx4a65c_add_7a177_15 rfl (lv_at hl 0 rfl) ?_
  refine lw_gets X hw1 dJx4a65c_add_7a177_16 ?_
  refine lv_dup hx hb dJx4a65c_add_7a177_19 rfl ?_
  refine lv_istore_n (lv' := [(3, .int (nI n)), (0, .ref a), (1, .int (nI i)), (2, .ref x)]) hx hb dJx4a65c_add_7a177_20 rfl hl (by decide) rfl (fun ls hl => ?_)
  refine lv_aload_n hx hb dJx4a65c_add_7a177_21 rfl (lv_at hl 1 rfl) ?_
  refine lw_gete X hw1 dJx4a65c_add_7a177_22 ?_
  refine lv_dup hx hb dJx4a65c_add_7a177_25 rfl ?_
  refine lv_astore (lv' := [(4, .ref r), (3, .int (nI n)), (0, .ref a), (1, .int (nI i)), (2, .ref x)]) hx hb dJx4a65c_add_7a177_26 hl (by decide) rfl (fun ls hl => ?_)
  refine lw_alen hx hb T hS (FG.lo hL T.2.1) hw1.2 hz0 dJx4a65c_add_7a177_28 ?_
  refine lv_icmp_ne (tgt := 38) hx hb dJx4a65c_add_7a177_29 (by decide) (fun c1 => ?_) (fun c1 => ?_)
  · have hlt : n < cap := Nat.lt_of_le_of_ne hn (fun h => c1 (by rw [h]))
    refine lt_addi X hml hw1 hne FG.a (FG.r (by omega)) hS hc hel1 hxe hxF hi hlt (by omega) (Nat.le_of_ble_eq_true rfl) (Nat.le_of_ble_eq_true rfl) (lv_sub hl [2, 3, 4, 1, 0] rfl) (fun H2 locs2 hw2 hS => ?_)
    refine W.widen (k := 1) (n := sl) (by omega) (by omega) ?_
    exact W.vret hx hb hr (fun t ht hW => ⟨⟨(r, cap), rfl, Or.inl ⟨hlt, rfl⟩, m0 + 1, by subst ht; exact hw2⟩, hS.F ht⟩) hS.2.2 dJx4a65c_add_7a177_64
  · have hcn : n = cap := (nI_eq (by omega) (by omega)).mp c1
    subst hcn
    have hB1 := T.2.S (FG.lo hL T.2.1) hS
    refine lv_aload_n hx hb dJx4a65c_add_7a177_32 rfl (lv_at hl 2 rfl) ?_
    refine va_callr (lc_V (As := []) (rest := []) X (methB_ok ma_grow) rfl la_m129 (c_grow (m0 := m0 + 1) (sz := H1.size) l E S hc hL) lP.blind hw1.1 (fun U hU hW => ⟨rfl, T.warm hB1 hU hW, by rw [hU], by rw [hU]; exact ⟨hw1, hel1⟩⟩) rfl hl.1 rfl (Nat.le_of_ble_eq_true rfl) (Nat.le_of_ble_eq_true rfl) (Nat.le_of_ble_eq_true rfl) ⟨Nat.le_of_ble_eq_true rfl, by show 0 + 0 + ncap n ≤ sl; have := hsl rfl; omega⟩ dJx4a65c_add_7a177_33) hS (fun q _ h => FG.ge (by omega) q h) (fun q h => FG.ge (by omega) q h) (fun u ra t H2 locs2 ht hvm hp hB hz hk hS => ?_)
    obtain ⟨g1, g2⟩ := hB
    rw [ht] at g2
    refine lv_astore (lv' := [(4, .ref ra), (3, .int (nI n)), (0, .ref a), (1, .int (nI i)), (2, .ref x)]) hx hb dJx4a65c_add_7a177_36 hl (by decide) rfl (fun ls hl => ?_)
    have har : a ≠ ra := fun z => by have : a < s.heap.size := hw.1.lt; omega
    refine lt_addi X hml g2 har FG.a (FG.n (by omega)) hS hc (el_stay hL hel1 (Nat.le_refl _) hk) hxe hxF hi hb3 (by omega) (Nat.le_of_ble_eq_true rfl) (Nat.le_of_ble_eq_true rfl) (lv_sub hl [2, 3, 4, 1, 0] rfl) (fun H3 locs3 hw3 hS => ?_)
    refine W.widen (k := 1) (n := sl) (by omega) (by have := hsl rfl; omega) ?_
    exact W.vret hx hb hr (fun t ht hW => ⟨⟨(ra, ncap n), rfl, Or.inr ⟨rfl, by omega, rfl⟩, m0 + 1, by subst ht; exact hw3⟩, hS.F ht⟩) hS.2.2 dJx4a65c_add_7a177_64
