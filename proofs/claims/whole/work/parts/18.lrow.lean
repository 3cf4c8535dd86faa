/-! MEMBERS OF ArrayList: a list's two cells, rows, calls -/
def lR (k mc ms : Nat) : Room := { frames := k, cells := mc, slots := ms, locals := 40 * k }
abbrev llist (a : Nat) (m : Int32) (r : Nat) (n : Int32) : Nat × va_E := (a, .inr (3, [.int m, .ref r, .int n]))
abbrev lrow (E : mEnv) (r cap : Nat) (f : Nat → Option Nat) : Nat × va_E := (r, .inl (eC E 4, cap, .inr (.inr (.inr (.inr f)))))
/-- the row of a list: of a list without room it is the class's own empty row, of which the tables speak -/
def lrAt (E : mEnv) (r cap : Nat) (f : Nat → Option Nat) (H : Heap) : Prop := r < H.size ∧ (cap ≠ 0 → va_at (eD E) vwCl (lrow E r cap f) H)
theorem lrAt.lt {E : mEnv} {r cap : Nat} {f : Nat → Option Nat} {H : Heap} (h : lrAt E r cap f H) : r < H.size := h.1
theorem lrAt.of {E : mEnv} {r cap : Nat} {f : Nat → Option Nat} {H : Heap} (h : va_at (eD E) vwCl (lrow E r cap f) H) : lrAt E r cap f H := ⟨h.lt, fun _ => h⟩
theorem lrAt.kept {E : mEnv} {r cap : Nat} {f : Nat → Option Nat} {H H1 : Heap} (h : lrAt E r cap f H) (hr : H1[r]? = H[r]?) : lrAt E r cap f H1 :=
  ⟨(Array.getElem?_eq_some_iff.mp (hr.trans (Array.getElem?_eq_getElem h.1))).1, fun c => (h.2 c).kept hr⟩
theorem lrAt.ne {E : mEnv} {r cap : Nat} {f : Nat → Option Nat} {H : Heap} (h : lrAt E r cap f H) {i : Int32} (hin : vp_in i cap) : va_at (eD E) vwCl (lrow E r cap f) H := h.2 (fun z => hin (Or.inr (by rw [z]; exact Nat.zero_le _)))
def LW (E : mEnv) (a : Nat) (m : Int32) (r : Nat) (n : Int32) (cap : Nat) (f : Nat → Option Nat) (H : Heap) : Prop := va_at (eD E) vwCl (llist a m r n) H ∧ lrAt E r cap f H
theorem LW.kept {E : mEnv} {a : Nat} {m : Int32} {r : Nat} {n : Int32} {cap : Nat} {f : Nat → Option Nat} {H H1 : Heap} (h : LW E a m r n cap f H) (ha : H1[a]? = H[a]?) (hr : H1[r]? = H[r]?) : LW E a m r n cap f H1 := ⟨h.1.kept ha, h.2.kept hr⟩
theorem LW.stay {E : mEnv} {a : Nat} {m : Int32} {r : Nat} {n : Int32} {cap : Nat} {f : Nat → Option Nat} {H H1 : Heap} {A : Nat → Prop} (h : LW E a m r n cap f H) (hk : ∀ q : Nat, q < H.size → ¬ A q → H1[q]? = H[q]?) (ha : ¬ A a) (hr : ¬ A r) : LW E a m r n cap f H1 := h.kept (hk _ h.1.lt ha) (hk _ h.2.lt hr)
/-- an object of a class of vwCl -/
def EL (E : mEnv) (ci y : Nat) (H : Heap) : Prop := ∃ vs, va_at (eD E) vwCl (y, .inr (ci, vs)) H
theorem EL.kept {E : mEnv} {ci y : Nat} {H H1 : Heap} (h : EL E ci y H) (hq : H1[y]? = H[y]?) : EL E ci y H1 := h.imp fun _ q => q.kept hq
theorem EL.lt {E : mEnv} {ci y : Nat} {H : Heap} (h : EL E ci y H) : y < H.size := h.elim fun _ q => q.lt
/-- a class whose objects may stand in a row of objects -/
def elOK (C : String) (ci : Nat) : Prop := ∃ T N, vwCl[ci]? = some (C, T, N) ∧ Jvm.Cond.castable C "java/lang/Object" ∈ lw_tbl
theorem el_3 : elOK RX3 7 := ⟨_, _, rfl, la_cRX3⟩
theorem el_7 : elOK RX5 9 := ⟨_, _, rfl, la_cRX5⟩
theorem el_9 : elOK RX4 8 := ⟨_, _, rfl, la_cRX4⟩
/-- what every contract of a member takes as given -/
def lT (E : mEnv) (S : mStr) (U : State) : Prop := mTab E S U ∧ mBase E U.heap
theorem lT.call {E : mEnv} {S : mStr} {U : State} {g : JFrame} {mk : MethodId} {a : Array Value} (h : lT E S U) : lT E S (U.calling g mk a) := ⟨mTab.same (s := U) (U := U.calling g mk a) rfl h.1, h.2⟩
def lP (E : mEnv) (S : mStr) (sz : Nat) (av : List Value) (B : Heap → Prop) : Array Value → State → Prop := va_Pc av (fun U => lT E S U ∧ U.heap.size = sz ∧ B U.heap)
theorem lP.blind {E : mEnv} {S : mStr} {sz : Nat} {av : List Value} {B : Heap → Prop} : FrameBlind (lP E S sz av B) := fun a U g mk h => ⟨h.1, h.2.1.call, h.2.2.1, h.2.2.2⟩
theorem mBase.S {E : mEnv} {F : Nat → Prop} {H0 H : Heap} {locs : List Loc} (h : mBase E H0) (hF : ∀ q, F q → eN E ≤ q) (hS : va_S F H0 H locs) : mBase E H :=
  ⟨Nat.le_trans h.1 hS.1, fun q hq => (hS.2.1 q (Nat.lt_of_lt_of_le hq h.1) (fun z => by have := hF q z; omega)).trans (h.2 q hq)⟩
/-- where a walk stands: the machine, the code, the tables, the own class -/
abbrev lC (E : mEnv) (S : mStr) (p : Program) (s : State) (m : MethodId) (c : Code) (cc : ByteArray) (nL : Nat) (args : Array Value) (own : String) : Prop := CallFix p m c cc nL s args lw_good own ∧ lT E S s
section LRows
variable {p : Program} {l : Launch} {e : Env} {R : Room} {s : State} {m : MethodId} {args : Array Value} {below : List Frame} {meth : Method} {c : Code} {H : Heap} {locs : List Loc} {cells slots : Nat} {Q : State → Prop}
variable {E : mEnv} {S : mStr} {cc : ByteArray} {pc nL : Nat} {ls : Array Slot} {rest : List Value} {F : Nat → Prop} {H0 : Heap} {a r cap : Nat} {m0 n0 : Int32} {f : Nat → Option Nat}
theorem lw_getm (X : lC E S p s m c cc nL args RJx4a65c) (hw : LW E a m0 r n0 cap f H) (hdg : decode cc pc = .ok (.getfield 63, 3)) (kk : W p l e R s m args below meth c H locs cells slots Q (F0 m (pc + 3) ls (.int m0 :: rest))) : W p l e R s m args below meth c H locs cells slots Q (F0 m pc ls (.ref a :: rest)) :=
  va_get (D := eD E) (ci := 3) (v := .int m0) (C := RJx4a65c) (T := TJx4a65c) (N := 3) X.1.1 X.1.2.1 X.1.2.2.2.2 la_ws X.1.2.2.2.1 X.2.1.1 (one_P hw.1) 0 rfl rfl 0 (by decide) (X.1.2.2.2.2 _ la_f63) (u_same (X.1.2.2.2.2 _ la_same)) rfl hdg kk
theorem lw_gete (X : lC E S p s m c cc nL args RJx4a65c) (hw : LW E a m0 r n0 cap f H) (hdg : decode cc pc = .ok (.getfield 9, 3)) (kk : W p l e R s m args below meth c H locs cells slots Q (F0 m (pc + 3) ls (.ref r :: rest))) : W p l e R s m args below meth c H locs cells slots Q (F0 m pc ls (.ref a :: rest)) :=
  va_get (D := eD E) (ci := 3) (v := .ref r) (C := RJx4a65c) (T := TJx4a65c) (N := 3) X.1.1 X.1.2.1 X.1.2.2.2.2 la_ws X.1.2.2.2.1 X.2.1.1 (one_P hw.1) 0 rfl rfl 1 (by decide) (X.1.2.2.2.2 _ la_f9) (fun _ h9 => h9) rfl hdg kk
theorem lw_gets (X : lC E S p s m c cc nL args RJx4a65c) (hw : LW E a m0 r n0 cap f H) (hdg : decode cc pc = .ok (.getfield 48, 3)) (kk : W p l e R s m args below meth c H locs cells slots Q (F0 m (pc + 3) ls (.int n0 :: rest))) : W p l e R s m args below meth c H locs cells slots Q (F0 m pc ls (.ref a :: rest)) :=
  va_get (D := eD E) (ci := 3) (v := .int n0) (C := RJx4a65c) (T := TJx4a65c) (N := 3) X.1.1 X.1.2.1 X.1.2.2.2.2 la_ws X.1.2.2.2.1 X.2.1.1 (one_P hw.1) 0 rfl rfl 2 (by decide) (X.1.2.2.2.2 _ la_f48) (fun _ h9 => h9) rfl hdg kk
theorem lw_putm (X : lC E S p s m c cc nL args RJx4a65c) (hw : LW E a m0 r n0 cap f H) (hne : a ≠ r) (hFa : F a) (hS : va_S F H0 H locs) {v : Int32} (hdg : decode cc pc = .ok (.putfield 63, 3)) (kk : ∀ (H1 : Heap) (locs1 : List Loc), LW E a v r n0 cap f H1 → H1.size = H.size → (∀ q : Nat, q ≠ a → H1[q]? = H[q]?) → va_S F H0 H1 locs1 → W p l e R s m args below meth c H1 locs1 cells slots Q (F0 m (pc + 3) ls rest)) : W p l e R s m args below meth c H locs cells slots Q (F0 m pc ls (.int v :: .ref a :: rest)) :=
  mw_put (D := eD E) (ci := 3) (v := .int v) (ty := .int) (C := RJx4a65c) (T := TJx4a65c) (N := 3) X.1.1 X.1.2.1 X.1.2.2.2.2 la_ws tyJx4a65c tyJx4a65c_ok nmJx4a65c X.1.2.2.2.1 X.2.1.1 hS hw.1 hFa rfl 0 (by decide) (X.1.2.2.2.2 _ la_f63) (u_same (X.1.2.2.2.2 _ la_same)) rfl (by decide +kernel) rfl rfl (Nat.le_of_ble_eq_true rfl) hdg (fun H1 locs1 hat z oq hS1 => kk H1 locs1 ⟨hat, hw.2.kept (oq _ (Ne.symm hne))⟩ z oq hS1)
theorem lw_pute (X : lC E S p s m c cc nL args RJx4a65c) {r1 cap1 : Nat} {f1 : Nat → Option Nat} (hw : va_at (eD E) vwCl (llist a m0 r n0) H) (hw1 : lrAt E r1 cap1 f1 H) (hne : a ≠ r1) (hFa : F a) (hS : va_S F H0 H locs) (hdg : decode cc pc = .ok (.putfield 9, 3)) (kk : ∀ (H1 : Heap) (locs1 : List Loc), LW E a m0 r1 n0 cap1 f1 H1 → H1.size = H.size → (∀ q : Nat, q ≠ a → H1[q]? = H[q]?) → va_S F H0 H1 locs1 → W p l e R s m args below meth c H1 locs1 cells slots Q (F0 m (pc + 3) ls rest)) : W p l e R s m args below meth c H locs cells slots Q (F0 m pc ls (.ref r1 :: .ref a :: rest)) :=
  mw_put (D := eD E) (ci := 3) (v := .ref r1) (ty := .array (.object "java/lang/Object")) (C := RJx4a65c) (T := TJx4a65c) (N := 3) X.1.1 X.1.2.1 X.1.2.2.2.2 la_ws tyJx4a65c tyJx4a65c_ok nmJx4a65c X.1.2.2.2.1 X.2.1.1 hS hw hFa rfl 1 (by decide) (X.1.2.2.2.2 _ la_f9) (fun _ h9 => h9) rfl (by decide +kernel) rfl rfl (Nat.le_of_ble_eq_true rfl) hdg (fun H1 locs1 hat z oq hS1 => kk H1 locs1 ⟨hat, hw1.kept (oq _ (Ne.symm hne))⟩ z oq hS1)
theorem lw_puts (X : lC E S p s m c cc nL args RJx4a65c) (hw : LW E a m0 r n0 cap f H) (hne : a ≠ r) (hFa : F a) (hS : va_S F H0 H locs) {v : Int32} (hdg : decode cc pc = .ok (.putfield 48, 3)) (kk : ∀ (H1 : Heap) (locs1 : List Loc), LW E a m0 r v cap f H1 → H1.size = H.size → (∀ q : Nat, q ≠ a → H1[q]? = H[q]?) → va_S F H0 H1 locs1 → W p l e R s m args below meth c H1 locs1 cells slots Q (F0 m (pc + 3) ls rest)) : W p l e R s m args below meth c H locs cells slots Q (F0 m pc ls (.int v :: .ref a :: rest)) :=
  mw_put (D := eD E) (ci := 3) (v := .int v) (ty := .int) (C := RJx4a65c) (T := TJx4a65c) (N := 3) X.1.1 X.1.2.1 X.1.2.2.2.2 la_ws tyJx4a65c tyJx4a65c_ok nmJx4a65c X.1.2.2.2.1 X.2.1.1 hS hw.1 hFa rfl 2 (by decide) (X.1.2.2.2.2 _ la_f48) (fun _ h9 => h9) rfl (by decide +kernel) rfl rfl (Nat.le_of_ble_eq_true rfl) hdg (fun H1 locs1 hat z oq hS1 => kk H1 locs1 ⟨hat, hw.2.kept (oq _ (Ne.symm hne))⟩ z oq hS1)
theorem lw_alenV (hx : p.tables.exec = Jvm.exec) (hb : c.code = cc) (T : lT E S s) (hw : va_at (eD E) vwCl (lrow E r cap f) H) (hdg : decode cc pc = .ok (.arraylength, 1)) (kk : W p l e R s m args below meth c H locs cells slots Q (F0 m (pc + 1) ls (.int (nI cap) :: rest))) : W p l e R s m args below meth c H locs cells slots Q (F0 m pc ls (.ref r :: rest)) :=
  va_alen hx hb T.1.1 (one_P hw) 0 4 rfl rfl rfl hdg kk
theorem lw_alen (hx : p.tables.exec = Jvm.exec) (hb : c.code = cc) (T : lT E S s) (hS : va_S F s.heap H locs) (hA : ∀ q, F q → eN E ≤ q) (hw : lrAt E r cap f H) (hz : cap = 0 → r = eE E) (hdg : decode cc pc = .ok (.arraylength, 1)) (kk : W p l e R s m args below meth c H locs cells slots Q (F0 m (pc + 1) ls (.int (nI cap) :: rest))) : W p l e R s m args below meth c H locs cells slots Q (F0 m pc ls (.ref r :: rest)) := by
  by_cases h : cap = 0
  · rw [hz h]
    have hT := (T.1.2.2.2.2.2.2.1.2.2.kept (H1 := s.heap) (fun a ha hn => T.2.2 a (by have := T.1.2.2.2.2.1; omega))).narrow hA
    exact va_tlen hx hb hT hS (v := nI cap) (by rw [h]; rfl) hdg kk
  · exact lw_alenV hx hb T (hw.2 h) hdg kk
theorem lw_ald (hx : p.tables.exec = Jvm.exec) (hb : c.code = cc) (T : lT E S s) (hw : lrAt E r cap f H) {i : Int32} (hin : vp_in i cap) {y : Nat} (hy : f i.toNatClampNeg = some y) (hdg : decode cc pc = .ok (.aaload, 1)) (kk : W p l e R s m args below meth c H locs cells slots Q (F0 m (pc + 1) ls (.ref y :: rest))) : W p l e R s m args below meth c H locs cells slots Q (F0 m pc ls (.int i :: .ref r :: rest)) := by
  refine va_aldq hx hb T.1.1 (one_P (hw.ne hin)) 0 4 rfl rfl hin hdg ?_
  rw [hy]
  exact kk
theorem lw_ast (hx : p.tables.exec = Jvm.exec) (hb : c.code = cc) (T : lT E S s) (hw : LW E a m0 r n0 cap f H) (hne : a ≠ r) (hFr : F r) (hS : va_S F H0 H locs) {C : String} {ci : Nat} (hc : elOK C ci) {v : Nat} (hv : EL E ci v H) {i : Int32} (hin : vp_in i cap) (hdg : decode cc pc = .ok (.aastore, 1))
    (kk : ∀ (H1 : Heap) (locs1 : List Loc), LW E a m0 r n0 cap (va_up f i.toNatClampNeg (some v)) H1 → H1.size = H.size → (∀ q : Nat, q ≠ r → H1[q]? = H[q]?) → va_S F H0 H1 locs1 → W p l e R s m args below meth c H1 locs1 cells slots Q (F0 m (pc + 1) ls rest)) : W p l e R s m args below meth c H locs cells slots Q (F0 m pc ls (.ref v :: .int i :: .ref r :: rest)) := by
  have hlt : i.toNatClampNeg < cap := Nat.not_le.mp fun q => hin (Or.inr q)
  have h0 : ¬ i < 0 := fun q => hin (Or.inl q)
  obtain ⟨TT, N, hcl, hca⟩ := hc
  obtain ⟨vs, hv⟩ := hv
  have hK := T.1.1
  have hca2 := T.1.2.2.2.2.2.1 _ hca rfl
  obtain ⟨r', hr', cellV, g1, g2, g3, -⟩ := hv
  have hcls := (hK.1 ci _ hcl).2
  obtain ⟨kA, comp, k1, k2, k3, -⟩ := (hK.2 4 _ rfl).2
  obtain ⟨kE, hkE, -⟩ := Vm.findClass_spec k3
  obtain ⟨c0, t1, f1, f2, f3⟩ := Cond.castable_spec (va_Nw.use (A := args) rfl hca2)
  cases hcls.1.symm.trans f1
  cases k3.symm.trans f2
  obtain ⟨kC, hkC, -⟩ := hcls.2
  refine W.aast hx hb (hw.2.ne hin) (fun q h => by cases h) (fun h => by cases h) k1 k2 rfl hkE ⟨h0, by show _ < (arrV _ _ _).slots.size; rw [arrV_size]; exact hlt⟩ g1 (fun q h => by rw [g3] at h; cases h) (by rw [g2]; exact hkC) (by rw [g2]; exact f3) rfl rfl hdg fun H1 e z oq => ?_
  refine kk H1 _ ⟨hw.1.kept (oq _ hne), lrAt.of ?_⟩ z oq (hS.put z oq hFr)
  show H1[r]? = some (vp_cell _ _)
  rw [e]
  rw [vp_cell_q, vp_cell_q, arrV_store]
  congr 2
  funext q
  by_cases hq : q = i.toNatClampNeg
  · subst hq
    simp [updV, va_up, va_rf]
  · simp [updV, va_up, hq]
theorem lw_astN (hx : p.tables.exec = Jvm.exec) (hb : c.code = cc) (T : lT E S s) (hw : LW E a m0 r n0 cap f H) (hne : a ≠ r) (hFr : F r) (hS : va_S F H0 H locs) {i : Int32} (hin : vp_in i cap) (hdg : decode cc pc = .ok (.aastore, 1))
    (kk : ∀ (H1 : Heap) (locs1 : List Loc), LW E a m0 r n0 cap (va_up f i.toNatClampNeg none) H1 → H1.size = H.size → (∀ q : Nat, q ≠ r → H1[q]? = H[q]?) → va_S F H0 H1 locs1 → W p l e R s m args below meth c H1 locs1 cells slots Q (F0 m (pc + 1) ls rest)) : W p l e R s m args below meth c H locs cells slots Q (F0 m pc ls (.null :: .int i :: .ref r :: rest)) := by
  have hK := T.1.1
  refine va_WaastN (C := "java/lang/Object") hx hb (hw.2.ne hin) ((hK.2 4 _ rfl).1 cap (fun j => va_rf (f j))) (fun h => by cases h) (by show ¬ (i < 0 ∨ (arrV _ _ _).slots.size ≤ _); rw [arrV_size]; exact hin) rfl rfl hdg fun H1 e z oq => ?_
  refine kk H1 _ ⟨hw.1.kept (oq _ hne), lrAt.of ?_⟩ z oq (hS.put z oq hFr)
  show H1[r]? = some (vp_cell _ _)
  rw [e]
  rw [vp_cell_q, vp_cell_q, arrV_store]
  congr 2
  funext q
  by_cases hq : q = i.toNatClampNeg
  · subst hq
    simp [updV, va_up, va_rf]
  · simp [updV, va_up, hq]
/-- calls of a member: static, and of the list's class -/
theorem lc_S {own : String} {q : mMeth} {x k mc ms : Nat} {Pc : Array Value → State → Prop} {Qc : Array Value → State → Outcome → State → Prop} {free : Addr → Prop} {As stk : List Value} (X : lC E S p s m c cc nL args own) (hq : methOK q) (hqs : qS q = true) (hlink : Jvm.Cond.methodLink own x (qY q) ∈ lw_good)
    (hM : Met l (qY q) (qWs q) (lR k mc ms) Pc Qc mc ms free) (hbl : FrameBlind Pc) (hp : ∀ U : State, U.heap = H → s.WarmedH U.vm → Pc As.toArray U) (hn : As.length = qN q) (hls : ls.size = nL) (hst : stk = As.reverse ++ rest) (hcat : (rest.map fun v => v.category).sum ≤ 8)
    (hk : k + 1 ≤ R.frames) (hlo : 40 * k + 40 ≤ R.locals) (hro : cells + mc ≤ R.cells ∧ slots + ms ≤ R.slots) (hdg : decode cc pc = .ok (.invokestatic x, 3)) : va_Run p l e R s m args below meth c H locs cells slots mc ms (F0 m pc ls stk) rest (Qc As.toArray) free := by
  obtain ⟨q1, q2, q3, q4, q5, q6⟩ := hq
  rw [hqs, if_pos rfl] at q6
  have ht := X.1.2.2.2.2
  exact va_runS (Ts := lw_good) (own := own) (As := As) X.1 hM ⟨callB_of (qN q) ht (qWs_good q1) rfl rfl rfl (ht _ q2) (ht _ hlink) ⟨q4.1, q4.2, q6.1⟩ ⟨hk, by show 8 + (qL q + 11) + 40 * k ≤ R.locals; omega⟩, ht _ q6.2⟩ ⟨hbl, hp⟩ rfl hn hls hst (lv_room hcat) hdg hro
theorem lc_V {own : String} {q : mMeth} {x k mc ms b : Nat} {fs : List Value} {Pc : Array Value → State → Prop} {Qc : Array Value → State → Outcome → State → Prop} {free : Addr → Prop} {As stk : List Value} (X : lC E S p s m c cc nL args own) (hq : methOK q) (hqs : qS q = false) (hlink : Jvm.Cond.methodLink own x (qY q) ∈ lw_good)
    (hM : Met l (qY q) (qWs q) (lR k mc ms) Pc Qc mc ms free) (hbl : FrameBlind Pc) (hb : va_at (eD E) vwCl (b, .inr (qI q, fs)) H) (hp : ∀ U : State, U.heap = H → s.WarmedH U.vm → Pc (Value.ref b :: As).toArray U) (hn : As.length + 1 = qN q) (hls : ls.size = nL) (hst : stk = As.reverse ++ .ref b :: rest) (hcat : (rest.map fun v => v.category).sum ≤ 8)
    (hk : k + 1 ≤ R.frames) (hlo : 40 * k + 40 ≤ R.locals) (hro : cells + mc ≤ R.cells ∧ slots + ms ≤ R.slots) (hdg : decode cc pc = .ok (.invokevirtual x, 3)) : va_Run p l e R s m args below meth c H locs cells slots mc ms (F0 m pc ls stk) rest (Qc (Value.ref b :: As).toArray) free := by
  obtain ⟨q1, q2, q3, q4, q5, q6⟩ := hq
  rw [hqs, if_neg (by decide)] at q6
  obtain ⟨n, em, q6, q7, q8, T9, N9, q9⟩ := q6
  have ht := X.1.2.2.2.2
  exact va_runV (Ts := lw_good) (own := own) (C := (qY q).cls) (b := b) (As := As) X.1 hM ⟨callB_of n ht (qWs_good q1) rfl rfl rfl (ht _ q2) (ht _ hlink) ⟨q4.1, q4.2, q6⟩ ⟨hk, by show 8 + (qL q + 11) + 40 * k ≤ R.locals; omega⟩, ht _ q7, ht _ q8⟩ ⟨hbl, va_recv X.2.1.1 (one_P hb) q9 (q0 := 0) rfl, hp⟩ rfl (by omega) hls hst (lv_room hcat) hdg hro
end LRows
