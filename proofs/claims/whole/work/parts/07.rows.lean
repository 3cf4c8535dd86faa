theorem mCell_congr {E : mEnv} {cap : Nat → Nat} {mdc : Nat → Int32} {st st' : mS} {La : mLa} {k i : Nat} (h1 : sI st' k i = sI st k i) (h2 : sJ st' k i = sJ st k i) (h3 : sD st' k i = sD st k i) (h4 : sN st' = sN st) (h5 : sR st' i = sR st i) (h6 : sL st' = sL st) : mCell E cap mdc st' La k i = mCell E cap mdc st La k i := by
  have hm : ∀ j fd, mfv st' k i j fd = mfv st k i j fd := by
    intro j fd
    match fd with
    | 0 => show mi _ = mi _; rw [h1]
    | 1 => show ml _ = ml _; rw [h2]
    | 2 => show mr _ _ = mr _ _; rw [h5]
    | n + 3 => rfl
  unfold mCell
  simp only [hm, h1, h2, h3, h4, h6]
theorem mCell_some {E : mEnv} {cap : Nat → Nat} {mdc : Nat → Int32} {st st' : mS} {La : mLa} {k i : Nat} (h4 : sN st' = sN st) {e : va_E} (h : mCell E cap mdc st' La k i = some e) : ∃ e0, mCell E cap mdc st La k i = some e0 := by
  unfold mCell at h ⊢
  rw [h4] at h
  split at h
  · cases h
  · rename_i h9
    rw [if_neg h9]
    split at h
    · exact ⟨_, rfl⟩
    · split at h
      · exact ⟨_, rfl⟩
      · exact ⟨_, rfl⟩
      · exact ⟨_, rfl⟩
      · split at h
        · rename_i h5; rw [if_pos h5]; exact ⟨_, rfl⟩
        · rename_i h5
          rw [if_neg h5]
          split at h
          · rename_i h5; rw [if_pos h5]; exact ⟨_, rfl⟩
          · cases h
/-- one cell is written -/
theorem world_put {E : mEnv} {st st' : mS} {La : mLa} {H H1 : Heap} {k i : Nat} {e9 : va_E} (hw : mWorld E st La H) (hwf : mWF E st') (h4 : sN st' = sN st) (h6 : sL st' = sL st)
    (hne : ∀ cap mdc k' i', ¬ (k' = k ∧ i' = i) → mCell E cap mdc st' La k' i' = mCell E cap mdc st La k' i')
    (hat : va_at (eD E) vwCl (La k i, e9) H1) (hce : ∀ cap mdc, mCell E cap mdc st' La k i = some e9) (ho : ∀ q, q ≠ La k i → H1[q]? = H[q]?) (hz : H1.size = H.size) : mWorld E st' La H1 := by
  obtain ⟨hb, -, cap, mdc, hl, hc, hinj⟩ := hw
  obtain ⟨e8, he8⟩ := mCell_some (st := st) h4 (hce cap mdc)
  have hlo := (hc k i e8 he8).1
  refine ⟨⟨by rw [hz]; exact hb.1, fun q hq => by rw [ho q (by omega)]; exact hb.2 q hq⟩, hwf, cap, mdc, by rw [h6]; exact hl, fun k' i' e he => ?_, fun k1 i1 k2 i2 e1 e2 he1 he2 => ?_⟩
  · by_cases hn : k' = k ∧ i' = i
    · obtain ⟨rfl, rfl⟩ := hn
      rw [hce] at he
      cases he
      exact ⟨hlo, hat⟩
    · rw [hne _ _ _ _ hn] at he
      obtain ⟨g1, g2⟩ := hc k' i' e he
      exact ⟨g1, g2.kept (ho _ fun q => hn (hinj _ _ _ _ _ _ he he8 q))⟩
  · obtain ⟨g1, z1⟩ := mCell_some (st := st) h4 he1
    obtain ⟨g2, z2⟩ := mCell_some (st := st) h4 he2
    exact hinj _ _ _ _ _ _ z1 z2
theorem up3_ne {α : Type} {f : Nat → Nat → Nat → α} {k i j k' i' : Nat} {v : α} (h : ¬ (k' = k ∧ i' = i)) : up3 f k i j v k' i' = f k' i' := by
  funext x
  unfold up3
  rw [if_neg]
  exact fun q => h ⟨q.1, q.2.1⟩
theorem up3_at {α : Type} {f : Nat → Nat → Nat → α} {k i j : Nat} {v : α} (x : Nat) : up3 f k i j v k i x = if x = j then v else f k i x := by
  unfold up3
  by_cases h : x = j
  · rw [if_pos ⟨rfl, rfl, h⟩, if_pos h]
  · rw [if_neg (fun q => h q.2.2), if_neg h]
theorem wf_putI {E : mEnv} {st : mS} {k i j : Nat} {v : Int} (h : mWF E st) (hv : inR v) (hk : k ≠ 62) : mWF E (putI st k i j v) := by
  refine ⟨fun a b c => ?_, h.2.1, h.2.2.1, h.2.2.2.1, fun a b hb => ?_⟩
  · show inR (up3 _ _ _ _ _ _ _ _)
    unfold up3
    split
    · exact hv
    · exact h.1 a b c
  · show up3 _ _ _ _ _ _ _ _ = _
    unfold up3
    rw [if_neg (fun q => hk q.1.symm)]
    exact h.2.2.2.2 a b hb
theorem wf_putJ {E : mEnv} {st : mS} {k i j : Nat} {v : Int64} (h : mWF E st) : mWF E (putJ st k i j v) := h
theorem wf_putD {E : mEnv} {st : mS} {k i j : Nat} {v : UInt64} (h : mWF E st) : mWF E (putD st k i j v) := h
theorem world_putI {E : mEnv} {st : mS} {La : mLa} {H H1 : Heap} {k i j : Nat} {v : Int} {e9 : va_E} (hw : mWorld E st La H) (hv : inR v) (hk : k ≠ 62)
    (hat : va_at (eD E) vwCl (La k i, e9) H1) (hce : ∀ cap mdc, mCell E cap mdc (putI st k i j v) La k i = some e9) (ho : ∀ q, q ≠ La k i → H1[q]? = H[q]?) (hz : H1.size = H.size) : mWorld E (putI st k i j v) La H1 :=
  world_put hw (wf_putI hw.2.1 hv hk) rfl rfl (fun cap mdc k' i' hn => mCell_congr (up3_ne hn) rfl rfl rfl rfl rfl) hat hce ho hz
theorem world_putJ {E : mEnv} {st : mS} {La : mLa} {H H1 : Heap} {k i j : Nat} {v : Int64} {e9 : va_E} (hw : mWorld E st La H)
    (hat : va_at (eD E) vwCl (La k i, e9) H1) (hce : ∀ cap mdc, mCell E cap mdc (putJ st k i j v) La k i = some e9) (ho : ∀ q, q ≠ La k i → H1[q]? = H[q]?) (hz : H1.size = H.size) : mWorld E (putJ st k i j v) La H1 :=
  world_put hw (wf_putJ hw.2.1) rfl rfl (fun cap mdc k' i' hn => mCell_congr rfl (up3_ne hn) rfl rfl rfl rfl) hat hce ho hz
theorem world_putD {E : mEnv} {st : mS} {La : mLa} {H H1 : Heap} {k i j : Nat} {v : UInt64} {e9 : va_E} (hw : mWorld E st La H)
    (hat : va_at (eD E) vwCl (La k i, e9) H1) (hce : ∀ cap mdc, mCell E cap mdc (putD st k i j v) La k i = some e9) (ho : ∀ q, q ≠ La k i → H1[q]? = H[q]?) (hz : H1.size = H.size) : mWorld E (putD st k i j v) La H1 :=
  world_put hw (wf_putD hw.2.1) rfl rfl (fun cap mdc k' i' hn => mCell_congr rfl rfl (up3_ne hn) rfl rfl rfl) hat hce ho hz
section HeapRows
variable {p : Program} {l : Launch} {e : Env} {R : Room} {s : State} {m : MethodId} {args : Array Value} {below : List Frame} {meth : Method} {c : Code} {H : Heap} {locs : List Loc} {cells slots : Nat} {Q : State → Prop}
variable {cc : ByteArray} {pc : Nat} {ls : Array Slot} {rest : List Value} {D : va_G} {cl : List vw_C} {A : Nat → Prop} {a : Nat} {tys : List (ClassId × FieldType)} {H0 : Heap}
/-- va_put, va_iast, va_zast, va_last, va_dast of the kit, over one cell, with what the other cells are afterwards -/
theorem mw_put (hexec : p.tables.exec = Jvm.exec) (hb : c.code = cc) {own ref C : String} {T : u_T} {N ci index : Nat} {Ts : List Jvm.Cond} (hts : ∀ w ∈ Ts, w.before args s = true) (hin : ∀ w ∈ u_ws C T N, w ∈ Ts) (ty0 : Nat → FieldType) (hty : ∀ k, k < N → parseFieldDescriptor (T k).2.2.1 = some (ty0 k)) (hnm : ∀ a, a < N → ∀ b, b < N → a ≠ b → (T a).2.1 ≠ (T b).2.1) (hown : s.vm.findClass own = some m.cls) (hK : va_K D cl tys s) (hS0 : va_S A H0 H locs) {fs : List Value} (hat : va_at D cl (a, .inr (ci, fs)) H) (haA : A a) (hc : cl[ci]? = some (C, T, N)) (k : Nat) (hk : k < N) (hlink : (Jvm.Cond.fieldLink own index ref (T k).2.1 (T k).2.2.1).before args s = true) (hsame : ∀ x, s.fieldFound? (T k).1 (T k).2.1 (T k).2.2.1 = some x → s.fieldFound? ref (T k).2.1 (T k).2.2.1 = some x) (hfin : (T k).2.2.2 = false) {ty : FieldType} {v : Value} (hd : parseFieldDescriptor (T k).2.2.1 = some ty) (hn : narrow ty v = v) (hfit : fits ty v = true) (hl : k < fs.length)
    (hdg : decode cc pc = .ok (.putfield index, 3)) (kk : ∀ (H1 : Heap) (locs1 : List Loc), va_at D cl (a, .inr (ci, fs.set k v)) H1 → H1.size = H.size → (∀ q, q ≠ a → H1[q]? = H[q]?) → va_S A H0 H1 locs1 → W p l e R s m args below meth c H1 locs1 cells slots Q (F0 m (pc + 3) ls rest)) : W p l e R s m args below meth c H locs cells slots Q (F0 m pc ls (v :: .ref a :: rest)) := by
  have hap := va_apart (own := own) hts hin ty0 hty hnm hK hc
  obtain ⟨r, h1, cell, q1, q2, q3, q4⟩ := hat
  have hr : r = (C, T, N) := Option.some.inj (h1.symm.trans hc)
  subst hr
  obtain ⟨hS, hfc, kC, hkC, hkind⟩ := hK.1 ci _ hc
  obtain ⟨cf, kf, fi, f, hi, hsl⟩ := hS k hk
  have hlay := hts _ (hin _ (u_in_lay hk))
  unfold u_lay at hlay
  rw [if_neg (by rw [hfin]; decide)] at hlay
  have hst := (u_facts hfc hkC (u_lays hts hin hk) hi).1
  have h6 := u_store hfc hkC hkind hlay hi hd hn hfit
  refine W.putK hexec hb (f := f) ⟨hown, hlink, ⟨_, _, _, hsame _ hi⟩, hst⟩ (by rw [q2]; exact h6) q1 q3 (by rw [hsl]; exact k2_hasslot (q4 k hk)) rfl rfl hdg fun H' e1 e2 e3 => ?_
  rw [hsl] at e1 ⊢
  exact kk H' _ ⟨_, hc, t_OB.to (V := updV (vp_V fs) k v) ⟨_, e1, q2, q3, t_set q4 hap hk v⟩ (fun j _ => vp_updV_set hl v j)⟩ e2 e3 (hS0.put e2 e3 haA)
theorem mw_iast (hexec : p.tables.exec = Jvm.exec) (hb : c.code = cc) (hK : va_K D cl tys s) (hS : va_S A H0 H locs) (t0 : Nat) {cA : ClassId} {n : Nat} {f : Nat → Int32} (hat : va_at D cl (a, .inl (cA, n, .inl f)) H) (haA : A a) (ht : tys[t0]? = some (cA, .int)) {i : Int32} {x : Int32} (hin : vp_in i n) (hdg : decode cc pc = .ok (.iastore, 1))
    (kk : ∀ (H1 : Heap) (locs1 : List Loc), va_at D cl (a, .inl (cA, n, .inl (upd f i.toNatClampNeg x))) H1 → H1.size = H.size → (∀ q, q ≠ a → H1[q]? = H[q]?) → va_S A H0 H1 locs1 → W p l e R s m args below meth c H1 locs1 cells slots Q (F0 m (pc + 1) ls rest)) : W p l e R s m args below meth c H locs cells slots Q (F0 m pc ls (.int x :: .int i :: .ref a :: rest)) := by
  refine W.iast hexec hb hat ((hK.2 t0 _ ht).1 n (fun j => .int (f j))) (fun q => by cases q) (by show ¬ (i < 0 ∨ (arrV _ _ _).slots.size ≤ _); rw [arrV_size]; exact hin) rfl rfl hdg fun H1 e z oq => ?_
  refine kk H1 _ ?_ z oq (hS.put z oq haA)
  show H1[a]? = some (vp_cell _ _)
  rw [e]
  rw [vp_cell_i, vp_cell_i, arrV_store]
  congr 2
  funext q
  by_cases hq : q = i.toNatClampNeg
  · subst hq
    simp [updV, upd]
  · simp [updV, upd, hq]
theorem mw_zast (hexec : p.tables.exec = Jvm.exec) (hb : c.code = cc) (hK : va_K D cl tys s) (hS : va_S A H0 H locs) (t0 : Nat) {cA : ClassId} {n : Nat} {f : Nat → Int32} (hat : va_at D cl (a, .inl (cA, n, .inl f)) H) (haA : A a) (ht : tys[t0]? = some (cA, .boolean)) {i : Int32} {x : Int32} (hx : vp_nar .boolean x = x) (hin : vp_in i n) (hdg : decode cc pc = .ok (.bastore, 1))
    (kk : ∀ (H1 : Heap) (locs1 : List Loc), va_at D cl (a, .inl (cA, n, .inl (upd f i.toNatClampNeg x))) H1 → H1.size = H.size → (∀ q, q ≠ a → H1[q]? = H[q]?) → va_S A H0 H1 locs1 → W p l e R s m args below meth c H1 locs1 cells slots Q (F0 m (pc + 1) ls rest)) : W p l e R s m args below meth c H locs cells slots Q (F0 m pc ls (.int x :: .int i :: .ref a :: rest)) := by
  refine W.zast hexec hb hat ((hK.2 t0 _ ht).1 n (fun j => .int (f j))) (fun q => by cases q) (by show ¬ (i < 0 ∨ (arrV _ _ _).slots.size ≤ _); rw [arrV_size]; exact hin) rfl rfl hdg fun H1 e z oq => ?_
  refine kk H1 _ ?_ z oq (hS.put z oq haA)
  show H1[a]? = some (vp_cell _ _)
  rw [e, show narrow .boolean (.int x) = .int x from (show narrow .boolean (.int x) = .int (vp_nar .boolean x) from rfl).trans (congrArg Value.int hx)]
  rw [vp_cell_i, vp_cell_i, arrV_store]
  congr 2
  funext q
  by_cases hq : q = i.toNatClampNeg
  · subst hq
    simp [updV, upd]
  · simp [updV, upd, hq]
theorem mw_last (hexec : p.tables.exec = Jvm.exec) (hb : c.code = cc) (hK : va_K D cl tys s) (hS : va_S A H0 H locs) (t0 : Nat) {cA : ClassId} {n : Nat} {f : Nat → Int64} (hat : va_at D cl (a, .inl (cA, n, .inr (.inl f))) H) (haA : A a) (ht : tys[t0]? = some (cA, .long)) {i : Int32} {x : Int64} (hin : vp_in i n) (hdg : decode cc pc = .ok (.lastore, 1))
    (kk : ∀ (H1 : Heap) (locs1 : List Loc), va_at D cl (a, .inl (cA, n, .inr (.inl (vp_updL f i.toNatClampNeg x)))) H1 → H1.size = H.size → (∀ q, q ≠ a → H1[q]? = H[q]?) → va_S A H0 H1 locs1 → W p l e R s m args below meth c H1 locs1 cells slots Q (F0 m (pc + 1) ls rest)) : W p l e R s m args below meth c H locs cells slots Q (F0 m pc ls (.long x :: .int i :: .ref a :: rest)) := by
  refine W.last hexec hb hat ((hK.2 t0 _ ht).1 n (fun j => .long (f j))) (fun q => by cases q) (by show ¬ (i < 0 ∨ (arrV _ _ _).slots.size ≤ _); rw [arrV_size]; exact hin) rfl rfl hdg fun H1 e z oq => ?_
  refine kk H1 _ ?_ z oq (hS.put z oq haA)
  show H1[a]? = some (vp_cell _ _)
  rw [e]
  rw [vp_cell_l, vp_cell_l, arrV_store]
  congr 2
  funext q
  by_cases hq : q = i.toNatClampNeg
  · subst hq
    simp [updV, vp_updL]
  · simp [updV, vp_updL, hq]
theorem mw_dast (hexec : p.tables.exec = Jvm.exec) (hb : c.code = cc) (hK : va_K D cl tys s) (hS : va_S A H0 H locs) (t0 : Nat) {cA : ClassId} {n : Nat} {f : Nat → UInt64} (hat : va_at D cl (a, .inl (cA, n, .inr (.inr (.inr (.inl f))))) H) (haA : A a) (ht : tys[t0]? = some (cA, .double)) {i : Int32} {x : UInt64} (hin : vp_in i n) (hdg : decode cc pc = .ok (.dastore, 1))
    (kk : ∀ (H1 : Heap) (locs1 : List Loc), va_at D cl (a, .inl (cA, n, .inr (.inr (.inr (.inl (vf_upd f i.toNatClampNeg x)))))) H1 → H1.size = H.size → (∀ q, q ≠ a → H1[q]? = H[q]?) → va_S A H0 H1 locs1 → W p l e R s m args below meth c H1 locs1 cells slots Q (F0 m (pc + 1) ls rest)) : W p l e R s m args below meth c H locs cells slots Q (F0 m pc ls (.double x :: .int i :: .ref a :: rest)) := by
  refine W.dast hexec hb hat ((hK.2 t0 _ ht).1 n (fun j => .double (f j))) (fun q => by cases q) (by show ¬ (i < 0 ∨ (arrV _ _ _).slots.size ≤ _); rw [arrV_size]; exact hin) rfl rfl hdg fun H1 e z oq => ?_
  refine kk H1 _ ?_ z oq (hS.put z oq haA)
  show H1[a]? = some (vp_cell _ _)
  rw [e]
  rw [vp_cell_d, vp_cell_d, arrV_store]
  congr 2
  funext q
  by_cases hq : q = i.toNatClampNeg
  · subst hq
    simp [updV, vf_upd]
  · simp [updV, vf_upd, hq]
end HeapRows
section Steps3
variable {E : mEnv} {F : mFr} {cc : ByteArray} {own : String} {nL mc ms : Nat} {st0 : mS} {La0 : mLa}
variable {P : mPool} {rt : Nat} {sg : mSig} {C : mCall} {J : mK} {Xx : Nat → Nat → mLs → Nat × Nat → mS → Prop} {post : mO → mS → Prop}
variable {pc n : Nat} {ls : mLs} {stk : List mV} {rem : Nat × Nat} {st : mS} {nx : mLs → List mV → Nat × Nat → mS → Prop}
theorem stR_inv {stk : List mV} {f : Nat × Nat → List mV → Prop} (h : match stk with | .inr (.inr (.inr (.inr q))) :: r => f q r | _ => False) : ∃ q r, stk = mr q.1 q.2 :: r ∧ f q r := by
  match stk, h with
  | .inr (.inr (.inr (.inr q))) :: r, h => exact ⟨q, r, rfl, h⟩
theorem stIR_inv {stk : List mV} {f : Int → Nat × Nat → List mV → Prop} (h : match stk with | .inl j :: .inr (.inr (.inr (.inr q))) :: r => f j q r | _ => False) : ∃ j q r, stk = mi j :: mr q.1 q.2 :: r ∧ f j q r := by
  match stk, h with
  | .inl j :: .inr (.inr (.inr (.inr q))) :: r, h => exact ⟨j, q, r, rfl, h⟩
theorem stIIR_inv {stk : List mV} {f : Int → Int → Nat × Nat → List mV → Prop} (h : match stk with | .inl v :: .inl j :: .inr (.inr (.inr (.inr q))) :: r => f v j q r | _ => False) : ∃ v j q r, stk = mi v :: mi j :: mr q.1 q.2 :: r ∧ f v j q r := by
  match stk, h with
  | .inl v :: .inl j :: .inr (.inr (.inr (.inr q))) :: r, h => exact ⟨v, j, q, r, rfl, h⟩
theorem stJIR_inv {stk : List mV} {f : Int64 → Int → Nat × Nat → List mV → Prop} (h : match stk with | .inr (.inl v) :: .inl j :: .inr (.inr (.inr (.inr q))) :: r => f v j q r | _ => False) : ∃ v j q r, stk = ml v :: mi j :: mr q.1 q.2 :: r ∧ f v j q r := by
  match stk, h with
  | .inr (.inl v) :: .inl j :: .inr (.inr (.inr (.inr q))) :: r, h => exact ⟨v, j, q, r, rfl, h⟩
theorem stDIR_inv {stk : List mV} {f : UInt64 → Int → Nat × Nat → List mV → Prop} (h : match stk with | .inr (.inr (.inr (.inl v))) :: .inl j :: .inr (.inr (.inr (.inr q))) :: r => f v j q r | _ => False) : ∃ v j q r, stk = md v :: mi j :: mr q.1 q.2 :: r ∧ f v j q r := by
  match stk, h with
  | .inr (.inr (.inr (.inl v))) :: .inl j :: .inr (.inr (.inr (.inr q))) :: r, h => exact ⟨v, j, q, r, rfl, h⟩
theorem world_cell {E : mEnv} {st : mS} {La : mLa} {H : Heap} {k i : Nat} {e9 : va_E} (hw : mWorld E st La H) (hce : ∀ cap mdc, mCell E cap mdc st La k i = some e9) : eN E ≤ La k i ∧ va_at (eD E) vwCl (La k i, e9) H := by
  obtain ⟨-, -, cap, mdc, -, hc, -⟩ := hw
  exact hc k i e9 (hce cap mdc)
theorem mapIdx_get {fds : List Nat} {j fd : Nat} (f : Nat → Nat → Value) (h : fds[j]? = some fd) : (fds.mapIdx f)[j]? = some (f j fd) := by
  rw [List.getElem?_mapIdx, h]; rfl
theorem sm_getfield {x : Nat} (hP : poolOK own P) (X : mCtx E F cc own nL) (hd : decode cc pc = .ok (.getfield x, 3)) (h : mstep P rt sg C J Xx post (.getfield x) pc ls stk rem st nx) (kn : mKn E F nL mc ms st0 La0 (pc + 3) nx) : mSim E F nL mc ms st0 La0 pc ls stk rem st := by
  obtain ⟨q, r, rfl, h1⟩ := stR_inv (f := fun q r => mGet P x q.1 q.2 st (fun v => nx ls (v :: r) rem st)) h
  obtain ⟨k, i⟩ := q
  obtain ⟨ci, j, fds, fd, e1, e2, e3, h2⟩ := mGet_inv h1
  intro La H locs cells slots lsA hw hm he hl hs hS hls hc hsl
  obtain ⟨n9, n2, hi⟩ := kd_in e2 (ok_head hs)
  obtain ⟨C0, T, N, g1, g2, g3⟩ := hP.1 x ci j e1
  obtain ⟨C1, T1, N1, ty0, f1, f2, f3, -⟩ := kd_ok e2
  rw [g1] at f1
  cases f1
  obtain ⟨hlo, hat⟩ := world_cell hw (fun cap mdc => cell_kd (E := E) (La := La) (cap := cap) (mdc := mdc) e2 hi)
  have hv : (fds.mapIdx (fun j fd => mR E La (mfv st k i j fd)))[j]? = some (mR E La (mfv st k i j fd)) := mapIdx_get _ e3
  have hg : vOK st (mfv st k i j fd) := mfv_ok hw.2.1 e2 e3 hi (fun z => by subst z; exact mKd_2 e2 e3)
  have go := va_get (rest := r.map (mR E La)) (ls := lsA) X.1 X.2.1 X.2.2.2.2.1 f3 X.2.2.2.1 X.2.2.2.2.2.1 (one_P hat) 0 rfl g1 j g2 (X.2.2.2.2.1 _ g3) (fun _ h9 => h9) hv hd (kn _ _ _ _ h2 La H locs cells slots lsA hw hm he hl (ok_cons hg (ok_tail hs)) hS hls hc hsl)
  have e : mR E La (mr k i) = .ref (La k i) := congrArg Value.ref (mA_eq n9 n2)
  rw [List.map_cons, e]
  exact go
theorem mG_62 {st : mS} {E : mEnv} (h : mWF E st) : sN st 62 = eL E := h.2.2.2.1.1
theorem narrow_ok {c : Nat} {v : Int} (h : tyOK c v) : narrow (tyF c) (.int (Int32.ofInt v)) = .int (Int32.ofInt v) ∧ fits (tyF c) (.int (Int32.ofInt v)) = true := by
  match c, h with
  | 0, _ => exact ⟨rfl, rfl⟩
  | 1, h => rcases h with rfl | rfl <;> exact ⟨rfl, rfl⟩
  | 2, h =>
    obtain ⟨x, rfl⟩ := Int.eq_ofNat_of_zero_le h.1
    exact pk_charN (by have := h.2; omega)
  | n + 3, _ => exact ⟨rfl, rfl⟩
theorem stP_inv {P : mPool} {rt : Nat} {sg : mSig} {C : mCall} {x : Nat} (h : mstep P rt sg C J Xx post (.putfield x) pc ls stk rem st nx) :
    (∃ (v : Int) (q : Nat × Nat) (r : List mV), stk = mi v :: mr q.1 q.2 :: r ∧ mPut P x q.1 0 (fun j => tyOK (mFt q.1 j) v ∧ nx ls r rem (putI st q.1 q.2 j v))) ∨ (∃ (v : Int64) (q : Nat × Nat) (r : List mV), stk = ml v :: mr q.1 q.2 :: r ∧ mPut P x q.1 1 (fun j => nx ls r rem (putJ st q.1 q.2 j v))) := by
  match stk, h with
  | .inl v :: .inr (.inr (.inr (.inr q))) :: r, h => exact Or.inl ⟨v, q, r, rfl, h⟩
  | .inr (.inl v) :: .inr (.inr (.inr (.inr q))) :: r, h => exact Or.inr ⟨v, q, r, rfl, h⟩
theorem kd_62 {k : Nat} {z : Nat × List Nat} (h : mKd k = some z) : k ≠ 62 := fun q => by rw [kd_no k (Or.inr (Or.inl q))] at h; cases h
theorem ad_62 {k : Nat} {z : Nat × Nat} (h : mAd k = some z) : k ≠ 62 := fun q => by rw [ad_no k (Or.inr (Or.inl q))] at h; cases h
theorem set_mapIdx {fds : List Nat} {j : Nat} {f g : Nat → Nat → Value} {v : Value} (hj : j < fds.length) (h1 : ∀ fd, fds[j]? = some fd → g j fd = v) (h2 : ∀ a fd, a ≠ j → g a fd = f a fd) : (fds.mapIdx f).set j v = fds.mapIdx g := by
  apply List.ext_getElem?
  intro a
  rw [List.getElem?_set]
  by_cases ha : j = a
  · subst ha
    rw [if_pos rfl, List.length_mapIdx, if_pos hj, List.getElem?_mapIdx, List.getElem?_eq_getElem hj]
    exact congrArg some (h1 _ (List.getElem?_eq_getElem hj)).symm
  · rw [if_neg ha, List.getElem?_mapIdx, List.getElem?_mapIdx]
    cases fds[a]? with
    | none => rfl
    | some fd => exact congrArg some (h2 a fd (fun q => ha q.symm)).symm
theorem sm_putfield {x : Nat} (hP : poolOK own P) (X : mCtx E F cc own nL) (hd : decode cc pc = .ok (.putfield x, 3)) (h : mstep P rt sg C J Xx post (.putfield x) pc ls stk rem st nx) (kn : mKn E F nL mc ms st0 La0 (pc + 3) nx) : mSim E F nL mc ms st0 La0 pc ls stk rem st := by
  rcases stP_inv h with ⟨v, q, r, rfl, h1⟩ | ⟨v, q, r, rfl, h1⟩
  · obtain ⟨k, i⟩ := q
    obtain ⟨ci, j, fds, e1, e2, e3, e4, ht, h2⟩ := mPut_inv h1
    intro La H locs cells slots lsA hw hm he hl hs hS hls hc hsl
    obtain ⟨n9, n2, hi⟩ := kd_in e2 (ok_2 hs).2.1
    obtain ⟨C0, T, N, g1, g2, g3⟩ := hP.1 x ci j e1
    obtain ⟨C1, T1, N1, ty0, f1, f2, f3, f4, f5, f6, -⟩ := kd_ok e2
    rw [g1] at f1
    cases f1
    obtain ⟨f7, f8⟩ := f6 j g2 e3 e4
    have hce := fun cap mdc => cell_kd (E := E) (La := La) (cap := cap) (mdc := mdc) (st := st) e2 hi
    obtain ⟨hlo, hat⟩ := world_cell hw hce
    obtain ⟨na, nb⟩ := narrow_ok ht
    have e : mR E La (mr k i) = .ref (La k i) := congrArg Value.ref (mA_eq n9 n2)
    rw [List.map_cons, List.map_cons, e]
    refine mw_put (D := eD E) (ty := ty0 j) X.1 X.2.1 X.2.2.2.2.1 f3 ty0 f4 f5 X.2.2.2.1 X.2.2.2.2.2.1 hS hat hlo g1 j g2 (X.2.2.2.2.1 _ g3) (fun _ h9 => h9) f7 (f4 j g2) (by rw [f8]; exact na) (by rw [f8]; exact nb) (by rw [List.length_mapIdx, f2]; exact g2) hd (fun H1 locs1 a1 a2 a3 a4 => ?_)
    have hset : (fds.mapIdx (fun j fd => mR E La (mfv st k i j fd))).set j (.int (Int32.ofInt v)) = fds.mapIdx (fun a fd => mR E La (mfv (putI st k i j v) k i a fd)) := by
      refine set_mapIdx (by rw [f2]; exact g2) (fun fd hfd => ?_) (fun a fd hne => ?_)
      · rw [e3] at hfd
        cases hfd
        show Value.int (Int32.ofInt (up3 st.1 k i j v k i j)) = _
        rw [up3_at, if_pos rfl]
      · match fd with
        | 0 =>
          show Value.int (Int32.ofInt (up3 st.1 k i j v k i a)) = _
          rw [up3_at, if_neg hne]
          rfl
        | 1 => rfl
        | 2 => rfl
        | n + 3 => rfl
    rw [show mR E La (mi v) = .int (Int32.ofInt v) from rfl, hset] at a1
    exact kn _ _ _ _ h2 La H1 locs1 cells slots lsA (world_putI hw (ok_head hs) (kd_62 e2) a1 (fun cap mdc => cell_kd e2 hi) a3 a2) hm he hl (ok_2 hs).2.2 a4 hls hc hsl
  · obtain ⟨k, i⟩ := q
    obtain ⟨ci, j, fds, e1, e2, e3, e4, h2⟩ := mPut_inv h1
    intro La H locs cells slots lsA hw hm he hl hs hS hls hc hsl
    obtain ⟨n9, n2, hi⟩ := kd_in e2 (ok_2 hs).2.1
    obtain ⟨C0, T, N, g1, g2, g3⟩ := hP.1 x ci j e1
    obtain ⟨C1, T1, N1, ty0, f1, f2, f3, f4, f5, -, f6⟩ := kd_ok e2
    rw [g1] at f1
    cases f1
    obtain ⟨f7, f8⟩ := f6 j g2 e3
    have hce := fun cap mdc => cell_kd (E := E) (La := La) (cap := cap) (mdc := mdc) (st := st) e2 hi
    obtain ⟨hlo, hat⟩ := world_cell hw hce
    have e : mR E La (mr k i) = .ref (La k i) := congrArg Value.ref (mA_eq n9 n2)
    rw [List.map_cons, List.map_cons, e]
    refine mw_put (D := eD E) (ty := ty0 j) X.1 X.2.1 X.2.2.2.2.1 f3 ty0 f4 f5 X.2.2.2.1 X.2.2.2.2.2.1 hS hat hlo g1 j g2 (X.2.2.2.2.1 _ g3) (fun _ h9 => h9) f7 (f4 j g2) (by rw [f8]; rfl) (by rw [f8]; rfl) (by rw [List.length_mapIdx, f2]; exact g2) hd (fun H1 locs1 a1 a2 a3 a4 => ?_)
    have hset : (fds.mapIdx (fun j fd => mR E La (mfv st k i j fd))).set j (.long v) = fds.mapIdx (fun a fd => mR E La (mfv (putJ st k i j v) k i a fd)) := by
      refine set_mapIdx (by rw [f2]; exact g2) (fun fd hfd => ?_) (fun a fd hne => ?_)
      · rw [e3] at hfd
        cases hfd
        show Value.long (up3 st.2.1 k i j v k i j) = _
        rw [up3_at, if_pos rfl]
      · match fd with
        | 0 => rfl
        | 1 =>
          show Value.long (up3 st.2.1 k i j v k i a) = _
          rw [up3_at, if_neg hne]
          rfl
        | 2 => rfl
        | n + 3 => rfl
    rw [show mR E La (ml v) = .long v from rfl, hset] at a1
    exact kn _ _ _ _ h2 La H1 locs1 cells slots lsA (world_putJ hw a1 (fun cap mdc => cell_kd e2 hi) a3 a2) hm he hl (ok_2 hs).2.2 a4 hls hc hsl
end Steps3
