/-! THE SIMULATION: a label of the pure machine against the machine's walk -/
abbrev mFr : Type := Program × Launch × Env × Room × State × MethodId × Array Value × List Frame × Method × Code × (State → Prop)
abbrev fS (F : mFr) : State := F.2.2.2.2.1
abbrev fM (F : mFr) : MethodId := F.2.2.2.2.2.1
abbrev fA (F : mFr) : Array Value := F.2.2.2.2.2.2.1
abbrev fC (F : mFr) : Code := F.2.2.2.2.2.2.2.2.2.1
abbrev mW (F : mFr) (H : Heap) (locs : List Loc) (cells slots : Nat) (g : JFrame) : Prop := W F.1 F.2.1 F.2.2.1 F.2.2.2.1 F.2.2.2.2.1 F.2.2.2.2.2.1 F.2.2.2.2.2.2.1 F.2.2.2.2.2.2.2.1 F.2.2.2.2.2.2.2.2.1 F.2.2.2.2.2.2.2.2.2.1 H locs cells slots F.2.2.2.2.2.2.2.2.2.2 g
def mTys (E : mEnv) : List (ClassId × FieldType) := [(eC E 0, .int), (eC E 1, .boolean), (eC E 2, .long), (eC E 3, .double), (eC E 4, .object "java/lang/Object")]
/-- the method's frame: the machine, its code, its class, the tables' words -/
def mCtx (E : mEnv) (F : mFr) (cc : ByteArray) (own : String) (nL : Nat) : Prop := F.1.tables.exec = Jvm.exec ∧ (fC F).code = cc ∧ (fC F).maxLocals = nL ∧ (fS F).vm.findClass own = some (fM F).cls ∧ (∀ w ∈ lw_good, w.before (fA F) (fS F) = true) ∧ va_K (eD E) vwCl (mTys E) (fS F) ∧ mBase E (fS F).heap ∧ va_X (eB E) (eL E) (eX E) (fS F) (eH E) ∧ eB E < eN E
def mSim (E : mEnv) (F : mFr) (nL mc ms : Nat) (st0 : mS) (La0 : mLa) : mK := fun t ls stk rem st =>
  ∀ (La : mLa) (H : Heap) (locs : List Loc) (cells slots : Nat) (lsA : Array Slot), mWorld E st La H → mMono st0 st → mExt st0 La0 La → (∀ q ∈ ls, vOK st q.2) → (∀ v ∈ stk, vOK st v) →
    va_S (fun q => eN E ≤ q) (fS F).heap H locs → lv_has lsA nL (ls.map (fun q => (q.1, mR E La q.2))) → cells + rem.1 ≤ mc → slots + rem.2 ≤ ms → mW F H locs cells slots (F0 (fM F) t lsA (stk.map (mR E La)))
theorem mbin_inv {stk : List mV} {f : Int → Int → List mV → Prop} (h : mbin stk f) : ∃ a b r, stk = mi b :: mi a :: r ∧ f a b r := by
  match stk, h with
  | .inl b :: .inl a :: r, h => exact ⟨a, b, r, rfl, h⟩
theorem mbinJ_inv {stk : List mV} {f : Int64 → Int64 → List mV → Prop} (h : mbinJ stk f) : ∃ a b r, stk = ml b :: ml a :: r ∧ f a b r := by
  match stk, h with
  | .inr (.inl b) :: .inr (.inl a) :: r, h => exact ⟨a, b, r, rfl, h⟩
theorem mun_inv {stk : List mV} {f : Int → List mV → Prop} (h : mun stk f) : ∃ a r, stk = mi a :: r ∧ f a r := by
  match stk, h with
  | .inl a :: r, h => exact ⟨a, r, rfl, h⟩
theorem isI_inv {v : mV} {t : Prop} (h : isI v t) : ∃ x, v = mi x ∧ t := by
  match v, h with
  | .inl x, h => exact ⟨x, rfl, h⟩
theorem isJ_inv {v : mV} {t : Prop} (h : isJ v t) : ∃ x, v = ml x ∧ t := by
  match v, h with
  | .inr (.inl x), h => exact ⟨x, rfl, h⟩
theorem isF_inv {v : mV} {t : Prop} (h : isF v t) : ∃ x, v = mf x ∧ t := by
  match v, h with
  | .inr (.inr (.inl x)), h => exact ⟨x, rfl, h⟩
theorem isDb_inv {v : mV} {t : Prop} (h : isDb v t) : ∃ x, v = md x ∧ t := by
  match v, h with
  | .inr (.inr (.inr (.inl x))), h => exact ⟨x, rfl, h⟩
theorem isRf_inv {v : mV} {t : Prop} (h : isRf v t) : ∃ k i, v = mr k i ∧ t := by
  match v, h with
  | .inr (.inr (.inr (.inr (k, i)))), h => exact ⟨k, i, rfl, h⟩
theorem mload_inv {ls : mLs} {k : Nat} {f : mV → Prop} (h : mload ls k f) : ∃ v, mget ls k = some v ∧ f v := by
  unfold mload at h
  cases hg : mget ls k with
  | none => rw [hg] at h; exact h.elim
  | some v => rw [hg] at h; exact ⟨v, rfl, h⟩
theorem cond_inv {b : Bool} {t : Prop} (h : cond b t False) : b = true ∧ t := by
  cases b with
  | true => exact ⟨rfl, h⟩
  | false => exact h.elim
theorem mget_mem {ls : mLs} {k : Nat} {v : mV} (h : mget ls k = some v) : (k, v) ∈ ls := by
  induction ls with
  | nil => cases h
  | cons q r ih =>
    unfold mget at h
    cases hb : Nat.beq q.1 k with
    | true =>
      rw [hb] at h
      cases h
      have hk : q.1 = k := Nat.eq_of_beq_eq_true hb
      subst hk
      exact List.mem_cons_self
    | false =>
      rw [hb] at h
      exact List.mem_cons_of_mem _ (ih h)
theorem mhas_at {E : mEnv} {La : mLa} {lsA : Array Slot} {nL : Nat} {ls : mLs} (hl : lv_has lsA nL (ls.map (fun q => (q.1, mR E La q.2)))) {k : Nat} {v : mV} (h : mget ls k = some v) : lsA[k]? = some (.val (mR E La v)) :=
  hl.2.2 (k, mR E La v) (List.mem_map.mpr ⟨(k, v), mget_mem h, rfl⟩)
theorem mset1_R (E : mEnv) (La : mLa) (ls : mLs) (i : Nat) (v : mV) : (mset1 ls i v).map (fun q => (q.1, mR E La q.2)) = (i, mR E La v) :: (ls.map (fun q => (q.1, mR E La q.2))).filter (fun q => !(q.1 == i) && !(q.1 + 1 == i && q.2.category == 2)) := by
  unfold mset1 mrem
  rw [List.map_cons, List.filter_map]
  congr 3
  funext q
  simp only [Function.comp, mcat_R]
theorem mset2_R (E : mEnv) (La : mLa) (ls : mLs) (i : Nat) (v : mV) : (mset2 ls i v).map (fun q => (q.1, mR E La q.2)) = (i, mR E La v) :: (ls.map (fun q => (q.1, mR E La q.2))).filter (fun q => !(q.1 == i) && (!(q.1 == i + 1) && !(q.1 + 1 == i && q.2.category == 2))) := by
  unfold mset2
  rw [List.map_cons, List.filter_map]
  congr 3
  funext q
  simp only [Function.comp, mcat_R]
theorem mset1_ok {st : mS} {ls : mLs} {i : Nat} {v : mV} (h : ∀ q ∈ ls, vOK st q.2) (hv : vOK st v) : ∀ q ∈ mset1 ls i v, vOK st q.2 := by
  intro q hq
  rcases List.mem_cons.mp hq with rfl | hq
  · exact hv
  · exact h q (List.mem_filter.mp hq).1
theorem mset2_ok {st : mS} {ls : mLs} {i : Nat} {v : mV} (h : ∀ q ∈ ls, vOK st q.2) (hv : vOK st v) : ∀ q ∈ mset2 ls i v, vOK st q.2 := by
  intro q hq
  rcases List.mem_cons.mp hq with rfl | hq
  · exact hv
  · exact h q (List.mem_filter.mp hq).1
theorem mproj_has {E : mEnv} {La : mLa} {lsA : Array Slot} {nL : Nat} {ls : mLs} (hl : lv_has lsA nL (ls.map (fun q => (q.1, mR E La q.2)))) (ks : List Nat) : lv_has lsA nL ((mproj ks ls).map (fun q => (q.1, mR E La q.2))) := by
  refine ⟨hl.1, hl.2.1, fun q hq => ?_⟩
  obtain ⟨z, hz, rfl⟩ := List.mem_map.mp hq
  obtain ⟨i, -, hi⟩ := List.mem_filterMap.mp hz
  cases hg : mget ls i with
  | none => rw [hg] at hi; cases hi
  | some v =>
    rw [hg] at hi
    cases hi
    exact mhas_at hl hg
theorem mproj_ok {st : mS} {ls : mLs} (ks : List Nat) (h : ∀ q ∈ ls, vOK st q.2) : ∀ q ∈ mproj ks ls, vOK st q.2 := by
  intro z hz
  obtain ⟨i, -, hi⟩ := List.mem_filterMap.mp hz
  cases hg : mget ls i with
  | none => rw [hg] at hi; cases hi
  | some v =>
    rw [hg] at hi
    cases hi
    exact h _ (mget_mem hg)
section Steps1
variable {E : mEnv} {F : mFr} {cc : ByteArray} {own : String} {nL mc ms : Nat} {st0 : mS} {La0 : mLa}
variable {P : mPool} {rt : Nat} {sg : mSig} {C : mCall} {J : mK} {Xx : Nat → Nat → mLs → Nat × Nat → mS → Prop} {post : mO → mS → Prop}
variable {pc n : Nat} {ls : mLs} {stk : List mV} {rem : Nat × Nat} {st : mS} {nx : mLs → List mV → Nat × Nat → mS → Prop}
abbrev mKn (E : mEnv) (F : mFr) (nL mc ms : Nat) (st0 : mS) (La0 : mLa) (pc : Nat) (nx : mLs → List mV → Nat × Nat → mS → Prop) : Prop := ∀ ls stk rem st, nx ls stk rem st → mSim E F nL mc ms st0 La0 pc ls stk rem st
theorem ok_head {v : mV} {r : List mV} (hs : ∀ z ∈ v :: r, vOK st z) : vOK st v := hs v List.mem_cons_self
theorem ok_tail {v : mV} {r : List mV} (hs : ∀ z ∈ v :: r, vOK st z) : ∀ z ∈ r, vOK st z := fun z h => hs z (List.mem_cons_of_mem _ h)
theorem ok_cons {v : mV} {r : List mV} (hv : vOK st v) (hs : ∀ z ∈ r, vOK st z) : ∀ z ∈ v :: r, vOK st z := fun z h => (List.mem_cons.mp h).elim (fun e => by rw [e]; exact hv) (hs z)
theorem vI {x : Int} (h : inR x) : vOK st (mi x) := h
theorem sm_iload_n {k : Fin 4} (X : mCtx E F cc own nL) (hd : decode cc pc = .ok (.iload_n k, 1)) (h : mstep P rt sg C J Xx post (.iload_n k) pc ls stk rem st nx) (kn : mKn E F nL mc ms st0 La0 (pc + 1) nx) : mSim E F nL mc ms st0 La0 pc ls stk rem st := by
  obtain ⟨v, hg, h⟩ := mload_inv h
  obtain ⟨x, rfl, h⟩ := isI_inv h
  intro La H locs cells slots lsA hw hm he hl hs hS hls hc hsl
  exact lv_iload_n X.1 X.2.1 hd rfl (mhas_at hls hg) (kn _ _ _ _ h La H locs cells slots lsA hw hm he hl (ok_cons (hl _ (mget_mem hg)) hs) hS hls hc hsl)
theorem sm_iload {k : Nat} (X : mCtx E F cc own nL) (hd : decode cc pc = .ok (.iload k, 2)) (h : mstep P rt sg C J Xx post (.iload k) pc ls stk rem st nx) (kn : mKn E F nL mc ms st0 La0 (pc + 2) nx) : mSim E F nL mc ms st0 La0 pc ls stk rem st := by
  obtain ⟨v, hg, h⟩ := mload_inv h
  obtain ⟨x, rfl, h⟩ := isI_inv h
  intro La H locs cells slots lsA hw hm he hl hs hS hls hc hsl
  exact lv_iload X.1 X.2.1 hd (mhas_at hls hg) (kn _ _ _ _ h La H locs cells slots lsA hw hm he hl (ok_cons (hl _ (mget_mem hg)) hs) hS hls hc hsl)
theorem sm_aload_n {k : Fin 4} (X : mCtx E F cc own nL) (hd : decode cc pc = .ok (.aload_n k, 1)) (h : mstep P rt sg C J Xx post (.aload_n k) pc ls stk rem st nx) (kn : mKn E F nL mc ms st0 La0 (pc + 1) nx) : mSim E F nL mc ms st0 La0 pc ls stk rem st := by
  obtain ⟨v, hg, h⟩ := mload_inv h
  obtain ⟨x, y, rfl, h⟩ := isRf_inv h
  intro La H locs cells slots lsA hw hm he hl hs hS hls hc hsl
  exact lv_aload_n X.1 X.2.1 hd rfl (mhas_at hls hg) (kn _ _ _ _ h La H locs cells slots lsA hw hm he hl (ok_cons (hl _ (mget_mem hg)) hs) hS hls hc hsl)
theorem sm_aload {k : Nat} (X : mCtx E F cc own nL) (hd : decode cc pc = .ok (.aload k, 2)) (h : mstep P rt sg C J Xx post (.aload k) pc ls stk rem st nx) (kn : mKn E F nL mc ms st0 La0 (pc + 2) nx) : mSim E F nL mc ms st0 La0 pc ls stk rem st := by
  obtain ⟨v, hg, h⟩ := mload_inv h
  obtain ⟨x, y, rfl, h⟩ := isRf_inv h
  intro La H locs cells slots lsA hw hm he hl hs hS hls hc hsl
  exact lv_aload X.1 X.2.1 hd (mhas_at hls hg) (kn _ _ _ _ h La H locs cells slots lsA hw hm he hl (ok_cons (hl _ (mget_mem hg)) hs) hS hls hc hsl)
theorem sm_fload {k : Nat} (X : mCtx E F cc own nL) (hd : decode cc pc = .ok (.fload k, 2)) (h : mstep P rt sg C J Xx post (.fload k) pc ls stk rem st nx) (kn : mKn E F nL mc ms st0 La0 (pc + 2) nx) : mSim E F nL mc ms st0 La0 pc ls stk rem st := by
  obtain ⟨v, hg, h⟩ := mload_inv h
  obtain ⟨x, rfl, h⟩ := isF_inv h
  intro La H locs cells slots lsA hw hm he hl hs hS hls hc hsl
  exact lv_fload X.1 X.2.1 hd (mhas_at hls hg) (kn _ _ _ _ h La H locs cells slots lsA hw hm he hl (ok_cons trivial hs) hS hls hc hsl)
theorem sm_dload {k : Nat} (X : mCtx E F cc own nL) (hd : decode cc pc = .ok (.dload k, 2)) (h : mstep P rt sg C J Xx post (.dload k) pc ls stk rem st nx) (kn : mKn E F nL mc ms st0 La0 (pc + 2) nx) : mSim E F nL mc ms st0 La0 pc ls stk rem st := by
  obtain ⟨v, hg, h⟩ := mload_inv h
  obtain ⟨x, rfl, h⟩ := isDb_inv h
  intro La H locs cells slots lsA hw hm he hl hs hS hls hc hsl
  exact lv_dload X.1 X.2.1 hd (mhas_at hls hg) (kn _ _ _ _ h La H locs cells slots lsA hw hm he hl (ok_cons trivial hs) hS hls hc hsl)
theorem sm_lload_n {k : Fin 4} (X : mCtx E F cc own nL) (hd : decode cc pc = .ok (.lload_n k, 1)) (h : mstep P rt sg C J Xx post (.lload_n k) pc ls stk rem st nx) (kn : mKn E F nL mc ms st0 La0 (pc + 1) nx) : mSim E F nL mc ms st0 La0 pc ls stk rem st := by
  obtain ⟨v, hg, h⟩ := mload_inv h
  obtain ⟨x, rfl, h⟩ := isJ_inv h
  intro La H locs cells slots lsA hw hm he hl hs hS hls hc hsl
  exact lv_lload_n X.1 X.2.1 hd rfl (mhas_at hls hg) (kn _ _ _ _ h La H locs cells slots lsA hw hm he hl (ok_cons trivial hs) hS hls hc hsl)
theorem st_inv {stk : List mV} {f : mV → List mV → Prop} (h : match stk with | v :: r => f v r | _ => False) : ∃ v r, stk = v :: r ∧ f v r := by
  match stk, h with
  | v :: r, h => exact ⟨v, r, rfl, h⟩
theorem sm_istore_n {k : Fin 4} (hn : k.val < nL) (X : mCtx E F cc own nL) (hd : decode cc pc = .ok (.istore_n k, 1)) (h : mstep P rt sg C J Xx post (.istore_n k) pc ls stk rem st nx) (kn : mKn E F nL mc ms st0 La0 (pc + 1) nx) : mSim E F nL mc ms st0 La0 pc ls stk rem st := by
  obtain ⟨v, r, rfl, h⟩ := st_inv (f := fun v r => isI v (nx (mset1 ls k.val v) r rem st)) h
  obtain ⟨x, rfl, h⟩ := isI_inv h
  intro La H locs cells slots lsA hw hm he hl hs hS hls hc hsl
  exact lv_istore_n X.1 X.2.1 hd rfl hls hn (mset1_R E La ls k.val (mi x)).symm (fun ls' hls' => kn _ _ _ _ h La H locs cells slots ls' hw hm he (mset1_ok hl (ok_head hs)) (ok_tail hs) hS hls' hc hsl)
theorem sm_istore {k : Nat} (hn : k < nL) (X : mCtx E F cc own nL) (hd : decode cc pc = .ok (.istore k, 2)) (h : mstep P rt sg C J Xx post (.istore k) pc ls stk rem st nx) (kn : mKn E F nL mc ms st0 La0 (pc + 2) nx) : mSim E F nL mc ms st0 La0 pc ls stk rem st := by
  obtain ⟨v, r, rfl, h⟩ := st_inv (f := fun v r => isI v (nx (mset1 ls k v) r rem st)) h
  obtain ⟨x, rfl, h⟩ := isI_inv h
  intro La H locs cells slots lsA hw hm he hl hs hS hls hc hsl
  exact lv_istore X.1 X.2.1 hd hls hn (mset1_R E La ls k (mi x)).symm (fun ls' hls' => kn _ _ _ _ h La H locs cells slots ls' hw hm he (mset1_ok hl (ok_head hs)) (ok_tail hs) hS hls' hc hsl)
theorem sm_astore_n {k : Fin 4} (hn : k.val < nL) (X : mCtx E F cc own nL) (hd : decode cc pc = .ok (.astore_n k, 1)) (h : mstep P rt sg C J Xx post (.astore_n k) pc ls stk rem st nx) (kn : mKn E F nL mc ms st0 La0 (pc + 1) nx) : mSim E F nL mc ms st0 La0 pc ls stk rem st := by
  obtain ⟨v, r, rfl, h⟩ := st_inv (f := fun v r => isRf v (nx (mset1 ls k.val v) r rem st)) h
  obtain ⟨x, y, rfl, h⟩ := isRf_inv h
  intro La H locs cells slots lsA hw hm he hl hs hS hls hc hsl
  exact lv_astore_n X.1 X.2.1 hd rfl hls hn (mset1_R E La ls k.val (mr x y)).symm (fun ls' hls' => kn _ _ _ _ h La H locs cells slots ls' hw hm he (mset1_ok hl (ok_head hs)) (ok_tail hs) hS hls' hc hsl)
theorem sm_astore {k : Nat} (hn : k < nL) (X : mCtx E F cc own nL) (hd : decode cc pc = .ok (.astore k, 2)) (h : mstep P rt sg C J Xx post (.astore k) pc ls stk rem st nx) (kn : mKn E F nL mc ms st0 La0 (pc + 2) nx) : mSim E F nL mc ms st0 La0 pc ls stk rem st := by
  obtain ⟨v, r, rfl, h⟩ := st_inv (f := fun v r => isRf v (nx (mset1 ls k v) r rem st)) h
  obtain ⟨x, y, rfl, h⟩ := isRf_inv h
  intro La H locs cells slots lsA hw hm he hl hs hS hls hc hsl
  exact lv_astore X.1 X.2.1 hd hls hn (mset1_R E La ls k (mr x y)).symm (fun ls' hls' => kn _ _ _ _ h La H locs cells slots ls' hw hm he (mset1_ok hl (ok_head hs)) (ok_tail hs) hS hls' hc hsl)
theorem sm_fstore {k : Nat} (hn : k < nL) (X : mCtx E F cc own nL) (hd : decode cc pc = .ok (.fstore k, 2)) (h : mstep P rt sg C J Xx post (.fstore k) pc ls stk rem st nx) (kn : mKn E F nL mc ms st0 La0 (pc + 2) nx) : mSim E F nL mc ms st0 La0 pc ls stk rem st := by
  obtain ⟨v, r, rfl, h⟩ := st_inv (f := fun v r => isF v (nx (mset1 ls k v) r rem st)) h
  obtain ⟨x, rfl, h⟩ := isF_inv h
  intro La H locs cells slots lsA hw hm he hl hs hS hls hc hsl
  exact lv_fstore X.1 X.2.1 hd hls hn (mset1_R E La ls k (mf x)).symm (fun ls' hls' => kn _ _ _ _ h La H locs cells slots ls' hw hm he (mset1_ok hl trivial) (ok_tail hs) hS hls' hc hsl)
theorem sm_dstore {k : Nat} (hn : k + 1 < nL) (X : mCtx E F cc own nL) (hd : decode cc pc = .ok (.dstore k, 2)) (h : mstep P rt sg C J Xx post (.dstore k) pc ls stk rem st nx) (kn : mKn E F nL mc ms st0 La0 (pc + 2) nx) : mSim E F nL mc ms st0 La0 pc ls stk rem st := by
  obtain ⟨v, r, rfl, h⟩ := st_inv (f := fun v r => isDb v (nx (mset2 ls k v) r rem st)) h
  obtain ⟨x, rfl, h⟩ := isDb_inv h
  intro La H locs cells slots lsA hw hm he hl hs hS hls hc hsl
  exact lv_dstore X.1 X.2.1 hd hls hn (mset2_R E La ls k (md x)).symm (fun ls' hls' => kn _ _ _ _ h La H locs cells slots ls' hw hm he (mset2_ok hl trivial) (ok_tail hs) hS hls' hc hsl)
theorem sm_lstore_n {k : Fin 4} (hn : k.val + 1 < nL) (X : mCtx E F cc own nL) (hd : decode cc pc = .ok (.lstore_n k, 1)) (h : mstep P rt sg C J Xx post (.lstore_n k) pc ls stk rem st nx) (kn : mKn E F nL mc ms st0 La0 (pc + 1) nx) : mSim E F nL mc ms st0 La0 pc ls stk rem st := by
  obtain ⟨v, r, rfl, h⟩ := st_inv (f := fun v r => isJ v (nx (mset2 ls k.val v) r rem st)) h
  obtain ⟨x, rfl, h⟩ := isJ_inv h
  intro La H locs cells slots lsA hw hm he hl hs hS hls hc hsl
  exact lv_lstore_n X.1 X.2.1 hd rfl hls hn (mset2_R E La ls k.val (ml x)).symm (fun ls' hls' => kn _ _ _ _ h La H locs cells slots ls' hw hm he (mset2_ok hl trivial) (ok_tail hs) hS hls' hc hsl)
end Steps1
