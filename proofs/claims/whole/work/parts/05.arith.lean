/-! THE SIMULATION: arithmetic, conversions, jumps -/
section Steps2
variable {E : mEnv} {F : mFr} {cc : ByteArray} {own : String} {nL mc ms : Nat} {st0 : mS} {La0 : mLa}
variable {P : mPool} {rt : Nat} {sg : mSig} {C : mCall} {J : mK} {Xx : Nat → Nat → mLs → Nat × Nat → mS → Prop} {post : mO → mS → Prop}
variable {pc n : Nat} {ls : mLs} {stk : List mV} {rem : Nat × Nat} {st : mS} {nx : mLs → List mV → Nat × Nat → mS → Prop}
theorem ok_2 {v w : mV} {r : List mV} (hs : ∀ z ∈ v :: w :: r, vOK st z) : vOK st v ∧ vOK st w ∧ ∀ z ∈ r, vOK st z := ⟨ok_head hs, ok_head (ok_tail hs), ok_tail (ok_tail hs)⟩

theorem sm_iconst {k : Int} (hk : inR k) (X : mCtx E F cc own nL) (hd : decode cc pc = .ok (.iconst k, 1)) (h : mstep P rt sg C J Xx post (.iconst k) pc ls stk rem st nx) (kn : mKn E F nL mc ms st0 La0 (pc + 1) nx) : mSim E F nL mc ms st0 La0 pc ls stk rem st := by
  intro La H locs cells slots lsA hw hm he hl hs hS hls hc hsl
  exact lv_iconst X.1 X.2.1 hd rfl (kn _ _ _ _ h La H locs cells slots lsA hw hm he hl (ok_cons (show vOK st (mi k) from hk) hs) hS hls hc hsl)
theorem sm_bipush {k : Int} (hk : inR k ∧ (Int8.ofInt k).toInt32 = Int32.ofInt k) (X : mCtx E F cc own nL) (hd : decode cc pc = .ok (.bipush k, 2)) (h : mstep P rt sg C J Xx post (.bipush k) pc ls stk rem st nx) (kn : mKn E F nL mc ms st0 La0 (pc + 2) nx) : mSim E F nL mc ms st0 La0 pc ls stk rem st := by
  intro La H locs cells slots lsA hw hm he hl hs hS hls hc hsl
  exact lv_bipush X.1 X.2.1 hd hk.2 (kn _ _ _ _ h La H locs cells slots lsA hw hm he hl (ok_cons (show vOK st (mi k) from hk.1) hs) hS hls hc hsl)
theorem sm_sipush {k : Int} (hk : inR k ∧ (Int16.ofInt k).toInt32 = Int32.ofInt k) (X : mCtx E F cc own nL) (hd : decode cc pc = .ok (.sipush k, 3)) (h : mstep P rt sg C J Xx post (.sipush k) pc ls stk rem st nx) (kn : mKn E F nL mc ms st0 La0 (pc + 3) nx) : mSim E F nL mc ms st0 La0 pc ls stk rem st := by
  intro La H locs cells slots lsA hw hm he hl hs hS hls hc hsl
  exact lv_sipush X.1 X.2.1 hd hk.2 (kn _ _ _ _ h La H locs cells slots lsA hw hm he hl (ok_cons (show vOK st (mi k) from hk.1) hs) hS hls hc hsl)
theorem sm_lconst {k : Fin 2} (X : mCtx E F cc own nL) (hd : decode cc pc = .ok (.lconst k, 1)) (h : mstep P rt sg C J Xx post (.lconst k) pc ls stk rem st nx) (kn : mKn E F nL mc ms st0 La0 (pc + 1) nx) : mSim E F nL mc ms st0 La0 pc ls stk rem st := by
  intro La H locs cells slots lsA hw hm he hl hs hS hls hc hsl
  exact lv_lconst X.1 X.2.1 hd rfl (kn _ _ _ _ h La H locs cells slots lsA hw hm he hl (ok_cons trivial hs) hS hls hc hsl)
theorem sm_iadd (X : mCtx E F cc own nL) (hd : decode cc pc = .ok (.iadd, 1)) (h : mstep P rt sg C J Xx post (.iadd) pc ls stk rem st nx) (kn : mKn E F nL mc ms st0 La0 (pc + 1) nx) : mSim E F nL mc ms st0 La0 pc ls stk rem st := by
  obtain ⟨a, b, r, rfl, hr, h⟩ := mbin_inv h
  intro La H locs cells slots lsA hw hm he hl hs hS hls hc hsl
  refine lv_iadd X.1 X.2.1 hd ?_
  rw [← Int32.ofInt_add]
  exact kn _ _ _ _ h La H locs cells slots lsA hw hm he hl (ok_cons (show vOK st (mi (a + b)) from hr) (ok_2 hs).2.2) hS hls hc hsl
theorem sm_isub (X : mCtx E F cc own nL) (hd : decode cc pc = .ok (.isub, 1)) (h : mstep P rt sg C J Xx post (.isub) pc ls stk rem st nx) (kn : mKn E F nL mc ms st0 La0 (pc + 1) nx) : mSim E F nL mc ms st0 La0 pc ls stk rem st := by
  obtain ⟨a, b, r, rfl, hr, h⟩ := mbin_inv h
  intro La H locs cells slots lsA hw hm he hl hs hS hls hc hsl
  refine lv_isub X.1 X.2.1 hd ?_
  rw [← Int32.ofInt_sub]
  exact kn _ _ _ _ h La H locs cells slots lsA hw hm he hl (ok_cons (show vOK st (mi (a - b)) from hr) (ok_2 hs).2.2) hS hls hc hsl
theorem sm_imul (X : mCtx E F cc own nL) (hd : decode cc pc = .ok (.imul, 1)) (h : mstep P rt sg C J Xx post (.imul) pc ls stk rem st nx) (kn : mKn E F nL mc ms st0 La0 (pc + 1) nx) : mSim E F nL mc ms st0 La0 pc ls stk rem st := by
  obtain ⟨a, b, r, rfl, hr, h⟩ := mbin_inv h
  intro La H locs cells slots lsA hw hm he hl hs hS hls hc hsl
  refine lv_imul X.1 X.2.1 hd ?_
  rw [← Int32.ofInt_mul]
  exact kn _ _ _ _ h La H locs cells slots lsA hw hm he hl (ok_cons (show vOK st (mi (a * b)) from hr) (ok_2 hs).2.2) hS hls hc hsl
theorem sm_idiv (X : mCtx E F cc own nL) (hd : decode cc pc = .ok (.idiv, 1)) (h : mstep P rt sg C J Xx post (.idiv) pc ls stk rem st nx) (kn : mKn E F nL mc ms st0 La0 (pc + 1) nx) : mSim E F nL mc ms st0 La0 pc ls stk rem st := by
  obtain ⟨a, b, r, rfl, hr, h⟩ := mbin_inv h
  intro La H locs cells slots lsA hw hm he hl hs hS hls hc hsl
  refine lv_idiv X.1 X.2.1 hd (i32_ne0 hr.2 (ok_2 hs).1) ?_
  rw [i32_div hr.1 hr.2 (ok_2 hs).2.1 (ok_2 hs).1]
  exact kn _ _ _ _ h La H locs cells slots lsA hw hm he hl (ok_cons (show vOK st (mi (a / b)) from ⟨by have := Int.ediv_nonneg hr.1 (Int.le_of_lt hr.2); omega, by have := Int.ediv_le_self b hr.1; have h9 : inR a := (ok_2 hs).2.1; have := h9.2; have := Int.ediv_le_self b hr.1; omega⟩) (ok_2 hs).2.2) hS hls hc hsl
theorem sm_irem (X : mCtx E F cc own nL) (hd : decode cc pc = .ok (.irem, 1)) (h : mstep P rt sg C J Xx post (.irem) pc ls stk rem st nx) (kn : mKn E F nL mc ms st0 La0 (pc + 1) nx) : mSim E F nL mc ms st0 La0 pc ls stk rem st := by
  obtain ⟨a, b, r, rfl, hr, h⟩ := mbin_inv h
  intro La H locs cells slots lsA hw hm he hl hs hS hls hc hsl
  refine lv_irem X.1 X.2.1 hd (i32_ne0 hr.2 (ok_2 hs).1) ?_
  rw [i32_rem hr.1 hr.2 (ok_2 hs).2.1 (ok_2 hs).1]
  exact kn _ _ _ _ h La H locs cells slots lsA hw hm he hl (ok_cons (show vOK st (mi (a % b)) from ⟨by have := Int.emod_nonneg a (show b ≠ 0 by omega); omega, by have h9 : inR b := (ok_2 hs).1; have := h9.2; have := Int.emod_lt_of_pos a hr.2; omega⟩) (ok_2 hs).2.2) hS hls hc hsl
theorem sm_iand (X : mCtx E F cc own nL) (hd : decode cc pc = .ok (.iand, 1)) (h : mstep P rt sg C J Xx post (.iand) pc ls stk rem st nx) (kn : mKn E F nL mc ms st0 La0 (pc + 1) nx) : mSim E F nL mc ms st0 La0 pc ls stk rem st := by
  obtain ⟨a, b, r, rfl, h⟩ := mbin_inv h
  intro La H locs cells slots lsA hw hm he hl hs hS hls hc hsl
  refine lv_iand X.1 X.2.1 hd ?_
  have k := kn _ _ _ _ h La H locs cells slots lsA hw hm he hl (ok_cons (show vOK st (mi (bAnd a b)) from i32_inR _) (ok_2 hs).2.2) hS hls hc hsl
  have e : mR E La (mi (bAnd a b)) = .int _ := congrArg Value.int (i32_of _)
  rw [List.map_cons, e] at k
  exact k
theorem sm_ior (X : mCtx E F cc own nL) (hd : decode cc pc = .ok (.ior, 1)) (h : mstep P rt sg C J Xx post (.ior) pc ls stk rem st nx) (kn : mKn E F nL mc ms st0 La0 (pc + 1) nx) : mSim E F nL mc ms st0 La0 pc ls stk rem st := by
  obtain ⟨a, b, r, rfl, h⟩ := mbin_inv h
  intro La H locs cells slots lsA hw hm he hl hs hS hls hc hsl
  refine lv_ior X.1 X.2.1 hd ?_
  have k := kn _ _ _ _ h La H locs cells slots lsA hw hm he hl (ok_cons (show vOK st (mi (bOr a b)) from i32_inR _) (ok_2 hs).2.2) hS hls hc hsl
  have e : mR E La (mi (bOr a b)) = .int _ := congrArg Value.int (i32_of _)
  rw [List.map_cons, e] at k
  exact k
theorem sm_ixor (X : mCtx E F cc own nL) (hd : decode cc pc = .ok (.ixor, 1)) (h : mstep P rt sg C J Xx post (.ixor) pc ls stk rem st nx) (kn : mKn E F nL mc ms st0 La0 (pc + 1) nx) : mSim E F nL mc ms st0 La0 pc ls stk rem st := by
  obtain ⟨a, b, r, rfl, h⟩ := mbin_inv h
  intro La H locs cells slots lsA hw hm he hl hs hS hls hc hsl
  refine lv_ixor X.1 X.2.1 hd ?_
  have k := kn _ _ _ _ h La H locs cells slots lsA hw hm he hl (ok_cons (show vOK st (mi (bXor a b)) from i32_inR _) (ok_2 hs).2.2) hS hls hc hsl
  have e : mR E La (mi (bXor a b)) = .int _ := congrArg Value.int (i32_of _)
  rw [List.map_cons, e] at k
  exact k
theorem sm_ishl (X : mCtx E F cc own nL) (hd : decode cc pc = .ok (.ishl, 1)) (h : mstep P rt sg C J Xx post (.ishl) pc ls stk rem st nx) (kn : mKn E F nL mc ms st0 La0 (pc + 1) nx) : mSim E F nL mc ms st0 La0 pc ls stk rem st := by
  obtain ⟨a, b, r, rfl, h⟩ := mbin_inv h
  intro La H locs cells slots lsA hw hm he hl hs hS hls hc hsl
  refine lv_ishl X.1 X.2.1 hd ?_
  have k := kn _ _ _ _ h La H locs cells slots lsA hw hm he hl (ok_cons (show vOK st (mi (bShl a b)) from i32_inR _) (ok_2 hs).2.2) hS hls hc hsl
  have e : mR E La (mi (bShl a b)) = .int _ := congrArg Value.int (i32_of _)
  rw [List.map_cons, e] at k
  exact k
theorem sm_ishr (X : mCtx E F cc own nL) (hd : decode cc pc = .ok (.ishr, 1)) (h : mstep P rt sg C J Xx post (.ishr) pc ls stk rem st nx) (kn : mKn E F nL mc ms st0 La0 (pc + 1) nx) : mSim E F nL mc ms st0 La0 pc ls stk rem st := by
  obtain ⟨a, b, r, rfl, h⟩ := mbin_inv h
  intro La H locs cells slots lsA hw hm he hl hs hS hls hc hsl
  refine lv_ishr X.1 X.2.1 hd ?_
  have k := kn _ _ _ _ h La H locs cells slots lsA hw hm he hl (ok_cons (show vOK st (mi (bShr a b)) from i32_inR _) (ok_2 hs).2.2) hS hls hc hsl
  have e : mR E La (mi (bShr a b)) = .int _ := congrArg Value.int (i32_of _)
  rw [List.map_cons, e] at k
  exact k
theorem sm_iinc {k : Nat} {z : Int} (hn : k < nL) (X : mCtx E F cc own nL) (hd : decode cc pc = .ok (.iinc k z, 3)) (h : mstep P rt sg C J Xx post (.iinc k z) pc ls stk rem st nx) (kn : mKn E F nL mc ms st0 La0 (pc + 3) nx) : mSim E F nL mc ms st0 La0 pc ls stk rem st := by
  obtain ⟨v, hg, h⟩ := mload_inv h
  obtain ⟨a, r, e, hr, h5⟩ := mun_inv h
  cases e
  intro La H locs cells slots lsA hw hm he hl hs hS hls hc hsl
  obtain ⟨q, hq⟩ := List.getElem?_of_mem (List.mem_map.mpr ⟨(k, mi a), mget_mem hg, rfl⟩ : (k, Value.int (Int32.ofInt a)) ∈ ls.map (fun q => (q.1, mR E La q.2)))
  exact lv_iinc X.1 X.2.1 hd hls hq (Int32.ofInt_add a z).symm hn (mset1_R E La ls k (mi (a + z))).symm (fun ls' hls' => kn _ _ _ _ h5 La H locs cells slots ls' hw hm he (mset1_ok hl (show vOK st (mi (a + z)) from hr)) hs hS hls' hc hsl)
theorem sm_i2l (X : mCtx E F cc own nL) (hd : decode cc pc = .ok (.i2l, 1)) (h : mstep P rt sg C J Xx post (.i2l) pc ls stk rem st nx) (kn : mKn E F nL mc ms st0 La0 (pc + 1) nx) : mSim E F nL mc ms st0 La0 pc ls stk rem st := by
  obtain ⟨a, r, rfl, h⟩ := mun_inv h
  intro La H locs cells slots lsA hw hm he hl hs hS hls hc hsl
  exact lv_i2l X.1 X.2.1 hd rfl (kn _ _ _ _ h La H locs cells slots lsA hw hm he hl (ok_cons trivial (ok_tail hs)) hS hls hc hsl)
theorem sm_i2f (X : mCtx E F cc own nL) (hd : decode cc pc = .ok (.i2f, 1)) (h : mstep P rt sg C J Xx post (.i2f) pc ls stk rem st nx) (kn : mKn E F nL mc ms st0 La0 (pc + 1) nx) : mSim E F nL mc ms st0 La0 pc ls stk rem st := by
  obtain ⟨a, r, rfl, h⟩ := mun_inv h
  intro La H locs cells slots lsA hw hm he hl hs hS hls hc hsl
  exact lv_i2f X.1 X.2.1 hd (kn _ _ _ _ h La H locs cells slots lsA hw hm he hl (ok_cons trivial (ok_tail hs)) hS hls hc hsl)
theorem sm_i2d (X : mCtx E F cc own nL) (hd : decode cc pc = .ok (.i2d, 1)) (h : mstep P rt sg C J Xx post (.i2d) pc ls stk rem st nx) (kn : mKn E F nL mc ms st0 La0 (pc + 1) nx) : mSim E F nL mc ms st0 La0 pc ls stk rem st := by
  obtain ⟨a, r, rfl, h⟩ := mun_inv h
  intro La H locs cells slots lsA hw hm he hl hs hS hls hc hsl
  exact lv_i2d X.1 X.2.1 hd (kn _ _ _ _ h La H locs cells slots lsA hw hm he hl (ok_cons trivial (ok_tail hs)) hS hls hc hsl)
theorem sm_i2c (X : mCtx E F cc own nL) (hd : decode cc pc = .ok (.i2c, 1)) (h : mstep P rt sg C J Xx post (.i2c) pc ls stk rem st nx) (kn : mKn E F nL mc ms st0 La0 (pc + 1) nx) : mSim E F nL mc ms st0 La0 pc ls stk rem st := by
  obtain ⟨a, r, rfl, h⟩ := mun_inv h
  intro La H locs cells slots lsA hw hm he hl hs hS hls hc hsl
  refine lv_i2c X.1 X.2.1 hd rfl ?_
  have k := kn _ _ _ _ h La H locs cells slots lsA hw hm he hl (ok_cons (show vOK st (mi (bChar a)) from i32_inR _) (ok_tail hs)) hS hls hc hsl
  have e : mR E La (mi (bChar a)) = .int _ := congrArg Value.int (i32_of _)
  rw [List.map_cons, e] at k
  exact k
theorem stJ_inv {stk : List mV} {f : Int64 → List mV → Prop} (h : match stk with | .inr (.inl a) :: r => f a r | _ => False) : ∃ a r, stk = .inr (.inl a) :: r ∧ f a r := by
  match stk, h with
  | .inr (.inl a) :: r, h => exact ⟨a, r, rfl, h⟩
theorem stF_inv {stk : List mV} {f : UInt32 → List mV → Prop} (h : match stk with | .inr (.inr (.inl a)) :: r => f a r | _ => False) : ∃ a r, stk = .inr (.inr (.inl a)) :: r ∧ f a r := by
  match stk, h with
  | .inr (.inr (.inl a)) :: r, h => exact ⟨a, r, rfl, h⟩
theorem stFF_inv {stk : List mV} {f : UInt32 → UInt32 → List mV → Prop} (h : match stk with | .inr (.inr (.inl b)) :: .inr (.inr (.inl a)) :: r => f b a r | _ => False) : ∃ b a r, stk = .inr (.inr (.inl b)) :: .inr (.inr (.inl a)) :: r ∧ f b a r := by
  match stk, h with
  | .inr (.inr (.inl b)) :: .inr (.inr (.inl a)) :: r, h => exact ⟨b, a, r, rfl, h⟩
theorem stDD_inv {stk : List mV} {f : UInt64 → UInt64 → List mV → Prop} (h : match stk with | .inr (.inr (.inr (.inl b))) :: .inr (.inr (.inr (.inl a))) :: r => f b a r | _ => False) : ∃ b a r, stk = .inr (.inr (.inr (.inl b))) :: .inr (.inr (.inr (.inl a))) :: r ∧ f b a r := by
  match stk, h with
  | .inr (.inr (.inr (.inl b))) :: .inr (.inr (.inr (.inl a))) :: r, h => exact ⟨b, a, r, rfl, h⟩
theorem stIJ_inv {stk : List mV} {f : Int → Int64 → List mV → Prop} (h : match stk with | .inl b :: .inr (.inl a) :: r => f b a r | _ => False) : ∃ b a r, stk = .inl b :: .inr (.inl a) :: r ∧ f b a r := by
  match stk, h with
  | .inl b :: .inr (.inl a) :: r, h => exact ⟨b, a, r, rfl, h⟩
theorem stRR_inv {stk : List mV} {f : Nat × Nat → Nat × Nat → List mV → Prop} (h : match stk with | .inr (.inr (.inr (.inr b))) :: .inr (.inr (.inr (.inr a))) :: r => f b a r | _ => False) : ∃ b a r, stk = .inr (.inr (.inr (.inr b))) :: .inr (.inr (.inr (.inr a))) :: r ∧ f b a r := by
  match stk, h with
  | .inr (.inr (.inr (.inr b))) :: .inr (.inr (.inr (.inr a))) :: r, h => exact ⟨b, a, r, rfl, h⟩
theorem sm_l2i (X : mCtx E F cc own nL) (hd : decode cc pc = .ok (.l2i, 1)) (h : mstep P rt sg C J Xx post (.l2i) pc ls stk rem st nx) (kn : mKn E F nL mc ms st0 La0 (pc + 1) nx) : mSim E F nL mc ms st0 La0 pc ls stk rem st := by
  obtain ⟨a, r, rfl, h⟩ := stJ_inv (f := fun a r => nx ls (mi a.toInt32.toInt :: r) rem st) h
  intro La H locs cells slots lsA hw hm he hl hs hS hls hc hsl
  refine lv_l2i X.1 X.2.1 hd rfl ?_
  have k := kn _ _ _ _ h La H locs cells slots lsA hw hm he hl (ok_cons (show vOK st (mi a.toInt32.toInt) from i32_inR _) (ok_tail hs)) hS hls hc hsl
  have e : mR E La (mi a.toInt32.toInt) = .int _ := congrArg Value.int (i32_of _)
  rw [List.map_cons, e] at k
  exact k
theorem sm_f2d (X : mCtx E F cc own nL) (hd : decode cc pc = .ok (.f2d, 1)) (h : mstep P rt sg C J Xx post (.f2d) pc ls stk rem st nx) (kn : mKn E F nL mc ms st0 La0 (pc + 1) nx) : mSim E F nL mc ms st0 La0 pc ls stk rem st := by
  obtain ⟨a, r, rfl, hn, h⟩ := stF_inv (f := fun a r => vf_n64 (FP.f2d a) ∧ nx ls (md (FP.f2d a) :: r) rem st) h
  intro La H locs cells slots lsA hw hm he hl hs hS hls hc hsl
  exact lv_f2d X.1 X.2.1 hd hn (kn _ _ _ _ h La H locs cells slots lsA hw hm he hl (ok_cons trivial (ok_tail hs)) hS hls hc hsl)
theorem sm_fdiv (X : mCtx E F cc own nL) (hd : decode cc pc = .ok (.fdiv, 1)) (h : mstep P rt sg C J Xx post (.fdiv) pc ls stk rem st nx) (kn : mKn E F nL mc ms st0 La0 (pc + 1) nx) : mSim E F nL mc ms st0 La0 pc ls stk rem st := by
  obtain ⟨b, a, r, rfl, hn, h⟩ := stFF_inv (f := fun b a r => vf_n32 (FP.fdiv a b) ∧ nx ls (mf (FP.fdiv a b) :: r) rem st) h
  intro La H locs cells slots lsA hw hm he hl hs hS hls hc hsl
  exact lv_fdiv X.1 X.2.1 hd hn (kn _ _ _ _ h La H locs cells slots lsA hw hm he hl (ok_cons trivial (ok_2 hs).2.2) hS hls hc hsl)
theorem sm_ddiv (X : mCtx E F cc own nL) (hd : decode cc pc = .ok (.ddiv, 1)) (h : mstep P rt sg C J Xx post (.ddiv) pc ls stk rem st nx) (kn : mKn E F nL mc ms st0 La0 (pc + 1) nx) : mSim E F nL mc ms st0 La0 pc ls stk rem st := by
  obtain ⟨b, a, r, rfl, hn, h⟩ := stDD_inv (f := fun b a r => vf_n64 (FP.ddiv a b) ∧ nx ls (md (FP.ddiv a b) :: r) rem st) h
  intro La H locs cells slots lsA hw hm he hl hs hS hls hc hsl
  exact lv_ddiv X.1 X.2.1 hd hn (kn _ _ _ _ h La H locs cells slots lsA hw hm he hl (ok_cons trivial (ok_2 hs).2.2) hS hls hc hsl)
theorem sm_fcmp {op : CmpOp} (X : mCtx E F cc own nL) (hd : decode cc pc = .ok (.fcmp op, 1)) (h : mstep P rt sg C J Xx post (.fcmp op) pc ls stk rem st nx) (kn : mKn E F nL mc ms st0 La0 (pc + 1) nx) : mSim E F nL mc ms st0 La0 pc ls stk rem st := by
  obtain ⟨b, a, r, rfl, h⟩ := stFF_inv (f := fun b a r => nx ls (mi (Op.cmpValue (FP.fcmp a b) op).toInt :: r) rem st) h
  intro La H locs cells slots lsA hw hm he hl hs hS hls hc hsl
  refine lv_fcmp X.1 X.2.1 hd ?_
  have k := kn _ _ _ _ h La H locs cells slots lsA hw hm he hl (ok_cons (show vOK st (mi (Op.cmpValue (FP.fcmp a b) op).toInt) from i32_inR _) (ok_2 hs).2.2) hS hls hc hsl
  have e : mR E La (mi (Op.cmpValue (FP.fcmp a b) op).toInt) = .int _ := congrArg Value.int (i32_of _)
  rw [List.map_cons, e] at k
  exact k
theorem sm_dcmp {op : CmpOp} (X : mCtx E F cc own nL) (hd : decode cc pc = .ok (.dcmp op, 1)) (h : mstep P rt sg C J Xx post (.dcmp op) pc ls stk rem st nx) (kn : mKn E F nL mc ms st0 La0 (pc + 1) nx) : mSim E F nL mc ms st0 La0 pc ls stk rem st := by
  obtain ⟨b, a, r, rfl, h⟩ := stDD_inv (f := fun b a r => nx ls (mi (Op.cmpValue (FP.dcmp a b) op).toInt :: r) rem st) h
  intro La H locs cells slots lsA hw hm he hl hs hS hls hc hsl
  refine lv_dcmp X.1 X.2.1 hd ?_
  have k := kn _ _ _ _ h La H locs cells slots lsA hw hm he hl (ok_cons (show vOK st (mi (Op.cmpValue (FP.dcmp a b) op).toInt) from i32_inR _) (ok_2 hs).2.2) hS hls hc hsl
  have e : mR E La (mi (Op.cmpValue (FP.dcmp a b) op).toInt) = .int _ := congrArg Value.int (i32_of _)
  rw [List.map_cons, e] at k
  exact k
theorem sm_ladd (X : mCtx E F cc own nL) (hd : decode cc pc = .ok (.ladd, 1)) (h : mstep P rt sg C J Xx post (.ladd) pc ls stk rem st nx) (kn : mKn E F nL mc ms st0 La0 (pc + 1) nx) : mSim E F nL mc ms st0 La0 pc ls stk rem st := by
  obtain ⟨a, b, r, rfl, h⟩ := mbinJ_inv h
  intro La H locs cells slots lsA hw hm he hl hs hS hls hc hsl
  exact lv_ladd X.1 X.2.1 hd (kn _ _ _ _ h La H locs cells slots lsA hw hm he hl (ok_cons trivial (ok_2 hs).2.2) hS hls hc hsl)
theorem sm_lsub (X : mCtx E F cc own nL) (hd : decode cc pc = .ok (.lsub, 1)) (h : mstep P rt sg C J Xx post (.lsub) pc ls stk rem st nx) (kn : mKn E F nL mc ms st0 La0 (pc + 1) nx) : mSim E F nL mc ms st0 La0 pc ls stk rem st := by
  obtain ⟨a, b, r, rfl, h⟩ := mbinJ_inv h
  intro La H locs cells slots lsA hw hm he hl hs hS hls hc hsl
  exact lv_lsub X.1 X.2.1 hd (kn _ _ _ _ h La H locs cells slots lsA hw hm he hl (ok_cons trivial (ok_2 hs).2.2) hS hls hc hsl)
theorem sm_land (X : mCtx E F cc own nL) (hd : decode cc pc = .ok (.land, 1)) (h : mstep P rt sg C J Xx post (.land) pc ls stk rem st nx) (kn : mKn E F nL mc ms st0 La0 (pc + 1) nx) : mSim E F nL mc ms st0 La0 pc ls stk rem st := by
  obtain ⟨a, b, r, rfl, h⟩ := mbinJ_inv h
  intro La H locs cells slots lsA hw hm he hl hs hS hls hc hsl
  exact lv_land X.1 X.2.1 hd (kn _ _ _ _ h La H locs cells slots lsA hw hm he hl (ok_cons trivial (ok_2 hs).2.2) hS hls hc hsl)
theorem sm_lor (X : mCtx E F cc own nL) (hd : decode cc pc = .ok (.lor, 1)) (h : mstep P rt sg C J Xx post (.lor) pc ls stk rem st nx) (kn : mKn E F nL mc ms st0 La0 (pc + 1) nx) : mSim E F nL mc ms st0 La0 pc ls stk rem st := by
  obtain ⟨a, b, r, rfl, h⟩ := mbinJ_inv h
  intro La H locs cells slots lsA hw hm he hl hs hS hls hc hsl
  exact lv_lor X.1 X.2.1 hd (kn _ _ _ _ h La H locs cells slots lsA hw hm he hl (ok_cons trivial (ok_2 hs).2.2) hS hls hc hsl)
theorem sm_lcmp (X : mCtx E F cc own nL) (hd : decode cc pc = .ok (.lcmp, 1)) (h : mstep P rt sg C J Xx post (.lcmp) pc ls stk rem st nx) (kn : mKn E F nL mc ms st0 La0 (pc + 1) nx) : mSim E F nL mc ms st0 La0 pc ls stk rem st := by
  obtain ⟨a, b, r, rfl, h⟩ := mbinJ_inv h
  intro La H locs cells slots lsA hw hm he hl hs hS hls hc hsl
  refine W.lcmp X.1 X.2.1 hd ?_
  have k := kn _ _ _ _ h La H locs cells slots lsA hw hm he hl (ok_cons (show vOK st (mi (lg_cmp a b).toInt) from i32_inR _) (ok_2 hs).2.2) hS hls hc hsl
  have e : mR E La (mi (lg_cmp a b).toInt) = .int _ := congrArg Value.int (i32_of _)
  rw [List.map_cons, e] at k
  exact k
theorem sm_lshl (X : mCtx E F cc own nL) (hd : decode cc pc = .ok (.lshl, 1)) (h : mstep P rt sg C J Xx post (.lshl) pc ls stk rem st nx) (kn : mKn E F nL mc ms st0 La0 (pc + 1) nx) : mSim E F nL mc ms st0 La0 pc ls stk rem st := by
  obtain ⟨b, a, r, rfl, h⟩ := stIJ_inv (f := fun b a r => nx ls (ml (a <<< ((Int32.ofInt b).toInt64 &&& 63)) :: r) rem st) h
  intro La H locs cells slots lsA hw hm he hl hs hS hls hc hsl
  exact lv_lshl X.1 X.2.1 hd rfl (kn _ _ _ _ h La H locs cells slots lsA hw hm he hl (ok_cons trivial (ok_2 hs).2.2) hS hls hc hsl)
theorem sm_lushr (X : mCtx E F cc own nL) (hd : decode cc pc = .ok (.lushr, 1)) (h : mstep P rt sg C J Xx post (.lushr) pc ls stk rem st nx) (kn : mKn E F nL mc ms st0 La0 (pc + 1) nx) : mSim E F nL mc ms st0 La0 pc ls stk rem st := by
  obtain ⟨b, a, r, rfl, h⟩ := stIJ_inv (f := fun b a r => nx ls (ml ((a.toUInt64 >>> ((Int32.ofInt b).toInt64.toUInt64 &&& Int64.toUInt64 63)).toInt64) :: r) rem st) h
  intro La H locs cells slots lsA hw hm he hl hs hS hls hc hsl
  exact lv_lushr X.1 X.2.1 hd rfl (kn _ _ _ _ h La H locs cells slots lsA hw hm he hl (ok_cons trivial (ok_2 hs).2.2) hS hls hc hsl)
theorem sm_pop (X : mCtx E F cc own nL) (hd : decode cc pc = .ok (.pop, 1)) (h : mstep P rt sg C J Xx post (.pop) pc ls stk rem st nx) (kn : mKn E F nL mc ms st0 La0 (pc + 1) nx) : mSim E F nL mc ms st0 La0 pc ls stk rem st := by
  obtain ⟨v, r, rfl, h⟩ := st_inv (f := fun v r => cond (Nat.beq (mcat v) 1) (nx ls r rem st) False) h
  obtain ⟨hv, h⟩ := cond_inv h
  intro La H locs cells slots lsA hw hm he hl hs hS hls hc hsl
  exact lv_pop X.1 X.2.1 hd ((mcat_R E La v).trans (Nat.eq_of_beq_eq_true hv)) (kn _ _ _ _ h La H locs cells slots lsA hw hm he hl (ok_tail hs) hS hls hc hsl)
theorem sm_dup (X : mCtx E F cc own nL) (hd : decode cc pc = .ok (.dup, 1)) (h : mstep P rt sg C J Xx post (.dup) pc ls stk rem st nx) (kn : mKn E F nL mc ms st0 La0 (pc + 1) nx) : mSim E F nL mc ms st0 La0 pc ls stk rem st := by
  obtain ⟨v, r, rfl, h⟩ := st_inv (f := fun v r => cond (Nat.beq (mcat v) 1) (nx ls (v :: v :: r) rem st) False) h
  obtain ⟨hv, h⟩ := cond_inv h
  intro La H locs cells slots lsA hw hm he hl hs hS hls hc hsl
  exact lv_dup X.1 X.2.1 hd ((mcat_R E La v).trans (Nat.eq_of_beq_eq_true hv)) (kn _ _ _ _ h La H locs cells slots lsA hw hm he hl (ok_cons (ok_head hs) hs) hS hls hc hsl)
theorem st2_inv {stk : List mV} {f : mV → mV → List mV → Prop} (h : match stk with | v :: w :: r => f v w r | _ => False) : ∃ v w r, stk = v :: w :: r ∧ f v w r := by
  match stk, h with
  | v :: w :: r, h => exact ⟨v, w, r, rfl, h⟩
theorem sm_dup2 (X : mCtx E F cc own nL) (hd : decode cc pc = .ok (.dup2, 1)) (h : mstep P rt sg C J Xx post (.dup2) pc ls stk rem st nx) (kn : mKn E F nL mc ms st0 La0 (pc + 1) nx) : mSim E F nL mc ms st0 La0 pc ls stk rem st := by
  obtain ⟨v, w, r, rfl, h⟩ := st2_inv (f := fun v w r => cond (Nat.beq (mcat v) 1 && Nat.beq (mcat w) 1) (nx ls (v :: w :: v :: w :: r) rem st) False) h
  obtain ⟨hv, h⟩ := cond_inv h
  simp only [Bool.and_eq_true] at hv
  intro La H locs cells slots lsA hw hm he hl hs hS hls hc hsl
  exact lv_dup2_11 X.1 X.2.1 hd ((mcat_R E La v).trans (Nat.eq_of_beq_eq_true hv.1)) ((mcat_R E La w).trans (Nat.eq_of_beq_eq_true hv.2)) (kn _ _ _ _ h La H locs cells slots lsA hw hm he hl (ok_cons (ok_head hs) (ok_cons (ok_2 hs).2.1 hs)) hS hls hc hsl)
abbrev mKj (E : mEnv) (F : mFr) (nL mc ms : Nat) (st0 : mS) (La0 : mLa) (J : mK) : Prop := ∀ t ls stk rem st, J t ls stk rem st → mSim E F nL mc ms st0 La0 t ls stk rem st
theorem sm_goto {off : Int} (ht : (pc : Int) + off = ((mtgt pc off : Nat) : Int)) (X : mCtx E F cc own nL) (hd : decode cc pc = .ok (.goto off, 3)) (h : mstep P rt sg C J Xx post (.goto off) pc ls stk rem st nx) (kj : mKj E F nL mc ms st0 La0 J) : mSim E F nL mc ms st0 La0 pc ls stk rem st := by
  intro La H locs cells slots lsA hw hm he hl hs hS hls hc hsl
  exact lv_goto X.1 X.2.1 hd ht (kj _ _ _ _ _ h La H locs cells slots lsA hw hm he hl hs hS hls hc hsl)
theorem sm_icmp_eq {off : Int} (ht : (pc : Int) + off = ((mtgt pc off : Nat) : Int)) (X : mCtx E F cc own nL) (hd : decode cc pc = .ok (.if_icmp .eq off, 3)) (h : mstep P rt sg C J Xx post (.if_icmp .eq off) pc ls stk rem st nx) (kj : mKj E F nL mc ms st0 La0 J) (kn : mKn E F nL mc ms st0 La0 (pc + 3) nx) : mSim E F nL mc ms st0 La0 pc ls stk rem st := by
  obtain ⟨a, b, r, rfl, h1, h2⟩ := mbin_inv h
  intro La H locs cells slots lsA hw hm he hl hs hS hls hc hsl
  have hi := i32_eq (ok_2 hs).2.1 (ok_2 hs).1
  refine lv_icmp_eq X.1 X.2.1 hd ht (fun g => ?_) (fun g => ?_)
  · exact kj _ _ _ _ _ (h1 (by first | exact hi.mp g | exact fun z => hi.mp g z)) La H locs cells slots lsA hw hm he hl (ok_2 hs).2.2 hS hls hc hsl
  · exact kn _ _ _ _ (h2 (by first | exact fun z => g (hi.mpr z) | exact fun z => z (i32_eq (ok_2 hs).2.1 (ok_2 hs).1 |>.mp g) | exact fun z => (hi.mpr z) g)) La H locs cells slots lsA hw hm he hl (ok_2 hs).2.2 hS hls hc hsl
theorem sm_if_eq {off : Int} (ht : (pc : Int) + off = ((mtgt pc off : Nat) : Int)) (X : mCtx E F cc own nL) (hd : decode cc pc = .ok (.ifCond .eq off, 3)) (h : mstep P rt sg C J Xx post (.ifCond .eq off) pc ls stk rem st nx) (kj : mKj E F nL mc ms st0 La0 J) (kn : mKn E F nL mc ms st0 La0 (pc + 3) nx) : mSim E F nL mc ms st0 La0 pc ls stk rem st := by
  obtain ⟨a, r, rfl, h1, h2⟩ := mun_inv h
  intro La H locs cells slots lsA hw hm he hl hs hS hls hc hsl
  have hi := i32_eq (ok_head hs) i32_0
  refine lv_if_eq X.1 X.2.1 hd ht (fun g => ?_) (fun g => ?_)
  · exact kj _ _ _ _ _ (h1 (by first | exact hi.mp g | exact fun z => hi.mp g z)) La H locs cells slots lsA hw hm he hl (ok_tail hs) hS hls hc hsl
  · exact kn _ _ _ _ (h2 (by first | exact fun z => g (hi.mpr z) | exact fun z => z (i32_eq (ok_head hs) i32_0 |>.mp g) | exact fun z => (hi.mpr z) g)) La H locs cells slots lsA hw hm he hl (ok_tail hs) hS hls hc hsl
theorem sm_icmp_ne {off : Int} (ht : (pc : Int) + off = ((mtgt pc off : Nat) : Int)) (X : mCtx E F cc own nL) (hd : decode cc pc = .ok (.if_icmp .ne off, 3)) (h : mstep P rt sg C J Xx post (.if_icmp .ne off) pc ls stk rem st nx) (kj : mKj E F nL mc ms st0 La0 J) (kn : mKn E F nL mc ms st0 La0 (pc + 3) nx) : mSim E F nL mc ms st0 La0 pc ls stk rem st := by
  obtain ⟨a, b, r, rfl, h1, h2⟩ := mbin_inv h
  intro La H locs cells slots lsA hw hm he hl hs hS hls hc hsl
  have hi := not_congr (i32_eq (ok_2 hs).2.1 (ok_2 hs).1)
  refine lv_icmp_ne X.1 X.2.1 hd ht (fun g => ?_) (fun g => ?_)
  · exact kj _ _ _ _ _ (h1 (by first | exact hi.mp g | exact fun z => hi.mp g z)) La H locs cells slots lsA hw hm he hl (ok_2 hs).2.2 hS hls hc hsl
  · exact kn _ _ _ _ (h2 (by first | exact fun z => g (hi.mpr z) | exact fun z => z (i32_eq (ok_2 hs).2.1 (ok_2 hs).1 |>.mp g) | exact fun z => (hi.mpr z) g)) La H locs cells slots lsA hw hm he hl (ok_2 hs).2.2 hS hls hc hsl
theorem sm_if_ne {off : Int} (ht : (pc : Int) + off = ((mtgt pc off : Nat) : Int)) (X : mCtx E F cc own nL) (hd : decode cc pc = .ok (.ifCond .ne off, 3)) (h : mstep P rt sg C J Xx post (.ifCond .ne off) pc ls stk rem st nx) (kj : mKj E F nL mc ms st0 La0 J) (kn : mKn E F nL mc ms st0 La0 (pc + 3) nx) : mSim E F nL mc ms st0 La0 pc ls stk rem st := by
  obtain ⟨a, r, rfl, h1, h2⟩ := mun_inv h
  intro La H locs cells slots lsA hw hm he hl hs hS hls hc hsl
  have hi := not_congr (i32_eq (ok_head hs) i32_0)
  refine lv_if_ne X.1 X.2.1 hd ht (fun g => ?_) (fun g => ?_)
  · exact kj _ _ _ _ _ (h1 (by first | exact hi.mp g | exact fun z => hi.mp g z)) La H locs cells slots lsA hw hm he hl (ok_tail hs) hS hls hc hsl
  · exact kn _ _ _ _ (h2 (by first | exact fun z => g (hi.mpr z) | exact fun z => z (i32_eq (ok_head hs) i32_0 |>.mp g) | exact fun z => (hi.mpr z) g)) La H locs cells slots lsA hw hm he hl (ok_tail hs) hS hls hc hsl
theorem sm_icmp_lt {off : Int} (ht : (pc : Int) + off = ((mtgt pc off : Nat) : Int)) (X : mCtx E F cc own nL) (hd : decode cc pc = .ok (.if_icmp .lt off, 3)) (h : mstep P rt sg C J Xx post (.if_icmp .lt off) pc ls stk rem st nx) (kj : mKj E F nL mc ms st0 La0 J) (kn : mKn E F nL mc ms st0 La0 (pc + 3) nx) : mSim E F nL mc ms st0 La0 pc ls stk rem st := by
  obtain ⟨a, b, r, rfl, h1, h2⟩ := mbin_inv h
  intro La H locs cells slots lsA hw hm he hl hs hS hls hc hsl
  have hi := i32_lt (ok_2 hs).2.1 (ok_2 hs).1
  refine lv_icmp_lt X.1 X.2.1 hd ht (fun g => ?_) (fun g => ?_)
  · exact kj _ _ _ _ _ (h1 (by first | exact hi.mp g | exact fun z => hi.mp g z)) La H locs cells slots lsA hw hm he hl (ok_2 hs).2.2 hS hls hc hsl
  · exact kn _ _ _ _ (h2 (by first | exact fun z => g (hi.mpr z) | exact fun z => z (i32_eq (ok_2 hs).2.1 (ok_2 hs).1 |>.mp g) | exact fun z => (hi.mpr z) g)) La H locs cells slots lsA hw hm he hl (ok_2 hs).2.2 hS hls hc hsl
theorem sm_if_lt {off : Int} (ht : (pc : Int) + off = ((mtgt pc off : Nat) : Int)) (X : mCtx E F cc own nL) (hd : decode cc pc = .ok (.ifCond .lt off, 3)) (h : mstep P rt sg C J Xx post (.ifCond .lt off) pc ls stk rem st nx) (kj : mKj E F nL mc ms st0 La0 J) (kn : mKn E F nL mc ms st0 La0 (pc + 3) nx) : mSim E F nL mc ms st0 La0 pc ls stk rem st := by
  obtain ⟨a, r, rfl, h1, h2⟩ := mun_inv h
  intro La H locs cells slots lsA hw hm he hl hs hS hls hc hsl
  have hi := i32_lt (ok_head hs) i32_0
  refine lv_if_lt X.1 X.2.1 hd ht (fun g => ?_) (fun g => ?_)
  · exact kj _ _ _ _ _ (h1 (by first | exact hi.mp g | exact fun z => hi.mp g z)) La H locs cells slots lsA hw hm he hl (ok_tail hs) hS hls hc hsl
  · exact kn _ _ _ _ (h2 (by first | exact fun z => g (hi.mpr z) | exact fun z => z (i32_eq (ok_head hs) i32_0 |>.mp g) | exact fun z => (hi.mpr z) g)) La H locs cells slots lsA hw hm he hl (ok_tail hs) hS hls hc hsl
theorem sm_icmp_ge {off : Int} (ht : (pc : Int) + off = ((mtgt pc off : Nat) : Int)) (X : mCtx E F cc own nL) (hd : decode cc pc = .ok (.if_icmp .ge off, 3)) (h : mstep P rt sg C J Xx post (.if_icmp .ge off) pc ls stk rem st nx) (kj : mKj E F nL mc ms st0 La0 J) (kn : mKn E F nL mc ms st0 La0 (pc + 3) nx) : mSim E F nL mc ms st0 La0 pc ls stk rem st := by
  obtain ⟨a, b, r, rfl, h1, h2⟩ := mbin_inv h
  intro La H locs cells slots lsA hw hm he hl hs hS hls hc hsl
  have hi := i32_le (ok_2 hs).1 (ok_2 hs).2.1
  refine lv_icmp_ge X.1 X.2.1 hd ht (fun g => ?_) (fun g => ?_)
  · exact kj _ _ _ _ _ (h1 (by first | exact hi.mp g | exact fun z => hi.mp g z)) La H locs cells slots lsA hw hm he hl (ok_2 hs).2.2 hS hls hc hsl
  · exact kn _ _ _ _ (h2 (by first | exact fun z => g (hi.mpr z) | exact fun z => z (i32_eq (ok_2 hs).2.1 (ok_2 hs).1 |>.mp g) | exact fun z => (hi.mpr z) g)) La H locs cells slots lsA hw hm he hl (ok_2 hs).2.2 hS hls hc hsl
theorem sm_if_ge {off : Int} (ht : (pc : Int) + off = ((mtgt pc off : Nat) : Int)) (X : mCtx E F cc own nL) (hd : decode cc pc = .ok (.ifCond .ge off, 3)) (h : mstep P rt sg C J Xx post (.ifCond .ge off) pc ls stk rem st nx) (kj : mKj E F nL mc ms st0 La0 J) (kn : mKn E F nL mc ms st0 La0 (pc + 3) nx) : mSim E F nL mc ms st0 La0 pc ls stk rem st := by
  obtain ⟨a, r, rfl, h1, h2⟩ := mun_inv h
  intro La H locs cells slots lsA hw hm he hl hs hS hls hc hsl
  have hi := i32_le i32_0 (ok_head hs)
  refine lv_if_ge X.1 X.2.1 hd ht (fun g => ?_) (fun g => ?_)
  · exact kj _ _ _ _ _ (h1 (by first | exact hi.mp g | exact fun z => hi.mp g z)) La H locs cells slots lsA hw hm he hl (ok_tail hs) hS hls hc hsl
  · exact kn _ _ _ _ (h2 (by first | exact fun z => g (hi.mpr z) | exact fun z => z (i32_eq (ok_head hs) i32_0 |>.mp g) | exact fun z => (hi.mpr z) g)) La H locs cells slots lsA hw hm he hl (ok_tail hs) hS hls hc hsl
theorem sm_icmp_gt {off : Int} (ht : (pc : Int) + off = ((mtgt pc off : Nat) : Int)) (X : mCtx E F cc own nL) (hd : decode cc pc = .ok (.if_icmp .gt off, 3)) (h : mstep P rt sg C J Xx post (.if_icmp .gt off) pc ls stk rem st nx) (kj : mKj E F nL mc ms st0 La0 J) (kn : mKn E F nL mc ms st0 La0 (pc + 3) nx) : mSim E F nL mc ms st0 La0 pc ls stk rem st := by
  obtain ⟨a, b, r, rfl, h1, h2⟩ := mbin_inv h
  intro La H locs cells slots lsA hw hm he hl hs hS hls hc hsl
  have hi := i32_lt (ok_2 hs).1 (ok_2 hs).2.1
  refine lv_icmp_gt X.1 X.2.1 hd ht (fun g => ?_) (fun g => ?_)
  · exact kj _ _ _ _ _ (h1 (by first | exact hi.mp g | exact fun z => hi.mp g z)) La H locs cells slots lsA hw hm he hl (ok_2 hs).2.2 hS hls hc hsl
  · exact kn _ _ _ _ (h2 (by first | exact fun z => g (hi.mpr z) | exact fun z => z (i32_eq (ok_2 hs).2.1 (ok_2 hs).1 |>.mp g) | exact fun z => (hi.mpr z) g)) La H locs cells slots lsA hw hm he hl (ok_2 hs).2.2 hS hls hc hsl
theorem sm_if_gt {off : Int} (ht : (pc : Int) + off = ((mtgt pc off : Nat) : Int)) (X : mCtx E F cc own nL) (hd : decode cc pc = .ok (.ifCond .gt off, 3)) (h : mstep P rt sg C J Xx post (.ifCond .gt off) pc ls stk rem st nx) (kj : mKj E F nL mc ms st0 La0 J) (kn : mKn E F nL mc ms st0 La0 (pc + 3) nx) : mSim E F nL mc ms st0 La0 pc ls stk rem st := by
  obtain ⟨a, r, rfl, h1, h2⟩ := mun_inv h
  intro La H locs cells slots lsA hw hm he hl hs hS hls hc hsl
  have hi := i32_lt i32_0 (ok_head hs)
  refine lv_if_gt X.1 X.2.1 hd ht (fun g => ?_) (fun g => ?_)
  · exact kj _ _ _ _ _ (h1 (by first | exact hi.mp g | exact fun z => hi.mp g z)) La H locs cells slots lsA hw hm he hl (ok_tail hs) hS hls hc hsl
  · exact kn _ _ _ _ (h2 (by first | exact fun z => g (hi.mpr z) | exact fun z => z (i32_eq (ok_head hs) i32_0 |>.mp g) | exact fun z => (hi.mpr z) g)) La H locs cells slots lsA hw hm he hl (ok_tail hs) hS hls hc hsl
theorem sm_icmp_le {off : Int} (ht : (pc : Int) + off = ((mtgt pc off : Nat) : Int)) (X : mCtx E F cc own nL) (hd : decode cc pc = .ok (.if_icmp .le off, 3)) (h : mstep P rt sg C J Xx post (.if_icmp .le off) pc ls stk rem st nx) (kj : mKj E F nL mc ms st0 La0 J) (kn : mKn E F nL mc ms st0 La0 (pc + 3) nx) : mSim E F nL mc ms st0 La0 pc ls stk rem st := by
  obtain ⟨a, b, r, rfl, h1, h2⟩ := mbin_inv h
  intro La H locs cells slots lsA hw hm he hl hs hS hls hc hsl
  have hi := i32_le (ok_2 hs).2.1 (ok_2 hs).1
  refine lv_icmp_le X.1 X.2.1 hd ht (fun g => ?_) (fun g => ?_)
  · exact kj _ _ _ _ _ (h1 (by first | exact hi.mp g | exact fun z => hi.mp g z)) La H locs cells slots lsA hw hm he hl (ok_2 hs).2.2 hS hls hc hsl
  · exact kn _ _ _ _ (h2 (by first | exact fun z => g (hi.mpr z) | exact fun z => z (i32_eq (ok_2 hs).2.1 (ok_2 hs).1 |>.mp g) | exact fun z => (hi.mpr z) g)) La H locs cells slots lsA hw hm he hl (ok_2 hs).2.2 hS hls hc hsl
theorem sm_if_le {off : Int} (ht : (pc : Int) + off = ((mtgt pc off : Nat) : Int)) (X : mCtx E F cc own nL) (hd : decode cc pc = .ok (.ifCond .le off, 3)) (h : mstep P rt sg C J Xx post (.ifCond .le off) pc ls stk rem st nx) (kj : mKj E F nL mc ms st0 La0 J) (kn : mKn E F nL mc ms st0 La0 (pc + 3) nx) : mSim E F nL mc ms st0 La0 pc ls stk rem st := by
  obtain ⟨a, r, rfl, h1, h2⟩ := mun_inv h
  intro La H locs cells slots lsA hw hm he hl hs hS hls hc hsl
  have hi := i32_le (ok_head hs) i32_0
  refine lv_if_le X.1 X.2.1 hd ht (fun g => ?_) (fun g => ?_)
  · exact kj _ _ _ _ _ (h1 (by first | exact hi.mp g | exact fun z => hi.mp g z)) La H locs cells slots lsA hw hm he hl (ok_tail hs) hS hls hc hsl
  · exact kn _ _ _ _ (h2 (by first | exact fun z => g (hi.mpr z) | exact fun z => z (i32_eq (ok_head hs) i32_0 |>.mp g) | exact fun z => (hi.mpr z) g)) La H locs cells slots lsA hw hm he hl (ok_tail hs) hS hls hc hsl
theorem sm_tableswitch {d lo hi : Int} {offs : Array Int} {len : Nat} (ht : (pc : Int) + d = ((mtgt pc d : Nat) : Int)) (hto : ∀ off ∈ offs.toList, (pc : Int) + off = ((mtgt pc off : Nat) : Int)) (X : mCtx E F cc own nL) (hd : decode cc pc = .ok (.tableswitch d lo hi offs, len)) (h : mstep P rt sg C J Xx post (.tableswitch d lo hi offs) pc ls stk rem st nx) (kj : mKj E F nL mc ms st0 La0 J) : mSim E F nL mc ms st0 La0 pc ls stk rem st := by
  obtain ⟨a, r, rfl, h1, h2⟩ := mun_inv h
  intro La H locs cells slots lsA hw hm he hl hs hS hls hc hsl
  have ea : (Int32.ofInt a).toInt = a := i32_toInt (ok_head hs)
  by_cases g : a < lo ∨ hi < a
  · exact lv_tableOut X.1 X.2.1 hd (by rw [ea]; exact g) ht (kj _ _ _ _ _ (h1 g) La H locs cells slots lsA hw hm he hl (ok_tail hs) hS hls hc hsl)
  · have h3 := h2 (by omega)
    cases ho : offs[(a - lo).toNat]? with
    | none => rw [ho] at h3; exact h3.elim
    | some off =>
      rw [ho] at h3
      exact lv_tableIn X.1 X.2.1 hd (by rw [ea]; omega) (by rw [ea]; omega) (by rw [ea]; exact ho) (hto off (Array.mem_toList_iff.mpr (Array.mem_of_getElem? ho))) (kj _ _ _ _ _ h3 La H locs cells slots lsA hw hm he hl (ok_tail hs) hS hls hc hsl)
end Steps2
