/-! THE SIMULATION: rows of numbers, casts, compared references, Math -/
section Steps4
variable {E : mEnv} {F : mFr} {cc : ByteArray} {own : String} {nL mc ms : Nat} {st0 : mS} {La0 : mLa}
variable {P : mPool} {rt : Nat} {sg : mSig} {C : mCall} {J : mK} {Xx : Nat → Nat → mLs → Nat × Nat → mS → Prop} {post : mO → mS → Prop}
variable {pc n : Nat} {ls : mLs} {stk : List mV} {rem : Nat × Nat} {st : mS} {nx : mLs → List mV → Nat × Nat → mS → Prop}
theorem mLen_cases {k c n : Nat} (h : mLen st k = some (c, n)) : (k = 62 ∧ c = 0 ∧ n = sN st 62) ∨ mAd k = some (c, n) := by
  unfold mLen at h
  split at h
  · cases h; exact Or.inl ⟨rfl, rfl, rfl⟩
  · exact Or.inr h
theorem ok_3 {u v w : mV} {r : List mV} (hs : ∀ z ∈ u :: v :: w :: r, vOK st z) : vOK st u ∧ vOK st v ∧ vOK st w ∧ ∀ z ∈ r, vOK st z := ⟨ok_head hs, (ok_2 (ok_tail hs)).1, (ok_2 (ok_tail hs)).2.1, (ok_2 (ok_tail hs)).2.2⟩
theorem mR_ref {E : mEnv} {La : mLa} {k i : Nat} (h : k ≠ 99) (h2 : k ≠ 62) : mR E La (mr k i) = .ref (La k i) := congrArg Value.ref (mA_eq h h2)
theorem mR_scr {E : mEnv} {La : mLa} {i : Nat} : mR E La (mr 62 i) = .ref (eB E) := rfl

theorem sm_iaload (X : mCtx E F cc own nL) (hd : decode cc pc = .ok (.iaload, 1)) (h : mstep P rt sg C J Xx post (.iaload) pc ls stk rem st nx) (kn : mKn E F nL mc ms st0 La0 (pc + 1) nx) : mSim E F nL mc ms st0 La0 pc ls stk rem st := by
  obtain ⟨j, q, r, rfl, h1⟩ := stIR_inv (f := fun j q r => mRow (mLen st q.1) 0 j (nx ls (mi (sI st q.1 q.2 j.toNat) :: r) rem st)) h
  obtain ⟨k, i⟩ := q
  obtain ⟨n, e1, ⟨b1, b2⟩, h2⟩ := mRow_inv h1
  intro La H locs cells slots lsA hw hm he hl hs hS hls hc hsl
  obtain ⟨o1, o2, o3⟩ := ok_2 hs
  obtain ⟨hin, hcl⟩ := i32_idx b1 b2 o1
  have go := kn _ _ _ _ h2 La H locs cells slots lsA hw hm he hl (ok_cons (show vOK st (mi (sI st k i j.toNat)) from hw.2.1.1 k i j.toNat) o3) hS hls hc hsl
  rcases mLen_cases e1 with ⟨rfl, -, rfl⟩ | e2
  · rw [List.map_cons, List.map_cons, mR_scr]
    have e5 : sI st 62 i j.toNat = (eX E j.toNat).toInt := hw.2.1.2.2.2.2 i j.toNat (by have := mG_62 hw.2.1; omega)
    have hN := mG_62 hw.2.1
    rw [hN] at b2 hin
    have hb : H[eB E]? = (eH E)[eB E]? := hw.1.2 _ X.2.2.2.2.2.2.2.2
    have hX := X.2.2.2.2.2.2.2.1.kept (H1 := H) hb
    rw [List.map_cons, show mR E La (mi (sI st 62 i j.toNat)) = .int (eX E (Int32.ofInt j).toNatClampNeg) from by rw [hcl]; show Value.int (Int32.ofInt (sI st 62 i j.toNat)) = _; rw [e5, i32_of]] at go
    obtain ⟨scr, z1, z2, z3, z4, z5⟩ := hX
    have hlt : (Int32.ofInt j).toNatClampNeg < eL E := Nat.not_le.mp fun q => hin (Or.inr q)
    exact W.iald (v := .int (eX E (Int32.ofInt j).toNatClampNeg)) X.1 X.2.1 z1 z2 z3 (by rw [z4]; exact hin) (z5 _ hlt) rfl rfl hd go
  · obtain ⟨n9, n2, hi⟩ := ad_in e2 o2
    obtain ⟨hlo, hat⟩ := world_cell hw (fun cap mdc => cell_ad (E := E) (La := La) (cap := cap) (mdc := mdc) e2 (by decide) hi)
    rw [List.map_cons, List.map_cons, mR_ref n9 n2]
    refine va_iald X.1 X.2.1 X.2.2.2.2.2.1 (one_P hat) 0 0 rfl rfl hin hd ?_
    rw [hcl]
    exact go
theorem sm_baload (X : mCtx E F cc own nL) (hd : decode cc pc = .ok (.baload, 1)) (h : mstep P rt sg C J Xx post (.baload) pc ls stk rem st nx) (kn : mKn E F nL mc ms st0 La0 (pc + 1) nx) : mSim E F nL mc ms st0 La0 pc ls stk rem st := by
  obtain ⟨j, q, r, rfl, h1⟩ := stIR_inv (f := fun j q r => mRow (mAd q.1) 1 j (nx ls (mi (sI st q.1 q.2 j.toNat) :: r) rem st)) h
  obtain ⟨k, i⟩ := q
  obtain ⟨n, e2, ⟨b1, b2⟩, h2⟩ := mRow_inv h1
  intro La H locs cells slots lsA hw hm he hl hs hS hls hc hsl
  obtain ⟨o1, o2, o3⟩ := ok_2 hs
  obtain ⟨hin, hcl⟩ := i32_idx b1 b2 o1
  have go := kn _ _ _ _ h2 La H locs cells slots lsA hw hm he hl (ok_cons (show vOK st (mi (sI st k i j.toNat)) from hw.2.1.1 k i j.toNat) o3) hS hls hc hsl
  obtain ⟨n9, n2, hi⟩ := ad_in e2 o2
  obtain ⟨hlo, hat⟩ := world_cell hw (fun cap mdc => cell_ad (E := E) (La := La) (cap := cap) (mdc := mdc) e2 (by decide) hi)
  rw [List.map_cons, List.map_cons, mR_ref n9 n2]
  refine va_zald X.1 X.2.1 X.2.2.2.2.2.1 (one_P hat) 0 1 rfl rfl hin hd ?_
  rw [hcl]
  exact go
theorem sm_laload (X : mCtx E F cc own nL) (hd : decode cc pc = .ok (.laload, 1)) (h : mstep P rt sg C J Xx post (.laload) pc ls stk rem st nx) (kn : mKn E F nL mc ms st0 La0 (pc + 1) nx) : mSim E F nL mc ms st0 La0 pc ls stk rem st := by
  obtain ⟨j, q, r, rfl, h1⟩ := stIR_inv (f := fun j q r => mRow (mAd q.1) 2 j (nx ls (ml (sJ st q.1 q.2 j.toNat) :: r) rem st)) h
  obtain ⟨k, i⟩ := q
  obtain ⟨n, e2, ⟨b1, b2⟩, h2⟩ := mRow_inv h1
  intro La H locs cells slots lsA hw hm he hl hs hS hls hc hsl
  obtain ⟨o1, o2, o3⟩ := ok_2 hs
  obtain ⟨hin, hcl⟩ := i32_idx b1 b2 o1
  have go := kn _ _ _ _ h2 La H locs cells slots lsA hw hm he hl (ok_cons trivial o3) hS hls hc hsl
  obtain ⟨n9, n2, hi⟩ := ad_in e2 o2
  obtain ⟨hlo, hat⟩ := world_cell hw (fun cap mdc => cell_ad2 (E := E) (La := La) (cap := cap) (mdc := mdc) e2 hi)
  rw [List.map_cons, List.map_cons, mR_ref n9 n2]
  refine va_lald X.1 X.2.1 X.2.2.2.2.2.1 (one_P hat) 0 2 rfl rfl hin hd ?_
  rw [hcl]
  exact go
theorem sm_daload (X : mCtx E F cc own nL) (hd : decode cc pc = .ok (.daload, 1)) (h : mstep P rt sg C J Xx post (.daload) pc ls stk rem st nx) (kn : mKn E F nL mc ms st0 La0 (pc + 1) nx) : mSim E F nL mc ms st0 La0 pc ls stk rem st := by
  obtain ⟨j, q, r, rfl, h1⟩ := stIR_inv (f := fun j q r => mRow (mAd q.1) 3 j (nx ls (md (sD st q.1 q.2 j.toNat) :: r) rem st)) h
  obtain ⟨k, i⟩ := q
  obtain ⟨n, e2, ⟨b1, b2⟩, h2⟩ := mRow_inv h1
  intro La H locs cells slots lsA hw hm he hl hs hS hls hc hsl
  obtain ⟨o1, o2, o3⟩ := ok_2 hs
  obtain ⟨hin, hcl⟩ := i32_idx b1 b2 o1
  have go := kn _ _ _ _ h2 La H locs cells slots lsA hw hm he hl (ok_cons trivial o3) hS hls hc hsl
  obtain ⟨n9, n2, hi⟩ := ad_in e2 o2
  obtain ⟨hlo, hat⟩ := world_cell hw (fun cap mdc => cell_ad3 (E := E) (La := La) (cap := cap) (mdc := mdc) e2 hi)
  rw [List.map_cons, List.map_cons, mR_ref n9 n2]
  refine va_dald X.1 X.2.1 X.2.2.2.2.2.1 (one_P hat) 0 3 rfl rfl hin hd ?_
  rw [hcl]
  exact go
theorem sm_iastore (X : mCtx E F cc own nL) (hd : decode cc pc = .ok (.iastore, 1)) (h : mstep P rt sg C J Xx post (.iastore) pc ls stk rem st nx) (kn : mKn E F nL mc ms st0 La0 (pc + 1) nx) : mSim E F nL mc ms st0 La0 pc ls stk rem st := by
  obtain ⟨v, j, q, r, rfl, h1⟩ := stIIR_inv (f := fun v j q r => mRow (mAd q.1) 0 j (nx ls r rem (putI st q.1 q.2 j.toNat v))) h
  obtain ⟨k, i⟩ := q
  obtain ⟨n, e2, ⟨b1, b2⟩, h2⟩ := mRow_inv h1
  intro La H locs cells slots lsA hw hm he hl hs hS hls hc hsl
  obtain ⟨o1, o2, o3, o4⟩ := ok_3 hs
  obtain ⟨hin, hcl⟩ := i32_idx b1 b2 o2
  obtain ⟨n9, n2, hi⟩ := ad_in e2 o3
  obtain ⟨hlo, hat⟩ := world_cell hw (fun cap mdc => cell_ad (E := E) (La := La) (cap := cap) (mdc := mdc) e2 (by decide) hi)
  rw [List.map_cons, List.map_cons, List.map_cons, mR_ref n9 n2]
  refine mw_iast (D := eD E) X.1 X.2.1 X.2.2.2.2.2.1 hS 0 hat hlo rfl hin hd (fun H1 locs1 a1 a2 a3 a4 => ?_)
  have hf : upd (fun a => Int32.ofInt (sI st k i a)) (Int32.ofInt j).toNatClampNeg (Int32.ofInt v) = fun a => Int32.ofInt (sI (putI st k i j.toNat v) k i a) := by
    funext a
    show (if a = _ then _ else _) = Int32.ofInt (up3 st.1 k i j.toNat v k i a)
    rw [up3_at, hcl]
    by_cases ha : a = j.toNat
    · rw [if_pos ha, if_pos ha]
    · rw [if_neg ha, if_neg ha]
      rfl
  rw [hf] at a1
  exact kn _ _ _ _ h2 La H1 locs1 cells slots lsA (world_putI hw o1 (ad_62 e2) a1 (fun cap mdc => cell_ad e2 (by decide) hi) a3 a2) hm he hl o4 a4 hls hc hsl
theorem sm_bastore (X : mCtx E F cc own nL) (hd : decode cc pc = .ok (.bastore, 1)) (h : mstep P rt sg C J Xx post (.bastore) pc ls stk rem st nx) (kn : mKn E F nL mc ms st0 La0 (pc + 1) nx) : mSim E F nL mc ms st0 La0 pc ls stk rem st := by
  obtain ⟨v, j, q, r, rfl, h1⟩ := stIIR_inv (f := fun v j q r => mRow (mAd q.1) 1 j ((v = 0 ∨ v = 1) ∧ nx ls r rem (putI st q.1 q.2 j.toNat v))) h
  obtain ⟨k, i⟩ := q
  obtain ⟨n, e2, ⟨b1, b2⟩, hb, h2⟩ := mRow_inv h1
  intro La H locs cells slots lsA hw hm he hl hs hS hls hc hsl
  obtain ⟨o1, o2, o3, o4⟩ := ok_3 hs
  obtain ⟨hin, hcl⟩ := i32_idx b1 b2 o2
  obtain ⟨n9, n2, hi⟩ := ad_in e2 o3
  obtain ⟨hlo, hat⟩ := world_cell hw (fun cap mdc => cell_ad (E := E) (La := La) (cap := cap) (mdc := mdc) e2 (by decide) hi)
  rw [List.map_cons, List.map_cons, List.map_cons, mR_ref n9 n2]
  refine mw_zast (D := eD E) X.1 X.2.1 X.2.2.2.2.2.1 hS 1 hat hlo rfl (by rcases hb with rfl | rfl <;> rfl) hin hd (fun H1 locs1 a1 a2 a3 a4 => ?_)
  have hf : upd (fun a => Int32.ofInt (sI st k i a)) (Int32.ofInt j).toNatClampNeg (Int32.ofInt v) = fun a => Int32.ofInt (sI (putI st k i j.toNat v) k i a) := by
    funext a
    show (if a = _ then _ else _) = Int32.ofInt (up3 st.1 k i j.toNat v k i a)
    rw [up3_at, hcl]
    by_cases ha : a = j.toNat
    · rw [if_pos ha, if_pos ha]
    · rw [if_neg ha, if_neg ha]
      rfl
  rw [hf] at a1
  exact kn _ _ _ _ h2 La H1 locs1 cells slots lsA (world_putI hw o1 (ad_62 e2) a1 (fun cap mdc => cell_ad e2 (by decide) hi) a3 a2) hm he hl o4 a4 hls hc hsl
theorem sm_lastore (X : mCtx E F cc own nL) (hd : decode cc pc = .ok (.lastore, 1)) (h : mstep P rt sg C J Xx post (.lastore) pc ls stk rem st nx) (kn : mKn E F nL mc ms st0 La0 (pc + 1) nx) : mSim E F nL mc ms st0 La0 pc ls stk rem st := by
  obtain ⟨v, j, q, r, rfl, h1⟩ := stJIR_inv (f := fun v j q r => mRow (mAd q.1) 2 j (nx ls r rem (putJ st q.1 q.2 j.toNat v))) h
  obtain ⟨k, i⟩ := q
  obtain ⟨n, e2, ⟨b1, b2⟩, h2⟩ := mRow_inv h1
  intro La H locs cells slots lsA hw hm he hl hs hS hls hc hsl
  obtain ⟨o1, o2, o3, o4⟩ := ok_3 hs
  obtain ⟨hin, hcl⟩ := i32_idx b1 b2 o2
  obtain ⟨n9, n2, hi⟩ := ad_in e2 o3
  obtain ⟨hlo, hat⟩ := world_cell hw (fun cap mdc => cell_ad2 (E := E) (La := La) (cap := cap) (mdc := mdc) e2 hi)
  rw [List.map_cons, List.map_cons, List.map_cons, mR_ref n9 n2]
  refine mw_last (D := eD E) X.1 X.2.1 X.2.2.2.2.2.1 hS 2 hat hlo rfl hin hd (fun H1 locs1 a1 a2 a3 a4 => ?_)
  have hf : vp_updL (sJ st k i) (Int32.ofInt j).toNatClampNeg v = sJ (putJ st k i j.toNat v) k i := by
    funext a
    show (if a = _ then _ else _) = up3 st.2.1 k i j.toNat v k i a
    rw [up3_at, hcl]
    rfl
  rw [hf] at a1
  exact kn _ _ _ _ h2 La H1 locs1 cells slots lsA (world_putJ hw a1 (fun cap mdc => cell_ad2 e2 hi) a3 a2) hm he hl o4 a4 hls hc hsl
theorem sm_dastore (X : mCtx E F cc own nL) (hd : decode cc pc = .ok (.dastore, 1)) (h : mstep P rt sg C J Xx post (.dastore) pc ls stk rem st nx) (kn : mKn E F nL mc ms st0 La0 (pc + 1) nx) : mSim E F nL mc ms st0 La0 pc ls stk rem st := by
  obtain ⟨v, j, q, r, rfl, h1⟩ := stDIR_inv (f := fun v j q r => mRow (mAd q.1) 3 j (nx ls r rem (putD st q.1 q.2 j.toNat v))) h
  obtain ⟨k, i⟩ := q
  obtain ⟨n, e2, ⟨b1, b2⟩, h2⟩ := mRow_inv h1
  intro La H locs cells slots lsA hw hm he hl hs hS hls hc hsl
  obtain ⟨o1, o2, o3, o4⟩ := ok_3 hs
  obtain ⟨hin, hcl⟩ := i32_idx b1 b2 o2
  obtain ⟨n9, n2, hi⟩ := ad_in e2 o3
  obtain ⟨hlo, hat⟩ := world_cell hw (fun cap mdc => cell_ad3 (E := E) (La := La) (cap := cap) (mdc := mdc) e2 hi)
  rw [List.map_cons, List.map_cons, List.map_cons, mR_ref n9 n2]
  refine mw_dast (D := eD E) X.1 X.2.1 X.2.2.2.2.2.1 hS 3 hat hlo rfl hin hd (fun H1 locs1 a1 a2 a3 a4 => ?_)
  have hf : vf_upd (sD st k i) (Int32.ofInt j).toNatClampNeg v = sD (putD st k i j.toNat v) k i := by
    funext a
    show (if a = _ then _ else _) = up3 st.2.2.1 k i j.toNat v k i a
    rw [up3_at, hcl]
    rfl
  rw [hf] at a1
  exact kn _ _ _ _ h2 La H1 locs1 cells slots lsA (world_putD hw a1 (fun cap mdc => cell_ad3 e2 hi) a3 a2) hm he hl o4 a4 hls hc hsl
theorem mLn_inv {q : Option (Nat × Nat)} {f : Nat → Prop} (h : mLn q f) : ∃ c n, q = some (c, n) ∧ f n := by
  match q, h with
  | some (c, n), h => exact ⟨c, n, rfl, h⟩
theorem ad_len {k c n : Nat} (h : mAd k = some (c, n)) : n ≤ 1001 ∧ c < 4 := by
  unfold mAd at h
  split at h <;> cases h <;> decide
theorem sm_arraylength (X : mCtx E F cc own nL) (hd : decode cc pc = .ok (.arraylength, 1)) (h : mstep P rt sg C J Xx post (.arraylength) pc ls stk rem st nx) (kn : mKn E F nL mc ms st0 La0 (pc + 1) nx) : mSim E F nL mc ms st0 La0 pc ls stk rem st := by
  obtain ⟨q, r, rfl, h1⟩ := stR_inv (f := fun q r => mLn (mLen st q.1) (fun n => nx ls (mi n :: r) rem st)) h
  obtain ⟨k, i⟩ := q
  obtain ⟨c, n, e1, h2⟩ := mLn_inv h1
  intro La H locs cells slots lsA hw hm he hl hs hS hls hc hsl
  rcases mLen_cases e1 with ⟨rfl, -, rfl⟩ | e2
  · have hN := mG_62 hw.2.1
    have hb : H[eB E]? = (eH E)[eB E]? := hw.1.2 _ X.2.2.2.2.2.2.2.2
    obtain ⟨scr, z1, z2, z3, z4, z5⟩ := X.2.2.2.2.2.2.2.1.kept (H1 := H) hb
    have h31 := hw.2.1.2.2.2.1.2
    have go := kn _ _ _ _ h2 La H locs cells slots lsA hw hm he hl (ok_cons (show vOK st (mi ((sN st 62 : Nat) : Int)) from ⟨by omega, by rw [hN]; omega⟩) (ok_tail hs)) hS hls hc hsl
    rw [List.map_cons, mR_scr]
    refine W.alen (n := Int32.ofNat (eL E)) X.1 X.2.1 z1 z2 (by rw [z4]) rfl rfl hd ?_
    rw [List.map_cons] at go
    have e : mR E La (mi ((sN st 62 : Nat) : Int)) = .int (Int32.ofNat (eL E)) := by rw [hN]; rfl
    rw [e] at go
    exact go
  · obtain ⟨n9, n2, hi⟩ := ad_in e2 (ok_head hs)
    obtain ⟨hn, hc4⟩ := ad_len e2
    have go := kn _ _ _ _ h2 La H locs cells slots lsA hw hm he hl (ok_cons (show vOK st (mi ((n : Nat) : Int)) from ⟨by omega, by omega⟩) (ok_tail hs)) hS hls hc hsl
    rw [List.map_cons, mR_ref n9 n2]
    rcases (show c = 0 ∨ c = 1 ∨ c = 2 ∨ c = 3 by omega) with rfl | rfl | rfl | rfl
    · obtain ⟨hlo, hat⟩ := world_cell hw (fun cap mdc => cell_ad (E := E) (La := La) (cap := cap) (mdc := mdc) e2 (by decide) hi)
      exact va_alen X.1 X.2.1 X.2.2.2.2.2.1 (one_P hat) 0 0 rfl rfl rfl hd go
    · obtain ⟨hlo, hat⟩ := world_cell hw (fun cap mdc => cell_ad (E := E) (La := La) (cap := cap) (mdc := mdc) e2 (by decide) hi)
      exact va_alen X.1 X.2.1 X.2.2.2.2.2.1 (one_P hat) 0 1 rfl rfl rfl hd go
    · obtain ⟨hlo, hat⟩ := world_cell hw (fun cap mdc => cell_ad2 (E := E) (La := La) (cap := cap) (mdc := mdc) e2 hi)
      exact va_alen X.1 X.2.1 X.2.2.2.2.2.1 (one_P hat) 0 2 rfl rfl rfl hd go
    · obtain ⟨hlo, hat⟩ := world_cell hw (fun cap mdc => cell_ad3 (E := E) (La := La) (cap := cap) (mdc := mdc) e2 hi)
      exact va_alen X.1 X.2.1 X.2.2.2.2.2.1 (one_P hat) 0 3 rfl rfl rfl hd go
theorem sm_checkcast {x : Nat} (hP : poolOK own P) (X : mCtx E F cc own nL) (hd : decode cc pc = .ok (.checkcast x, 3)) (h : mstep P rt sg C J Xx post (.checkcast x) pc ls stk rem st nx) (kn : mKn E F nL mc ms st0 La0 (pc + 3) nx) : mSim E F nL mc ms st0 La0 pc ls stk rem st := by
  obtain ⟨q, r, rfl, h1⟩ := stR_inv (f := fun q r => mCast P x q.1 (nx ls (mr q.1 q.2 :: r) rem st)) h
  obtain ⟨k, i⟩ := q
  obtain ⟨ci, fds, e1, e2, h2⟩ := mCast_inv h1
  intro La H locs cells slots lsA hw hm he hl hs hS hls hc hsl
  obtain ⟨n9, n2, hi⟩ := kd_in e2 (ok_head hs)
  obtain ⟨C0, T, N, g1, g3⟩ := hP.2.1 x ci e1
  obtain ⟨hlo, hat⟩ := world_cell hw (fun cap mdc => cell_kd (E := E) (La := La) (cap := cap) (mdc := mdc) e2 hi)
  have go := kn _ _ _ _ h2 La H locs cells slots lsA hw hm he hl hs hS hls hc hsl
  rw [List.map_cons, mR_ref n9 n2] at go ⊢
  exact va_castS X.1 X.2.1 X.2.2.2.1 (X.2.2.2.2.1 _ g3) (X.2.2.2.2.2.1.1 ci _ g1).2 (va_recv X.2.2.2.2.2.1 (one_P hat) g1 (q0 := 0) rfl) hd go
theorem sm_acmp_ne {off : Int} (ht : (pc : Int) + off = ((mtgt pc off : Nat) : Int)) (X : mCtx E F cc own nL) (hd : decode cc pc = .ok (.if_acmp .ne off, 3)) (h : mstep P rt sg C J Xx post (.if_acmp .ne off) pc ls stk rem st nx) (kj : mKj E F nL mc ms st0 La0 J) (kn : mKn E F nL mc ms st0 La0 (pc + 3) nx) : mSim E F nL mc ms st0 La0 pc ls stk rem st := by
  obtain ⟨b, a, r, rfl, h1⟩ := stRR_inv (f := fun b a r => cond (Nat.blt a.1 20 && Nat.blt b.1 20) (mif (¬ a = b) (J (mtgt pc off) ls r rem st) (nx ls r rem st)) False) h
  obtain ⟨hb, h2, h3⟩ := cond_inv h1
  obtain ⟨k2, i2⟩ := b
  obtain ⟨k1, i1⟩ := a
  rw [Bool.and_eq_true] at hb
  have hk1 : k1 < 20 := Nat.le_of_ble_eq_true hb.1
  have hk2 : k2 < 20 := Nat.le_of_ble_eq_true hb.2
  intro La H locs cells slots lsA hw hm he hl hs hS hls hc hsl
  obtain ⟨o1, o2, o3⟩ := ok_2 hs
  have hc1 : i1 < sN st (mG k1) := by rcases o2 with q | q | q; exact absurd q (by dsimp only; omega); exact absurd q (by dsimp only; omega); exact q.1
  have hc2 : i2 < sN st (mG k2) := by rcases o1 with q | q | q; exact absurd q (by dsimp only; omega); exact absurd q (by dsimp only; omega); exact q.1
  have hcell : ∀ k i, k < 20 → i < sN st (mG k) → ∀ cap mdc, ∃ e, mCell E cap mdc st La k i = some e := by
    intro k i hk hi cap mdc
    cases e1 : mKd k with
    | some z => obtain ⟨ci, fds⟩ := z; exact ⟨_, cell_kd e1 hi⟩
    | none =>
      cases e2 : mAd k with
      | some z =>
        obtain ⟨c, n⟩ := z
        rcases (show c = 0 ∨ c = 1 ∨ c = 2 ∨ c = 3 by have := (ad_len e2).2; omega) with rfl | rfl | rfl | rfl
        · exact ⟨_, cell_ad e2 (by decide) hi⟩
        · exact ⟨_, cell_ad e2 (by decide) hi⟩
        · exact ⟨_, cell_ad2 e2 hi⟩
        · exact ⟨_, cell_ad3 e2 hi⟩
      | none =>
        exfalso
        have : ∀ k < 20, ¬ (mKd k = none ∧ mAd k = none) := by decide
        exact this k hk ⟨e1, e2⟩
  have hiff : La k1 i1 = La k2 i2 ↔ (k1, i1) = (k2, i2) := by
    obtain ⟨-, -, cap, mdc, -, -, hinj⟩ := hw
    obtain ⟨e1, z1⟩ := hcell k1 i1 hk1 hc1 cap mdc
    obtain ⟨e2, z2⟩ := hcell k2 i2 hk2 hc2 cap mdc
    refine ⟨fun q => ?_, fun q => by cases q; rfl⟩
    obtain ⟨q1, q2⟩ := hinj _ _ _ _ _ _ z1 z2 q
    rw [q1, q2]
  rw [List.map_cons, List.map_cons, mR_ref (show k1 ≠ 99 by omega) (show k1 ≠ 62 by omega), mR_ref (show k2 ≠ 99 by omega) (show k2 ≠ 62 by omega)]
  refine lv_acmp_ne (rx := some (La k1 i1)) (ry := some (La k2 i2)) X.1 X.2.1 hd ht (fun g => ?_) (fun g => ?_)
  · exact kj _ _ _ _ _ (h2 (fun q => g (congrArg some (hiff.mpr q)))) La H locs cells slots lsA hw hm he hl o3 hS hls hc hsl
  · exact kn _ _ _ _ (h3 (fun q => q (hiff.mp (Option.some.inj g)))) La H locs cells slots lsA hw hm he hl o3 hS hls hc hsl
theorem sm_ldc {x : Nat} (hP : poolOK own P) (X : mCtx E F cc own nL) (hd : decode cc pc = .ok (.ldc x, 2)) (h : mstep P rt sg C J Xx post (.ldc x) pc ls stk rem st nx) (kn : mKn E F nL mc ms st0 La0 (pc + 2) nx) : mSim E F nL mc ms st0 La0 pc ls stk rem st := by
  have h0 : (match lookC P.2.2.2.2.1 x with | some v => nx ls (mi v :: stk) rem st | none => False) := h
  cases e : lookC P.2.2.2.2.1 x with
  | none => rw [e] at h0; exact h0.elim
  | some v =>
    rw [e] at h0
    obtain ⟨g1, g2⟩ := hP.2.2.1 x v e
    intro La H locs cells slots lsA hw hm he hl hs hS hls hc hsl
    exact lv_ldc X.1 X.2.1 X.2.2.2.1 (X.2.2.2.2.1 _ g2) hd (kn _ _ _ _ h0 La H locs cells slots lsA hw hm he hl (ok_cons (show vOK st (mi v) from g1) hs) hS hls hc hsl)
theorem sm_ldc2_w {x : Nat} (hP : poolOK own P) (X : mCtx E F cc own nL) (hd : decode cc pc = .ok (.ldc2_w x, 3)) (h : mstep P rt sg C J Xx post (.ldc2_w x) pc ls stk rem st nx) (kn : mKn E F nL mc ms st0 La0 (pc + 3) nx) : mSim E F nL mc ms st0 La0 pc ls stk rem st := by
  have h0 : (match lookC P.2.2.2.2.2 x with | some v => nx ls (ml v :: stk) rem st | none => False) := h
  cases e : lookC P.2.2.2.2.2 x with
  | none => rw [e] at h0; exact h0.elim
  | some v =>
    rw [e] at h0
    have g2 := hP.2.2.2 x v e
    intro La H locs cells slots lsA hw hm he hl hs hS hls hc hsl
    exact lv_ldc2 X.1 X.2.1 X.2.2.2.1 (X.2.2.2.2.1 _ g2) hd (kn _ _ _ _ h0 La H locs cells slots lsA hw hm he hl (ok_cons trivial hs) hS hls hc hsl)
end Steps4
