/-! INTERFACE CALLS, all of them -/
section LMain
variable {E : mEnv} {S : mStr} {F : mFr} {cc : ByteArray} {own : String} {nL mc ms d : Nat} {st0 : mS} {La0 : mLa}
variable {P : mPool} {C : mCall} {Xx : Nat → Nat → mLs → Nat × Nat → mS → Prop} {pc x cnt : Nat} {ls : mLs} {stk : List mV} {rem : Nat × Nat} {st : mS} {nx : mLs → List mV → Nat × Nat → mS → Prop}
abbrev mX5 (E : mEnv) (S : mStr) (F : mFr) (cc : ByteArray) (own : String) (nL mc ms d x y cnt pc : Nat) : Prop := mCtx E F cc own nL ∧ mTab E S (fS F) ∧ mFits F d mc ms ∧ Jvm.Cond.methodLink own x (ifM y) ∈ lw_good ∧ decode cc pc = .ok (.invokeinterface x cnt, 5)
theorem X5.c (X : mCtx E F cc own nL) (T : mTab E S (fS F)) : lC E S F.1 (fS F) (fM F) (fC F) cc nL (fA F) own := ⟨⟨X.1, X.2.1, X.2.2.1, X.2.2.2.1, X.2.2.2.2.1⟩, T, X.2.2.2.2.2.2.1⟩
theorem lk_ref {k : Nat} (h : 20 ≤ k ∧ k < 24) (hv : vOK st (mr k 0)) : k ≠ 99 ∧ k ≠ 62 ∧ 0 < sN st 0 := by
  rcases hv with h1 | h1 | h1
  · exact absurd h1 (by show ¬ k = 99; omega)
  · exact absurd h1 (by show ¬ k = 62; omega)
  · have h2 : 0 < sN st (mG k) := h1.1
    rw [lk_G h.1 (by omega)] at h2
    exact ⟨by omega, by omega, h2⟩
theorem vR_mEk {k z : Nat} (hv : vOK st (mr (mEk k) z)) : z < sN st (mG (mEk k)) := by
  have h9 := mEk_in (k := k)
  rcases hv with h1 | h1 | h1
  · exact absurd h1 h9.2.1
  · exact absurd h1 h9.2.2.1
  · exact h1.1
theorem mR_mEk {La : mLa} {k z : Nat} : mR E La (mr (mEk k) z) = .ref (La (mEk k) z) := mR_ref (mEk_in (k := k)).2.1 (mEk_in (k := k)).2.2.1
theorem inR_len {n : Nat} (h : n ≤ 64) : inR (n : Int) := ⟨by omega, by omega⟩
theorem room_k {d k : Nat} {F : mFr} {mc ms : Nat} (hR : mFits F d mc ms) (hk : k ≤ 8) : k + 1 ≤ F.2.2.2.1.frames ∧ 40 * k + 40 ≤ F.2.2.2.1.locals := by
  obtain ⟨h1, h2, -, -⟩ := hR
  exact ⟨by omega, by omega⟩
theorem li_1 (X5 : mX5 E S F cc own nL mc ms d x 501 cnt pc) (hroom : mroom (stk.drop 1) = true) (b1 : 0 ≤ rem.1) (b2 : 0 ≤ rem.2) (h : mPrim 501 (stk.take 1).reverse st (fun out st' => match out with
      | .inl none => nx ls (stk.drop 1) (rem.1 - 0, rem.2 - 0) st'
      | .inl (some v) => nx ls (v :: stk.drop 1) (rem.1 - 0, rem.2 - 0) st'
      | .inr x9 => Xx x9 pc ls (rem.1 - 0, rem.2 - 0) st')) (kn : mKn E F nL mc ms st0 La0 (pc + 5) nx) : mSim E F nL mc ms st0 La0 pc ls stk rem st := by
  obtain ⟨X, T, hR, hlink, hd⟩ := X5
  obtain ⟨k, r, rfl, hk, hp⟩ := pr_1 h
  intro La H locs cells slots lsA hw hm he hl hs hS hls hc hsl
  obtain ⟨n9, n2, h0⟩ := lk_ref hk (ok_head hs)
  obtain ⟨m1, r1, cap, hLW, hLH, hlen, hel, hez, hrest⟩ := world_list T hw hk.1 hk.2 h0
  obtain ⟨hk1, hk2⟩ := room_k (k := 0) hR (by omega)
  have hn : (sL st k).length ≤ 64 := Nat.le_trans hlen hLH.2.2.2.2.1
  have h64 := hLH.2.2.2.2.1
  have hlo := FG.lo (sz := H.size) hLH hw.1.1
  rw [List.map_cons, mR_ref n9 n2]
  refine va_callFi (lc_F (As := []) (rest := r.map (mR E La)) (X5.c X T) lO_1 ⟨by decide, by decide⟩ hlink (c_size F.2.1 E S) lP.blind hLW.1 (fun U hU hW => ⟨rfl, lT.warm ⟨T, X.2.2.2.2.2.2.1⟩ hw.1 hU hW, by rw [hU], by rw [hU]; exact hLW⟩) rfl hls.1 rfl (mroom_R hroom) hk1 hk2 ⟨by have := hR.2.2.1; omega, by have := hR.2.2.2; omega⟩ hd) hS (fun q _ h => h.elim) (fun q h => h.elim) (fun v u t H1 locs1 ht hvm hpv hB hz hk9 hS => ?_)
  have hw1 := world_grow hw hz (fun q hq => hk9 q hq id)
  have go := kn _ _ _ _ hp La H1 locs1 (cells + 0) (slots + 0) lsA hw1 hm he hl (ok_cons (vI (inR_len hn)) (ok_tail hs)) hS hls (by dsimp only; omega) (by dsimp only; omega)
  rw [List.map_cons] at go
  have e1 : mR E La (mi (sL st k).length) = .int v := congrArg Value.int ((nI_ofInt (by omega)).trans hpv.symm)
  rw [e1] at go
  exact go
theorem li_2 (X5 : mX5 E S F cc own nL mc ms d x 502 cnt pc) (hroom : mroom (stk.drop 2) = true) (b1 : 0 ≤ rem.1) (b2 : 0 ≤ rem.2) (h : mPrim 502 (stk.take 2).reverse st (fun out st' => match out with
      | .inl none => nx ls (stk.drop 2) (rem.1 - 0, rem.2 - 0) st'
      | .inl (some v) => nx ls (v :: stk.drop 2) (rem.1 - 0, rem.2 - 0) st'
      | .inr x9 => Xx x9 pc ls (rem.1 - 0, rem.2 - 0) st')) (kn : mKn E F nL mc ms st0 La0 (pc + 5) nx) : mSim E F nL mc ms st0 La0 pc ls stk rem st := by
  obtain ⟨X, T, hR, hlink, hd⟩ := X5
  obtain ⟨k, j, r, rfl, hk, hj, x9, hx9, hp⟩ := pr_2 h
  intro La H locs cells slots lsA hw hm he hl hs hS hls hc hsl
  obtain ⟨n9, n2, h0⟩ := lk_ref hk (ok_head (ok_tail hs))
  obtain ⟨m1, r1, cap, hLW, hLH, hlen, hel, hez, hrest⟩ := world_list T hw hk.1 hk.2 h0
  obtain ⟨hk1, hk2⟩ := room_k (k := 2) hR (by omega)
  have hn : (sL st k).length ≤ 64 := Nat.le_trans hlen hLH.2.2.2.2.1
  have h64 := hLH.2.2.2.2.1
  have hlo := FG.lo (sz := H.size) hLH hw.1.1
  have hjR : inR j := ok_head hs
  have hlt : j.toNat < (sL st k).length := (List.getElem?_eq_some_iff.mp hx9).1
  have hy : lf st La k j.toNat = some (La (mEk k) x9) := by unfold lf; rw [hx9]; rfl
  rw [List.map_cons, List.map_cons, mR_ref n9 n2, show mR E La (mi j) = .int (nI j.toNat) from congrArg Value.int (ofInt_nn hj hjR)]
  refine va_callFr (lc_F (As := [.int (nI j.toNat)]) (rest := r.map (mR E La)) (X5.c X T) lO_2 ⟨by decide, by decide⟩ hlink (c_get F.2.1 E S (m0 := m1) hlt hlen (by omega) hy) lP.blind hLW.1 (fun U hU hW => ⟨rfl, lT.warm ⟨T, X.2.2.2.2.2.2.1⟩ hw.1 hU hW, by rw [hU], by rw [hU]; exact hLW⟩) rfl hls.1 rfl (mroom_R hroom) hk1 hk2 ⟨by have := hR.2.2.1; omega, by have := hR.2.2.2; omega⟩ hd) hS (fun q _ h => h.elim) (fun q h => h.elim) (fun u ra t H1 locs1 ht hvm hpv hra hz hk9 hS => ?_)
  have hw1 := world_grow hw hz (fun q hq => hk9 q hq id)
  have hv9 : vOK st (mr (mEk k) x9) := Or.inr (Or.inr ⟨hw.2.1.2.2.1 k x9 (List.mem_of_getElem? hx9), (mEk_in (k := k)).1⟩)
  have go := kn _ _ _ _ hp La H1 locs1 (cells + 0) (slots + 0) lsA hw1 hm he hl (ok_cons hv9 (ok_tail (ok_tail hs))) hS hls (by dsimp only; omega) (by dsimp only; omega)
  rw [List.map_cons, mR_mEk] at go
  subst hra
  exact go
theorem li_3 (X5 : mX5 E S F cc own nL mc ms d x 503 cnt pc) (hroom : mroom (stk.drop 2) = true) (b1 : 1 ≤ rem.1) (b2 : 64 ≤ rem.2) (h : mPrim 503 (stk.take 2).reverse st (fun out st' => match out with
      | .inl none => nx ls (stk.drop 2) (rem.1 - 1, rem.2 - 64) st'
      | .inl (some v) => nx ls (v :: stk.drop 2) (rem.1 - 1, rem.2 - 64) st'
      | .inr x9 => Xx x9 pc ls (rem.1 - 1, rem.2 - 64) st')) (kn : mKn E F nL mc ms st0 La0 (pc + 5) nx) : mSim E F nL mc ms st0 La0 pc ls stk rem st := by
  obtain ⟨X, T, hR, hlink, hd⟩ := X5
  obtain ⟨k, x9, r, rfl, hk, h32, hp⟩ := pr_3 h
  intro La H locs cells slots lsA hw hm he hl hs hS hls hc hsl
  obtain ⟨n9, n2, h0⟩ := lk_ref hk (ok_head (ok_tail hs))
  obtain ⟨m1, r1, cap, hLW, hLH, hlen, hel, hez, hrest⟩ := world_list T hw hk.1 hk.2 h0
  obtain ⟨hk1, hk2⟩ := room_k (k := 6) hR (by omega)
  have hn : (sL st k).length ≤ 64 := Nat.le_trans hlen hLH.2.2.2.2.1
  have h64 := hLH.2.2.2.2.1
  have hlo := FG.lo (sz := H.size) hLH hw.1.1
  have hx9 := vR_mEk (ok_head hs)
  obtain ⟨e9, e8, e7⟩ := hez x9 hx9
  have hsl9 : (sL st k).length = cap → ncap cap ≤ 64 := fun e => by
    unfold ncap
    split
    · omega
    · have : max 1 (cap / 2) ≤ 16 := Nat.max_le.mpr ⟨by omega, by omega⟩
      omega
  rw [List.map_cons, List.map_cons, mR_ref n9 n2, mR_mEk]
  refine va_callFi (lc_F (As := [.ref (La (mEk k) x9)]) (rest := r.map (mR E La)) (X5.c X T) lO_3 ⟨by decide, by decide⟩ hlink (c_add F.2.1 E S (m0 := m1) (lel hk.1 hk.2) hLH hlen e8 e7 hsl9) lP.blind hLW.1 (fun U hU hW => ⟨rfl, lT.warm ⟨T, X.2.2.2.2.2.2.1⟩ hw.1 hU hW, by rw [hU], by rw [hU]; exact ⟨hLW, hel, e9⟩⟩) rfl hls.1 rfl (mroom_R hroom) hk1 hk2 ⟨by have := hR.2.2.1; omega, by have := hR.2.2.2; omega⟩ hd) hS (fun q _ h => hlo q h) (fun q h => hlo q h) (fun v u t H1 locs1 ht hvm hpv hB hz hk9 hS => ?_)
  obtain ⟨rfl, hu⟩ := hpv
  obtain ⟨m2, hB⟩ := hB
  rw [ht] at hB
  obtain ⟨r2, cap2⟩ := u
  dsimp only at hB
  have hB2 : LW E (La k 0) m2 r2 (nI (sL st k ++ [x9]).length) cap2 (fun j => ((sL st k ++ [x9])[j]?).map (La (mEk k))) H1 := by
    rw [lf_app, List.length_append, List.length_singleton]
    exact hB
  have hcc : (sL st k ++ [x9]).length ≤ cap2 ∧ cap2 ≤ 64 ∧ ((r2 = r1 ∧ cap2 = cap) ∨ (H.size ≤ r2 ∧ cap2 ≠ 0)) := by
    rw [List.length_append, List.length_singleton]
    rcases hu with ⟨g1, g2⟩ | ⟨g1, g2, g3⟩
    · cases g2
      exact ⟨g1, h64, Or.inl ⟨rfl, rfl⟩⟩
    · dsimp only at g2 g3
      subst g3
      have := @ncap_gt cap
      exact ⟨by omega, hsl9 g1, Or.inr ⟨g2, by omega⟩⟩
  have hxs : ∀ x ∈ sL st k ++ [x9], x < sN st (mG (mEk k)) := fun x hx => by
    rcases List.mem_append.mp hx with h | h
    · exact hw.2.1.2.2.1 k x h
    · rw [List.mem_singleton.mp h]; exact hx9
  have hw1 := hrest H1 m2 r2 cap2 _ hz hk9 hB2 hcc.1 hcc.2.1 hcc.2.2 hxs
  have hE := laR_ext (st := st) (La := La) (r := r2) hk.1 hk.2
  have hrs : ∀ v ∈ r, vOK st v := ok_tail (ok_tail hs)
  have go := kn _ _ _ _ hp _ H1 locs1 (cells + 1) (slots + 64) lsA hw1 hm (he.trans hm hE) hl (ok_cons (st := st) (vI ⟨by omega, by omega⟩) hrs) hS (by rw [mapL_ext hE hl]; exact hls) (by dsimp only; omega) (by dsimp only; omega)
  rw [List.map_cons] at go
  have e1 : (List.drop 2 (mr (mEk k) x9 :: mr k 0 :: r)).map (mR E (laR La k r2)) = r.map (mR E La) := mapR_ext hE hrs
  rw [e1] at go
  exact go
theorem li_4 (X5 : mX5 E S F cc own nL mc ms d x 504 cnt pc) (hroom : mroom (stk.drop 3) = true) (b1 : 1 ≤ rem.1) (b2 : 16 ≤ rem.2) (h : mPrim 504 (stk.take 3).reverse st (fun out st' => match out with
      | .inl none => nx ls (stk.drop 3) (rem.1 - 1, rem.2 - 16) st'
      | .inl (some v) => nx ls (v :: stk.drop 3) (rem.1 - 1, rem.2 - 16) st'
      | .inr x9 => Xx x9 pc ls (rem.1 - 1, rem.2 - 16) st')) (kn : mKn E F nL mc ms st0 La0 (pc + 5) nx) : mSim E F nL mc ms st0 La0 pc ls stk rem st := by
  obtain ⟨X, T, hR, hlink, hd⟩ := X5
  obtain ⟨k, j, x9, r, rfl, hk, ⟨hj, hjn, h8⟩, hp⟩ := pr_4 h
  intro La H locs cells slots lsA hw hm he hl hs hS hls hc hsl
  obtain ⟨n9, n2, h0⟩ := lk_ref hk (ok_head (ok_tail (ok_tail hs)))
  obtain ⟨m1, r1, cap, hLW, hLH, hlen, hel, hez, hrest⟩ := world_list T hw hk.1 hk.2 h0
  obtain ⟨hk1, hk2⟩ := room_k (k := 5) hR (by omega)
  have hn : (sL st k).length ≤ 64 := Nat.le_trans hlen hLH.2.2.2.2.1
  have h64 := hLH.2.2.2.2.1
  have hlo := FG.lo (sz := H.size) hLH hw.1.1
  have hjR : inR j := ok_head (ok_tail hs)
  have hx9 := vR_mEk (ok_head hs)
  obtain ⟨e9, e8, e7⟩ := hez x9 hx9
  have hsl9 : (sL st k).length = cap → ncap cap ≤ 16 := fun e => by
    unfold ncap
    split
    · omega
    · have : max 1 (cap / 2) ≤ 4 := Nat.max_le.mpr ⟨by omega, by omega⟩
      omega
  rw [List.map_cons, List.map_cons, List.map_cons, mR_ref n9 n2, mR_mEk, show mR E La (mi j) = .int (nI j.toNat) from congrArg Value.int (ofInt_nn hj hjR)]
  refine va_callFv (lc_F (As := [.int (nI j.toNat), .ref (La (mEk k) x9)]) (rest := r.map (mR E La)) (X5.c X T) lO_4 ⟨by decide, by decide⟩ hlink (c_addi F.2.1 E S (m0 := m1) (lel hk.1 hk.2) hLH hlen e8 e7 hsl9 hjn) lP.blind hLW.1 (fun U hU hW => ⟨rfl, lT.warm ⟨T, X.2.2.2.2.2.2.1⟩ hw.1 hU hW, by rw [hU], by rw [hU]; exact ⟨hLW, hel, e9⟩⟩) rfl hls.1 rfl (mroom_R hroom) hk1 hk2 ⟨by have := hR.2.2.1; omega, by have := hR.2.2.2; omega⟩ hd) hS (fun q _ h => hlo q h) (fun q h => hlo q h) (fun u t H1 locs1 ht hvm hu hB hz hk9 hS => ?_)
  obtain ⟨m2, hB⟩ := hB
  rw [ht] at hB
  obtain ⟨r2, cap2⟩ := u
  dsimp only at hB
  have hlx : ((sL st k).take j.toNat ++ x9 :: (sL st k).drop j.toNat).length = (sL st k).length + 1 := by
    rw [List.length_append, List.length_cons, List.length_take, List.length_drop]
    omega
  have hB2 : LW E (La k 0) m2 r2 (nI ((sL st k).take j.toNat ++ x9 :: (sL st k).drop j.toNat).length) cap2 (fun i => (((sL st k).take j.toNat ++ x9 :: (sL st k).drop j.toNat)[i]?).map (La (mEk k))) H1 := by
    rw [lf_ins hjn, hlx]
    exact hB
  have hcc : ((sL st k).take j.toNat ++ x9 :: (sL st k).drop j.toNat).length ≤ cap2 ∧ cap2 ≤ 64 ∧ ((r2 = r1 ∧ cap2 = cap) ∨ (H.size ≤ r2 ∧ cap2 ≠ 0)) := by
    rw [hlx]
    rcases hu with ⟨g1, g2⟩ | ⟨g1, g2, g3⟩
    · cases g2
      exact ⟨g1, h64, Or.inl ⟨rfl, rfl⟩⟩
    · dsimp only at g2 g3
      subst g3
      have := @ncap_gt cap
      exact ⟨by omega, Nat.le_trans (hsl9 g1) (by omega), Or.inr ⟨g2, by omega⟩⟩
  have hxs : ∀ x ∈ (sL st k).take j.toNat ++ x9 :: (sL st k).drop j.toNat, x < sN st (mG (mEk k)) := fun x hx => by
    rcases List.mem_append.mp hx with h | h
    · exact hw.2.1.2.2.1 k x (List.mem_of_mem_take h)
    · rcases List.mem_cons.mp h with h | h
      · rw [h]; exact hx9
      · exact hw.2.1.2.2.1 k x (List.mem_of_mem_drop h)
  have hw1 := hrest H1 m2 r2 cap2 _ hz hk9 hB2 hcc.1 hcc.2.1 hcc.2.2 hxs
  have hE := laR_ext (st := st) (La := La) (r := r2) hk.1 hk.2
  have hrs : ∀ v ∈ r, vOK st v := ok_tail (ok_tail (ok_tail hs))
  have go := kn _ _ _ _ hp _ H1 locs1 (cells + 1) (slots + 16) lsA hw1 hm (he.trans hm hE) hl hrs hS (by rw [mapL_ext hE hl]; exact hls) (by dsimp only; omega) (by dsimp only; omega)
  have e1 : (List.drop 3 (mr (mEk k) x9 :: mi j :: mr k 0 :: r)).map (mR E (laR La k r2)) = r.map (mR E La) := mapR_ext hE hrs
  rw [e1] at go
  exact go
theorem li_5 (X5 : mX5 E S F cc own nL mc ms d x 505 cnt pc) (hroom : mroom (stk.drop 2) = true) (b1 : 0 ≤ rem.1) (b2 : 0 ≤ rem.2) (h : mPrim 505 (stk.take 2).reverse st (fun out st' => match out with
      | .inl none => nx ls (stk.drop 2) (rem.1 - 0, rem.2 - 0) st'
      | .inl (some v) => nx ls (v :: stk.drop 2) (rem.1 - 0, rem.2 - 0) st'
      | .inr x9 => Xx x9 pc ls (rem.1 - 0, rem.2 - 0) st')) (kn : mKn E F nL mc ms st0 La0 (pc + 5) nx) : mSim E F nL mc ms st0 La0 pc ls stk rem st := by
  obtain ⟨X, T, hR, hlink, hd⟩ := X5
  obtain ⟨k, j, r, rfl, hk, hj, x9, hx9, hp⟩ := pr_5 h
  intro La H locs cells slots lsA hw hm he hl hs hS hls hc hsl
  obtain ⟨n9, n2, h0⟩ := lk_ref hk (ok_head (ok_tail hs))
  obtain ⟨m1, r1, cap, hLW, hLH, hlen, hel, hez, hrest⟩ := world_list T hw hk.1 hk.2 h0
  obtain ⟨hk1, hk2⟩ := room_k (k := 2) hR (by omega)
  have hn : (sL st k).length ≤ 64 := Nat.le_trans hlen hLH.2.2.2.2.1
  have h64 := hLH.2.2.2.2.1
  have hlo := FG.lo (sz := H.size) hLH hw.1.1
  have hjR : inR j := ok_head hs
  have hlt : j.toNat < (sL st k).length := (List.getElem?_eq_some_iff.mp hx9).1
  have hy : lf st La k j.toNat = some (La (mEk k) x9) := by unfold lf; rw [hx9]; rfl
  rw [List.map_cons, List.map_cons, mR_ref n9 n2, show mR E La (mi j) = .int (nI j.toNat) from congrArg Value.int (ofInt_nn hj hjR)]
  refine va_callFr (lc_F (As := [.int (nI j.toNat)]) (rest := r.map (mR E La)) (X5.c X T) lO_5 ⟨by decide, by decide⟩ hlink (c_rem F.2.1 E S (m0 := m1) (lel hk.1 hk.2) hLH hlen hlt hy) lP.blind hLW.1 (fun U hU hW => ⟨rfl, lT.warm ⟨T, X.2.2.2.2.2.2.1⟩ hw.1 hU hW, by rw [hU], by rw [hU]; exact ⟨hLW, hel⟩⟩) rfl hls.1 rfl (mroom_R hroom) hk1 hk2 ⟨by have := hR.2.2.1; omega, by have := hR.2.2.2; omega⟩ hd) hS (fun q _ h => hlo q h) (fun q h => hlo q h) (fun u ra t H1 locs1 ht hvm hpv hB hz hk9 hS => ?_)
  obtain ⟨rfl, m2, hB⟩ := hB
  rw [ht] at hB
  have hlx : ((sL st k).take j.toNat ++ (sL st k).drop (j.toNat + 1)).length = (sL st k).length - 1 := by
    rw [List.length_append, List.length_take, List.length_drop]
    omega
  have hB2 : LW E (La k 0) m2 r1 (nI ((sL st k).take j.toNat ++ (sL st k).drop (j.toNat + 1)).length) cap (fun i => (((sL st k).take j.toNat ++ (sL st k).drop (j.toNat + 1))[i]?).map (La (mEk k))) H1 := by
    rw [lf_del hlt, hlx]
    exact hB
  have hxs : ∀ x ∈ (sL st k).take j.toNat ++ (sL st k).drop (j.toNat + 1), x < sN st (mG (mEk k)) := fun x hx => by
    rcases List.mem_append.mp hx with h | h
    · exact hw.2.1.2.2.1 k x (List.mem_of_mem_take h)
    · exact hw.2.1.2.2.1 k x (List.mem_of_mem_drop h)
  have hv9 : vOK st (mr (mEk k) x9) := Or.inr (Or.inr ⟨hw.2.1.2.2.1 k x9 (List.mem_of_getElem? hx9), (mEk_in (k := k)).1⟩)
  have hw1 := hrest H1 m2 r1 cap _ hz hk9 hB2 (by rw [hlx]; omega) h64 (Or.inl ⟨rfl, rfl⟩) hxs
  have hE := laR_ext (st := st) (La := La) (r := r1) hk.1 hk.2
  have hrs : ∀ v ∈ r, vOK st v := ok_tail (ok_tail hs)
  have go := kn _ _ _ _ hp _ H1 locs1 (cells + 0) (slots + 0) lsA hw1 hm (he.trans hm hE) hl (ok_cons (st := st) hv9 hrs) hS (by rw [mapL_ext hE hl]; exact hls) (by dsimp only; omega) (by dsimp only; omega)
  rw [List.map_cons] at go
  have e1 : (List.drop 2 (mi j :: mr k 0 :: r)).map (mR E (laR La k r1)) = r.map (mR E La) := mapR_ext hE hrs
  have e2 : mR E (laR La k r1) (mr (mEk k) x9) = .ref (La (mEk k) x9) := (mR_ext hE hv9).trans mR_mEk
  rw [e1, e2] at go
  exact go
theorem li_6 (X5 : mX5 E S F cc own nL mc ms d x 506 cnt pc) (hroom : mroom (stk.drop 1) = true) (b1 : 0 ≤ rem.1) (b2 : 0 ≤ rem.2) (h : mPrim 506 (stk.take 1).reverse st (fun out st' => match out with
      | .inl none => nx ls (stk.drop 1) (rem.1 - 0, rem.2 - 0) st'
      | .inl (some v) => nx ls (v :: stk.drop 1) (rem.1 - 0, rem.2 - 0) st'
      | .inr x9 => Xx x9 pc ls (rem.1 - 0, rem.2 - 0) st')) (kn : mKn E F nL mc ms st0 La0 (pc + 5) nx) : mSim E F nL mc ms st0 La0 pc ls stk rem st := by
  obtain ⟨X, T, hR, hlink, hd⟩ := X5
  obtain ⟨k, r, rfl, hk, hp⟩ := pr_6 h
  intro La H locs cells slots lsA hw hm he hl hs hS hls hc hsl
  obtain ⟨n9, n2, h0⟩ := lk_ref hk (ok_head hs)
  obtain ⟨m1, r1, cap, hLW, hLH, hlen, hel, hez, hrest⟩ := world_list T hw hk.1 hk.2 h0
  obtain ⟨hk1, hk2⟩ := room_k (k := 0) hR (by omega)
  have hn : (sL st k).length ≤ 64 := Nat.le_trans hlen hLH.2.2.2.2.1
  have h64 := hLH.2.2.2.2.1
  have hlo := FG.lo (sz := H.size) hLH hw.1.1
  rw [List.map_cons, mR_ref n9 n2]
  refine va_callFv (lc_F (As := []) (rest := r.map (mR E La)) (X5.c X T) lO_6 ⟨by decide, by decide⟩ hlink (c_clr F.2.1 E S (m0 := m1) hLH hlen) lP.blind hLW.1 (fun U hU hW => ⟨rfl, lT.warm ⟨T, X.2.2.2.2.2.2.1⟩ hw.1 hU hW, by rw [hU], by rw [hU]; exact hLW⟩) rfl hls.1 rfl (mroom_R hroom) hk1 hk2 ⟨by have := hR.2.2.1; omega, by have := hR.2.2.2; omega⟩ hd) hS (fun q _ h => hlo q h) (fun q h => hlo q h) (fun u t H1 locs1 ht hvm hpv hB hz hk9 hS => ?_)
  obtain ⟨m2, hB⟩ := hB
  rw [ht] at hB
  have ef : (fun i => if i < (sL st k).length then none else lf st La k i) = fun i => (([] : List Nat)[i]?).map (La (mEk k)) := by
    funext i
    split
    · rfl
    · rename_i h1
      unfold lf
      rw [List.getElem?_eq_none (by omega)]
      rfl
  have hB2 : LW E (La k 0) m2 r1 (nI ([] : List Nat).length) cap (fun i => (([] : List Nat)[i]?).map (La (mEk k))) H1 := by
    rw [← ef]
    exact hB
  have hw1 := hrest H1 m2 r1 cap [] hz hk9 hB2 (Nat.zero_le _) h64 (Or.inl ⟨rfl, rfl⟩) (fun x hx => nomatch hx)
  have hE := laR_ext (st := st) (La := La) (r := r1) hk.1 hk.2
  have hrs : ∀ v ∈ r, vOK st v := ok_tail hs
  have go := kn _ _ _ _ hp _ H1 locs1 (cells + 0) (slots + 0) lsA hw1 hm (he.trans hm hE) hl hrs hS (by rw [mapL_ext hE hl]; exact hls) (by dsimp only; omega) (by dsimp only; omega)
  have e1 : (List.drop 1 (mr k 0 :: r)).map (mR E (laR La k r1)) = r.map (mR E La) := mapR_ext hE hrs
  rw [e1] at go
  exact go
end LMain
theorem prim_I {E : mEnv} {S : mStr} {sg : mSig} {l : Launch} (hsg : ∀ y, 500 ≤ y → sg y = mPsg y) : primI E S sg l := by
  intro F cc own nL mc ms d st0 La0 P C Xx hFl X T hR hprim hpool hif x cnt y pc ls stk rem st nx hlook hic hd h kn
  have hy : 501 ≤ y ∧ y ≤ 506 := by
    unfold icB at hic
    rw [hlook] at hic
    dsimp only at hic
    rw [Bool.and_eq_true, Bool.and_eq_true] at hic
    exact ⟨Nat.le_of_ble_eq_true hic.1.1, Nat.le_of_ble_eq_true hic.1.2⟩
  have hlink := (hif x y hlook).1 hy.1 hy.2
  have X5 : mX5 E S F cc own nL mc ms d x y cnt pc := ⟨X, T, hR, hlink, hd⟩
  unfold mcall at h
  rw [hsg y (by omega)] at h
  obtain ⟨hroom, b1, b2, h3⟩ := cond_inv h
  have h4 := hprim _ _ _ _ (by omega) h3
  rcases (show y = 501 ∨ y = 502 ∨ y = 503 ∨ y = 504 ∨ y = 505 ∨ y = 506 by omega) with rfl | rfl | rfl | rfl | rfl | rfl
  · exact li_1 X5 hroom b1 b2 h4 kn
  · exact li_2 X5 hroom b1 b2 h4 kn
  · exact li_3 X5 hroom b1 b2 h4 kn
  · exact li_4 X5 hroom b1 b2 h4 kn
  · exact li_5 X5 hroom b1 b2 h4 kn
  · exact li_6 X5 hroom b1 b2 h4 kn
