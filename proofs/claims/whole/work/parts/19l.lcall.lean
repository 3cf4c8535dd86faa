/-! CONSTRUCTORS, all of them -/
theorem wf_new {E : mEnv} {st st' : mS} {g : Nat} (hw : mWF E st) (hN : sN st' = up1 (sN st) g (sN st g + 1)) (hL : sL st' = sL st) (hg : g = 1 ∨ g = 2 ∨ g = 3) (hI : ∀ k i j, inR (sI st' k i j)) (h62 : ∀ i j, sI st' 62 i j = sI st 62 i j) (hR : ∀ i, i < sN st' 3 → sR st' i < sN st' 2) : mWF E st' := by
  have hge : ∀ a, sN st a ≤ sN st' a := fun a => by
    rw [hN]
    unfold up1
    split
    · rename_i h
      subst h
      omega
    · exact Nat.le_refl _
  refine ⟨hI, hR, fun k x hx => ?_, ?_, fun i j hj => ?_⟩
  · rw [hL] at hx
    exact Nat.lt_of_lt_of_le (hw.2.2.1 k x hx) (hge _)
  · have h6 : sN st' 62 = sN st 62 := by
      rw [hN]
      unfold up1
      rw [if_neg (by omega)]
    rw [h6]
    exact hw.2.2.2.1
  · rw [h62]
    exact hw.2.2.2.2 i j hj
theorem mono_new {st st' : mS} {g : Nat} (hN : sN st' = up1 (sN st) g (sN st g + 1)) : mMono st st' := fun a => by
  rw [hN]
  unfold up1
  split
  · rename_i h
    subst h
    omega
  · exact Nat.le_refl _
theorem mloads_ok {st : mS} {ls : mLs} (hl : ∀ q ∈ ls, vOK st q.2) : ∀ (ld : List (Instr × Nat)) (vs : List mV), mloads ls ld = some vs → ∀ v ∈ vs, vOK st v := by
  intro ld
  induction ld with
  | nil => intro vs hv v hm; cases hv; cases hm
  | cons q r ih =>
    intro vs hv v hm
    obtain ⟨i, n⟩ := q
    cases i with
    | iload_n k =>
      have hv0 : (match mget ls k.val, mloads ls r with | some (.inl v), some vs => some (mi v :: vs) | _, _ => none) = some vs := hv
      split at hv0
      · rename_i v' vs' e1 e2
        cases hv0
        rcases List.mem_cons.mp hm with h | h
        · rw [h]; exact hl _ (mget_mem e1)
        · exact ih vs' e2 v h
      · cases hv0
    | iload k =>
      have hv0 : (match mget ls k, mloads ls r with | some (.inl v), some vs => some (mi v :: vs) | _, _ => none) = some vs := hv
      split at hv0
      · rename_i v' vs' e1 e2
        cases hv0
        rcases List.mem_cons.mp hm with h | h
        · rw [h]; exact hl _ (mget_mem e1)
        · exact ih vs' e2 v h
      · cases hv0
    | aload_n k =>
      have hv0 : (match mget ls k.val, mloads ls r with | some (.inr (.inr (.inr (.inr v)))), some vs => some (mr v.1 v.2 :: vs) | _, _ => none) = some vs := hv
      split at hv0
      · rename_i v' vs' e1 e2
        cases hv0
        rcases List.mem_cons.mp hm with h | h
        · rw [h]; exact hl _ (mget_mem e1)
        · exact ih vs' e2 v h
      · cases hv0
    | aload k =>
      have hv0 : (match mget ls k, mloads ls r with | some (.inr (.inr (.inr (.inr v)))), some vs => some (mr v.1 v.2 :: vs) | _, _ => none) = some vs := hv
      split at hv0
      · rename_i v' vs' e1 e2
        cases hv0
        rcases List.mem_cons.mp hm with h | h
        · rw [h]; exact hl _ (mget_mem e1)
        · exact ih vs' e2 v h
      · cases hv0
    | _ => cases hv
theorem pc_1 {vs : List mV} {st : mS} {post : mO → mS → Prop} (h : mPrim 601 vs st post) : ∃ n, vs = [mi n] ∧ post (.inl (some (mr 3 (sN st 1)))) (newPerson st n) := by
  rcases vs with _ | ⟨v, _ | ⟨v2, r⟩⟩
  · exact (show False from h).elim
  · rcases v with z | z | z | z | ⟨q1, q2⟩ <;> first | exact (show False from h).elim | exact ⟨z, rfl, h⟩
  · rcases v with z | z | z | z | ⟨q1, q2⟩ <;> exact (show False from h).elim
theorem pc_2 {vs : List mV} {st : mS} {post : mO → mS → Prop} (h : mPrim 602 vs st post) : ∃ n, vs = [mi n] ∧ post (.inl (some (mr 7 (sN st 2)))) (newShip st n) := by
  rcases vs with _ | ⟨v, _ | ⟨v2, r⟩⟩
  · exact (show False from h).elim
  · rcases v with z | z | z | z | ⟨q1, q2⟩ <;> first | exact (show False from h).elim | exact ⟨z, rfl, h⟩
  · rcases v with z | z | z | z | ⟨q1, q2⟩ <;> exact (show False from h).elim
theorem pc_3 {vs : List mV} {st : mS} {post : mO → mS → Prop} (h : mPrim 603 vs st post) : ∃ i a b, vs = [mr 7 i, mi a, mi b] ∧ post (.inl (some (mr 9 (sN st 3)))) (newSailing st i a b) := by
  rcases vs with _ | ⟨v, _ | ⟨v2, _ | ⟨v3, _ | ⟨v4, r⟩⟩⟩⟩
  · exact (show False from h).elim
  · rcases v with z | z | z | z | ⟨q1, q2⟩ <;> exact (show False from h).elim
  · rcases v with z | z | z | z | ⟨q1, q2⟩ <;> rcases v2 with y | y | y | y | ⟨y1, y2⟩ <;> exact (show False from h).elim
  · rcases v with z | z | z | z | ⟨q1, q2⟩ <;> rcases v2 with y | y | y | y | ⟨y1, y2⟩ <;> rcases v3 with x | x | x | x | ⟨x1, x2⟩ <;> first | exact (show False from h).elim | skip
    obtain ⟨hb, h2⟩ := cond_inv h
    obtain rfl : q1 = 7 := beq1 hb
    exact ⟨q2, y, x, rfl, h2⟩
  · rcases v with z | z | z | z | ⟨q1, q2⟩ <;> rcases v2 with y | y | y | y | ⟨y1, y2⟩ <;> rcases v3 with x | x | x | x | ⟨x1, x2⟩ <;> exact (show False from h).elim
section LNew
variable {E : mEnv} {S : mStr} {F : mFr} {cc : ByteArray} {own : String} {nL mc ms d : Nat} {st0 : mS} {La0 : mLa}
variable {P : mPool} {C : mCall} {pc ik ic : Nat} {ld : List (Instr × Nat)} {ls : mLs} {stk : List mV} {rem : Nat × Nat} {st : mS} {nx : mLs → List mV → Nat × Nat → mS → Prop}
/-- where a constructor's call stands -/
abbrev mXn (E : mEnv) (S : mStr) (F : mFr) (cc : ByteArray) (own : String) (nL mc ms d pc ik ic : Nat) (C : String) (y : MethodName) (ld : List (Instr × Nat)) : Prop := mCtx E F cc own nL ∧ mTab E S (fS F) ∧ mFits F d mc ms ∧ Jvm.Cond.classLink own ik C ∈ lw_good ∧ Jvm.Cond.methodLink own ic y ∈ lw_good ∧
  decode cc pc = .ok (.new ik, 3) ∧ decode cc (pc + 3) = .ok (.dup, 1) ∧ loadsB cc (pc + 4) ld = true ∧ decode cc (pc + 4 + lensum ld) = .ok (.invokespecial ic, 3)
theorem i32_m1 : Int32.ofInt (-1) = -1 := by decide
theorem i32_z : Int32.ofInt 0 = 0 := by decide
theorem i32_p : Int32.ofInt 112 = 112 := by decide
theorem i32_1 : Int32.ofInt 1 = 1 := by decide
section NewCells
variable {cap : Nat → Nat} {mdc : Nat → Int32} {La : mLa} {na : Nat → Nat} {n a b : Int} {i : Nat}
theorem np_I {st : mS} {k j : Nat} (hk : mG k = 1) : sI (newPerson st n) k (sN st 1) j = (if k = 3 then (if j = 0 then n else if j = 5 ∨ j = 6 then -1 else 0) else if k = 5 ∧ j < 4 then -1 else 0) := if_pos ⟨hk, rfl⟩
theorem np_J {st : mS} {k j : Nat} (hk : mG k = 1) : sJ (newPerson st n) k (sN st 1) j = 0 := if_pos ⟨hk, rfl⟩
theorem np_N {st : mS} : sN st 1 < sN (newPerson st n) 1 := by
  show sN st 1 < up1 (sN st) 1 (sN st 1 + 1) 1
  unfold up1
  rw [if_pos rfl]
  omega
theorem ns_I {st : mS} {k j : Nat} (hk : mG k = 2) : sI (newShip st n) k (sN st 2) j = (if k = 7 then (if j = 1 then 1 else 0) else if k = 8 ∧ j = 0 then n else 0) := if_pos ⟨hk, rfl⟩
theorem ns_N {st : mS} : sN st 2 < sN (newShip st n) 2 := by
  show sN st 2 < up1 (sN st) 2 (sN st 2 + 1) 2
  unfold up1
  rw [if_pos rfl]
  omega
theorem nv_I {st : mS} {k j : Nat} (hk : mG k = 3) : sI (newSailing st i a b) k (sN st 3) j = (if k = 9 then (if j = 1 then a else if j = 2 then b else if j = 3 then 112 else 0) else if k = 10 ∧ j < 3 then -1 else 0) := if_pos ⟨hk, rfl⟩
theorem nv_N {st : mS} : sN st 3 < sN (newSailing st i a b) 3 := by
  show sN st 3 < up1 (sN st) 3 (sN st 3 + 1) 3
  unfold up1
  rw [if_pos rfl]
  omega
theorem cn_3 {st : mS} : mCell E cap mdc (newPerson st n) (laN La 1 (sN st 1) na) 3 (sN st 1) = some (.inr (7, [.int (Int32.ofInt n), .ref (na 1), .ref (na 2), .ref (na 4), .ref (na 5), .int (-1), .int (-1), .ref (na 6), .int 0])) := by
  rw [cell_kd (k := 3) rfl np_N]
  show some (Sum.inr (7, [Value.int (Int32.ofInt (sI (newPerson st n) 3 (sN st 1) 0)), .ref (mA E (laN La 1 (sN st 1) na) 1 (sN st 1)), .ref (mA E (laN La 1 (sN st 1) na) 2 (sN st 1)), .ref (mA E (laN La 1 (sN st 1) na) 4 (sN st 1)), .ref (mA E (laN La 1 (sN st 1) na) 5 (sN st 1)), .int (Int32.ofInt (sI (newPerson st n) 3 (sN st 1) 5)), .int (Int32.ofInt (sI (newPerson st n) 3 (sN st 1) 6)), .ref (mA E (laN La 1 (sN st 1) na) 6 (sN st 1)), .int (Int32.ofInt (sI (newPerson st n) 3 (sN st 1) 8))])) = _
  rw [np_I rfl, np_I rfl, np_I rfl, np_I rfl, mA_eq (by decide) (by decide), mA_eq (by decide) (by decide), mA_eq (by decide) (by decide), mA_eq (by decide) (by decide), mA_eq (by decide) (by decide), laN_at (k := 1) (g := 1) rfl, laN_at (k := 2) (g := 1) rfl, laN_at (k := 4) (g := 1) rfl, laN_at (k := 5) (g := 1) rfl, laN_at (k := 6) (g := 1) rfl]
  rfl
theorem cn_1 {st : mS} : mCell E cap mdc (newPerson st n) (laN La 1 (sN st 1) na) 1 (sN st 1) = some (.inr (5, [.long 0])) := by
  rw [cell_kd (k := 1) rfl np_N]
  show some (Sum.inr (5, [Value.long (sJ (newPerson st n) 1 (sN st 1) 0)])) = _
  rw [np_J rfl]
theorem cn_2 {st : mS} : mCell E cap mdc (newPerson st n) (laN La 1 (sN st 1) na) 2 (sN st 1) = some (.inr (5, [.long 0])) := by
  rw [cell_kd (k := 2) rfl np_N]
  show some (Sum.inr (5, [Value.long (sJ (newPerson st n) 2 (sN st 1) 0)])) = _
  rw [np_J rfl]
theorem cn_4 {st : mS} : mCell E cap mdc (newPerson st n) (laN La 1 (sN st 1) na) 4 (sN st 1) = some (.inl (eC E 0, 4, .inl (fun _ => 0))) := by
  rw [cell_ad (k := 4) (ty := 0) (n := 4) rfl (by decide) np_N]
  congr 5
  funext j
  rw [np_I rfl, if_neg (by decide), if_neg (by omega), i32_z]
theorem cn_5 {st : mS} : mCell E cap mdc (newPerson st n) (laN La 1 (sN st 1) na) 5 (sN st 1) = some (.inl (eC E 0, 4, .inl (fun i => if i < 4 then -1 else 0))) := by
  rw [cell_ad (k := 5) (ty := 0) (n := 4) rfl (by decide) np_N]
  congr 5
  funext j
  rw [np_I rfl, if_neg (by decide)]
  by_cases h : j < 4
  · rw [if_pos ⟨rfl, h⟩, if_pos h, i32_m1]
  · rw [if_neg (fun z => h z.2), if_neg h, i32_z]
theorem cn_6 {st : mS} : mCell E cap mdc (newPerson st n) (laN La 1 (sN st 1) na) 6 (sN st 1) = some (.inl (eC E 0, 1000, .inl (fun _ => 0))) := by
  rw [cell_ad (k := 6) (ty := 0) (n := 1000) rfl (by decide) np_N]
  congr 5
  funext j
  rw [np_I rfl, if_neg (by decide), if_neg (by omega), i32_z]
theorem cn_7 {st : mS} : mCell E cap mdc (newShip st n) (laN La 2 (sN st 2) na) 7 (sN st 2) = some (.inr (9, [.ref (na 8), .int 1, .int 0])) := by
  rw [cell_kd (k := 7) rfl ns_N]
  show some (Sum.inr (9, [Value.ref (mA E (laN La 2 (sN st 2) na) 8 (sN st 2)), .int (Int32.ofInt (sI (newShip st n) 7 (sN st 2) 1)), .int (Int32.ofInt (sI (newShip st n) 7 (sN st 2) 2))])) = _
  rw [ns_I rfl, ns_I rfl, mA_eq (by decide) (by decide), laN_at (k := 8) (g := 2) rfl]
  rfl
theorem cn_8 {st : mS} : mCell E cap mdc (newShip st n) (laN La 2 (sN st 2) na) 8 (sN st 2) = some (.inl (eC E 0, 3, .inl (upd (fun _ => 0) 0 (Int32.ofInt n)))) := by
  rw [cell_ad (k := 8) (ty := 0) (n := 3) rfl (by decide) ns_N]
  congr 5
  funext j
  rw [ns_I rfl, if_neg (by decide)]
  unfold upd
  by_cases h : j = 0
  · rw [if_pos ⟨rfl, h⟩, if_pos h]
  · rw [if_neg (fun z => h z.2), if_neg h, i32_z]
theorem cn_9 {st : mS} (hi : i < sN st 2) : mCell E cap mdc (newSailing st i a b) (laN La 3 (sN st 3) na) 9 (sN st 3) = some (.inr (8, [.ref (La 7 i), .int (Int32.ofInt a), .int (Int32.ofInt b), .int 112, .ref (na 10), .ref (na 11)])) := by
  rw [cell_kd (k := 9) rfl nv_N]
  show some (Sum.inr (8, [Value.ref (mA E (laN La 3 (sN st 3) na) 7 (up1 (sR st) (sN st 3) i (sN st 3))), .int (Int32.ofInt (sI (newSailing st i a b) 9 (sN st 3) 1)), .int (Int32.ofInt (sI (newSailing st i a b) 9 (sN st 3) 2)), .int (Int32.ofInt (sI (newSailing st i a b) 9 (sN st 3) 3)), .ref (mA E (laN La 3 (sN st 3) na) 10 (sN st 3)), .ref (mA E (laN La 3 (sN st 3) na) 11 (sN st 3))])) = _
  have e1 : up1 (sR st) (sN st 3) i (sN st 3) = i := if_pos rfl
  rw [nv_I rfl, nv_I rfl, nv_I rfl, e1, mA_eq (by decide) (by decide), mA_eq (by decide) (by decide), mA_eq (by decide) (by decide), laN_ne (k := 7) (fun z => absurd z.1 (by decide)), laN_at (k := 10) (g := 3) rfl, laN_at (k := 11) (g := 3) rfl]
  rfl
theorem cn_10 {st : mS} : mCell E cap mdc (newSailing st i a b) (laN La 3 (sN st 3) na) 10 (sN st 3) = some (.inl (eC E 0, 3, .inl (fun i => if i < 3 then -1 else 0))) := by
  rw [cell_ad (k := 10) (ty := 0) (n := 3) rfl (by decide) nv_N]
  congr 5
  funext j
  rw [nv_I rfl, if_neg (by decide)]
  by_cases h : j < 3
  · rw [if_pos ⟨rfl, h⟩, if_pos h, i32_m1]
  · rw [if_neg (fun z => h z.2), if_neg h, i32_z]
theorem cn_11 {st : mS} : mCell E cap mdc (newSailing st i a b) (laN La 3 (sN st 3) na) 11 (sN st 3) = some (.inl (eC E 0, 3, .inl (fun _ => 0))) := by
  rw [cell_ad (k := 11) (ty := 0) (n := 3) rfl (by decide) nv_N]
  congr 5
  funext j
  rw [nv_I rfl, if_neg (by decide), if_neg (by omega), i32_z]
end NewCells
set_option maxHeartbeats 2000000 in
theorem li_601 (Xn : mXn E S F cc own nL mc ms d pc ik ic RX3 yX3_init ld) {n : Int} (hml : mloads ls ld = some [mi n]) (hroom : mroom (mr 99 0 :: stk) = true) (b1 : 6 ≤ rem.1) (b2 : 1024 ≤ rem.2) (hp : nx ls (mr 3 (sN st 1) :: stk) (rem.1 - 6, rem.2 - 1024) (newPerson st n)) (kn : mKn E F nL mc ms st0 La0 (pc + (7 + lensum ld)) nx) : mSim E F nL mc ms st0 La0 pc ls stk rem st := by
  obtain ⟨X, T, hR, hcl, hlk, hd0, hd1, hlo, hd2⟩ := Xn
  intro La H locs cells slots lsA hw hm he hl hs hS hls hc hsl
  have hXc := X5.c X T
  have hr1 := hR.2.2.1
  have hr2 := hR.2.2.2
  have hvs := mloads_ok hl ld _ hml
  obtain ⟨hk1, hk2⟩ := room_k (k := 2) hR (by omega)
  refine mw_new (C := RX3) (T := TX3) (N := 9) (ci := 7) (fs := [.int 0, .null, .null, .null, .null, .int 0, .int 0, .null, .int 0]) hXc gw_X3 tyX3 tyX3_ok hcl lb_i3 lb_n3 hS rfl (fun j hj => by rcases (show j = 0 ∨ j = 1 ∨ j = 2 ∨ j = 3 ∨ j = 4 ∨ j = 5 ∨ j = 6 ∨ j = 7 ∨ j = 8 by omega) with rfl | rfl | rfl | rfl | rfl | rfl | rfl | rfl | rfl <;> rfl) (by omega) (by omega) hd0 (fun H1 hat z1 o1 hS => ?_)
  refine lv_dup X.1 X.2.1 hd1 rfl ?_
  refine mw_loads X.1 X.2.1 hls ld (pc + 4) _ _ hlo hml ?_
  have hB1 : mBase E H1 := ⟨by have := hw.1.1; omega, fun q hq => (o1 q (Nat.lt_of_lt_of_le hq hw.1.1)).trans (hw.1.2 q hq)⟩
  have hAF : ∀ q, AC H.size H1.size q → eN E ≤ q := fun q h => by
    have := hw.1.1
    rcases h with h | h <;> omega
  refine va_callv (lc_I (n := 1) (q := qb_3) (As := [.int (Int32.ofInt n)]) (rest := .ref H.size :: stk.map (mR E La)) (b := H.size) hXc ⟨lb_c3, lb_n3, lb_m3⟩ rfl rfl (by decide) ⟨by decide, by decide⟩ (by decide +kernel) hlk (c_pers (q0 := H.size) (sz := H1.size) F.2.1 E S hw.1.1) lP.blind (fun U hU hW => ⟨rfl, lT.warm hXc.2 hB1 hU hW, by rw [hU], by rw [hU]; exact hat⟩) rfl hls.1 rfl (mroom_R (E := E) (La := La) hroom) hk1 hk2 ⟨by omega, by omega⟩ hd2) hS (fun q _ h => hAF q h) (fun q h => hAF q h) (fun u t H2 locs2 ht hvm hpv hB hz hk9 hS => ?_)
  obtain ⟨d1, d2, r4, r5, r6⟩ := u
  obtain ⟨hP, hD⟩ := hB
  rw [ht] at hP
  have ho : ∀ q : Nat, q < H.size → H2[q]? = H[q]? := fun q hq => (hk9 q (by omega) (fun z => by rcases z with z | z <;> omega)).trans (o1 q hq)
  obtain ⟨na, hna⟩ : ∃ na : Nat → Nat, na = fun k => if k = 3 then H.size else if k = 1 then d1 else if k = 2 then d2 else if k = 4 then r4 else if k = 5 then r5 else r6 := ⟨_, rfl⟩
  have hI : ∀ k i j, inR (sI (newPerson st n) k i j) := fun k i j => by
    have hn : inR n := hvs (mi n) List.mem_cons_self
    show inR (if mG k = 1 ∧ i = sN st 1 then (if k = 3 then (if j = 0 then n else if j = 5 ∨ j = 6 then -1 else 0) else if k = 5 ∧ j < 4 then -1 else 0) else sI st k i j)
    split
    · split
      · split
        · exact hn
        · split <;> exact ⟨by decide, by decide⟩
      · split <;> exact ⟨by decide, by decide⟩
    · exact hw.2.1.1 k i j
  have hs9 : ∀ k i, ¬ (mG k = 1 ∧ i = sN st 1) → sI (newPerson st n) k i = sI st k i ∧ sJ (newPerson st n) k i = sJ st k i ∧ sD (newPerson st n) k i = sD st k i := fun k i h => ⟨funext fun j => if_neg h, funext fun j => if_neg h, rfl⟩
  have hwf : mWF E (newPerson st n) := wf_new hw.2.1 rfl rfl (Or.inl rfl) hI (fun i9 j9 => congrFun (hs9 62 i9 (fun z => absurd z.1 (by decide))).1 j9) (fun i hi => hw.2.1.2.1 i hi)
  have hR9 : ∀ i, i < sN st 3 → sR (newPerson st n) i = sR st i := fun i _ => rfl
  subst hna
  have hpos : ∀ k, mG k = 1 → ∃ e, ([(H.size, .inr (7, [.int (Int32.ofInt n), .ref d1, .ref d2, .ref r4, .ref r5, .int (-1), .int (-1), .ref r6, .int 0])), (d1, .inr (5, [.long 0])), (d2, .inr (5, [.long 0])), (r4, .inl (eC E 0, 4, .inl (fun _ => 0))), (r5, .inl (eC E 0, 4, .inl (fun i => if i < 4 then -1 else 0))), (r6, .inl (eC E 0, 1000, .inl (fun _ => 0)))] : va_W)[(fun k => if k = 3 then 0 else if k = 1 then 1 else if k = 2 then 2 else if k = 4 then 3 else if k = 5 then 4 else 5) k]? = some ((fun k => if k = 3 then H.size else if k = 1 then d1 else if k = 2 then d2 else if k = 4 then r4 else if k = 5 then r5 else r6) k, e) := fun k hk => by
    rcases mG_1 hk with rfl | rfl | rfl | rfl | rfl | rfl <;> exact ⟨_, rfl⟩
  have hnew : ∀ cap mdc k e, mG k = 1 → mCell E cap mdc (newPerson st n) (laN La 1 (sN st 1) (fun k => if k = 3 then H.size else if k = 1 then d1 else if k = 2 then d2 else if k = 4 then r4 else if k = 5 then r5 else r6)) k (sN st 1) = some e → va_at (eD E) vwCl ((fun k => if k = 3 then H.size else if k = 1 then d1 else if k = 2 then d2 else if k = 4 then r4 else if k = 5 then r5 else r6) k, e) H2 := fun cap mdc k e hk he9 => by
    rcases mG_1 hk with rfl | rfl | rfl | rfl | rfl | rfl
    · rw [cn_1] at he9
      cases he9
      exact hP 1 _ rfl
    · rw [cn_2] at he9
      cases he9
      exact hP 2 _ rfl
    · rw [cn_3] at he9
      cases he9
      exact hP 0 _ rfl
    · rw [cn_4] at he9
      cases he9
      exact hP 3 _ rfl
    · rw [cn_5] at he9
      cases he9
      exact hP 4 _ rfl
    · rw [cn_6] at he9
      cases he9
      exact hP 5 _ rfl
  have hlo9 : ∀ k, mG k = 1 → H.size ≤ (fun k => if k = 3 then H.size else if k = 1 then d1 else if k = 2 then d2 else if k = 4 then r4 else if k = 5 then r5 else r6) k := fun k hk => by
    obtain ⟨e, h⟩ := hpos k hk
    rcases hD.2 _ _ h with h9 | h9
    · exact Nat.le_of_eq h9.symm
    · exact Nat.le_trans (by omega) h9
  have hap : ∀ k k', mG k = 1 → mG k' = 1 → (fun k => if k = 3 then H.size else if k = 1 then d1 else if k = 2 then d2 else if k = 4 then r4 else if k = 5 then r5 else r6) k = (fun k => if k = 3 then H.size else if k = 1 then d1 else if k = 2 then d2 else if k = 4 then r4 else if k = 5 then r5 else r6) k' → k = k' := fun k k' hk hk' heq => by
    obtain ⟨e1, h1⟩ := hpos k hk
    obtain ⟨e2, h2⟩ := hpos k' hk'
    have hp9 := hD.1 _ _ _ _ h1 h2 heq
    clear h1 h2 heq hpos hnew hlo9
    rcases mG_1 hk with rfl | rfl | rfl | rfl | rfl | rfl <;> rcases mG_1 hk' with rfl | rfl | rfl | rfl | rfl | rfl <;> first | rfl | exact absurd hp9 (by decide)
  have hw1 := world_new hw hwf rfl rfl (by decide) hs9 hR9 (by omega) ho hnew hlo9 hap
  have hmn : mMono st (newPerson st n) := mono_new (g := 1) rfl
  have hE := laN_ext (st := st) (La := La) (g := 1) (na := fun k => if k = 3 then H.size else if k = 1 then d1 else if k = 2 then d2 else if k = 4 then r4 else if k = 5 then r5 else r6)
  have hv : vOK (newPerson st n) (mr 3 (sN st 1)) := Or.inr (Or.inr ⟨np_N, by show ¬ (24 ≤ 3 ∧ 3 < 28); decide⟩)
  have go := kn _ _ _ _ hp _ H2 locs2 (cells + 1 + 5) (slots + 9 + 1010) lsA hw1 (hm.trans hmn) (he.trans hm hE) (fun q hq => (hl q hq).mono hmn) (ok_cons hv (fun v hv => (hs v hv).mono hmn)) hS (by rw [mapL_ext hE hl]; exact hls) (by dsimp only; omega) (by dsimp only; omega)
  rw [List.map_cons, mR_ref (by decide) (by decide), laN_at (k := 3) (g := 1) rfl, mapR_ext hE hs] at go
  rw [show pc + (7 + lensum ld) = pc + 4 + lensum ld + 3 by omega] at go
  exact go

set_option maxHeartbeats 2000000 in
theorem li_602 (Xn : mXn E S F cc own nL mc ms d pc ik ic RX5 yX5_init ld) {n : Int} (hml : mloads ls ld = some [mi n]) (hroom : mroom (mr 99 0 :: stk) = true) (b1 : 2 ≤ rem.1) (b2 : 8 ≤ rem.2) (hp : nx ls (mr 7 (sN st 2) :: stk) (rem.1 - 2, rem.2 - 8) (newShip st n)) (kn : mKn E F nL mc ms st0 La0 (pc + (7 + lensum ld)) nx) : mSim E F nL mc ms st0 La0 pc ls stk rem st := by
  obtain ⟨X, T, hR, hcl, hlk, hd0, hd1, hlo, hd2⟩ := Xn
  intro La H locs cells slots lsA hw hm he hl hs hS hls hc hsl
  have hXc := X5.c X T
  have hr1 := hR.2.2.1
  have hr2 := hR.2.2.2
  have hvs := mloads_ok hl ld _ hml
  obtain ⟨hk1, hk2⟩ := room_k (k := 2) hR (by omega)
  refine mw_new (C := RX5) (T := TX5) (N := 3) (ci := 9) (fs := [.null, .int 0, .int 0]) hXc gw_X5 tyX5 tyX5_ok hcl lb_i5 lb_n5 hS rfl (fun j hj => by rcases (show j = 0 ∨ j = 1 ∨ j = 2 by omega) with rfl | rfl | rfl <;> rfl) (by omega) (by omega) hd0 (fun H1 hat z1 o1 hS => ?_)
  refine lv_dup X.1 X.2.1 hd1 rfl ?_
  refine mw_loads X.1 X.2.1 hls ld (pc + 4) _ _ hlo hml ?_
  have hB1 : mBase E H1 := ⟨by have := hw.1.1; omega, fun q hq => (o1 q (Nat.lt_of_lt_of_le hq hw.1.1)).trans (hw.1.2 q hq)⟩
  have hAF : ∀ q, AC H.size H1.size q → eN E ≤ q := fun q h => by
    have := hw.1.1
    rcases h with h | h <;> omega
  refine va_callv (lc_I (n := 1) (q := qb_5) (As := [.int (Int32.ofInt n)]) (rest := .ref H.size :: stk.map (mR E La)) (b := H.size) hXc ⟨lb_c5, lb_n5, lb_m5⟩ rfl rfl (by decide) ⟨by decide, by decide⟩ (by decide +kernel) hlk (c_ship (q0 := H.size) (sz := H1.size) F.2.1 E S hw.1.1) lP.blind (fun U hU hW => ⟨rfl, lT.warm hXc.2 hB1 hU hW, by rw [hU], by rw [hU]; exact hat⟩) rfl hls.1 rfl (mroom_R (E := E) (La := La) hroom) hk1 hk2 ⟨by omega, by omega⟩ hd2) hS (fun q _ h => hAF q h) (fun q h => hAF q h) (fun u t H2 locs2 ht hvm hpv hB hz hk9 hS => ?_)
  obtain ⟨r8, hr8⟩ : ∃ z, z = u := ⟨_, rfl⟩
  subst hr8
  obtain ⟨hP, hD⟩ := hB
  rw [ht] at hP
  have ho : ∀ q : Nat, q < H.size → H2[q]? = H[q]? := fun q hq => (hk9 q (by omega) (fun z => by rcases z with z | z <;> omega)).trans (o1 q hq)
  obtain ⟨na, hna⟩ : ∃ na : Nat → Nat, na = fun k => if k = 7 then H.size else r8 := ⟨_, rfl⟩
  have hI : ∀ k i j, inR (sI (newShip st n) k i j) := fun k i j => by
    have hn : inR n := hvs (mi n) List.mem_cons_self
    show inR (if mG k = 2 ∧ i = sN st 2 then (if k = 7 then (if j = 1 then 1 else 0) else if k = 8 ∧ j = 0 then n else 0) else sI st k i j)
    split
    · split
      · split <;> exact ⟨by decide, by decide⟩
      · split
        · exact hn
        · exact ⟨by decide, by decide⟩
    · exact hw.2.1.1 k i j
  have hs9 : ∀ k i, ¬ (mG k = 2 ∧ i = sN st 2) → sI (newShip st n) k i = sI st k i ∧ sJ (newShip st n) k i = sJ st k i ∧ sD (newShip st n) k i = sD st k i := fun k i h => ⟨funext fun j => if_neg h, rfl, rfl⟩
  have hwf : mWF E (newShip st n) := wf_new hw.2.1 rfl rfl (Or.inr (Or.inl rfl)) hI (fun i9 j9 => congrFun (hs9 62 i9 (fun z => absurd z.1 (by decide))).1 j9) (fun i hi => Nat.lt_succ_of_lt (hw.2.1.2.1 i hi))
  have hR9 : ∀ i, i < sN st 3 → sR (newShip st n) i = sR st i := fun i _ => rfl
  subst hna
  have hpos : ∀ k, mG k = 2 → ∃ e, ([(H.size, .inr (9, [.ref r8, .int 1, .int 0])), (r8, .inl (eC E 0, 3, .inl (upd (fun _ => 0) 0 (Int32.ofInt n))))] : va_W)[(fun k => if k = 7 then 0 else 1) k]? = some ((fun k => if k = 7 then H.size else r8) k, e) := fun k hk => by
    rcases mG_2 hk with rfl | rfl <;> exact ⟨_, rfl⟩
  have hnew : ∀ cap mdc k e, mG k = 2 → mCell E cap mdc (newShip st n) (laN La 2 (sN st 2) (fun k => if k = 7 then H.size else r8)) k (sN st 2) = some e → va_at (eD E) vwCl ((fun k => if k = 7 then H.size else r8) k, e) H2 := fun cap mdc k e hk he9 => by
    rcases mG_2 hk with rfl | rfl
    · rw [cn_7] at he9
      cases he9
      exact hP 0 _ rfl
    · rw [cn_8] at he9
      cases he9
      exact hP 1 _ rfl
  have hlo9 : ∀ k, mG k = 2 → H.size ≤ (fun k => if k = 7 then H.size else r8) k := fun k hk => by
    obtain ⟨e, h⟩ := hpos k hk
    rcases hD.2 _ _ h with h9 | h9
    · exact Nat.le_of_eq h9.symm
    · exact Nat.le_trans (by omega) h9
  have hap : ∀ k k', mG k = 2 → mG k' = 2 → (fun k => if k = 7 then H.size else r8) k = (fun k => if k = 7 then H.size else r8) k' → k = k' := fun k k' hk hk' heq => by
    obtain ⟨e1, h1⟩ := hpos k hk
    obtain ⟨e2, h2⟩ := hpos k' hk'
    have hp9 := hD.1 _ _ _ _ h1 h2 heq
    clear h1 h2 heq hpos hnew hlo9
    rcases mG_2 hk with rfl | rfl <;> rcases mG_2 hk' with rfl | rfl <;> first | rfl | exact absurd hp9 (by decide)
  have hw1 := world_new hw hwf rfl rfl (by decide) hs9 hR9 (by omega) ho hnew hlo9 hap
  have hmn : mMono st (newShip st n) := mono_new (g := 2) rfl
  have hE := laN_ext (st := st) (La := La) (g := 2) (na := fun k => if k = 7 then H.size else r8)
  have hv : vOK (newShip st n) (mr 7 (sN st 2)) := Or.inr (Or.inr ⟨ns_N, by show ¬ (24 ≤ 7 ∧ 7 < 28); decide⟩)
  have go := kn _ _ _ _ hp _ H2 locs2 (cells + 1 + 1) (slots + 3 + 3) lsA hw1 (hm.trans hmn) (he.trans hm hE) (fun q hq => (hl q hq).mono hmn) (ok_cons hv (fun v hv => (hs v hv).mono hmn)) hS (by rw [mapL_ext hE hl]; exact hls) (by dsimp only; omega) (by dsimp only; omega)
  rw [List.map_cons, mR_ref (by decide) (by decide), laN_at (k := 7) (g := 2) rfl, mapR_ext hE hs] at go
  rw [show pc + (7 + lensum ld) = pc + 4 + lensum ld + 3 by omega] at go
  exact go

set_option maxHeartbeats 2000000 in
theorem li_603 (Xn : mXn E S F cc own nL mc ms d pc ik ic RX4 yX4_init ld) {i : Nat} {a b : Int} (hml : mloads ls ld = some [mr 7 i, mi a, mi b]) (hroom : mroom (mr 99 0 :: stk) = true) (b1 : 3 ≤ rem.1) (b2 : 16 ≤ rem.2) (hp : nx ls (mr 9 (sN st 3) :: stk) (rem.1 - 3, rem.2 - 16) (newSailing st i a b)) (kn : mKn E F nL mc ms st0 La0 (pc + (7 + lensum ld)) nx) : mSim E F nL mc ms st0 La0 pc ls stk rem st := by
  obtain ⟨X, T, hR, hcl, hlk, hd0, hd1, hlo, hd2⟩ := Xn
  intro La H locs cells slots lsA hw hm he hl hs hS hls hc hsl
  have hXc := X5.c X T
  have hr1 := hR.2.2.1
  have hr2 := hR.2.2.2
  have hvs := mloads_ok hl ld _ hml
  obtain ⟨hk1, hk2⟩ := room_k (k := 2) hR (by omega)
  refine mw_new (C := RX4) (T := TX4) (N := 6) (ci := 8) (fs := [.null, .int 0, .int 0, .int 0, .null, .null]) hXc gw_X4 tyX4 tyX4_ok hcl lb_i4 lb_n4 hS rfl (fun j hj => by rcases (show j = 0 ∨ j = 1 ∨ j = 2 ∨ j = 3 ∨ j = 4 ∨ j = 5 by omega) with rfl | rfl | rfl | rfl | rfl | rfl <;> rfl) (by omega) (by omega) hd0 (fun H1 hat z1 o1 hS => ?_)
  refine lv_dup X.1 X.2.1 hd1 rfl ?_
  refine mw_loads X.1 X.2.1 hls ld (pc + 4) _ _ hlo hml ?_
  have hB1 : mBase E H1 := ⟨by have := hw.1.1; omega, fun q hq => (o1 q (Nat.lt_of_lt_of_le hq hw.1.1)).trans (hw.1.2 q hq)⟩
  have hAF : ∀ q, AC H.size H1.size q → eN E ≤ q := fun q h => by
    have := hw.1.1
    rcases h with h | h <;> omega
  refine va_callv (lc_I (n := 3) (q := qb_4) (As := [.ref (La 7 i), .int (Int32.ofInt a), .int (Int32.ofInt b)]) (rest := .ref H.size :: stk.map (mR E La)) (b := H.size) hXc ⟨lb_c4, lb_n4, lb_m4⟩ rfl rfl (by decide) ⟨by decide, by decide⟩ (by decide +kernel) hlk (c_sail (q0 := H.size) (sz := H1.size) F.2.1 E S hw.1.1) lP.blind (fun U hU hW => ⟨rfl, lT.warm hXc.2 hB1 hU hW, by rw [hU], by rw [hU]; exact hat⟩) rfl hls.1 (by rw [← mR_ref (E := E) (La := La) (k := 7) (i := i) (by decide) (by decide)]; rfl) (mroom_R (E := E) (La := La) hroom) hk1 hk2 ⟨by omega, by omega⟩ hd2) hS (fun q _ h => hAF q h) (fun q h => hAF q h) (fun u t H2 locs2 ht hvm hpv hB hz hk9 hS => ?_)
  obtain ⟨r10, r11⟩ := u
  obtain ⟨hP, hD⟩ := hB
  rw [ht] at hP
  have ho : ∀ q : Nat, q < H.size → H2[q]? = H[q]? := fun q hq => (hk9 q (by omega) (fun z => by rcases z with z | z <;> omega)).trans (o1 q hq)
  obtain ⟨na, hna⟩ : ∃ na : Nat → Nat, na = fun k => if k = 9 then H.size else if k = 10 then r10 else r11 := ⟨_, rfl⟩
  have hi9 : i < sN st 2 := by
    have h9 : vOK st (mr 7 i) := hvs (mr 7 i) List.mem_cons_self
    rcases h9 with h | h | h
    · exact absurd h (show ¬ 7 = 99 by decide)
    · exact absurd h (show ¬ 7 = 62 by decide)
    · exact h.1
  have hI : ∀ k i1 j, inR (sI (newSailing st i a b) k i1 j) := fun k i1 j => by
    have ha : inR a := hvs (mi a) (List.mem_cons_of_mem _ List.mem_cons_self)
    have hb : inR b := hvs (mi b) (List.mem_cons_of_mem _ (List.mem_cons_of_mem _ List.mem_cons_self))
    show inR (if mG k = 3 ∧ i1 = sN st 3 then (if k = 9 then (if j = 1 then a else if j = 2 then b else if j = 3 then 112 else 0) else if k = 10 ∧ j < 3 then -1 else 0) else sI st k i1 j)
    split
    · split
      · split
        · exact ha
        · split
          · exact hb
          · split <;> exact ⟨by decide, by decide⟩
      · split <;> exact ⟨by decide, by decide⟩
    · exact hw.2.1.1 k i1 j
  have hs9 : ∀ k i1, ¬ (mG k = 3 ∧ i1 = sN st 3) → sI (newSailing st i a b) k i1 = sI st k i1 ∧ sJ (newSailing st i a b) k i1 = sJ st k i1 ∧ sD (newSailing st i a b) k i1 = sD st k i1 := fun k i1 h => ⟨funext fun j => if_neg h, rfl, rfl⟩
  have hwf : mWF E (newSailing st i a b) := wf_new hw.2.1 rfl rfl (Or.inr (Or.inr rfl)) hI (fun i9 j9 => congrFun (hs9 62 i9 (fun z => absurd z.1 (by decide))).1 j9) (fun i1 hi1 => by
    show up1 (sR st) (sN st 3) i i1 < sN st 2
    have hi1 : i1 < sN st 3 + 1 := hi1
    unfold up1
    split
    · exact hi9
    · exact hw.2.1.2.1 i1 (by omega))
  have hR9 : ∀ i1, i1 < sN st 3 → sR (newSailing st i a b) i1 = sR st i1 := fun i1 h1 => if_neg (by omega)
  subst hna
  have hpos : ∀ k, mG k = 3 → ∃ e, ([(H.size, .inr (8, [.ref (La 7 i), .int (Int32.ofInt a), .int (Int32.ofInt b), .int 112, .ref r10, .ref r11])), (r10, .inl (eC E 0, 3, .inl (fun i => if i < 3 then -1 else 0))), (r11, .inl (eC E 0, 3, .inl (fun _ => 0)))] : va_W)[(fun k => if k = 9 then 0 else if k = 10 then 1 else 2) k]? = some ((fun k => if k = 9 then H.size else if k = 10 then r10 else r11) k, e) := fun k hk => by
    rcases mG_3 hk with rfl | rfl | rfl <;> exact ⟨_, rfl⟩
  have hnew : ∀ cap mdc k e, mG k = 3 → mCell E cap mdc (newSailing st i a b) (laN La 3 (sN st 3) (fun k => if k = 9 then H.size else if k = 10 then r10 else r11)) k (sN st 3) = some e → va_at (eD E) vwCl ((fun k => if k = 9 then H.size else if k = 10 then r10 else r11) k, e) H2 := fun cap mdc k e hk he9 => by
    rcases mG_3 hk with rfl | rfl | rfl
    · rw [cn_9 hi9] at he9
      cases he9
      exact hP 0 _ rfl
    · rw [cn_10] at he9
      cases he9
      exact hP 1 _ rfl
    · rw [cn_11] at he9
      cases he9
      exact hP 2 _ rfl
  have hlo9 : ∀ k, mG k = 3 → H.size ≤ (fun k => if k = 9 then H.size else if k = 10 then r10 else r11) k := fun k hk => by
    obtain ⟨e, h⟩ := hpos k hk
    rcases hD.2 _ _ h with h9 | h9
    · exact Nat.le_of_eq h9.symm
    · exact Nat.le_trans (by omega) h9
  have hap : ∀ k k', mG k = 3 → mG k' = 3 → (fun k => if k = 9 then H.size else if k = 10 then r10 else r11) k = (fun k => if k = 9 then H.size else if k = 10 then r10 else r11) k' → k = k' := fun k k' hk hk' heq => by
    obtain ⟨e1, h1⟩ := hpos k hk
    obtain ⟨e2, h2⟩ := hpos k' hk'
    have hp9 := hD.1 _ _ _ _ h1 h2 heq
    clear h1 h2 heq hpos hnew hlo9
    rcases mG_3 hk with rfl | rfl | rfl <;> rcases mG_3 hk' with rfl | rfl | rfl <;> first | rfl | exact absurd hp9 (by decide)
  have hw1 := world_new hw hwf rfl rfl (by decide) hs9 hR9 (by omega) ho hnew hlo9 hap
  have hmn : mMono st (newSailing st i a b) := mono_new (g := 3) rfl
  have hE := laN_ext (st := st) (La := La) (g := 3) (na := fun k => if k = 9 then H.size else if k = 10 then r10 else r11)
  have hv : vOK (newSailing st i a b) (mr 9 (sN st 3)) := Or.inr (Or.inr ⟨nv_N, by show ¬ (24 ≤ 9 ∧ 9 < 28); decide⟩)
  have go := kn _ _ _ _ hp _ H2 locs2 (cells + 1 + 2) (slots + 6 + 6) lsA hw1 (hm.trans hmn) (he.trans hm hE) (fun q hq => (hl q hq).mono hmn) (ok_cons hv (fun v hv => (hs v hv).mono hmn)) hS (by rw [mapL_ext hE hl]; exact hls) (by dsimp only; omega) (by dsimp only; omega)
  rw [List.map_cons, mR_ref (by decide) (by decide), laN_at (k := 9) (g := 3) rfl, mapR_ext hE hs] at go
  rw [show pc + (7 + lensum ld) = pc + 4 + lensum ld + 3 by omega] at go
  exact go

end LNew
theorem prim_C {E : mEnv} {S : mStr} {sg : mSig} {l : Launch} {TH : String → mThr} (hsg : ∀ y, 500 ≤ y → sg y = mPsg y) : primC E S sg l TH := by
  intro F cc own nL mc ms d st0 La0 P C hFl X T hR hprim hpool hif q vs y pc ls stk rem st nx h2 hm hlo hlk hroom b1 b2 h kn
  obtain ⟨k, ik, is, ic, ld⟩ := q
  dsimp only at h2
  subst h2
  unfold macB at hm
  rw [Bool.and_eq_true, Bool.and_eq_true] at hm
  obtain ⟨⟨m1, m2⟩, m3⟩ := hm
  dsimp only at m1 m2 hlo hlk
  have m3 : (loadsB cc (pc + 4) ld && decB cc (pc + 4 + lensum ld) (Instr.invokespecial ic) 3 && (match look2 P.2.1 ic with | some y => Nat.ble 601 y && Nat.ble y 603 && (match look2 P.2.2.1 ik with | some ci => Nat.beq ci (cnP y) | none => false) | none => false)) = true := m3
  rw [Bool.and_eq_true, Bool.and_eq_true, hlk] at m3
  obtain ⟨⟨l1, l2⟩, l3⟩ := m3
  dsimp only at l3
  rw [Bool.and_eq_true, Bool.and_eq_true] at l3
  obtain ⟨⟨y1, y2⟩, y3⟩ := l3
  have y1 := Nat.le_of_ble_eq_true y1
  have y2 := Nat.le_of_ble_eq_true y2
  have hci : look2 P.2.2.1 ik = some (cnP y) := by
    cases e : look2 P.2.2.1 ik with
    | none => rw [e] at y3; exact absurd (show false = true from y3) (by decide)
    | some ci => rw [e] at y3; rw [beq1 y3]
  obtain ⟨C9, T9, N9, hcl9, hcl⟩ := hpool.2.1 ik _ hci
  have hlink := (hif ic y hlk).2 y1 y2
  rw [hsg y (by omega)] at b1 b2 h
  have h4 := hprim _ _ _ _ (by omega) h
  rcases (show y = 601 ∨ y = 602 ∨ y = 603 by omega) with rfl | rfl | rfl
  · cases hcl9
    obtain ⟨n, rfl, hp⟩ := pc_1 h4
    exact li_601 ⟨X, T, hR, hcl, hlink, of_decide_eq_true m1, of_decide_eq_true m2, l1, of_decide_eq_true l2⟩ hlo hroom b1 b2 hp kn
  · cases hcl9
    obtain ⟨n, rfl, hp⟩ := pc_2 h4
    exact li_602 ⟨X, T, hR, hcl, hlink, of_decide_eq_true m1, of_decide_eq_true m2, l1, of_decide_eq_true l2⟩ hlo hroom b1 b2 hp kn
  · cases hcl9
    obtain ⟨i, a, b, rfl, hp⟩ := pc_3 h4
    exact li_603 ⟨X, T, hR, hcl, hlink, of_decide_eq_true m1, of_decide_eq_true m2, l1, of_decide_eq_true l2⟩ hlo hroom b1 b2 hp kn
