theorem split_at {stk : List mV} {m : Nat} {v : mV} (h : stk[m]? = some v) : stk = stk.take m ++ v :: stk.drop (m + 1) ∧ (stk.take (m + 1)).reverse = v :: (stk.take m).reverse := by
  obtain ⟨hm, rfl⟩ := List.getElem?_eq_some_iff.mp h
  constructor
  · rw [← List.drop_eq_getElem_cons hm, List.take_append_drop]
  · rw [List.take_succ, h, List.reverse_append]; rfl
theorem mrcv_inv {ci : Nat} {v : Option mV} {f : Prop} (h : mrcv ci v f) : ∃ k i fds, v = some (mr k i) ∧ mKd k = some (ci, fds) ∧ f := by
  unfold mrcv at h
  split at h
  · rename_i q
    split at h
    · rename_i z hz
      obtain ⟨hb, h4⟩ := cond_inv h
      obtain ⟨z1, z2⟩ := z
      have e : ci = z1 := Nat.eq_of_beq_eq_true hb
      subst e
      exact ⟨q.1, q.2, z2, rfl, hz, h4⟩
    · exact h.elim
  · exact h.elim
set_option maxRecDepth 20000 in
theorem room_le {L d R : Nat} (h : L ≤ 21) (hR : 40 * d + 440 ≤ R) : 8 + (L + 11) + (40 * d + 400) ≤ R := by
  generalize 40 * d = z at hR ⊢
  omega
theorem cell_le {a r m k R : Nat} (h1 : a + r ≤ m) (h2 : k ≤ r) (h3 : m ≤ R) : a + k ≤ R := by omega
section Calls2
variable {E : mEnv} {S : mStr} {F : mFr} {cc : ByteArray} {own : String} {nL mc ms d : Nat} {st0 : mS} {La0 : mLa}
variable {P : mPool} {rt : Nat} {sg : mSig} {C : mCall} {J : mK} {Xx : Nat → Nat → mLs → Nat × Nat → mS → Prop} {post : mO → mS → Prop}
variable {pc : Nat} {ls : mLs} {stk : List mV} {rem : Nat × Nat} {st : mS} {nx : mLs → List mV → Nat × Nat → mS → Prop}
/-- the room of a frame under which calls of depth d fit -/
abbrev mFits (F : mFr) (d mc ms : Nat) : Prop := d + 13 ≤ F.2.2.2.1.frames ∧ 40 * d + 440 ≤ F.2.2.2.1.locals ∧ mc ≤ F.2.2.2.1.cells ∧ ms ≤ F.2.2.2.1.slots
theorem sm_callV {q : mMeth} {x y : Nat} (hq : methOK q) (hqs : qS q = false) (hlink : Jvm.Cond.methodLink own x (qY q) ∈ lw_good) (hlook : look2 P.2.1 x = some y) (hsg : sg y = (qN q, qC q, qT q, qI q))
    (hC : ∀ vs st post, C y vs st post → mMet E S F.2.1 q d vs st post) (hR : mFits F d mc ms) (T : mTab E S (fS F)) (X : mCtx E F cc own nL) (hd : decode cc pc = .ok (.invokevirtual x, 3))
    (h : mstep P rt sg C J Xx post (.invokevirtual x) pc ls stk rem st nx) (kn : mKn E F nL mc ms st0 La0 (pc + 3) nx) (kx : mKx E F nL mc ms st0 La0 Xx) : mSim E F nL mc ms st0 La0 pc ls stk rem st := by
  have h1 : mrcv (sg y).2.2.2 (stk[(sg y).1 - 1]?) (mcall sg C Xx y pc ls stk rem st nx) := by
    have h0 : (match look2 P.2.1 x with | some y => mrcv (sg y).2.2.2 (stk[(sg y).1 - 1]?) (mcall sg C Xx y pc ls stk rem st nx) | none => False) := h
    rw [hlook] at h0
    exact h0
  unfold mcall at h1
  rw [hsg] at h1
  obtain ⟨k, i, fds, e1, e2, h2⟩ := mrcv_inv h1
  obtain ⟨hroom, b1, b2, h3⟩ := cond_inv h2
  dsimp only at e1 e2 hroom b1 b2 h3
  obtain ⟨q1, q2, q3, q4, q5, q6⟩ := hq
  rw [hqs, if_neg (by decide)] at q6
  obtain ⟨m, em, q6, q7, q8, T9, N9, q9⟩ := q6
  rw [em] at h3 hroom e1
  rw [Nat.add_sub_cancel] at e1
  obtain ⟨s1, s2⟩ := split_at e1
  rw [s2] at h3
  intro La H locs cells slots lsA hw hm he hl hs hS hls hc hsl
  have hrcv : vOK st (mr k i) := hs _ (List.mem_of_getElem? e1)
  obtain ⟨n9, n2, hi⟩ := kd_in e2 hrcv
  have hrest : ∀ v ∈ stk.drop (m + 1), vOK st v := fun v hv => hs v (List.mem_of_mem_drop hv)
  have hargs : ∀ v ∈ mr k i :: (stk.take m).reverse, vOK st v := ok_cons hrcv (fun v hv => hs v (List.mem_of_mem_take (List.mem_reverse.mp hv)))
  obtain ⟨hlo, hat⟩ := world_cell hw (fun cap mdc => cell_kd (E := E) (La := La) (cap := cap) (mdc := mdc) e2 hi)
  refine call_fin (a := (Value.ref (La k i) :: ((stk.take m).reverse).map (mR E La)).toArray) (stR := stk.map (mR E La)) b1 b2 kn kx hm he hl hrest hS hls hc hsl ?_
  have hM := hC _ _ _ h3 La hargs
  have hlen : (((stk.take m).reverse).map (mR E La)).length = m := by
    rw [List.length_map, List.length_reverse, List.length_take]
    have := (List.getElem?_eq_some_iff.mp e1).1
    omega
  refine vx_runV (Ts := lw_good) (own := own) (C := (qY q).cls) (b := La k i) (As := ((stk.take m).reverse).map (mR E La)) ⟨X.1, X.2.1, X.2.2.1, X.2.2.2.1, X.2.2.2.2.1⟩ hM ⟨callB_of m X.2.2.2.2.1 (qWs_good q1) rfl rfl rfl (X.2.2.2.2.1 _ q2) (X.2.2.2.2.1 _ hlink) ⟨q4.1, q4.2, q6⟩ ⟨hR.1, ?_⟩, X.2.2.2.2.1 _ q7, X.2.2.2.2.1 _ q8⟩
    ⟨mPc_blind, va_recv X.2.2.2.2.2.1 (one_P hat) q9 (q0 := 0) rfl, fun U hU hW => ⟨?_, T.warm hW, by rw [hU]; exact hw⟩⟩ rfl hlen hls.1 ?_ (lv_room (mroom_R hroom)) hd ⟨cell_le hc b1 hR.2.2.1, cell_le hsl b2 hR.2.2.2⟩
  · exact room_le q5 hR.2.1
  · rw [List.map_cons, mR_ref n9 n2]
  · show stk.map (mR E La) = _
    conv => lhs; rw [s1]
    rw [List.map_append, List.map_cons, mR_ref n9 n2, ← List.map_reverse, List.reverse_reverse]
theorem sm_callS {q : mMeth} {x y : Nat} (hq : methOK q) (hqs : qS q = true) (hlink : Jvm.Cond.methodLink own x (qY q) ∈ lw_good) (hlook : look2 P.2.1 x = some y) (hy : y < 400) (hsg : sg y = (qN q, qC q, qT q, qI q))
    (hC : ∀ vs st post, C y vs st post → mMet E S F.2.1 q d vs st post) (hR : mFits F d mc ms) (T : mTab E S (fS F)) (X : mCtx E F cc own nL) (hd : decode cc pc = .ok (.invokestatic x, 3))
    (h : mstep P rt sg C J Xx post (.invokestatic x) pc ls stk rem st nx) (kn : mKn E F nL mc ms st0 La0 (pc + 3) nx) (kx : mKx E F nL mc ms st0 La0 Xx) : mSim E F nL mc ms st0 La0 pc ls stk rem st := by
  have h1 : cond (Nat.ble (sg y).1 stk.length) (mcall sg C Xx y pc ls stk rem st nx) False := by
    have h0 : mstat (look2 P.2.1 x) (mbin stk fun a b r => cond (mroom r) (nx ls (mi (max a b) :: r) rem st) False) (mbin stk fun a b r => cond (mroom r) (nx ls (mi (min a b) :: r) rem st) False) (fun y => cond (Nat.ble (sg y).1 stk.length) (mcall sg C Xx y pc ls stk rem st nx) False) := h
    rw [hlook] at h0
    unfold mstat at h0
    dsimp only at h0
    have n1 : Nat.beq y 401 = false := by
      cases e : Nat.beq y 401 with
      | false => rfl
      | true => have := Nat.eq_of_beq_eq_true e; omega
    have n2 : Nat.beq y 402 = false := by
      cases e : Nat.beq y 402 with
      | false => rfl
      | true => have := Nat.eq_of_beq_eq_true e; omega
    rw [n1, n2] at h0
    exact h0
  obtain ⟨hlenB, h1⟩ := cond_inv h1
  have hlenS : qN q ≤ stk.length := by rw [hsg] at hlenB; exact Nat.le_of_ble_eq_true hlenB
  unfold mcall at h1
  rw [hsg] at h1
  obtain ⟨hroom, b1, b2, h3⟩ := cond_inv h1
  dsimp only at hroom b1 b2 h3
  obtain ⟨q1, q2, q3, q4, q5, q6⟩ := hq
  rw [hqs, if_pos rfl] at q6
  intro La H locs cells slots lsA hw hm he hl hs hS hls hc hsl
  have hrest : ∀ v ∈ stk.drop (qN q), vOK st v := fun v hv => hs v (List.mem_of_mem_drop hv)
  have hargs : ∀ v ∈ (stk.take (qN q)).reverse, vOK st v := fun v hv => hs v (List.mem_of_mem_take (List.mem_reverse.mp hv))
  refine call_fin (a := (((stk.take (qN q)).reverse).map (mR E La)).toArray) (stR := stk.map (mR E La)) b1 b2 kn kx hm he hl hrest hS hls hc hsl ?_
  have hM := hC _ _ _ h3 La hargs
  have hlen : (((stk.take (qN q)).reverse).map (mR E La)).length = qN q := by
    rw [List.length_map, List.length_reverse, List.length_take]
    omega
  refine vx_runS (Ts := lw_good) (own := own) (As := ((stk.take (qN q)).reverse).map (mR E La)) ⟨X.1, X.2.1, X.2.2.1, X.2.2.2.1, X.2.2.2.2.1⟩ hM ⟨callB_of (qN q) X.2.2.2.2.1 (qWs_good q1) rfl rfl rfl (X.2.2.2.2.1 _ q2) (X.2.2.2.2.1 _ hlink) ⟨q4.1, q4.2, q6.1⟩ ⟨hR.1, ?_⟩, X.2.2.2.2.1 _ q6.2⟩
    ⟨mPc_blind, fun U hU hW => ⟨rfl, T.warm hW, by rw [hU]; exact hw⟩⟩ rfl hlen hls.1 ?_ (lv_room (mroom_R hroom)) hd ⟨cell_le hc b1 hR.2.2.1, cell_le hsl b2 hR.2.2.2⟩
  · exact room_le q5 hR.2.1
  · show stk.map (mR E La) = _
    rw [← List.map_reverse, List.reverse_reverse, ← List.map_append, List.take_append_drop]
end Calls2
