/-! THE LAW: calls of its wrappers; its body over the machine -/
section LCalls
variable {E : mEnv} {S : mStr} {F : mFr} {cc : ByteArray} {own : String} {nL mc ms d : Nat} {st0 : mS} {La0 : mLa}
variable {P : mPool} {M : mTbl} {rt : Nat} {ret : Option FieldType} {sg : mSig} {C : mCall} {J : mK} {Xx : Nat → Nat → mLs → Nat × Nat → mS → Prop} {post : mO → mS → Prop}
variable {pc : Nat} {ls : mLs} {stk : List mV} {rem : Nat × Nat} {st : mS} {nx : mLs → List mV → Nat × Nat → mS → Prop}
theorem qWsH_in {q : mMeth} {hh : List (Nat × Nat × Nat × Nat)} (h : Jvm.Cond.codeWith (qY q) (qB q) (qL q) (qR q) hh ∈ lw_good) {w : Jvm.Cond} (hw : w ∈ qWsH q hh) : w ∈ lw_good := by
  rcases List.mem_cons.mp hw with e | hw
  · rw [e]; exact h
  · exact hw
theorem sm_callSH {q : mMeth} {hh : List (Nat × Nat × Nat × Nat)} {x y : Nat} (hq : methHOK q hh) (hlink : Jvm.Cond.methodLink own x (qY q) ∈ lw_good) (hlook : look2 P.2.1 x = some y) (hy : y < 400) (hsg : sg y = (qN q, qC q, qT q, qI q))
    (hC : ∀ vs st post, C y vs st post → mMetH E S F.2.1 q hh d vs st post) (hR : mFits F d mc ms) (T : mTab E S (fS F)) (X : mCtx E F cc own nL) (hd : decode cc pc = .ok (.invokestatic x, 3))
    (h : mstep P rt sg C J Xx post (.invokestatic x) pc ls stk rem st nx) (kn : mKn E F nL mc ms st0 La0 (pc + 3) nx) (kx : mKx E F nL mc ms st0 La0 Xx) : mSim E F nL mc ms st0 La0 pc ls stk rem st := by
  have h1 : cond (Nat.ble (sg y).1 stk.length) (mcall sg C Xx y pc ls stk rem st nx) False := by
    have h0 : mstat (look2 P.2.1 x) (mbin stk fun a b r => cond (mroom r) (nx ls (mi (max a b) :: r) rem st) False) (mbin stk fun a b r => cond (mroom r) (nx ls (mi (min a b) :: r) rem st) False) (fun y => cond (Nat.ble (sg y).1 stk.length) (mcall sg C Xx y pc ls stk rem st nx) False) := h
    rw [hlook] at h0
    unfold mstat at h0
    dsimp only at h0
    have n1 : Nat.beq y 401 = false := by
      cases e : Nat.beq y 401 with
      | false => rfl
      | true => have := Nat.eq_of_beq_eq_true e; omega
    have n2 : Nat.beq y 402 = false := by
      cases e : Nat.beq y 402 with
      | false => rfl
      | true => have := Nat.eq_of_beq_eq_true e; omega
    rw [n1, n2] at h0
    exact h0
  obtain ⟨hlenB, h1⟩ := cond_inv h1
  have hlenS : qN q ≤ stk.length := by rw [hsg] at hlenB; exact Nat.le_of_ble_eq_true hlenB
  unfold mcall at h1
  rw [hsg] at h1
  obtain ⟨hroom, b1, b2, h3⟩ := cond_inv h1
  dsimp only at hroom b1 b2 h3
  obtain ⟨q1, q2, q3, q4, q5, q6, q7⟩ := hq
  intro La H locs cells slots lsA hw hm he hl hs hS hls hc hsl
  have hrest : ∀ v ∈ stk.drop (qN q), vOK st v := fun v hv => hs v (List.mem_of_mem_drop hv)
  have hargs : ∀ v ∈ (stk.take (qN q)).reverse, vOK st v := fun v hv => hs v (List.mem_of_mem_take (List.mem_reverse.mp hv))
  refine call_fin (a := (((stk.take (qN q)).reverse).map (mR E La)).toArray) (stR := stk.map (mR E La)) b1 b2 kn kx hm he hl hrest hS hls hc hsl ?_
  have hM := hC _ _ _ h3 La hargs
  have hlen : (((stk.take (qN q)).reverse).map (mR E La)).length = qN q := by
    rw [List.length_map, List.length_reverse, List.length_take]
    omega
  have hT : GoodIn lw_good (va_wsS own x (qY q) (qWsH q hh)) := by
    intro w hw9
    have hmem : w ∈ lw_good := by
      simp only [va_wsS, List.mem_append, List.mem_cons, List.not_mem_nil, or_false, false_or] at hw9
      rcases hw9 with (h | h | h) | h
      all_goals first | (rw [h]; assumption) | exact qWsH_in q1 h
    exact lw_good_good w hmem
  refine vx_runSX (Ts := lw_good) (own := own) (hh := hh) (As := ((stk.take (qN q)).reverse).map (mR E La)) ⟨X.1, X.2.1, X.2.2.1, X.2.2.2.1, X.2.2.2.2.1⟩ hM (vx_cwSW (qN q) X.2.2.2.2.1 hT rfl rfl rfl ⟨q4.1, q4.2, q6⟩ ⟨hR.1, ?_⟩)
    ⟨mPc_blind, fun U hU hW => ⟨rfl, T.warm hW, by rw [hU]; exact hw⟩⟩ rfl hlen hls.1 ?_ (lv_room (mroom_R hroom)) hd ⟨cell_le hc b1 hR.2.2.1, cell_le hsl b2 hR.2.2.2⟩
  · exact room_le q5 hR.2.1
  · show stk.map (mR E La) = _
    rw [← List.map_reverse, List.reverse_reverse, ← List.map_append, List.take_append_drop]
/-- the wrappers, as the law's body calls them -/
def mWr (E : mEnv) (S : mStr) (F : mFr) (own : String) (P : mPool) (sg : mSig) (C : mCall) (d : Nat) : Prop := ∀ x y z, look2 P.2.1 x = some y → lookC wL_ y = some z → ∃ hh, methHOK z.1 hh ∧ Jvm.Cond.methodLink own x (qY z.1) ∈ lw_good ∧ y < 400 ∧ sg y = (qN z.1, qC z.1, qT z.1, qI z.1) ∧ ∀ vs st post, C y vs st post → mMetH E S F.2.1 z.1 hh d vs st post
theorem lblk_sound (X : mCtx E F cc own nL) (T : mTab E S (fS F)) (hR : mFits F d mc ms) (hO : mOK E S F own P M sg C d) (hWr : mWr E S F own P sg C d)
    (ki : mKi E F cc nL mc ms st0 La0 P sg C Xx) (ke : mKe E F cc nL mc ms st0 La0 P M rt ret sg C J Xx post)
    (kj : mKj E F nL mc ms st0 La0 J) (kx : mKx E F nL mc ms st0 La0 Xx) : ∀ (l : List mI) (pc : Nat), lblkB P M cc rt ret nL pc l = true → ∀ ls stk rem st, mblk P rt sg C J Xx post l pc ls stk rem st → mSim E F nL mc ms st0 La0 pc ls stk rem st := by
  intro l
  induction l with
  | nil => intro pc _ ls stk rem st h; exact kj _ _ _ _ _ h
  | cons a r ih =>
    intro pc hb ls stk rem st h
    match a, hb, h with
    | .inl (i, n), hb, h =>
      have hb1 : (decB cc pc i n && lOK P M rt ret nL pc n i && lblkB P M cc rt ret nL (pc + n) r) = true := hb
      rw [Bool.and_eq_true, Bool.and_eq_true] at hb1
      by_cases hi : ∃ x, i = .invokestatic x
      · obtain ⟨x, rfl⟩ := hi
        have h2 : (Nat.beq n 3 && (match look2 P.2.1 x with | some y => (lookC wL_ y).isSome | none => false)) = true := hb1.1.2
        obtain ⟨e3, h3⟩ := beq2 h2
        subst e3
        cases e : look2 P.2.1 x with
        | none => rw [e] at h3; exact absurd (show false = true from h3) (by decide)
        | some y =>
          rw [e] at h3
          have h3 : (lookC wL_ y).isSome = true := h3
          obtain ⟨z, hz⟩ := Option.isSome_iff_exists.mp h3
          obtain ⟨hh, m1, m2, m3, m4, m5⟩ := hWr x y z e hz
          exact sm_callSH m1 m2 e m3 m4 m5 hR T X (of_decide_eq_true hb1.1.1) h (fun ls stk rem st g => ih _ hb1.2 ls stk rem st g) kx
      · have h2 : iOK P M rt ret nL pc n i = true := by
          have := hb1.1.2
          cases i <;> first | exact this | exact absurd ⟨_, rfl⟩ hi
        exact step_sound X T hR hO ki ke kj kx (of_decide_eq_true hb1.1.1) h2 h (fun ls stk rem st g => ih _ hb1.2 ls stk rem st g)
    | .inr q, hb, h => exact absurd (show false = true from hb) (by decide)
theorem lmat_sound {cd : mCode} {WW : mK} (X : mCtx E F cc own nL) (T : mTab E S (fS F)) (hR : mFits F d mc ms) (hO : mOK E S F own P M sg C d) (hWr : mWr E S F own P sg C d)
    (ki : mKi E F cc nL mc ms st0 La0 P sg C (mexc [] WW post cd)) (ke : mKe E F cc nL mc ms st0 La0 P M rt ret sg C (mjmp cd WW) (mexc [] WW post cd) post)
    (kw : ∀ t ls stk rem st, WW t ls stk rem st → mSim E F nL mc ms st0 La0 t ls stk rem st) (kx : mKx E F nL mc ms st0 La0 (mexc [] WW post cd)) (hc : cd.all (fun b => lblkB P M cc rt ret nL b.1 b.2.2) = true)
    {t : Nat} {ls : mLs} {stk : List mV} {rem : Nat × Nat} {st : mS} (h : mat P rt sg cd [] C WW post t ls stk rem st) : mSim E F nL mc ms st0 La0 t ls stk rem st := by
  unfold mat at h
  split at h
  · rename_i lv l hf
    have hb := List.all_eq_true.mp hc _ (mfind_mem cd t lv l hf)
    exact lblk_sound X T hR hO hWr ki ke (kj_of kw) kx l t hb _ _ _ _ h
  · exact h.elim
end LCalls
