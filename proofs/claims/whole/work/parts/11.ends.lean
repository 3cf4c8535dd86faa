/-! ENDS: what a method answers, what it throws; Math -/
theorem world_grow {E : mEnv} {st : mS} {La : mLa} {H H1 : Heap} (hw : mWorld E st La H) (hz : H.size ≤ H1.size) (ho : ∀ q, q < H.size → H1[q]? = H[q]?) : mWorld E st La H1 := by
  obtain ⟨hb, hf, cap, mdc, hl, hc, hinj⟩ := hw
  refine ⟨⟨Nat.le_trans hb.1 hz, fun q hq => by rw [ho q (Nat.lt_of_lt_of_le hq hb.1)]; exact hb.2 q hq⟩, hf, cap, mdc, hl, fun k i e he => ?_, hinj⟩
  obtain ⟨g1, g2⟩ := hc k i e he
  exact ⟨g1, g2.kept (ho _ g2.lt)⟩
def mNames : List String := ["java/lang/RuntimeException", "java/lang/Exception"]
/-- the words of a throw of NoSuchElementException, whose constructor links its super's by another number than the other classes' -/
def n4 : String := "java/util/NoSuchElementException"
def n4_b : ByteArray := ⟨#[0x2a, 0x2b, 0xb7, 0x00, 0x0d, 0xb1]⟩
def n4_ps : List Jvm.Cond := Bundle.passSAtoms n4 "java/lang/RuntimeException" 13 n4_b ++ Bundle.chainSAtoms "java/lang/RuntimeException" ["java/lang/Exception"]
def n4_at (own : String) (ic : Nat) : List Jvm.Cond := ((vx_atS own ic n4 mNames).filter (fun w => match w with
  | .methodLink c i _ => !(c == n4 && i == 7)
  | .code y _ _ _ => !(y.cls == n4)
  | _ => true)) ++ n4_ps
/-- what the tables say of a throw -/
def thrOK (own : String) (ik ic x : Nat) : Prop := Jvm.Cond.classLink own ik (mEx x) ∈ lw_good ∧ Jvm.Cond.initialized (mEx x) ∈ lw_good ∧ Bundle.fit (mEx x) = true ∧ (∀ w ∈ (if x = 4 then n4_at own ic else vx_atS own ic (mEx x) mNames), w ∈ lw_tbl ∧ (goodWord w = true ∨ isCastW w = true)) ∧
  (∀ w ∈ Jvm.Cond.classLink own ik (mEx x) :: Jvm.Cond.initialized (mEx x) :: (if x = 4 then n4_at own ic else vx_atS own ic (mEx x) mNames), vx_ot w = true)
/-- a method's frame -/
def mMF (E : mEnv) (S : mStr) (F : mFr) (cc : ByteArray) (own : String) (nL mc ms d : Nat) (st0 : mS) (La0 : mLa) (post : mO → mS → Prop) : Prop :=
  mCtx E F cc own nL ∧ mTab E S (fS F) ∧ mFits F d mc ms ∧ F.2.1.stackTraces = false ∧ F.2.2.2.2.2.2.2.2.1.locks = false ∧ F.2.2.2.2.2.2.2.2.2.2 = vx_MQ F.2.2.2.2.2.2.2.1 (mQc E st0 La0 post) (mXc E st0 La0 post) (fA F) (fS F) mc ms (fun a => eN E ≤ a)
section Ends
variable {E : mEnv} {S : mStr} {F : mFr} {cc : ByteArray} {own : String} {nL mc ms d : Nat} {st0 : mS} {La0 : mLa}
variable {P : mPool} {rt : Nat} {sg : mSig} {C : mCall} {J : mK} {Xx : Nat → Nat → mLs → Nat × Nat → mS → Prop} {post : mO → mS → Prop}
variable {pc : Nat} {ls : mLs} {stk : List mV} {rem : Nat × Nat} {st : mS} {nx : mLs → List mV → Nat × Nat → mS → Prop}
theorem mEnd_of {La : mLa} {s t : State} {H : Heap} {locs : List Loc} (hw : mWorld E st La H) (hm : mMono st0 st) (he : mExt st0 La0 La) (hS : va_S (fun q => eN E ≤ q) s.heap H locs) (ht : t.heap = H) : mEnd E st0 La0 st La s t := ⟨by rw [ht]; exact hw, hm, he, hS.F ht⟩
theorem sm_return_ (X : mMF E S F cc own nL mc ms d st0 La0 post) (hr : F.2.2.2.2.2.2.2.2.1.sig.returnType = none) (hd : decode cc pc = .ok (.return_, 1)) (h : mstep P rt sg C J Xx post (.return_) pc ls stk rem st nx) : mSim E F nL mc ms st0 La0 pc ls stk rem st := by
  obtain ⟨he9, h1⟩ := cond_inv h
  cases List.isEmpty_iff.mp he9
  obtain ⟨X, T, hR, htr, hlk, hQ⟩ := X
  intro La H locs cells slots lsA hw hm he hl hs hS hls hc hsl
  show W _ _ _ _ _ _ _ _ _ _ _ _ _ _ F.2.2.2.2.2.2.2.2.2.2 _
  rw [hQ]
  refine W.widen (k := mc) (n := ms) (by omega) (by omega) (vx_ret (W.vret X.1 X.2.1 hr (fun t ht hW => ⟨none, st, La, rfl, h1, fun w hw => (nomatch hw), mEnd_of hw hm he hS ht⟩) hS.2.2 hd hlk))
theorem sm_ireturn {ty : FieldType} (X : mMF E S F cc own nL mc ms d st0 La0 post) (hr : F.2.2.2.2.2.2.2.2.1.sig.returnType = some ty) (hty : ty = tyF rt) (hd : decode cc pc = .ok (.ireturn, 1)) (h : mstep P rt sg C J Xx post (.ireturn) pc ls stk rem st nx) : mSim E F nL mc ms st0 La0 pc ls stk rem st := by
  subst hty
  have h0 : ∃ v r, stk = mi v :: r ∧ tyOK rt v ∧ cond (r.isEmpty) (post (.inl (some (mi v))) st) False := by
    match stk, h with
    | .inl v :: r, h => exact ⟨v, r, rfl, h⟩
  obtain ⟨v, r, rfl, hv, h2⟩ := h0
  obtain ⟨he9, h1⟩ := cond_inv h2
  cases List.isEmpty_iff.mp he9
  obtain ⟨X, T, hR, htr, hlk, hQ⟩ := X
  intro La H locs cells slots lsA hw hm he hl hs hS hls hc hsl
  show W _ _ _ _ _ _ _ _ _ _ _ _ _ _ F.2.2.2.2.2.2.2.2.2.2 _
  rw [hQ]
  refine W.widen (k := mc) (n := ms) (by omega) (by omega) (vx_ret (W.zret X.1 X.2.1 hr (narrow_ok hv).1 (fun t ht hW => ⟨some (mi v), st, La, rfl, h1, fun w hw => ?_, mEnd_of hw hm he hS ht⟩) hS.2.2 hd hlk))
  cases hw
  exact ok_head hs
theorem sm_areturn {nm : String} (X : mMF E S F cc own nL mc ms d st0 La0 post) (hr : F.2.2.2.2.2.2.2.2.1.sig.returnType = some (.object nm)) (hd : decode cc pc = .ok (.areturn, 1)) (h : mstep P rt sg C J Xx post (.areturn) pc ls stk rem st nx) : mSim E F nL mc ms st0 La0 pc ls stk rem st := by
  obtain ⟨q, r, rfl, h2⟩ := stR_inv (f := fun q r => cond (r.isEmpty) (post (.inl (some (mr q.1 q.2))) st) False) h
  obtain ⟨he9, h1⟩ := cond_inv h2
  cases List.isEmpty_iff.mp he9
  obtain ⟨X, T, hR, htr, hlk, hQ⟩ := X
  intro La H locs cells slots lsA hw hm he hl hs hS hls hc hsl
  show W _ _ _ _ _ _ _ _ _ _ _ _ _ _ F.2.2.2.2.2.2.2.2.2.2 _
  rw [hQ]
  refine W.widen (k := mc) (n := ms) (by omega) (by omega) (vx_ret (W.aret X.1 X.2.1 hr (Or.inl ⟨nm, rfl⟩) (Or.inr ⟨_, rfl⟩) (fun t ht hW => ⟨some (mr q.1 q.2), st, La, rfl, h1, fun w hw => ?_, mEnd_of hw hm he hS ht⟩) hS.2.2 hd hlk))
  cases hw
  exact ok_head hs
theorem sm_freturn (X : mMF E S F cc own nL mc ms d st0 La0 post) (hr : F.2.2.2.2.2.2.2.2.1.sig.returnType = some .float) (hd : decode cc pc = .ok (.freturn, 1)) (h : mstep P rt sg C J Xx post (.freturn) pc ls stk rem st nx) : mSim E F nL mc ms st0 La0 pc ls stk rem st := by
  have h0 : ∃ v r, stk = mf v :: r ∧ cond (r.isEmpty) (post (.inl (some (mf v))) st) False := by
    match stk, h with
    | .inr (.inr (.inl v)) :: r, h => exact ⟨v, r, rfl, h⟩
  obtain ⟨v, r, rfl, h2⟩ := h0
  obtain ⟨he9, h1⟩ := cond_inv h2
  cases List.isEmpty_iff.mp he9
  obtain ⟨X, T, hR, htr, hlk, hQ⟩ := X
  intro La H locs cells slots lsA hw hm he hl hs hS hls hc hsl
  show W _ _ _ _ _ _ _ _ _ _ _ _ _ _ F.2.2.2.2.2.2.2.2.2.2 _
  rw [hQ]
  refine W.widen (k := mc) (n := ms) (by omega) (by omega) (vx_ret (W.fret X.1 X.2.1 hr (fun t ht hW => ⟨some (mf v), st, La, rfl, h1, fun w hw => ?_, mEnd_of hw hm he hS ht⟩) hS.2.2 hd hlk))
  cases hw
  trivial
theorem sm_dreturn (X : mMF E S F cc own nL mc ms d st0 La0 post) (hr : F.2.2.2.2.2.2.2.2.1.sig.returnType = some .double) (hd : decode cc pc = .ok (.dreturn, 1)) (h : mstep P rt sg C J Xx post (.dreturn) pc ls stk rem st nx) : mSim E F nL mc ms st0 La0 pc ls stk rem st := by
  have h0 : ∃ v r, stk = md v :: r ∧ cond (r.isEmpty) (post (.inl (some (md v))) st) False := by
    match stk, h with
    | .inr (.inr (.inr (.inl v))) :: r, h => exact ⟨v, r, rfl, h⟩
  obtain ⟨v, r, rfl, h2⟩ := h0
  obtain ⟨he9, h1⟩ := cond_inv h2
  cases List.isEmpty_iff.mp he9
  obtain ⟨X, T, hR, htr, hlk, hQ⟩ := X
  intro La H locs cells slots lsA hw hm he hl hs hS hls hc hsl
  show W _ _ _ _ _ _ _ _ _ _ _ _ _ _ F.2.2.2.2.2.2.2.2.2.2 _
  rw [hQ]
  refine W.widen (k := mc) (n := ms) (by omega) (by omega) (vx_ret (W.dret X.1 X.2.1 hr (fun t ht hW => ⟨some (md v), st, La, rfl, h1, fun w hw => ?_, mEnd_of hw hm he hS ht⟩) hS.2.2 hd hlk))
  cases hw
  trivial
/-- a throw of NoSuchElementException -/
theorem sm_throw4 {own : String} {ik is ic : Nat} {wide : Bool} {text : String} (X : mMF E S F cc own nL mc ms d st0 La0 post) (hnt : ∀ z ∈ (fC F).exceptionTable.toList, False) (ht : thrOK own ik ic 4) (hz : (own, is, text) ∈ S)
    (d0 : decode cc pc = .ok (.new ik, 3)) (d3 : decode cc (pc + 3) = .ok (.dup, 1))
    (d4 : if wide = true then decode cc (pc + 4) = .ok (.ldc_w is, 3) ∧ decode cc (pc + 7) = .ok (.invokespecial ic, 3) ∧ decode cc (pc + 10) = .ok (.athrow, 1) else decode cc (pc + 4) = .ok (.ldc is, 2) ∧ decode cc (pc + 6) = .ok (.invokespecial ic, 3) ∧ decode cc (pc + 9) = .ok (.athrow, 1))
    (hb : 1 ≤ rem.1 ∧ 6 ≤ rem.2) (h : post (.inr 4) st) : mSim E F nL mc ms st0 La0 pc ls [] rem st := sorry
/-- a throw, the text by a narrow index (wide = false) or a wide one -/
theorem sm_throw {own : String} {ik is ic x : Nat} {wide : Bool} {text : String} (X : mMF E S F cc own nL mc ms d st0 La0 post) (hnt : ∀ z ∈ (fC F).exceptionTable.toList, False) (ht : thrOK own ik ic x) (hz : (own, is, text) ∈ S)
    (d0 : decode cc pc = .ok (.new ik, 3)) (d3 : decode cc (pc + 3) = .ok (.dup, 1))
    (d4 : if wide = true then decode cc (pc + 4) = .ok (.ldc_w is, 3) ∧ decode cc (pc + 7) = .ok (.invokespecial ic, 3) ∧ decode cc (pc + 10) = .ok (.athrow, 1) else decode cc (pc + 4) = .ok (.ldc is, 2) ∧ decode cc (pc + 6) = .ok (.invokespecial ic, 3) ∧ decode cc (pc + 9) = .ok (.athrow, 1))
    (hb : 1 ≤ rem.1 ∧ 6 ≤ rem.2) (h : post (.inr x) st) : mSim E F nL mc ms st0 La0 pc ls [] rem st := by
  by_cases hx4 : x = 4
  · subst hx4
    exact sm_throw4 X hnt ht hz d0 d3 d4 hb h
  obtain ⟨X, T, hR, htr, hlk, hQ⟩ := X
  obtain ⟨t1, t2, t3, t4, t5⟩ := ht
  rw [if_neg hx4] at t4 t5
  obtain ⟨sa, hsa⟩ := T.2.2.2.1 _ hz
  intro La H locs cells slots lsA hw hm he hl hs hS hls hc hsl
  show W _ _ _ _ _ _ _ _ _ _ _ _ _ _ F.2.2.2.2.2.2.2.2.2.2 _
  rw [hQ]
  have hbase := X.2.2.2.2.2.2.1
  have kz : ∀ a, a < (eH E).size → ¬ eN E ≤ a → (fS F).heap[a]? = (eH E)[a]? := fun a ha hn => hbase.2 a (by omega)
  have hU := T.2.2.1.1.kept kz
  have hN := T.2.2.1.2.kept kz
  have hat : ∀ w ∈ vx_atS own ic (mEx x) mNames, w.before (fA F) (fS F) = true := by
    intro w hw9
    obtain ⟨g1, g2⟩ := t4 w hw9
    rcases g2 with g2 | g2
    · exact X.2.2.2.2.1 w (lw_good_in g1 g2)
    · exact castW_use g2 (T.2.2.2.2.2.1 _ g1 g2)
  have hx : ∀ t : State, (fS F).vm.Alike t.vm → H.size ≤ t.heap.size → (∀ q : Nat, q < H.size → t.heap[q]? = H[q]?) → mXc E st0 La0 post (mEx x) (fS F) t := by
    intro t _ hz9 ho
    refine ⟨x, st, La, rfl, h, world_grow hw hz9 ho, hm, he, Nat.le_trans hS.1 hz9, fun q hq hn => ?_⟩
    rw [ho q (Nat.lt_of_lt_of_le hq hS.1)]
    exact hS.2.1 q hq hn
  have hfr : 5 < F.2.2.2.1.frames := by have := hR.1; omega
  have hlo : 82 ≤ F.2.2.2.1.locals := by have := hR.2.1; generalize 40 * d = z at this; omega
  have hce : cells + 1 ≤ F.2.2.2.1.cells := cell_le hc hb.1 hR.2.2.1
  have hsr : slots + 6 ≤ F.2.2.2.1.slots := cell_le hsl hb.2 hR.2.2.2
  cases wide with
  | false =>
    rw [if_neg (by decide)] at d4
    exact vx_throwS X.1 X.2.1 htr X.2.2.2.1 t3 (by decide +kernel) (X.2.2.2.2.1 _ t1) (X.2.2.2.2.1 _ t2) hsa hat t5 hU hN hS (hls.1.trans X.2.2.1.symm) d0 d3 d4.1 d4.2.1 d4.2.2 (fun z hz => (hnt z hz).elim) hfr hlo hce hsr hlk hx hS.2.2 (by omega) (by omega)
  | true =>
    rw [if_pos rfl] at d4
    exact vx_throwSW X.1 X.2.1 htr X.2.2.2.1 t3 (by decide +kernel) (X.2.2.2.2.1 _ t1) (X.2.2.2.2.1 _ t2) hsa hat t5 hU hN hS (hls.1.trans X.2.2.1.symm) d0 d3 d4.1 d4.2.1 d4.2.2 (fun z hz => (hnt z hz).elim) hfr hlo hce hsr hlk hx hS.2.2 (by omega) (by omega)
end Ends
