/-! METHODS WITH HANDLERS: the law's own -/
def qWsH (q : mMeth) (hh : List (Nat × Nat × Nat × Nat)) : List Jvm.Cond := .codeWith (qY q) (qB q) (qL q) (qR q) hh :: lw_good
def mMetH (E : mEnv) (S : mStr) (l : Launch) (q : mMeth) (hh : List (Nat × Nat × Nat × Nat)) (d : Nat) (vs : List mV) (st : mS) (post : mO → mS → Prop) : Prop :=
  ∀ La : mLa, (∀ v ∈ vs, vOK st v) → vx_Met l (qY q) (qWsH q hh) (mRoom d (qC q) (qT q)) (mPc E S st La vs) (mQc E st La post) (mXc E st La post) (qC q) (qT q) (fun a => eN E ≤ a)
/-- the table's rows and the pure machine's: the same places, the class by its number -/
def hdOK (own : String) : List (Nat × Nat × Nat × Nat) → mHd → Prop
  | [], [] => True
  | a :: r, b :: t => (a.1 = b.1 ∧ a.2.1 = b.2.1 ∧ a.2.2.1 = b.2.2.1 ∧ a.2.2.2 ≠ 0 ∧ (1 ≤ b.2.2.2 ∧ b.2.2.2 ≤ 6) ∧ Jvm.Cond.classLink own a.2.2.2 (mEx b.2.2.2) ∈ lw_good ∧ Jvm.Cond.castable (mEx b.2.2.2) (mEx b.2.2.2) ∈ lw_tbl) ∧ hdOK own r t
  | _, _ => False
def methHOK (q : mMeth) (hh : List (Nat × Nat × Nat × Nat)) : Prop := Jvm.Cond.codeWith (qY q) (qB q) (qL q) (qR q) hh ∈ lw_good ∧ Jvm.Cond.initialized (qY q).cls ∈ lw_good ∧ plainName (qY q).cls = true ∧ ((qY q).cls ≠ "java/lang/invoke/MethodHandle" ∧ (qY q).cls ≠ "java/lang/invoke/VarHandle") ∧ qL q ≤ 21 ∧ (parseMethodDescriptor (qY q).desc).map (fun d => d.parameters.length) = some (qN q) ∧ Jvm.Cond.static (qY q) ∈ lw_good
theorem mfind_mem : ∀ (cd : mCode) t lv l, mfind cd t = some (lv, l) → (t, lv, l) ∈ cd := by
  intro cd
  induction cd with
  | nil => intro t lv l h; cases h
  | cons b r ih =>
    intro t lv l h
    unfold mfind at h
    cases hb : Nat.beq b.1 t with
    | true =>
      rw [hb] at h
      have e : b.1 = t := Nat.eq_of_beq_eq_true hb
      have e2 : b.2 = (lv, l) := Option.some.inj h
      obtain ⟨b1, b2⟩ := b
      dsimp only at e e2
      subst e; subst e2
      exact List.mem_cons_self
    | false =>
      rw [hb] at h
      exact List.mem_cons_of_mem _ (ih t lv l h)
section With
variable {E : mEnv} {S : mStr} {F : mFr} {cc : ByteArray} {own : String} {nL mc ms d : Nat} {st0 : mS} {La0 : mLa}
variable {P : mPool} {M : mTbl} {TH : mThr} {rt : Nat} {ret : Option FieldType} {sg : mSig} {C : mCall} {post : mO → mS → Prop}
theorem kj_of {cd : mCode} {WW : mK} (kw : ∀ t ls stk rem st, WW t ls stk rem st → mSim E F nL mc ms st0 La0 t ls stk rem st) : mKj E F nL mc ms st0 La0 (mjmp cd WW) := by
  intro t ls stk rem st hj
  unfold mjmp at hj
  split at hj
  · rename_i lv l hf
    intro La H locs cells slots lsA hw hm he hl hs hS hls hc hsl
    exact kw _ _ _ _ _ hj La H locs cells slots lsA hw hm he (mproj_ok lv hl) hs hS (mproj_has hls lv) hc hsl
  · exact hj.elim
theorem matX_sound {cd : mCode} {WW : mK} {Xx : Nat → Nat → mLs → Nat × Nat → mS → Prop} (X : mCtx E F cc own nL) (T : mTab E S (fS F)) (hR : mFits F d mc ms) (hO : mOK E S F own P M sg C d)
    (ki : mKi E F cc nL mc ms st0 La0 P sg C Xx) (ke : mKe E F cc nL mc ms st0 La0 P M rt ret sg C (mjmp cd WW) Xx post) (kt : mKt E S F cc own nL mc ms st0 La0 P TH post) (kc : mKc E S F cc own nL mc ms st0 La0 P TH sg C)
    (kw : ∀ t ls stk rem st, WW t ls stk rem st → mSim E F nL mc ms st0 La0 t ls stk rem st) (kx : mKx E F nL mc ms st0 La0 Xx) (hc : codB own P M S TH cc rt ret nL cd = true)
    {t : Nat} {lv : List Nat} {l : List mI} (hf : mfind cd t = some (lv, l)) {ls : mLs} {stk : List mV} {rem : Nat × Nat} {st : mS} (h : mblk P rt sg C (mjmp cd WW) Xx post l t ls stk rem st) : mSim E F nL mc ms st0 La0 t ls stk rem st :=
  blk_sound X T hR hO ki ke kt kc (kj_of kw) kx l t (List.all_eq_true.mp hc _ (mfind_mem cd t lv l hf)) _ _ _ _ h
/-- an exception in a method with handlers: the first row that covers the place and names the class takes it -/
theorem kx_hd {cd : mCode} {WW : mK} (X : mCtx E F cc own nL) (T : mTab E S (fS F)) (hlk : F.2.2.2.2.2.2.2.2.1.locks = false) (hQ : F.2.2.2.2.2.2.2.2.2.2 = vx_MQ F.2.2.2.2.2.2.2.1 (mQc E st0 La0 post) (mXc E st0 La0 post) (fA F) (fS F) mc ms (fun a => eN E ≤ a))
    (kw : ∀ t ls stk rem st, WW t ls stk rem st → mSim E F nL mc ms st0 La0 t ls stk rem st) {x pc : Nat} {ls : mLs} {rem : Nat × Nat} {st2 : mS} (hx : 1 ≤ x ∧ x ≤ 6)
    {La2 : mLa} {H : Heap} {locs : List Loc} {cells slots : Nat} {lsA : Array Slot} {rest : List Value} {q9 : Addr} {ce : Cell} (hw2 : mWorld E st2 La2 H) (hm : mMono st0 st2) (he : mExt st0 La0 La2) (hl2 : ∀ q ∈ ls, vOK st2 q.2)
    (hS : va_S (fun q => eN E ≤ q) (fS F).heap H locs) (hls : lv_has lsA nL (ls.map (fun q => (q.1, mR E La2 q.2)))) (hc : cells + rem.1 ≤ mc) (hsl : slots + rem.2 ≤ ms) (hce : H[q9]? = some ce) (hcv : ce.vm = .none) (hcl : (fS F).vm.findClass (mEx x) = some ce.cls) :
    ∀ (hh : List (Nat × Nat × Nat × Nat)) (hd : mHd), hdOK own hh hd → ∀ pre : List ExceptionTableEntry, (fC F).exceptionTable.toList = pre ++ tableOf hh →
      (∀ z ∈ pre, covers z pc = false ∨ (z.catchType ≠ 0 ∧ ∃ nm : String, (Jvm.Cond.classLink own z.catchType nm).before (fA F) (fS F) = true ∧ va_Nc (mEx x) nm (fS F))) →
      (match mhand hd pc x with | some h => ∀ q : Nat, mjmp cd WW h ls [mr 99 q] rem st2 | none => post (.inr x) st2) → mWx F H locs cells slots (F0 (fM F) pc lsA rest) q9 := by
  intro hh
  induction hh with
  | nil =>
    intro hd hok pre htab hpre h
    match hd, hok, h with
    | [], _, h =>
      show vx_W _ _ _ _ _ _ _ _ _ _ _ _ _ _ F.2.2.2.2.2.2.2.2.2.2 _ _
      rw [hQ]
      refine vx_outP (own := own) (E := mEx x) X.2.2.2.1 hlk (fun z hz => ?_) hce hcv hcl (fun t ht _ => ⟨x, st2, La2, rfl, h, mEnd_of hw2 hm he hS ht⟩) hS.2.2 (by omega) (by omega)
      rw [htab] at hz
      rcases List.mem_append.mp hz with hz | hz
      · exact hpre z hz
      · cases hz
  | cons a r ih =>
    intro hd hok pre htab hpre h
    match hd, hok, h with
    | b :: t, hok, h =>
      obtain ⟨⟨e1, e2, e3, e4, ⟨e5, e5'⟩, e6, e7⟩, hok2⟩ := hok
      have h0 : (match cond (Nat.ble b.1 pc && Nat.blt pc b.2.1 && Nat.beq b.2.2.2 x) (some b.2.2.1) (mhand t pc x) with | some h => ∀ q : Nat, mjmp cd WW h ls [mr 99 q] rem st2 | none => post (.inr x) st2) := h
      by_cases hcov : b.1 ≤ pc ∧ pc < b.2.1
      · by_cases hcx : b.2.2.2 = x
        · have eb : (Nat.ble b.1 pc && Nat.blt pc b.2.1 && Nat.beq b.2.2.2 x) = true := by
            rw [Bool.and_eq_true, Bool.and_eq_true]
            exact ⟨⟨Nat.ble_eq.mpr hcov.1, Nat.ble_eq.mpr hcov.2⟩, by rw [hcx]; exact Nat.beq_refl x⟩
          rw [eb] at h0
          have hj := h0 q9
          have hsim := kj_of (cd := cd) kw _ _ _ _ _ hj La2 H locs cells slots lsA hw2 hm he hl2 (ok_cons (Or.inl rfl) (fun z hz => nomatch hz)) hS hls hc hsl
          rw [hcx] at e6 e7
          refine vx_catch (own := own) (name := mEx x) (E := mEx x) X.2.2.2.1 pre ⟨a.1, a.2.1, a.2.2.1, a.2.2.2⟩ (tableOf r) htab hpre ?_ e4 (X.2.2.2.2.1 _ e6) (castW_use rfl (T.2.2.2.2.2.1 _ e7 rfl)) hce hcv hcl ?_
          · show (decide (a.1 ≤ pc) && decide (pc < a.2.1)) = true
            rw [e1, e2, Bool.and_eq_true]
            exact ⟨decide_eq_true hcov.1, decide_eq_true hcov.2⟩
          · show mW F H locs cells slots (F0 (fM F) a.2.2.1 lsA [Value.ref q9])
            rw [e3]
            exact hsim
        · have eb : (Nat.ble b.1 pc && Nat.blt pc b.2.1 && Nat.beq b.2.2.2 x) = false := by
            rw [show Nat.beq b.2.2.2 x = false from by cases e : Nat.beq b.2.2.2 x with | false => rfl | true => exact absurd (Nat.eq_of_beq_eq_true e) hcx, Bool.and_false]
          rw [eb] at h0
          refine ih t hok2 (pre ++ [⟨a.1, a.2.1, a.2.2.1, a.2.2.2⟩]) (by rw [htab, List.append_assoc]; rfl) (fun z hz => ?_) h0
          rcases List.mem_append.mp hz with hz | hz
          · exact hpre z hz
          · rw [List.mem_singleton.mp hz]
            exact Or.inr ⟨e4, mEx b.2.2.2, X.2.2.2.2.1 _ e6, T.2.2.2.2.2.2.2.2.1 x b.2.2.2 hx.1 hx.2 e5 e5' (fun q => hcx q.symm)⟩
      · have eb : (Nat.ble b.1 pc && Nat.blt pc b.2.1 && Nat.beq b.2.2.2 x) = false := by
          cases e : (Nat.ble b.1 pc && Nat.blt pc b.2.1 && Nat.beq b.2.2.2 x) with
          | false => rfl
          | true =>
            rw [Bool.and_eq_true, Bool.and_eq_true] at e
            exact absurd ⟨Nat.ble_eq.mp e.1.1, Nat.ble_eq.mp e.1.2⟩ hcov
        rw [eb] at h0
        refine ih t hok2 (pre ++ [⟨a.1, a.2.1, a.2.2.1, a.2.2.2⟩]) (by rw [htab, List.append_assoc]; rfl) (fun z hz => ?_) h0
        rcases List.mem_append.mp hz with hz | hz
        · exact hpre z hz
        · rw [List.mem_singleton.mp hz]
          refine Or.inl ?_
          show (decide (a.1 ≤ pc) && decide (pc < a.2.1)) = false
          rw [e1, e2]
          cases e : (decide (b.1 ≤ pc) && decide (pc < b.2.1)) with
          | false => rfl
          | true =>
            rw [Bool.and_eq_true] at e
            exact absurd ⟨of_decide_eq_true e.1, of_decide_eq_true e.2⟩ hcov
end With
theorem metH_of {E : mEnv} {S : mStr} {l : Launch} {M : mTbl} {Pl : String → mPool} {sg : mSig} {cd : Nat → mCode} {TH : String → mThr} (hp : mProg M Pl sg cd TH S) (hl : l.stackTraces = false) (hI : primI E S sg l)
    {q : mMeth} {hh : List (Nat × Nat × Nat × Nat)} {hd : mHd} {P : mPool} {kcd : mCode} (hq : methHOK q hh) (hhd : hdOK (qY q).cls hh hd)
    (hP : poolOK (qY q).cls P ∧ (∀ x y q', look2 P.2.1 x = some y → M y = some q' → Jvm.Cond.methodLink (qY q).cls x (qY q') ∈ lw_good) ∧ (∀ x, look2 P.2.1 x = some 401 → mathOK (qY q).cls x Lib.Math.max.name Lib.Math.max.code) ∧ (∀ x, look2 P.2.1 x = some 402 → mathOK (qY q).cls x Lib.Math.min.name Lib.Math.min.code))
    (hx0 : P.2.2.2.1 = []) (hcn : ∀ x y, look2 P.2.1 x = some y → y < 501) (hcod : codB (qY q).cls P M S [] (qB q) (rtOf (qR q)) (qR q) (qL q) kcd = true)
    {d : Nat} {vs : List mV} {st : mS} {post : mO → mS → Prop} (hn : (vs.map mcat).sum ≤ qL q) (hb : mBodyH P sg kcd hd (CCm E S l M d) q vs st post) : mMetH E S l q hh (d + 1) vs st post := by
  intro La hvs
  obtain ⟨p1, p2, p3, p4⟩ := hP
  refine vx_ofWH (cc := qB q) (maxL := qL q) (ret := qR q) (hh := hh) hq.2.2.1 rfl ?_
  intro p e s m args below meth c s₁ B hml hv
  obtain ⟨hargs, htab, hw⟩ := hv
  have hword : (Jvm.Cond.codeWith (qY q) (qB q) (qL q) (qR q) hh).before args s = true := atoms_spec (ws := qWsH q hh) B.pre _ List.mem_cons_self
  have hext := vx_table (x := qY q) B hword
  obtain ⟨F, hF⟩ : ∃ F : mFr, F = (p, l, e, mRoom (d + 1) (qC q) (qT q), s, m, args, below, meth, c, vx_MQ below (mQc E st La post) (mXc E st La post) args s (qC q) (qT q) (fun a => eN E ≤ a)) := ⟨_, rfl⟩
  have hwords : ∀ w ∈ lw_good, w.before args s = true := fun w hw => atoms_spec (ws := qWsH q hh) B.pre w (List.mem_cons_of_mem _ hw)
  have X : mCtx E F (qB q) (qY q).cls (qL q) := by
    rw [hF]
    exact ⟨B.exec, B.bytes, hml, findClass_of_methodNamed B.named, hwords, htab.1, hw.1, htab.2.1.1, htab.2.1.2⟩
  have T : mTab E S (fS F) := by rw [hF]; exact htab
  have hR : mFits F d (qC q) (qT q) := by
    rw [hF]
    refine ⟨Nat.le_refl _, ?_, Nat.le_refl _, Nat.le_refl _⟩
    show 40 * d + 440 ≤ 40 * (d + 1) + 400
    rw [Nat.mul_add]
    exact Nat.le_refl _
  have hlk : F.2.2.2.2.2.2.2.2.1.locks = false := by rw [hF]; exact B.notSynchronized
  have hQ : F.2.2.2.2.2.2.2.2.2.2 = vx_MQ F.2.2.2.2.2.2.2.1 (mQc E st La post) (mXc E st La post) (fA F) (fS F) (qC q) (qT q) (fun a => eN E ≤ a) := by rw [hF]
  have hMF : mMF E S F (qB q) (qY q).cls (qL q) (qC q) (qT q) d st La post := ⟨X, T, hR, by rw [hF]; exact hl, hlk, hQ⟩
  have hret : F.2.2.2.2.2.2.2.2.1.sig.returnType = qR q := by rw [hF]; exact B.returns
  have hFl : F.2.1 = l := by rw [hF]
  have hprim : ∀ y vs st post, 500 ≤ y → CCm E S l M d y vs st post → mPrim y vs st post := by
    intro y vs st post h5 h
    unfold CCm at h
    rw [if_pos h5] at h
    exact h
  have hO : mOK E S F (qY q).cls P M sg (CCm E S l M d) d := by
    refine ⟨p1, p2, fun y q hm => (hp.1 y q hm).2.1, fun y q _ hm => (hp.1 y q hm).2.2.1, fun y q h4 hm vs st post h => ?_, p3, p4⟩
    unfold CCm at h
    rw [if_neg (by omega), hm] at h
    rw [hFl]
    exact h
  have ke : ∀ (WW : mK) Xx, mKe E F (qB q) (qL q) (qC q) (qT q) st La P M (rtOf (qR q)) (qR q) sg (CCm E S l M d) (mjmp kcd WW) Xx post := by
    intro WW Xx i pc ls stk rem st2 nx hi hd hok h
    cases i <;> first | (exact absurd (show false = true from hi) (by decide)) | skip
    · obtain ⟨-, hb⟩ := beq2 (n := 1) (k := 1) (b := refB (qR q)) hok
      cases hr : qR q with
      | none => rw [hr] at hb; exact absurd (show false = true from hb) (by decide)
      | some ty =>
        cases ty <;> first | (rw [hr] at hb; exact absurd (show false = true from hb) (by decide)) | skip
        exact sm_areturn hMF (hret.trans hr) hd h
    · obtain ⟨-, hb⟩ := beq2 (n := 1) (k := 1) (b := decide (qR q = some .double)) hok
      exact sm_dreturn hMF (hret.trans (of_decide_eq_true hb)) hd h
    · obtain ⟨-, hb⟩ := beq2 (n := 1) (k := 1) (b := decide (qR q = some .float)) hok
      exact sm_freturn hMF (hret.trans (of_decide_eq_true hb)) hd h
    · obtain ⟨-, hb⟩ := beq2 (n := 1) (k := 1) (b := decide (qR q = some (tyF (rtOf (qR q))))) hok
      exact sm_ireturn hMF (hret.trans (of_decide_eq_true hb)) rfl hd h
    · obtain ⟨-, hb⟩ := beq2 (n := 1) (k := 1) (b := decide (qR q = none)) hok
      exact sm_return_ hMF (hret.trans (of_decide_eq_true hb)) hd h
  have kt : mKt E S F (qB q) (qY q).cls (qL q) (qC q) (qT q) st La P [] post := by
    intro q9 pc ls rem st2 x hne hm hlk9 hbd hpo
    rw [hx0] at hlk9
    cases hlk9
  have kc : mKc E S F (qB q) (qY q).cls (qL q) (qC q) (qT q) st La P [] sg (CCm E S l M d) := by
    intro q9 vs9 y pc ls stk rem st2 nx h2 hm hlo hlk9
    exfalso
    obtain ⟨k, ik, is, ic, ld⟩ := q9
    dsimp only at h2
    subst h2
    unfold macB at hm
    rw [Bool.and_eq_true, Bool.and_eq_true] at hm
    obtain ⟨-, m3⟩ := hm
    dsimp only at hlk9
    have m3 : (loadsB (qB q) (pc + 4) ld && decB (qB q) (pc + 4 + lensum ld) (Instr.invokespecial ic) 3 && (match look2 P.2.1 ic with | some y => Nat.ble 601 y && Nat.ble y 603 && (match look2 P.2.2.1 ik with | some ci => Nat.beq ci (cnP y) | none => false) | none => false)) = true := m3
    rw [Bool.and_eq_true, hlk9] at m3
    have m4 := m3.2
    dsimp only at m4
    rw [Bool.and_eq_true, Bool.and_eq_true] at m4
    have := hcn _ _ hlk9
    have := Nat.le_of_ble_eq_true m4.1.1
    omega
  have kx : mKx E F (qL q) (qC q) (qT q) st La (mexcH hd (fun t ls stk rem st2 => mSim E F (qL q) (qC q) (qT q) st La t ls stk rem st2) post kcd) := by
    intro x pc ls rem st2 h La2 H locs cells slots lsA rest q9 ce hw2 hm he hl2 hS hls hc hsl hce hcv hcl
    exact kx_hd X T hlk hQ (fun _ _ _ _ _ h => h) h.1 hw2 hm he hl2 hS hls hc hsl hce hcv hcl hh hd hhd [] (by rw [hF]; exact hext) (fun z hz => nomatch hz) h.2
  have hsim := hb (fun t ls stk rem st2 => mSim E F (qL q) (qC q) (qT q) st La t ls stk rem st2) (fun t ls stk rem st2 h => by
    unfold matH at h
    split at h
    · rename_i lv l9 hf
      exact matX_sound X T hR hO (hI F _ _ _ _ _ _ _ _ _ _ _ hFl X T hR hprim p1 (fun x y h9 => ⟨fun a _ => absurd (hcn x y h9) (by omega), fun a _ => absurd (hcn x y h9) (by omega)⟩)) (ke _ _) kt kc (fun _ _ _ _ _ h => h) kx hcod hf h
    · exact h.elim)
  have hl3 := lv_entry (vs.map (mR E La)) (n := qL q) (by rw [margs_len]; exact hn)
  rw [margs_R] at hl3
  have hgo := hsim La s.heap [] 0 0 _ hw (fun _ => Nat.le_refl _) (fun _ _ _ _ => rfl) (margs_ok vs 0 hvs) (fun z hz => nomatch hz) (by rw [hF]; exact va_S.rf) hl3 (by dsimp only; omega) (by dsimp only; omega)
  rw [hF] at hgo
  rw [hargs, lg_entry_eq]
  rw [hargs] at hgo
  exact hgo
