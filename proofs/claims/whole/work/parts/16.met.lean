/-! METHODS: what the pure machine says of a body is the method's contract -/
theorem mcat_12 (v : mV) : mcat v = 1 ∨ mcat v = 2 := by
  match v with
  | .inl z => exact Or.inl rfl
  | .inr (.inl z) => exact Or.inr rfl
  | .inr (.inr (.inl z)) => exact Or.inl rfl
  | .inr (.inr (.inr (.inl z))) => exact Or.inr rfl
  | .inr (.inr (.inr (.inr z))) => exact Or.inl rfl
theorem margs_R (E : mEnv) (La : mLa) : ∀ (vs : List mV) (n : Nat), lv_args n (vs.map (mR E La)) = (margs n vs).map (fun q => (q.1, mR E La q.2))
  | [], n => rfl
  | v :: r, n => by
    show (n, mR E La v) :: lv_args (if (mR E La v).category = 2 then n + 2 else n + 1) (r.map (mR E La)) = (n, mR E La v) :: (margs (n + mcat v) r).map (fun q => (q.1, mR E La q.2))
    rw [mcat_R, margs_R E La r]
    rcases mcat_12 v with h | h <;> rw [h] <;> rfl
theorem margs_len (E : mEnv) (La : mLa) : ∀ (vs : List mV), (lg_sl (vs.map (mR E La))).length = (vs.map mcat).sum
  | [] => rfl
  | v :: r => by
    have ih := margs_len E La r
    show ((if (mR E La v).category = 2 then [Slot.val (mR E La v), .second] else [Slot.val (mR E La v)]) ++ lg_sl (r.map (mR E La))).length = _
    rw [List.length_append, ih, List.map_cons, List.sum_cons, mcat_R]
    rcases mcat_12 v with h | h <;> rw [h] <;> rfl
theorem margs_ok {st : mS} : ∀ (vs : List mV) (n : Nat), (∀ v ∈ vs, vOK st v) → ∀ q ∈ margs n vs, vOK st q.2
  | [], _, _ => fun q hq => (nomatch hq)
  | v :: r, n, h => by
    intro q hq
    rcases List.mem_cons.mp hq with rfl | hq
    · exact h v List.mem_cons_self
    · exact margs_ok r _ (fun z hz => h z (List.mem_cons_of_mem _ hz)) q hq
def rtOf (ret : Option FieldType) : Nat := match ret with
  | some .boolean => 1
  | some .char => 2
  | _ => 0
/-- the pure side of a contract: what holds of every label, if it is closed under the blocks' steps, holds of the entry -/
def mBody (P : mPool) (sg : mSig) (cd : mCode) (C : mCall) (q : mMeth) (vs : List mV) (st : mS) (post : mO → mS → Prop) : Prop :=
  ∀ WW : mK, (∀ t ls stk rem st, mat P (rtOf (qR q)) sg cd [] C WW post t ls stk rem st → WW t ls stk rem st) → WW 0 (margs 0 vs) [] (qC q, qT q) st
def ctM (y : Nat) : MethodName := match y with
  | 601 => yX3_init
  | 602 => yX5_init
  | _ => yX4_init
/-- what the tables say of a pool's calls of members and constructors -/
def ifOK (own : String) (P : mPool) : Prop := ∀ x y, look2 P.2.1 x = some y → (501 ≤ y → y ≤ 506 → Jvm.Cond.methodLink own x (ifM y) ∈ lw_good) ∧ (601 ≤ y → y ≤ 603 → Jvm.Cond.methodLink own x (ctM y) ∈ lw_good)
/-- interface calls and constructors: what is owed of the primitive members -/
def primI (E : mEnv) (S : mStr) (sg : mSig) (l : Launch) : Prop := ∀ (F : mFr) (cc : ByteArray) (own : String) (nL mc ms d : Nat) (st0 : mS) (La0 : mLa) (P : mPool) (C : mCall) (Xx : Nat → Nat → mLs → Nat × Nat → mS → Prop),
  F.2.1 = l → mCtx E F cc own nL → mTab E S (fS F) → mFits F d mc ms → (∀ y vs st post, 500 ≤ y → C y vs st post → mPrim y vs st post) → poolOK own P → ifOK own P → mKi E F cc nL mc ms st0 La0 P sg C Xx
def primC (E : mEnv) (S : mStr) (sg : mSig) (l : Launch) (TH : String → mThr) : Prop := ∀ (F : mFr) (cc : ByteArray) (own : String) (nL mc ms d : Nat) (st0 : mS) (La0 : mLa) (P : mPool) (C : mCall),
  F.2.1 = l → mCtx E F cc own nL → mTab E S (fS F) → mFits F d mc ms → (∀ y vs st post, 500 ≤ y → C y vs st post → mPrim y vs st post) → poolOK own P → ifOK own P → mKc E S F cc own nL mc ms st0 La0 P (TH own) sg C
/-- what is checked once of a program: its methods, pools, code, throws -/
def mProg (M : mTbl) (Pl : String → mPool) (sg : mSig) (cd : Nat → mCode) (TH : String → mThr) (S : mStr) : Prop :=
  (∀ y q, M y = some q → y < 400 ∧ methOK q ∧ sg y = (qN q, qC q, qT q, qI q) ∧ codB (qY q).cls (Pl (qY q).cls) M S (TH (qY q).cls) (qB q) (rtOf (qR q)) (qR q) (qL q) (cd y) = true) ∧
  (∀ own, poolOK own (Pl own) ∧ (∀ x y q, look2 (Pl own).2.1 x = some y → M y = some q → Jvm.Cond.methodLink own x (qY q) ∈ lw_good) ∧
    (∀ x, look2 (Pl own).2.1 x = some 401 → mathOK own x Lib.Math.max.name Lib.Math.max.code) ∧ (∀ x, look2 (Pl own).2.1 x = some 402 → mathOK own x Lib.Math.min.name Lib.Math.min.code) ∧
    (∀ ik ic x, (ik, ic, x) ∈ TH own → thrOK own ik ic x) ∧ ifOK own (Pl own))
/-- calls, over worlds: methods by their contracts, members by what they do -/
def CCm (E : mEnv) (S : mStr) (l : Launch) (M : mTbl) (d : Nat) : mCall := fun y vs st post => if 500 ≤ y then mPrim y vs st post else match M y with
  | some q => mMet E S l q d vs st post
  | none => False
theorem met_of {E : mEnv} {S : mStr} {l : Launch} {M : mTbl} {Pl : String → mPool} {sg : mSig} {cd : Nat → mCode} {TH : String → mThr} (hp : mProg M Pl sg cd TH S) (hl : l.stackTraces = false) (hI : primI E S sg l) (hC : primC E S sg l TH)
    {y d : Nat} {q : mMeth} {vs : List mV} {st : mS} {post : mO → mS → Prop} (hy : M y = some q) (hn : (vs.map mcat).sum ≤ qL q) (hb : mBody (Pl (qY q).cls) sg (cd y) (CCm E S l M d) q vs st post) : mMet E S l q (d + 1) vs st post := by
  intro La hvs
  obtain ⟨hy4, hq, hsg, hcod⟩ := hp.1 y q hy
  obtain ⟨p1, p2, p3, p4, p5, p6⟩ := hp.2 (qY q).cls
  refine vx_ofW (cc := qB q) (maxL := qL q) (ret := qR q) hq.2.2.1 rfl ?_
  intro p e s m args below meth c s₁ B hml hnt hv
  obtain ⟨hargs, htab, hw⟩ := hv
  obtain ⟨F, hF⟩ : ∃ F : mFr, F = (p, l, e, mRoom (d + 1) (qC q) (qT q), s, m, args, below, meth, c, vx_MQ below (mQc E st La post) (mXc E st La post) args s (qC q) (qT q) (fun a => eN E ≤ a)) := ⟨_, rfl⟩
  have hwords : ∀ w ∈ lw_good, w.before args s = true := fun w hw => atoms_spec (ws := qWs q) B.pre w (List.mem_cons_of_mem _ hw)
  have X : mCtx E F (qB q) (qY q).cls (qL q) := by
    rw [hF]
    exact ⟨B.exec, B.bytes, hml, findClass_of_methodNamed B.named, hwords, htab.1, hw.1, htab.2.1.1, htab.2.1.2⟩
  have T : mTab E S (fS F) := by rw [hF]; exact htab
  have hR : mFits F d (qC q) (qT q) := by
    rw [hF]
    refine ⟨Nat.le_refl _, ?_, Nat.le_refl _, Nat.le_refl _⟩
    show 40 * d + 440 ≤ 40 * (d + 1) + 400
    rw [Nat.mul_add]
    exact Nat.le_refl _
  have hMF : mMF E S F (qB q) (qY q).cls (qL q) (qC q) (qT q) d st La post := ⟨X, T, hR, by rw [hF]; exact hl, by rw [hF]; exact B.notSynchronized, by rw [hF]⟩
  have hret : F.2.2.2.2.2.2.2.2.1.sig.returnType = qR q := by rw [hF]; exact B.returns
  have hFl : F.2.1 = l := by rw [hF]
  have hprim : ∀ y vs st post, 500 ≤ y → CCm E S l M d y vs st post → mPrim y vs st post := by
    intro y vs st post h5 h
    unfold CCm at h
    rw [if_pos h5] at h
    exact h
  have hO : mOK E S F (qY q).cls (Pl (qY q).cls) M sg (CCm E S l M d) d := by
    refine ⟨p1, p2, fun y q hm => (hp.1 y q hm).2.1, fun y q _ hm => (hp.1 y q hm).2.2.1, fun y q h4 hm vs st post h => ?_, p3, p4⟩
    unfold CCm at h
    rw [if_neg (by omega), hm] at h
    rw [hFl]
    exact h
  have ke : ∀ (WW : mK), mKe E F (qB q) (qL q) (qC q) (qT q) st La (Pl (qY q).cls) M (rtOf (qR q)) (qR q) sg (CCm E S l M d) (mjmp (cd y) WW) (mexc [] WW post (cd y)) post := by
    intro WW i pc ls stk rem st2 nx hi hd hok h
    cases i <;> first | (exact absurd (show false = true from hi) (by decide)) | skip
    · obtain ⟨-, hb⟩ := beq2 (n := 1) (k := 1) (b := refB (qR q)) hok
      cases hr : qR q with
      | none => rw [hr] at hb; exact absurd (show false = true from hb) (by decide)
      | some ty =>
        cases ty <;> first | (rw [hr] at hb; exact absurd (show false = true from hb) (by decide)) | skip
        exact sm_areturn hMF (hret.trans hr) hd h
    · obtain ⟨-, hb⟩ := beq2 (n := 1) (k := 1) (b := decide (qR q = some .double)) hok
      exact sm_dreturn hMF (hret.trans (of_decide_eq_true hb)) hd h
    · obtain ⟨-, hb⟩ := beq2 (n := 1) (k := 1) (b := decide (qR q = some .float)) hok
      exact sm_freturn hMF (hret.trans (of_decide_eq_true hb)) hd h
    · obtain ⟨-, hb⟩ := beq2 (n := 1) (k := 1) (b := decide (qR q = some (tyF (rtOf (qR q))))) hok
      exact sm_ireturn hMF (hret.trans (of_decide_eq_true hb)) rfl hd h
    · obtain ⟨-, hb⟩ := beq2 (n := 1) (k := 1) (b := decide (qR q = none)) hok
      exact sm_return_ hMF (hret.trans (of_decide_eq_true hb)) hd h
  have kt : mKt E S F (qB q) (qY q).cls (qL q) (qC q) (qT q) st La (Pl (qY q).cls) (TH (qY q).cls) post := by
    intro q9 pc ls rem st2 x hne hm hlk hbd hpo
    obtain ⟨k, ik, is, ic, ld⟩ := q9
    unfold macB at hm
    rw [Bool.and_eq_true, Bool.and_eq_true] at hm
    obtain ⟨⟨m1, m2⟩, m3⟩ := hm
    dsimp only at m1 m2 m3 hlk hne
    have hnt' : ∀ z ∈ (fC F).exceptionTable.toList, False := by rw [hF]; exact hnt
    match k, hne, m3 with
    | 0, _, m3 =>
      simp only [Bool.and_eq_true] at m3
      obtain ⟨⟨⟨⟨a1, a2⟩, a3⟩, a4⟩, a5⟩ := m3
      obtain ⟨⟨z1, z2, z3⟩, hz, hz2⟩ := List.any_eq_true.mp a4
      rw [Bool.and_eq_true] at hz2
      have e1 : z1 = (qY q).cls := by simpa using hz2.1
      have e2 : z2 = is := beq1 hz2.2
      subst e1; subst e2
      rw [hlk] at a5
      obtain ⟨⟨t1, t2, t3⟩, ht, ht2⟩ := List.any_eq_true.mp a5
      rw [Bool.and_eq_true, Bool.and_eq_true] at ht2
      have e3 : t1 = ik := beq1 ht2.1.1
      have e4 : t2 = ic := beq1 ht2.1.2
      have e5 : t3 = x := beq1 ht2.2
      subst e3; subst e4; subst e5
      exact sm_throw (wide := false) hMF hnt' (p5 _ _ _ ht) hz (of_decide_eq_true m1) (of_decide_eq_true m2) (by rw [if_neg (by decide)]; exact ⟨of_decide_eq_true a1, of_decide_eq_true a2, of_decide_eq_true a3⟩) hbd hpo
    | 1, _, m3 =>
      simp only [Bool.and_eq_true] at m3
      obtain ⟨⟨⟨⟨a1, a2⟩, a3⟩, a4⟩, a5⟩ := m3
      obtain ⟨⟨z1, z2, z3⟩, hz, hz2⟩ := List.any_eq_true.mp a4
      rw [Bool.and_eq_true] at hz2
      have e1 : z1 = (qY q).cls := by simpa using hz2.1
      have e2 : z2 = is := beq1 hz2.2
      subst e1; subst e2
      rw [hlk] at a5
      obtain ⟨⟨t1, t2, t3⟩, ht, ht2⟩ := List.any_eq_true.mp a5
      rw [Bool.and_eq_true, Bool.and_eq_true] at ht2
      have e3 : t1 = ik := beq1 ht2.1.1
      have e4 : t2 = ic := beq1 ht2.1.2
      have e5 : t3 = x := beq1 ht2.2
      subst e3; subst e4; subst e5
      exact sm_throw (wide := true) hMF hnt' (p5 _ _ _ ht) hz (of_decide_eq_true m1) (of_decide_eq_true m2) (by rw [if_pos rfl]; exact ⟨of_decide_eq_true a1, of_decide_eq_true a2, of_decide_eq_true a3⟩) hbd hpo
    | 2, hne, _ => exact absurd rfl hne
    | k + 3, _, m3 => exact absurd (show false = true from m3) (by decide)
  have kx : ∀ WW : mK, mKx E F (qL q) (qC q) (qT q) st La (mexc [] WW post (cd y)) := by
    intro WW x pc ls rem st2 h La2 H locs cells slots lsA rest q9 ce hw2 hm he hl2 hS hls hc hsl hce hcv hcl
    have h1 : post (.inr x) st2 := h
    rw [hF] at hS hcl ⊢
    exact vx_out (E := mEx x) (ce := ce) (fun z hz => (hnt z hz).elim) B.notSynchronized hce hcv hcl (fun t ht _ => ⟨x, st2, La2, rfl, h1, mEnd_of hw2 hm he hS ht⟩) hS.2.2 (by omega) (by omega)
  have hsim := hb (fun t ls stk rem st2 => mSim E F (qL q) (qC q) (qT q) st La t ls stk rem st2) (fun t ls stk rem st2 h =>
    mat_sound X T hR hO (hI F _ _ _ _ _ _ _ _ _ _ _ hFl X T hR hprim p1 p6) (ke _) kt (hC F _ _ _ _ _ _ _ _ _ _ hFl X T hR hprim p1 p6) (fun _ _ _ _ _ h => h) (kx _) hcod h)
  have hl3 := lv_entry (vs.map (mR E La)) (n := qL q) (by rw [margs_len]; exact hn)
  rw [margs_R] at hl3
  have hgo := hsim La s.heap [] 0 0 _ hw (fun _ => Nat.le_refl _) (fun _ _ _ _ => rfl) (margs_ok vs 0 hvs) (fun z hz => nomatch hz) (by rw [hF]; exact va_S.rf) hl3 (by dsimp only; omega) (by dsimp only; omega)
  rw [hF] at hgo
  rw [hargs, lg_entry_eq]
  rw [hargs] at hgo
  exact hgo
