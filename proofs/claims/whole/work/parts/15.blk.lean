section Sound2
variable {E : mEnv} {S : mStr} {F : mFr} {cc : ByteArray} {own : String} {nL mc ms d : Nat} {st0 : mS} {La0 : mLa}
variable {P : mPool} {M : mTbl} {TH : mThr} {rt : Nat} {ret : Option FieldType} {sg : mSig} {C : mCall} {J : mK} {Xx : Nat → Nat → mLs → Nat × Nat → mS → Prop} {post : mO → mS → Prop}
abbrev mKt (E : mEnv) (S : mStr) (F : mFr) (cc : ByteArray) (own : String) (nL mc ms : Nat) (st0 : mS) (La0 : mLa) (P : mPool) (TH : mThr) (post : mO → mS → Prop) : Prop :=
  ∀ (q : mMac) pc ls rem st x, q.1 ≠ 2 → macB own P S TH cc pc q = true → look2 P.2.2.2.1 q.2.1 = some x → (1 ≤ rem.1 ∧ 6 ≤ rem.2) → post (.inr x) st → mSim E F nL mc ms st0 La0 pc ls [] rem st
abbrev mKc (E : mEnv) (S : mStr) (F : mFr) (cc : ByteArray) (own : String) (nL mc ms : Nat) (st0 : mS) (La0 : mLa) (P : mPool) (TH : mThr) (sg : mSig) (C : mCall) : Prop :=
  ∀ (q : mMac) vs y pc ls stk rem st nx, q.1 = 2 → macB own P S TH cc pc q = true → mloads ls q.2.2.2.2 = some vs → look2 P.2.1 q.2.2.2.1 = some y → mroom (mr 99 0 :: stk) = true → (sg y).2.1 ≤ rem.1 → (sg y).2.2.1 ≤ rem.2 →
    C y vs st (fun out st' => match out with | .inl (some v) => nx ls (v :: stk) (rem.1 - (sg y).2.1, rem.2 - (sg y).2.2.1) st' | _ => False) → mKn E F nL mc ms st0 La0 (pc + macLen q) nx → mSim E F nL mc ms st0 La0 pc ls stk rem st
theorem blk_sound (X : mCtx E F cc own nL) (T : mTab E S (fS F)) (hR : mFits F d mc ms) (hO : mOK E S F own P M sg C d)
    (ki : mKi E F cc nL mc ms st0 La0 P sg C Xx) (ke : mKe E F cc nL mc ms st0 La0 P M rt ret sg C J Xx post) (kt : mKt E S F cc own nL mc ms st0 La0 P TH post) (kc : mKc E S F cc own nL mc ms st0 La0 P TH sg C)
    (kj : mKj E F nL mc ms st0 La0 J) (kx : mKx E F nL mc ms st0 La0 Xx) : ∀ (l : List mI) (pc : Nat), blkB own P M S TH cc rt ret nL pc l = true → ∀ ls stk rem st, mblk P rt sg C J Xx post l pc ls stk rem st → mSim E F nL mc ms st0 La0 pc ls stk rem st := by
  intro l
  induction l with
  | nil => intro pc _ ls stk rem st h; exact kj _ _ _ _ _ h
  | cons a r ih =>
    intro pc hb ls stk rem st h
    match a, hb, h with
    | .inl (i, n), hb, h =>
      have hb1 : (decB cc pc i n && iOK P M rt ret nL pc n i && blkB own P M S TH cc rt ret nL (pc + n) r) = true := hb
      rw [Bool.and_eq_true, Bool.and_eq_true] at hb1
      exact step_sound X T hR hO ki ke kj kx (of_decide_eq_true hb1.1.1) hb1.1.2 h (fun ls stk rem st g => ih _ hb1.2 ls stk rem st g)
    | .inr q, hb, h =>
      have hb1 : (macB own P S TH cc pc q && blkB own P M S TH cc rt ret nL (pc + macLen q) r) = true := hb
      rw [Bool.and_eq_true] at hb1
      obtain ⟨q1, q2⟩ := q
      by_cases e : q1 = 2
      · subst e
        have h0 : (match mloads ls q2.2.2.2, look2 P.2.1 q2.2.2.1 with
          | some vs, some y => cond (mroom (mr 99 0 :: stk)) ((sg y).2.1 ≤ rem.1 ∧ (sg y).2.2.1 ≤ rem.2 ∧ C y vs st (fun out st' => match out with
            | .inl (some v) => mblk P rt sg C J Xx post r (pc + macLen (2, q2)) ls (v :: stk) (rem.1 - (sg y).2.1, rem.2 - (sg y).2.2.1) st'
            | _ => False)) False
          | _, _ => False) := h
        cases e1 : mloads ls q2.2.2.2 with
        | none => rw [e1] at h0; exact h0.elim
        | some vs =>
          cases e2 : look2 P.2.1 q2.2.2.1 with
          | none => rw [e1, e2] at h0; exact h0.elim
          | some y =>
            rw [e1, e2] at h0
            obtain ⟨hr, b1, b2, h1⟩ := cond_inv h0
            exact kc (2, q2) vs y pc ls stk rem st (fun ls stk rem st => mblk P rt sg C J Xx post r (pc + macLen (2, q2)) ls stk rem st) rfl hb1.1 e1 e2 hr b1 b2 h1 (fun ls stk rem st g => ih _ hb1.2 ls stk rem st g)
      · have h0 : (match look2 P.2.2.2.1 q2.1 with
          | some x => cond (stk.isEmpty) ((1 ≤ rem.1 ∧ 6 ≤ rem.2) ∧ post (.inr x) st) False
          | none => False) := by
          match q1, e, h with
          | 0, _, h => exact h
          | 1, _, h => exact h
          | 2, e, _ => exact absurd rfl e
          | k + 3, _, h => exact h
        cases e2 : look2 P.2.2.2.1 q2.1 with
        | none => rw [e2] at h0; exact h0.elim
        | some x =>
          rw [e2] at h0
          obtain ⟨hs, hb2, h1⟩ := cond_inv h0
          cases List.isEmpty_iff.mp hs
          exact kt (q1, q2) pc ls rem st x e hb1.1 e2 hb2 h1
/-- a label's block -/
theorem mat_sound {cd : mCode} {hd : mHd} {WW : mK} (X : mCtx E F cc own nL) (T : mTab E S (fS F)) (hR : mFits F d mc ms) (hO : mOK E S F own P M sg C d)
    (ki : mKi E F cc nL mc ms st0 La0 P sg C (mexc hd WW post cd)) (ke : mKe E F cc nL mc ms st0 La0 P M rt ret sg C (mjmp cd WW) (mexc hd WW post cd) post) (kt : mKt E S F cc own nL mc ms st0 La0 P TH post) (kc : mKc E S F cc own nL mc ms st0 La0 P TH sg C)
    (kw : ∀ t ls stk rem st, WW t ls stk rem st → mSim E F nL mc ms st0 La0 t ls stk rem st) (kx : mKx E F nL mc ms st0 La0 (mexc hd WW post cd)) (hc : codB own P M S TH cc rt ret nL cd = true)
    {t : Nat} {ls : mLs} {stk : List mV} {rem : Nat × Nat} {st : mS} (h : mat P rt sg cd hd C WW post t ls stk rem st) : mSim E F nL mc ms st0 La0 t ls stk rem st := by
  have kj : mKj E F nL mc ms st0 La0 (mjmp cd WW) := by
    intro t ls stk rem st hj
    unfold mjmp at hj
    split at hj
    · rename_i lv l hf
      intro La H locs cells slots lsA hw hm he hl hs hS hls hc hsl
      exact kw _ _ _ _ _ hj La H locs cells slots lsA hw hm he (mproj_ok lv hl) hs hS (mproj_has hls lv) hc hsl
    · exact hj.elim
  have hfind : ∀ (cd : mCode) t lv l, mfind cd t = some (lv, l) → (t, lv, l) ∈ cd := by
    intro cd
    induction cd with
    | nil => intro t lv l h; cases h
    | cons b r ih =>
      intro t lv l h
      unfold mfind at h
      cases hb : Nat.beq b.1 t with
      | true =>
        rw [hb] at h
        have e : b.1 = t := Nat.eq_of_beq_eq_true hb
        have e2 : b.2 = (lv, l) := Option.some.inj h
        obtain ⟨b1, b2⟩ := b
        dsimp only at e e2
        subst e; subst e2
        exact List.mem_cons_self
      | false =>
        rw [hb] at h
        exact List.mem_cons_of_mem _ (ih t lv l h)
  unfold mat at h
  split at h
  · rename_i lv l hf
    have hb := List.all_eq_true.mp hc _ (hfind cd t lv l hf)
    exact blk_sound X T hR hO ki ke kt kc kj kx l t hb _ _ _ _ h
  · exact h.elim
end Sound2
