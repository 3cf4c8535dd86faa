/-! CHECKS over the tables: by their places among the words of the tables -/
def ixOf (l : List (Nat × Nat)) (x : Nat) : Nat := match lookC l x with
  | some i => i
  | none => 0
theorem look3_mem {l : List (Nat × Nat × Nat)} {x : Nat} {z : Nat × Nat} (h : look3 l x = some z) : (x, z) ∈ l := by
  induction l with
  | nil => cases h
  | cons q r ih =>
    unfold look3 at h
    cases hb : Nat.beq q.1 x with
    | true =>
      rw [hb] at h
      obtain ⟨q1, q2⟩ := q
      have e : q1 = x := Nat.eq_of_beq_eq_true hb
      have e2 : q2 = z := Option.some.inj h
      subst e; subst e2
      exact List.mem_cons_self
    | false =>
      rw [hb] at h
      exact List.mem_cons_of_mem _ (ih h)
theorem lookC_mem {α : Type} {l : List (Nat × α)} {x : Nat} {z : α} (h : lookC l x = some z) : (x, z) ∈ l := by
  induction l with
  | nil => cases h
  | cons q r ih =>
    unfold lookC at h
    cases hb : Nat.beq q.1 x with
    | true =>
      rw [hb] at h
      obtain ⟨q1, q2⟩ := q
      have e : q1 = x := Nat.eq_of_beq_eq_true hb
      have e2 : q2 = z := Option.some.inj h
      subst e; subst e2
      exact List.mem_cons_self
    | false =>
      rw [hb] at h
      exact List.mem_cons_of_mem _ (ih h)
theorem look2_mem {l : List (Nat × Nat)} {x z : Nat} (h : look2 l x = some z) : (x, z) ∈ l := by
  induction l with
  | nil => cases h
  | cons q r ih =>
    unfold look2 at h
    cases hb : Nat.beq q.1 x with
    | true =>
      rw [hb] at h
      obtain ⟨q1, q2⟩ := q
      have e : q1 = x := Nat.eq_of_beq_eq_true hb
      have e2 : q2 = z := Option.some.inj h
      subst e; subst e2
      exact List.mem_cons_self
    | false =>
      rw [hb] at h
      exact List.mem_cons_of_mem _ (ih h)
/-- places: of fields, casts, constants, long constants, calls (by pool numbers) -/
abbrev mIx : Type := List (Nat × Nat) × List (Nat × Nat) × List (Nat × Nat) × List (Nat × Nat) × List (Nat × Nat)
/-- places of Math's words: max's static, code; min's; initialized -/
def poolB (own : String) (P : mPool) (I : mIx) (M : mTbl) (mx : Nat × Nat × Nat × Nat × Nat) : Bool :=
  P.1.all (fun z => match vwCl[z.2.1]? with | some q => Nat.blt z.2.2 q.2.2 && atT (ixOf I.1 z.1) (.fieldLink own z.1 (q.2.1 z.2.2).1 (q.2.1 z.2.2).2.1 (q.2.1 z.2.2).2.2.1) | none => false) &&
  P.2.2.1.all (fun z => match vwCl[z.2]? with | some q => atT (ixOf I.2.1 z.1) (.classLink own z.1 q.1) | none => false) &&
  P.2.2.2.2.1.all (fun z => inB z.2 && atT (ixOf I.2.2.1 z.1) (.constant own z.1 (Int32.ofInt z.2))) &&
  P.2.2.2.2.2.all (fun z => atT (ixOf I.2.2.2.1 z.1) (.constantLong own z.1 z.2)) &&
  P.2.1.all (fun z => (match M z.2 with | some q => atT (ixOf I.2.2.2.2 z.1) (.methodLink own z.1 (qY q)) | none => true) &&
    (if z.2 = 401 then atT (ixOf I.2.2.2.2 z.1) (.methodLink own z.1 Lib.Math.max.name) && atT mx.1 (.static Lib.Math.max.name) && atT mx.2.1 (.code Lib.Math.max.name Lib.Math.max.code 2 (some .int)) && atT mx.2.2.2.2 (.initialized "java/lang/Math")
     else if z.2 = 402 then atT (ixOf I.2.2.2.2 z.1) (.methodLink own z.1 Lib.Math.min.name) && atT mx.2.2.1 (.static Lib.Math.min.name) && atT mx.2.2.2.1 (.code Lib.Math.min.name Lib.Math.min.code 2 (some .int)) && atT mx.2.2.2.2 (.initialized "java/lang/Math") else true))
theorem poolB_ok {own : String} {P : mPool} {I : mIx} {M : mTbl} {mx : Nat × Nat × Nat × Nat × Nat} (h : poolB own P I M mx = true) :
    poolOK own P ∧ (∀ x y q, look2 P.2.1 x = some y → M y = some q → Jvm.Cond.methodLink own x (qY q) ∈ lw_good) ∧
    (∀ x, look2 P.2.1 x = some 401 → mathOK own x Lib.Math.max.name Lib.Math.max.code) ∧ (∀ x, look2 P.2.1 x = some 402 → mathOK own x Lib.Math.min.name Lib.Math.min.code) := by
  unfold poolB at h
  simp only [Bool.and_eq_true] at h
  obtain ⟨⟨⟨⟨h1, h2⟩, h3⟩, h4⟩, h5⟩ := h
  refine ⟨⟨fun x ci j hl => ?_, fun x ci hl => ?_, fun x v hl => ?_, fun x v hl => ?_⟩, fun x y q hl hm => ?_, fun x hl => ?_, fun x hl => ?_⟩
  · have k := List.all_eq_true.mp h1 _ (look3_mem hl)
    dsimp only at k
    cases e : vwCl[ci]? with
    | none => rw [e] at k; exact absurd (show false = true from k) (by decide)
    | some q =>
      rw [e] at k
      obtain ⟨C, T, N⟩ := q
      have k2 : (Nat.blt j N && atT (ixOf I.1 x) (.fieldLink own x (T j).1 (T j).2.1 (T j).2.2.1)) = true := k
      rw [Bool.and_eq_true] at k2
      exact ⟨C, T, N, rfl, blt1 k2.1, atT_ok k2.2⟩
  · have k := List.all_eq_true.mp h2 _ (look2_mem hl)
    dsimp only at k
    cases e : vwCl[ci]? with
    | none => rw [e] at k; exact absurd (show false = true from k) (by decide)
    | some q =>
      rw [e] at k
      obtain ⟨C, T, N⟩ := q
      exact ⟨C, T, N, rfl, atT_ok k⟩
  · have k := List.all_eq_true.mp h3 _ (lookC_mem hl)
    dsimp only at k
    rw [Bool.and_eq_true] at k
    exact ⟨inB_ok k.1, atT_ok k.2⟩
  · exact atT_ok (List.all_eq_true.mp h4 _ (lookC_mem hl))
  · have k := List.all_eq_true.mp h5 _ (look2_mem hl)
    rw [Bool.and_eq_true] at k
    have k2 := k.1
    dsimp only at k2
    rw [hm] at k2
    exact atT_ok k2
  · have k := List.all_eq_true.mp h5 _ (look2_mem hl)
    rw [Bool.and_eq_true] at k
    have k2 := k.2
    dsimp only at k2
    rw [if_pos rfl] at k2
    simp only [Bool.and_eq_true] at k2
    exact ⟨atT_ok k2.1.1.1, atT_ok k2.1.1.2, atT_ok k2.2, atT_ok k2.1.2⟩
  · have k := List.all_eq_true.mp h5 _ (look2_mem hl)
    rw [Bool.and_eq_true] at k
    have k2 := k.2
    dsimp only at k2
    rw [if_neg (by decide), if_pos rfl] at k2
    simp only [Bool.and_eq_true] at k2
    exact ⟨atT_ok k2.1.1.1, atT_ok k2.1.1.2, atT_ok k2.2, atT_ok k2.1.2⟩
def thrL (own : String) (ic x : Nat) : List Jvm.Cond := if x = 4 then n4_at own ic else vx_atS own ic (mEx x) mNames
def thrB (own : String) (t : Nat × Nat × Nat) (i : Nat × Nat × List Nat) : Bool := atT i.1 (.classLink own t.1 (mEx t.2.2)) && atT i.2.1 (.initialized (mEx t.2.2)) && Bundle.fit (mEx t.2.2) &&
  Nat.beq (thrL own t.2.1 t.2.2).length i.2.2.length && ((thrL own t.2.1 t.2.2).zip i.2.2).all (fun z => decide (lw_tbl[z.2]? = some z.1) && (goodWord z.1 || isCastW z.1)) &&
  (Jvm.Cond.classLink own t.1 (mEx t.2.2) :: Jvm.Cond.initialized (mEx t.2.2) :: thrL own t.2.1 t.2.2).all vx_ot
theorem zip_all {α β : Type} {p : α × β → Bool} : ∀ {l : List α} {m : List β}, l.length = m.length → (l.zip m).all p = true → ∀ a ∈ l, ∃ b, p (a, b) = true
  | [], _, _, _, a, h => nomatch h
  | x :: l, [], e, _, _, _ => nomatch e
  | x :: l, y :: m, e, h, a, ha => by
    have h2 : (p (x, y) && (l.zip m).all p) = true := h
    rw [Bool.and_eq_true] at h2
    rcases List.mem_cons.mp ha with rfl | ha
    · exact ⟨y, h2.1⟩
    · exact zip_all (Nat.succ.inj e) h2.2 a ha
theorem thrB_ok {own : String} {t : Nat × Nat × Nat} {i : Nat × Nat × List Nat} (h : thrB own t i = true) : thrOK own t.1 t.2.1 t.2.2 := by
  unfold thrB at h
  simp only [Bool.and_eq_true] at h
  obtain ⟨⟨⟨⟨⟨h1, h2⟩, h3⟩, h4⟩, h5⟩, h6⟩ := h
  refine ⟨atT_ok h1, atT_ok h2, h3, fun w hw => ?_, fun w hw => List.all_eq_true.mp h6 w hw⟩
  obtain ⟨b, hb⟩ := zip_all (Nat.eq_of_beq_eq_true h4) h5 w hw
  rw [Bool.and_eq_true, Bool.or_eq_true] at hb
  exact ⟨List.mem_of_getElem? (of_decide_eq_true hb.1), hb.2⟩
/-- members and constructors that a pool calls, by their places -/
def ifB (own : String) (P : mPool) (I : List (Nat × Nat)) : Bool := P.2.1.all (fun z => (if 501 ≤ z.2 ∧ z.2 ≤ 506 then atT (ixOf I z.1) (.methodLink own z.1 (ifM z.2)) else true) && (if 601 ≤ z.2 ∧ z.2 ≤ 603 then atT (ixOf I z.1) (.methodLink own z.1 (ctM z.2)) else true))
theorem ifB_ok {own : String} {P : mPool} {I : List (Nat × Nat)} (h : ifB own P I = true) : ifOK own P := by
  intro x y hl
  have k := List.all_eq_true.mp h _ (look2_mem hl)
  dsimp only at k
  rw [Bool.and_eq_true] at k
  refine ⟨fun a b => ?_, fun a b => ?_⟩
  · have k1 := k.1
    rw [if_pos ⟨a, b⟩] at k1
    exact atT_ok k1
  · have k1 := k.2
    rw [if_pos ⟨a, b⟩] at k1
    exact atT_ok k1
