/-! CONSTRUCTORS of the pure machine are what the constructors do -/
theorem mG_1 {k : Nat} (h : mG k = 1) : k = 1 ∨ k = 2 ∨ k = 3 ∨ k = 4 ∨ k = 5 ∨ k = 6 := by
  unfold mG at h
  split at h <;> first | omega | (split at h <;> omega)
theorem mG_2 {k : Nat} (h : mG k = 2) : k = 7 ∨ k = 8 := by
  unfold mG at h
  split at h <;> first | omega | (split at h <;> omega)
theorem mG_3 {k : Nat} (h : mG k = 3) : k = 9 ∨ k = 10 ∨ k = 11 := by
  unfold mG at h
  split at h <;> first | omega | (split at h <;> omega)
section LCtor
variable {p : Program} {l : Launch} {e : Env} {R : Room} {s : State} {m : MethodId} {args : Array Value} {below : List Frame} {meth : Method} {c : Code} {H : Heap} {locs : List Loc} {cells slots : Nat} {Q : State → Prop}
variable {E : mEnv} {S : mStr} {cc : ByteArray} {pc nL : Nat} {lsA : Array Slot} {rest : List Value} {A : Nat → Prop} {H0 : Heap}
/-- va_new of the kit, with where the new cell stands and what the others are -/
theorem mw_new {own C : String} {T : u_T} {N ci index : Nat} (X : lC E S p s m c cc nL args own) (hin : ∀ w ∈ u_ws C T N, w ∈ lw_good) (ty : Nat → FieldType) (hty : ∀ k, k < N → parseFieldDescriptor (T k).2.2.1 = some (ty k)) (hcl : Jvm.Cond.classLink own index C ∈ lw_good) (hinst : Jvm.Cond.instantiable C N ∈ lw_good) (hini : Jvm.Cond.initialized C ∈ lw_good)
    (hS : va_S A H0 H locs) (hc : vwCl[ci]? = some (C, T, N)) {fs : List Value} (hfs : ∀ j, j < N → defaultValue (ty j) = vp_V fs j) (hcells : cells + 1 ≤ R.cells) (hslots : slots + N ≤ R.slots) (hdg : decode cc pc = .ok (.new index, 3))
    (kk : ∀ H1 : Heap, va_at (eD E) vwCl (H.size, .inr (ci, fs)) H1 → H1.size = H.size + 1 → (∀ q : Nat, q < H.size → H1[q]? = H[q]?) → va_S A H0 H1 locs →
      W p l e R s m args below meth c H1 locs (cells + 1) (slots + N) Q (F0 m (pc + 3) lsA (.ref H.size :: rest))) : W p l e R s m args below meth c H locs cells slots Q (F0 m pc lsA rest) := by
  have hts := X.1.2.2.2.2
  have hKn := X.2.1.1.1 ci _ hc
  refine W.newcK X.1.1 X.1.2.1 X.1.2.2.2.1 (hts _ hcl) (hts _ hinst) (hts _ hini) rfl hdg hcells hslots hKn.2.1 rfl fun H1 kC hkC e1 z1 o1 => ?_
  exact kk H1 ⟨_, hc, (u_born ty hts hin hKn hkC e1 hty).to hfs⟩ z1 o1 ⟨Nat.le_trans hS.1 (by omega), fun x h1 h2 => (o1 x (Nat.lt_of_lt_of_le h1 hS.1)).trans (hS.2.1 x h1 h2), hS.2.2⟩
/-- the loads ahead of a constructor's call -/
theorem mw_loads {La : mLa} {ls : mLs} (hx : p.tables.exec = Jvm.exec) (hb : c.code = cc) (hls : lv_has lsA nL (ls.map (fun q => (q.1, mR E La q.2)))) : ∀ (ld : List (Instr × Nat)) (pc : Nat) (vs : List mV) (rest : List Value), loadsB cc pc ld = true → mloads ls ld = some vs →
    W p l e R s m args below meth c H locs cells slots Q (F0 m (pc + lensum ld) lsA ((vs.map (mR E La)).reverse ++ rest)) → W p l e R s m args below meth c H locs cells slots Q (F0 m pc lsA rest) := by
  intro ld
  induction ld with
  | nil =>
    intro pc vs rest hB hv kk
    cases hv
    exact kk
  | cons q r ih =>
    intro pc vs rest hB hv kk
    obtain ⟨i, n⟩ := q
    have hB1 : (decB cc pc i n && (match (generalizing := false) i with | .iload_n _ => Nat.beq n 1 | .iload _ => Nat.beq n 2 | .aload_n _ => Nat.beq n 1 | .aload _ => Nat.beq n 2 | _ => false) && loadsB cc (pc + n) r) = true := hB
    rw [Bool.and_eq_true, Bool.and_eq_true] at hB1
    obtain ⟨⟨h1, h2⟩, h3⟩ := hB1
    have hd : decode cc pc = .ok (i, n) := of_decide_eq_true h1
    have hlen : lensum ((i, n) :: r) = n + lensum r := by unfold lensum; rw [List.map_cons, List.sum_cons]
    rw [hlen, ← Nat.add_assoc] at kk
    have fin : ∀ (v : mV) (vs' : List mV), mloads ls r = some vs' → vs = v :: vs' → W p l e R s m args below meth c H locs cells slots Q (F0 m (pc + n) lsA (mR E La v :: rest)) := fun v vs' hv' ev => by
      subst ev
      refine ih (pc + n) vs' (mR E La v :: rest) h3 hv' ?_
      rw [List.map_cons, List.reverse_cons, List.append_assoc] at kk
      exact kk
    cases i with
    | iload_n k =>
      obtain rfl := beq1 (k := 1) h2
      have hv0 : (match mget ls k.val, mloads ls r with | some (.inl v), some vs => some (mi v :: vs) | _, _ => none) = some vs := hv
      split at hv0
      · rename_i v vs' e1 e2
        cases hv0
        exact lv_iload_n hx hb hd rfl (mhas_at hls e1) (fin _ _ e2 rfl)
      · cases hv0
    | iload k =>
      obtain rfl := beq1 (k := 2) h2
      have hv0 : (match mget ls k, mloads ls r with | some (.inl v), some vs => some (mi v :: vs) | _, _ => none) = some vs := hv
      split at hv0
      · rename_i v vs' e1 e2
        cases hv0
        exact lv_iload hx hb hd (mhas_at hls e1) (fin _ _ e2 rfl)
      · cases hv0
    | aload_n k =>
      obtain rfl := beq1 (k := 1) h2
      have hv0 : (match mget ls k.val, mloads ls r with | some (.inr (.inr (.inr (.inr v)))), some vs => some (mr v.1 v.2 :: vs) | _, _ => none) = some vs := hv
      split at hv0
      · rename_i v vs' e1 e2
        cases hv0
        exact lv_aload_n hx hb hd rfl (mhas_at hls e1) (fin _ _ e2 rfl)
      · cases hv0
    | aload k =>
      obtain rfl := beq1 (k := 2) h2
      have hv0 : (match mget ls k, mloads ls r with | some (.inr (.inr (.inr (.inr v)))), some vs => some (mr v.1 v.2 :: vs) | _, _ => none) = some vs := hv
      split at hv0
      · rename_i v vs' e1 e2
        cases hv0
        exact lv_aload hx hb hd (mhas_at hls e1) (fin _ _ e2 rfl)
      · cases hv0
    | _ => exact absurd (show false = true from h2) (by decide)
theorem lc_I {own : String} {q : mMeth} {x k mc ms b n : Nat} {Pc : Array Value → State → Prop} {Qc : Array Value → State → Outcome → State → Prop} {free : Addr → Prop} {As stk : List Value} (X : lC E S p s m c cc nL args own) (hq : Jvm.Cond.code (qY q) (qB q) (qL q) none ∈ lw_good ∧ Jvm.Cond.initialized (qY q).cls ∈ lw_good ∧ Jvm.Cond.instanceMethod (qY q) ∈ lw_good) (hr : qR q = none) (hnm : (qY q).name = "<init>") (hL : qL q ≤ 21) (hno : (qY q).cls ≠ "java/lang/invoke/MethodHandle" ∧ (qY q).cls ≠ "java/lang/invoke/VarHandle") (hpd : (parseMethodDescriptor (qY q).desc).map (fun d => d.parameters.length) = some n) (hlink : Jvm.Cond.methodLink own x (qY q) ∈ lw_good)
    (hM : Met l (qY q) (qWs q) (lR k mc ms) Pc Qc mc ms free) (hbl : FrameBlind Pc) (hp : ∀ U : State, U.heap = H → s.WarmedH U.vm → Pc (Value.ref b :: As).toArray U) (hn : As.length = n) (hls : lsA.size = nL) (hst : stk = As.reverse ++ .ref b :: rest) (hcat : (rest.map fun v => v.category).sum ≤ 8)
    (hk : k + 1 ≤ R.frames) (hlo : 40 * k + 40 ≤ R.locals) (hro : cells + mc ≤ R.cells ∧ slots + ms ≤ R.slots) (hdg : decode cc pc = .ok (.invokespecial x, 3)) : va_Run p l e R s m args below meth c H locs cells slots mc ms (F0 m pc lsA stk) rest (Qc (Value.ref b :: As).toArray) free := by
  have ht := X.1.2.2.2.2
  have hg : GoodIn lw_good (qWs q) := qWs_good (by rw [hr]; exact hq.1)
  have h7 : 8 + (qL q + 11) + 40 * k ≤ R.locals := by omega
  exact va_runI (Ts := lw_good) (own := own) (As := As) X.1 hM (cwI n ht hg (by unfold qWs; rw [hr]) rfl rfl (ht _ hq.2.1) (ht _ hlink) (ht _ hq.2.2) hnm ⟨hno.1, hno.2, hpd⟩ ⟨hk, h7⟩) ⟨hbl, hp⟩ rfl hn hls hst (lv_room hcat) hdg hro
end LCtor
