/-! CALLS: contracts of methods over worlds -/
def mRoom (d mc ms : Nat) : Room := { frames := d + 12, cells := mc, slots := ms, locals := 40 * d + 400 }
/-- exceptions by number -/
def mEx (x : Nat) : String := match x with
  | 1 => "java/lang/IllegalArgumentException"
  | 2 => "java/lang/IllegalStateException"
  | 3 => "java/lang/IndexOutOfBoundsException"
  | 4 => "java/util/NoSuchElementException"
  | 5 => "java/lang/UnsupportedOperationException"
  | _ => "java/lang/ArithmeticException"
/-- words of the tables that aren't good, but stay true -/
def isCastW (w : Jvm.Cond) : Bool := match w with
  | .castable _ _ => true
  | .declares _ => true
  | .methodLinkNest .. => true
  | _ => false
theorem castW_warm {w : Jvm.Cond} {s U : State} (hc : isCastW w = true) (hW : s.WarmedH U.vm) (h : va_Nw w s) : va_Nw w U := by
  cases w <;> first | (exact absurd (show false = true from hc) (by decide)) | exact va_Nw.warmD hW h | exact va_Nw.warmC hW h | exact va_Nw.warmM hW h
theorem castW_same {w : Jvm.Cond} {s U : State} (hc : isCastW w = true) (hv : s.vm = U.vm) (h : va_Nw w s) : va_Nw w U := by
  cases w <;> first | (exact absurd (show false = true from hc) (by decide)) | exact va_Nw.same rfl hv h
theorem castW_use {w : Jvm.Cond} {A : Array Value} {U : State} (hc : isCastW w = true) (h : va_Nw w U) : w.before A U = true := by
  cases w <;> first | (exact absurd (show false = true from hc) (by decide)) | exact va_Nw.use rfl h
/-- the list's members as the interface names them, and as the class does -/
def ifM (y : Nat) : MethodName := match y with
  | 501 => ⟨"java/util/List", "size", "()I"⟩
  | 502 => ⟨"java/util/List", "get", "(I)Ljava/lang/Object;"⟩
  | 503 => ⟨"java/util/List", "add", "(Ljava/lang/Object;)Z"⟩
  | 504 => ⟨"java/util/List", "add", "(ILjava/lang/Object;)V"⟩
  | 505 => ⟨"java/util/List", "remove", "(I)Ljava/lang/Object;"⟩
  | _ => ⟨"java/util/List", "clear", "()V"⟩
def arM (y : Nat) : MethodName := match y with
  | 501 => yJx4a65c_size_8abf5
  | 502 => yJx4a65c_get_915e3
  | 503 => yJx4a65c_add_9ea2d
  | 504 => yJx4a65c_add_7a177
  | 505 => yJx4a65c_remove_915e3
  | _ => yJx4a65c_clear_da8c8
theorem ifM_no (y : Nat) : (ifM y).cls ≠ "java/lang/invoke/MethodHandle" ∧ (ifM y).cls ≠ "java/lang/invoke/VarHandle" := by
  unfold ifM
  split <;> exact ⟨by decide, by decide⟩
/-- what calls through List need of the tables, and no reader of steady words carries -/
def mFws (U : State) : Prop := ∀ y, 501 ≤ y → y ≤ 506 → va_Fw "java/util/ArrayList" (ifM y) (arM y) U
theorem mFws.moved {u U : State} (hvm : u.vm.Alike U.vm) (h : mFws u) : mFws U := fun y a b => va_Fw.moved (ifM_no y) hvm (h y a b)
abbrev mStr : Type := List (String × Nat × String)
def mTab (E : mEnv) (S : mStr) (U : State) : Prop := va_K (eD E) vwCl (mTys E) U ∧ (va_X (eB E) (eL E) (eX E) U (eH E) ∧ eB E < eN E) ∧
  (vx_Zq Bundle.tN "UNASSIGNED_STACK" Bundle.steD (fun q => eN E ≤ q) U (eH E) ∧ vx_Zq Bundle.tN "SUPPRESSED_SENTINEL" Bundle.listD (fun q => eN E ≤ q) U (eH E)) ∧
  (∀ z ∈ S, ∃ sa : Nat, vk_R z.1 z.2.1 z.2.2 sa U) ∧ eN E = (eH E).size ∧ (∀ w ∈ lw_tbl, isCastW w = true → va_Nw w U) ∧
  (va_Z "java/util/ArrayList" "DEFAULTCAPACITY_EMPTY_ELEMENTDATA" "[Ljava/lang/Object;" (.ref (eE E)) (fun q => eN E ≤ q) U (eH E) ∧ eE E < eN E ∧ va_T (.object "java/lang/Object") (eE E) 0 (fun _ => .null) (fun q => eN E ≤ q) U (eH E)) ∧ (∃ mi : Nat, va_Mi "[Ljava/lang/Object;" mi U) ∧ (∀ x y, 1 ≤ x → x ≤ 6 → 1 ≤ y → y ≤ 6 → x ≠ y → va_Nc (mEx x) (mEx y) U) ∧ mFws U ∧ va_AO "java/lang/Object" U
theorem mTab.warm {E : mEnv} {S : mStr} {s U : State} (hW : s.WarmedH U.vm) (h : mTab E S s) : mTab E S U :=
  ⟨va_K.moved hW.alike h.1, ⟨va_X.moved hW.alike h.2.1.1, h.2.1.2⟩, ⟨vx_Zq.moved hW.alike h.2.2.1.1, vx_Zq.moved hW.alike h.2.2.1.2⟩, fun z hz => (h.2.2.2.1 z hz).imp fun _ q => q.warm hW, h.2.2.2.2.1, fun w hm hc => castW_warm hc hW (h.2.2.2.2.2.1 w hm hc), ⟨va_Z.moved hW.alike h.2.2.2.2.2.2.1.1, h.2.2.2.2.2.2.1.2.1, va_T.moved hW.alike h.2.2.2.2.2.2.1.2.2⟩, h.2.2.2.2.2.2.2.1.imp fun _ q => va_Mi.moved hW.alike q, fun x y a b c d n => va_Nc.moved hW.alike (h.2.2.2.2.2.2.2.2.1 x y a b c d n), mFws.moved hW.alike h.2.2.2.2.2.2.2.2.2.1, va_AO.moved hW.alike h.2.2.2.2.2.2.2.2.2.2⟩
theorem mTab.same {E : mEnv} {S : mStr} {s U : State} (hv : U.vm = s.vm) (h : mTab E S s) : mTab E S U :=
  ⟨va_K.moved (by rw [hv]; exact Vm.Alike.refl _) h.1, ⟨va_X.moved (by rw [hv]; exact Vm.Alike.refl _) h.2.1.1, h.2.1.2⟩, ⟨vx_Zq.moved (by rw [hv]; exact Vm.Alike.refl _) h.2.2.1.1, vx_Zq.moved (by rw [hv]; exact Vm.Alike.refl _) h.2.2.1.2⟩, fun z hz => (h.2.2.2.1 z hz).imp fun _ q => q.same hv, h.2.2.2.2.1, fun w hm hc => castW_same hc hv.symm (h.2.2.2.2.2.1 w hm hc), ⟨va_Z.moved (by rw [hv]; exact Vm.Alike.refl _) h.2.2.2.2.2.2.1.1, h.2.2.2.2.2.2.1.2.1, va_T.moved (by rw [hv]; exact Vm.Alike.refl _) h.2.2.2.2.2.2.1.2.2⟩, h.2.2.2.2.2.2.2.1.imp fun _ q => va_Mi.moved (by rw [hv]; exact Vm.Alike.refl _) q, fun x y a b c d n => va_Nc.moved (by rw [hv]; exact Vm.Alike.refl _) (h.2.2.2.2.2.2.2.2.1 x y a b c d n), mFws.moved (by rw [hv]; exact Vm.Alike.refl _) h.2.2.2.2.2.2.2.2.2.1, va_AO.moved (by rw [hv]; exact Vm.Alike.refl _) h.2.2.2.2.2.2.2.2.2.2⟩
def mPc (E : mEnv) (S : mStr) (st : mS) (La : mLa) (vs : List mV) : Array Value → State → Prop := va_Pc (vs.map (mR E La)) (fun U => mTab E S U ∧ mWorld E st La U.heap)
/-- the state behind, and what stays -/
def mEnd (E : mEnv) (st : mS) (La : mLa) (st' : mS) (La' : mLa) (s t : State) : Prop := mWorld E st' La' t.heap ∧ mMono st st' ∧ mExt st La La' ∧ va_F (fun q => eN E ≤ q) s t
def mQc (E : mEnv) (st : mS) (La : mLa) (post : mO → mS → Prop) : Array Value → State → Outcome → State → Prop := fun _ s o t =>
  ∃ (v : Option mV) (st' : mS) (La' : mLa), o = .returned (v.map (mR E La')) ∧ post (.inl v) st' ∧ (∀ w, v = some w → vOK st' w) ∧ mEnd E st La st' La' s t
def mXc (E : mEnv) (st : mS) (La : mLa) (post : mO → mS → Prop) : String → State → State → Prop := fun X s t =>
  ∃ (x : Nat) (st' : mS) (La' : mLa), X = mEx x ∧ post (.inr x) st' ∧ mEnd E st La st' La' s t
/-- a method: its name, its bytes, its locals, what it answers, how many values it takes, static or not, cells and slots, its class's place -/
abbrev mMeth : Type := MethodName × ByteArray × Nat × Option FieldType × Nat × Bool × Nat × Nat × Nat
abbrev qY (q : mMeth) : MethodName := q.1
abbrev qB (q : mMeth) : ByteArray := q.2.1
abbrev qL (q : mMeth) : Nat := q.2.2.1
abbrev qR (q : mMeth) : Option FieldType := q.2.2.2.1
abbrev qN (q : mMeth) : Nat := q.2.2.2.2.1
abbrev qS (q : mMeth) : Bool := q.2.2.2.2.2.1
abbrev qC (q : mMeth) : Nat := q.2.2.2.2.2.2.1
abbrev qT (q : mMeth) : Nat := q.2.2.2.2.2.2.2.1
abbrev qI (q : mMeth) : Nat := q.2.2.2.2.2.2.2.2
def qWs (q : mMeth) : List Jvm.Cond := .code (qY q) (qB q) (qL q) (qR q) :: lw_good
def mMet (E : mEnv) (S : mStr) (l : Launch) (q : mMeth) (d : Nat) (vs : List mV) (st : mS) (post : mO → mS → Prop) : Prop :=
  ∀ La : mLa, (∀ v ∈ vs, vOK st v) → vx_Met l (qY q) (qWs q) (mRoom d (qC q) (qT q)) (mPc E S st La vs) (mQc E st La post) (mXc E st La post) (qC q) (qT q) (fun a => eN E ≤ a)
/-- what the tables say of a method -/
def methOK (q : mMeth) : Prop := Jvm.Cond.code (qY q) (qB q) (qL q) (qR q) ∈ lw_good ∧ Jvm.Cond.initialized (qY q).cls ∈ lw_good ∧ plainName (qY q).cls = true ∧ ((qY q).cls ≠ "java/lang/invoke/MethodHandle" ∧ (qY q).cls ≠ "java/lang/invoke/VarHandle") ∧ qL q ≤ 21 ∧
  (if qS q = true then (parseMethodDescriptor (qY q).desc).map (fun d => d.parameters.length) = some (qN q) ∧ Jvm.Cond.static (qY q) ∈ lw_good
   else ∃ n, qN q = n + 1 ∧ (parseMethodDescriptor (qY q).desc).map (fun d => d.parameters.length) = some n ∧ Jvm.Cond.instanceMethod (qY q) ∈ lw_good ∧ Jvm.Cond.selects (qY q).cls (qY q) (qY q) ∈ lw_good ∧ ∃ T N, vwCl[qI q]? = some ((qY q).cls, T, N))
theorem qWs_good {q : mMeth} (h : Jvm.Cond.code (qY q) (qB q) (qL q) (qR q) ∈ lw_good) : GoodIn lw_good (qWs q) := by
  intro w hw
  rcases List.mem_cons.mp hw with rfl | hw
  · exact lw_good_good _ h
  · exact lw_good_good _ hw
theorem mPc_blind {E : mEnv} {S : mStr} {st : mS} {La : mLa} {vs : List mV} : FrameBlind (mPc E S st La vs) := by
  intro a U g mk h
  exact ⟨h.1, mTab.same (s := U) (U := U.calling g mk a) rfl h.2.1, h.2.2⟩
/-- the frame with an exception thrown over it -/
abbrev mWx (F : mFr) (H : Heap) (locs : List Loc) (cells slots : Nat) (g : JFrame) (q : Addr) : Prop := vx_W F.1 F.2.1 F.2.2.1 F.2.2.2.1 F.2.2.2.2.1 F.2.2.2.2.2.1 F.2.2.2.2.2.2.1 F.2.2.2.2.2.2.2.1 F.2.2.2.2.2.2.2.2.1 F.2.2.2.2.2.2.2.2.2.1 H locs cells slots F.2.2.2.2.2.2.2.2.2.2 g q
def mSimX (E : mEnv) (F : mFr) (nL mc ms : Nat) (st0 : mS) (La0 : mLa) (x pc : Nat) (ls : mLs) (rem : Nat × Nat) (st : mS) : Prop :=
  ∀ (La : mLa) (H : Heap) (locs : List Loc) (cells slots : Nat) (lsA : Array Slot) (rest : List Value) (q : Addr) (ce : Cell), mWorld E st La H → mMono st0 st → mExt st0 La0 La → (∀ q ∈ ls, vOK st q.2) →
    va_S (fun q => eN E ≤ q) (fS F).heap H locs → lv_has lsA nL (ls.map (fun q => (q.1, mR E La q.2))) → cells + rem.1 ≤ mc → slots + rem.2 ≤ ms → H[q]? = some ce → ce.vm = .none → (fS F).vm.findClass (mEx x) = some ce.cls → mWx F H locs cells slots (F0 (fM F) pc lsA rest) q
abbrev mKx (E : mEnv) (F : mFr) (nL mc ms : Nat) (st0 : mS) (La0 : mLa) (Xx : Nat → Nat → mLs → Nat × Nat → mS → Prop) : Prop := ∀ x pc ls rem st, Xx x pc ls rem st → mSimX E F nL mc ms st0 La0 x pc ls rem st
theorem mMono.trans {a b c : mS} (h1 : mMono a b) (h2 : mMono b c) : mMono a c := fun g => Nat.le_trans (h1 g) (h2 g)
theorem mExt.trans {a b : mS} {La Lb Lc : mLa} (hm : mMono a b) (h1 : mExt a La Lb) (h2 : mExt b Lb Lc) : mExt a La Lc := fun k i hi hk => (h2 k i (Nat.lt_of_lt_of_le hi (hm _)) hk).trans (h1 k i hi hk)
theorem mapR_ext {E : mEnv} {st : mS} {La La' : mLa} (h : mExt st La La') {vs : List mV} (hv : ∀ v ∈ vs, vOK st v) : vs.map (mR E La') = vs.map (mR E La) := List.map_congr_left fun v hm => mR_ext h (hv v hm)
theorem mapL_ext {E : mEnv} {st : mS} {La La' : mLa} (h : mExt st La La') {ls : mLs} (hv : ∀ q ∈ ls, vOK st q.2) : ls.map (fun q => (q.1, mR E La' q.2)) = ls.map (fun q => (q.1, mR E La q.2)) := List.map_congr_left fun q hm => by rw [mR_ext h (hv q hm)]
section Calls1
variable {E : mEnv} {S : mStr} {F : mFr} {cc : ByteArray} {own : String} {nL mc ms : Nat} {st0 : mS} {La0 : mLa}
variable {Xx : Nat → Nat → mLs → Nat × Nat → mS → Prop}
variable {pc : Nat} {ls : mLs} {rest : List mV} {rem : Nat × Nat} {st : mS} {nx : mLs → List mV → Nat × Nat → mS → Prop}
/-- behind a run of a callee -/
theorem call_fin {mc1 ms1 : Nat} {a : Array Value} {stR : List Value} (b1 : mc1 ≤ rem.1) (b2 : ms1 ≤ rem.2)
    (kn : mKn E F nL mc ms st0 La0 (pc + 3) nx) (kx : mKx E F nL mc ms st0 La0 Xx)
    {La : mLa} {H : Heap} {locs : List Loc} {cells slots : Nat} {lsA : Array Slot} (hm : mMono st0 st) (he : mExt st0 La0 La) (hl : ∀ q ∈ ls, vOK st q.2) (hs : ∀ v ∈ rest, vOK st v) (hS : va_S (fun q => eN E ≤ q) (fS F).heap H locs) (hls : lv_has lsA nL (ls.map (fun q => (q.1, mR E La q.2)))) (hc : cells + rem.1 ≤ mc) (hsl : slots + rem.2 ≤ ms)
    (hrun : vx_Run F.1 F.2.1 F.2.2.1 F.2.2.2.1 F.2.2.2.2.1 F.2.2.2.2.2.1 F.2.2.2.2.2.2.1 F.2.2.2.2.2.2.2.1 F.2.2.2.2.2.2.2.2.1 F.2.2.2.2.2.2.2.2.2.1 H locs cells slots mc1 ms1 (F0 (fM F) pc lsA stR) (rest.map (mR E La))
      (mQc E st La (fun out st' => match out with
        | .inl none => nx ls rest (rem.1 - mc1, rem.2 - ms1) st'
        | .inl (some v) => nx ls (v :: rest) (rem.1 - mc1, rem.2 - ms1) st'
        | .inr x => Xx x pc ls (rem.1 - mc1, rem.2 - ms1) st') a)
      (mXc E st La (fun out st' => match out with
        | .inl none => nx ls rest (rem.1 - mc1, rem.2 - ms1) st'
        | .inl (some v) => nx ls (v :: rest) (rem.1 - mc1, rem.2 - ms1) st'
        | .inr x => Xx x pc ls (rem.1 - mc1, rem.2 - ms1) st')) (fun a => eN E ≤ a)) :
    mW F H locs cells slots (F0 (fM F) pc lsA stR) := by
  intro T hT X
  rcases hrun T hT X with ⟨v, st₀, t, T', L, h0, X', hL, e1, e2, ⟨v', st', La', hv, hp, hok, ⟨hw', hm', he', hF⟩⟩, go⟩ | ⟨q, st₀, t, T', L, Ex, ce, h0, X', hL, e1, e2, ⟨x, st', La', hx, hp, ⟨hw', hm', he', hF⟩⟩, hce, hcv, hcl, go⟩
  · cases hv
    obtain ⟨k1, k2, k3⟩ := vx_keep h0 e1 hS (fun _ _ h => h) (fun _ h => h) hL hF
    have hs' : ∀ v ∈ rest, vOK st' v := fun v hv => (hs v hv).mono hm'
    have hl' : ∀ q ∈ ls, vOK st' q.2 := fun q hq => (hl q hq).mono hm'
    have hls' : lv_has lsA nL (ls.map (fun q => (q.1, mR E La' q.2))) := by rw [mapL_ext he' hl]; exact hls
    rw [← e1] at hw'
    cases v' with
    | none =>
      have h5 := kn _ _ _ _ hp La' T'.heap (locs ++ L) (cells + mc1) (slots + ms1) lsA hw' (hm.trans hm') (he.trans hm he') hl' hs' k3 hls' (by dsimp only; omega) (by dsimp only; omega)
      rw [mapR_ext he' hs] at h5
      obtain ⟨t2, a1, b1⟩ := h5 T' rfl X'
      exact ⟨t2, go t2 a1, b1⟩
    | some w =>
      have h5 := kn _ _ _ _ hp La' T'.heap (locs ++ L) (cells + mc1) (slots + ms1) lsA hw' (hm.trans hm') (he.trans hm he') hl' (ok_cons (hok w rfl) hs') k3 hls' (by dsimp only; omega) (by dsimp only; omega)
      rw [List.map_cons, mapR_ext he' hs] at h5
      obtain ⟨t2, a1, b1⟩ := h5 T' rfl X'
      exact ⟨t2, go t2 a1, b1⟩
  · obtain ⟨k1, k2, k3⟩ := vx_keep h0 e1 hS (fun _ _ h => h) (fun _ h => h) hL hF
    have hl' : ∀ q ∈ ls, vOK st' q.2 := fun q hq => (hl q hq).mono hm'
    have hls' : lv_has lsA nL (ls.map (fun q => (q.1, mR E La' q.2))) := by rw [mapL_ext he' hl]; exact hls
    rw [← e1] at hw' hce
    subst hx
    have h5 := kx _ _ _ _ _ hp La' T'.heap (locs ++ L) (cells + mc1) (slots + ms1) lsA (rest.map (mR E La)) q ce hw' (hm.trans hm') (he.trans hm he') hl' k3 hls' (by dsimp only; omega) (by dsimp only; omega) hce hcv hcl
    obtain ⟨t2, a1, b1⟩ := h5 T' rfl X'
    exact ⟨t2, go.trans a1, b1⟩
end Calls1
