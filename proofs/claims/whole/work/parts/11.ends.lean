/-! ENDS: what a method answers, what it throws; Math -/
theorem world_grow {E : mEnv} {st : mS} {La : mLa} {H H1 : Heap} (hw : mWorld E st La H) (hz : H.size ≤ H1.size) (ho : ∀ q, q < H.size → H1[q]? = H[q]?) : mWorld E st La H1 := by
  obtain ⟨hb, hf, cap, mdc, hl, hc, hinj⟩ := hw
  refine ⟨⟨Nat.le_trans hb.1 hz, fun q hq => by rw [ho q (Nat.lt_of_lt_of_le hq hb.1)]; exact hb.2 q hq⟩, hf, cap, mdc, hl, fun k i e he => ?_, hinj⟩
  obtain ⟨g1, g2⟩ := hc k i e he
  exact ⟨g1, g2.kept (ho _ g2.lt)⟩
def mNames : List String := ["java/lang/RuntimeException", "java/lang/Exception"]
/-- the words of a throw of NoSuchElementException, whose constructor links its super's by another number than the other classes' -/
def n4 : String := "java/util/NoSuchElementException"
def n4_b : ByteArray := ⟨#[0x2a, 0x2b, 0xb7, 0x00, 0x0d, 0xb1]⟩
def n4_at (own : String) (ic : Nat) : List Jvm.Cond := (Bundle.ownAtomsX own ic n4 13 n4_b mNames).filter vx_no
/-! A THROW whose constructor links its super by a number of its own (NoSuchElementException) -/
section Nsee
variable {p : Program} {l : Launch} {e : Env} {R : Room} {s : State} {m₀ : MethodId} {args : Array Value} {below : List Frame} {meth : Method} {c : Code} {W9 : State} {locs : List Loc} {cells slots : Nat}
/-- the new cell's four fields and the words' places -/
theorem nsee_sel {cls : String} {t : MethodName} {f id : MethodId} (X : Stand p l e R s m₀ args below meth c W9 locs cells slots) (hf : s.vm.findClass cls = some id.cls) (hn : s.methodNamed? t = some f) (hi : t.cls ≠ "java/lang/invoke/MethodHandle" ∧ t.cls ≠ "java/lang/invoke/VarHandle") (h : (Cond.selects cls t t).holds args s none s [] = true) :
    selectMethod e.platform s.vm id.cls f = .method f := by
  obtain ⟨k1, r1, r2, a1, a2, a3, a4, -⟩ := Cond.selects_spec h
  cases Option.some.inj (a1.symm.trans hf)
  cases Option.some.inj (a2.symm.trans (State.methodFound?_of_named hn hi))
  cases Option.some.inj (a3.symm.trans hn)
  rw [Launch.admits_selectMethod X.admits]
  exact a4
set_option maxHeartbeats 1000000 in
theorem nsee_run (X : Stand p l e R s m₀ args below meth c W9 locs cells slots) (hexec : p.tables.exec = Jvm.exec) (htr : e.platform.stackTraces = false) {own cls : String} {names : List String} {ic ix : Nat} {rx : ByteArray}
    (x0 : decode rx 0 = .ok (.aload_n 0, 1)) (x1 : decode rx 1 = .ok (.aload_n 1, 1)) (x2 : decode rx 2 = .ok (.invokespecial ix, 3)) (x5 : decode rx 5 = .ok (.return_, 1))
    (hown : s.vm.findClass own = some m₀.cls) (hcls : Bundle.fit cls = true) (hnames : ∀ n ∈ names, Bundle.fit n = true) (h : ∀ a ∈ Bundle.ownAtomsX own ic cls ix rx names, a.before args s = true)
    (hlocs : ∀ x ∈ locs, ∀ cell, s.heap[x.base]? = some cell → cell.vm.isStatics = false) {a : Addr} {cX : ClassId} {kX : Class} (hfX : s.vm.findClass cls = some cX) (hkX : s.vm.classes[cX]? = some kX)
    (hcell : W9.heap[a]? = some (freshCell cX kX)) (hnew : s.heap.size ≤ a) {msg : Value} (hmsg : msg.isRef = true) {g : JFrame} (hg : g.method = m₀) (hsize : g.locals.size = c.maxLocals) (hlocked : g.locked = none) (hentered : g.entered = [])
    {rest : List Value} (hstack : g.stack = msg :: .ref a :: .ref a :: rest) (hd6 : decode c.code g.pc = .ok (.invokespecial ic, 3)) (hd9 : decode c.code (g.pc + 3) = .ok (.athrow, 1)) (hout : ∀ x ∈ c.exceptionTable.toList, covers x (g.pc + 3) = false)
    (hRf : names.length + 3 < R.frames) (hRl : 2 * g.monitorRoom + ((Value.ref a :: rest).map fun v => v.category).sum + (13 * (names.length + 1) + 42) ≤ R.locals) (hlocks : meth.locks = false) :
    ∃ U : State, Steps p.tables e below (W9.setTop g) U ∧ U.status = .running ∧ Ended U below (.threw a) ∧ s.WarmedH U.vm ∧ s.sameButNew ({ U with vm := s.vm } : State) locs cells slots ∧ ∃ ce, U.heap[a]? = some ce ∧ ce.cls = cX ∧ ce.vm = .none := by
  have hpl : e.platform.magicAccessors = ({} : Platform).magicAccessors := by rw [X.admits.platform]
  have hw : ∀ x, x ∈ Bundle.ownAtomsX own ic cls ix rx names → x.holds args s none s [] = true := fun x hx => h x hx
  obtain ⟨T, Z0, L, -, Y⟩ := ThrowableC.of_atoms (args := args) (by rw [X.admits.platform]) (by rw [X.admits.platform]) hpl (fun x hx => h x (by simp [Bundle.ownAtomsX, hx]))
  obtain ⟨Z, M, LZ, LM, hnZ⟩ := Init0T.ofS_atoms (args := args) hpl L Y (fun x hx => h x (by simp [Bundle.ownAtomsX, hx]))
  obtain ⟨P1, Ps, hlen, L1, hL, hP1, hl1, hl2⟩ := Bundle.chainSX (args := args) hpl hnZ x0 x1 x2 x5 names cls hcls hnames (fun x hx => h x (by simp [Bundle.ownAtomsX, hx]))
  have hf1 := findClass_of_methodNamed hP1
  cases Option.some.inj (hfX.symm.trans hf1)
  obtain ⟨c1, k1, hc1, hk, hord, -, -, -⟩ := Cond.instantiable_spec (hw (.instantiable cls 6) (by simp [Bundle.ownAtomsX]))
  cases Option.some.inj (hc1.symm.trans hf1)
  cases Option.some.inj (hkX.symm.trans hk)
  have s1 := nsee_sel X hf1 Y.fill0 (by decide) (hw (.selects cls Bundle.tFill0 Bundle.tFill0) (by simp [Bundle.ownAtomsX]))
  have s2 := nsee_sel X hf1 Y.fill (by decide) (hw (.selects cls Bundle.tFill Bundle.tFill) (by simp [Bundle.ownAtomsX]))
  -- the two static rows
  obtain ⟨cS0, hS0, hiss⟩ := Y.statics
  obtain ⟨u0, hu0⟩ := Cond.staticRefV Y.unassigned L.unassignedStatic L.statics hS0 hiss (hw (.isRef (.static Bundle.tN "UNASSIGNED_STACK" Bundle.steD)) (by simp [Bundle.ownAtomsX]))
  obtain ⟨sen, hsen⟩ := Cond.staticRefV Y.sentinel L.sentinelStatic L.statics hS0 hiss (hw (.isRef (.static Bundle.tN "SUPPRESSED_SENTINEL" Bundle.listD)) (by simp [Bundle.ownAtomsX]))
  obtain ⟨cS, hS, heS, -, hkeep⟩ := X.same.2.2.2.2.2 T.aS cS0 hS0
  have hfar : ∀ i, (⟨T.aS, i⟩ : Loc) ∉ locs := fun i hm => by
    have := hlocs _ hm cS0 hS0
    rw [hiss] at this
    cases this
  have hS' : W9.heap[T.aS]? = some cS := hS
  have hvm : cS.vm = cS0.vm := by rw [heS]
  have hkn : cS.vm ≠ .unknown := fun hu => by
    rw [hvm] at hu
    rw [hu] at hiss
    cases hiss
  have hne : T.aS ≠ a := Nat.ne_of_lt (Nat.lt_of_lt_of_le (Array.getElem?_eq_some_iff.mp hS0).1 hnew)
  -- the fields
  obtain ⟨i198, j198, fB, q1, q2, q3, q4, -, q5, q6, hB⟩ := Cond.ownField (t := .object "java/lang/Object") Y.found L.cls (by decide +kernel) (hw (.fieldLink Bundle.tN 198 Bundle.tN "backtrace" "Ljava/lang/Object;") (by simp [Bundle.ownAtomsX])) (hw (.lays Bundle.tN Bundle.tN "backtrace" "Ljava/lang/Object;") (by simp [Bundle.ownAtomsX])) e.platform hpl
  obtain ⟨iM, hffM⟩ := Y.msg
  obtain ⟨tC, dC, eC, nC⟩ := Cond.laysAt hf1 hk Y.cause (hw (.lays cls Bundle.tN "cause" "Ljava/lang/Throwable;") (by simp [Bundle.ownAtomsX]))
  obtain ⟨tS, dS, eS, nS⟩ := Cond.laysAt hf1 hk Y.stack (hw (.lays cls Bundle.tN "stackTrace" Bundle.steD) (by simp [Bundle.ownAtomsX]))
  obtain ⟨tP, dP, eP, nP⟩ := Cond.laysAt hf1 hk Y.supp (hw (.lays cls Bundle.tN "suppressedExceptions" Bundle.listD) (by simp [Bundle.ownAtomsX]))
  obtain ⟨tM, dM, eM, nM⟩ := Cond.laysAt hf1 hk hffM (hw (.lays cls Bundle.tN "detailMessage" "Ljava/lang/String;") (by simp [Bundle.ownAtomsX]))
  obtain ⟨tB, dB, eB, nB⟩ := Cond.laysAt hf1 hk hB (hw (.lays cls Bundle.tN "backtrace" "Ljava/lang/Object;") (by simp [Bundle.ownAtomsX]))
  have bC := Cond.laysApart eB eC nB nC (by rw [q5, Y.causeName]; decide)
  have bS := Cond.laysApart eB eS nB nS (by rw [q5, Y.stackName]; decide)
  have bP := Cond.laysApart eB eP nB nP (by rw [q5, Y.suppName]; decide)
  have hskip : SkipFacts T e.platform s (fun u => u) u0 ((preparedCellV T.toThrowableT (freshCell P1.m.cls kX) a u0 sen).withEntry W9.cur) := by
    refine ⟨{ ci198 := i198, i198 := j198, fBack := fB }, ⟨q1, q2, q3, q4⟩, ?_, fun _ _ => rfl⟩
    have hd := fresh_default (c := P1.m.cls) tB
    rw [q6] at hd
    simpa [preparedCellV, Cell.setSlot, Cell.withEntry, Array.getElem?_setIfInBounds, bC, bS, bP, bC.symm, bS.symm, bP.symm, defaultValue] using hd
  -- the call of the constructor, its run, the throw
  obtain ⟨tm, -, -, -, v1, hnC, -, -, -, -, -, -, -, hW1, st1⟩ := Steps.initColdS (tb := p.tables) (e := e) (below := below) (s := s) (U := W9) X.here hexec X.warmed hpl hown (t := Bundle.initS cls) rfl rfl (Bundle.fit_spec hcls).2
    (hw (.methodLink own ic (Bundle.initS cls)) (by simp [Bundle.ownAtomsX])) (h (.instanceMethod (Bundle.initS cls)) (by cases names <;> simp [Bundle.ownAtomsX, Bundle.chainSAtomsX, Bundle.passSAtoms])) (bytes := rx) (maxL := 2) (h (.code (Bundle.initS cls) rx 2 none) (by cases names <;> simp [Bundle.ownAtomsX, Bundle.chainSAtomsX, Bundle.passSAtoms]))
    (f := g) hg (a := a) (msg := msg) (rest := .ref a :: rest) hstack hd6
  cases Option.some.inj (hnC.symm.trans hP1)
  obtain ⟨v2, X2, st2⟩ := (X.noted hW1).ctorMessageOffV hexec (g := { g with stack := .ref a :: rest }) hg hsize T L Z LZ M LM (P1 :: Ps) (fun P hP => (List.mem_cons.mp hP).elim (fun e => by rw [e]; exact L1) (hL P)) ⟨hl1, hl2⟩ (u0 := u0) (sen := sen) (self := a) hmsg (cell := freshCell P1.m.cls kX) (cellS := cS)
    hcell (fun _ => by simp) (by simp) rfl rfl s1 s2 hS' hne hkn (by rw [hkeep _ (hfar _)]; exact hu0) (by rw [hkeep _ (hfar _)]; exact hsen)
    (Takes.of_laid hk hord tC (by rw [Y.causeType]; rfl)) (Takes.of_laid hk hord tS (by rw [Y.stackType]; exact fits_refV_array _ u0)) (Takes.of_laid hk hord tP (by rw [Y.suppType]; exact fits_refV_object _ sen)) (Takes.of_laid hk hord tM (by rw [Y.msgType]; exact fits_refV_object _ ⟨msg, hmsg⟩)) Y.objLocals hskip htr [] hd6
    (by simp only [List.length_cons, hlen]; omega) (by simp only [List.length_cons, hlen]; exact hRl)
  obtain ⟨g1, g2, g3, g4, g5⟩ := X2.athrowLeaves hexec (g := { g with stack := .ref a :: rest, pc := g.pc + 3 }) hg hlocked hentered hout (a := a) (rest := rest) rfl hd9 hlocks
  have hlt : a < ((W9.setVm v1).setVm v2).heap.size := (Array.getElem?_eq_some_iff.mp hcell).1
  refine ⟨_, st1 _ (fun acts => by rw [doInvoke_state]; exact st2 _ g1), g2, g3, g4, g5.weaken (fun y hy hy2 => ?_) (Nat.le_refl _) (Nat.le_refl _), _, heapAt_setCell_self (s := (W9.setVm v1).setVm v2) (plainBareV T.toThrowableT (freshCell P1.m.cls kX) a u0 sen msg) hlt, rfl, rfl⟩
  refine (List.mem_append.mp hy).elim id (fun h1 => ?_)
  exfalso
  have hb : y.base = a := by
    simp only [List.mem_cons, List.not_mem_nil, or_false] at h1
    rcases h1 with rfl | rfl | rfl | rfl | rfl <;> rfl
  rw [hb] at hy2
  exact Nat.not_lt.mpr hnew hy2
end Nsee
section Nsee2
variable {p : Program} {l : Launch} {e : Env} {R : Room} {s : State} {m : MethodId} {args : Array Value} {below : List Frame} {meth : Method} {c : Code} {H : Heap} {locs : List Loc} {cells slots : Nat} {free : Addr → Prop} {ls : Array Slot} {rest : List Value}
variable {Qc : Array Value → State → Outcome → State → Prop} {XC : String → State → State → Prop}
/-- 'throw new NoSuchElementException("text")' -/
theorem nsee_throw {cc : ByteArray} {pc : Nat} {wide : Bool} (hexec : p.tables.exec = Jvm.exec) (hb : c.code = cc) (hl : l.stackTraces = false) {own text : String} {ik is ic mc ms sa : Nat} {A : Nat → Prop}
    (hown : s.vm.findClass own = some m.cls) (hk : (Cond.classLink own ik n4).before args s = true) (hini : (Cond.initialized n4).before args s = true) (hstr : vk_R own is text sa s) (hat : ∀ w ∈ n4_at own ic, w.before args s = true)
    (hgood : ∀ w ∈ Cond.classLink own ik n4 :: Cond.initialized n4 :: n4_at own ic, vx_ot w = true)
    (hU : vx_Zq Bundle.tN "UNASSIGNED_STACK" Bundle.steD A s s.heap) (hN : vx_Zq Bundle.tN "SUPPRESSED_SENTINEL" Bundle.listD A s s.heap) (hS : va_S A s.heap H locs) (hsize : ls.size = c.maxLocals)
    (d0 : decode cc pc = .ok (.new ik, 3)) (d3 : decode cc (pc + 3) = .ok (.dup, 1))
    (d4 : if wide = true then decode cc (pc + 4) = .ok (.ldc_w is, 3) ∧ decode cc (pc + 7) = .ok (.invokespecial ic, 3) ∧ decode cc (pc + 10) = .ok (.athrow, 1) else decode cc (pc + 4) = .ok (.ldc is, 2) ∧ decode cc (pc + 6) = .ok (.invokespecial ic, 3) ∧ decode cc (pc + 9) = .ok (.athrow, 1))
    (hnt : ∀ z ∈ c.exceptionTable.toList, False)
    (hRf : 5 < R.frames) (hRl : (rest.map fun v => v.category).sum + 82 ≤ R.locals) (hRc : cells + 1 ≤ R.cells) (hRs : slots + 6 ≤ R.slots) (hlocks : meth.locks = false)
    (hx : ∀ t : State, s.vm.Alike t.vm → H.size ≤ t.heap.size → (∀ q : Nat, q < H.size → t.heap[q]? = H[q]?) → XC n4 s t)
    (hf : ∀ z ∈ locs, free z.base) (hc : cells + 1 ≤ mc) (hs : slots + 6 ≤ ms) :
    W p l e R s m args below meth c H locs cells slots (vx_MQ below Qc XC args s mc ms free) (F0 m pc ls rest) := by
  intro T hT X
  have htr : e.platform.stackTraces = false := (show e.platform.stackTraces = l.stackTraces by rw [X.admits.platform]).trans hl
  have Y := vx_rebase X (R' := { frames := R.frames, locals := R.locals, cells := 1, slots := 6 }) (Nat.le_refl _) (Nat.le_refl _) hRc hRs
  obtain ⟨s', hA⟩ : ∃ z, z = (T.setVm s.vm).setFrames (.invoking m args :: below) := ⟨_, rfl⟩
  rw [← hA] at Y
  have hvm : s'.vm = s.vm := by rw [hA]; rfl
  have hhp : s'.heap = H := by rw [hA]; exact hT
  have hW0 : s.WarmedH s'.vm := by rw [hvm]; exact State.WarmedH.refl s
  have to : ∀ w, vx_ot w = true → w.before args s = true → w.before args s' = true := fun w g b => vx_ot_at hW0 hvm.symm g b
  have hU' : vx_Zq Bundle.tN "UNASSIGNED_STACK" Bundle.steD A s' s'.heap := by rw [hhp]; exact vx_Zq.moved hW0.alike (hU.kept hS.2.1)
  have hN' : vx_Zq Bundle.tN "SUPPRESSED_SENTINEL" Bundle.listD A s' s'.heap := by rw [hhp]; exact vx_Zq.moved hW0.alike (hN.kept hS.2.1)
  have h : ∀ w ∈ Bundle.ownAtomsX own ic n4 13 n4_b mNames, w.before args s' = true := vx_own (fun w hw => to w (hgood w (List.mem_cons_of_mem _ (List.mem_cons_of_mem _ hw))) (hat w hw)) (vx_isRefq hU'.1) (vx_isRefq hN'.1) hU'.2.word hN'.2.word
  have hown' : s'.vm.findClass own = some m.cls := by rw [hvm]; exact hown
  obtain ⟨v1, cX, kX, hfX, hkX, -, -, X1, st1⟩ := Y.newCold hexec (own := own) (C := n4) (index := ik) (n := 6) hown' (to _ (hgood _ List.mem_cons_self) hk) (h _ (by simp [Bundle.ownAtomsX])) (to _ (hgood _ (List.mem_cons_of_mem _ List.mem_cons_self)) hini)
    (g := F0 m pc ls rest) rfl (by rw [hb]; exact d0) (Nat.le_refl _) (Nat.le_refl _)
  generalize hT1 : (T.setVm v1).pushCell { cls := cX, slots := kX.instanceTypes.map defaultValue, vm := .none } = T1 at X1 st1
  have hcat : (Value.ref T.heap.size).category = 1 := rfl
  have hnewC : T1.heap[T.heap.size]? = some (freshCell cX kX) := by rw [← hT1]; exact State.heap_pushCell_size _ _
  have d3' : decode c.code (pc + 3) = .ok (.dup, 1) := by rw [hb]; exact d3
  have hstr' : vk_R own is text sa s' := vk_R.warm hW0 hstr
  have run := fun (k : Nat) (e6 : decode c.code k = .ok (.invokespecial ic, 3)) (e9 : decode c.code (k + 3) = .ok (.athrow, 1)) =>
    nsee_run X1 hexec htr (own := own) (cls := n4) (names := mNames) (ic := ic) (ix := 13) (rx := n4_b) (by decide +kernel) (by decide +kernel) (by decide +kernel) (by decide +kernel) hown' (by decide +kernel) (by decide +kernel) h (fun x hx => nomatch hx) hfX hkX hnewC (by rw [hhp, hT]; exact Nat.le_refl _) (msg := .ref sa) rfl
    (g := { method := m, pc := k, locals := ls, stack := .ref sa :: .ref T.heap.size :: .ref T.heap.size :: rest, locked := none }) rfl hsize rfl rfl (rest := rest) rfl e6 e9 (fun z hz => (hnt z hz).elim) hRf
    (by simp only [List.map_cons, List.sum_cons, hcat]; show 2 * 0 + (1 + (rest.map fun v => v.category).sum) + (13 * (2 + 1) + 42) ≤ R.locals; omega) hlocks
  have fin : ∀ U : State, (∀ target, target = U → Steps p.tables e below (T.setTop (F0 m pc ls rest)) target) → U.status = .running → Ended U below (.threw T.heap.size) → s'.WarmedH U.vm → s'.sameButNew ({ U with vm := s'.vm } : State) [] (0 + 1) (0 + 6) → (∃ ce, U.heap[T.heap.size]? = some ce ∧ ce.cls = cX ∧ ce.vm = .none) →
      ∃ t, Steps p.tables e below (T.setTop (F0 m pc ls rest)) t ∧ vx_MQ below Qc XC args s mc ms free t := fun U go hrun hend hW hsame hce => by
    obtain ⟨ce, c1, c2, c3⟩ := hce
    obtain ⟨f1, f2⟩ := vx_frame hsame
    rw [hhp] at f1 f2
    have hWs : s.WarmedH U.vm := State.WarmedH.trans hW0 hW
    have hcl : s.vm.findClass n4 = some ce.cls := by rw [c2, ← hvm]; exact hfX
    have hall : s.sameButNew ({ U with vm := s.vm } : State) locs mc ms := by
      subst hA
      obtain ⟨e1, e2⟩ := hsame
      rw [State.setFrames_setFrames] at e1
      have h2 : (T.setVm s.vm).sameButNew ({ U with vm := s.vm } : State) [] (0 + 1) (0 + 6) := ⟨e1, e2⟩
      have h3 := X.same.trans h2
      rw [List.append_nil] at h3
      exact h3.mono hc hs
    exact ⟨U, go U rfl, .threw T.heap.size, hrun, hend, Or.inr ⟨T.heap.size, rfl, n4, ce, locs, hx U hWs.alike f1 (fun q hq => f2 q hq (fun z hz => nomatch hz)), c1, c3, hcl, hWs, hall, hf⟩⟩
  cases wide with
  | false =>
    rw [if_neg (by decide)] at d4
    obtain ⟨d4, d6, d9⟩ := d4
    have d4' : decode c.code (pc + 4) = .ok (.ldc is, 2) := by rw [hb]; exact d4
    obtain ⟨U, hsteps, hrun, hend, hW, hsame, hce⟩ := run (pc + 6) (by rw [hb]; exact d6) (by rw [hb]; exact d9)
    refine fin U (fun target e => ?_) hrun hend hW hsame hce
    subst e
    refine st1 _ ?_
    show Steps p.tables _ below (T1.setTop { method := m, pc := pc + 3, locals := ls, stack := .ref T.heap.size :: rest, locked := none }) _
    jvm_step X1.here [X1.here.top, hexec, d3', Value.category]
    exact X1.ldcString hexec (own := own) (text := text) (index := is) (a := sa) hown' hstr'.1 hstr'.2
      (g := { method := m, pc := pc + 4, locals := ls, stack := .ref T.heap.size :: .ref T.heap.size :: rest, locked := none }) rfl d4' _ hsteps
  | true =>
    rw [if_pos rfl] at d4
    obtain ⟨d4, d6, d9⟩ := d4
    have d4' : decode c.code (pc + 4) = .ok (.ldc_w is, 3) := by rw [hb]; exact d4
    obtain ⟨U, hsteps, hrun, hend, hW, hsame, hce⟩ := run (pc + 7) (by rw [hb]; exact d6) (by rw [hb]; exact d9)
    refine fin U (fun target e => ?_) hrun hend hW hsame hce
    subst e
    refine st1 _ ?_
    show Steps p.tables _ below (T1.setTop { method := m, pc := pc + 3, locals := ls, stack := .ref T.heap.size :: rest, locked := none }) _
    jvm_step X1.here [X1.here.top, hexec, d3', Value.category]
    exact X1.ldcStringW hexec (own := own) (text := text) (index := is) (a := sa) hown' hstr'.1 hstr'.2
      (g := { method := m, pc := pc + 4, locals := ls, stack := .ref T.heap.size :: .ref T.heap.size :: rest, locked := none }) rfl d4' _ hsteps
end Nsee2
/-- what the tables say of a throw -/
def thrOK (own : String) (ik ic x : Nat) : Prop := Jvm.Cond.classLink own ik (mEx x) ∈ lw_good ∧ Jvm.Cond.initialized (mEx x) ∈ lw_good ∧ Bundle.fit (mEx x) = true ∧ (∀ w ∈ (if x = 4 then n4_at own ic else vx_atS own ic (mEx x) mNames), w ∈ lw_tbl ∧ (goodWord w = true ∨ isCastW w = true)) ∧
  (∀ w ∈ Jvm.Cond.classLink own ik (mEx x) :: Jvm.Cond.initialized (mEx x) :: (if x = 4 then n4_at own ic else vx_atS own ic (mEx x) mNames), vx_ot w = true)
/-- a method's frame -/
def mMF (E : mEnv) (S : mStr) (F : mFr) (cc : ByteArray) (own : String) (nL mc ms d : Nat) (st0 : mS) (La0 : mLa) (post : mO → mS → Prop) : Prop :=
  mCtx E F cc own nL ∧ mTab E S (fS F) ∧ mFits F d mc ms ∧ F.2.1.stackTraces = false ∧ F.2.2.2.2.2.2.2.2.1.locks = false ∧ F.2.2.2.2.2.2.2.2.2.2 = vx_MQ F.2.2.2.2.2.2.2.1 (mQc E st0 La0 post) (mXc E st0 La0 post) (fA F) (fS F) mc ms (fun a => eN E ≤ a)
section Ends
variable {E : mEnv} {S : mStr} {F : mFr} {cc : ByteArray} {own : String} {nL mc ms d : Nat} {st0 : mS} {La0 : mLa}
variable {P : mPool} {rt : Nat} {sg : mSig} {C : mCall} {J : mK} {Xx : Nat → Nat → mLs → Nat × Nat → mS → Prop} {post : mO → mS → Prop}
variable {pc : Nat} {ls : mLs} {stk : List mV} {rem : Nat × Nat} {st : mS} {nx : mLs → List mV → Nat × Nat → mS → Prop}
theorem mEnd_of {La : mLa} {s t : State} {H : Heap} {locs : List Loc} (hw : mWorld E st La H) (hm : mMono st0 st) (he : mExt st0 La0 La) (hS : va_S (fun q => eN E ≤ q) s.heap H locs) (ht : t.heap = H) : mEnd E st0 La0 st La s t := ⟨by rw [ht]; exact hw, hm, he, hS.F ht⟩
theorem sm_return_ (X : mMF E S F cc own nL mc ms d st0 La0 post) (hr : F.2.2.2.2.2.2.2.2.1.sig.returnType = none) (hd : decode cc pc = .ok (.return_, 1)) (h : mstep P rt sg C J Xx post (.return_) pc ls stk rem st nx) : mSim E F nL mc ms st0 La0 pc ls stk rem st := by
  obtain ⟨he9, h1⟩ := cond_inv h
  cases List.isEmpty_iff.mp he9
  obtain ⟨X, T, hR, htr, hlk, hQ⟩ := X
  intro La H locs cells slots lsA hw hm he hl hs hS hls hc hsl
  show W _ _ _ _ _ _ _ _ _ _ _ _ _ _ F.2.2.2.2.2.2.2.2.2.2 _
  rw [hQ]
  refine W.widen (k := mc) (n := ms) (by omega) (by omega) (vx_ret (W.vret X.1 X.2.1 hr (fun t ht hW => ⟨none, st, La, rfl, h1, fun w hw => (nomatch hw), mEnd_of hw hm he hS ht⟩) hS.2.2 hd hlk))
theorem sm_ireturn {ty : FieldType} (X : mMF E S F cc own nL mc ms d st0 La0 post) (hr : F.2.2.2.2.2.2.2.2.1.sig.returnType = some ty) (hty : ty = tyF rt) (hd : decode cc pc = .ok (.ireturn, 1)) (h : mstep P rt sg C J Xx post (.ireturn) pc ls stk rem st nx) : mSim E F nL mc ms st0 La0 pc ls stk rem st := by
  subst hty
  have h0 : ∃ v r, stk = mi v :: r ∧ tyOK rt v ∧ cond (r.isEmpty) (post (.inl (some (mi v))) st) False := by
    match stk, h with
    | .inl v :: r, h => exact ⟨v, r, rfl, h⟩
  obtain ⟨v, r, rfl, hv, h2⟩ := h0
  obtain ⟨he9, h1⟩ := cond_inv h2
  cases List.isEmpty_iff.mp he9
  obtain ⟨X, T, hR, htr, hlk, hQ⟩ := X
  intro La H locs cells slots lsA hw hm he hl hs hS hls hc hsl
  show W _ _ _ _ _ _ _ _ _ _ _ _ _ _ F.2.2.2.2.2.2.2.2.2.2 _
  rw [hQ]
  refine W.widen (k := mc) (n := ms) (by omega) (by omega) (vx_ret (W.zret X.1 X.2.1 hr (narrow_ok hv).1 (fun t ht hW => ⟨some (mi v), st, La, rfl, h1, fun w hw => ?_, mEnd_of hw hm he hS ht⟩) hS.2.2 hd hlk))
  cases hw
  exact ok_head hs
theorem sm_areturn {nm : String} (X : mMF E S F cc own nL mc ms d st0 La0 post) (hr : F.2.2.2.2.2.2.2.2.1.sig.returnType = some (.object nm)) (hd : decode cc pc = .ok (.areturn, 1)) (h : mstep P rt sg C J Xx post (.areturn) pc ls stk rem st nx) : mSim E F nL mc ms st0 La0 pc ls stk rem st := by
  obtain ⟨q, r, rfl, h2⟩ := stR_inv (f := fun q r => cond (r.isEmpty) (post (.inl (some (mr q.1 q.2))) st) False) h
  obtain ⟨he9, h1⟩ := cond_inv h2
  cases List.isEmpty_iff.mp he9
  obtain ⟨X, T, hR, htr, hlk, hQ⟩ := X
  intro La H locs cells slots lsA hw hm he hl hs hS hls hc hsl
  show W _ _ _ _ _ _ _ _ _ _ _ _ _ _ F.2.2.2.2.2.2.2.2.2.2 _
  rw [hQ]
  refine W.widen (k := mc) (n := ms) (by omega) (by omega) (vx_ret (W.aret X.1 X.2.1 hr (Or.inl ⟨nm, rfl⟩) (Or.inr ⟨_, rfl⟩) (fun t ht hW => ⟨some (mr q.1 q.2), st, La, rfl, h1, fun w hw => ?_, mEnd_of hw hm he hS ht⟩) hS.2.2 hd hlk))
  cases hw
  exact ok_head hs
theorem sm_freturn (X : mMF E S F cc own nL mc ms d st0 La0 post) (hr : F.2.2.2.2.2.2.2.2.1.sig.returnType = some .float) (hd : decode cc pc = .ok (.freturn, 1)) (h : mstep P rt sg C J Xx post (.freturn) pc ls stk rem st nx) : mSim E F nL mc ms st0 La0 pc ls stk rem st := by
  have h0 : ∃ v r, stk = mf v :: r ∧ cond (r.isEmpty) (post (.inl (some (mf v))) st) False := by
    match stk, h with
    | .inr (.inr (.inl v)) :: r, h => exact ⟨v, r, rfl, h⟩
  obtain ⟨v, r, rfl, h2⟩ := h0
  obtain ⟨he9, h1⟩ := cond_inv h2
  cases List.isEmpty_iff.mp he9
  obtain ⟨X, T, hR, htr, hlk, hQ⟩ := X
  intro La H locs cells slots lsA hw hm he hl hs hS hls hc hsl
  show W _ _ _ _ _ _ _ _ _ _ _ _ _ _ F.2.2.2.2.2.2.2.2.2.2 _
  rw [hQ]
  refine W.widen (k := mc) (n := ms) (by omega) (by omega) (vx_ret (W.fret X.1 X.2.1 hr (fun t ht hW => ⟨some (mf v), st, La, rfl, h1, fun w hw => ?_, mEnd_of hw hm he hS ht⟩) hS.2.2 hd hlk))
  cases hw
  trivial
theorem sm_dreturn (X : mMF E S F cc own nL mc ms d st0 La0 post) (hr : F.2.2.2.2.2.2.2.2.1.sig.returnType = some .double) (hd : decode cc pc = .ok (.dreturn, 1)) (h : mstep P rt sg C J Xx post (.dreturn) pc ls stk rem st nx) : mSim E F nL mc ms st0 La0 pc ls stk rem st := by
  have h0 : ∃ v r, stk = md v :: r ∧ cond (r.isEmpty) (post (.inl (some (md v))) st) False := by
    match stk, h with
    | .inr (.inr (.inr (.inl v))) :: r, h => exact ⟨v, r, rfl, h⟩
  obtain ⟨v, r, rfl, h2⟩ := h0
  obtain ⟨he9, h1⟩ := cond_inv h2
  cases List.isEmpty_iff.mp he9
  obtain ⟨X, T, hR, htr, hlk, hQ⟩ := X
  intro La H locs cells slots lsA hw hm he hl hs hS hls hc hsl
  show W _ _ _ _ _ _ _ _ _ _ _ _ _ _ F.2.2.2.2.2.2.2.2.2.2 _
  rw [hQ]
  refine W.widen (k := mc) (n := ms) (by omega) (by omega) (vx_ret (W.dret X.1 X.2.1 hr (fun t ht hW => ⟨some (md v), st, La, rfl, h1, fun w hw => ?_, mEnd_of hw hm he hS ht⟩) hS.2.2 hd hlk))
  cases hw
  trivial
/-- a throw of NoSuchElementException -/
theorem sm_throw4 {own : String} {ik is ic : Nat} {wide : Bool} {text : String} (X : mMF E S F cc own nL mc ms d st0 La0 post) (hnt : ∀ z ∈ (fC F).exceptionTable.toList, False) (ht : thrOK own ik ic 4) (hz : (own, is, text) ∈ S)
    (d0 : decode cc pc = .ok (.new ik, 3)) (d3 : decode cc (pc + 3) = .ok (.dup, 1))
    (d4 : if wide = true then decode cc (pc + 4) = .ok (.ldc_w is, 3) ∧ decode cc (pc + 7) = .ok (.invokespecial ic, 3) ∧ decode cc (pc + 10) = .ok (.athrow, 1) else decode cc (pc + 4) = .ok (.ldc is, 2) ∧ decode cc (pc + 6) = .ok (.invokespecial ic, 3) ∧ decode cc (pc + 9) = .ok (.athrow, 1))
    (hb : 1 ≤ rem.1 ∧ 6 ≤ rem.2) (h : post (.inr 4) st) : mSim E F nL mc ms st0 La0 pc ls [] rem st := by
  obtain ⟨X, T, hR, htr, hlk, hQ⟩ := X
  obtain ⟨t1, t2, t3, t4, t5⟩ := ht
  rw [if_pos rfl] at t4 t5
  obtain ⟨sa, hsa⟩ := T.2.2.2.1 _ hz
  intro La H locs cells slots lsA hw hm he hl hs hS hls hc hsl
  show W _ _ _ _ _ _ _ _ _ _ _ _ _ _ F.2.2.2.2.2.2.2.2.2.2 _
  rw [hQ]
  have kz : ∀ a, a < (eH E).size → ¬ eN E ≤ a → (fS F).heap[a]? = (eH E)[a]? := fun a ha hn => X.2.2.2.2.2.2.1.2 a (by omega)
  have hat : ∀ w ∈ n4_at own ic, w.before (fA F) (fS F) = true := fun w hw9 => (t4 w hw9).2.elim (fun g => X.2.2.2.2.1 w (lw_good_in (t4 w hw9).1 g)) (fun g => castW_use g (T.2.2.2.2.2.1 _ (t4 w hw9).1 g))
  refine nsee_throw X.1 X.2.1 htr X.2.2.2.1 (X.2.2.2.2.1 _ t1) (X.2.2.2.2.1 _ t2) hsa hat t5 (T.2.2.1.1.kept kz) (T.2.2.1.2.kept kz) hS (hls.1.trans X.2.2.1.symm) d0 d3 d4 hnt ?_ ?_ (cell_le hc hb.1 hR.2.2.1) (cell_le hsl hb.2 hR.2.2.2) hlk (fun t _ hz9 ho => ?_) hS.2.2 (by omega) (by omega)
  · have := hR.1; omega
  · have := hR.2.1
    show 0 + 82 ≤ F.2.2.2.1.locals
    generalize 40 * d = z at this
    omega
  · refine ⟨4, st, La, rfl, h, world_grow hw hz9 ho, hm, he, Nat.le_trans hS.1 hz9, fun q hq hn => ?_⟩
    rw [ho q (Nat.lt_of_lt_of_le hq hS.1)]
    exact hS.2.1 q hq hn
/-- a throw, the text by a narrow index (wide = false) or a wide one -/
theorem sm_throw {own : String} {ik is ic x : Nat} {wide : Bool} {text : String} (X : mMF E S F cc own nL mc ms d st0 La0 post) (hnt : ∀ z ∈ (fC F).exceptionTable.toList, False) (ht : thrOK own ik ic x) (hz : (own, is, text) ∈ S)
    (d0 : decode cc pc = .ok (.new ik, 3)) (d3 : decode cc (pc + 3) = .ok (.dup, 1))
    (d4 : if wide = true then decode cc (pc + 4) = .ok (.ldc_w is, 3) ∧ decode cc (pc + 7) = .ok (.invokespecial ic, 3) ∧ decode cc (pc + 10) = .ok (.athrow, 1) else decode cc (pc + 4) = .ok (.ldc is, 2) ∧ decode cc (pc + 6) = .ok (.invokespecial ic, 3) ∧ decode cc (pc + 9) = .ok (.athrow, 1))
    (hb : 1 ≤ rem.1 ∧ 6 ≤ rem.2) (h : post (.inr x) st) : mSim E F nL mc ms st0 La0 pc ls [] rem st := by
  by_cases hx4 : x = 4
  · subst hx4
    exact sm_throw4 X hnt ht hz d0 d3 d4 hb h
  obtain ⟨X, T, hR, htr, hlk, hQ⟩ := X
  obtain ⟨t1, t2, t3, t4, t5⟩ := ht
  rw [if_neg hx4] at t4 t5
  obtain ⟨sa, hsa⟩ := T.2.2.2.1 _ hz
  intro La H locs cells slots lsA hw hm he hl hs hS hls hc hsl
  show W _ _ _ _ _ _ _ _ _ _ _ _ _ _ F.2.2.2.2.2.2.2.2.2.2 _
  rw [hQ]
  have hbase := X.2.2.2.2.2.2.1
  have kz : ∀ a, a < (eH E).size → ¬ eN E ≤ a → (fS F).heap[a]? = (eH E)[a]? := fun a ha hn => hbase.2 a (by omega)
  have hU := T.2.2.1.1.kept kz
  have hN := T.2.2.1.2.kept kz
  have hat : ∀ w ∈ vx_atS own ic (mEx x) mNames, w.before (fA F) (fS F) = true := by
    intro w hw9
    obtain ⟨g1, g2⟩ := t4 w hw9
    rcases g2 with g2 | g2
    · exact X.2.2.2.2.1 w (lw_good_in g1 g2)
    · exact castW_use g2 (T.2.2.2.2.2.1 _ g1 g2)
  have hx : ∀ t : State, (fS F).vm.Alike t.vm → H.size ≤ t.heap.size → (∀ q : Nat, q < H.size → t.heap[q]? = H[q]?) → mXc E st0 La0 post (mEx x) (fS F) t := by
    intro t _ hz9 ho
    refine ⟨x, st, La, rfl, h, world_grow hw hz9 ho, hm, he, Nat.le_trans hS.1 hz9, fun q hq hn => ?_⟩
    rw [ho q (Nat.lt_of_lt_of_le hq hS.1)]
    exact hS.2.1 q hq hn
  have hfr : 5 < F.2.2.2.1.frames := by have := hR.1; omega
  have hlo : 82 ≤ F.2.2.2.1.locals := by have := hR.2.1; generalize 40 * d = z at this; omega
  have hce : cells + 1 ≤ F.2.2.2.1.cells := cell_le hc hb.1 hR.2.2.1
  have hsr : slots + 6 ≤ F.2.2.2.1.slots := cell_le hsl hb.2 hR.2.2.2
  cases wide with
  | false =>
    rw [if_neg (by decide)] at d4
    exact vx_throwS X.1 X.2.1 htr X.2.2.2.1 t3 (by decide +kernel) (X.2.2.2.2.1 _ t1) (X.2.2.2.2.1 _ t2) hsa hat t5 hU hN hS (hls.1.trans X.2.2.1.symm) d0 d3 d4.1 d4.2.1 d4.2.2 (fun z hz => (hnt z hz).elim) hfr hlo hce hsr hlk hx hS.2.2 (by omega) (by omega)
  | true =>
    rw [if_pos rfl] at d4
    exact vx_throwSW X.1 X.2.1 htr X.2.2.2.1 t3 (by decide +kernel) (X.2.2.2.2.1 _ t1) (X.2.2.2.2.1 _ t2) hsa hat t5 hU hN hS (hls.1.trans X.2.2.1.symm) d0 d3 d4.1 d4.2.1 d4.2.2 (fun z hz => (hnt z hz).elim) hfr hlo hce hsr hlk hx hS.2.2 (by omega) (by omega)
end Ends
