/-! THE TABLES AT THE START -/
set_option maxRecDepth 100000 in
theorem vw_ws : ∀ q ∈ vwCl, ∀ w ∈ u_ws q.1 q.2.1 q.2.2, w ∈ lw_tbl := by decide +kernel
set_option maxRecDepth 100000 in
theorem vw_in : ∀ q ∈ vwCl, Jvm.Cond.instantiable q.1 q.2.2 ∈ lw_tbl := by decide +kernel
set_option maxRecDepth 100000 in
theorem st_ref : ∀ z ∈ mS_, Jvm.Cond.stringRef z.1 z.2.1 z.2.2 ∈ lw_tbl := by decide +kernel
set_option maxRecDepth 100000 in
theorem st_ex : ∀ z ∈ mS_, Jvm.Cond.exactly (.string z.1 z.2.1) "java/lang/String" ∈ flatC (Jvm.Cond.and given_1 narrow_1) := by decide +kernel
set_option maxRecDepth 100000 in
theorem st_nc : ∀ x ∈ [1, 2, 3, 4, 5, 6], ∀ y ∈ [1, 2, 3, 4, 5, 6], x ≠ y → Jvm.Cond.not (.castable (mEx x) (mEx y)) ∈ flatC (Jvm.Cond.and given_1 narrow_1) := by decide +kernel
set_option maxRecDepth 100000 in
theorem st_fw : ∀ y ∈ [501, 502, 503, 504, 505, 506], Jvm.Cond.declares (ifM y) ∈ lw_tbl ∧ Jvm.Cond.interfaceMethod (ifM y).cls (ifM y).cls (ifM y).name (ifM y).desc ∈ lw_tbl ∧ Jvm.Cond.publicMethod (arM y) ∈ lw_tbl ∧ Jvm.Cond.unhidden "java/util/ArrayList" (ifM y).name (ifM y).desc ∈ lw_tbl ∧ Jvm.Cond.castable "java/util/ArrayList" (ifM y).cls ∈ lw_tbl := by decide +kernel
abbrev tmE : Term := .static "java/util/ArrayList" "DEFAULTCAPACITY_EMPTY_ELEMENTDATA" "[Ljava/lang/Object;"
set_option maxRecDepth 100000 in
theorem st_e1 : Jvm.Cond.arrayOf tmE (.object "java/lang/Object") ∈ flatC (Jvm.Cond.and given_1 narrow_1) := by decide +kernel
set_option maxRecDepth 100000 in
theorem st_e2 : Jvm.Cond.eq (.length tmE) (.int 0) ∈ flatC (Jvm.Cond.and given_1 narrow_1) := by decide +kernel
set_option maxRecDepth 100000 in
theorem st_e3 : Jvm.Cond.laysStatic "java/util/ArrayList" "DEFAULTCAPACITY_EMPTY_ELEMENTDATA" "[Ljava/lang/Object;" ∈ lw_tbl := by decide +kernel
set_option maxRecDepth 100000 in
theorem st_e4 : Jvm.Cond.initialized "java/util/ArrayList" ∈ lw_tbl := by decide +kernel
set_option maxRecDepth 100000 in
theorem st_u1 : Jvm.Cond.isRef (.static Bundle.tN "UNASSIGNED_STACK" Bundle.steD) ∈ flatC (Jvm.Cond.and given_1 narrow_1) := by decide +kernel
set_option maxRecDepth 100000 in
theorem st_u2 : Jvm.Cond.laysStatic Bundle.tN "UNASSIGNED_STACK" Bundle.steD ∈ lw_tbl := by decide +kernel
set_option maxRecDepth 100000 in
theorem st_u3 : Jvm.Cond.initialized Bundle.tN ∈ lw_tbl := by decide +kernel
set_option maxRecDepth 100000 in
theorem st_s1 : Jvm.Cond.isRef (.static Bundle.tN "SUPPRESSED_SENTINEL" Bundle.listD) ∈ flatC (Jvm.Cond.and given_1 narrow_1) := by decide +kernel
set_option maxRecDepth 100000 in
theorem st_s2 : Jvm.Cond.laysStatic Bundle.tN "SUPPRESSED_SENTINEL" Bundle.listD ∈ lw_tbl := by decide +kernel
set_option maxRecDepth 100000 in
theorem st_mi : Jvm.Cond.isRef (.mirror "[Ljava/lang/Object;") ∈ flatC (Jvm.Cond.and given_1 narrow_1) := by decide +kernel
set_option maxRecDepth 100000 in
theorem st_a : Jvm.Cond.arrayClass .int ∈ lw_tbl ∧ Jvm.Cond.arrayClass .boolean ∈ lw_tbl ∧ Jvm.Cond.arrayClass .long ∈ lw_tbl ∧ Jvm.Cond.arrayClass .double ∈ lw_tbl ∧ Jvm.Cond.arrayOver (.object "java/lang/Object") ∈ lw_tbl := by decide +kernel
/-- a class of rows -/
def rowC (s : State) (cA : ClassId) (ty : FieldType) : Prop := ArrOfT s cA ty ∧ va_RA s cA ty
theorem arr_of {s : State} {args : Array Value} {ty : FieldType} (h : (Jvm.Cond.arrayClass ty).before args s = true) (hR : ∀ c, s.vm.findClass ("[" ++ ty.toString) = some c → va_RA s c ty) : ∃ cA, rowC s cA ty := by
  obtain ⟨cA, kA, comp, h1, h2, h3⟩ := Cond.arrayClass_spec h
  exact ⟨cA, fun n z => ⟨fun k h => (by cases h), kA, h2, comp, h3⟩, hR cA h1⟩
theorem arr_ofO {s : State} {args : Array Value} (h : (Jvm.Cond.arrayOver (.object "java/lang/Object")).before args s = true) : ∃ cA, rowC s cA (.object "java/lang/Object") := by
  obtain ⟨comp, cA, kA, h1, h2, h3, h4, h5⟩ := Cond.arrayOver_spec h
  exact ⟨cA, fun n z => ⟨fun k h => (by cases h), kA, h3, comp, h4⟩, kA, comp, h3, h4, h1, h5⟩
theorem tab_K {s : State} {args : Array Value} (hts : ∀ w ∈ lw_tbl, w.before args s = true) : ∃ (D : va_G) (cc : Nat → ClassId), va_K D vwCl [(cc 0, .int), (cc 1, .boolean), (cc 2, .long), (cc 3, .double), (cc 4, .object "java/lang/Object")] s := by
  have hK : ∀ c : Nat, ∃ z : ClassId × (Nat → Nat), ∀ q : vw_C, vwCl[c]? = some q → u_Kn s q.1 q.2.1 q.2.2 z.1 z.2 := by
    intro c
    cases e : vwCl[c]? with
    | none => exact ⟨(0, fun _ => 0), fun q h => by cases h⟩
    | some q =>
      have hm := List.mem_of_getElem? e
      obtain ⟨cC, iS, h⟩ := u_known (C := q.1) (T := q.2.1) (N := q.2.2) hts (vw_ws q hm) (hts _ (vw_in q hm))
      exact ⟨(cC, iS), fun q' h' => by cases h'; exact h⟩
  obtain ⟨c0, h0⟩ := arr_of (hts _ st_a.1) (fun c h => h)
  obtain ⟨c1, h1⟩ := arr_of (hts _ st_a.2.1) (fun c h => h)
  obtain ⟨c2, h2⟩ := arr_of (hts _ st_a.2.2.1) (fun c h => h)
  obtain ⟨c3, h3⟩ := arr_of (hts _ st_a.2.2.2.1) (fun c h => h)
  obtain ⟨c4, h4⟩ := arr_ofO (hts _ st_a.2.2.2.2)
  refine ⟨(fun c => (Classical.choose (hK c)).1, fun c => (Classical.choose (hK c)).2), fun k => [c0, c1, c2, c3, c4].getD k 0, fun c q h => Classical.choose_spec (hK c) q h, fun k q h => ?_⟩
  match k, h with
  | 0, h => cases h; exact h0
  | 1, h => cases h; exact h1
  | 2, h => cases h; exact h2
  | 3, h => cases h; exact h3
  | 4, h => cases h; exact h4
  | _ + 5, h => cases h
theorem tab_start {s : State} {args : Array Value} {b L : Nat} {xs : Nat → Int32} (hts : ∀ w ∈ lw_tbl, w.before args s = true) (hgv : (Jvm.Cond.and given_1 narrow_1).before args s = true) (hX : va_X b L xs s s.heap) (hb : b < s.heap.size) : ∃ E : mEnv, eN E = s.heap.size ∧ eH E = s.heap ∧ eB E = b ∧ eL E = L ∧ eX E = xs ∧ mTab E mS_ s := by
  obtain ⟨D, cc, hK⟩ := tab_K hts
  have hg := flat_of_before _ hgv
  have hA : ∀ a : Nat, a < s.heap.size → ¬ s.heap.size ≤ a := fun a h => by omega
  obtain ⟨t, ht, hT⟩ := va_Tof (N := 0) (f := fun _ => .null) (A := fun q => s.heap.size ≤ q) (by decide) (hg _ st_e1) (va_eqt (hg _ st_e2)) (fun j h => absurd h (Nat.not_lt_zero _)) hA
  have htl : t < s.heap.size := Nat.lt_of_not_le hT.out
  refine ⟨(D, cc, s.heap.size, s.heap, t, b, L, xs), rfl, rfl, rfl, rfl, rfl, hK, ⟨hX, hb⟩, ⟨vx_Zqof (hts _ st_u2) (hts _ st_u3) (hg _ st_u1) hA, vx_Zqof (hts _ st_s2) (hts _ st_u3) (hg _ st_s1) hA⟩, fun z hz => ?_, rfl, fun w hw hc => ?_, ⟨va_Zref (hts _ st_e3) (hts _ st_e4) ht hA, htl, hT⟩, va_Mi.of (hg _ st_mi), fun x y hx1 hx6 hy1 hy6 hne => ?_, fun y hy1 hy6 => ?_, va_AO.of (hts _ st_a.2.2.2.2)⟩
  · obtain ⟨a, c, cell, k, h1, -⟩ := Cond.exactly_spec (hg _ (st_ex z hz))
    exact ⟨a, vk_R.of (hts _ (st_ref z hz)) h1⟩
  · have h := hts w hw
    cases w <;> first | (exact absurd (show false = true from hc) (by decide)) | exact va_Nw.of rfl h
  · refine va_Nc.of (hg _ (st_nc x ?_ y ?_ hne))
    · rcases (show x = 1 ∨ x = 2 ∨ x = 3 ∨ x = 4 ∨ x = 5 ∨ x = 6 by omega) with rfl | rfl | rfl | rfl | rfl | rfl <;> decide
    · rcases (show y = 1 ∨ y = 2 ∨ y = 3 ∨ y = 4 ∨ y = 5 ∨ y = 6 by omega) with rfl | rfl | rfl | rfl | rfl | rfl <;> decide
  · obtain ⟨h1, h2, h3, h4, h5⟩ := st_fw y (by rcases (show y = 501 ∨ y = 502 ∨ y = 503 ∨ y = 504 ∨ y = 505 ∨ y = 506 by omega) with rfl | rfl | rfl | rfl | rfl | rfl <;> decide)
    exact va_Fw.of (hts _ h1) (hts _ h2) (hts _ h3) (hts _ h4) (hts _ h5)
