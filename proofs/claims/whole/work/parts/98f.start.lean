/-! THE LAW FROM ITS ENTRY to label 28 -/
theorem dLs_0 : decode cL_law 0 = .ok (.new 8, 3) := by decide +kernel
theorem dLs_3 : decode cL_law 3 = .ok (.dup, 1) := by decide +kernel
theorem dLs_4 : decode cL_law 4 = .ok (.invokespecial 131, 3) := by decide +kernel
theorem dLs_7 : decode cL_law 7 = .ok (.astore_n 1, 1) := by decide +kernel
theorem dLs_8 : decode cL_law 8 = .ok (.new 132, 3) := by decide +kernel
theorem dLs_11 : decode cL_law 11 = .ok (.dup, 1) := by decide +kernel
theorem dLs_12 : decode cL_law 12 = .ok (.invokespecial 134, 3) := by decide +kernel
theorem dLs_15 : decode cL_law 15 = .ok (.astore_n 2, 1) := by decide +kernel
theorem dLs_16 : decode cL_law 16 = .ok (.iconst 1, 1) := by decide +kernel
theorem dLs_17 : decode cL_law 17 = .ok (.newarray .long, 2) := by decide +kernel
theorem dLs_19 : decode cL_law 19 = .ok (.astore_n 3, 1) := by decide +kernel
theorem dLs_20 : decode cL_law 20 = .ok (.iconst 1, 1) := by decide +kernel
theorem dLs_21 : decode cL_law 21 = .ok (.newarray .double, 2) := by decide +kernel
theorem dLs_23 : decode cL_law 23 = .ok (.astore 4, 2) := by decide +kernel
theorem dLs_25 : decode cL_law 25 = .ok (.iconst 0, 1) := by decide +kernel
theorem dLs_26 : decode cL_law 26 = .ok (.istore 5, 2) := by decide +kernel
set_option maxRecDepth 100000 in
theorem lz_kL8 : (Jvm.Cond.classLink RL 8 RX6 : Jvm.Cond) ∈ lw_good := by decide +kernel
set_option maxRecDepth 100000 in
theorem lz_kL132 : (Jvm.Cond.classLink RL 132 RX7 : Jvm.Cond) ∈ lw_good := by decide +kernel
set_option maxRecDepth 100000 in
theorem lz_mL131 : (Jvm.Cond.methodLink RL 131 (qY qd_f) : Jvm.Cond) ∈ lw_good := by decide +kernel
set_option maxRecDepth 100000 in
theorem lz_mL134 : (Jvm.Cond.methodLink RL 134 (qY qd_m) : Jvm.Cond) ∈ lw_good := by decide +kernel
set_option maxRecDepth 100000 in
theorem lz_aj : (Jvm.Cond.arrayClass .long : Jvm.Cond) ∈ lw_good := by decide +kernel
set_option maxRecDepth 100000 in
theorem lz_ad : (Jvm.Cond.arrayClass .double : Jvm.Cond) ∈ lw_good := by decide +kernel
theorem llong_cls {E : mEnv} {S : mStr} {s : State} {cA : ClassId} (T : lT E S s) (h : va_RA s cA .long) : cA = eC E 2 := by
  have h2 : va_RA s (eC E 2) .long := (T.1.1.2 2 _ rfl).2
  have h1 : s.vm.findClass ("[" ++ FieldType.long.toString) = some cA := h
  have h3 : s.vm.findClass ("[" ++ FieldType.long.toString) = some (eC E 2) := h2
  exact Option.some.inj (h1.symm.trans h3)
theorem ldbl_cls {E : mEnv} {S : mStr} {s : State} {cA : ClassId} (T : lT E S s) (h : va_RA s cA .double) : cA = eC E 3 := by
  have h2 : va_RA s (eC E 3) .double := (T.1.1.2 3 _ rfl).2
  have h1 : s.vm.findClass ("[" ++ FieldType.double.toString) = some cA := h
  have h3 : s.vm.findClass ("[" ++ FieldType.double.toString) = some (eC E 3) := h2
  exact Option.some.inj (h1.symm.trans h3)
def uF (q0 l1 l2 l3 qC c1 c2 c3 c4 qO l4 o1 o2 m0 a1 a2 : Nat) (u : Nat → Nat) (k : Nat) : Nat := match k with
  | 0 => q0 | 20 => l1 | 21 => l2 | 22 => l3 | 12 => qC | 13 => c1 | 14 => c2 | 15 => c3 | 16 => c4 | 17 => qO | 23 => l4 | 18 => o1 | 19 => o2 | 30 => m0 | 60 => a1 | 61 => a2
  | k => u k
abbrev wsF (E : mEnv) (q0 l1 l2 l3 qC c1 c2 c3 c4 qO l4 o1 o2 : Nat) : va_W := [(q0, .inr (10, [.ref l1, .ref l2, .ref l3, .ref qC, .ref qO, .int 0, .int 14, .int 72])), (l1, .inr (3, [.int 0, .ref (eE E), .int 0])), (l2, .inr (3, [.int 0, .ref (eE E), .int 0])), (l3, .inr (3, [.int 0, .ref (eE E), .int 0])), (qC, .inr (4, [.int 0, .ref c1, .ref c2, .ref c3, .ref c4, .int 0])), (c1, .inl (eC E 0, 3, .inl (fun _ => 0))), (c2, .inl (eC E 0, 3, .inl (fun _ => 0))), (c3, .inl (eC E 0, 3, .inl (fun _ => 0))), (c4, .inl (eC E 0, 3, .inl (fun _ => 0))), (qO, .inr (6, [.ref l4, .ref o1, .ref o2, .int 0, .int 0])), (l4, .inr (3, [.int 0, .ref (eE E), .int 0])), (o1, .inl (eC E 0, 4, .inl (fun _ => 0))), (o2, .inl (eC E 0, 4, .inl (fun _ => 0)))]
set_option maxRecDepth 10000 in
theorem wsA_eq (E : mEnv) (q0 l1 l2 l3 qC c1 c2 c3 c4 qO l4 o1 o2 m0 a1 a2 : Nat) (u : Nat → Nat) : wsA E (uF q0 l1 l2 l3 qC c1 c2 c3 c4 qO l4 o1 o2 m0 a1 a2 u) = ((wsF E q0 l1 l2 l3 qC c1 c2 c3 c4 qO l4 o1 o2 ++ ((m0, .inr (11, FM u)) :: RM E u)) ++ [(a1, .inl (eC E 2, 1, .inr (.inl (fun _ => 0))))]) ++ [(a2, .inl (eC E 3, 1, .inr (.inr (.inr (.inl (fun _ => 0))))))] := rfl
