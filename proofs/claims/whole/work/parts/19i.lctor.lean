/-! CONSTRUCTORS: Days, Person, Ship, Sailing -/
theorem dX1_init_0 : decode cX1_init 0 = .ok (.aload_n 0, 1) := by decide +kernel
theorem dX1_init_1 : decode cX1_init 1 = .ok (.invokespecial 3, 3) := by decide +kernel
theorem dX1_init_4 : decode cX1_init 4 = .ok (.aload_n 0, 1) := by decide +kernel
theorem dX1_init_5 : decode cX1_init 5 = .ok (.lconst 0, 1) := by decide +kernel
theorem dX1_init_6 : decode cX1_init 6 = .ok (.putfield 9, 3) := by decide +kernel
theorem dX1_init_9 : decode cX1_init 9 = .ok (.return_, 1) := by decide +kernel
theorem dX3_init_0 : decode cX3_init 0 = .ok (.aload_n 0, 1) := by decide +kernel
theorem dX3_init_1 : decode cX3_init 1 = .ok (.invokespecial 3, 3) := by decide +kernel
theorem dX3_init_4 : decode cX3_init 4 = .ok (.aload_n 0, 1) := by decide +kernel
theorem dX3_init_5 : decode cX3_init 5 = .ok (.new 9, 3) := by decide +kernel
theorem dX3_init_8 : decode cX3_init 8 = .ok (.dup, 1) := by decide +kernel
theorem dX3_init_9 : decode cX3_init 9 = .ok (.invokespecial 11, 3) := by decide +kernel
theorem dX3_init_12 : decode cX3_init 12 = .ok (.putfield 12, 3) := by decide +kernel
theorem dX3_init_15 : decode cX3_init 15 = .ok (.aload_n 0, 1) := by decide +kernel
theorem dX3_init_16 : decode cX3_init 16 = .ok (.new 9, 3) := by decide +kernel
theorem dX3_init_19 : decode cX3_init 19 = .ok (.dup, 1) := by decide +kernel
theorem dX3_init_20 : decode cX3_init 20 = .ok (.invokespecial 11, 3) := by decide +kernel
theorem dX3_init_23 : decode cX3_init 23 = .ok (.putfield 18, 3) := by decide +kernel
theorem dX3_init_26 : decode cX3_init 26 = .ok (.aload_n 0, 1) := by decide +kernel
theorem dX3_init_27 : decode cX3_init 27 = .ok (.iconst 4, 1) := by decide +kernel
theorem dX3_init_28 : decode cX3_init 28 = .ok (.newarray .int, 2) := by decide +kernel
theorem dX3_init_30 : decode cX3_init 30 = .ok (.putfield 21, 3) := by decide +kernel
theorem dX3_init_33 : decode cX3_init 33 = .ok (.aload_n 0, 1) := by decide +kernel
theorem dX3_init_34 : decode cX3_init 34 = .ok (.iconst 4, 1) := by decide +kernel
theorem dX3_init_35 : decode cX3_init 35 = .ok (.newarray .int, 2) := by decide +kernel
theorem dX3_init_37 : decode cX3_init 37 = .ok (.putfield 25, 3) := by decide +kernel
theorem dX3_init_40 : decode cX3_init 40 = .ok (.aload_n 0, 1) := by decide +kernel
theorem dX3_init_41 : decode cX3_init 41 = .ok (.iconst (-1), 1) := by decide +kernel
theorem dX3_init_42 : decode cX3_init 42 = .ok (.putfield 28, 3) := by decide +kernel
theorem dX3_init_45 : decode cX3_init 45 = .ok (.aload_n 0, 1) := by decide +kernel
theorem dX3_init_46 : decode cX3_init 46 = .ok (.iconst (-1), 1) := by decide +kernel
theorem dX3_init_47 : decode cX3_init 47 = .ok (.putfield 32, 3) := by decide +kernel
theorem dX3_init_50 : decode cX3_init 50 = .ok (.aload_n 0, 1) := by decide +kernel
theorem dX3_init_51 : decode cX3_init 51 = .ok (.sipush 1000, 3) := by decide +kernel
theorem dX3_init_54 : decode cX3_init 54 = .ok (.newarray .int, 2) := by decide +kernel
theorem dX3_init_56 : decode cX3_init 56 = .ok (.putfield 35, 3) := by decide +kernel
theorem dX3_init_59 : decode cX3_init 59 = .ok (.aload_n 0, 1) := by decide +kernel
theorem dX3_init_60 : decode cX3_init 60 = .ok (.iconst 0, 1) := by decide +kernel
theorem dX3_init_61 : decode cX3_init 61 = .ok (.putfield 38, 3) := by decide +kernel
theorem dX3_init_64 : decode cX3_init 64 = .ok (.aload_n 0, 1) := by decide +kernel
theorem dX3_init_65 : decode cX3_init 65 = .ok (.iload_n 1, 1) := by decide +kernel
theorem dX3_init_66 : decode cX3_init 66 = .ok (.putfield 41, 3) := by decide +kernel
theorem dX3_init_69 : decode cX3_init 69 = .ok (.iconst 0, 1) := by decide +kernel
theorem dX3_init_70 : decode cX3_init 70 = .ok (.istore_n 2, 1) := by decide +kernel
theorem dX3_init_71 : decode cX3_init 71 = .ok (.iload_n 2, 1) := by decide +kernel
theorem dX3_init_72 : decode cX3_init 72 = .ok (.aload_n 0, 1) := by decide +kernel
theorem dX3_init_73 : decode cX3_init 73 = .ok (.getfield 25, 3) := by decide +kernel
theorem dX3_init_76 : decode cX3_init 76 = .ok (.arraylength, 1) := by decide +kernel
theorem dX3_init_77 : decode cX3_init 77 = .ok (.if_icmp .ge 16, 3) := by decide +kernel
theorem dX3_init_80 : decode cX3_init 80 = .ok (.aload_n 0, 1) := by decide +kernel
theorem dX3_init_81 : decode cX3_init 81 = .ok (.getfield 25, 3) := by decide +kernel
theorem dX3_init_84 : decode cX3_init 84 = .ok (.iload_n 2, 1) := by decide +kernel
theorem dX3_init_85 : decode cX3_init 85 = .ok (.iconst (-1), 1) := by decide +kernel
theorem dX3_init_86 : decode cX3_init 86 = .ok (.iastore, 1) := by decide +kernel
theorem dX3_init_87 : decode cX3_init 87 = .ok (.iinc 2 1, 3) := by decide +kernel
theorem dX3_init_90 : decode cX3_init 90 = .ok (.goto (-19), 3) := by decide +kernel
theorem dX3_init_93 : decode cX3_init 93 = .ok (.return_, 1) := by decide +kernel
theorem dX4_init_0 : decode cX4_init 0 = .ok (.aload_n 0, 1) := by decide +kernel
theorem dX4_init_1 : decode cX4_init 1 = .ok (.invokespecial 3, 3) := by decide +kernel
theorem dX4_init_4 : decode cX4_init 4 = .ok (.aload_n 0, 1) := by decide +kernel
theorem dX4_init_5 : decode cX4_init 5 = .ok (.bipush 112, 2) := by decide +kernel
theorem dX4_init_7 : decode cX4_init 7 = .ok (.putfield 9, 3) := by decide +kernel
theorem dX4_init_10 : decode cX4_init 10 = .ok (.aload_n 0, 1) := by decide +kernel
theorem dX4_init_11 : decode cX4_init 11 = .ok (.iconst 3, 1) := by decide +kernel
theorem dX4_init_12 : decode cX4_init 12 = .ok (.newarray .int, 2) := by decide +kernel
theorem dX4_init_14 : decode cX4_init 14 = .ok (.putfield 15, 3) := by decide +kernel
theorem dX4_init_17 : decode cX4_init 17 = .ok (.aload_n 0, 1) := by decide +kernel
theorem dX4_init_18 : decode cX4_init 18 = .ok (.iconst 3, 1) := by decide +kernel
theorem dX4_init_19 : decode cX4_init 19 = .ok (.newarray .int, 2) := by decide +kernel
theorem dX4_init_21 : decode cX4_init 21 = .ok (.putfield 19, 3) := by decide +kernel
theorem dX4_init_24 : decode cX4_init 24 = .ok (.aload_n 0, 1) := by decide +kernel
theorem dX4_init_25 : decode cX4_init 25 = .ok (.aload_n 1, 1) := by decide +kernel
theorem dX4_init_26 : decode cX4_init 26 = .ok (.putfield 22, 3) := by decide +kernel
theorem dX4_init_29 : decode cX4_init 29 = .ok (.aload_n 0, 1) := by decide +kernel
theorem dX4_init_30 : decode cX4_init 30 = .ok (.iload_n 2, 1) := by decide +kernel
theorem dX4_init_31 : decode cX4_init 31 = .ok (.putfield 26, 3) := by decide +kernel
theorem dX4_init_34 : decode cX4_init 34 = .ok (.aload_n 0, 1) := by decide +kernel
theorem dX4_init_35 : decode cX4_init 35 = .ok (.iload_n 3, 1) := by decide +kernel
theorem dX4_init_36 : decode cX4_init 36 = .ok (.putfield 30, 3) := by decide +kernel
theorem dX4_init_39 : decode cX4_init 39 = .ok (.iconst 0, 1) := by decide +kernel
theorem dX4_init_40 : decode cX4_init 40 = .ok (.istore 4, 2) := by decide +kernel
theorem dX4_init_42 : decode cX4_init 42 = .ok (.iload 4, 2) := by decide +kernel
theorem dX4_init_44 : decode cX4_init 44 = .ok (.aload_n 0, 1) := by decide +kernel
theorem dX4_init_45 : decode cX4_init 45 = .ok (.getfield 15, 3) := by decide +kernel
theorem dX4_init_48 : decode cX4_init 48 = .ok (.arraylength, 1) := by decide +kernel
theorem dX4_init_49 : decode cX4_init 49 = .ok (.if_icmp .ge 17, 3) := by decide +kernel
theorem dX4_init_52 : decode cX4_init 52 = .ok (.aload_n 0, 1) := by decide +kernel
theorem dX4_init_53 : decode cX4_init 53 = .ok (.getfield 15, 3) := by decide +kernel
theorem dX4_init_56 : decode cX4_init 56 = .ok (.iload 4, 2) := by decide +kernel
theorem dX4_init_58 : decode cX4_init 58 = .ok (.iconst (-1), 1) := by decide +kernel
theorem dX4_init_59 : decode cX4_init 59 = .ok (.iastore, 1) := by decide +kernel
theorem dX4_init_60 : decode cX4_init 60 = .ok (.iinc 4 1, 3) := by decide +kernel
theorem dX4_init_63 : decode cX4_init 63 = .ok (.goto (-21), 3) := by decide +kernel
theorem dX4_init_66 : decode cX4_init 66 = .ok (.return_, 1) := by decide +kernel
theorem dX5_init_0 : decode cX5_init 0 = .ok (.aload_n 0, 1) := by decide +kernel
theorem dX5_init_1 : decode cX5_init 1 = .ok (.invokespecial 3, 3) := by decide +kernel
theorem dX5_init_4 : decode cX5_init 4 = .ok (.aload_n 0, 1) := by decide +kernel
theorem dX5_init_5 : decode cX5_init 5 = .ok (.iconst 3, 1) := by decide +kernel
theorem dX5_init_6 : decode cX5_init 6 = .ok (.newarray .int, 2) := by decide +kernel
theorem dX5_init_8 : decode cX5_init 8 = .ok (.putfield 9, 3) := by decide +kernel
theorem dX5_init_11 : decode cX5_init 11 = .ok (.aload_n 0, 1) := by decide +kernel
theorem dX5_init_12 : decode cX5_init 12 = .ok (.iconst 0, 1) := by decide +kernel
theorem dX5_init_13 : decode cX5_init 13 = .ok (.putfield 15, 3) := by decide +kernel
theorem dX5_init_16 : decode cX5_init 16 = .ok (.aload_n 0, 1) := by decide +kernel
theorem dX5_init_17 : decode cX5_init 17 = .ok (.iconst 0, 1) := by decide +kernel
theorem dX5_init_18 : decode cX5_init 18 = .ok (.putfield 19, 3) := by decide +kernel
theorem dX5_init_21 : decode cX5_init 21 = .ok (.aload_n 0, 1) := by decide +kernel
theorem dX5_init_22 : decode cX5_init 22 = .ok (.getfield 9, 3) := by decide +kernel
theorem dX5_init_25 : decode cX5_init 25 = .ok (.iconst 0, 1) := by decide +kernel
theorem dX5_init_26 : decode cX5_init 26 = .ok (.iload_n 1, 1) := by decide +kernel
theorem dX5_init_27 : decode cX5_init 27 = .ok (.iastore, 1) := by decide +kernel
theorem dX5_init_28 : decode cX5_init 28 = .ok (.aload_n 0, 1) := by decide +kernel
theorem dX5_init_29 : decode cX5_init 29 = .ok (.iconst 1, 1) := by decide +kernel
theorem dX5_init_30 : decode cX5_init 30 = .ok (.putfield 15, 3) := by decide +kernel
theorem dX5_init_33 : decode cX5_init 33 = .ok (.return_, 1) := by decide +kernel
set_option maxRecDepth 100000 in
theorem lb_oi : (Jvm.Cond.instanceMethod objectInit : Jvm.Cond) ∈ lw_good := by decide +kernel
set_option maxRecDepth 100000 in
theorem lb_oc : (Jvm.Cond.code objectInit ⟨#[0xb1]⟩ 1 none : Jvm.Cond) ∈ lw_good := by decide +kernel
set_option maxRecDepth 100000 in
theorem lb_ai : (Jvm.Cond.arrayClass .int : Jvm.Cond) ∈ lw_good := by decide +kernel
set_option maxRecDepth 100000 in
theorem lb_o1 : (Jvm.Cond.methodLink RX1 3 objectInit : Jvm.Cond) ∈ lw_good := by decide +kernel
set_option maxRecDepth 100000 in
theorem lb_o3 : (Jvm.Cond.methodLink RX3 3 objectInit : Jvm.Cond) ∈ lw_good := by decide +kernel
set_option maxRecDepth 100000 in
theorem lb_o4 : (Jvm.Cond.methodLink RX4 3 objectInit : Jvm.Cond) ∈ lw_good := by decide +kernel
set_option maxRecDepth 100000 in
theorem lb_o5 : (Jvm.Cond.methodLink RX5 3 objectInit : Jvm.Cond) ∈ lw_good := by decide +kernel
set_option maxRecDepth 100000 in
theorem lb_f1_9 : (Jvm.Cond.fieldLink RX1 9 "Ferryroster$Days" "bits" "J" : Jvm.Cond) ∈ lw_good := by decide +kernel
set_option maxRecDepth 100000 in
theorem lb_f3_41 : (Jvm.Cond.fieldLink RX3 41 "Ferryroster$Person" "number" "I" : Jvm.Cond) ∈ lw_good := by decide +kernel
set_option maxRecDepth 100000 in
theorem lb_f3_12 : (Jvm.Cond.fieldLink RX3 12 "Ferryroster$Person" "sickDays" "LFerryroster$Days;" : Jvm.Cond) ∈ lw_good := by decide +kernel
set_option maxRecDepth 100000 in
theorem lb_f3_18 : (Jvm.Cond.fieldLink RX3 18 "Ferryroster$Person" "courseDays" "LFerryroster$Days;" : Jvm.Cond) ∈ lw_good := by decide +kernel
set_option maxRecDepth 100000 in
theorem lb_f3_21 : (Jvm.Cond.fieldLink RX3 21 "Ferryroster$Person" "firstDays" "[I" : Jvm.Cond) ∈ lw_good := by decide +kernel
set_option maxRecDepth 100000 in
theorem lb_f3_25 : (Jvm.Cond.fieldLink RX3 25 "Ferryroster$Person" "lastDays" "[I" : Jvm.Cond) ∈ lw_good := by decide +kernel
set_option maxRecDepth 100000 in
theorem lb_f3_28 : (Jvm.Cond.fieldLink RX3 28 "Ferryroster$Person" "courseKind" "I" : Jvm.Cond) ∈ lw_good := by decide +kernel
set_option maxRecDepth 100000 in
theorem lb_f3_32 : (Jvm.Cond.fieldLink RX3 32 "Ferryroster$Person" "courseEnd" "I" : Jvm.Cond) ∈ lw_good := by decide +kernel
set_option maxRecDepth 100000 in
theorem lb_f3_35 : (Jvm.Cond.fieldLink RX3 35 "Ferryroster$Person" "sailingsAt" "[I" : Jvm.Cond) ∈ lw_good := by decide +kernel
set_option maxRecDepth 100000 in
theorem lb_f3_38 : (Jvm.Cond.fieldLink RX3 38 "Ferryroster$Person" "allHours" "I" : Jvm.Cond) ∈ lw_good := by decide +kernel
set_option maxRecDepth 100000 in
theorem lb_f4_22 : (Jvm.Cond.fieldLink RX4 22 "Ferryroster$Sailing" "ship" "LFerryroster$Ship;" : Jvm.Cond) ∈ lw_good := by decide +kernel
set_option maxRecDepth 100000 in
theorem lb_f4_26 : (Jvm.Cond.fieldLink RX4 26 "Ferryroster$Sailing" "start" "I" : Jvm.Cond) ∈ lw_good := by decide +kernel
set_option maxRecDepth 100000 in
theorem lb_f4_30 : (Jvm.Cond.fieldLink RX4 30 "Ferryroster$Sailing" "end" "I" : Jvm.Cond) ∈ lw_good := by decide +kernel
set_option maxRecDepth 100000 in
theorem lb_f4_9 : (Jvm.Cond.fieldLink RX4 9 "Ferryroster$Sailing" "state" "C" : Jvm.Cond) ∈ lw_good := by decide +kernel
set_option maxRecDepth 100000 in
theorem lb_f4_15 : (Jvm.Cond.fieldLink RX4 15 "Ferryroster$Sailing" "crew" "[I" : Jvm.Cond) ∈ lw_good := by decide +kernel
set_option maxRecDepth 100000 in
theorem lb_f4_19 : (Jvm.Cond.fieldLink RX4 19 "Ferryroster$Sailing" "crewKept" "[I" : Jvm.Cond) ∈ lw_good := by decide +kernel
set_option maxRecDepth 100000 in
theorem lb_f5_9 : (Jvm.Cond.fieldLink RX5 9 "Ferryroster$Ship" "kinds" "[I" : Jvm.Cond) ∈ lw_good := by decide +kernel
set_option maxRecDepth 100000 in
theorem lb_f5_15 : (Jvm.Cond.fieldLink RX5 15 "Ferryroster$Ship" "posts" "I" : Jvm.Cond) ∈ lw_good := by decide +kernel
set_option maxRecDepth 100000 in
theorem lb_f5_19 : (Jvm.Cond.fieldLink RX5 19 "Ferryroster$Ship" "hasSailings" "Z" : Jvm.Cond) ∈ lw_good := by decide +kernel
set_option maxRecDepth 100000 in
theorem lb_k3_9 : (Jvm.Cond.classLink RX3 9 RX1 : Jvm.Cond) ∈ lw_good := by decide +kernel
set_option maxRecDepth 100000 in
theorem lb_i1 : (Jvm.Cond.instantiable RX1 1 : Jvm.Cond) ∈ lw_good := by decide +kernel
set_option maxRecDepth 100000 in
theorem lb_n1 : (Jvm.Cond.initialized RX1 : Jvm.Cond) ∈ lw_good := by decide +kernel
set_option maxRecDepth 100000 in
theorem lb_m1 : (Jvm.Cond.instanceMethod yX1_init : Jvm.Cond) ∈ lw_good := by decide +kernel
set_option maxRecDepth 100000 in
theorem lb_c1 : (Jvm.Cond.code yX1_init cX1_init 1 none : Jvm.Cond) ∈ lw_good := by decide +kernel
set_option maxRecDepth 100000 in
theorem lb_nest : (Jvm.Cond.methodLinkNest RX3 11 yX1_init "Ferryroster" : Jvm.Cond) ∈ lw_tbl := by decide +kernel
set_option maxRecDepth 100000 in
theorem lb_i3 : (Jvm.Cond.instantiable RX3 9 : Jvm.Cond) ∈ lw_good := by decide +kernel
set_option maxRecDepth 100000 in
theorem lb_n3 : (Jvm.Cond.initialized RX3 : Jvm.Cond) ∈ lw_good := by decide +kernel
set_option maxRecDepth 100000 in
theorem lb_m3 : (Jvm.Cond.instanceMethod yX3_init : Jvm.Cond) ∈ lw_good := by decide +kernel
set_option maxRecDepth 100000 in
theorem lb_c3 : (Jvm.Cond.code yX3_init cX3_init 3 none : Jvm.Cond) ∈ lw_good := by decide +kernel
set_option maxRecDepth 100000 in
theorem lb_i4 : (Jvm.Cond.instantiable RX4 6 : Jvm.Cond) ∈ lw_good := by decide +kernel
set_option maxRecDepth 100000 in
theorem lb_n4 : (Jvm.Cond.initialized RX4 : Jvm.Cond) ∈ lw_good := by decide +kernel
set_option maxRecDepth 100000 in
theorem lb_m4 : (Jvm.Cond.instanceMethod yX4_init : Jvm.Cond) ∈ lw_good := by decide +kernel
set_option maxRecDepth 100000 in
theorem lb_c4 : (Jvm.Cond.code yX4_init cX4_init 5 none : Jvm.Cond) ∈ lw_good := by decide +kernel
set_option maxRecDepth 100000 in
theorem lb_i5 : (Jvm.Cond.instantiable RX5 3 : Jvm.Cond) ∈ lw_good := by decide +kernel
set_option maxRecDepth 100000 in
theorem lb_n5 : (Jvm.Cond.initialized RX5 : Jvm.Cond) ∈ lw_good := by decide +kernel
set_option maxRecDepth 100000 in
theorem lb_m5 : (Jvm.Cond.instanceMethod yX5_init : Jvm.Cond) ∈ lw_good := by decide +kernel
set_option maxRecDepth 100000 in
theorem lb_c5 : (Jvm.Cond.code yX5_init cX5_init 2 none : Jvm.Cond) ∈ lw_good := by decide +kernel
def qb_1 : mMeth := (yX1_init, cX1_init, 1, none, 1, false, 0, 0, 5)
def qb_3 : mMeth := (yX3_init, cX3_init, 3, none, 2, false, 0, 0, 7)
def qb_4 : mMeth := (yX4_init, cX4_init, 5, none, 4, false, 0, 0, 8)
def qb_5 : mMeth := (yX5_init, cX5_init, 2, none, 2, false, 0, 0, 9)
theorem lint_cls {E : mEnv} {S : mStr} {s : State} {cA : ClassId} (T : lT E S s) (h : va_RA s cA .int) : cA = eC E 0 := by
  have h2 : va_RA s (eC E 0) .int := (T.1.1.2 0 _ rfl).2
  have h1 : s.vm.findClass ("[" ++ FieldType.int.toString) = some cA := h
  have h3 : s.vm.findClass ("[" ++ FieldType.int.toString) = some (eC E 0) := h2
  exact Option.some.inj (h1.symm.trans h3)
/-- a cell that is as it was -/
theorem keep_P {D : va_G} {A : Nat → Prop} {ws : va_W} {H H1 : Heap} {i d : Nat} {e : va_E} (hP : va_P D vwCl ws H) (hD : va_D A ws) (hi : ws[i]? = some (d, e)) (hat : va_at D vwCl (d, e) H1) (hk : ∀ q : Nat, q < H.size → ¬ q = d → H1[q]? = H[q]?) : va_P D vwCl ws H1 := by
  intro k q hq
  by_cases h : q.1 = d
  · have := hD.1 k i q (d, e) hq hi h
    subst this
    rw [hi] at hq
    cases hq
    exact hat
  · exact (hP k q hq).kept (hk _ (hP k q hq).lt h)
def AC (q0 sz : Nat) : Nat → Prop := fun q => q = q0 ∨ sz ≤ q
set_option maxHeartbeats 4000000 in
set_option maxRecDepth 100000 in
/-- Days() -/
theorem c_days (l : Launch) (E : mEnv) (S : mStr) {sz q0 : Nat} : Met l (qY qb_1) (qWs qb_1) (lR 1 0 0) (lP E S sz [.ref q0] (fun H => va_at (eD E) vwCl (q0, .inr (5, [.long 0])) H)) (va_Qv (fun _ : Unit => True) (fun _ t => va_at (eD E) vwCl (q0, .inr (5, [.long 0])) t.heap) (fun q : Nat => q = q0)) 0 0 (fun q : Nat => q = q0) := by
  refine Met.ofW (cc := cX1_init) (maxL := 1) (ret := none) (by decide) rfl ?_
  intro p e s m args below meth c s₁ B hml hv
  obtain ⟨rfl, T, hsz, hw⟩ := hv
  subst hsz
  have hx := B.exec
  have hb := B.bytes
  have hr := B.returns
  have hts := fun w hw => atoms_spec (ws := qWs qb_1) B.pre w (List.mem_cons_of_mem _ hw)
  have hown : s.vm.findClass RX1 = some m.cls := findClass_of_methodNamed B.named
  have hlocks := B.notSynchronized
  have X : lC E S p s m c cX1_init 1 _ RX1 := ⟨⟨hx, hb, hml, hown, hts⟩, T⟩
  have hS : va_S (fun q : Nat => q = q0) s.heap s.heap [] := va_S.rf
  have hl := lv_entry ([.ref q0]) (n := 1) (Nat.le_of_ble_eq_true rfl)
  rw [lg_entry_eq]
  generalize (lg_sl ([.ref q0]) ++ List.replicate (1 - (lg_sl ([.ref q0])).length) Slot.unset).toArray = ls at hl ⊢
  have hl : lv_has ls 1 [(0, .ref q0)] := hl
  refine lv_aload_n hx hb dX1_init_0 rfl (lv_at hl 0 rfl) ?_
  refine W.objInit hx hb hown (hts _ lb_o1) (hts _ lb_oi) (hts _ lb_oc) rfl (by rw [hml]; exact hl.1) rfl dX1_init_1 (Nat.le_of_ble_eq_true rfl) (Nat.le_of_ble_eq_true rfl) ?_
  refine W.eq (g2 := F0 m 4 ls []) rfl ?_
  refine lv_aload_n hx hb dX1_init_4 rfl (lv_at hl 0 rfl) ?_
  refine lv_lconst (v := 0) hx hb dX1_init_5 (by decide) ?_
  refine mw_put (D := eD E) (ci := 5) (v := .long 0) (ty := .long) (C := RX1) (T := TX1) (N := 1) hx hb hts gw_X1 tyX1 tyX1_ok nmX1 hown T.1.1 hS hw rfl rfl 0 (by decide) (hts _ lb_f1_9) (fun _ h9 => h9) rfl (by decide +kernel) rfl rfl (Nat.le_of_ble_eq_true rfl) dX1_init_6 (fun H1 locs1 hat z oq hS => ?_)
  exact W.vret hx hb hr (fun t ht hW => ⟨⟨(), rfl, trivial, by subst ht; exact hat⟩, hS.F ht⟩) hS.2.2 dX1_init_9
section Llt_per
variable {p : Program} {l : Launch} {e : Env} {R : Room} {s : State} {m : MethodId} {args : Array Value} {below : List Frame} {meth : Method} {c : Code} {cells slots : Nat} {Q : State → Prop}
variable {E : mEnv} {S : mStr} {A : Nat → Prop} {H0 : Heap} {q0 d1 d2 r4 r5 r6 : Nat} {n0 : Int32}
theorem lt_per (X : lC E S p s m c cX3_init 3 args RX3) (kk : ∀ (H1 : Heap) (locs1 : List Loc) (ls : Array Slot), va_P (eD E) vwCl [(q0, .inr (7, [.int n0, .ref d1, .ref d2, .ref r4, .ref r5, .int (-1), .int (-1), .ref r6, .int 0])), (d1, .inr (5, [.long 0])), (d2, .inr (5, [.long 0])), (r4, .inl (eC E 0, 4, .inl (fun _ => 0))), (r5, .inl (eC E 0, 4, .inl (fun i => if i < 4 then -1 else 0))), (r6, .inl (eC E 0, 1000, .inl (fun _ => 0)))] H1 → va_D A [(q0, .inr (7, [.int n0, .ref d1, .ref d2, .ref r4, .ref r5, .int (-1), .int (-1), .ref r6, .int 0])), (d1, .inr (5, [.long 0])), (d2, .inr (5, [.long 0])), (r4, .inl (eC E 0, 4, .inl (fun _ => 0))), (r5, .inl (eC E 0, 4, .inl (fun i => if i < 4 then -1 else 0))), (r6, .inl (eC E 0, 1000, .inl (fun _ => 0)))] → va_S A H0 H1 locs1 → W p l e R s m args below meth c H1 locs1 cells slots Q (F0 m 93 ls [])) :
    ∀ (t j : Nat), j + t = 4 → ∀ (H : Heap) (locs : List Loc) (ls : Array Slot), va_P (eD E) vwCl [(q0, .inr (7, [.int n0, .ref d1, .ref d2, .ref r4, .ref r5, .int (-1), .int (-1), .ref r6, .int 0])), (d1, .inr (5, [.long 0])), (d2, .inr (5, [.long 0])), (r4, .inl (eC E 0, 4, .inl (fun _ => 0))), (r5, .inl (eC E 0, 4, .inl (fun i => if i < j then -1 else 0))), (r6, .inl (eC E 0, 1000, .inl (fun _ => 0)))] H → va_D A [(q0, .inr (7, [.int n0, .ref d1, .ref d2, .ref r4, .ref r5, .int (-1), .int (-1), .ref r6, .int 0])), (d1, .inr (5, [.long 0])), (d2, .inr (5, [.long 0])), (r4, .inl (eC E 0, 4, .inl (fun _ => 0))), (r5, .inl (eC E 0, 4, .inl (fun i => if i < j then -1 else 0))), (r6, .inl (eC E 0, 1000, .inl (fun _ => 0)))] → va_S A H0 H locs → lv_has ls 3 [(0, .ref q0), (1, .int n0), (2, .int (nI j))] → W p l e R s m args below meth c H locs cells slots Q (F0 m 71 ls []) := by
  have hx := X.1.1
  have hb := X.1.2.1
  have hts := X.1.2.2.2.2
  have hown := X.1.2.2.2.1
  have T := X.2
  intro t
  induction t with
  | zero =>
    intro j hj H locs ls hP hD hS hl
    have ej : j = 4 := by omega
    subst ej
    refine lv_iload_n hx hb dX3_init_71 rfl (lv_at hl 2 rfl) ?_
    refine lv_aload_n hx hb dX3_init_72 rfl (lv_at hl 0 rfl) ?_
    refine va_get (D := eD E) (ci := 7) (v := .ref r5) (C := RX3) (T := TX3) (N := 9) hx hb hts gw_X3 hown T.1.1 hP 0 rfl rfl 4 (by decide) (hts _ lb_f3_25) (fun _ h9 => h9) rfl dX3_init_73 ?_
    refine va_alen (v := nI 4) hx hb T.1.1 hP 4 0 rfl rfl rfl dX3_init_76 ?_
    refine lv_icmp_ge (tgt := 93) hx hb dX3_init_77 (by decide) (fun c1 => ?_) (fun c1 => absurd (nI_le (Nat.le_refl _) (by omega)) c1)
    exact kk H locs ls hP hD hS
  | succ t ih =>
    intro j hj H locs ls hP hD hS hl
    refine lv_iload_n hx hb dX3_init_71 rfl (lv_at hl 2 rfl) ?_
    refine lv_aload_n hx hb dX3_init_72 rfl (lv_at hl 0 rfl) ?_
    refine va_get (D := eD E) (ci := 7) (v := .ref r5) (C := RX3) (T := TX3) (N := 9) hx hb hts gw_X3 hown T.1.1 hP 0 rfl rfl 4 (by decide) (hts _ lb_f3_25) (fun _ h9 => h9) rfl dX3_init_73 ?_
    refine va_alen (v := nI 4) hx hb T.1.1 hP 4 0 rfl rfl rfl dX3_init_76 ?_
    refine lv_icmp_ge (tgt := 93) hx hb dX3_init_77 (by decide) (fun c1 => absurd c1 (nI_ge (by omega) (by omega))) (fun c1 => ?_)
    refine lv_aload_n hx hb dX3_init_80 rfl (lv_at hl 0 rfl) ?_
    refine va_get (D := eD E) (ci := 7) (v := .ref r5) (C := RX3) (T := TX3) (N := 9) hx hb hts gw_X3 hown T.1.1 hP 0 rfl rfl 4 (by decide) (hts _ lb_f3_25) (fun _ h9 => h9) rfl dX3_init_81 ?_
    refine lv_iload_n hx hb dX3_init_84 rfl (lv_at hl 2 rfl) ?_
    refine lv_iconst (v := -1) hx hb dX3_init_85 (by decide) ?_
    refine va_iast (D := eD E) hx hb T.1.1 hP hD hS 4 0 rfl rfl (vp_in_nI (n := j) (N := 4) (by omega) (by omega)) dX3_init_86 (fun H1 locs1 hP hD hS => ?_)
    have ef : upd (fun i => if i < j then (-1 : Int32) else 0) (nI j).toNatClampNeg (-1) = fun i => if i < j + 1 then -1 else 0 := by
      rw [nI_clamp (by omega)]
      funext k
      unfold upd
      by_cases h1 : k = j
      · rw [if_pos h1, if_pos (by omega)]
      · rw [if_neg h1]
        dsimp only
        by_cases h2 : k < j
        · rw [if_pos h2, if_pos (by omega)]
        · rw [if_neg h2, if_neg (by omega)]
    rw [ef] at hP hD
    have hP : va_P (eD E) vwCl [(q0, .inr (7, [.int n0, .ref d1, .ref d2, .ref r4, .ref r5, .int (-1), .int (-1), .ref r6, .int 0])), (d1, .inr (5, [.long 0])), (d2, .inr (5, [.long 0])), (r4, .inl (eC E 0, 4, .inl (fun _ => 0))), (r5, .inl (eC E 0, 4, .inl (fun i => if i < (j + 1) then -1 else 0))), (r6, .inl (eC E 0, 1000, .inl (fun _ => 0)))] H1 := hP
    have hD : va_D A [(q0, .inr (7, [.int n0, .ref d1, .ref d2, .ref r4, .ref r5, .int (-1), .int (-1), .ref r6, .int 0])), (d1, .inr (5, [.long 0])), (d2, .inr (5, [.long 0])), (r4, .inl (eC E 0, 4, .inl (fun _ => 0))), (r5, .inl (eC E 0, 4, .inl (fun i => if i < (j + 1) then -1 else 0))), (r6, .inl (eC E 0, 1000, .inl (fun _ => 0)))] := hD
    refine lv_iinc (v := nI (j + 1)) (lv' := [(2, .int (nI (j + 1))), (0, .ref q0), (1, .int n0)]) hx hb dX3_init_87 hl (k := 2) rfl (nI_1 j) (by decide) rfl (fun ls hl => ?_)
    refine lv_goto (tgt := 71) hx hb dX3_init_90 (by decide) ?_
    exact ih (j + 1) (by omega) H1 locs1 ls hP hD hS (lv_sub hl [1, 2, 0] rfl)
end Llt_per
section Llt_sai
variable {p : Program} {l : Launch} {e : Env} {R : Room} {s : State} {m : MethodId} {args : Array Value} {below : List Frame} {meth : Method} {c : Code} {cells slots : Nat} {Q : State → Prop}
variable {E : mEnv} {S : mStr} {A : Nat → Prop} {H0 : Heap} {q0 sh r10 r11 : Nat} {a0 b0 : Int32}
theorem lt_sai (X : lC E S p s m c cX4_init 5 args RX4) (kk : ∀ (H1 : Heap) (locs1 : List Loc) (ls : Array Slot), va_P (eD E) vwCl [(q0, .inr (8, [.ref sh, .int a0, .int b0, .int 112, .ref r10, .ref r11])), (r10, .inl (eC E 0, 3, .inl (fun i => if i < 3 then -1 else 0))), (r11, .inl (eC E 0, 3, .inl (fun _ => 0)))] H1 → va_D A [(q0, .inr (8, [.ref sh, .int a0, .int b0, .int 112, .ref r10, .ref r11])), (r10, .inl (eC E 0, 3, .inl (fun i => if i < 3 then -1 else 0))), (r11, .inl (eC E 0, 3, .inl (fun _ => 0)))] → va_S A H0 H1 locs1 → W p l e R s m args below meth c H1 locs1 cells slots Q (F0 m 66 ls [])) :
    ∀ (t j : Nat), j + t = 3 → ∀ (H : Heap) (locs : List Loc) (ls : Array Slot), va_P (eD E) vwCl [(q0, .inr (8, [.ref sh, .int a0, .int b0, .int 112, .ref r10, .ref r11])), (r10, .inl (eC E 0, 3, .inl (fun i => if i < j then -1 else 0))), (r11, .inl (eC E 0, 3, .inl (fun _ => 0)))] H → va_D A [(q0, .inr (8, [.ref sh, .int a0, .int b0, .int 112, .ref r10, .ref r11])), (r10, .inl (eC E 0, 3, .inl (fun i => if i < j then -1 else 0))), (r11, .inl (eC E 0, 3, .inl (fun _ => 0)))] → va_S A H0 H locs → lv_has ls 5 [(0, .ref q0), (1, .ref sh), (2, .int a0), (3, .int b0), (4, .int (nI j))] → W p l e R s m args below meth c H locs cells slots Q (F0 m 42 ls []) := by
  have hx := X.1.1
  have hb := X.1.2.1
  have hts := X.1.2.2.2.2
  have hown := X.1.2.2.2.1
  have T := X.2
  intro t
  induction t with
  | zero =>
    intro j hj H locs ls hP hD hS hl
    have ej : j = 3 := by omega
    subst ej
    refine lv_iload hx hb dX4_init_42 (lv_at hl 4 rfl) ?_
    refine lv_aload_n hx hb dX4_init_44 rfl (lv_at hl 0 rfl) ?_
    refine va_get (D := eD E) (ci := 8) (v := .ref r10) (C := RX4) (T := TX4) (N := 6) hx hb hts gw_X4 hown T.1.1 hP 0 rfl rfl 4 (by decide) (hts _ lb_f4_15) (fun _ h9 => h9) rfl dX4_init_45 ?_
    refine va_alen (v := nI 3) hx hb T.1.1 hP 1 0 rfl rfl rfl dX4_init_48 ?_
    refine lv_icmp_ge (tgt := 66) hx hb dX4_init_49 (by decide) (fun c1 => ?_) (fun c1 => absurd (nI_le (Nat.le_refl _) (by omega)) c1)
    exact kk H locs ls hP hD hS
  | succ t ih =>
    intro j hj H locs ls hP hD hS hl
    refine lv_iload hx hb dX4_init_42 (lv_at hl 4 rfl) ?_
    refine lv_aload_n hx hb dX4_init_44 rfl (lv_at hl 0 rfl) ?_
    refine va_get (D := eD E) (ci := 8) (v := .ref r10) (C := RX4) (T := TX4) (N := 6) hx hb hts gw_X4 hown T.1.1 hP 0 rfl rfl 4 (by decide) (hts _ lb_f4_15) (fun _ h9 => h9) rfl dX4_init_45 ?_
    refine va_alen (v := nI 3) hx hb T.1.1 hP 1 0 rfl rfl rfl dX4_init_48 ?_
    refine lv_icmp_ge (tgt := 66) hx hb dX4_init_49 (by decide) (fun c1 => absurd c1 (nI_ge (by omega) (by omega))) (fun c1 => ?_)
    refine lv_aload_n hx hb dX4_init_52 rfl (lv_at hl 0 rfl) ?_
    refine va_get (D := eD E) (ci := 8) (v := .ref r10) (C := RX4) (T := TX4) (N := 6) hx hb hts gw_X4 hown T.1.1 hP 0 rfl rfl 4 (by decide) (hts _ lb_f4_15) (fun _ h9 => h9) rfl dX4_init_53 ?_
    refine lv_iload hx hb dX4_init_56 (lv_at hl 4 rfl) ?_
    refine lv_iconst (v := -1) hx hb dX4_init_58 (by decide) ?_
    refine va_iast (D := eD E) hx hb T.1.1 hP hD hS 1 0 rfl rfl (vp_in_nI (n := j) (N := 3) (by omega) (by omega)) dX4_init_59 (fun H1 locs1 hP hD hS => ?_)
    have ef : upd (fun i => if i < j then (-1 : Int32) else 0) (nI j).toNatClampNeg (-1) = fun i => if i < j + 1 then -1 else 0 := by
      rw [nI_clamp (by omega)]
      funext k
      unfold upd
      by_cases h1 : k = j
      · rw [if_pos h1, if_pos (by omega)]
      · rw [if_neg h1]
        dsimp only
        by_cases h2 : k < j
        · rw [if_pos h2, if_pos (by omega)]
        · rw [if_neg h2, if_neg (by omega)]
    rw [ef] at hP hD
    have hP : va_P (eD E) vwCl [(q0, .inr (8, [.ref sh, .int a0, .int b0, .int 112, .ref r10, .ref r11])), (r10, .inl (eC E 0, 3, .inl (fun i => if i < (j + 1) then -1 else 0))), (r11, .inl (eC E 0, 3, .inl (fun _ => 0)))] H1 := hP
    have hD : va_D A [(q0, .inr (8, [.ref sh, .int a0, .int b0, .int 112, .ref r10, .ref r11])), (r10, .inl (eC E 0, 3, .inl (fun i => if i < (j + 1) then -1 else 0))), (r11, .inl (eC E 0, 3, .inl (fun _ => 0)))] := hD
    refine lv_iinc (v := nI (j + 1)) (lv' := [(4, .int (nI (j + 1))), (0, .ref q0), (1, .ref sh), (2, .int a0), (3, .int b0)]) hx hb dX4_init_60 hl (k := 4) rfl (nI_1 j) (by decide) rfl (fun ls hl => ?_)
    refine lv_goto (tgt := 42) hx hb dX4_init_63 (by decide) ?_
    exact ih (j + 1) (by omega) H1 locs1 ls hP hD hS (lv_sub hl [1, 2, 3, 4, 0] rfl)
end Llt_sai
set_option maxHeartbeats 4000000 in
set_option maxRecDepth 100000 in
/-- Person(number) -/
theorem c_pers (l : Launch) (E : mEnv) (S : mStr) {sz q0 : Nat} {n0 : Int32} (hq0 : eN E ≤ q0) : Met l (qY qb_3) (qWs qb_3) (lR 2 5 1010) (lP E S sz [.ref q0, .int n0] (fun H => va_at (eD E) vwCl (q0, .inr (7, [.int 0, .null, .null, .null, .null, .int 0, .int 0, .null, .int 0])) H)) (va_Qv (fun _ : Nat × Nat × Nat × Nat × Nat => True) (fun u t => match u with | (d1, d2, r4, r5, r6) => va_P (eD E) vwCl [(q0, .inr (7, [.int n0, .ref d1, .ref d2, .ref r4, .ref r5, .int (-1), .int (-1), .ref r6, .int 0])), (d1, .inr (5, [.long 0])), (d2, .inr (5, [.long 0])), (r4, .inl (eC E 0, 4, .inl (fun _ => 0))), (r5, .inl (eC E 0, 4, .inl (fun i => if i < 4 then -1 else 0))), (r6, .inl (eC E 0, 1000, .inl (fun _ => 0)))] t.heap ∧ va_D (AC q0 sz) [(q0, .inr (7, [.int n0, .ref d1, .ref d2, .ref r4, .ref r5, .int (-1), .int (-1), .ref r6, .int 0])), (d1, .inr (5, [.long 0])), (d2, .inr (5, [.long 0])), (r4, .inl (eC E 0, 4, .inl (fun _ => 0))), (r5, .inl (eC E 0, 4, .inl (fun i => if i < 4 then -1 else 0))), (r6, .inl (eC E 0, 1000, .inl (fun _ => 0)))]) (AC q0 sz)) 5 1010 (AC q0 sz) := by
  refine Met.ofW (cc := cX3_init) (maxL := 3) (ret := none) (by decide) rfl ?_
  intro p e s m args below meth c s₁ B hml hv
  obtain ⟨rfl, T, hsz, hw⟩ := hv
  subst hsz
  have hx := B.exec
  have hb := B.bytes
  have hr := B.returns
  have hts := fun w hw => atoms_spec (ws := qWs qb_3) B.pre w (List.mem_cons_of_mem _ hw)
  have hown : s.vm.findClass RX3 = some m.cls := findClass_of_methodNamed B.named
  have hlocks := B.notSynchronized
  have X : lC E S p s m c cX3_init 3 _ RX3 := ⟨⟨hx, hb, hml, hown, hts⟩, T⟩
  have hS : va_S (AC q0 s.heap.size) s.heap s.heap [] := va_S.rf
  have hl := lv_entry ([.ref q0, .int n0]) (n := 3) (Nat.le_of_ble_eq_true rfl)
  rw [lg_entry_eq]
  generalize (lg_sl ([.ref q0, .int n0]) ++ List.replicate (3 - (lg_sl ([.ref q0, .int n0])).length) Slot.unset).toArray = ls at hl ⊢
  have hl : lv_has ls 3 [(0, .ref q0), (1, .int n0)] := hl
  have hin : meth.name = "<init>" := (name_of_methodNamed B.named B.method).1
  have hA : ∀ q : Nat, s.heap.size ≤ q → AC q0 s.heap.size q := fun q h => Or.inr h
  have hFE : ∀ q, AC q0 s.heap.size q → eN E ≤ q := fun q h => h.elim (fun h => by rw [h]; exact hq0) (fun h => Nat.le_trans T.2.1 h)
  have hP : va_P (eD E) vwCl [(q0, .inr (7, [.int 0, .null, .null, .null, .null, .int 0, .int 0, .null, .int 0]))] s.heap := one_P hw
  have hD : va_D (AC q0 s.heap.size) [(q0, .inr (7, [.int 0, .null, .null, .null, .null, .int 0, .int 0, .null, .int 0]))] := one_D (Or.inl rfl)
  refine lv_aload_n hx hb dX3_init_0 rfl (lv_at hl 0 rfl) ?_
  refine W.objInit hx hb hown (hts _ lb_o3) (hts _ lb_oi) (hts _ lb_oc) rfl (by rw [hml]; exact hl.1) rfl dX3_init_1 (Nat.le_of_ble_eq_true rfl) (Nat.le_of_ble_eq_true rfl) ?_
  refine W.eq (g2 := F0 m 4 ls []) rfl ?_
  refine lv_aload_n hx hb dX3_init_4 rfl (lv_at hl 0 rfl) ?_
  refine va_new (ci := 5) (fs := [.long 0]) (C := RX1) (T := TX1) (N := 1) hx hb hts gw_X1 tyX1 tyX1_ok hown (hts _ lb_k3_9) (hts _ lb_i1) (hts _ lb_n1) T.1.1 hP hD hS hA rfl (fun j hj => by rcases (show j = 0 by omega) with rfl <;> rfl) (Nat.le_of_ble_eq_true rfl) (Nat.le_of_ble_eq_true rfl) dX3_init_5 (fun d1 H hP hD hS => ?_)
  have hP : va_P (eD E) vwCl [(q0, .inr (7, [.int 0, .null, .null, .null, .null, .int 0, .int 0, .null, .int 0])), (d1, .inr (5, [.long 0]))] H := hP
  have hD : va_D (AC q0 s.heap.size) [(q0, .inr (7, [.int 0, .null, .null, .null, .null, .int 0, .int 0, .null, .int 0])), (d1, .inr (5, [.long 0]))] := hD
  refine lv_dup hx hb dX3_init_8 rfl ?_
  have hB9 := T.2.S hFE hS
  refine va_callv (va_runIN (As := []) (rest := [.ref d1, .ref q0]) X.1 (c_days (q0 := d1) (sz := H.size) l E S) ⟨va_cnB 0 hts (qWs_good (q := qb_1) lb_c1) rfl rfl rfl (T.1.2.2.2.2.2.1 _ lb_nest rfl) (hts _ lb_n1) ⟨by decide, by decide, by decide +kernel⟩ ⟨Nat.le_of_ble_eq_true rfl, Nat.le_of_ble_eq_true rfl⟩, rfl, hts _ lb_m1⟩ ⟨lP.blind, fun U hU hW => ⟨rfl, T.warm hB9 hU hW, by rw [hU], by rw [hU]; exact hP 1 _ rfl⟩⟩ rfl rfl hl.1 rfl (lv_room (Nat.le_of_ble_eq_true rfl)) dX3_init_9 ⟨Nat.le_of_ble_eq_true rfl, Nat.le_of_ble_eq_true rfl⟩) hS (fun q _ h => by rw [h]; exact hD.2 1 _ rfl) (fun q h => by rw [h]; exact hD.2 1 _ rfl) (fun u t H1 locs1 ht hvm hw9 hB hz1 hk1 hS => ?_)
  rw [ht] at hB
  have hP := keep_P hP hD (i := 1) rfl hB hk1
  generalize H1 = H at hP hS ⊢
  have hP : va_P (eD E) vwCl [(q0, .inr (7, [.int 0, .null, .null, .null, .null, .int 0, .int 0, .null, .int 0])), (d1, .inr (5, [.long 0]))] H := hP
  have hD : va_D (AC q0 s.heap.size) [(q0, .inr (7, [.int 0, .null, .null, .null, .null, .int 0, .int 0, .null, .int 0])), (d1, .inr (5, [.long 0]))] := hD
  refine va_putF (D := eD E) (ci := 7) (v := .ref d1) (ty := .object "Ferryroster$Days") (C := RX3) (T := TX3) (N := 9) hx hb hts gw_X3 tyX3 tyX3_ok nmX3 hown T.1.1 hP hD hS 0 rfl rfl 1 (by decide) (hts _ lb_f3_12) (fun _ h9 => h9) rfl hin rfl (by decide +kernel) rfl rfl (Nat.le_of_ble_eq_true rfl) dX3_init_12 (fun H locs hP hD hS => ?_)
  have hP : va_P (eD E) vwCl [(q0, .inr (7, [.int 0, .ref d1, .null, .null, .null, .int 0, .int 0, .null, .int 0])), (d1, .inr (5, [.long 0]))] H := hP
  have hD : va_D (AC q0 s.heap.size) [(q0, .inr (7, [.int 0, .ref d1, .null, .null, .null, .int 0, .int 0, .null, .int 0])), (d1, .inr (5, [.long 0]))] := hD
  refine lv_aload_n hx hb dX3_init_15 rfl (lv_at hl 0 rfl) ?_
  refine va_new (ci := 5) (fs := [.long 0]) (C := RX1) (T := TX1) (N := 1) hx hb hts gw_X1 tyX1 tyX1_ok hown (hts _ lb_k3_9) (hts _ lb_i1) (hts _ lb_n1) T.1.1 hP hD hS hA rfl (fun j hj => by rcases (show j = 0 by omega) with rfl <;> rfl) (Nat.le_of_ble_eq_true rfl) (Nat.le_of_ble_eq_true rfl) dX3_init_16 (fun d2 H hP hD hS => ?_)
  have hP : va_P (eD E) vwCl [(q0, .inr (7, [.int 0, .ref d1, .null, .null, .null, .int 0, .int 0, .null, .int 0])), (d1, .inr (5, [.long 0])), (d2, .inr (5, [.long 0]))] H := hP
  have hD : va_D (AC q0 s.heap.size) [(q0, .inr (7, [.int 0, .ref d1, .null, .null, .null, .int 0, .int 0, .null, .int 0])), (d1, .inr (5, [.long 0])), (d2, .inr (5, [.long 0]))] := hD
  refine lv_dup hx hb dX3_init_19 rfl ?_
  have hB9 := T.2.S hFE hS
  refine va_callv (va_runIN (As := []) (rest := [.ref d2, .ref q0]) X.1 (c_days (q0 := d2) (sz := H.size) l E S) ⟨va_cnB 0 hts (qWs_good (q := qb_1) lb_c1) rfl rfl rfl (T.1.2.2.2.2.2.1 _ lb_nest rfl) (hts _ lb_n1) ⟨by decide, by decide, by decide +kernel⟩ ⟨Nat.le_of_ble_eq_true rfl, Nat.le_of_ble_eq_true rfl⟩, rfl, hts _ lb_m1⟩ ⟨lP.blind, fun U hU hW => ⟨rfl, T.warm hB9 hU hW, by rw [hU], by rw [hU]; exact hP 2 _ rfl⟩⟩ rfl rfl hl.1 rfl (lv_room (Nat.le_of_ble_eq_true rfl)) dX3_init_20 ⟨Nat.le_of_ble_eq_true rfl, Nat.le_of_ble_eq_true rfl⟩) hS (fun q _ h => by rw [h]; exact hD.2 2 _ rfl) (fun q h => by rw [h]; exact hD.2 2 _ rfl) (fun u t H1 locs1 ht hvm hw9 hB hz1 hk1 hS => ?_)
  rw [ht] at hB
  have hP := keep_P hP hD (i := 2) rfl hB hk1
  generalize H1 = H at hP hS ⊢
  have hP : va_P (eD E) vwCl [(q0, .inr (7, [.int 0, .ref d1, .null, .null, .null, .int 0, .int 0, .null, .int 0])), (d1, .inr (5, [.long 0])), (d2, .inr (5, [.long 0]))] H := hP
  have hD : va_D (AC q0 s.heap.size) [(q0, .inr (7, [.int 0, .ref d1, .null, .null, .null, .int 0, .int 0, .null, .int 0])), (d1, .inr (5, [.long 0])), (d2, .inr (5, [.long 0]))] := hD
  refine va_putF (D := eD E) (ci := 7) (v := .ref d2) (ty := .object "Ferryroster$Days") (C := RX3) (T := TX3) (N := 9) hx hb hts gw_X3 tyX3 tyX3_ok nmX3 hown T.1.1 hP hD hS 0 rfl rfl 2 (by decide) (hts _ lb_f3_18) (fun _ h9 => h9) rfl hin rfl (by decide +kernel) rfl rfl (Nat.le_of_ble_eq_true rfl) dX3_init_23 (fun H locs hP hD hS => ?_)
  have hP : va_P (eD E) vwCl [(q0, .inr (7, [.int 0, .ref d1, .ref d2, .null, .null, .int 0, .int 0, .null, .int 0])), (d1, .inr (5, [.long 0])), (d2, .inr (5, [.long 0]))] H := hP
  have hD : va_D (AC q0 s.heap.size) [(q0, .inr (7, [.int 0, .ref d1, .ref d2, .null, .null, .int 0, .int 0, .null, .int 0])), (d1, .inr (5, [.long 0])), (d2, .inr (5, [.long 0]))] := hD
  refine lv_aload_n hx hb dX3_init_26 rfl (lv_at hl 0 rfl) ?_
  refine lv_iconst (v := 4) hx hb dX3_init_27 (by decide) ?_
  refine va_newa (atype := .int) (ty := .int) (a0 := (4, .inl (fun _ => 0))) (N' := 4) hx hb (hts _ lb_ai) rfl T.1.1 hP hD hS hA (fun cA => rfl) (by decide) (by decide) (by decide) (Nat.le_of_ble_eq_true rfl) (Nat.le_of_ble_eq_true rfl) dX3_init_28 (fun r4 cA H hK1 hP hD hS => ?_)
  have e9 : cA = eC E 0 := lint_cls T (hK1.2 5 _ rfl).2
  subst e9
  have hP : va_P (eD E) vwCl [(q0, .inr (7, [.int 0, .ref d1, .ref d2, .null, .null, .int 0, .int 0, .null, .int 0])), (d1, .inr (5, [.long 0])), (d2, .inr (5, [.long 0])), (r4, .inl (eC E 0, 4, .inl (fun _ => 0)))] H := hP
  have hD : va_D (AC q0 s.heap.size) [(q0, .inr (7, [.int 0, .ref d1, .ref d2, .null, .null, .int 0, .int 0, .null, .int 0])), (d1, .inr (5, [.long 0])), (d2, .inr (5, [.long 0])), (r4, .inl (eC E 0, 4, .inl (fun _ => 0)))] := hD
  refine va_putF (D := eD E) (ci := 7) (v := .ref r4) (ty := .array .int) (C := RX3) (T := TX3) (N := 9) hx hb hts gw_X3 tyX3 tyX3_ok nmX3 hown T.1.1 hP hD hS 0 rfl rfl 3 (by decide) (hts _ lb_f3_21) (fun _ h9 => h9) rfl hin rfl (by decide +kernel) rfl rfl (Nat.le_of_ble_eq_true rfl) dX3_init_30 (fun H locs hP hD hS => ?_)
  have hP : va_P (eD E) vwCl [(q0, .inr (7, [.int 0, .ref d1, .ref d2, .ref r4, .null, .int 0, .int 0, .null, .int 0])), (d1, .inr (5, [.long 0])), (d2, .inr (5, [.long 0])), (r4, .inl (eC E 0, 4, .inl (fun _ => 0)))] H := hP
  have hD : va_D (AC q0 s.heap.size) [(q0, .inr (7, [.int 0, .ref d1, .ref d2, .ref r4, .null, .int 0, .int 0, .null, .int 0])), (d1, .inr (5, [.long 0])), (d2, .inr (5, [.long 0])), (r4, .inl (eC E 0, 4, .inl (fun _ => 0)))] := hD
  refine lv_aload_n hx hb dX3_init_33 rfl (lv_at hl 0 rfl) ?_
  refine lv_iconst (v := 4) hx hb dX3_init_34 (by decide) ?_
  refine va_newa (atype := .int) (ty := .int) (a0 := (4, .inl (fun _ => 0))) (N' := 4) hx hb (hts _ lb_ai) rfl T.1.1 hP hD hS hA (fun cA => rfl) (by decide) (by decide) (by decide) (Nat.le_of_ble_eq_true rfl) (Nat.le_of_ble_eq_true rfl) dX3_init_35 (fun r5 cA H hK1 hP hD hS => ?_)
  have e9 : cA = eC E 0 := lint_cls T (hK1.2 5 _ rfl).2
  subst e9
  have hP : va_P (eD E) vwCl [(q0, .inr (7, [.int 0, .ref d1, .ref d2, .ref r4, .null, .int 0, .int 0, .null, .int 0])), (d1, .inr (5, [.long 0])), (d2, .inr (5, [.long 0])), (r4, .inl (eC E 0, 4, .inl (fun _ => 0))), (r5, .inl (eC E 0, 4, .inl (fun _ => 0)))] H := hP
  have hD : va_D (AC q0 s.heap.size) [(q0, .inr (7, [.int 0, .ref d1, .ref d2, .ref r4, .null, .int 0, .int 0, .null, .int 0])), (d1, .inr (5, [.long 0])), (d2, .inr (5, [.long 0])), (r4, .inl (eC E 0, 4, .inl (fun _ => 0))), (r5, .inl (eC E 0, 4, .inl (fun _ => 0)))] := hD
  refine va_putF (D := eD E) (ci := 7) (v := .ref r5) (ty := .array .int) (C := RX3) (T := TX3) (N := 9) hx hb hts gw_X3 tyX3 tyX3_ok nmX3 hown T.1.1 hP hD hS 0 rfl rfl 4 (by decide) (hts _ lb_f3_25) (fun _ h9 => h9) rfl hin rfl (by decide +kernel) rfl rfl (Nat.le_of_ble_eq_true rfl) dX3_init_37 (fun H locs hP hD hS => ?_)
  have hP : va_P (eD E) vwCl [(q0, .inr (7, [.int 0, .ref d1, .ref d2, .ref r4, .ref r5, .int 0, .int 0, .null, .int 0])), (d1, .inr (5, [.long 0])), (d2, .inr (5, [.long 0])), (r4, .inl (eC E 0, 4, .inl (fun _ => 0))), (r5, .inl (eC E 0, 4, .inl (fun _ => 0)))] H := hP
  have hD : va_D (AC q0 s.heap.size) [(q0, .inr (7, [.int 0, .ref d1, .ref d2, .ref r4, .ref r5, .int 0, .int 0, .null, .int 0])), (d1, .inr (5, [.long 0])), (d2, .inr (5, [.long 0])), (r4, .inl (eC E 0, 4, .inl (fun _ => 0))), (r5, .inl (eC E 0, 4, .inl (fun _ => 0)))] := hD
  refine lv_aload_n hx hb dX3_init_40 rfl (lv_at hl 0 rfl) ?_
  refine lv_iconst (v := -1) hx hb dX3_init_41 (by decide) ?_
  refine va_put (D := eD E) (ci := 7) (v := .int (-1)) (ty := .int) (C := RX3) (T := TX3) (N := 9) hx hb hts gw_X3 tyX3 tyX3_ok nmX3 hown T.1.1 hP hD hS 0 rfl rfl 5 (by decide) (hts _ lb_f3_28) (fun _ h9 => h9) rfl (by decide +kernel) rfl rfl (Nat.le_of_ble_eq_true rfl) dX3_init_42 (fun H locs hP hD hS => ?_)
  have hP : va_P (eD E) vwCl [(q0, .inr (7, [.int 0, .ref d1, .ref d2, .ref r4, .ref r5, .int (-1), .int 0, .null, .int 0])), (d1, .inr (5, [.long 0])), (d2, .inr (5, [.long 0])), (r4, .inl (eC E 0, 4, .inl (fun _ => 0))), (r5, .inl (eC E 0, 4, .inl (fun _ => 0)))] H := hP
  have hD : va_D (AC q0 s.heap.size) [(q0, .inr (7, [.int 0, .ref d1, .ref d2, .ref r4, .ref r5, .int (-1), .int 0, .null, .int 0])), (d1, .inr (5, [.long 0])), (d2, .inr (5, [.long 0])), (r4, .inl (eC E 0, 4, .inl (fun _ => 0))), (r5, .inl (eC E 0, 4, .inl (fun _ => 0)))] := hD
  refine lv_aload_n hx hb dX3_init_45 rfl (lv_at hl 0 rfl) ?_
  refine lv_iconst (v := -1) hx hb dX3_init_46 (by decide) ?_
  refine va_put (D := eD E) (ci := 7) (v := .int (-1)) (ty := .int) (C := RX3) (T := TX3) (N := 9) hx hb hts gw_X3 tyX3 tyX3_ok nmX3 hown T.1.1 hP hD hS 0 rfl rfl 6 (by decide) (hts _ lb_f3_32) (fun _ h9 => h9) rfl (by decide +kernel) rfl rfl (Nat.le_of_ble_eq_true rfl) dX3_init_47 (fun H locs hP hD hS => ?_)
  have hP : va_P (eD E) vwCl [(q0, .inr (7, [.int 0, .ref d1, .ref d2, .ref r4, .ref r5, .int (-1), .int (-1), .null, .int 0])), (d1, .inr (5, [.long 0])), (d2, .inr (5, [.long 0])), (r4, .inl (eC E 0, 4, .inl (fun _ => 0))), (r5, .inl (eC E 0, 4, .inl (fun _ => 0)))] H := hP
  have hD : va_D (AC q0 s.heap.size) [(q0, .inr (7, [.int 0, .ref d1, .ref d2, .ref r4, .ref r5, .int (-1), .int (-1), .null, .int 0])), (d1, .inr (5, [.long 0])), (d2, .inr (5, [.long 0])), (r4, .inl (eC E 0, 4, .inl (fun _ => 0))), (r5, .inl (eC E 0, 4, .inl (fun _ => 0)))] := hD
  refine lv_aload_n hx hb dX3_init_50 rfl (lv_at hl 0 rfl) ?_
  refine lv_sipush (v := 1000) hx hb dX3_init_51 (by decide) ?_
  refine va_newa (atype := .int) (ty := .int) (a0 := (1000, .inl (fun _ => 0))) (N' := 1000) hx hb (hts _ lb_ai) rfl T.1.1 hP hD hS hA (fun cA => rfl) (by decide) (by decide) (by decide) (Nat.le_of_ble_eq_true rfl) (Nat.le_of_ble_eq_true rfl) dX3_init_54 (fun r6 cA H hK1 hP hD hS => ?_)
  have e9 : cA = eC E 0 := lint_cls T (hK1.2 5 _ rfl).2
  subst e9
  have hP : va_P (eD E) vwCl [(q0, .inr (7, [.int 0, .ref d1, .ref d2, .ref r4, .ref r5, .int (-1), .int (-1), .null, .int 0])), (d1, .inr (5, [.long 0])), (d2, .inr (5, [.long 0])), (r4, .inl (eC E 0, 4, .inl (fun _ => 0))), (r5, .inl (eC E 0, 4, .inl (fun _ => 0))), (r6, .inl (eC E 0, 1000, .inl (fun _ => 0)))] H := hP
  have hD : va_D (AC q0 s.heap.size) [(q0, .inr (7, [.int 0, .ref d1, .ref d2, .ref r4, .ref r5, .int (-1), .int (-1), .null, .int 0])), (d1, .inr (5, [.long 0])), (d2, .inr (5, [.long 0])), (r4, .inl (eC E 0, 4, .inl (fun _ => 0))), (r5, .inl (eC E 0, 4, .inl (fun _ => 0))), (r6, .inl (eC E 0, 1000, .inl (fun _ => 0)))] := hD
  refine va_putF (D := eD E) (ci := 7) (v := .ref r6) (ty := .array .int) (C := RX3) (T := TX3) (N := 9) hx hb hts gw_X3 tyX3 tyX3_ok nmX3 hown T.1.1 hP hD hS 0 rfl rfl 7 (by decide) (hts _ lb_f3_35) (fun _ h9 => h9) rfl hin rfl (by decide +kernel) rfl rfl (Nat.le_of_ble_eq_true rfl) dX3_init_56 (fun H locs hP hD hS => ?_)
  have hP : va_P (eD E) vwCl [(q0, .inr (7, [.int 0, .ref d1, .ref d2, .ref r4, .ref r5, .int (-1), .int (-1), .ref r6, .int 0])), (d1, .inr (5, [.long 0])), (d2, .inr (5, [.long 0])), (r4, .inl (eC E 0, 4, .inl (fun _ => 0))), (r5, .inl (eC E 0, 4, .inl (fun _ => 0))), (r6, .inl (eC E 0, 1000, .inl (fun _ => 0)))] H := hP
  have hD : va_D (AC q0 s.heap.size) [(q0, .inr (7, [.int 0, .ref d1, .ref d2, .ref r4, .ref r5, .int (-1), .int (-1), .ref r6, .int 0])), (d1, .inr (5, [.long 0])), (d2, .inr (5, [.long 0])), (r4, .inl (eC E 0, 4, .inl (fun _ => 0))), (r5, .inl (eC E 0, 4, .inl (fun _ => 0))), (r6, .inl (eC E 0, 1000, .inl (fun _ => 0)))] := hD
  refine lv_aload_n hx hb dX3_init_59 rfl (lv_at hl 0 rfl) ?_
  refine lv_iconst (v := 0) hx hb dX3_init_60 (by decide) ?_
  refine va_put (D := eD E) (ci := 7) (v := .int 0) (ty := .int) (C := RX3) (T := TX3) (N := 9) hx hb hts gw_X3 tyX3 tyX3_ok nmX3 hown T.1.1 hP hD hS 0 rfl rfl 8 (by decide) (hts _ lb_f3_38) (fun _ h9 => h9) rfl (by decide +kernel) rfl rfl (Nat.le_of_ble_eq_true rfl) dX3_init_61 (fun H locs hP hD hS => ?_)
  have hP : va_P (eD E) vwCl [(q0, .inr (7, [.int 0, .ref d1, .ref d2, .ref r4, .ref r5, .int (-1), .int (-1), .ref r6, .int 0])), (d1, .inr (5, [.long 0])), (d2, .inr (5, [.long 0])), (r4, .inl (eC E 0, 4, .inl (fun _ => 0))), (r5, .inl (eC E 0, 4, .inl (fun _ => 0))), (r6, .inl (eC E 0, 1000, .inl (fun _ => 0)))] H := hP
  have hD : va_D (AC q0 s.heap.size) [(q0, .inr (7, [.int 0, .ref d1, .ref d2, .ref r4, .ref r5, .int (-1), .int (-1), .ref r6, .int 0])), (d1, .inr (5, [.long 0])), (d2, .inr (5, [.long 0])), (r4, .inl (eC E 0, 4, .inl (fun _ => 0))), (r5, .inl (eC E 0, 4, .inl (fun _ => 0))), (r6, .inl (eC E 0, 1000, .inl (fun _ => 0)))] := hD
  refine lv_aload_n hx hb dX3_init_64 rfl (lv_at hl 0 rfl) ?_
  refine lv_iload_n hx hb dX3_init_65 rfl (lv_at hl 1 rfl) ?_
  refine va_putF (D := eD E) (ci := 7) (v := .int n0) (ty := .int) (C := RX3) (T := TX3) (N := 9) hx hb hts gw_X3 tyX3 tyX3_ok nmX3 hown T.1.1 hP hD hS 0 rfl rfl 0 (by decide) (hts _ lb_f3_41) (fun _ h9 => h9) rfl hin rfl (by decide +kernel) rfl rfl (Nat.le_of_ble_eq_true rfl) dX3_init_66 (fun H locs hP hD hS => ?_)
  have hP : va_P (eD E) vwCl [(q0, .inr (7, [.int n0, .ref d1, .ref d2, .ref r4, .ref r5, .int (-1), .int (-1), .ref r6, .int 0])), (d1, .inr (5, [.long 0])), (d2, .inr (5, [.long 0])), (r4, .inl (eC E 0, 4, .inl (fun _ => 0))), (r5, .inl (eC E 0, 4, .inl (fun _ => 0))), (r6, .inl (eC E 0, 1000, .inl (fun _ => 0)))] H := hP
  have hD : va_D (AC q0 s.heap.size) [(q0, .inr (7, [.int n0, .ref d1, .ref d2, .ref r4, .ref r5, .int (-1), .int (-1), .ref r6, .int 0])), (d1, .inr (5, [.long 0])), (d2, .inr (5, [.long 0])), (r4, .inl (eC E 0, 4, .inl (fun _ => 0))), (r5, .inl (eC E 0, 4, .inl (fun _ => 0))), (r6, .inl (eC E 0, 1000, .inl (fun _ => 0)))] := hD
  refine lv_iconst (v := nI 0) hx hb dX3_init_69 (by decide) ?_
  refine lv_istore_n (lv' := [(2, .int (nI 0)), (0, .ref q0), (1, .int n0)]) hx hb dX3_init_70 rfl hl (by decide) rfl (fun ls hl => ?_)
  have ef : (fun _ : Nat => (0 : Int32)) = fun i => if i < 0 then -1 else 0 := funext fun i => (if_neg (Nat.not_lt_zero i)).symm
  refine lt_per X (fun H1 locs1 ls hP hD hS => ?_) 4 0 rfl H locs ls (by rw [← ef]; exact hP) (by rw [← ef]; exact hD) hS (lv_sub hl [1, 2, 0] rfl)
  refine W.widen (k := 5) (n := 1010) (Nat.le_of_ble_eq_true rfl) (Nat.le_of_ble_eq_true rfl) ?_
  exact W.vret hx hb hr (fun t ht hW => ⟨⟨(d1, d2, r4, r5, r6), rfl, trivial, by subst ht; exact ⟨hP, hD⟩⟩, hS.F ht⟩) hS.2.2 dX3_init_93
set_option maxHeartbeats 4000000 in
set_option maxRecDepth 100000 in
/-- Ship(kind) -/
theorem c_ship (l : Launch) (E : mEnv) (S : mStr) {sz q0 : Nat} {n0 : Int32} (hq0 : eN E ≤ q0) : Met l (qY qb_5) (qWs qb_5) (lR 2 1 3) (lP E S sz [.ref q0, .int n0] (fun H => va_at (eD E) vwCl (q0, .inr (9, [.null, .int 0, .int 0])) H)) (va_Qv (fun _ : Nat => True) (fun r8 t => va_P (eD E) vwCl [(q0, .inr (9, [.ref r8, .int 1, .int 0])), (r8, .inl (eC E 0, 3, .inl (upd (fun _ => 0) 0 n0)))] t.heap ∧ va_D (AC q0 sz) [(q0, .inr (9, [.ref r8, .int 1, .int 0])), (r8, .inl (eC E 0, 3, .inl (upd (fun _ => 0) 0 n0)))]) (AC q0 sz)) 1 3 (AC q0 sz) := by
  refine Met.ofW (cc := cX5_init) (maxL := 2) (ret := none) (by decide) rfl ?_
  intro p e s m args below meth c s₁ B hml hv
  obtain ⟨rfl, T, hsz, hw⟩ := hv
  subst hsz
  have hx := B.exec
  have hb := B.bytes
  have hr := B.returns
  have hts := fun w hw => atoms_spec (ws := qWs qb_5) B.pre w (List.mem_cons_of_mem _ hw)
  have hown : s.vm.findClass RX5 = some m.cls := findClass_of_methodNamed B.named
  have hlocks := B.notSynchronized
  have X : lC E S p s m c cX5_init 2 _ RX5 := ⟨⟨hx, hb, hml, hown, hts⟩, T⟩
  have hS : va_S (AC q0 s.heap.size) s.heap s.heap [] := va_S.rf
  have hl := lv_entry ([.ref q0, .int n0]) (n := 2) (Nat.le_of_ble_eq_true rfl)
  rw [lg_entry_eq]
  generalize (lg_sl ([.ref q0, .int n0]) ++ List.replicate (2 - (lg_sl ([.ref q0, .int n0])).length) Slot.unset).toArray = ls at hl ⊢
  have hl : lv_has ls 2 [(0, .ref q0), (1, .int n0)] := hl
  have hin : meth.name = "<init>" := (name_of_methodNamed B.named B.method).1
  have hA : ∀ q : Nat, s.heap.size ≤ q → AC q0 s.heap.size q := fun q h => Or.inr h
  have hFE : ∀ q, AC q0 s.heap.size q → eN E ≤ q := fun q h => h.elim (fun h => by rw [h]; exact hq0) (fun h => Nat.le_trans T.2.1 h)
  have hP : va_P (eD E) vwCl [(q0, .inr (9, [.null, .int 0, .int 0]))] s.heap := one_P hw
  have hD : va_D (AC q0 s.heap.size) [(q0, .inr (9, [.null, .int 0, .int 0]))] := one_D (Or.inl rfl)
  refine lv_aload_n hx hb dX5_init_0 rfl (lv_at hl 0 rfl) ?_
  refine W.objInit hx hb hown (hts _ lb_o5) (hts _ lb_oi) (hts _ lb_oc) rfl (by rw [hml]; exact hl.1) rfl dX5_init_1 (Nat.le_of_ble_eq_true rfl) (Nat.le_of_ble_eq_true rfl) ?_
  refine W.eq (g2 := F0 m 4 ls []) rfl ?_
  refine lv_aload_n hx hb dX5_init_4 rfl (lv_at hl 0 rfl) ?_
  refine lv_iconst (v := 3) hx hb dX5_init_5 (by decide) ?_
  refine va_newa (atype := .int) (ty := .int) (a0 := (3, .inl (fun _ => 0))) (N' := 3) hx hb (hts _ lb_ai) rfl T.1.1 hP hD hS hA (fun cA => rfl) (by decide) (by decide) (by decide) (Nat.le_of_ble_eq_true rfl) (Nat.le_of_ble_eq_true rfl) dX5_init_6 (fun r8 cA H hK1 hP hD hS => ?_)
  have e9 : cA = eC E 0 := lint_cls T (hK1.2 5 _ rfl).2
  subst e9
  have hP : va_P (eD E) vwCl [(q0, .inr (9, [.null, .int 0, .int 0])), (r8, .inl (eC E 0, 3, .inl (fun _ => 0)))] H := hP
  have hD : va_D (AC q0 s.heap.size) [(q0, .inr (9, [.null, .int 0, .int 0])), (r8, .inl (eC E 0, 3, .inl (fun _ => 0)))] := hD
  refine va_putF (D := eD E) (ci := 9) (v := .ref r8) (ty := .array .int) (C := RX5) (T := TX5) (N := 3) hx hb hts gw_X5 tyX5 tyX5_ok nmX5 hown T.1.1 hP hD hS 0 rfl rfl 0 (by decide) (hts _ lb_f5_9) (fun _ h9 => h9) rfl hin rfl (by decide +kernel) rfl rfl (Nat.le_of_ble_eq_true rfl) dX5_init_8 (fun H locs hP hD hS => ?_)
  have hP : va_P (eD E) vwCl [(q0, .inr (9, [.ref r8, .int 0, .int 0])), (r8, .inl (eC E 0, 3, .inl (fun _ => 0)))] H := hP
  have hD : va_D (AC q0 s.heap.size) [(q0, .inr (9, [.ref r8, .int 0, .int 0])), (r8, .inl (eC E 0, 3, .inl (fun _ => 0)))] := hD
  refine lv_aload_n hx hb dX5_init_11 rfl (lv_at hl 0 rfl) ?_
  refine lv_iconst (v := 0) hx hb dX5_init_12 (by decide) ?_
  refine va_put (D := eD E) (ci := 9) (v := .int 0) (ty := .int) (C := RX5) (T := TX5) (N := 3) hx hb hts gw_X5 tyX5 tyX5_ok nmX5 hown T.1.1 hP hD hS 0 rfl rfl 1 (by decide) (hts _ lb_f5_15) (fun _ h9 => h9) rfl (by decide +kernel) rfl rfl (Nat.le_of_ble_eq_true rfl) dX5_init_13 (fun H locs hP hD hS => ?_)
  have hP : va_P (eD E) vwCl [(q0, .inr (9, [.ref r8, .int 0, .int 0])), (r8, .inl (eC E 0, 3, .inl (fun _ => 0)))] H := hP
  have hD : va_D (AC q0 s.heap.size) [(q0, .inr (9, [.ref r8, .int 0, .int 0])), (r8, .inl (eC E 0, 3, .inl (fun _ => 0)))] := hD
  refine lv_aload_n hx hb dX5_init_16 rfl (lv_at hl 0 rfl) ?_
  refine lv_iconst (v := 0) hx hb dX5_init_17 (by decide) ?_
  refine va_put (D := eD E) (ci := 9) (v := .int 0) (ty := .boolean) (C := RX5) (T := TX5) (N := 3) hx hb hts gw_X5 tyX5 tyX5_ok nmX5 hown T.1.1 hP hD hS 0 rfl rfl 2 (by decide) (hts _ lb_f5_19) (fun _ h9 => h9) rfl (by decide +kernel) rfl rfl (Nat.le_of_ble_eq_true rfl) dX5_init_18 (fun H locs hP hD hS => ?_)
  have hP : va_P (eD E) vwCl [(q0, .inr (9, [.ref r8, .int 0, .int 0])), (r8, .inl (eC E 0, 3, .inl (fun _ => 0)))] H := hP
  have hD : va_D (AC q0 s.heap.size) [(q0, .inr (9, [.ref r8, .int 0, .int 0])), (r8, .inl (eC E 0, 3, .inl (fun _ => 0)))] := hD
  refine lv_aload_n hx hb dX5_init_21 rfl (lv_at hl 0 rfl) ?_
  refine va_get (D := eD E) (ci := 9) (v := .ref r8) (C := RX5) (T := TX5) (N := 3) hx hb hts gw_X5 hown T.1.1 hP 0 rfl rfl 0 (by decide) (hts _ lb_f5_9) (fun _ h9 => h9) rfl dX5_init_22 ?_
  refine lv_iconst (v := nI 0) hx hb dX5_init_25 (by decide) ?_
  refine lv_iload_n hx hb dX5_init_26 rfl (lv_at hl 1 rfl) ?_
  refine va_iast (D := eD E) hx hb T.1.1 hP hD hS 1 0 rfl rfl (vp_in_nI (n := 0) (N := 3) (by omega) (by omega)) dX5_init_27 (fun H locs hP hD hS => ?_)
  rw [show (nI 0).toNatClampNeg = 0 from by decide] at hP hD
  have hP : va_P (eD E) vwCl [(q0, .inr (9, [.ref r8, .int 0, .int 0])), (r8, .inl (eC E 0, 3, .inl (upd (fun _ => 0) 0 n0)))] H := hP
  have hD : va_D (AC q0 s.heap.size) [(q0, .inr (9, [.ref r8, .int 0, .int 0])), (r8, .inl (eC E 0, 3, .inl (upd (fun _ => 0) 0 n0)))] := hD
  refine lv_aload_n hx hb dX5_init_28 rfl (lv_at hl 0 rfl) ?_
  refine lv_iconst (v := 1) hx hb dX5_init_29 (by decide) ?_
  refine va_put (D := eD E) (ci := 9) (v := .int 1) (ty := .int) (C := RX5) (T := TX5) (N := 3) hx hb hts gw_X5 tyX5 tyX5_ok nmX5 hown T.1.1 hP hD hS 0 rfl rfl 1 (by decide) (hts _ lb_f5_15) (fun _ h9 => h9) rfl (by decide +kernel) rfl rfl (Nat.le_of_ble_eq_true rfl) dX5_init_30 (fun H locs hP hD hS => ?_)
  have hP : va_P (eD E) vwCl [(q0, .inr (9, [.ref r8, .int 1, .int 0])), (r8, .inl (eC E 0, 3, .inl (upd (fun _ => 0) 0 n0)))] H := hP
  have hD : va_D (AC q0 s.heap.size) [(q0, .inr (9, [.ref r8, .int 1, .int 0])), (r8, .inl (eC E 0, 3, .inl (upd (fun _ => 0) 0 n0)))] := hD
  refine W.widen (k := 1) (n := 3) (Nat.le_of_ble_eq_true rfl) (Nat.le_of_ble_eq_true rfl) ?_
  exact W.vret hx hb hr (fun t ht hW => ⟨⟨r8, rfl, trivial, by subst ht; exact ⟨hP, hD⟩⟩, hS.F ht⟩) hS.2.2 dX5_init_33
set_option maxHeartbeats 4000000 in
set_option maxRecDepth 100000 in
/-- Sailing(ship, start, end) -/
theorem c_sail (l : Launch) (E : mEnv) (S : mStr) {sz q0 sh : Nat} {a0 b0 : Int32} (hq0 : eN E ≤ q0) : Met l (qY qb_4) (qWs qb_4) (lR 2 2 6) (lP E S sz [.ref q0, .ref sh, .int a0, .int b0] (fun H => va_at (eD E) vwCl (q0, .inr (8, [.null, .int 0, .int 0, .int 0, .null, .null])) H)) (va_Qv (fun _ : Nat × Nat => True) (fun u t => match u with | (r10, r11) => va_P (eD E) vwCl [(q0, .inr (8, [.ref sh, .int a0, .int b0, .int 112, .ref r10, .ref r11])), (r10, .inl (eC E 0, 3, .inl (fun i => if i < 3 then -1 else 0))), (r11, .inl (eC E 0, 3, .inl (fun _ => 0)))] t.heap ∧ va_D (AC q0 sz) [(q0, .inr (8, [.ref sh, .int a0, .int b0, .int 112, .ref r10, .ref r11])), (r10, .inl (eC E 0, 3, .inl (fun i => if i < 3 then -1 else 0))), (r11, .inl (eC E 0, 3, .inl (fun _ => 0)))]) (AC q0 sz)) 2 6 (AC q0 sz) := by
  refine Met.ofW (cc := cX4_init) (maxL := 5) (ret := none) (by decide) rfl ?_
  intro p e s m args below meth c s₁ B hml hv
  obtain ⟨rfl, T, hsz, hw⟩ := hv
  subst hsz
  have hx := B.exec
  have hb := B.bytes
  have hr := B.returns
  have hts := fun w hw => atoms_spec (ws := qWs qb_4) B.pre w (List.mem_cons_of_mem _ hw)
  have hown : s.vm.findClass RX4 = some m.cls := findClass_of_methodNamed B.named
  have hlocks := B.notSynchronized
  have X : lC E S p s m c cX4_init 5 _ RX4 := ⟨⟨hx, hb, hml, hown, hts⟩, T⟩
  have hS : va_S (AC q0 s.heap.size) s.heap s.heap [] := va_S.rf
  have hl := lv_entry ([.ref q0, .ref sh, .int a0, .int b0]) (n := 5) (Nat.le_of_ble_eq_true rfl)
  rw [lg_entry_eq]
  generalize (lg_sl ([.ref q0, .ref sh, .int a0, .int b0]) ++ List.replicate (5 - (lg_sl ([.ref q0, .ref sh, .int a0, .int b0])).length) Slot.unset).toArray = ls at hl ⊢
  have hl : lv_has ls 5 [(0, .ref q0), (1, .ref sh), (2, .int a0), (3, .int b0)] := hl
  have hin : meth.name = "<init>" := (name_of_methodNamed B.named B.method).1
  have hA : ∀ q : Nat, s.heap.size ≤ q → AC q0 s.heap.size q := fun q h => Or.inr h
  have hFE : ∀ q, AC q0 s.heap.size q → eN E ≤ q := fun q h => h.elim (fun h => by rw [h]; exact hq0) (fun h => Nat.le_trans T.2.1 h)
  have hP : va_P (eD E) vwCl [(q0, .inr (8, [.null, .int 0, .int 0, .int 0, .null, .null]))] s.heap := one_P hw
  have hD : va_D (AC q0 s.heap.size) [(q0, .inr (8, [.null, .int 0, .int 0, .int 0, .null, .null]))] := one_D (Or.inl rfl)
  refine lv_aload_n hx hb dX4_init_0 rfl (lv_at hl 0 rfl) ?_
  refine W.objInit hx hb hown (hts _ lb_o4) (hts _ lb_oi) (hts _ lb_oc) rfl (by rw [hml]; exact hl.1) rfl dX4_init_1 (Nat.le_of_ble_eq_true rfl) (Nat.le_of_ble_eq_true rfl) ?_
  refine W.eq (g2 := F0 m 4 ls []) rfl ?_
  refine lv_aload_n hx hb dX4_init_4 rfl (lv_at hl 0 rfl) ?_
  refine lv_bipush (v := 112) hx hb dX4_init_5 (by decide) ?_
  refine va_put (D := eD E) (ci := 8) (v := .int 112) (ty := .char) (C := RX4) (T := TX4) (N := 6) hx hb hts gw_X4 tyX4 tyX4_ok nmX4 hown T.1.1 hP hD hS 0 rfl rfl 3 (by decide) (hts _ lb_f4_9) (fun _ h9 => h9) rfl (by decide +kernel) rfl rfl (Nat.le_of_ble_eq_true rfl) dX4_init_7 (fun H locs hP hD hS => ?_)
  have hP : va_P (eD E) vwCl [(q0, .inr (8, [.null, .int 0, .int 0, .int 112, .null, .null]))] H := hP
  have hD : va_D (AC q0 s.heap.size) [(q0, .inr (8, [.null, .int 0, .int 0, .int 112, .null, .null]))] := hD
  refine lv_aload_n hx hb dX4_init_10 rfl (lv_at hl 0 rfl) ?_
  refine lv_iconst (v := 3) hx hb dX4_init_11 (by decide) ?_
  refine va_newa (atype := .int) (ty := .int) (a0 := (3, .inl (fun _ => 0))) (N' := 3) hx hb (hts _ lb_ai) rfl T.1.1 hP hD hS hA (fun cA => rfl) (by decide) (by decide) (by decide) (Nat.le_of_ble_eq_true rfl) (Nat.le_of_ble_eq_true rfl) dX4_init_12 (fun r10 cA H hK1 hP hD hS => ?_)
  have e9 : cA = eC E 0 := lint_cls T (hK1.2 5 _ rfl).2
  subst e9
  have hP : va_P (eD E) vwCl [(q0, .inr (8, [.null, .int 0, .int 0, .int 112, .null, .null])), (r10, .inl (eC E 0, 3, .inl (fun _ => 0)))] H := hP
  have hD : va_D (AC q0 s.heap.size) [(q0, .inr (8, [.null, .int 0, .int 0, .int 112, .null, .null])), (r10, .inl (eC E 0, 3, .inl (fun _ => 0)))] := hD
  refine va_putF (D := eD E) (ci := 8) (v := .ref r10) (ty := .array .int) (C := RX4) (T := TX4) (N := 6) hx hb hts gw_X4 tyX4 tyX4_ok nmX4 hown T.1.1 hP hD hS 0 rfl rfl 4 (by decide) (hts _ lb_f4_15) (fun _ h9 => h9) rfl hin rfl (by decide +kernel) rfl rfl (Nat.le_of_ble_eq_true rfl) dX4_init_14 (fun H locs hP hD hS => ?_)
  have hP : va_P (eD E) vwCl [(q0, .inr (8, [.null, .int 0, .int 0, .int 112, .ref r10, .null])), (r10, .inl (eC E 0, 3, .inl (fun _ => 0)))] H := hP
  have hD : va_D (AC q0 s.heap.size) [(q0, .inr (8, [.null, .int 0, .int 0, .int 112, .ref r10, .null])), (r10, .inl (eC E 0, 3, .inl (fun _ => 0)))] := hD
  refine lv_aload_n hx hb dX4_init_17 rfl (lv_at hl 0 rfl) ?_
  refine lv_iconst (v := 3) hx hb dX4_init_18 (by decide) ?_
  refine va_newa (atype := .int) (ty := .int) (a0 := (3, .inl (fun _ => 0))) (N' := 3) hx hb (hts _ lb_ai) rfl T.1.1 hP hD hS hA (fun cA => rfl) (by decide) (by decide) (by decide) (Nat.le_of_ble_eq_true rfl) (Nat.le_of_ble_eq_true rfl) dX4_init_19 (fun r11 cA H hK1 hP hD hS => ?_)
  have e9 : cA = eC E 0 := lint_cls T (hK1.2 5 _ rfl).2
  subst e9
  have hP : va_P (eD E) vwCl [(q0, .inr (8, [.null, .int 0, .int 0, .int 112, .ref r10, .null])), (r10, .inl (eC E 0, 3, .inl (fun _ => 0))), (r11, .inl (eC E 0, 3, .inl (fun _ => 0)))] H := hP
  have hD : va_D (AC q0 s.heap.size) [(q0, .inr (8, [.null, .int 0, .int 0, .int 112, .ref r10, .null])), (r10, .inl (eC E 0, 3, .inl (fun _ => 0))), (r11, .inl (eC E 0, 3, .inl (fun _ => 0)))] := hD
  refine va_putF (D := eD E) (ci := 8) (v := .ref r11) (ty := .array .int) (C := RX4) (T := TX4) (N := 6) hx hb hts gw_X4 tyX4 tyX4_ok nmX4 hown T.1.1 hP hD hS 0 rfl rfl 5 (by decide) (hts _ lb_f4_19) (fun _ h9 => h9) rfl hin rfl (by decide +kernel) rfl rfl (Nat.le_of_ble_eq_true rfl) dX4_init_21 (fun H locs hP hD hS => ?_)
  have hP : va_P (eD E) vwCl [(q0, .inr (8, [.null, .int 0, .int 0, .int 112, .ref r10, .ref r11])), (r10, .inl (eC E 0, 3, .inl (fun _ => 0))), (r11, .inl (eC E 0, 3, .inl (fun _ => 0)))] H := hP
  have hD : va_D (AC q0 s.heap.size) [(q0, .inr (8, [.null, .int 0, .int 0, .int 112, .ref r10, .ref r11])), (r10, .inl (eC E 0, 3, .inl (fun _ => 0))), (r11, .inl (eC E 0, 3, .inl (fun _ => 0)))] := hD
  refine lv_aload_n hx hb dX4_init_24 rfl (lv_at hl 0 rfl) ?_
  refine lv_aload_n hx hb dX4_init_25 rfl (lv_at hl 1 rfl) ?_
  refine va_putF (D := eD E) (ci := 8) (v := .ref sh) (ty := .object "Ferryroster$Ship") (C := RX4) (T := TX4) (N := 6) hx hb hts gw_X4 tyX4 tyX4_ok nmX4 hown T.1.1 hP hD hS 0 rfl rfl 0 (by decide) (hts _ lb_f4_22) (fun _ h9 => h9) rfl hin rfl (by decide +kernel) rfl rfl (Nat.le_of_ble_eq_true rfl) dX4_init_26 (fun H locs hP hD hS => ?_)
  have hP : va_P (eD E) vwCl [(q0, .inr (8, [.ref sh, .int 0, .int 0, .int 112, .ref r10, .ref r11])), (r10, .inl (eC E 0, 3, .inl (fun _ => 0))), (r11, .inl (eC E 0, 3, .inl (fun _ => 0)))] H := hP
  have hD : va_D (AC q0 s.heap.size) [(q0, .inr (8, [.ref sh, .int 0, .int 0, .int 112, .ref r10, .ref r11])), (r10, .inl (eC E 0, 3, .inl (fun _ => 0))), (r11, .inl (eC E 0, 3, .inl (fun _ => 0)))] := hD
  refine lv_aload_n hx hb dX4_init_29 rfl (lv_at hl 0 rfl) ?_
  refine lv_iload_n hx hb dX4_init_30 rfl (lv_at hl 2 rfl) ?_
  refine va_putF (D := eD E) (ci := 8) (v := .int a0) (ty := .int) (C := RX4) (T := TX4) (N := 6) hx hb hts gw_X4 tyX4 tyX4_ok nmX4 hown T.1.1 hP hD hS 0 rfl rfl 1 (by decide) (hts _ lb_f4_26) (fun _ h9 => h9) rfl hin rfl (by decide +kernel) rfl rfl (Nat.le_of_ble_eq_true rfl) dX4_init_31 (fun H locs hP hD hS => ?_)
  have hP : va_P (eD E) vwCl [(q0, .inr (8, [.ref sh, .int a0, .int 0, .int 112, .ref r10, .ref r11])), (r10, .inl (eC E 0, 3, .inl (fun _ => 0))), (r11, .inl (eC E 0, 3, .inl (fun _ => 0)))] H := hP
  have hD : va_D (AC q0 s.heap.size) [(q0, .inr (8, [.ref sh, .int a0, .int 0, .int 112, .ref r10, .ref r11])), (r10, .inl (eC E 0, 3, .inl (fun _ => 0))), (r11, .inl (eC E 0, 3, .inl (fun _ => 0)))] := hD
  refine lv_aload_n hx hb dX4_init_34 rfl (lv_at hl 0 rfl) ?_
  refine lv_iload_n hx hb dX4_init_35 rfl (lv_at hl 3 rfl) ?_
  refine va_putF (D := eD E) (ci := 8) (v := .int b0) (ty := .int) (C := RX4) (T := TX4) (N := 6) hx hb hts gw_X4 tyX4 tyX4_ok nmX4 hown T.1.1 hP hD hS 0 rfl rfl 2 (by decide) (hts _ lb_f4_30) (fun _ h9 => h9) rfl hin rfl (by decide +kernel) rfl rfl (Nat.le_of_ble_eq_true rfl) dX4_init_36 (fun H locs hP hD hS => ?_)
  have hP : va_P (eD E) vwCl [(q0, .inr (8, [.ref sh, .int a0, .int b0, .int 112, .ref r10, .ref r11])), (r10, .inl (eC E 0, 3, .inl (fun _ => 0))), (r11, .inl (eC E 0, 3, .inl (fun _ => 0)))] H := hP
  have hD : va_D (AC q0 s.heap.size) [(q0, .inr (8, [.ref sh, .int a0, .int b0, .int 112, .ref r10, .ref r11])), (r10, .inl (eC E 0, 3, .inl (fun _ => 0))), (r11, .inl (eC E 0, 3, .inl (fun _ => 0)))] := hD
  refine lv_iconst (v := nI 0) hx hb dX4_init_39 (by decide) ?_
  refine lv_istore (lv' := [(4, .int (nI 0)), (0, .ref q0), (1, .ref sh), (2, .int a0), (3, .int b0)]) hx hb dX4_init_40 hl (by decide) rfl (fun ls hl => ?_)
  have ef : (fun _ : Nat => (0 : Int32)) = fun i => if i < 0 then -1 else 0 := funext fun i => (if_neg (Nat.not_lt_zero i)).symm
  refine lt_sai X (fun H1 locs1 ls hP hD hS => ?_) 3 0 rfl H locs ls (by rw [← ef]; exact hP) (by rw [← ef]; exact hD) hS (lv_sub hl [1, 2, 3, 4, 0] rfl)
  refine W.widen (k := 2) (n := 6) (Nat.le_of_ble_eq_true rfl) (Nat.le_of_ble_eq_true rfl) ?_
  exact W.vret hx hb hr (fun t ht hW => ⟨⟨(r10, r11), rfl, trivial, by subst ht; exact ⟨hP, hD⟩⟩, hS.F ht⟩) hS.2.2 dX4_init_66
