/-! THE LAW: its body is the code, in pieces (wip/tools/gen94.py) -/
theorem all_cut {α : Type} {p : α → Bool} {l : List α} {a n : Nat} (h1 : ((l.drop a).take n).all p = true) (h2 : (l.drop (a + n)).all p = true) : (l.drop a).all p = true := by
  rw [← List.take_append_drop n (l.drop a), List.all_append, h1, List.drop_drop, h2]; rfl
set_option maxRecDepth 100000 in
theorem ckl_0 : ((k_300.drop 0).take 3).all (fun b => lblkB P_RL M_ cL_law 1 (some .boolean) 9 b.1 b.2.2) = true := by decide +kernel
set_option maxRecDepth 100000 in
theorem ckl_3 : ((k_300.drop 3).take 3).all (fun b => lblkB P_RL M_ cL_law 1 (some .boolean) 9 b.1 b.2.2) = true := by decide +kernel
set_option maxRecDepth 100000 in
theorem ckl_6 : ((k_300.drop 6).take 3).all (fun b => lblkB P_RL M_ cL_law 1 (some .boolean) 9 b.1 b.2.2) = true := by decide +kernel
set_option maxRecDepth 100000 in
theorem ckl_9 : ((k_300.drop 9).take 3).all (fun b => lblkB P_RL M_ cL_law 1 (some .boolean) 9 b.1 b.2.2) = true := by decide +kernel
set_option maxRecDepth 100000 in
theorem ckl_12 : ((k_300.drop 12).take 3).all (fun b => lblkB P_RL M_ cL_law 1 (some .boolean) 9 b.1 b.2.2) = true := by decide +kernel
set_option maxRecDepth 100000 in
theorem ckl_15 : ((k_300.drop 15).take 3).all (fun b => lblkB P_RL M_ cL_law 1 (some .boolean) 9 b.1 b.2.2) = true := by decide +kernel
set_option maxRecDepth 100000 in
theorem ckl_18 : ((k_300.drop 18).take 3).all (fun b => lblkB P_RL M_ cL_law 1 (some .boolean) 9 b.1 b.2.2) = true := by decide +kernel
set_option maxRecDepth 100000 in
theorem ckl_21 : ((k_300.drop 21).take 3).all (fun b => lblkB P_RL M_ cL_law 1 (some .boolean) 9 b.1 b.2.2) = true := by decide +kernel
set_option maxRecDepth 100000 in
theorem ckl_24 : ((k_300.drop 24).take 3).all (fun b => lblkB P_RL M_ cL_law 1 (some .boolean) 9 b.1 b.2.2) = true := by decide +kernel
set_option maxRecDepth 100000 in
theorem ckl_27 : ((k_300.drop 27).take 3).all (fun b => lblkB P_RL M_ cL_law 1 (some .boolean) 9 b.1 b.2.2) = true := by decide +kernel
set_option maxRecDepth 100000 in
theorem ckl_30 : ((k_300.drop 30).take 3).all (fun b => lblkB P_RL M_ cL_law 1 (some .boolean) 9 b.1 b.2.2) = true := by decide +kernel
set_option maxRecDepth 100000 in
theorem ckl_33 : ((k_300.drop 33).take 3).all (fun b => lblkB P_RL M_ cL_law 1 (some .boolean) 9 b.1 b.2.2) = true := by decide +kernel
set_option maxRecDepth 100000 in
theorem ckl_36 : ((k_300.drop 36).take 3).all (fun b => lblkB P_RL M_ cL_law 1 (some .boolean) 9 b.1 b.2.2) = true := by decide +kernel
set_option maxRecDepth 100000 in
theorem ckl_39 : ((k_300.drop 39).take 3).all (fun b => lblkB P_RL M_ cL_law 1 (some .boolean) 9 b.1 b.2.2) = true := by decide +kernel
set_option maxRecDepth 100000 in
theorem ckl_42 : ((k_300.drop 42).take 3).all (fun b => lblkB P_RL M_ cL_law 1 (some .boolean) 9 b.1 b.2.2) = true := by decide +kernel
set_option maxRecDepth 100000 in
theorem ckl_45 : ((k_300.drop 45).take 3).all (fun b => lblkB P_RL M_ cL_law 1 (some .boolean) 9 b.1 b.2.2) = true := by decide +kernel
set_option maxRecDepth 100000 in
theorem ckl_48 : ((k_300.drop 48).take 3).all (fun b => lblkB P_RL M_ cL_law 1 (some .boolean) 9 b.1 b.2.2) = true := by decide +kernel
set_option maxRecDepth 100000 in
theorem ckl_51 : ((k_300.drop 51).take 3).all (fun b => lblkB P_RL M_ cL_law 1 (some .boolean) 9 b.1 b.2.2) = true := by decide +kernel
set_option maxRecDepth 100000 in
theorem ckl_54 : ((k_300.drop 54).take 3).all (fun b => lblkB P_RL M_ cL_law 1 (some .boolean) 9 b.1 b.2.2) = true := by decide +kernel
set_option maxRecDepth 100000 in
theorem ckl_57 : ((k_300.drop 57).take 3).all (fun b => lblkB P_RL M_ cL_law 1 (some .boolean) 9 b.1 b.2.2) = true := by decide +kernel
set_option maxRecDepth 100000 in
theorem ckl_60 : ((k_300.drop 60).take 3).all (fun b => lblkB P_RL M_ cL_law 1 (some .boolean) 9 b.1 b.2.2) = true := by decide +kernel
set_option maxRecDepth 100000 in
theorem ckl_63 : ((k_300.drop 63).take 3).all (fun b => lblkB P_RL M_ cL_law 1 (some .boolean) 9 b.1 b.2.2) = true := by decide +kernel
set_option maxRecDepth 100000 in
theorem ckl_66 : ((k_300.drop 66).take 3).all (fun b => lblkB P_RL M_ cL_law 1 (some .boolean) 9 b.1 b.2.2) = true := by decide +kernel
set_option maxRecDepth 100000 in
theorem ckl_69 : ((k_300.drop 69).take 3).all (fun b => lblkB P_RL M_ cL_law 1 (some .boolean) 9 b.1 b.2.2) = true := by decide +kernel
set_option maxRecDepth 100000 in
theorem ckl_72 : ((k_300.drop 72).take 3).all (fun b => lblkB P_RL M_ cL_law 1 (some .boolean) 9 b.1 b.2.2) = true := by decide +kernel
set_option maxRecDepth 100000 in
theorem ckl_75 : ((k_300.drop 75).take 3).all (fun b => lblkB P_RL M_ cL_law 1 (some .boolean) 9 b.1 b.2.2) = true := by decide +kernel
set_option maxRecDepth 100000 in
theorem ckl_78 : ((k_300.drop 78).take 3).all (fun b => lblkB P_RL M_ cL_law 1 (some .boolean) 9 b.1 b.2.2) = true := by decide +kernel
set_option maxRecDepth 100000 in
theorem ckl_81 : ((k_300.drop 81).take 3).all (fun b => lblkB P_RL M_ cL_law 1 (some .boolean) 9 b.1 b.2.2) = true := by decide +kernel
set_option maxRecDepth 100000 in
theorem ckl_84 : ((k_300.drop 84).take 3).all (fun b => lblkB P_RL M_ cL_law 1 (some .boolean) 9 b.1 b.2.2) = true := by decide +kernel
set_option maxRecDepth 100000 in
theorem ckl_87 : ((k_300.drop 87).take 3).all (fun b => lblkB P_RL M_ cL_law 1 (some .boolean) 9 b.1 b.2.2) = true := by decide +kernel
set_option maxRecDepth 100000 in
theorem ckl_90 : ((k_300.drop 90).take 3).all (fun b => lblkB P_RL M_ cL_law 1 (some .boolean) 9 b.1 b.2.2) = true := by decide +kernel
set_option maxRecDepth 100000 in
theorem ckl_93 : ((k_300.drop 93).take 3).all (fun b => lblkB P_RL M_ cL_law 1 (some .boolean) 9 b.1 b.2.2) = true := by decide +kernel
set_option maxRecDepth 100000 in
theorem ckl_96 : ((k_300.drop 96).take 3).all (fun b => lblkB P_RL M_ cL_law 1 (some .boolean) 9 b.1 b.2.2) = true := by decide +kernel
set_option maxRecDepth 100000 in
theorem ckl_99 : ((k_300.drop 99).take 3).all (fun b => lblkB P_RL M_ cL_law 1 (some .boolean) 9 b.1 b.2.2) = true := by decide +kernel
set_option maxRecDepth 100000 in
theorem ckl_102 : ((k_300.drop 102).take 3).all (fun b => lblkB P_RL M_ cL_law 1 (some .boolean) 9 b.1 b.2.2) = true := by decide +kernel
set_option maxRecDepth 100000 in
theorem ckl_105 : ((k_300.drop 105).take 3).all (fun b => lblkB P_RL M_ cL_law 1 (some .boolean) 9 b.1 b.2.2) = true := by decide +kernel
set_option maxRecDepth 100000 in
theorem ckl_108 : ((k_300.drop 108).take 3).all (fun b => lblkB P_RL M_ cL_law 1 (some .boolean) 9 b.1 b.2.2) = true := by decide +kernel
set_option maxRecDepth 100000 in
theorem ckl_111 : ((k_300.drop 111).take 3).all (fun b => lblkB P_RL M_ cL_law 1 (some .boolean) 9 b.1 b.2.2) = true := by decide +kernel
theorem ckl_end : (k_300.drop 114).all (fun b => lblkB P_RL M_ cL_law 1 (some .boolean) 9 b.1 b.2.2) = true := by decide +kernel
set_option maxRecDepth 100000 in
theorem ckd_111 : (k_300.drop 111).all (fun b => lblkB P_RL M_ cL_law 1 (some .boolean) 9 b.1 b.2.2) = true := all_cut ckl_111 ckl_end
set_option maxRecDepth 100000 in
theorem ckd_108 : (k_300.drop 108).all (fun b => lblkB P_RL M_ cL_law 1 (some .boolean) 9 b.1 b.2.2) = true := all_cut ckl_108 ckd_111
set_option maxRecDepth 100000 in
theorem ckd_105 : (k_300.drop 105).all (fun b => lblkB P_RL M_ cL_law 1 (some .boolean) 9 b.1 b.2.2) = true := all_cut ckl_105 ckd_108
set_option maxRecDepth 100000 in
theorem ckd_102 : (k_300.drop 102).all (fun b => lblkB P_RL M_ cL_law 1 (some .boolean) 9 b.1 b.2.2) = true := all_cut ckl_102 ckd_105
set_option maxRecDepth 100000 in
theorem ckd_99 : (k_300.drop 99).all (fun b => lblkB P_RL M_ cL_law 1 (some .boolean) 9 b.1 b.2.2) = true := all_cut ckl_99 ckd_102
set_option maxRecDepth 100000 in
theorem ckd_96 : (k_300.drop 96).all (fun b => lblkB P_RL M_ cL_law 1 (some .boolean) 9 b.1 b.2.2) = true := all_cut ckl_96 ckd_99
set_option maxRecDepth 100000 in
theorem ckd_93 : (k_300.drop 93).all (fun b => lblkB P_RL M_ cL_law 1 (some .boolean) 9 b.1 b.2.2) = true := all_cut ckl_93 ckd_96
set_option maxRecDepth 100000 in
theorem ckd_90 : (k_300.drop 90).all (fun b => lblkB P_RL M_ cL_law 1 (some .boolean) 9 b.1 b.2.2) = true := all_cut ckl_90 ckd_93
set_option maxRecDepth 100000 in
theorem ckd_87 : (k_300.drop 87).all (fun b => lblkB P_RL M_ cL_law 1 (some .boolean) 9 b.1 b.2.2) = true := all_cut ckl_87 ckd_90
set_option maxRecDepth 100000 in
theorem ckd_84 : (k_300.drop 84).all (fun b => lblkB P_RL M_ cL_law 1 (some .boolean) 9 b.1 b.2.2) = true := all_cut ckl_84 ckd_87
set_option maxRecDepth 100000 in
theorem ckd_81 : (k_300.drop 81).all (fun b => lblkB P_RL M_ cL_law 1 (some .boolean) 9 b.1 b.2.2) = true := all_cut ckl_81 ckd_84
set_option maxRecDepth 100000 in
theorem ckd_78 : (k_300.drop 78).all (fun b => lblkB P_RL M_ cL_law 1 (some .boolean) 9 b.1 b.2.2) = true := all_cut ckl_78 ckd_81
set_option maxRecDepth 100000 in
theorem ckd_75 : (k_300.drop 75).all (fun b => lblkB P_RL M_ cL_law 1 (some .boolean) 9 b.1 b.2.2) = true := all_cut ckl_75 ckd_78
set_option maxRecDepth 100000 in
theorem ckd_72 : (k_300.drop 72).all (fun b => lblkB P_RL M_ cL_law 1 (some .boolean) 9 b.1 b.2.2) = true := all_cut ckl_72 ckd_75
set_option maxRecDepth 100000 in
theorem ckd_69 : (k_300.drop 69).all (fun b => lblkB P_RL M_ cL_law 1 (some .boolean) 9 b.1 b.2.2) = true := all_cut ckl_69 ckd_72
set_option maxRecDepth 100000 in
theorem ckd_66 : (k_300.drop 66).all (fun b => lblkB P_RL M_ cL_law 1 (some .boolean) 9 b.1 b.2.2) = true := all_cut ckl_66 ckd_69
set_option maxRecDepth 100000 in
theorem ckd_63 : (k_300.drop 63).all (fun b => lblkB P_RL M_ cL_law 1 (some .boolean) 9 b.1 b.2.2) = true := all_cut ckl_63 ckd_66
set_option maxRecDepth 100000 in
theorem ckd_60 : (k_300.drop 60).all (fun b => lblkB P_RL M_ cL_law 1 (some .boolean) 9 b.1 b.2.2) = true := all_cut ckl_60 ckd_63
set_option maxRecDepth 100000 in
theorem ckd_57 : (k_300.drop 57).all (fun b => lblkB P_RL M_ cL_law 1 (some .boolean) 9 b.1 b.2.2) = true := all_cut ckl_57 ckd_60
set_option maxRecDepth 100000 in
theorem ckd_54 : (k_300.drop 54).all (fun b => lblkB P_RL M_ cL_law 1 (some .boolean) 9 b.1 b.2.2) = true := all_cut ckl_54 ckd_57
set_option maxRecDepth 100000 in
theorem ckd_51 : (k_300.drop 51).all (fun b => lblkB P_RL M_ cL_law 1 (some .boolean) 9 b.1 b.2.2) = true := all_cut ckl_51 ckd_54
set_option maxRecDepth 100000 in
theorem ckd_48 : (k_300.drop 48).all (fun b => lblkB P_RL M_ cL_law 1 (some .boolean) 9 b.1 b.2.2) = true := all_cut ckl_48 ckd_51
set_option maxRecDepth 100000 in
theorem ckd_45 : (k_300.drop 45).all (fun b => lblkB P_RL M_ cL_law 1 (some .boolean) 9 b.1 b.2.2) = true := all_cut ckl_45 ckd_48
set_option maxRecDepth 100000 in
theorem ckd_42 : (k_300.drop 42).all (fun b => lblkB P_RL M_ cL_law 1 (some .boolean) 9 b.1 b.2.2) = true := all_cut ckl_42 ckd_45
set_option maxRecDepth 100000 in
theorem ckd_39 : (k_300.drop 39).all (fun b => lblkB P_RL M_ cL_law 1 (some .boolean) 9 b.1 b.2.2) = true := all_cut ckl_39 ckd_42
set_option maxRecDepth 100000 in
theorem ckd_36 : (k_300.drop 36).all (fun b => lblkB P_RL M_ cL_law 1 (some .boolean) 9 b.1 b.2.2) = true := all_cut ckl_36 ckd_39
set_option maxRecDepth 100000 in
theorem ckd_33 : (k_300.drop 33).all (fun b => lblkB P_RL M_ cL_law 1 (some .boolean) 9 b.1 b.2.2) = true := all_cut ckl_33 ckd_36
set_option maxRecDepth 100000 in
theorem ckd_30 : (k_300.drop 30).all (fun b => lblkB P_RL M_ cL_law 1 (some .boolean) 9 b.1 b.2.2) = true := all_cut ckl_30 ckd_33
set_option maxRecDepth 100000 in
theorem ckd_27 : (k_300.drop 27).all (fun b => lblkB P_RL M_ cL_law 1 (some .boolean) 9 b.1 b.2.2) = true := all_cut ckl_27 ckd_30
set_option maxRecDepth 100000 in
theorem ckd_24 : (k_300.drop 24).all (fun b => lblkB P_RL M_ cL_law 1 (some .boolean) 9 b.1 b.2.2) = true := all_cut ckl_24 ckd_27
set_option maxRecDepth 100000 in
theorem ckd_21 : (k_300.drop 21).all (fun b => lblkB P_RL M_ cL_law 1 (some .boolean) 9 b.1 b.2.2) = true := all_cut ckl_21 ckd_24
set_option maxRecDepth 100000 in
theorem ckd_18 : (k_300.drop 18).all (fun b => lblkB P_RL M_ cL_law 1 (some .boolean) 9 b.1 b.2.2) = true := all_cut ckl_18 ckd_21
set_option maxRecDepth 100000 in
theorem ckd_15 : (k_300.drop 15).all (fun b => lblkB P_RL M_ cL_law 1 (some .boolean) 9 b.1 b.2.2) = true := all_cut ckl_15 ckd_18
set_option maxRecDepth 100000 in
theorem ckd_12 : (k_300.drop 12).all (fun b => lblkB P_RL M_ cL_law 1 (some .boolean) 9 b.1 b.2.2) = true := all_cut ckl_12 ckd_15
set_option maxRecDepth 100000 in
theorem ckd_9 : (k_300.drop 9).all (fun b => lblkB P_RL M_ cL_law 1 (some .boolean) 9 b.1 b.2.2) = true := all_cut ckl_9 ckd_12
set_option maxRecDepth 100000 in
theorem ckd_6 : (k_300.drop 6).all (fun b => lblkB P_RL M_ cL_law 1 (some .boolean) 9 b.1 b.2.2) = true := all_cut ckl_6 ckd_9
set_option maxRecDepth 100000 in
theorem ckd_3 : (k_300.drop 3).all (fun b => lblkB P_RL M_ cL_law 1 (some .boolean) 9 b.1 b.2.2) = true := all_cut ckl_3 ckd_6
set_option maxRecDepth 100000 in
theorem ckd_0 : (k_300.drop 0).all (fun b => lblkB P_RL M_ cL_law 1 (some .boolean) 9 b.1 b.2.2) = true := all_cut ckl_0 ckd_3
set_option maxRecDepth 100000 in
theorem ck_300 : k_300.all (fun b => lblkB P_RL M_ cL_law 1 (some .boolean) 9 b.1 b.2.2) = true := ckd_0
