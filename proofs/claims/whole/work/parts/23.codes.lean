/-! CHECKS of the code, by program (wip/tools/checks.py) -/
set_option maxRecDepth 100000 in
theorem ck_1 : codB (qY q_1).cls (Pl_ (qY q_1).cls) M_ mS_ (TH_ (qY q_1).cls) (qB q_1) (rtOf (qR q_1)) (qR q_1) (qL q_1) k_1 = true := by decide +kernel
set_option maxRecDepth 100000 in
theorem ck_2 : codB (qY q_2).cls (Pl_ (qY q_2).cls) M_ mS_ (TH_ (qY q_2).cls) (qB q_2) (rtOf (qR q_2)) (qR q_2) (qL q_2) k_2 = true := by decide +kernel
set_option maxRecDepth 100000 in
theorem ck_3 : codB (qY q_3).cls (Pl_ (qY q_3).cls) M_ mS_ (TH_ (qY q_3).cls) (qB q_3) (rtOf (qR q_3)) (qR q_3) (qL q_3) k_3 = true := by decide +kernel
set_option maxRecDepth 100000 in
theorem ck_4 : codB (qY q_4).cls (Pl_ (qY q_4).cls) M_ mS_ (TH_ (qY q_4).cls) (qB q_4) (rtOf (qR q_4)) (qR q_4) (qL q_4) k_4 = true := by decide +kernel
set_option maxRecDepth 100000 in
theorem ck_5 : codB (qY q_5).cls (Pl_ (qY q_5).cls) M_ mS_ (TH_ (qY q_5).cls) (qB q_5) (rtOf (qR q_5)) (qR q_5) (qL q_5) k_5 = true := by decide +kernel
set_option maxRecDepth 100000 in
theorem ck_6 : codB (qY q_6).cls (Pl_ (qY q_6).cls) M_ mS_ (TH_ (qY q_6).cls) (qB q_6) (rtOf (qR q_6)) (qR q_6) (qL q_6) k_6 = true := by decide +kernel
set_option maxRecDepth 100000 in
theorem ck_7 : codB (qY q_7).cls (Pl_ (qY q_7).cls) M_ mS_ (TH_ (qY q_7).cls) (qB q_7) (rtOf (qR q_7)) (qR q_7) (qL q_7) k_7 = true := by decide +kernel
set_option maxRecDepth 100000 in
theorem ck_8 : codB (qY q_8).cls (Pl_ (qY q_8).cls) M_ mS_ (TH_ (qY q_8).cls) (qB q_8) (rtOf (qR q_8)) (qR q_8) (qL q_8) k_8 = true := by decide +kernel
set_option maxRecDepth 100000 in
theorem ck_9 : codB (qY q_9).cls (Pl_ (qY q_9).cls) M_ mS_ (TH_ (qY q_9).cls) (qB q_9) (rtOf (qR q_9)) (qR q_9) (qL q_9) k_9 = true := by decide +kernel
set_option maxRecDepth 100000 in
theorem ck_10 : codB (qY q_10).cls (Pl_ (qY q_10).cls) M_ mS_ (TH_ (qY q_10).cls) (qB q_10) (rtOf (qR q_10)) (qR q_10) (qL q_10) k_10 = true := by decide +kernel
set_option maxRecDepth 100000 in
theorem ck_11 : codB (qY q_11).cls (Pl_ (qY q_11).cls) M_ mS_ (TH_ (qY q_11).cls) (qB q_11) (rtOf (qR q_11)) (qR q_11) (qL q_11) k_11 = true := by decide +kernel
set_option maxRecDepth 100000 in
theorem ck_12 : codB (qY q_12).cls (Pl_ (qY q_12).cls) M_ mS_ (TH_ (qY q_12).cls) (qB q_12) (rtOf (qR q_12)) (qR q_12) (qL q_12) k_12 = true := by decide +kernel
set_option maxRecDepth 100000 in
theorem ck_13 : codB (qY q_13).cls (Pl_ (qY q_13).cls) M_ mS_ (TH_ (qY q_13).cls) (qB q_13) (rtOf (qR q_13)) (qR q_13) (qL q_13) k_13 = true := by decide +kernel
set_option maxRecDepth 100000 in
theorem ck_14 : codB (qY q_14).cls (Pl_ (qY q_14).cls) M_ mS_ (TH_ (qY q_14).cls) (qB q_14) (rtOf (qR q_14)) (qR q_14) (qL q_14) k_14 = true := by decide +kernel
set_option maxRecDepth 100000 in
theorem ck_15 : codB (qY q_15).cls (Pl_ (qY q_15).cls) M_ mS_ (TH_ (qY q_15).cls) (qB q_15) (rtOf (qR q_15)) (qR q_15) (qL q_15) k_15 = true := by decide +kernel
set_option maxRecDepth 100000 in
theorem ck_16 : codB (qY q_16).cls (Pl_ (qY q_16).cls) M_ mS_ (TH_ (qY q_16).cls) (qB q_16) (rtOf (qR q_16)) (qR q_16) (qL q_16) k_16 = true := by decide +kernel
set_option maxRecDepth 100000 in
theorem ck_17 : codB (qY q_17).cls (Pl_ (qY q_17).cls) M_ mS_ (TH_ (qY q_17).cls) (qB q_17) (rtOf (qR q_17)) (qR q_17) (qL q_17) k_17 = true := by decide +kernel
set_option maxRecDepth 100000 in
theorem ck_18 : codB (qY q_18).cls (Pl_ (qY q_18).cls) M_ mS_ (TH_ (qY q_18).cls) (qB q_18) (rtOf (qR q_18)) (qR q_18) (qL q_18) k_18 = true := by decide +kernel
set_option maxRecDepth 100000 in
theorem ck_19 : codB (qY q_19).cls (Pl_ (qY q_19).cls) M_ mS_ (TH_ (qY q_19).cls) (qB q_19) (rtOf (qR q_19)) (qR q_19) (qL q_19) k_19 = true := by decide +kernel
set_option maxRecDepth 100000 in
theorem ck_20 : codB (qY q_20).cls (Pl_ (qY q_20).cls) M_ mS_ (TH_ (qY q_20).cls) (qB q_20) (rtOf (qR q_20)) (qR q_20) (qL q_20) k_20 = true := by decide +kernel
set_option maxRecDepth 100000 in
theorem ck_21 : codB (qY q_21).cls (Pl_ (qY q_21).cls) M_ mS_ (TH_ (qY q_21).cls) (qB q_21) (rtOf (qR q_21)) (qR q_21) (qL q_21) k_21 = true := by decide +kernel
set_option maxRecDepth 100000 in
theorem ck_22 : codB (qY q_22).cls (Pl_ (qY q_22).cls) M_ mS_ (TH_ (qY q_22).cls) (qB q_22) (rtOf (qR q_22)) (qR q_22) (qL q_22) k_22 = true := by decide +kernel
set_option maxRecDepth 100000 in
theorem ck_23 : codB (qY q_23).cls (Pl_ (qY q_23).cls) M_ mS_ (TH_ (qY q_23).cls) (qB q_23) (rtOf (qR q_23)) (qR q_23) (qL q_23) k_23 = true := by decide +kernel
set_option maxRecDepth 100000 in
theorem ck_24 : codB (qY q_24).cls (Pl_ (qY q_24).cls) M_ mS_ (TH_ (qY q_24).cls) (qB q_24) (rtOf (qR q_24)) (qR q_24) (qL q_24) k_24 = true := by decide +kernel
set_option maxRecDepth 100000 in
theorem ck_25 : codB (qY q_25).cls (Pl_ (qY q_25).cls) M_ mS_ (TH_ (qY q_25).cls) (qB q_25) (rtOf (qR q_25)) (qR q_25) (qL q_25) k_25 = true := by decide +kernel
set_option maxRecDepth 100000 in
theorem ck_26 : codB (qY q_26).cls (Pl_ (qY q_26).cls) M_ mS_ (TH_ (qY q_26).cls) (qB q_26) (rtOf (qR q_26)) (qR q_26) (qL q_26) k_26 = true := by decide +kernel
set_option maxRecDepth 100000 in
theorem ck_27 : codB (qY q_27).cls (Pl_ (qY q_27).cls) M_ mS_ (TH_ (qY q_27).cls) (qB q_27) (rtOf (qR q_27)) (qR q_27) (qL q_27) k_27 = true := by decide +kernel
set_option maxRecDepth 100000 in
theorem ck_28 : codB (qY q_28).cls (Pl_ (qY q_28).cls) M_ mS_ (TH_ (qY q_28).cls) (qB q_28) (rtOf (qR q_28)) (qR q_28) (qL q_28) k_28 = true := by decide +kernel
set_option maxRecDepth 100000 in
theorem ck_29 : codB (qY q_29).cls (Pl_ (qY q_29).cls) M_ mS_ (TH_ (qY q_29).cls) (qB q_29) (rtOf (qR q_29)) (qR q_29) (qL q_29) k_29 = true := by decide +kernel
set_option maxRecDepth 100000 in
theorem ck_30 : codB (qY q_30).cls (Pl_ (qY q_30).cls) M_ mS_ (TH_ (qY q_30).cls) (qB q_30) (rtOf (qR q_30)) (qR q_30) (qL q_30) k_30 = true := by decide +kernel
set_option maxRecDepth 100000 in
theorem ck_31 : codB (qY q_31).cls (Pl_ (qY q_31).cls) M_ mS_ (TH_ (qY q_31).cls) (qB q_31) (rtOf (qR q_31)) (qR q_31) (qL q_31) k_31 = true := by decide +kernel
set_option maxRecDepth 100000 in
theorem ck_32 : codB (qY q_32).cls (Pl_ (qY q_32).cls) M_ mS_ (TH_ (qY q_32).cls) (qB q_32) (rtOf (qR q_32)) (qR q_32) (qL q_32) k_32 = true := by decide +kernel
set_option maxRecDepth 100000 in
theorem ck_33 : codB (qY q_33).cls (Pl_ (qY q_33).cls) M_ mS_ (TH_ (qY q_33).cls) (qB q_33) (rtOf (qR q_33)) (qR q_33) (qL q_33) k_33 = true := by decide +kernel
set_option maxRecDepth 100000 in
theorem ck_34 : codB (qY q_34).cls (Pl_ (qY q_34).cls) M_ mS_ (TH_ (qY q_34).cls) (qB q_34) (rtOf (qR q_34)) (qR q_34) (qL q_34) k_34 = true := by decide +kernel
set_option maxRecDepth 100000 in
theorem ck_35 : codB (qY q_35).cls (Pl_ (qY q_35).cls) M_ mS_ (TH_ (qY q_35).cls) (qB q_35) (rtOf (qR q_35)) (qR q_35) (qL q_35) k_35 = true := by decide +kernel
set_option maxRecDepth 100000 in
theorem ck_36 : codB (qY q_36).cls (Pl_ (qY q_36).cls) M_ mS_ (TH_ (qY q_36).cls) (qB q_36) (rtOf (qR q_36)) (qR q_36) (qL q_36) k_36 = true := by decide +kernel
set_option maxRecDepth 100000 in
theorem ck_37 : codB (qY q_37).cls (Pl_ (qY q_37).cls) M_ mS_ (TH_ (qY q_37).cls) (qB q_37) (rtOf (qR q_37)) (qR q_37) (qL q_37) k_37 = true := by decide +kernel
set_option maxRecDepth 100000 in
theorem ck_38 : codB (qY q_38).cls (Pl_ (qY q_38).cls) M_ mS_ (TH_ (qY q_38).cls) (qB q_38) (rtOf (qR q_38)) (qR q_38) (qL q_38) k_38 = true := by decide +kernel
set_option maxRecDepth 100000 in
theorem ck_39 : codB (qY q_39).cls (Pl_ (qY q_39).cls) M_ mS_ (TH_ (qY q_39).cls) (qB q_39) (rtOf (qR q_39)) (qR q_39) (qL q_39) k_39 = true := by decide +kernel
set_option maxRecDepth 100000 in
theorem ck_40 : codB (qY q_40).cls (Pl_ (qY q_40).cls) M_ mS_ (TH_ (qY q_40).cls) (qB q_40) (rtOf (qR q_40)) (qR q_40) (qL q_40) k_40 = true := by decide +kernel
set_option maxRecDepth 100000 in
theorem ck_41 : codB (qY q_41).cls (Pl_ (qY q_41).cls) M_ mS_ (TH_ (qY q_41).cls) (qB q_41) (rtOf (qR q_41)) (qR q_41) (qL q_41) k_41 = true := by decide +kernel
set_option maxRecDepth 100000 in
theorem ck_42 : codB (qY q_42).cls (Pl_ (qY q_42).cls) M_ mS_ (TH_ (qY q_42).cls) (qB q_42) (rtOf (qR q_42)) (qR q_42) (qL q_42) k_42 = true := by decide +kernel
set_option maxRecDepth 100000 in
theorem ck_43 : codB (qY q_43).cls (Pl_ (qY q_43).cls) M_ mS_ (TH_ (qY q_43).cls) (qB q_43) (rtOf (qR q_43)) (qR q_43) (qL q_43) k_43 = true := by decide +kernel
set_option maxRecDepth 100000 in
theorem ck_44 : codB (qY q_44).cls (Pl_ (qY q_44).cls) M_ mS_ (TH_ (qY q_44).cls) (qB q_44) (rtOf (qR q_44)) (qR q_44) (qL q_44) k_44 = true := by decide +kernel
set_option maxRecDepth 100000 in
theorem ck_45 : codB (qY q_45).cls (Pl_ (qY q_45).cls) M_ mS_ (TH_ (qY q_45).cls) (qB q_45) (rtOf (qR q_45)) (qR q_45) (qL q_45) k_45 = true := by decide +kernel
set_option maxRecDepth 100000 in
theorem ck_46 : codB (qY q_46).cls (Pl_ (qY q_46).cls) M_ mS_ (TH_ (qY q_46).cls) (qB q_46) (rtOf (qR q_46)) (qR q_46) (qL q_46) k_46 = true := by decide +kernel
set_option maxRecDepth 100000 in
theorem ck_47 : codB (qY q_47).cls (Pl_ (qY q_47).cls) M_ mS_ (TH_ (qY q_47).cls) (qB q_47) (rtOf (qR q_47)) (qR q_47) (qL q_47) k_47 = true := by decide +kernel
set_option maxRecDepth 100000 in
theorem ck_48 : codB (qY q_48).cls (Pl_ (qY q_48).cls) M_ mS_ (TH_ (qY q_48).cls) (qB q_48) (rtOf (qR q_48)) (qR q_48) (qL q_48) k_48 = true := by decide +kernel
set_option maxRecDepth 100000 in
theorem ck_49 : codB (qY q_49).cls (Pl_ (qY q_49).cls) M_ mS_ (TH_ (qY q_49).cls) (qB q_49) (rtOf (qR q_49)) (qR q_49) (qL q_49) k_49 = true := by decide +kernel
set_option maxRecDepth 100000 in
theorem ck_50 : codB (qY q_50).cls (Pl_ (qY q_50).cls) M_ mS_ (TH_ (qY q_50).cls) (qB q_50) (rtOf (qR q_50)) (qR q_50) (qL q_50) k_50 = true := by decide +kernel
set_option maxRecDepth 100000 in
theorem ck_51 : codB (qY q_51).cls (Pl_ (qY q_51).cls) M_ mS_ (TH_ (qY q_51).cls) (qB q_51) (rtOf (qR q_51)) (qR q_51) (qL q_51) k_51 = true := by decide +kernel
set_option maxRecDepth 100000 in
theorem ck_52 : codB (qY q_52).cls (Pl_ (qY q_52).cls) M_ mS_ (TH_ (qY q_52).cls) (qB q_52) (rtOf (qR q_52)) (qR q_52) (qL q_52) k_52 = true := by decide +kernel
set_option maxRecDepth 100000 in
theorem ck_53 : codB (qY q_53).cls (Pl_ (qY q_53).cls) M_ mS_ (TH_ (qY q_53).cls) (qB q_53) (rtOf (qR q_53)) (qR q_53) (qL q_53) k_53 = true := by decide +kernel
set_option maxRecDepth 100000 in
theorem ck_54 : codB (qY q_54).cls (Pl_ (qY q_54).cls) M_ mS_ (TH_ (qY q_54).cls) (qB q_54) (rtOf (qR q_54)) (qR q_54) (qL q_54) k_54 = true := by decide +kernel
set_option maxRecDepth 100000 in
theorem ck_55 : codB (qY q_55).cls (Pl_ (qY q_55).cls) M_ mS_ (TH_ (qY q_55).cls) (qB q_55) (rtOf (qR q_55)) (qR q_55) (qL q_55) k_55 = true := by decide +kernel
set_option maxRecDepth 100000 in
theorem ck_56 : codB (qY q_56).cls (Pl_ (qY q_56).cls) M_ mS_ (TH_ (qY q_56).cls) (qB q_56) (rtOf (qR q_56)) (qR q_56) (qL q_56) k_56 = true := by decide +kernel
set_option maxRecDepth 100000 in
theorem ck_57 : codB (qY q_57).cls (Pl_ (qY q_57).cls) M_ mS_ (TH_ (qY q_57).cls) (qB q_57) (rtOf (qR q_57)) (qR q_57) (qL q_57) k_57 = true := by decide +kernel
set_option maxRecDepth 100000 in
theorem ck_58 : codB (qY q_58).cls (Pl_ (qY q_58).cls) M_ mS_ (TH_ (qY q_58).cls) (qB q_58) (rtOf (qR q_58)) (qR q_58) (qL q_58) k_58 = true := by decide +kernel
set_option maxRecDepth 100000 in
theorem ck_59 : codB (qY q_59).cls (Pl_ (qY q_59).cls) M_ mS_ (TH_ (qY q_59).cls) (qB q_59) (rtOf (qR q_59)) (qR q_59) (qL q_59) k_59 = true := by decide +kernel
set_option maxRecDepth 100000 in
theorem ck_60 : codB (qY q_60).cls (Pl_ (qY q_60).cls) M_ mS_ (TH_ (qY q_60).cls) (qB q_60) (rtOf (qR q_60)) (qR q_60) (qL q_60) k_60 = true := by decide +kernel
set_option maxRecDepth 100000 in
theorem ck_61 : codB (qY q_61).cls (Pl_ (qY q_61).cls) M_ mS_ (TH_ (qY q_61).cls) (qB q_61) (rtOf (qR q_61)) (qR q_61) (qL q_61) k_61 = true := by decide +kernel
set_option maxRecDepth 100000 in
theorem ck_62 : codB (qY q_62).cls (Pl_ (qY q_62).cls) M_ mS_ (TH_ (qY q_62).cls) (qB q_62) (rtOf (qR q_62)) (qR q_62) (qL q_62) k_62 = true := by decide +kernel
set_option maxRecDepth 100000 in
theorem ck_63 : codB (qY q_63).cls (Pl_ (qY q_63).cls) M_ mS_ (TH_ (qY q_63).cls) (qB q_63) (rtOf (qR q_63)) (qR q_63) (qL q_63) k_63 = true := by decide +kernel
set_option maxRecDepth 100000 in
theorem ck_64 : codB (qY q_64).cls (Pl_ (qY q_64).cls) M_ mS_ (TH_ (qY q_64).cls) (qB q_64) (rtOf (qR q_64)) (qR q_64) (qL q_64) k_64 = true := by decide +kernel
set_option maxRecDepth 100000 in
theorem ck_65 : codB (qY q_65).cls (Pl_ (qY q_65).cls) M_ mS_ (TH_ (qY q_65).cls) (qB q_65) (rtOf (qR q_65)) (qR q_65) (qL q_65) k_65 = true := by decide +kernel
set_option maxRecDepth 100000 in
theorem ck_66 : codB (qY q_66).cls (Pl_ (qY q_66).cls) M_ mS_ (TH_ (qY q_66).cls) (qB q_66) (rtOf (qR q_66)) (qR q_66) (qL q_66) k_66 = true := by decide +kernel
set_option maxRecDepth 100000 in
theorem ck_67 : codB (qY q_67).cls (Pl_ (qY q_67).cls) M_ mS_ (TH_ (qY q_67).cls) (qB q_67) (rtOf (qR q_67)) (qR q_67) (qL q_67) k_67 = true := by decide +kernel
set_option maxRecDepth 100000 in
theorem ck_68 : codB (qY q_68).cls (Pl_ (qY q_68).cls) M_ mS_ (TH_ (qY q_68).cls) (qB q_68) (rtOf (qR q_68)) (qR q_68) (qL q_68) k_68 = true := by decide +kernel
set_option maxRecDepth 100000 in
theorem ck_69 : codB (qY q_69).cls (Pl_ (qY q_69).cls) M_ mS_ (TH_ (qY q_69).cls) (qB q_69) (rtOf (qR q_69)) (qR q_69) (qL q_69) k_69 = true := by decide +kernel
set_option maxRecDepth 100000 in
theorem ck_70 : codB (qY q_70).cls (Pl_ (qY q_70).cls) M_ mS_ (TH_ (qY q_70).cls) (qB q_70) (rtOf (qR q_70)) (qR q_70) (qL q_70) k_70 = true := by decide +kernel
set_option maxRecDepth 100000 in
theorem ck_71 : codB (qY q_71).cls (Pl_ (qY q_71).cls) M_ mS_ (TH_ (qY q_71).cls) (qB q_71) (rtOf (qR q_71)) (qR q_71) (qL q_71) k_71 = true := by decide +kernel
set_option maxRecDepth 100000 in
theorem ck_72 : codB (qY q_72).cls (Pl_ (qY q_72).cls) M_ mS_ (TH_ (qY q_72).cls) (qB q_72) (rtOf (qR q_72)) (qR q_72) (qL q_72) k_72 = true := by decide +kernel
set_option maxRecDepth 100000 in
theorem ck_73 : codB (qY q_73).cls (Pl_ (qY q_73).cls) M_ mS_ (TH_ (qY q_73).cls) (qB q_73) (rtOf (qR q_73)) (qR q_73) (qL q_73) k_73 = true := by decide +kernel
set_option maxRecDepth 100000 in
theorem ck_74 : codB (qY q_74).cls (Pl_ (qY q_74).cls) M_ mS_ (TH_ (qY q_74).cls) (qB q_74) (rtOf (qR q_74)) (qR q_74) (qL q_74) k_74 = true := by decide +kernel
set_option maxRecDepth 100000 in
theorem ck_75 : codB (qY q_75).cls (Pl_ (qY q_75).cls) M_ mS_ (TH_ (qY q_75).cls) (qB q_75) (rtOf (qR q_75)) (qR q_75) (qL q_75) k_75 = true := by decide +kernel
set_option maxRecDepth 100000 in
theorem ck_76 : codB (qY q_76).cls (Pl_ (qY q_76).cls) M_ mS_ (TH_ (qY q_76).cls) (qB q_76) (rtOf (qR q_76)) (qR q_76) (qL q_76) k_76 = true := by decide +kernel
set_option maxRecDepth 100000 in
theorem ck_77 : codB (qY q_77).cls (Pl_ (qY q_77).cls) M_ mS_ (TH_ (qY q_77).cls) (qB q_77) (rtOf (qR q_77)) (qR q_77) (qL q_77) k_77 = true := by decide +kernel
set_option maxRecDepth 100000 in
theorem ck_78 : codB (qY q_78).cls (Pl_ (qY q_78).cls) M_ mS_ (TH_ (qY q_78).cls) (qB q_78) (rtOf (qR q_78)) (qR q_78) (qL q_78) k_78 = true := by decide +kernel
set_option maxRecDepth 100000 in
theorem ck_79 : codB (qY q_79).cls (Pl_ (qY q_79).cls) M_ mS_ (TH_ (qY q_79).cls) (qB q_79) (rtOf (qR q_79)) (qR q_79) (qL q_79) k_79 = true := by decide +kernel
set_option maxRecDepth 100000 in
theorem ck_80 : codB (qY q_80).cls (Pl_ (qY q_80).cls) M_ mS_ (TH_ (qY q_80).cls) (qB q_80) (rtOf (qR q_80)) (qR q_80) (qL q_80) k_80 = true := by decide +kernel
set_option maxRecDepth 100000 in
theorem ck_81 : codB (qY q_81).cls (Pl_ (qY q_81).cls) M_ mS_ (TH_ (qY q_81).cls) (qB q_81) (rtOf (qR q_81)) (qR q_81) (qL q_81) k_81 = true := by decide +kernel
set_option maxRecDepth 100000 in
theorem ck_82 : codB (qY q_82).cls (Pl_ (qY q_82).cls) M_ mS_ (TH_ (qY q_82).cls) (qB q_82) (rtOf (qR q_82)) (qR q_82) (qL q_82) k_82 = true := by decide +kernel
set_option maxRecDepth 100000 in
theorem ck_83 : codB (qY q_83).cls (Pl_ (qY q_83).cls) M_ mS_ (TH_ (qY q_83).cls) (qB q_83) (rtOf (qR q_83)) (qR q_83) (qL q_83) k_83 = true := by decide +kernel
set_option maxRecDepth 100000 in
theorem ck_84 : codB (qY q_84).cls (Pl_ (qY q_84).cls) M_ mS_ (TH_ (qY q_84).cls) (qB q_84) (rtOf (qR q_84)) (qR q_84) (qL q_84) k_84 = true := by decide +kernel
set_option maxRecDepth 100000 in
theorem ck_85 : codB (qY q_85).cls (Pl_ (qY q_85).cls) M_ mS_ (TH_ (qY q_85).cls) (qB q_85) (rtOf (qR q_85)) (qR q_85) (qL q_85) k_85 = true := by decide +kernel
set_option maxRecDepth 100000 in
theorem ck_86 : codB (qY q_86).cls (Pl_ (qY q_86).cls) M_ mS_ (TH_ (qY q_86).cls) (qB q_86) (rtOf (qR q_86)) (qR q_86) (qL q_86) k_86 = true := by decide +kernel
set_option maxRecDepth 100000 in
theorem ck_87 : codB (qY q_87).cls (Pl_ (qY q_87).cls) M_ mS_ (TH_ (qY q_87).cls) (qB q_87) (rtOf (qR q_87)) (qR q_87) (qL q_87) k_87 = true := by decide +kernel
set_option maxRecDepth 100000 in
theorem ck_88 : codB (qY q_88).cls (Pl_ (qY q_88).cls) M_ mS_ (TH_ (qY q_88).cls) (qB q_88) (rtOf (qR q_88)) (qR q_88) (qL q_88) k_88 = true := by decide +kernel
set_option maxRecDepth 100000 in
theorem ck_89 : codB (qY q_89).cls (Pl_ (qY q_89).cls) M_ mS_ (TH_ (qY q_89).cls) (qB q_89) (rtOf (qR q_89)) (qR q_89) (qL q_89) k_89 = true := by decide +kernel
set_option maxRecDepth 100000 in
theorem ck_90 : codB (qY q_90).cls (Pl_ (qY q_90).cls) M_ mS_ (TH_ (qY q_90).cls) (qB q_90) (rtOf (qR q_90)) (qR q_90) (qL q_90) k_90 = true := by decide +kernel
set_option maxRecDepth 100000 in
theorem ck_91 : codB (qY q_91).cls (Pl_ (qY q_91).cls) M_ mS_ (TH_ (qY q_91).cls) (qB q_91) (rtOf (qR q_91)) (qR q_91) (qL q_91) k_91 = true := by decide +kernel
set_option maxRecDepth 100000 in
theorem ck_92 : codB (qY q_92).cls (Pl_ (qY q_92).cls) M_ mS_ (TH_ (qY q_92).cls) (qB q_92) (rtOf (qR q_92)) (qR q_92) (qL q_92) k_92 = true := by decide +kernel
set_option maxRecDepth 100000 in
theorem ck_93 : codB (qY q_93).cls (Pl_ (qY q_93).cls) M_ mS_ (TH_ (qY q_93).cls) (qB q_93) (rtOf (qR q_93)) (qR q_93) (qL q_93) k_93 = true := by decide +kernel
set_option maxRecDepth 100000 in
theorem ck_94 : codB (qY q_94).cls (Pl_ (qY q_94).cls) M_ mS_ (TH_ (qY q_94).cls) (qB q_94) (rtOf (qR q_94)) (qR q_94) (qL q_94) k_94 = true := by decide +kernel
set_option maxRecDepth 100000 in
theorem ck_95 : codB (qY q_95).cls (Pl_ (qY q_95).cls) M_ mS_ (TH_ (qY q_95).cls) (qB q_95) (rtOf (qR q_95)) (qR q_95) (qL q_95) k_95 = true := by decide +kernel
set_option maxRecDepth 100000 in
theorem ck_96 : codB (qY q_96).cls (Pl_ (qY q_96).cls) M_ mS_ (TH_ (qY q_96).cls) (qB q_96) (rtOf (qR q_96)) (qR q_96) (qL q_96) k_96 = true := by decide +kernel
set_option maxRecDepth 100000 in
theorem ck_97 : codB (qY q_97).cls (Pl_ (qY q_97).cls) M_ mS_ (TH_ (qY q_97).cls) (qB q_97) (rtOf (qR q_97)) (qR q_97) (qL q_97) k_97 = true := by decide +kernel
set_option maxRecDepth 100000 in
theorem ck_98 : codB (qY q_98).cls (Pl_ (qY q_98).cls) M_ mS_ (TH_ (qY q_98).cls) (qB q_98) (rtOf (qR q_98)) (qR q_98) (qL q_98) k_98 = true := by decide +kernel
set_option maxRecDepth 100000 in
theorem ck_99 : codB (qY q_99).cls (Pl_ (qY q_99).cls) M_ mS_ (TH_ (qY q_99).cls) (qB q_99) (rtOf (qR q_99)) (qR q_99) (qL q_99) k_99 = true := by decide +kernel
set_option maxRecDepth 100000 in
theorem ck_100 : codB (qY q_100).cls (Pl_ (qY q_100).cls) M_ mS_ (TH_ (qY q_100).cls) (qB q_100) (rtOf (qR q_100)) (qR q_100) (qL q_100) k_100 = true := by decide +kernel
set_option maxRecDepth 100000 in
theorem ck_101 : codB (qY q_101).cls (Pl_ (qY q_101).cls) M_ mS_ (TH_ (qY q_101).cls) (qB q_101) (rtOf (qR q_101)) (qR q_101) (qL q_101) k_101 = true := by decide +kernel
set_option maxRecDepth 100000 in
theorem ck_102 : codB (qY q_102).cls (Pl_ (qY q_102).cls) M_ mS_ (TH_ (qY q_102).cls) (qB q_102) (rtOf (qR q_102)) (qR q_102) (qL q_102) k_102 = true := by decide +kernel
set_option maxRecDepth 100000 in
theorem ck_103 : codB (qY q_103).cls (Pl_ (qY q_103).cls) M_ mS_ (TH_ (qY q_103).cls) (qB q_103) (rtOf (qR q_103)) (qR q_103) (qL q_103) k_103 = true := by decide +kernel
set_option maxRecDepth 100000 in
theorem ck_104 : codB (qY q_104).cls (Pl_ (qY q_104).cls) M_ mS_ (TH_ (qY q_104).cls) (qB q_104) (rtOf (qR q_104)) (qR q_104) (qL q_104) k_104 = true := by decide +kernel
set_option maxRecDepth 100000 in
theorem ck_105 : codB (qY q_105).cls (Pl_ (qY q_105).cls) M_ mS_ (TH_ (qY q_105).cls) (qB q_105) (rtOf (qR q_105)) (qR q_105) (qL q_105) k_105 = true := by decide +kernel
set_option maxRecDepth 100000 in
theorem ck_106 : codB (qY q_106).cls (Pl_ (qY q_106).cls) M_ mS_ (TH_ (qY q_106).cls) (qB q_106) (rtOf (qR q_106)) (qR q_106) (qL q_106) k_106 = true := by decide +kernel
set_option maxRecDepth 100000 in
theorem ck_107 : codB (qY q_107).cls (Pl_ (qY q_107).cls) M_ mS_ (TH_ (qY q_107).cls) (qB q_107) (rtOf (qR q_107)) (qR q_107) (qL q_107) k_107 = true := by decide +kernel
set_option maxRecDepth 100000 in
theorem ck_108 : codB (qY q_108).cls (Pl_ (qY q_108).cls) M_ mS_ (TH_ (qY q_108).cls) (qB q_108) (rtOf (qR q_108)) (qR q_108) (qL q_108) k_108 = true := by decide +kernel
set_option maxRecDepth 100000 in
theorem ck_109 : codB (qY q_109).cls (Pl_ (qY q_109).cls) M_ mS_ (TH_ (qY q_109).cls) (qB q_109) (rtOf (qR q_109)) (qR q_109) (qL q_109) k_109 = true := by decide +kernel
set_option maxRecDepth 100000 in
theorem ck_110 : codB (qY q_110).cls (Pl_ (qY q_110).cls) M_ mS_ (TH_ (qY q_110).cls) (qB q_110) (rtOf (qR q_110)) (qR q_110) (qL q_110) k_110 = true := by decide +kernel
set_option maxRecDepth 100000 in
theorem ck_111 : codB (qY q_111).cls (Pl_ (qY q_111).cls) M_ mS_ (TH_ (qY q_111).cls) (qB q_111) (rtOf (qR q_111)) (qR q_111) (qL q_111) k_111 = true := by decide +kernel
set_option maxRecDepth 100000 in
theorem ck_112 : codB (qY q_112).cls (Pl_ (qY q_112).cls) M_ mS_ (TH_ (qY q_112).cls) (qB q_112) (rtOf (qR q_112)) (qR q_112) (qL q_112) k_112 = true := by decide +kernel
set_option maxRecDepth 100000 in
theorem ck_113 : codB (qY q_113).cls (Pl_ (qY q_113).cls) M_ mS_ (TH_ (qY q_113).cls) (qB q_113) (rtOf (qR q_113)) (qR q_113) (qL q_113) k_113 = true := by decide +kernel
set_option maxRecDepth 100000 in
theorem ck_114 : codB (qY q_114).cls (Pl_ (qY q_114).cls) M_ mS_ (TH_ (qY q_114).cls) (qB q_114) (rtOf (qR q_114)) (qR q_114) (qL q_114) k_114 = true := by decide +kernel
set_option maxRecDepth 100000 in
theorem ck_115 : codB (qY q_115).cls (Pl_ (qY q_115).cls) M_ mS_ (TH_ (qY q_115).cls) (qB q_115) (rtOf (qR q_115)) (qR q_115) (qL q_115) k_115 = true := by decide +kernel
set_option maxRecDepth 100000 in
theorem ck_116 : codB (qY q_116).cls (Pl_ (qY q_116).cls) M_ mS_ (TH_ (qY q_116).cls) (qB q_116) (rtOf (qR q_116)) (qR q_116) (qL q_116) k_116 = true := by decide +kernel
set_option maxRecDepth 100000 in
theorem ck_117 : codB (qY q_117).cls (Pl_ (qY q_117).cls) M_ mS_ (TH_ (qY q_117).cls) (qB q_117) (rtOf (qR q_117)) (qR q_117) (qL q_117) k_117 = true := by decide +kernel
set_option maxRecDepth 100000 in
theorem ck_118 : codB (qY q_118).cls (Pl_ (qY q_118).cls) M_ mS_ (TH_ (qY q_118).cls) (qB q_118) (rtOf (qR q_118)) (qR q_118) (qL q_118) k_118 = true := by decide +kernel
set_option maxRecDepth 100000 in
theorem ck_119 : codB (qY q_119).cls (Pl_ (qY q_119).cls) M_ mS_ (TH_ (qY q_119).cls) (qB q_119) (rtOf (qR q_119)) (qR q_119) (qL q_119) k_119 = true := by decide +kernel
set_option maxRecDepth 100000 in
theorem ck_120 : codB (qY q_120).cls (Pl_ (qY q_120).cls) M_ mS_ (TH_ (qY q_120).cls) (qB q_120) (rtOf (qR q_120)) (qR q_120) (qL q_120) k_120 = true := by decide +kernel
set_option maxRecDepth 100000 in
theorem ck_121 : codB (qY q_121).cls (Pl_ (qY q_121).cls) M_ mS_ (TH_ (qY q_121).cls) (qB q_121) (rtOf (qR q_121)) (qR q_121) (qL q_121) k_121 = true := by decide +kernel
set_option maxRecDepth 100000 in
theorem ck_122 : codB (qY q_122).cls (Pl_ (qY q_122).cls) M_ mS_ (TH_ (qY q_122).cls) (qB q_122) (rtOf (qR q_122)) (qR q_122) (qL q_122) k_122 = true := by decide +kernel
set_option maxRecDepth 100000 in
theorem ck_123 : codB (qY q_123).cls (Pl_ (qY q_123).cls) M_ mS_ (TH_ (qY q_123).cls) (qB q_123) (rtOf (qR q_123)) (qR q_123) (qL q_123) k_123 = true := by decide +kernel
set_option maxRecDepth 100000 in
theorem ck_124 : codB (qY q_124).cls (Pl_ (qY q_124).cls) M_ mS_ (TH_ (qY q_124).cls) (qB q_124) (rtOf (qR q_124)) (qR q_124) (qL q_124) k_124 = true := by decide +kernel
set_option maxRecDepth 100000 in
theorem ck_125 : codB (qY q_125).cls (Pl_ (qY q_125).cls) M_ mS_ (TH_ (qY q_125).cls) (qB q_125) (rtOf (qR q_125)) (qR q_125) (qL q_125) k_125 = true := by decide +kernel
set_option maxRecDepth 100000 in
theorem ck_126 : codB (qY q_126).cls (Pl_ (qY q_126).cls) M_ mS_ (TH_ (qY q_126).cls) (qB q_126) (rtOf (qR q_126)) (qR q_126) (qL q_126) k_126 = true := by decide +kernel
set_option maxRecDepth 100000 in
theorem ck_127 : codB (qY q_127).cls (Pl_ (qY q_127).cls) M_ mS_ (TH_ (qY q_127).cls) (qB q_127) (rtOf (qR q_127)) (qR q_127) (qL q_127) k_127 = true := by decide +kernel
set_option maxRecDepth 100000 in
theorem ck_128 : codB (qY q_128).cls (Pl_ (qY q_128).cls) M_ mS_ (TH_ (qY q_128).cls) (qB q_128) (rtOf (qR q_128)) (qR q_128) (qL q_128) k_128 = true := by decide +kernel
set_option maxRecDepth 100000 in
theorem ck_129 : codB (qY q_129).cls (Pl_ (qY q_129).cls) M_ mS_ (TH_ (qY q_129).cls) (qB q_129) (rtOf (qR q_129)) (qR q_129) (qL q_129) k_129 = true := by decide +kernel
set_option maxRecDepth 100000 in
theorem ck_130 : codB (qY q_130).cls (Pl_ (qY q_130).cls) M_ mS_ (TH_ (qY q_130).cls) (qB q_130) (rtOf (qR q_130)) (qR q_130) (qL q_130) k_130 = true := by decide +kernel
set_option maxRecDepth 100000 in
theorem ck_131 : codB (qY q_131).cls (Pl_ (qY q_131).cls) M_ mS_ (TH_ (qY q_131).cls) (qB q_131) (rtOf (qR q_131)) (qR q_131) (qL q_131) k_131 = true := by decide +kernel
set_option maxRecDepth 100000 in
theorem ck_132 : codB (qY q_132).cls (Pl_ (qY q_132).cls) M_ mS_ (TH_ (qY q_132).cls) (qB q_132) (rtOf (qR q_132)) (qR q_132) (qL q_132) k_132 = true := by decide +kernel
set_option maxRecDepth 100000 in
theorem ck_133 : codB (qY q_133).cls (Pl_ (qY q_133).cls) M_ mS_ (TH_ (qY q_133).cls) (qB q_133) (rtOf (qR q_133)) (qR q_133) (qL q_133) k_133 = true := by decide +kernel
set_option maxRecDepth 100000 in
theorem ck_134 : codB (qY q_134).cls (Pl_ (qY q_134).cls) M_ mS_ (TH_ (qY q_134).cls) (qB q_134) (rtOf (qR q_134)) (qR q_134) (qL q_134) k_134 = true := by decide +kernel
set_option maxRecDepth 100000 in
theorem ck_135 : codB (qY q_135).cls (Pl_ (qY q_135).cls) M_ mS_ (TH_ (qY q_135).cls) (qB q_135) (rtOf (qR q_135)) (qR q_135) (qL q_135) k_135 = true := by decide +kernel
set_option maxRecDepth 100000 in
theorem ck_136 : codB (qY q_136).cls (Pl_ (qY q_136).cls) M_ mS_ (TH_ (qY q_136).cls) (qB q_136) (rtOf (qR q_136)) (qR q_136) (qL q_136) k_136 = true := by decide +kernel
set_option maxRecDepth 100000 in
theorem ck_137 : codB (qY q_137).cls (Pl_ (qY q_137).cls) M_ mS_ (TH_ (qY q_137).cls) (qB q_137) (rtOf (qR q_137)) (qR q_137) (qL q_137) k_137 = true := by decide +kernel
set_option maxRecDepth 100000 in
theorem ck_138 : codB (qY q_138).cls (Pl_ (qY q_138).cls) M_ mS_ (TH_ (qY q_138).cls) (qB q_138) (rtOf (qR q_138)) (qR q_138) (qL q_138) k_138 = true := by decide +kernel
set_option maxRecDepth 100000 in
theorem ck_139 : codB (qY q_139).cls (Pl_ (qY q_139).cls) M_ mS_ (TH_ (qY q_139).cls) (qB q_139) (rtOf (qR q_139)) (qR q_139) (qL q_139) k_139 = true := by decide +kernel
set_option maxRecDepth 100000 in
theorem ck_140 : codB (qY q_140).cls (Pl_ (qY q_140).cls) M_ mS_ (TH_ (qY q_140).cls) (qB q_140) (rtOf (qR q_140)) (qR q_140) (qL q_140) k_140 = true := by decide +kernel
set_option maxRecDepth 100000 in
theorem ck_141 : codB (qY q_141).cls (Pl_ (qY q_141).cls) M_ mS_ (TH_ (qY q_141).cls) (qB q_141) (rtOf (qR q_141)) (qR q_141) (qL q_141) k_141 = true := by decide +kernel
set_option maxRecDepth 100000 in
theorem ck_142 : codB (qY q_142).cls (Pl_ (qY q_142).cls) M_ mS_ (TH_ (qY q_142).cls) (qB q_142) (rtOf (qR q_142)) (qR q_142) (qL q_142) k_142 = true := by decide +kernel
set_option maxRecDepth 100000 in
theorem ck_143 : codB (qY q_143).cls (Pl_ (qY q_143).cls) M_ mS_ (TH_ (qY q_143).cls) (qB q_143) (rtOf (qR q_143)) (qR q_143) (qL q_143) k_143 = true := by decide +kernel
set_option maxRecDepth 100000 in
theorem ck_144 : codB (qY q_144).cls (Pl_ (qY q_144).cls) M_ mS_ (TH_ (qY q_144).cls) (qB q_144) (rtOf (qR q_144)) (qR q_144) (qL q_144) k_144 = true := by decide +kernel
set_option maxRecDepth 100000 in
theorem ck_145 : codB (qY q_145).cls (Pl_ (qY q_145).cls) M_ mS_ (TH_ (qY q_145).cls) (qB q_145) (rtOf (qR q_145)) (qR q_145) (qL q_145) k_145 = true := by decide +kernel
set_option maxRecDepth 100000 in
theorem ck_146 : codB (qY q_146).cls (Pl_ (qY q_146).cls) M_ mS_ (TH_ (qY q_146).cls) (qB q_146) (rtOf (qR q_146)) (qR q_146) (qL q_146) k_146 = true := by decide +kernel
set_option maxRecDepth 100000 in
theorem ck_147 : codB (qY q_147).cls (Pl_ (qY q_147).cls) M_ mS_ (TH_ (qY q_147).cls) (qB q_147) (rtOf (qR q_147)) (qR q_147) (qL q_147) k_147 = true := by decide +kernel
set_option maxRecDepth 100000 in
theorem ck_148 : codB (qY q_148).cls (Pl_ (qY q_148).cls) M_ mS_ (TH_ (qY q_148).cls) (qB q_148) (rtOf (qR q_148)) (qR q_148) (qL q_148) k_148 = true := by decide +kernel
set_option maxRecDepth 100000 in
theorem ck_149 : codB (qY q_149).cls (Pl_ (qY q_149).cls) M_ mS_ (TH_ (qY q_149).cls) (qB q_149) (rtOf (qR q_149)) (qR q_149) (qL q_149) k_149 = true := by decide +kernel
set_option maxRecDepth 100000 in
theorem ck_150 : codB (qY q_150).cls (Pl_ (qY q_150).cls) M_ mS_ (TH_ (qY q_150).cls) (qB q_150) (rtOf (qR q_150)) (qR q_150) (qL q_150) k_150 = true := by decide +kernel
set_option maxRecDepth 100000 in
theorem ck_151 : codB (qY q_151).cls (Pl_ (qY q_151).cls) M_ mS_ (TH_ (qY q_151).cls) (qB q_151) (rtOf (qR q_151)) (qR q_151) (qL q_151) k_151 = true := by decide +kernel
set_option maxRecDepth 100000 in
theorem ck_152 : codB (qY q_152).cls (Pl_ (qY q_152).cls) M_ mS_ (TH_ (qY q_152).cls) (qB q_152) (rtOf (qR q_152)) (qR q_152) (qL q_152) k_152 = true := by decide +kernel
set_option maxRecDepth 100000 in
theorem ck_153 : codB (qY q_153).cls (Pl_ (qY q_153).cls) M_ mS_ (TH_ (qY q_153).cls) (qB q_153) (rtOf (qR q_153)) (qR q_153) (qL q_153) k_153 = true := by decide +kernel
set_option maxRecDepth 100000 in
theorem ck_154 : codB (qY q_154).cls (Pl_ (qY q_154).cls) M_ mS_ (TH_ (qY q_154).cls) (qB q_154) (rtOf (qR q_154)) (qR q_154) (qL q_154) k_154 = true := by decide +kernel
set_option maxRecDepth 100000 in
theorem ck_155 : codB (qY q_155).cls (Pl_ (qY q_155).cls) M_ mS_ (TH_ (qY q_155).cls) (qB q_155) (rtOf (qR q_155)) (qR q_155) (qL q_155) k_155 = true := by decide +kernel
set_option maxRecDepth 100000 in
theorem ck_156 : codB (qY q_156).cls (Pl_ (qY q_156).cls) M_ mS_ (TH_ (qY q_156).cls) (qB q_156) (rtOf (qR q_156)) (qR q_156) (qL q_156) k_156 = true := by decide +kernel
set_option maxRecDepth 100000 in
theorem ck_157 : codB (qY q_157).cls (Pl_ (qY q_157).cls) M_ mS_ (TH_ (qY q_157).cls) (qB q_157) (rtOf (qR q_157)) (qR q_157) (qL q_157) k_157 = true := by decide +kernel
set_option maxRecDepth 100000 in
theorem ck_158 : codB (qY q_158).cls (Pl_ (qY q_158).cls) M_ mS_ (TH_ (qY q_158).cls) (qB q_158) (rtOf (qR q_158)) (qR q_158) (qL q_158) k_158 = true := by decide +kernel
set_option maxRecDepth 100000 in
theorem ck_159 : codB (qY q_159).cls (Pl_ (qY q_159).cls) M_ mS_ (TH_ (qY q_159).cls) (qB q_159) (rtOf (qR q_159)) (qR q_159) (qL q_159) k_159 = true := by decide +kernel
set_option maxRecDepth 100000 in
theorem ck_160 : codB (qY q_160).cls (Pl_ (qY q_160).cls) M_ mS_ (TH_ (qY q_160).cls) (qB q_160) (rtOf (qR q_160)) (qR q_160) (qL q_160) k_160 = true := by decide +kernel
set_option maxRecDepth 100000 in
theorem ck_161 : codB (qY q_161).cls (Pl_ (qY q_161).cls) M_ mS_ (TH_ (qY q_161).cls) (qB q_161) (rtOf (qR q_161)) (qR q_161) (qL q_161) k_161 = true := by decide +kernel
set_option maxRecDepth 100000 in
theorem ck_162 : codB (qY q_162).cls (Pl_ (qY q_162).cls) M_ mS_ (TH_ (qY q_162).cls) (qB q_162) (rtOf (qR q_162)) (qR q_162) (qL q_162) k_162 = true := by decide +kernel
set_option maxRecDepth 100000 in
theorem ck_163 : codB (qY q_163).cls (Pl_ (qY q_163).cls) M_ mS_ (TH_ (qY q_163).cls) (qB q_163) (rtOf (qR q_163)) (qR q_163) (qL q_163) k_163 = true := by decide +kernel
set_option maxRecDepth 100000 in
theorem ck_164 : codB (qY q_164).cls (Pl_ (qY q_164).cls) M_ mS_ (TH_ (qY q_164).cls) (qB q_164) (rtOf (qR q_164)) (qR q_164) (qL q_164) k_164 = true := by decide +kernel
set_option maxRecDepth 100000 in
theorem ck_165 : codB (qY q_165).cls (Pl_ (qY q_165).cls) M_ mS_ (TH_ (qY q_165).cls) (qB q_165) (rtOf (qR q_165)) (qR q_165) (qL q_165) k_165 = true := by decide +kernel
set_option maxRecDepth 100000 in
theorem ck_166 : codB (qY q_166).cls (Pl_ (qY q_166).cls) M_ mS_ (TH_ (qY q_166).cls) (qB q_166) (rtOf (qR q_166)) (qR q_166) (qL q_166) k_166 = true := by decide +kernel
set_option maxRecDepth 100000 in
theorem ck_167 : codB (qY q_167).cls (Pl_ (qY q_167).cls) M_ mS_ (TH_ (qY q_167).cls) (qB q_167) (rtOf (qR q_167)) (qR q_167) (qL q_167) k_167 = true := by decide +kernel
set_option maxRecDepth 100000 in
theorem ck_168 : codB (qY q_168).cls (Pl_ (qY q_168).cls) M_ mS_ (TH_ (qY q_168).cls) (qB q_168) (rtOf (qR q_168)) (qR q_168) (qL q_168) k_168 = true := by decide +kernel
set_option maxRecDepth 100000 in
theorem ck_169 : codB (qY q_169).cls (Pl_ (qY q_169).cls) M_ mS_ (TH_ (qY q_169).cls) (qB q_169) (rtOf (qR q_169)) (qR q_169) (qL q_169) k_169 = true := by decide +kernel
set_option maxRecDepth 100000 in
theorem ck_170 : codB (qY q_170).cls (Pl_ (qY q_170).cls) M_ mS_ (TH_ (qY q_170).cls) (qB q_170) (rtOf (qR q_170)) (qR q_170) (qL q_170) k_170 = true := by decide +kernel
set_option maxRecDepth 100000 in
theorem ck_171 : codB (qY q_171).cls (Pl_ (qY q_171).cls) M_ mS_ (TH_ (qY q_171).cls) (qB q_171) (rtOf (qR q_171)) (qR q_171) (qL q_171) k_171 = true := by decide +kernel
set_option maxRecDepth 100000 in
theorem ck_172 : codB (qY q_172).cls (Pl_ (qY q_172).cls) M_ mS_ (TH_ (qY q_172).cls) (qB q_172) (rtOf (qR q_172)) (qR q_172) (qL q_172) k_172 = true := by decide +kernel
set_option maxRecDepth 100000 in
theorem ck_173 : codB (qY q_173).cls (Pl_ (qY q_173).cls) M_ mS_ (TH_ (qY q_173).cls) (qB q_173) (rtOf (qR q_173)) (qR q_173) (qL q_173) k_173 = true := by decide +kernel
set_option maxRecDepth 100000 in
theorem ck_174 : codB (qY q_174).cls (Pl_ (qY q_174).cls) M_ mS_ (TH_ (qY q_174).cls) (qB q_174) (rtOf (qR q_174)) (qR q_174) (qL q_174) k_174 = true := by decide +kernel
set_option maxRecDepth 100000 in
theorem ck_175 : codB (qY q_175).cls (Pl_ (qY q_175).cls) M_ mS_ (TH_ (qY q_175).cls) (qB q_175) (rtOf (qR q_175)) (qR q_175) (qL q_175) k_175 = true := by decide +kernel
set_option maxRecDepth 100000 in
theorem ck_176 : codB (qY q_176).cls (Pl_ (qY q_176).cls) M_ mS_ (TH_ (qY q_176).cls) (qB q_176) (rtOf (qR q_176)) (qR q_176) (qL q_176) k_176 = true := by decide +kernel
set_option maxRecDepth 100000 in
theorem ck_177 : codB (qY q_177).cls (Pl_ (qY q_177).cls) M_ mS_ (TH_ (qY q_177).cls) (qB q_177) (rtOf (qR q_177)) (qR q_177) (qL q_177) k_177 = true := by decide +kernel
set_option maxRecDepth 100000 in
theorem ck_178 : codB (qY q_178).cls (Pl_ (qY q_178).cls) M_ mS_ (TH_ (qY q_178).cls) (qB q_178) (rtOf (qR q_178)) (qR q_178) (qL q_178) k_178 = true := by decide +kernel
set_option maxRecDepth 100000 in
theorem ck_179 : codB (qY q_179).cls (Pl_ (qY q_179).cls) M_ mS_ (TH_ (qY q_179).cls) (qB q_179) (rtOf (qR q_179)) (qR q_179) (qL q_179) k_179 = true := by decide +kernel
set_option maxRecDepth 100000 in
theorem ck_180 : codB (qY q_180).cls (Pl_ (qY q_180).cls) M_ mS_ (TH_ (qY q_180).cls) (qB q_180) (rtOf (qR q_180)) (qR q_180) (qL q_180) k_180 = true := by decide +kernel
