/-! THE PROGRAM'S CHECKS TOGETHER -/
def goodZ (z : Nat × mMeth) : Prop := z.1 < 400 ∧ methOK z.2 ∧ sg_ z.1 = (qN z.2, qC z.2, qT z.2, qI z.2) ∧ codB (qY z.2).cls (Pl_ (qY z.2).cls) M_ mS_ (TH_ (qY z.2).cls) (qB z.2) (rtOf (qR z.2)) (qR z.2) (qL z.2) (cd_ z.1) = true
theorem gz_1 : goodZ (1, q_1) := ⟨by decide, methB_ok mk_1, rfl, ck_1⟩
theorem gz_2 : goodZ (2, q_2) := ⟨by decide, methB_ok mk_2, rfl, ck_2⟩
theorem gz_3 : goodZ (3, q_3) := ⟨by decide, methB_ok mk_3, rfl, ck_3⟩
theorem gz_4 : goodZ (4, q_4) := ⟨by decide, methB_ok mk_4, rfl, ck_4⟩
theorem gz_5 : goodZ (5, q_5) := ⟨by decide, methB_ok mk_5, rfl, ck_5⟩
theorem gz_6 : goodZ (6, q_6) := ⟨by decide, methB_ok mk_6, rfl, ck_6⟩
theorem gz_7 : goodZ (7, q_7) := ⟨by decide, methB_ok mk_7, rfl, ck_7⟩
theorem gz_8 : goodZ (8, q_8) := ⟨by decide, methB_ok mk_8, rfl, ck_8⟩
theorem gz_9 : goodZ (9, q_9) := ⟨by decide, methB_ok mk_9, rfl, ck_9⟩
theorem gz_10 : goodZ (10, q_10) := ⟨by decide, methB_ok mk_10, rfl, ck_10⟩
theorem gz_11 : goodZ (11, q_11) := ⟨by decide, methB_ok mk_11, rfl, ck_11⟩
theorem gz_12 : goodZ (12, q_12) := ⟨by decide, methB_ok mk_12, rfl, ck_12⟩
theorem gz_13 : goodZ (13, q_13) := ⟨by decide, methB_ok mk_13, rfl, ck_13⟩
theorem gz_14 : goodZ (14, q_14) := ⟨by decide, methB_ok mk_14, rfl, ck_14⟩
theorem gz_15 : goodZ (15, q_15) := ⟨by decide, methB_ok mk_15, rfl, ck_15⟩
theorem gz_16 : goodZ (16, q_16) := ⟨by decide, methB_ok mk_16, rfl, ck_16⟩
theorem gz_17 : goodZ (17, q_17) := ⟨by decide, methB_ok mk_17, rfl, ck_17⟩
theorem gz_18 : goodZ (18, q_18) := ⟨by decide, methB_ok mk_18, rfl, ck_18⟩
theorem gz_19 : goodZ (19, q_19) := ⟨by decide, methB_ok mk_19, rfl, ck_19⟩
theorem gz_20 : goodZ (20, q_20) := ⟨by decide, methB_ok mk_20, rfl, ck_20⟩
theorem gz_21 : goodZ (21, q_21) := ⟨by decide, methB_ok mk_21, rfl, ck_21⟩
theorem gz_22 : goodZ (22, q_22) := ⟨by decide, methB_ok mk_22, rfl, ck_22⟩
theorem gz_23 : goodZ (23, q_23) := ⟨by decide, methB_ok mk_23, rfl, ck_23⟩
theorem gz_24 : goodZ (24, q_24) := ⟨by decide, methB_ok mk_24, rfl, ck_24⟩
theorem gz_25 : goodZ (25, q_25) := ⟨by decide, methB_ok mk_25, rfl, ck_25⟩
theorem gz_26 : goodZ (26, q_26) := ⟨by decide, methB_ok mk_26, rfl, ck_26⟩
theorem gz_27 : goodZ (27, q_27) := ⟨by decide, methB_ok mk_27, rfl, ck_27⟩
theorem gz_28 : goodZ (28, q_28) := ⟨by decide, methB_ok mk_28, rfl, ck_28⟩
theorem gz_29 : goodZ (29, q_29) := ⟨by decide, methB_ok mk_29, rfl, ck_29⟩
theorem gz_30 : goodZ (30, q_30) := ⟨by decide, methB_ok mk_30, rfl, ck_30⟩
theorem gz_31 : goodZ (31, q_31) := ⟨by decide, methB_ok mk_31, rfl, ck_31⟩
theorem gz_32 : goodZ (32, q_32) := ⟨by decide, methB_ok mk_32, rfl, ck_32⟩
theorem gz_33 : goodZ (33, q_33) := ⟨by decide, methB_ok mk_33, rfl, ck_33⟩
theorem gz_34 : goodZ (34, q_34) := ⟨by decide, methB_ok mk_34, rfl, ck_34⟩
theorem gz_35 : goodZ (35, q_35) := ⟨by decide, methB_ok mk_35, rfl, ck_35⟩
theorem gz_36 : goodZ (36, q_36) := ⟨by decide, methB_ok mk_36, rfl, ck_36⟩
theorem gz_37 : goodZ (37, q_37) := ⟨by decide, methB_ok mk_37, rfl, ck_37⟩
theorem gz_38 : goodZ (38, q_38) := ⟨by decide, methB_ok mk_38, rfl, ck_38⟩
theorem gz_39 : goodZ (39, q_39) := ⟨by decide, methB_ok mk_39, rfl, ck_39⟩
theorem gz_40 : goodZ (40, q_40) := ⟨by decide, methB_ok mk_40, rfl, ck_40⟩
theorem gz_41 : goodZ (41, q_41) := ⟨by decide, methB_ok mk_41, rfl, ck_41⟩
theorem gz_42 : goodZ (42, q_42) := ⟨by decide, methB_ok mk_42, rfl, ck_42⟩
theorem gz_43 : goodZ (43, q_43) := ⟨by decide, methB_ok mk_43, rfl, ck_43⟩
theorem gz_44 : goodZ (44, q_44) := ⟨by decide, methB_ok mk_44, rfl, ck_44⟩
theorem gz_45 : goodZ (45, q_45) := ⟨by decide, methB_ok mk_45, rfl, ck_45⟩
theorem gz_46 : goodZ (46, q_46) := ⟨by decide, methB_ok mk_46, rfl, ck_46⟩
theorem gz_47 : goodZ (47, q_47) := ⟨by decide, methB_ok mk_47, rfl, ck_47⟩
theorem gz_48 : goodZ (48, q_48) := ⟨by decide, methB_ok mk_48, rfl, ck_48⟩
theorem gz_49 : goodZ (49, q_49) := ⟨by decide, methB_ok mk_49, rfl, ck_49⟩
theorem gz_50 : goodZ (50, q_50) := ⟨by decide, methB_ok mk_50, rfl, ck_50⟩
theorem gz_51 : goodZ (51, q_51) := ⟨by decide, methB_ok mk_51, rfl, ck_51⟩
theorem gz_52 : goodZ (52, q_52) := ⟨by decide, methB_ok mk_52, rfl, ck_52⟩
theorem gz_53 : goodZ (53, q_53) := ⟨by decide, methB_ok mk_53, rfl, ck_53⟩
theorem gz_54 : goodZ (54, q_54) := ⟨by decide, methB_ok mk_54, rfl, ck_54⟩
theorem gz_55 : goodZ (55, q_55) := ⟨by decide, methB_ok mk_55, rfl, ck_55⟩
theorem gz_56 : goodZ (56, q_56) := ⟨by decide, methB_ok mk_56, rfl, ck_56⟩
theorem gz_57 : goodZ (57, q_57) := ⟨by decide, methB_ok mk_57, rfl, ck_57⟩
theorem gz_58 : goodZ (58, q_58) := ⟨by decide, methB_ok mk_58, rfl, ck_58⟩
theorem gz_59 : goodZ (59, q_59) := ⟨by decide, methB_ok mk_59, rfl, ck_59⟩
theorem gz_60 : goodZ (60, q_60) := ⟨by decide, methB_ok mk_60, rfl, ck_60⟩
theorem gz_61 : goodZ (61, q_61) := ⟨by decide, methB_ok mk_61, rfl, ck_61⟩
theorem gz_62 : goodZ (62, q_62) := ⟨by decide, methB_ok mk_62, rfl, ck_62⟩
theorem gz_63 : goodZ (63, q_63) := ⟨by decide, methB_ok mk_63, rfl, ck_63⟩
theorem gz_64 : goodZ (64, q_64) := ⟨by decide, methB_ok mk_64, rfl, ck_64⟩
theorem gz_65 : goodZ (65, q_65) := ⟨by decide, methB_ok mk_65, rfl, ck_65⟩
theorem gz_66 : goodZ (66, q_66) := ⟨by decide, methB_ok mk_66, rfl, ck_66⟩
theorem gz_67 : goodZ (67, q_67) := ⟨by decide, methB_ok mk_67, rfl, ck_67⟩
theorem gz_68 : goodZ (68, q_68) := ⟨by decide, methB_ok mk_68, rfl, ck_68⟩
theorem gz_69 : goodZ (69, q_69) := ⟨by decide, methB_ok mk_69, rfl, ck_69⟩
theorem gz_70 : goodZ (70, q_70) := ⟨by decide, methB_ok mk_70, rfl, ck_70⟩
theorem gz_71 : goodZ (71, q_71) := ⟨by decide, methB_ok mk_71, rfl, ck_71⟩
theorem gz_72 : goodZ (72, q_72) := ⟨by decide, methB_ok mk_72, rfl, ck_72⟩
theorem gz_73 : goodZ (73, q_73) := ⟨by decide, methB_ok mk_73, rfl, ck_73⟩
theorem gz_74 : goodZ (74, q_74) := ⟨by decide, methB_ok mk_74, rfl, ck_74⟩
theorem gz_75 : goodZ (75, q_75) := ⟨by decide, methB_ok mk_75, rfl, ck_75⟩
theorem gz_76 : goodZ (76, q_76) := ⟨by decide, methB_ok mk_76, rfl, ck_76⟩
theorem gz_77 : goodZ (77, q_77) := ⟨by decide, methB_ok mk_77, rfl, ck_77⟩
theorem gz_78 : goodZ (78, q_78) := ⟨by decide, methB_ok mk_78, rfl, ck_78⟩
theorem gz_79 : goodZ (79, q_79) := ⟨by decide, methB_ok mk_79, rfl, ck_79⟩
theorem gz_80 : goodZ (80, q_80) := ⟨by decide, methB_ok mk_80, rfl, ck_80⟩
theorem gz_81 : goodZ (81, q_81) := ⟨by decide, methB_ok mk_81, rfl, ck_81⟩
theorem gz_82 : goodZ (82, q_82) := ⟨by decide, methB_ok mk_82, rfl, ck_82⟩
theorem gz_83 : goodZ (83, q_83) := ⟨by decide, methB_ok mk_83, rfl, ck_83⟩
theorem gz_84 : goodZ (84, q_84) := ⟨by decide, methB_ok mk_84, rfl, ck_84⟩
theorem gz_85 : goodZ (85, q_85) := ⟨by decide, methB_ok mk_85, rfl, ck_85⟩
theorem gz_86 : goodZ (86, q_86) := ⟨by decide, methB_ok mk_86, rfl, ck_86⟩
theorem gz_87 : goodZ (87, q_87) := ⟨by decide, methB_ok mk_87, rfl, ck_87⟩
theorem gz_88 : goodZ (88, q_88) := ⟨by decide, methB_ok mk_88, rfl, ck_88⟩
theorem gz_89 : goodZ (89, q_89) := ⟨by decide, methB_ok mk_89, rfl, ck_89⟩
theorem gz_90 : goodZ (90, q_90) := ⟨by decide, methB_ok mk_90, rfl, ck_90⟩
theorem gz_91 : goodZ (91, q_91) := ⟨by decide, methB_ok mk_91, rfl, ck_91⟩
theorem gz_92 : goodZ (92, q_92) := ⟨by decide, methB_ok mk_92, rfl, ck_92⟩
theorem gz_93 : goodZ (93, q_93) := ⟨by decide, methB_ok mk_93, rfl, ck_93⟩
theorem gz_94 : goodZ (94, q_94) := ⟨by decide, methB_ok mk_94, rfl, ck_94⟩
theorem gz_95 : goodZ (95, q_95) := ⟨by decide, methB_ok mk_95, rfl, ck_95⟩
theorem gz_96 : goodZ (96, q_96) := ⟨by decide, methB_ok mk_96, rfl, ck_96⟩
theorem gz_97 : goodZ (97, q_97) := ⟨by decide, methB_ok mk_97, rfl, ck_97⟩
theorem gz_98 : goodZ (98, q_98) := ⟨by decide, methB_ok mk_98, rfl, ck_98⟩
theorem gz_99 : goodZ (99, q_99) := ⟨by decide, methB_ok mk_99, rfl, ck_99⟩
theorem gz_100 : goodZ (100, q_100) := ⟨by decide, methB_ok mk_100, rfl, ck_100⟩
theorem gz_101 : goodZ (101, q_101) := ⟨by decide, methB_ok mk_101, rfl, ck_101⟩
theorem gz_102 : goodZ (102, q_102) := ⟨by decide, methB_ok mk_102, rfl, ck_102⟩
theorem gz_103 : goodZ (103, q_103) := ⟨by decide, methB_ok mk_103, rfl, ck_103⟩
theorem gz_104 : goodZ (104, q_104) := ⟨by decide, methB_ok mk_104, rfl, ck_104⟩
theorem gz_105 : goodZ (105, q_105) := ⟨by decide, methB_ok mk_105, rfl, ck_105⟩
theorem gz_106 : goodZ (106, q_106) := ⟨by decide, methB_ok mk_106, rfl, ck_106⟩
theorem gz_107 : goodZ (107, q_107) := ⟨by decide, methB_ok mk_107, rfl, ck_107⟩
theorem gz_108 : goodZ (108, q_108) := ⟨by decide, methB_ok mk_108, rfl, ck_108⟩
theorem gz_109 : goodZ (109, q_109) := ⟨by decide, methB_ok mk_109, rfl, ck_109⟩
theorem gz_110 : goodZ (110, q_110) := ⟨by decide, methB_ok mk_110, rfl, ck_110⟩
theorem gz_111 : goodZ (111, q_111) := ⟨by decide, methB_ok mk_111, rfl, ck_111⟩
theorem gz_112 : goodZ (112, q_112) := ⟨by decide, methB_ok mk_112, rfl, ck_112⟩
theorem gz_113 : goodZ (113, q_113) := ⟨by decide, methB_ok mk_113, rfl, ck_113⟩
theorem gz_114 : goodZ (114, q_114) := ⟨by decide, methB_ok mk_114, rfl, ck_114⟩
theorem gz_115 : goodZ (115, q_115) := ⟨by decide, methB_ok mk_115, rfl, ck_115⟩
theorem gz_116 : goodZ (116, q_116) := ⟨by decide, methB_ok mk_116, rfl, ck_116⟩
theorem gz_117 : goodZ (117, q_117) := ⟨by decide, methB_ok mk_117, rfl, ck_117⟩
theorem gz_118 : goodZ (118, q_118) := ⟨by decide, methB_ok mk_118, rfl, ck_118⟩
theorem gz_119 : goodZ (119, q_119) := ⟨by decide, methB_ok mk_119, rfl, ck_119⟩
theorem gz_120 : goodZ (120, q_120) := ⟨by decide, methB_ok mk_120, rfl, ck_120⟩
theorem gz_121 : goodZ (121, q_121) := ⟨by decide, methB_ok mk_121, rfl, ck_121⟩
theorem gz_122 : goodZ (122, q_122) := ⟨by decide, methB_ok mk_122, rfl, ck_122⟩
theorem gz_123 : goodZ (123, q_123) := ⟨by decide, methB_ok mk_123, rfl, ck_123⟩
theorem gz_124 : goodZ (124, q_124) := ⟨by decide, methB_ok mk_124, rfl, ck_124⟩
theorem gz_125 : goodZ (125, q_125) := ⟨by decide, methB_ok mk_125, rfl, ck_125⟩
theorem gz_126 : goodZ (126, q_126) := ⟨by decide, methB_ok mk_126, rfl, ck_126⟩
theorem gz_127 : goodZ (127, q_127) := ⟨by decide, methB_ok mk_127, rfl, ck_127⟩
theorem gz_128 : goodZ (128, q_128) := ⟨by decide, methB_ok mk_128, rfl, ck_128⟩
theorem gz_129 : goodZ (129, q_129) := ⟨by decide, methB_ok mk_129, rfl, ck_129⟩
theorem gz_130 : goodZ (130, q_130) := ⟨by decide, methB_ok mk_130, rfl, ck_130⟩
theorem gz_131 : goodZ (131, q_131) := ⟨by decide, methB_ok mk_131, rfl, ck_131⟩
theorem gz_132 : goodZ (132, q_132) := ⟨by decide, methB_ok mk_132, rfl, ck_132⟩
theorem gz_133 : goodZ (133, q_133) := ⟨by decide, methB_ok mk_133, rfl, ck_133⟩
theorem gz_134 : goodZ (134, q_134) := ⟨by decide, methB_ok mk_134, rfl, ck_134⟩
theorem gz_135 : goodZ (135, q_135) := ⟨by decide, methB_ok mk_135, rfl, ck_135⟩
theorem gz_136 : goodZ (136, q_136) := ⟨by decide, methB_ok mk_136, rfl, ck_136⟩
theorem gz_137 : goodZ (137, q_137) := ⟨by decide, methB_ok mk_137, rfl, ck_137⟩
theorem gz_138 : goodZ (138, q_138) := ⟨by decide, methB_ok mk_138, rfl, ck_138⟩
theorem gz_139 : goodZ (139, q_139) := ⟨by decide, methB_ok mk_139, rfl, ck_139⟩
theorem gz_140 : goodZ (140, q_140) := ⟨by decide, methB_ok mk_140, rfl, ck_140⟩
theorem gz_141 : goodZ (141, q_141) := ⟨by decide, methB_ok mk_141, rfl, ck_141⟩
theorem gz_142 : goodZ (142, q_142) := ⟨by decide, methB_ok mk_142, rfl, ck_142⟩
theorem gz_143 : goodZ (143, q_143) := ⟨by decide, methB_ok mk_143, rfl, ck_143⟩
theorem gz_144 : goodZ (144, q_144) := ⟨by decide, methB_ok mk_144, rfl, ck_144⟩
theorem gz_145 : goodZ (145, q_145) := ⟨by decide, methB_ok mk_145, rfl, ck_145⟩
theorem gz_146 : goodZ (146, q_146) := ⟨by decide, methB_ok mk_146, rfl, ck_146⟩
theorem gz_147 : goodZ (147, q_147) := ⟨by decide, methB_ok mk_147, rfl, ck_147⟩
theorem gz_148 : goodZ (148, q_148) := ⟨by decide, methB_ok mk_148, rfl, ck_148⟩
theorem gz_149 : goodZ (149, q_149) := ⟨by decide, methB_ok mk_149, rfl, ck_149⟩
theorem gz_150 : goodZ (150, q_150) := ⟨by decide, methB_ok mk_150, rfl, ck_150⟩
theorem gz_151 : goodZ (151, q_151) := ⟨by decide, methB_ok mk_151, rfl, ck_151⟩
theorem gz_152 : goodZ (152, q_152) := ⟨by decide, methB_ok mk_152, rfl, ck_152⟩
theorem gz_153 : goodZ (153, q_153) := ⟨by decide, methB_ok mk_153, rfl, ck_153⟩
theorem gz_154 : goodZ (154, q_154) := ⟨by decide, methB_ok mk_154, rfl, ck_154⟩
theorem gz_155 : goodZ (155, q_155) := ⟨by decide, methB_ok mk_155, rfl, ck_155⟩
theorem gz_156 : goodZ (156, q_156) := ⟨by decide, methB_ok mk_156, rfl, ck_156⟩
theorem gz_157 : goodZ (157, q_157) := ⟨by decide, methB_ok mk_157, rfl, ck_157⟩
theorem gz_158 : goodZ (158, q_158) := ⟨by decide, methB_ok mk_158, rfl, ck_158⟩
theorem gz_159 : goodZ (159, q_159) := ⟨by decide, methB_ok mk_159, rfl, ck_159⟩
theorem gz_160 : goodZ (160, q_160) := ⟨by decide, methB_ok mk_160, rfl, ck_160⟩
theorem gz_161 : goodZ (161, q_161) := ⟨by decide, methB_ok mk_161, rfl, ck_161⟩
theorem gz_162 : goodZ (162, q_162) := ⟨by decide, methB_ok mk_162, rfl, ck_162⟩
theorem gz_163 : goodZ (163, q_163) := ⟨by decide, methB_ok mk_163, rfl, ck_163⟩
theorem gz_164 : goodZ (164, q_164) := ⟨by decide, methB_ok mk_164, rfl, ck_164⟩
theorem gz_165 : goodZ (165, q_165) := ⟨by decide, methB_ok mk_165, rfl, ck_165⟩
theorem gz_166 : goodZ (166, q_166) := ⟨by decide, methB_ok mk_166, rfl, ck_166⟩
theorem gz_167 : goodZ (167, q_167) := ⟨by decide, methB_ok mk_167, rfl, ck_167⟩
theorem gz_168 : goodZ (168, q_168) := ⟨by decide, methB_ok mk_168, rfl, ck_168⟩
theorem gz_169 : goodZ (169, q_169) := ⟨by decide, methB_ok mk_169, rfl, ck_169⟩
theorem gz_170 : goodZ (170, q_170) := ⟨by decide, methB_ok mk_170, rfl, ck_170⟩
theorem gz_171 : goodZ (171, q_171) := ⟨by decide, methB_ok mk_171, rfl, ck_171⟩
theorem gz_172 : goodZ (172, q_172) := ⟨by decide, methB_ok mk_172, rfl, ck_172⟩
theorem gz_173 : goodZ (173, q_173) := ⟨by decide, methB_ok mk_173, rfl, ck_173⟩
theorem gz_174 : goodZ (174, q_174) := ⟨by decide, methB_ok mk_174, rfl, ck_174⟩
theorem gz_175 : goodZ (175, q_175) := ⟨by decide, methB_ok mk_175, rfl, ck_175⟩
theorem gz_176 : goodZ (176, q_176) := ⟨by decide, methB_ok mk_176, rfl, ck_176⟩
theorem gz_177 : goodZ (177, q_177) := ⟨by decide, methB_ok mk_177, rfl, ck_177⟩
theorem gz_178 : goodZ (178, q_178) := ⟨by decide, methB_ok mk_178, rfl, ck_178⟩
theorem gz_179 : goodZ (179, q_179) := ⟨by decide, methB_ok mk_179, rfl, ck_179⟩
theorem gz_180 : goodZ (180, q_180) := ⟨by decide, methB_ok mk_180, rfl, ck_180⟩
def mLc_0 : List (Nat × mMeth) := [(1, q_1), (2, q_2), (3, q_3), (4, q_4), (5, q_5), (6, q_6), (7, q_7), (8, q_8), (9, q_9), (10, q_10), (11, q_11), (12, q_12), (13, q_13), (14, q_14), (15, q_15), (16, q_16), (17, q_17), (18, q_18), (19, q_19), (20, q_20)]
theorem gc_0 : ∀ z ∈ mLc_0, goodZ z := List.forall_mem_cons.mpr ⟨gz_1, List.forall_mem_cons.mpr ⟨gz_2, List.forall_mem_cons.mpr ⟨gz_3, List.forall_mem_cons.mpr ⟨gz_4, List.forall_mem_cons.mpr ⟨gz_5, List.forall_mem_cons.mpr ⟨gz_6, List.forall_mem_cons.mpr ⟨gz_7, List.forall_mem_cons.mpr ⟨gz_8, List.forall_mem_cons.mpr ⟨gz_9, List.forall_mem_cons.mpr ⟨gz_10, List.forall_mem_cons.mpr ⟨gz_11, List.forall_mem_cons.mpr ⟨gz_12, List.forall_mem_cons.mpr ⟨gz_13, List.forall_mem_cons.mpr ⟨gz_14, List.forall_mem_cons.mpr ⟨gz_15, List.forall_mem_cons.mpr ⟨gz_16, List.forall_mem_cons.mpr ⟨gz_17, List.forall_mem_cons.mpr ⟨gz_18, List.forall_mem_cons.mpr ⟨gz_19, List.forall_mem_cons.mpr ⟨gz_20, fun _ h => absurd h List.not_mem_nil⟩⟩⟩⟩⟩⟩⟩⟩⟩⟩⟩⟩⟩⟩⟩⟩⟩⟩⟩⟩
def mLc_1 : List (Nat × mMeth) := [(21, q_21), (22, q_22), (23, q_23), (24, q_24), (25, q_25), (26, q_26), (27, q_27), (28, q_28), (29, q_29), (30, q_30), (31, q_31), (32, q_32), (33, q_33), (34, q_34), (35, q_35), (36, q_36), (37, q_37), (38, q_38), (39, q_39), (40, q_40)]
theorem gc_1 : ∀ z ∈ mLc_1, goodZ z := List.forall_mem_cons.mpr ⟨gz_21, List.forall_mem_cons.mpr ⟨gz_22, List.forall_mem_cons.mpr ⟨gz_23, List.forall_mem_cons.mpr ⟨gz_24, List.forall_mem_cons.mpr ⟨gz_25, List.forall_mem_cons.mpr ⟨gz_26, List.forall_mem_cons.mpr ⟨gz_27, List.forall_mem_cons.mpr ⟨gz_28, List.forall_mem_cons.mpr ⟨gz_29, List.forall_mem_cons.mpr ⟨gz_30, List.forall_mem_cons.mpr ⟨gz_31, List.forall_mem_cons.mpr ⟨gz_32, List.forall_mem_cons.mpr ⟨gz_33, List.forall_mem_cons.mpr ⟨gz_34, List.forall_mem_cons.mpr ⟨gz_35, List.forall_mem_cons.mpr ⟨gz_36, List.forall_mem_cons.mpr ⟨gz_37, List.forall_mem_cons.mpr ⟨gz_38, List.forall_mem_cons.mpr ⟨gz_39, List.forall_mem_cons.mpr ⟨gz_40, fun _ h => absurd h List.not_mem_nil⟩⟩⟩⟩⟩⟩⟩⟩⟩⟩⟩⟩⟩⟩⟩⟩⟩⟩⟩⟩
def mLc_2 : List (Nat × mMeth) := [(41, q_41), (42, q_42), (43, q_43), (44, q_44), (45, q_45), (46, q_46), (47, q_47), (48, q_48), (49, q_49), (50, q_50), (51, q_51), (52, q_52), (53, q_53), (54, q_54), (55, q_55), (56, q_56), (57, q_57), (58, q_58), (59, q_59), (60, q_60)]
theorem gc_2 : ∀ z ∈ mLc_2, goodZ z := List.forall_mem_cons.mpr ⟨gz_41, List.forall_mem_cons.mpr ⟨gz_42, List.forall_mem_cons.mpr ⟨gz_43, List.forall_mem_cons.mpr ⟨gz_44, List.forall_mem_cons.mpr ⟨gz_45, List.forall_mem_cons.mpr ⟨gz_46, List.forall_mem_cons.mpr ⟨gz_47, List.forall_mem_cons.mpr ⟨gz_48, List.forall_mem_cons.mpr ⟨gz_49, List.forall_mem_cons.mpr ⟨gz_50, List.forall_mem_cons.mpr ⟨gz_51, List.forall_mem_cons.mpr ⟨gz_52, List.forall_mem_cons.mpr ⟨gz_53, List.forall_mem_cons.mpr ⟨gz_54, List.forall_mem_cons.mpr ⟨gz_55, List.forall_mem_cons.mpr ⟨gz_56, List.forall_mem_cons.mpr ⟨gz_57, List.forall_mem_cons.mpr ⟨gz_58, List.forall_mem_cons.mpr ⟨gz_59, List.forall_mem_cons.mpr ⟨gz_60, fun _ h => absurd h List.not_mem_nil⟩⟩⟩⟩⟩⟩⟩⟩⟩⟩⟩⟩⟩⟩⟩⟩⟩⟩⟩⟩
def mLc_3 : List (Nat × mMeth) := [(61, q_61), (62, q_62), (63, q_63), (64, q_64), (65, q_65), (66, q_66), (67, q_67), (68, q_68), (69, q_69), (70, q_70), (71, q_71), (72, q_72), (73, q_73), (74, q_74), (75, q_75), (76, q_76), (77, q_77), (78, q_78), (79, q_79), (80, q_80)]
theorem gc_3 : ∀ z ∈ mLc_3, goodZ z := List.forall_mem_cons.mpr ⟨gz_61, List.forall_mem_cons.mpr ⟨gz_62, List.forall_mem_cons.mpr ⟨gz_63, List.forall_mem_cons.mpr ⟨gz_64, List.forall_mem_cons.mpr ⟨gz_65, List.forall_mem_cons.mpr ⟨gz_66, List.forall_mem_cons.mpr ⟨gz_67, List.forall_mem_cons.mpr ⟨gz_68, List.forall_mem_cons.mpr ⟨gz_69, List.forall_mem_cons.mpr ⟨gz_70, List.forall_mem_cons.mpr ⟨gz_71, List.forall_mem_cons.mpr ⟨gz_72, List.forall_mem_cons.mpr ⟨gz_73, List.forall_mem_cons.mpr ⟨gz_74, List.forall_mem_cons.mpr ⟨gz_75, List.forall_mem_cons.mpr ⟨gz_76, List.forall_mem_cons.mpr ⟨gz_77, List.forall_mem_cons.mpr ⟨gz_78, List.forall_mem_cons.mpr ⟨gz_79, List.forall_mem_cons.mpr ⟨gz_80, fun _ h => absurd h List.not_mem_nil⟩⟩⟩⟩⟩⟩⟩⟩⟩⟩⟩⟩⟩⟩⟩⟩⟩⟩⟩⟩
def mLc_4 : List (Nat × mMeth) := [(81, q_81), (82, q_82), (83, q_83), (84, q_84), (85, q_85), (86, q_86), (87, q_87), (88, q_88), (89, q_89), (90, q_90), (91, q_91), (92, q_92), (93, q_93), (94, q_94), (95, q_95), (96, q_96), (97, q_97), (98, q_98), (99, q_99), (100, q_100)]
theorem gc_4 : ∀ z ∈ mLc_4, goodZ z := List.forall_mem_cons.mpr ⟨gz_81, List.forall_mem_cons.mpr ⟨gz_82, List.forall_mem_cons.mpr ⟨gz_83, List.forall_mem_cons.mpr ⟨gz_84, List.forall_mem_cons.mpr ⟨gz_85, List.forall_mem_cons.mpr ⟨gz_86, List.forall_mem_cons.mpr ⟨gz_87, List.forall_mem_cons.mpr ⟨gz_88, List.forall_mem_cons.mpr ⟨gz_89, List.forall_mem_cons.mpr ⟨gz_90, List.forall_mem_cons.mpr ⟨gz_91, List.forall_mem_cons.mpr ⟨gz_92, List.forall_mem_cons.mpr ⟨gz_93, List.forall_mem_cons.mpr ⟨gz_94, List.forall_mem_cons.mpr ⟨gz_95, List.forall_mem_cons.mpr ⟨gz_96, List.forall_mem_cons.mpr ⟨gz_97, List.forall_mem_cons.mpr ⟨gz_98, List.forall_mem_cons.mpr ⟨gz_99, List.forall_mem_cons.mpr ⟨gz_100, fun _ h => absurd h List.not_mem_nil⟩⟩⟩⟩⟩⟩⟩⟩⟩⟩⟩⟩⟩⟩⟩⟩⟩⟩⟩⟩
def mLc_5 : List (Nat × mMeth) := [(101, q_101), (102, q_102), (103, q_103), (104, q_104), (105, q_105), (106, q_106), (107, q_107), (108, q_108), (109, q_109), (110, q_110), (111, q_111), (112, q_112), (113, q_113), (114, q_114), (115, q_115), (116, q_116), (117, q_117), (118, q_118), (119, q_119), (120, q_120)]
theorem gc_5 : ∀ z ∈ mLc_5, goodZ z := List.forall_mem_cons.mpr ⟨gz_101, List.forall_mem_cons.mpr ⟨gz_102, List.forall_mem_cons.mpr ⟨gz_103, List.forall_mem_cons.mpr ⟨gz_104, List.forall_mem_cons.mpr ⟨gz_105, List.forall_mem_cons.mpr ⟨gz_106, List.forall_mem_cons.mpr ⟨gz_107, List.forall_mem_cons.mpr ⟨gz_108, List.forall_mem_cons.mpr ⟨gz_109, List.forall_mem_cons.mpr ⟨gz_110, List.forall_mem_cons.mpr ⟨gz_111, List.forall_mem_cons.mpr ⟨gz_112, List.forall_mem_cons.mpr ⟨gz_113, List.forall_mem_cons.mpr ⟨gz_114, List.forall_mem_cons.mpr ⟨gz_115, List.forall_mem_cons.mpr ⟨gz_116, List.forall_mem_cons.mpr ⟨gz_117, List.forall_mem_cons.mpr ⟨gz_118, List.forall_mem_cons.mpr ⟨gz_119, List.forall_mem_cons.mpr ⟨gz_120, fun _ h => absurd h List.not_mem_nil⟩⟩⟩⟩⟩⟩⟩⟩⟩⟩⟩⟩⟩⟩⟩⟩⟩⟩⟩⟩
def mLc_6 : List (Nat × mMeth) := [(121, q_121), (122, q_122), (123, q_123), (124, q_124), (125, q_125), (126, q_126), (127, q_127), (128, q_128), (129, q_129), (130, q_130), (131, q_131), (132, q_132), (133, q_133), (134, q_134), (135, q_135), (136, q_136), (137, q_137), (138, q_138), (139, q_139), (140, q_140)]
theorem gc_6 : ∀ z ∈ mLc_6, goodZ z := List.forall_mem_cons.mpr ⟨gz_121, List.forall_mem_cons.mpr ⟨gz_122, List.forall_mem_cons.mpr ⟨gz_123, List.forall_mem_cons.mpr ⟨gz_124, List.forall_mem_cons.mpr ⟨gz_125, List.forall_mem_cons.mpr ⟨gz_126, List.forall_mem_cons.mpr ⟨gz_127, List.forall_mem_cons.mpr ⟨gz_128, List.forall_mem_cons.mpr ⟨gz_129, List.forall_mem_cons.mpr ⟨gz_130, List.forall_mem_cons.mpr ⟨gz_131, List.forall_mem_cons.mpr ⟨gz_132, List.forall_mem_cons.mpr ⟨gz_133, List.forall_mem_cons.mpr ⟨gz_134, List.forall_mem_cons.mpr ⟨gz_135, List.forall_mem_cons.mpr ⟨gz_136, List.forall_mem_cons.mpr ⟨gz_137, List.forall_mem_cons.mpr ⟨gz_138, List.forall_mem_cons.mpr ⟨gz_139, List.forall_mem_cons.mpr ⟨gz_140, fun _ h => absurd h List.not_mem_nil⟩⟩⟩⟩⟩⟩⟩⟩⟩⟩⟩⟩⟩⟩⟩⟩⟩⟩⟩⟩
def mLc_7 : List (Nat × mMeth) := [(141, q_141), (142, q_142), (143, q_143), (144, q_144), (145, q_145), (146, q_146), (147, q_147), (148, q_148), (149, q_149), (150, q_150), (151, q_151), (152, q_152), (153, q_153), (154, q_154), (155, q_155), (156, q_156), (157, q_157), (158, q_158), (159, q_159), (160, q_160)]
theorem gc_7 : ∀ z ∈ mLc_7, goodZ z := List.forall_mem_cons.mpr ⟨gz_141, List.forall_mem_cons.mpr ⟨gz_142, List.forall_mem_cons.mpr ⟨gz_143, List.forall_mem_cons.mpr ⟨gz_144, List.forall_mem_cons.mpr ⟨gz_145, List.forall_mem_cons.mpr ⟨gz_146, List.forall_mem_cons.mpr ⟨gz_147, List.forall_mem_cons.mpr ⟨gz_148, List.forall_mem_cons.mpr ⟨gz_149, List.forall_mem_cons.mpr ⟨gz_150, List.forall_mem_cons.mpr ⟨gz_151, List.forall_mem_cons.mpr ⟨gz_152, List.forall_mem_cons.mpr ⟨gz_153, List.forall_mem_cons.mpr ⟨gz_154, List.forall_mem_cons.mpr ⟨gz_155, List.forall_mem_cons.mpr ⟨gz_156, List.forall_mem_cons.mpr ⟨gz_157, List.forall_mem_cons.mpr ⟨gz_158, List.forall_mem_cons.mpr ⟨gz_159, List.forall_mem_cons.mpr ⟨gz_160, fun _ h => absurd h List.not_mem_nil⟩⟩⟩⟩⟩⟩⟩⟩⟩⟩⟩⟩⟩⟩⟩⟩⟩⟩⟩⟩
def mLc_8 : List (Nat × mMeth) := [(161, q_161), (162, q_162), (163, q_163), (164, q_164), (165, q_165), (166, q_166), (167, q_167), (168, q_168), (169, q_169), (170, q_170), (171, q_171), (172, q_172), (173, q_173), (174, q_174), (175, q_175), (176, q_176), (177, q_177), (178, q_178), (179, q_179), (180, q_180)]
theorem gc_8 : ∀ z ∈ mLc_8, goodZ z := List.forall_mem_cons.mpr ⟨gz_161, List.forall_mem_cons.mpr ⟨gz_162, List.forall_mem_cons.mpr ⟨gz_163, List.forall_mem_cons.mpr ⟨gz_164, List.forall_mem_cons.mpr ⟨gz_165, List.forall_mem_cons.mpr ⟨gz_166, List.forall_mem_cons.mpr ⟨gz_167, List.forall_mem_cons.mpr ⟨gz_168, List.forall_mem_cons.mpr ⟨gz_169, List.forall_mem_cons.mpr ⟨gz_170, List.forall_mem_cons.mpr ⟨gz_171, List.forall_mem_cons.mpr ⟨gz_172, List.forall_mem_cons.mpr ⟨gz_173, List.forall_mem_cons.mpr ⟨gz_174, List.forall_mem_cons.mpr ⟨gz_175, List.forall_mem_cons.mpr ⟨gz_176, List.forall_mem_cons.mpr ⟨gz_177, List.forall_mem_cons.mpr ⟨gz_178, List.forall_mem_cons.mpr ⟨gz_179, List.forall_mem_cons.mpr ⟨gz_180, fun _ h => absurd h List.not_mem_nil⟩⟩⟩⟩⟩⟩⟩⟩⟩⟩⟩⟩⟩⟩⟩⟩⟩⟩⟩⟩
theorem gL_ : ∀ z ∈ mL_, goodZ z := by
  show ∀ z ∈ mLc_0 ++ (mLc_1 ++ (mLc_2 ++ (mLc_3 ++ (mLc_4 ++ (mLc_5 ++ (mLc_6 ++ (mLc_7 ++ (mLc_8)))))))), goodZ z
  exact List.forall_mem_append.mpr ⟨gc_0, List.forall_mem_append.mpr ⟨gc_1, List.forall_mem_append.mpr ⟨gc_2, List.forall_mem_append.mpr ⟨gc_3, List.forall_mem_append.mpr ⟨gc_4, List.forall_mem_append.mpr ⟨gc_5, List.forall_mem_append.mpr ⟨gc_6, List.forall_mem_append.mpr ⟨gc_7, gc_8⟩⟩⟩⟩⟩⟩⟩⟩
theorem Pl_RJ13 : Pl_ RJ13 = P_RJ13 := by
  unfold Pl_
  rw [if_pos rfl]
theorem TH_RJ13_ : TH_ RJ13 = TH_RJ13 := by decide +kernel
theorem Pl_RX0 : Pl_ RX0 = P_RX0 := by
  unfold Pl_
  rw [if_neg (by decide +kernel), if_pos rfl]
theorem TH_RX0_ : TH_ RX0 = TH_RX0 := by decide +kernel
theorem Pl_RX1 : Pl_ RX1 = P_RX1 := by
  unfold Pl_
  rw [if_neg (by decide +kernel), if_neg (by decide +kernel), if_pos rfl]
theorem TH_RX1_ : TH_ RX1 = TH_RX1 := by decide +kernel
theorem Pl_RX2 : Pl_ RX2 = P_RX2 := by
  unfold Pl_
  rw [if_neg (by decide +kernel), if_neg (by decide +kernel), if_neg (by decide +kernel), if_pos rfl]
theorem TH_RX2_ : TH_ RX2 = TH_RX2 := by decide +kernel
theorem Pl_RX3 : Pl_ RX3 = P_RX3 := by
  unfold Pl_
  rw [if_neg (by decide +kernel), if_neg (by decide +kernel), if_neg (by decide +kernel), if_neg (by decide +kernel), if_pos rfl]
theorem TH_RX3_ : TH_ RX3 = TH_RX3 := by decide +kernel
theorem Pl_RX4 : Pl_ RX4 = P_RX4 := by
  unfold Pl_
  rw [if_neg (by decide +kernel), if_neg (by decide +kernel), if_neg (by decide +kernel), if_neg (by decide +kernel), if_neg (by decide +kernel), if_pos rfl]
theorem TH_RX4_ : TH_ RX4 = TH_RX4 := by decide +kernel
theorem Pl_RX5 : Pl_ RX5 = P_RX5 := by
  unfold Pl_
  rw [if_neg (by decide +kernel), if_neg (by decide +kernel), if_neg (by decide +kernel), if_neg (by decide +kernel), if_neg (by decide +kernel), if_neg (by decide +kernel), if_pos rfl]
theorem TH_RX5_ : TH_ RX5 = TH_RX5 := by decide +kernel
theorem Pl_RX6 : Pl_ RX6 = P_RX6 := by
  unfold Pl_
  rw [if_neg (by decide +kernel), if_neg (by decide +kernel), if_neg (by decide +kernel), if_neg (by decide +kernel), if_neg (by decide +kernel), if_neg (by decide +kernel), if_neg (by decide +kernel), if_pos rfl]
theorem TH_RX6_ : TH_ RX6 = TH_RX6 := by decide +kernel
theorem Pl_RX7 : Pl_ RX7 = P_RX7 := by
  unfold Pl_
  rw [if_neg (by decide +kernel), if_neg (by decide +kernel), if_neg (by decide +kernel), if_neg (by decide +kernel), if_neg (by decide +kernel), if_neg (by decide +kernel), if_neg (by decide +kernel), if_neg (by decide +kernel), if_pos rfl]
theorem TH_RX7_ : TH_ RX7 = TH_RX7 := by decide +kernel
theorem tz_RJ13 : ∀ z ∈ TH_RJ13, thrOK RJ13 z.1 z.2.1 z.2.2 := fun _ h => absurd h List.not_mem_nil
theorem tz_RX0 : ∀ z ∈ TH_RX0, thrOK RX0 z.1 z.2.1 z.2.2 := fun _ h => absurd h List.not_mem_nil
theorem tz_RX1 : ∀ z ∈ TH_RX1, thrOK RX1 z.1 z.2.1 z.2.2 := fun _ h => absurd h List.not_mem_nil
theorem tz_RX2 : ∀ z ∈ TH_RX2, thrOK RX2 z.1 z.2.1 z.2.2 := fun _ h => absurd h List.not_mem_nil
theorem tz_RX3 : ∀ z ∈ TH_RX3, thrOK RX3 z.1 z.2.1 z.2.2 := fun _ h => absurd h List.not_mem_nil
theorem tz_RX4 : ∀ z ∈ TH_RX4, thrOK RX4 z.1 z.2.1 z.2.2 := fun _ h => absurd h List.not_mem_nil
theorem tz_RX5 : ∀ z ∈ TH_RX5, thrOK RX5 z.1 z.2.1 z.2.2 := fun _ h => absurd h List.not_mem_nil
theorem tz_RX6 : ∀ z ∈ TH_RX6, thrOK RX6 z.1 z.2.1 z.2.2 := List.forall_mem_cons.mpr ⟨thrB_ok tk_RX6_0, List.forall_mem_cons.mpr ⟨thrB_ok tk_RX6_1, List.forall_mem_cons.mpr ⟨thrB_ok tk_RX6_2, List.forall_mem_cons.mpr ⟨thrB_ok tk_RX6_3, List.forall_mem_cons.mpr ⟨thrB_ok tk_RX6_4, List.forall_mem_cons.mpr ⟨thrB_ok tk_RX6_5, fun _ h => absurd h List.not_mem_nil⟩⟩⟩⟩⟩⟩
theorem tz_RX7 : ∀ z ∈ TH_RX7, thrOK RX7 z.1 z.2.1 z.2.2 := fun _ h => absurd h List.not_mem_nil
theorem prog_ : mProg M_ Pl_ sg_ cd_ TH_ mS_ := by
  refine ⟨fun y q h => gL_ (y, q) (lookC_mem h), fun own => ?_⟩
  by_cases h_RJ13 : own = RJ13
  · subst h_RJ13
    rw [Pl_RJ13, TH_RJ13_]
    obtain ⟨a, b, c, d⟩ := poolB_ok pk_RJ13
    exact ⟨a, b, c, d, fun ik ic x h => tz_RJ13 (ik, ic, x) h, ifB_ok if_RJ13⟩
  by_cases h_RX0 : own = RX0
  · subst h_RX0
    rw [Pl_RX0, TH_RX0_]
    obtain ⟨a, b, c, d⟩ := poolB_ok pk_RX0
    exact ⟨a, b, c, d, fun ik ic x h => tz_RX0 (ik, ic, x) h, ifB_ok if_RX0⟩
  by_cases h_RX1 : own = RX1
  · subst h_RX1
    rw [Pl_RX1, TH_RX1_]
    obtain ⟨a, b, c, d⟩ := poolB_ok pk_RX1
    exact ⟨a, b, c, d, fun ik ic x h => tz_RX1 (ik, ic, x) h, ifB_ok if_RX1⟩
  by_cases h_RX2 : own = RX2
  · subst h_RX2
    rw [Pl_RX2, TH_RX2_]
    obtain ⟨a, b, c, d⟩ := poolB_ok pk_RX2
    exact ⟨a, b, c, d, fun ik ic x h => tz_RX2 (ik, ic, x) h, ifB_ok if_RX2⟩
  by_cases h_RX3 : own = RX3
  · subst h_RX3
    rw [Pl_RX3, TH_RX3_]
    obtain ⟨a, b, c, d⟩ := poolB_ok pk_RX3
    exact ⟨a, b, c, d, fun ik ic x h => tz_RX3 (ik, ic, x) h, ifB_ok if_RX3⟩
  by_cases h_RX4 : own = RX4
  · subst h_RX4
    rw [Pl_RX4, TH_RX4_]
    obtain ⟨a, b, c, d⟩ := poolB_ok pk_RX4
    exact ⟨a, b, c, d, fun ik ic x h => tz_RX4 (ik, ic, x) h, ifB_ok if_RX4⟩
  by_cases h_RX5 : own = RX5
  · subst h_RX5
    rw [Pl_RX5, TH_RX5_]
    obtain ⟨a, b, c, d⟩ := poolB_ok pk_RX5
    exact ⟨a, b, c, d, fun ik ic x h => tz_RX5 (ik, ic, x) h, ifB_ok if_RX5⟩
  by_cases h_RX6 : own = RX6
  · subst h_RX6
    rw [Pl_RX6, TH_RX6_]
    obtain ⟨a, b, c, d⟩ := poolB_ok pk_RX6
    exact ⟨a, b, c, d, fun ik ic x h => tz_RX6 (ik, ic, x) h, ifB_ok if_RX6⟩
  by_cases h_RX7 : own = RX7
  · subst h_RX7
    rw [Pl_RX7, TH_RX7_]
    obtain ⟨a, b, c, d⟩ := poolB_ok pk_RX7
    exact ⟨a, b, c, d, fun ik ic x h => tz_RX7 (ik, ic, x) h, ifB_ok if_RX7⟩
  have e1 : Pl_ own = ([], [], [], [], [], []) := by
    unfold Pl_
    rw [if_neg h_RJ13, if_neg h_RX0, if_neg h_RX1, if_neg h_RX2, if_neg h_RX3, if_neg h_RX4, if_neg h_RX5, if_neg h_RX6, if_neg h_RX7]
  have e2 : TH_ own = [] := by
    unfold TH_
    rw [if_neg h_RJ13, if_neg h_RX0, if_neg h_RX1, if_neg h_RX2, if_neg h_RX3, if_neg h_RX4, if_neg h_RX5, if_neg h_RX6, if_neg h_RX7]
  rw [e1, e2]
  refine ⟨⟨?_, ?_, ?_, ?_⟩, ?_, ?_, ?_, ?_, fun x y h => ?_⟩
  all_goals first | (cases h; done) | (intros; simp_all [look2, look3, lookC])
