/-! THE LAW: checks of its tables, by program (wip/tools/gen94.py) -/
def hdB (own : String) : List (Nat × Nat × Nat × Nat) → mHd → List (Nat × Nat) → Bool
  | [], [], _ => true
  | a :: r, b :: t, i :: u => Nat.beq a.1 b.1 && Nat.beq a.2.1 b.2.1 && Nat.beq a.2.2.1 b.2.2.1 && !(Nat.beq a.2.2.2 0) && Nat.ble 1 b.2.2.2 && Nat.ble b.2.2.2 6 && atT i.1 (.classLink own a.2.2.2 (mEx b.2.2.2)) && decide (lw_tbl[i.2]? = some (.castable (mEx b.2.2.2) (mEx b.2.2.2))) && hdB own r t u
  | _, _, _ => false
theorem hdB_ok {own : String} : ∀ (hh : List (Nat × Nat × Nat × Nat)) (hd : mHd) (ix : List (Nat × Nat)), hdB own hh hd ix = true → hdOK own hh hd
  | [], [], _, _ => trivial
  | a :: r, b :: t, i :: u, h => by
    have h0 : (Nat.beq a.1 b.1 && Nat.beq a.2.1 b.2.1 && Nat.beq a.2.2.1 b.2.2.1 && !(Nat.beq a.2.2.2 0) && Nat.ble 1 b.2.2.2 && Nat.ble b.2.2.2 6 && atT i.1 (.classLink own a.2.2.2 (mEx b.2.2.2)) && decide (lw_tbl[i.2]? = some (.castable (mEx b.2.2.2) (mEx b.2.2.2))) && hdB own r t u) = true := h
    simp only [Bool.and_eq_true] at h0
    obtain ⟨⟨⟨⟨⟨⟨⟨⟨h1, h2⟩, h3⟩, h4⟩, h5⟩, h6⟩, h7⟩, h8⟩, h9⟩ := h0
    refine ⟨⟨beq1 h1, beq1 h2, beq1 h3, fun z => ?_, ⟨Nat.le_of_ble_eq_true h5, Nat.le_of_ble_eq_true h6⟩, atT_ok h7, List.mem_of_getElem? (of_decide_eq_true h8)⟩, hdB_ok r t u h9⟩
    rw [z] at h4
    exact absurd h4 (by decide)
  | [], _ :: _, _, h => absurd (show false = true from h) (by decide)
  | _ :: _, [], _, h => absurd (show false = true from h) (by decide)
  | _ :: _, _ :: _, [], h => absurd (show false = true from h) (by decide)
def methHB (q : mMeth) (hh : List (Nat × Nat × Nat × Nat)) (i : Nat × Nat × Nat) : Bool := atT i.1 (.codeWith (qY q) (qB q) (qL q) (qR q) hh) && atT i.2.1 (.initialized (qY q).cls) && plainName (qY q).cls && decide ((qY q).cls ≠ "java/lang/invoke/MethodHandle" ∧ (qY q).cls ≠ "java/lang/invoke/VarHandle") && Nat.ble (qL q) 21 && decide ((parseMethodDescriptor (qY q).desc).map (fun d => d.parameters.length) = some (qN q)) && atT i.2.2 (.static (qY q))
theorem methHB_ok {q : mMeth} {hh : List (Nat × Nat × Nat × Nat)} {i : Nat × Nat × Nat} (h : methHB q hh i = true) : methHOK q hh := by
  unfold methHB at h
  simp only [Bool.and_eq_true] at h
  obtain ⟨⟨⟨⟨⟨⟨h1, h2⟩, h3⟩, h4⟩, h5⟩, h6⟩, h7⟩ := h
  exact ⟨atT_ok h1, atT_ok h2, h3, of_decide_eq_true h4, Nat.le_of_ble_eq_true h5, of_decide_eq_true h6, atT_ok h7⟩
def lOK (P : mPool) (M : mTbl) (rt : Nat) (ret : Option FieldType) (nL pc n : Nat) (i : Instr) : Bool := match i with
  | .invokestatic x => Nat.beq n 3 && (match look2 P.2.1 x with | some y => (lookC wL_ y).isSome | none => false)
  | i => iOK P M rt ret nL pc n i
def lblkB (P : mPool) (M : mTbl) (cc : ByteArray) (rt : Nat) (ret : Option FieldType) (nL : Nat) : Nat → List mI → Bool
  | _, [] => true
  | pc, .inl (i, n) :: r => decB cc pc i n && lOK P M rt ret nL pc n i && lblkB P M cc rt ret nL (pc + n) r
  | _, .inr _ :: _ => false
def I_RL : mIx := ([], [], [], [], [(7, 885), (17, 943), (20, 951), (23, 959), (27, 1041), (33, 1067), (38, 1095), (42, 1102), (45, 1114), (48, 1136), (52, 1153), (55, 1166), (59, 1175), (62, 1202), (65, 1219), (68, 1268), (73, 1305), (76, 1313), (79, 1320), (82, 1328), (86, 1335), (89, 1342), (93, 1349), (96, 1356), (99, 1363), (103, 1371), (106, 1383), (109, 1390), (112, 1397), (115, 1404), (118, 1411), (121, 1433), (127, 1443), (135, 880), (140, 1559), (141, 1555), (144, 203), (147, 1621), (148, 940), (150, 1625), (151, 948), (153, 1629), (154, 956), (157, 1633), (158, 1022), (161, 1637), (162, 1063), (164, 1645), (165, 1092), (168, 1649), (169, 1099), (171, 1653), (172, 1111), (174, 1657), (175, 1133), (178, 1661), (179, 1150), (181, 1665), (182, 1163), (184, 1669), (185, 1172), (187, 1673), (188, 1199), (190, 1677), (191, 1216), (193, 1685), (194, 1264), (196, 1689), (197, 1302), (199, 1701), (200, 1310), (202, 1705), (203, 1317), (205, 1713), (206, 207), (209, 1725), (210, 1325), (212, 1745), (213, 1332), (215, 1749), (216, 1339), (218, 1753), (219, 1346), (221, 1757), (222, 1353), (224, 1761), (225, 836), (228, 1765), (229, 1360), (232, 1769), (233, 1368), (235, 1773), (236, 1380), (238, 1777), (239, 1387), (241, 1785), (242, 1394), (244, 1789), (245, 1401), (247, 1793), (248, 1408), (250, 1797), (251, 1416), (254, 1801), (255, 1440), (258, 1805), (259, 840), (263, 1809)])
set_option maxRecDepth 100000 in
theorem pk_RL : poolB RL P_RL I_RL M_ mx_ = true := by decide +kernel
theorem hcn_RL : ∀ x y, look2 P_RL.2.1 x = some y → y < 501 := fun x y h => blt1 (List.all_eq_true.mp (show P_RL.2.1.all (fun z => Nat.blt z.2 501) = true by decide +kernel) _ (look2_mem h))
set_option maxRecDepth 100000 in
theorem hk_201 : methHB q_201 hh_201 (882, 56, 881) = true := by decide +kernel
set_option maxRecDepth 100000 in
theorem hx_201 : hdB RL hh_201 hd_201 [(883, 617), (884, 894)] = true := by decide +kernel
set_option maxRecDepth 100000 in
theorem ck_201 : codB (qY q_201).cls P_RL M_ mS_ [] (qB q_201) (rtOf (qR q_201)) (qR q_201) (qL q_201) k_201 = true := by decide +kernel
set_option maxRecDepth 100000 in
theorem hk_202 : methHB q_202 hh_202 (942, 56, 941) = true := by decide +kernel
set_option maxRecDepth 100000 in
theorem hx_202 : hdB RL hh_202 hd_202 [(883, 617)] = true := by decide +kernel
set_option maxRecDepth 100000 in
theorem ck_202 : codB (qY q_202).cls P_RL M_ mS_ [] (qB q_202) (rtOf (qR q_202)) (qR q_202) (qL q_202) k_202 = true := by decide +kernel
set_option maxRecDepth 100000 in
theorem hk_203 : methHB q_203 hh_203 (950, 56, 949) = true := by decide +kernel
set_option maxRecDepth 100000 in
theorem hx_203 : hdB RL hh_203 hd_203 [(883, 617)] = true := by decide +kernel
set_option maxRecDepth 100000 in
theorem ck_203 : codB (qY q_203).cls P_RL M_ mS_ [] (qB q_203) (rtOf (qR q_203)) (qR q_203) (qL q_203) k_203 = true := by decide +kernel
set_option maxRecDepth 100000 in
theorem hk_204 : methHB q_204 hh_204 (958, 56, 957) = true := by decide +kernel
set_option maxRecDepth 100000 in
theorem hx_204 : hdB RL hh_204 hd_204 [(884, 894)] = true := by decide +kernel
set_option maxRecDepth 100000 in
theorem ck_204 : codB (qY q_204).cls P_RL M_ mS_ [] (qB q_204) (rtOf (qR q_204)) (qR q_204) (qL q_204) k_204 = true := by decide +kernel
set_option maxRecDepth 100000 in
theorem hk_205 : methHB q_205 hh_205 (1024, 56, 1023) = true := by decide +kernel
set_option maxRecDepth 100000 in
theorem hx_205 : hdB RL hh_205 hd_205 [(1025, 355), (883, 617), (884, 894)] = true := by decide +kernel
set_option maxRecDepth 100000 in
theorem ck_205 : codB (qY q_205).cls P_RL M_ mS_ [] (qB q_205) (rtOf (qR q_205)) (qR q_205) (qL q_205) k_205 = true := by decide +kernel
set_option maxRecDepth 100000 in
theorem hk_206 : methHB q_206 hh_206 (1065, 56, 1064) = true := by decide +kernel
set_option maxRecDepth 100000 in
theorem hx_206 : hdB RL hh_206 hd_206 [(1025, 355), (883, 617), (1066, 1076), (884, 894)] = true := by decide +kernel
set_option maxRecDepth 100000 in
theorem ck_206 : codB (qY q_206).cls P_RL M_ mS_ [] (qB q_206) (rtOf (qR q_206)) (qR q_206) (qL q_206) k_206 = true := by decide +kernel
set_option maxRecDepth 100000 in
theorem hk_207 : methHB q_207 hh_207 (1094, 56, 1093) = true := by decide +kernel
set_option maxRecDepth 100000 in
theorem hx_207 : hdB RL hh_207 hd_207 [(1025, 355), (883, 617), (1066, 1076)] = true := by decide +kernel
set_option maxRecDepth 100000 in
theorem ck_207 : codB (qY q_207).cls P_RL M_ mS_ [] (qB q_207) (rtOf (qR q_207)) (qR q_207) (qL q_207) k_207 = true := by decide +kernel
set_option maxRecDepth 100000 in
theorem hk_208 : methHB q_208 hh_208 (1101, 56, 1100) = true := by decide +kernel
set_option maxRecDepth 100000 in
theorem hx_208 : hdB RL hh_208 hd_208 [(1025, 355), (883, 617)] = true := by decide +kernel
set_option maxRecDepth 100000 in
theorem ck_208 : codB (qY q_208).cls P_RL M_ mS_ [] (qB q_208) (rtOf (qR q_208)) (qR q_208) (qL q_208) k_208 = true := by decide +kernel
set_option maxRecDepth 100000 in
theorem hk_209 : methHB q_209 hh_209 (1113, 56, 1112) = true := by decide +kernel
set_option maxRecDepth 100000 in
theorem hx_209 : hdB RL hh_209 hd_209 [(1025, 355), (884, 894)] = true := by decide +kernel
set_option maxRecDepth 100000 in
theorem ck_209 : codB (qY q_209).cls P_RL M_ mS_ [] (qB q_209) (rtOf (qR q_209)) (qR q_209) (qL q_209) k_209 = true := by decide +kernel
set_option maxRecDepth 100000 in
theorem hk_210 : methHB q_210 hh_210 (1135, 56, 1134) = true := by decide +kernel
set_option maxRecDepth 100000 in
theorem hx_210 : hdB RL hh_210 hd_210 [(1025, 355), (883, 617), (884, 894)] = true := by decide +kernel
set_option maxRecDepth 100000 in
theorem ck_210 : codB (qY q_210).cls P_RL M_ mS_ [] (qB q_210) (rtOf (qR q_210)) (qR q_210) (qL q_210) k_210 = true := by decide +kernel
set_option maxRecDepth 100000 in
theorem hk_211 : methHB q_211 hh_211 (1152, 56, 1151) = true := by decide +kernel
set_option maxRecDepth 100000 in
theorem hx_211 : hdB RL hh_211 hd_211 [(1025, 355), (884, 894)] = true := by decide +kernel
set_option maxRecDepth 100000 in
theorem ck_211 : codB (qY q_211).cls P_RL M_ mS_ [] (qB q_211) (rtOf (qR q_211)) (qR q_211) (qL q_211) k_211 = true := by decide +kernel
set_option maxRecDepth 100000 in
theorem hk_212 : methHB q_212 hh_212 (1165, 56, 1164) = true := by decide +kernel
set_option maxRecDepth 100000 in
theorem hx_212 : hdB RL hh_212 hd_212 [(1025, 355), (883, 617)] = true := by decide +kernel
set_option maxRecDepth 100000 in
theorem ck_212 : codB (qY q_212).cls P_RL M_ mS_ [] (qB q_212) (rtOf (qR q_212)) (qR q_212) (qL q_212) k_212 = true := by decide +kernel
set_option maxRecDepth 100000 in
theorem hk_213 : methHB q_213 hh_213 (1174, 56, 1173) = true := by decide +kernel
set_option maxRecDepth 100000 in
theorem hx_213 : hdB RL hh_213 hd_213 [(883, 617), (884, 894)] = true := by decide +kernel
set_option maxRecDepth 100000 in
theorem ck_213 : codB (qY q_213).cls P_RL M_ mS_ [] (qB q_213) (rtOf (qR q_213)) (qR q_213) (qL q_213) k_213 = true := by decide +kernel
set_option maxRecDepth 100000 in
theorem hk_214 : methHB q_214 hh_214 (1201, 56, 1200) = true := by decide +kernel
set_option maxRecDepth 100000 in
theorem hx_214 : hdB RL hh_214 hd_214 [(1025, 355), (883, 617), (884, 894)] = true := by decide +kernel
set_option maxRecDepth 100000 in
theorem ck_214 : codB (qY q_214).cls P_RL M_ mS_ [] (qB q_214) (rtOf (qR q_214)) (qR q_214) (qL q_214) k_214 = true := by decide +kernel
set_option maxRecDepth 100000 in
theorem hk_215 : methHB q_215 hh_215 (1218, 56, 1217) = true := by decide +kernel
set_option maxRecDepth 100000 in
theorem hx_215 : hdB RL hh_215 hd_215 [(1025, 355), (883, 617), (884, 894)] = true := by decide +kernel
set_option maxRecDepth 100000 in
theorem ck_215 : codB (qY q_215).cls P_RL M_ mS_ [] (qB q_215) (rtOf (qR q_215)) (qR q_215) (qL q_215) k_215 = true := by decide +kernel
set_option maxRecDepth 100000 in
theorem hk_216 : methHB q_216 hh_216 (1266, 56, 1265) = true := by decide +kernel
set_option maxRecDepth 100000 in
theorem hx_216 : hdB RL hh_216 hd_216 [(1066, 1076), (1025, 355), (884, 894), (883, 617), (1267, 1288)] = true := by decide +kernel
set_option maxRecDepth 100000 in
theorem ck_216 : codB (qY q_216).cls P_RL M_ mS_ [] (qB q_216) (rtOf (qR q_216)) (qR q_216) (qL q_216) k_216 = true := by decide +kernel
set_option maxRecDepth 100000 in
theorem hk_217 : methHB q_217 hh_217 (1304, 56, 1303) = true := by decide +kernel
set_option maxRecDepth 100000 in
theorem hx_217 : hdB RL hh_217 hd_217 [(1066, 1076), (1025, 355), (884, 894)] = true := by decide +kernel
set_option maxRecDepth 100000 in
theorem ck_217 : codB (qY q_217).cls P_RL M_ mS_ [] (qB q_217) (rtOf (qR q_217)) (qR q_217) (qL q_217) k_217 = true := by decide +kernel
set_option maxRecDepth 100000 in
theorem hk_218 : methHB q_218 hh_218 (1312, 56, 1311) = true := by decide +kernel
set_option maxRecDepth 100000 in
theorem hx_218 : hdB RL hh_218 hd_218 [(1066, 1076), (884, 894)] = true := by decide +kernel
set_option maxRecDepth 100000 in
theorem ck_218 : codB (qY q_218).cls P_RL M_ mS_ [] (qB q_218) (rtOf (qR q_218)) (qR q_218) (qL q_218) k_218 = true := by decide +kernel
set_option maxRecDepth 100000 in
theorem hk_219 : methHB q_219 hh_219 (1319, 56, 1318) = true := by decide +kernel
set_option maxRecDepth 100000 in
theorem hx_219 : hdB RL hh_219 hd_219 [(1066, 1076), (884, 894), (1267, 1288)] = true := by decide +kernel
set_option maxRecDepth 100000 in
theorem ck_219 : codB (qY q_219).cls P_RL M_ mS_ [] (qB q_219) (rtOf (qR q_219)) (qR q_219) (qL q_219) k_219 = true := by decide +kernel
set_option maxRecDepth 100000 in
theorem hk_220 : methHB q_220 hh_220 (1327, 56, 1326) = true := by decide +kernel
set_option maxRecDepth 100000 in
theorem hx_220 : hdB RL hh_220 hd_220 [(1066, 1076)] = true := by decide +kernel
set_option maxRecDepth 100000 in
theorem ck_220 : codB (qY q_220).cls P_RL M_ mS_ [] (qB q_220) (rtOf (qR q_220)) (qR q_220) (qL q_220) k_220 = true := by decide +kernel
set_option maxRecDepth 100000 in
theorem hk_221 : methHB q_221 hh_221 (1334, 56, 1333) = true := by decide +kernel
set_option maxRecDepth 100000 in
theorem hx_221 : hdB RL hh_221 hd_221 [(1066, 1076), (1025, 355)] = true := by decide +kernel
set_option maxRecDepth 100000 in
theorem ck_221 : codB (qY q_221).cls P_RL M_ mS_ [] (qB q_221) (rtOf (qR q_221)) (qR q_221) (qL q_221) k_221 = true := by decide +kernel
set_option maxRecDepth 100000 in
theorem hk_222 : methHB q_222 hh_222 (1341, 56, 1340) = true := by decide +kernel
set_option maxRecDepth 100000 in
theorem hx_222 : hdB RL hh_222 hd_222 [(1066, 1076), (884, 894)] = true := by decide +kernel
set_option maxRecDepth 100000 in
theorem ck_222 : codB (qY q_222).cls P_RL M_ mS_ [] (qB q_222) (rtOf (qR q_222)) (qR q_222) (qL q_222) k_222 = true := by decide +kernel
set_option maxRecDepth 100000 in
theorem hk_223 : methHB q_223 hh_223 (1348, 56, 1347) = true := by decide +kernel
set_option maxRecDepth 100000 in
theorem hx_223 : hdB RL hh_223 hd_223 [(1066, 1076), (1025, 355), (884, 894)] = true := by decide +kernel
set_option maxRecDepth 100000 in
theorem ck_223 : codB (qY q_223).cls P_RL M_ mS_ [] (qB q_223) (rtOf (qR q_223)) (qR q_223) (qL q_223) k_223 = true := by decide +kernel
set_option maxRecDepth 100000 in
theorem hk_224 : methHB q_224 hh_224 (1355, 56, 1354) = true := by decide +kernel
set_option maxRecDepth 100000 in
theorem hx_224 : hdB RL hh_224 hd_224 [(1066, 1076), (1025, 355), (884, 894)] = true := by decide +kernel
set_option maxRecDepth 100000 in
theorem ck_224 : codB (qY q_224).cls P_RL M_ mS_ [] (qB q_224) (rtOf (qR q_224)) (qR q_224) (qL q_224) k_224 = true := by decide +kernel
set_option maxRecDepth 100000 in
theorem hk_225 : methHB q_225 hh_225 (1362, 56, 1361) = true := by decide +kernel
set_option maxRecDepth 100000 in
theorem hx_225 : hdB RL hh_225 hd_225 [(883, 617)] = true := by decide +kernel
set_option maxRecDepth 100000 in
theorem ck_225 : codB (qY q_225).cls P_RL M_ mS_ [] (qB q_225) (rtOf (qR q_225)) (qR q_225) (qL q_225) k_225 = true := by decide +kernel
set_option maxRecDepth 100000 in
theorem hk_226 : methHB q_226 hh_226 (1370, 56, 1369) = true := by decide +kernel
set_option maxRecDepth 100000 in
theorem hx_226 : hdB RL hh_226 hd_226 [(1025, 355), (883, 617)] = true := by decide +kernel
set_option maxRecDepth 100000 in
theorem ck_226 : codB (qY q_226).cls P_RL M_ mS_ [] (qB q_226) (rtOf (qR q_226)) (qR q_226) (qL q_226) k_226 = true := by decide +kernel
set_option maxRecDepth 100000 in
theorem hk_227 : methHB q_227 hh_227 (1382, 56, 1381) = true := by decide +kernel
set_option maxRecDepth 100000 in
theorem hx_227 : hdB RL hh_227 hd_227 [(1025, 355)] = true := by decide +kernel
set_option maxRecDepth 100000 in
theorem ck_227 : codB (qY q_227).cls P_RL M_ mS_ [] (qB q_227) (rtOf (qR q_227)) (qR q_227) (qL q_227) k_227 = true := by decide +kernel
set_option maxRecDepth 100000 in
theorem hk_228 : methHB q_228 hh_228 (1389, 56, 1388) = true := by decide +kernel
set_option maxRecDepth 100000 in
theorem hx_228 : hdB RL hh_228 hd_228 [(1025, 355)] = true := by decide +kernel
set_option maxRecDepth 100000 in
theorem ck_228 : codB (qY q_228).cls P_RL M_ mS_ [] (qB q_228) (rtOf (qR q_228)) (qR q_228) (qL q_228) k_228 = true := by decide +kernel
set_option maxRecDepth 100000 in
theorem hk_229 : methHB q_229 hh_229 (1396, 56, 1395) = true := by decide +kernel
set_option maxRecDepth 100000 in
theorem hx_229 : hdB RL hh_229 hd_229 [(1025, 355)] = true := by decide +kernel
set_option maxRecDepth 100000 in
theorem ck_229 : codB (qY q_229).cls P_RL M_ mS_ [] (qB q_229) (rtOf (qR q_229)) (qR q_229) (qL q_229) k_229 = true := by decide +kernel
set_option maxRecDepth 100000 in
theorem hk_230 : methHB q_230 hh_230 (1403, 56, 1402) = true := by decide +kernel
set_option maxRecDepth 100000 in
theorem hx_230 : hdB RL hh_230 hd_230 [(1025, 355)] = true := by decide +kernel
set_option maxRecDepth 100000 in
theorem ck_230 : codB (qY q_230).cls P_RL M_ mS_ [] (qB q_230) (rtOf (qR q_230)) (qR q_230) (qL q_230) k_230 = true := by decide +kernel
set_option maxRecDepth 100000 in
theorem hk_231 : methHB q_231 hh_231 (1410, 56, 1409) = true := by decide +kernel
set_option maxRecDepth 100000 in
theorem hx_231 : hdB RL hh_231 hd_231 [(1025, 355), (883, 617), (1066, 1076)] = true := by decide +kernel
set_option maxRecDepth 100000 in
theorem ck_231 : codB (qY q_231).cls P_RL M_ mS_ [] (qB q_231) (rtOf (qR q_231)) (qR q_231) (qL q_231) k_231 = true := by decide +kernel
set_option maxRecDepth 100000 in
theorem hk_232 : methHB q_232 hh_232 (1418, 56, 1417) = true := by decide +kernel
set_option maxRecDepth 100000 in
theorem hx_232 : hdB RL hh_232 hd_232 [(1025, 355), (1419, 1431)] = true := by decide +kernel
set_option maxRecDepth 100000 in
theorem ck_232 : codB (qY q_232).cls P_RL M_ mS_ [] (qB q_232) (rtOf (qR q_232)) (qR q_232) (qL q_232) k_232 = true := by decide +kernel
set_option maxRecDepth 100000 in
theorem hk_233 : methHB q_233 hh_233 (1442, 56, 1441) = true := by decide +kernel
set_option maxRecDepth 100000 in
theorem hx_233 : hdB RL hh_233 hd_233 [(1419, 1431)] = true := by decide +kernel
set_option maxRecDepth 100000 in
theorem ck_233 : codB (qY q_233).cls P_RL M_ mS_ [] (qB q_233) (rtOf (qR q_233)) (qR q_233) (qL q_233) k_233 = true := by decide +kernel
def wI_ : List (Nat × Nat) := [(135, 880), (148, 940), (151, 948), (154, 956), (158, 1022), (162, 1063), (165, 1092), (169, 1099), (172, 1111), (175, 1133), (179, 1150), (182, 1163), (185, 1172), (188, 1199), (191, 1216), (194, 1264), (197, 1302), (200, 1310), (203, 1317), (210, 1325), (213, 1332), (216, 1339), (219, 1346), (222, 1353), (229, 1360), (233, 1368), (236, 1380), (239, 1387), (242, 1394), (245, 1401), (248, 1408), (251, 1416), (255, 1440)]
set_option maxRecDepth 100000 in
theorem wk_RL : P_RL.2.1.all (fun z => match lookC wL_ z.2 with | some q => atT (ixOf wI_ z.1) (.methodLink RL z.1 (qY q.1)) | none => true) = true := by decide +kernel
theorem ws_RL : wL_.all (fun z => Nat.ble 201 z.1 && Nat.blt z.1 400 && decide (sgL_ z.1 = (qN z.2.1, qC z.2.1, qT z.2.1, qI z.2.1))) = true := by decide +kernel
theorem mz_RL : mL_.all (fun z => Nat.blt z.1 201) = true := by decide +kernel
theorem sz_RL : sLL_.all (fun z => Nat.ble 201 z.1) = true := by decide +kernel
