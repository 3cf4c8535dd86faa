/-! THE LAW AS TABLES: by program out of the printed names (wip/tools/ltab.py) -/
def mexcH (hd : mHd) (K : mK) (post : mO → mS → Prop) (cd : mCode) : Nat → Nat → mLs → Nat × Nat → mS → Prop := fun x pc ls rem st => (1 ≤ x ∧ x ≤ 6) ∧ match mhand hd pc x with
  | some h => ∀ q : Nat, mjmp cd K h ls [mr 99 q] rem st
  | none => post (.inr x) st
def matH (P : mPool) (rt : Nat) (sg : mSig) (cd : mCode) (hd : mHd) (C : mCall) (K : mK) (post : mO → mS → Prop) (t : Nat) (ls : mLs) (stk : List mV) (rem : Nat × Nat) (st : mS) : Prop :=
  match mfind cd t with
  | some (_, l) => mblk P rt sg C (mjmp cd K) (mexcH hd K post cd) post l t ls stk rem st
  | none => False
def mBodyH (P : mPool) (sg : mSig) (cd : mCode) (hd : mHd) (C : mCall) (q : mMeth) (vs : List mV) (st : mS) (post : mO → mS → Prop) : Prop :=
  ∀ WW : mK, (∀ t ls stk rem st, matH P (rtOf (qR q)) sg cd hd C WW post t ls stk rem st → WW t ls stk rem st) → WW 0 (margs 0 vs) [] (qC q, qT q) st
def P_RL : mPool := ([], [(7, 113), (17, 115), (20, 116), (23, 120), (27, 121), (33, 122), (38, 123), (42, 124), (45, 125), (48, 126), (52, 127), (55, 128), (59, 134), (62, 135), (65, 136), (68, 137), (73, 138), (76, 139), (79, 140), (82, 142), (86, 143), (89, 144), (93, 145), (96, 146), (99, 148), (103, 167), (106, 168), (109, 169), (112, 170), (115, 171), (118, 172), (121, 173), (127, 174), (135, 201), (140, 8), (141, 1), (144, 114), (147, 9), (148, 202), (150, 10), (151, 203), (153, 11), (154, 204), (157, 12), (158, 205), (161, 13), (162, 206), (164, 14), (165, 207), (168, 15), (169, 208), (171, 19), (172, 209), (174, 20), (175, 210), (178, 21), (179, 211), (181, 22), (182, 212), (184, 23), (185, 213), (187, 24), (188, 214), (190, 26), (191, 215), (193, 27), (194, 216), (196, 37), (197, 217), (199, 38), (200, 218), (202, 40), (203, 219), (205, 43), (206, 141), (209, 48), (210, 220), (212, 49), (213, 221), (215, 50), (216, 222), (218, 51), (219, 223), (221, 52), (222, 224), (224, 53), (225, 147), (228, 54), (229, 225), (232, 55), (233, 226), (235, 56), (236, 227), (238, 58), (239, 228), (241, 59), (242, 229), (244, 60), (245, 230), (247, 61), (248, 231), (250, 62), (251, 232), (254, 63), (255, 233), (258, 64), (259, 175), (263, 65)], [], [], [], [])
def k_201 : mCode := [(0, [0, 1, 2], [.inl (.aload_n 2, 1), .inl (.iconst 0, 1), .inl (.aload_n 0, 1), .inl (.iload_n 1, 1), .inl (.invokevirtual 7, 3), .inl (.i2l, 1), .inl (.lastore, 1), .inl (.goto 9, 3)]),
  (12, [], [.inl (.astore_n 3, 1), .inl (.iconst 1, 1), .inl (.ireturn, 1)]),
  (15, [], [.inl (.astore_n 3, 1), .inl (.iconst 2, 1), .inl (.ireturn, 1)]),
  (18, [], [.inl (.iconst 0, 1), .inl (.ireturn, 1)])]
def hd_201 : mHd := [(0, 9, 12, 1), (0, 9, 15, 2)]
def hh_201 : List (Nat × Nat × Nat × Nat) := [(0, 9, 12, 13), (0, 9, 15, 15)]
/-- FerryrosterLaw.pass(LFerryroster;I[J)I -/
def q_201 : mMeth := (yL_pass, cL_pass, 4, (some .int), 3, true, 1, 6, 99)
def k_202 : mCode := [(0, [0, 1, 2], [.inl (.aload_n 2, 1), .inl (.iconst 0, 1), .inl (.aload_n 0, 1), .inl (.iload_n 1, 1), .inl (.invokevirtual 17, 3), .inl (.i2l, 1), .inl (.lastore, 1), .inl (.goto 6, 3)]),
  (12, [], [.inl (.astore_n 3, 1), .inl (.iconst 1, 1), .inl (.ireturn, 1)]),
  (15, [], [.inl (.iconst 0, 1), .inl (.ireturn, 1)])]
def hd_202 : mHd := [(0, 9, 12, 1)]
def hh_202 : List (Nat × Nat × Nat × Nat) := [(0, 9, 12, 13)]
/-- FerryrosterLaw.setDayRule(LFerryroster;I[J)I -/
def q_202 : mMeth := (yL_setDayRule, cL_setDayRule, 4, (some .int), 3, true, 1, 6, 99)
def k_203 : mCode := [(0, [0, 1, 2], [.inl (.aload_n 2, 1), .inl (.iconst 0, 1), .inl (.aload_n 0, 1), .inl (.iload_n 1, 1), .inl (.invokevirtual 20, 3), .inl (.i2l, 1), .inl (.lastore, 1), .inl (.goto 6, 3)]),
  (12, [], [.inl (.astore_n 3, 1), .inl (.iconst 1, 1), .inl (.ireturn, 1)]),
  (15, [], [.inl (.iconst 0, 1), .inl (.ireturn, 1)])]
def hd_203 : mHd := [(0, 9, 12, 1)]
def hh_203 : List (Nat × Nat × Nat × Nat) := [(0, 9, 12, 13)]
/-- FerryrosterLaw.setWeekRule(LFerryroster;I[J)I -/
def q_203 : mMeth := (yL_setWeekRule, cL_setWeekRule, 4, (some .int), 3, true, 1, 6, 99)
def k_204 : mCode := [(0, [0, 1], [.inl (.aload_n 1, 1), .inl (.iconst 0, 1), .inl (.aload_n 0, 1), .inl (.invokevirtual 23, 3), .inl (.i2l, 1), .inl (.lastore, 1), .inl (.goto 6, 3)]),
  (11, [], [.inl (.astore_n 2, 1), .inl (.iconst 1, 1), .inl (.ireturn, 1)]),
  (14, [], [.inl (.iconst 0, 1), .inl (.ireturn, 1)])]
def hd_204 : mHd := [(0, 8, 11, 2)]
def hh_204 : List (Nat × Nat × Nat × Nat) := [(0, 8, 11, 15)]
/-- FerryrosterLaw.addPerson(LFerryroster;[J)I -/
def q_204 : mMeth := (yL_addPerson, cL_addPerson, 3, (some .int), 2, true, 8, 1094, 99)
def k_205 : mCode := [(0, [0, 1, 2, 3, 4], [.inl (.aload 4, 2), .inl (.iconst 0, 1), .inl (.aload_n 0, 1), .inl (.iload_n 1, 1), .inl (.iload_n 2, 1), .inl (.iload_n 3, 1), .inl (.invokevirtual 27, 3), .inl (.i2l, 1), .inl (.lastore, 1), .inl (.goto 15, 3)]),
  (15, [], [.inl (.astore 5, 2), .inl (.iconst 1, 1), .inl (.ireturn, 1)]),
  (19, [], [.inl (.astore 5, 2), .inl (.iconst 2, 1), .inl (.ireturn, 1)]),
  (23, [], [.inl (.astore 5, 2), .inl (.iconst 3, 1), .inl (.ireturn, 1)]),
  (27, [], [.inl (.iconst 0, 1), .inl (.ireturn, 1)])]
def hd_205 : mHd := [(0, 12, 15, 3), (0, 12, 19, 1), (0, 12, 23, 2)]
def hh_205 : List (Nat × Nat × Nat × Nat) := [(0, 12, 15, 31), (0, 12, 19, 13), (0, 12, 23, 15)]
/-- FerryrosterLaw.grant(LFerryroster;III[J)I -/
def q_205 : mMeth := (yL_grant, cL_grant, 6, (some .int), 5, true, 4, 24, 99)
def k_206 : mCode := [(0, [0, 1, 2, 3, 4], [.inl (.aload 4, 2), .inl (.iconst 0, 1), .inl (.aload_n 0, 1), .inl (.iload_n 1, 1), .inl (.iload_n 2, 1), .inl (.iload_n 3, 1), .inl (.invokevirtual 33, 3), .inl (.i2l, 1), .inl (.lastore, 1), .inl (.goto 19, 3)]),
  (15, [], [.inl (.astore 5, 2), .inl (.iconst 1, 1), .inl (.ireturn, 1)]),
  (19, [], [.inl (.astore 5, 2), .inl (.iconst 2, 1), .inl (.ireturn, 1)]),
  (23, [], [.inl (.astore 5, 2), .inl (.iconst 3, 1), .inl (.ireturn, 1)]),
  (27, [], [.inl (.astore 5, 2), .inl (.iconst 4, 1), .inl (.ireturn, 1)]),
  (31, [], [.inl (.iconst 0, 1), .inl (.ireturn, 1)])]
def hd_206 : mHd := [(0, 12, 15, 3), (0, 12, 19, 1), (0, 12, 23, 4), (0, 12, 27, 2)]
def hh_206 : List (Nat × Nat × Nat × Nat) := [(0, 12, 15, 31), (0, 12, 19, 13), (0, 12, 23, 36), (0, 12, 27, 15)]
/-- FerryrosterLaw.renew(LFerryroster;III[J)I -/
def q_206 : mMeth := (yL_renew, cL_renew, 6, (some .int), 5, true, 5, 30, 99)
def k_207 : mCode := [(0, [0, 1, 2, 3], [.inl (.aload_n 3, 1), .inl (.iconst 0, 1), .inl (.aload_n 0, 1), .inl (.iload_n 1, 1), .inl (.iload_n 2, 1), .inl (.invokevirtual 38, 3), .inl (.i2l, 1), .inl (.lastore, 1), .inl (.goto 15, 3)]),
  (13, [], [.inl (.astore 4, 2), .inl (.iconst 1, 1), .inl (.ireturn, 1)]),
  (17, [], [.inl (.astore 4, 2), .inl (.iconst 2, 1), .inl (.ireturn, 1)]),
  (21, [], [.inl (.astore 4, 2), .inl (.iconst 3, 1), .inl (.ireturn, 1)]),
  (25, [], [.inl (.iconst 0, 1), .inl (.ireturn, 1)])]
def hd_207 : mHd := [(0, 10, 13, 3), (0, 10, 17, 1), (0, 10, 21, 4)]
def hh_207 : List (Nat × Nat × Nat × Nat) := [(0, 10, 13, 31), (0, 10, 17, 13), (0, 10, 21, 36)]
/-- FerryrosterLaw.lastDay(LFerryroster;II[J)I -/
def q_207 : mMeth := (yL_lastDay, cL_lastDay, 5, (some .int), 4, true, 3, 18, 99)
def k_208 : mCode := [(0, [0, 1, 2, 3], [.inl (.aload_n 3, 1), .inl (.iconst 0, 1), .inl (.aload_n 0, 1), .inl (.iload_n 1, 1), .inl (.iload_n 2, 1), .inl (.invokevirtual 42, 3), .inl (.i2l, 1), .inl (.lastore, 1), .inl (.goto 11, 3)]),
  (13, [], [.inl (.astore 4, 2), .inl (.iconst 1, 1), .inl (.ireturn, 1)]),
  (17, [], [.inl (.astore 4, 2), .inl (.iconst 2, 1), .inl (.ireturn, 1)]),
  (21, [], [.inl (.iconst 0, 1), .inl (.ireturn, 1)])]
def hd_208 : mHd := [(0, 10, 13, 3), (0, 10, 17, 1)]
def hh_208 : List (Nat × Nat × Nat × Nat) := [(0, 10, 13, 31), (0, 10, 17, 13)]
/-- FerryrosterLaw.callSick(LFerryroster;II[J)I -/
def q_208 : mMeth := (yL_callSick, cL_callSick, 5, (some .int), 4, true, 2, 12, 99)
def k_209 : mCode := [(0, [0, 1, 2], [.inl (.aload_n 2, 1), .inl (.iconst 0, 1), .inl (.aload_n 0, 1), .inl (.iload_n 1, 1), .inl (.invokevirtual 45, 3), .inl (.i2l, 1), .inl (.lastore, 1), .inl (.goto 9, 3)]),
  (12, [], [.inl (.astore_n 3, 1), .inl (.iconst 1, 1), .inl (.ireturn, 1)]),
  (15, [], [.inl (.astore_n 3, 1), .inl (.iconst 2, 1), .inl (.ireturn, 1)]),
  (18, [], [.inl (.iconst 0, 1), .inl (.ireturn, 1)])]
def hd_209 : mHd := [(0, 9, 12, 3), (0, 9, 15, 2)]
def hh_209 : List (Nat × Nat × Nat × Nat) := [(0, 9, 12, 31), (0, 9, 15, 15)]
/-- FerryrosterLaw.recover(LFerryroster;I[J)I -/
def q_209 : mMeth := (yL_recover, cL_recover, 4, (some .int), 3, true, 2, 12, 99)
def k_210 : mCode := [(0, [0, 1, 2, 3, 4, 5], [.inl (.aload 5, 2), .inl (.iconst 0, 1), .inl (.aload_n 0, 1), .inl (.iload_n 1, 1), .inl (.iload_n 2, 1), .inl (.iload_n 3, 1), .inl (.iload 4, 2), .inl (.invokevirtual 48, 3), .inl (.i2l, 1), .inl (.lastore, 1), .inl (.goto 15, 3)]),
  (17, [], [.inl (.astore 6, 2), .inl (.iconst 1, 1), .inl (.ireturn, 1)]),
  (21, [], [.inl (.astore 6, 2), .inl (.iconst 2, 1), .inl (.ireturn, 1)]),
  (25, [], [.inl (.astore 6, 2), .inl (.iconst 3, 1), .inl (.ireturn, 1)]),
  (29, [], [.inl (.iconst 0, 1), .inl (.ireturn, 1)])]
def hd_210 : mHd := [(0, 14, 17, 3), (0, 14, 21, 1), (0, 14, 25, 2)]
def hh_210 : List (Nat × Nat × Nat × Nat) := [(0, 14, 17, 31), (0, 14, 21, 13), (0, 14, 25, 15)]
/-- FerryrosterLaw.enroll(LFerryroster;IIII[J)I -/
def q_210 : mMeth := (yL_enroll, cL_enroll, 7, (some .int), 6, true, 3, 18, 99)
def k_211 : mCode := [(0, [0, 1, 2], [.inl (.aload_n 2, 1), .inl (.iconst 0, 1), .inl (.aload_n 0, 1), .inl (.iload_n 1, 1), .inl (.invokevirtual 52, 3), .inl (.i2l, 1), .inl (.lastore, 1), .inl (.goto 9, 3)]),
  (12, [], [.inl (.astore_n 3, 1), .inl (.iconst 1, 1), .inl (.ireturn, 1)]),
  (15, [], [.inl (.astore_n 3, 1), .inl (.iconst 2, 1), .inl (.ireturn, 1)]),
  (18, [], [.inl (.iconst 0, 1), .inl (.ireturn, 1)])]
def hd_211 : mHd := [(0, 9, 12, 3), (0, 9, 15, 2)]
def hh_211 : List (Nat × Nat × Nat × Nat) := [(0, 9, 12, 31), (0, 9, 15, 15)]
/-- FerryrosterLaw.leaveCourse(LFerryroster;I[J)I -/
def q_211 : mMeth := (yL_leaveCourse, cL_leaveCourse, 4, (some .int), 3, true, 2, 12, 99)
def k_212 : mCode := [(0, [0, 1, 2, 3], [.inl (.aload_n 3, 1), .inl (.iconst 0, 1), .inl (.aload_n 0, 1), .inl (.iload_n 1, 1), .inl (.iload_n 2, 1), .inl (.invokevirtual 55, 3), .inl (.ifCond .eq 7, 3), .inl (.lconst 1, 1), .inl (.goto 4, 3)]),
  (15, [], [.inl (.lconst 0, 1)]),
  (16, [], [.inl (.lastore, 1), .inl (.goto 11, 3)]),
  (20, [], [.inl (.astore 4, 2), .inl (.iconst 1, 1), .inl (.ireturn, 1)]),
  (24, [], [.inl (.astore 4, 2), .inl (.iconst 2, 1), .inl (.ireturn, 1)]),
  (28, [], [.inl (.iconst 0, 1), .inl (.ireturn, 1)])]
def hd_212 : mHd := [(0, 17, 20, 3), (0, 17, 24, 1)]
def hh_212 : List (Nat × Nat × Nat × Nat) := [(0, 17, 20, 31), (0, 17, 24, 13)]
/-- FerryrosterLaw.isAway(LFerryroster;II[J)I -/
def q_212 : mMeth := (yL_isAway, cL_isAway, 5, (some .int), 4, true, 2, 12, 99)
def k_213 : mCode := [(0, [0, 1, 2], [.inl (.aload_n 2, 1), .inl (.iconst 0, 1), .inl (.aload_n 0, 1), .inl (.iload_n 1, 1), .inl (.invokevirtual 59, 3), .inl (.i2l, 1), .inl (.lastore, 1), .inl (.goto 9, 3)]),
  (12, [], [.inl (.astore_n 3, 1), .inl (.iconst 1, 1), .inl (.ireturn, 1)]),
  (15, [], [.inl (.astore_n 3, 1), .inl (.iconst 2, 1), .inl (.ireturn, 1)]),
  (18, [], [.inl (.iconst 0, 1), .inl (.ireturn, 1)])]
def hd_213 : mHd := [(0, 9, 12, 1), (0, 9, 15, 2)]
def hh_213 : List (Nat × Nat × Nat × Nat) := [(0, 9, 12, 13), (0, 9, 15, 15)]
/-- FerryrosterLaw.addShip(LFerryroster;I[J)I -/
def q_213 : mMeth := (yL_addShip, cL_addShip, 4, (some .int), 3, true, 5, 84, 99)
def k_214 : mCode := [(0, [0, 1, 2, 3], [.inl (.aload_n 3, 1), .inl (.iconst 0, 1), .inl (.aload_n 0, 1), .inl (.iload_n 1, 1), .inl (.iload_n 2, 1), .inl (.invokevirtual 62, 3), .inl (.i2l, 1), .inl (.lastore, 1), .inl (.goto 15, 3)]),
  (13, [], [.inl (.astore 4, 2), .inl (.iconst 1, 1), .inl (.ireturn, 1)]),
  (17, [], [.inl (.astore 4, 2), .inl (.iconst 2, 1), .inl (.ireturn, 1)]),
  (21, [], [.inl (.astore 4, 2), .inl (.iconst 3, 1), .inl (.ireturn, 1)]),
  (25, [], [.inl (.iconst 0, 1), .inl (.ireturn, 1)])]
def hd_214 : mHd := [(0, 10, 13, 3), (0, 10, 17, 1), (0, 10, 21, 2)]
def hh_214 : List (Nat × Nat × Nat × Nat) := [(0, 10, 13, 31), (0, 10, 17, 13), (0, 10, 21, 15)]
/-- FerryrosterLaw.addPost(LFerryroster;II[J)I -/
def q_214 : mMeth := (yL_addPost, cL_addPost, 5, (some .int), 4, true, 3, 18, 99)
def k_215 : mCode := [(0, [0, 1, 2, 3, 4], [.inl (.aload 4, 2), .inl (.iconst 0, 1), .inl (.aload_n 0, 1), .inl (.iload_n 1, 1), .inl (.iload_n 2, 1), .inl (.iload_n 3, 1), .inl (.invokevirtual 65, 3), .inl (.i2l, 1), .inl (.lastore, 1), .inl (.goto 15, 3)]),
  (15, [], [.inl (.astore 5, 2), .inl (.iconst 1, 1), .inl (.ireturn, 1)]),
  (19, [], [.inl (.astore 5, 2), .inl (.iconst 2, 1), .inl (.ireturn, 1)]),
  (23, [], [.inl (.astore 5, 2), .inl (.iconst 3, 1), .inl (.ireturn, 1)]),
  (27, [], [.inl (.iconst 0, 1), .inl (.ireturn, 1)])]
def hd_215 : mHd := [(0, 12, 15, 3), (0, 12, 19, 1), (0, 12, 23, 2)]
def hh_215 : List (Nat × Nat × Nat × Nat) := [(0, 12, 15, 31), (0, 12, 19, 13), (0, 12, 23, 15)]
/-- FerryrosterLaw.plan(LFerryroster;III[J)I -/
def q_215 : mMeth := (yL_plan, cL_plan, 6, (some .int), 5, true, 7, 98, 99)
def k_216 : mCode := [(0, [0, 1, 2, 3, 4], [.inl (.aload 4, 2), .inl (.iconst 0, 1), .inl (.aload_n 0, 1), .inl (.iload_n 1, 1), .inl (.iload_n 2, 1), .inl (.iload_n 3, 1), .inl (.invokevirtual 68, 3), .inl (.i2l, 1), .inl (.lastore, 1), .inl (.goto 23, 3)]),
  (15, [], [.inl (.astore 5, 2), .inl (.iconst 1, 1), .inl (.ireturn, 1)]),
  (19, [], [.inl (.astore 5, 2), .inl (.iconst 2, 1), .inl (.ireturn, 1)]),
  (23, [], [.inl (.astore 5, 2), .inl (.iconst 3, 1), .inl (.ireturn, 1)]),
  (27, [], [.inl (.astore 5, 2), .inl (.iconst 4, 1), .inl (.ireturn, 1)]),
  (31, [], [.inl (.astore 5, 2), .inl (.iconst 5, 1), .inl (.ireturn, 1)]),
  (35, [], [.inl (.iconst 0, 1), .inl (.ireturn, 1)])]
def hd_216 : mHd := [(0, 12, 15, 4), (0, 12, 19, 3), (0, 12, 23, 2), (0, 12, 27, 1), (0, 12, 31, 5)]
def hh_216 : List (Nat × Nat × Nat × Nat) := [(0, 12, 15, 36), (0, 12, 19, 31), (0, 12, 23, 15), (0, 12, 27, 13), (0, 12, 31, 71)]
/-- FerryrosterLaw.assign(LFerryroster;III[J)I -/
def q_216 : mMeth := (yL_assign, cL_assign, 6, (some .int), 5, true, 5, 30, 99)
def k_217 : mCode := [(0, [0, 1, 2, 3], [.inl (.aload_n 3, 1), .inl (.iconst 0, 1), .inl (.aload_n 0, 1), .inl (.iload_n 1, 1), .inl (.iload_n 2, 1), .inl (.invokevirtual 73, 3), .inl (.i2l, 1), .inl (.lastore, 1), .inl (.goto 15, 3)]),
  (13, [], [.inl (.astore 4, 2), .inl (.iconst 1, 1), .inl (.ireturn, 1)]),
  (17, [], [.inl (.astore 4, 2), .inl (.iconst 2, 1), .inl (.ireturn, 1)]),
  (21, [], [.inl (.astore 4, 2), .inl (.iconst 3, 1), .inl (.ireturn, 1)]),
  (25, [], [.inl (.iconst 0, 1), .inl (.ireturn, 1)])]
def hd_217 : mHd := [(0, 10, 13, 4), (0, 10, 17, 3), (0, 10, 21, 2)]
def hh_217 : List (Nat × Nat × Nat × Nat) := [(0, 10, 13, 36), (0, 10, 17, 31), (0, 10, 21, 15)]
/-- FerryrosterLaw.release(LFerryroster;II[J)I -/
def q_217 : mMeth := (yL_release, cL_release, 5, (some .int), 4, true, 4, 24, 99)
def k_218 : mCode := [(0, [0, 1, 2], [.inl (.aload_n 2, 1), .inl (.iconst 0, 1), .inl (.aload_n 0, 1), .inl (.iload_n 1, 1), .inl (.invokevirtual 76, 3), .inl (.i2l, 1), .inl (.lastore, 1), .inl (.goto 9, 3)]),
  (12, [], [.inl (.astore_n 3, 1), .inl (.iconst 1, 1), .inl (.ireturn, 1)]),
  (15, [], [.inl (.astore_n 3, 1), .inl (.iconst 2, 1), .inl (.ireturn, 1)]),
  (18, [], [.inl (.iconst 0, 1), .inl (.ireturn, 1)])]
def hd_218 : mHd := [(0, 9, 12, 4), (0, 9, 15, 2)]
def hh_218 : List (Nat × Nat × Nat × Nat) := [(0, 9, 12, 36), (0, 9, 15, 15)]
/-- FerryrosterLaw.cancel(LFerryroster;I[J)I -/
def q_218 : mMeth := (yL_cancel, cL_cancel, 4, (some .int), 3, true, 2, 12, 99)
def k_219 : mCode := [(0, [0, 1, 2], [.inl (.aload_n 2, 1), .inl (.iconst 0, 1), .inl (.aload_n 0, 1), .inl (.iload_n 1, 1), .inl (.invokevirtual 79, 3), .inl (.i2l, 1), .inl (.lastore, 1), .inl (.goto 12, 3)]),
  (12, [], [.inl (.astore_n 3, 1), .inl (.iconst 1, 1), .inl (.ireturn, 1)]),
  (15, [], [.inl (.astore_n 3, 1), .inl (.iconst 2, 1), .inl (.ireturn, 1)]),
  (18, [], [.inl (.astore_n 3, 1), .inl (.iconst 3, 1), .inl (.ireturn, 1)]),
  (21, [], [.inl (.iconst 0, 1), .inl (.ireturn, 1)])]
def hd_219 : mHd := [(0, 9, 12, 4), (0, 9, 15, 2), (0, 9, 18, 5)]
def hh_219 : List (Nat × Nat × Nat × Nat) := [(0, 9, 12, 36), (0, 9, 15, 15), (0, 9, 18, 71)]
/-- FerryrosterLaw.relieve(LFerryroster;I[J)I -/
def q_219 : mMeth := (yL_relieve, cL_relieve, 4, (some .int), 3, true, 3, 18, 99)
def k_220 : mCode := [(0, [0, 1, 2], [.inl (.aload_n 2, 1), .inl (.iconst 0, 1), .inl (.aload_n 0, 1), .inl (.iload_n 1, 1), .inl (.invokevirtual 82, 3), .inl (.i2l, 1), .inl (.lastore, 1), .inl (.goto 6, 3)]),
  (12, [], [.inl (.astore_n 3, 1), .inl (.iconst 1, 1), .inl (.ireturn, 1)]),
  (15, [], [.inl (.iconst 0, 1), .inl (.ireturn, 1)])]
def hd_220 : mHd := [(0, 9, 12, 4)]
def hh_220 : List (Nat × Nat × Nat × Nat) := [(0, 9, 12, 36)]
/-- FerryrosterLaw.stateOf(LFerryroster;I[J)I -/
def q_220 : mMeth := (yL_stateOf, cL_stateOf, 4, (some .int), 3, true, 1, 6, 99)
def k_221 : mCode := [(0, [0, 1, 2, 3], [.inl (.aload_n 3, 1), .inl (.iconst 0, 1), .inl (.aload_n 0, 1), .inl (.iload_n 1, 1), .inl (.iload_n 2, 1), .inl (.invokevirtual 86, 3), .inl (.i2l, 1), .inl (.lastore, 1), .inl (.goto 11, 3)]),
  (13, [], [.inl (.astore 4, 2), .inl (.iconst 1, 1), .inl (.ireturn, 1)]),
  (17, [], [.inl (.astore 4, 2), .inl (.iconst 2, 1), .inl (.ireturn, 1)]),
  (21, [], [.inl (.iconst 0, 1), .inl (.ireturn, 1)])]
def hd_221 : mHd := [(0, 10, 13, 4), (0, 10, 17, 3)]
def hh_221 : List (Nat × Nat × Nat × Nat) := [(0, 10, 13, 36), (0, 10, 17, 31)]
/-- FerryrosterLaw.personOn(LFerryroster;II[J)I -/
def q_221 : mMeth := (yL_personOn, cL_personOn, 5, (some .int), 4, true, 2, 12, 99)
def k_222 : mCode := [(0, [0, 1, 2], [.inl (.aload_n 2, 1), .inl (.iconst 0, 1), .inl (.aload_n 0, 1), .inl (.iload_n 1, 1), .inl (.invokevirtual 89, 3), .inl (.ifCond .eq 7, 3), .inl (.lconst 1, 1), .inl (.goto 4, 3)]),
  (14, [], [.inl (.lconst 0, 1)]),
  (15, [], [.inl (.lastore, 1), .inl (.goto 9, 3)]),
  (19, [], [.inl (.astore_n 3, 1), .inl (.iconst 1, 1), .inl (.ireturn, 1)]),
  (22, [], [.inl (.astore_n 3, 1), .inl (.iconst 2, 1), .inl (.ireturn, 1)]),
  (25, [], [.inl (.iconst 0, 1), .inl (.ireturn, 1)])]
def hd_222 : mHd := [(0, 16, 19, 4), (0, 16, 22, 2)]
def hh_222 : List (Nat × Nat × Nat × Nat) := [(0, 16, 19, 36), (0, 16, 22, 15)]
/-- FerryrosterLaw.isComplete(LFerryroster;I[J)I -/
def q_222 : mMeth := (yL_isComplete, cL_isComplete, 4, (some .int), 3, true, 2, 12, 99)
def k_223 : mCode := [(0, [0, 1, 2, 3, 4], [.inl (.aload 4, 2), .inl (.iconst 0, 1), .inl (.aload_n 0, 1), .inl (.iload_n 1, 1), .inl (.iload_n 2, 1), .inl (.iload_n 3, 1), .inl (.invokevirtual 93, 3), .inl (.i2l, 1), .inl (.lastore, 1), .inl (.goto 15, 3)]),
  (15, [], [.inl (.astore 5, 2), .inl (.iconst 1, 1), .inl (.ireturn, 1)]),
  (19, [], [.inl (.astore 5, 2), .inl (.iconst 2, 1), .inl (.ireturn, 1)]),
  (23, [], [.inl (.astore 5, 2), .inl (.iconst 3, 1), .inl (.ireturn, 1)]),
  (27, [], [.inl (.iconst 0, 1), .inl (.ireturn, 1)])]
def hd_223 : mHd := [(0, 12, 15, 4), (0, 12, 19, 3), (0, 12, 23, 2)]
def hh_223 : List (Nat × Nat × Nat × Nat) := [(0, 12, 15, 36), (0, 12, 19, 31), (0, 12, 23, 15)]
/-- FerryrosterLaw.reason(LFerryroster;III[J)I -/
def q_223 : mMeth := (yL_reason, cL_reason, 6, (some .int), 5, true, 4, 24, 99)
def k_224 : mCode := [(0, [0, 1, 2, 3], [.inl (.aload_n 3, 1), .inl (.iconst 0, 1), .inl (.aload_n 0, 1), .inl (.iload_n 1, 1), .inl (.iload_n 2, 1), .inl (.invokevirtual 96, 3), .inl (.i2l, 1), .inl (.lastore, 1), .inl (.goto 15, 3)]),
  (13, [], [.inl (.astore 4, 2), .inl (.iconst 1, 1), .inl (.ireturn, 1)]),
  (17, [], [.inl (.astore 4, 2), .inl (.iconst 2, 1), .inl (.ireturn, 1)]),
  (21, [], [.inl (.astore 4, 2), .inl (.iconst 3, 1), .inl (.ireturn, 1)]),
  (25, [], [.inl (.iconst 0, 1), .inl (.ireturn, 1)])]
def hd_224 : mHd := [(0, 10, 13, 4), (0, 10, 17, 3), (0, 10, 21, 2)]
def hh_224 : List (Nat × Nat × Nat × Nat) := [(0, 10, 13, 36), (0, 10, 17, 31), (0, 10, 21, 15)]
/-- FerryrosterLaw.fitting(LFerryroster;II[J)I -/
def q_224 : mMeth := (yL_fitting, cL_fitting, 5, (some .int), 4, true, 3, 18, 99)
def k_225 : mCode := [(0, [0, 1, 2], [.inl (.aload_n 2, 1), .inl (.iconst 0, 1), .inl (.aload_n 0, 1), .inl (.iload_n 1, 1), .inl (.invokevirtual 99, 3), .inl (.i2l, 1), .inl (.lastore, 1), .inl (.goto 6, 3)]),
  (12, [], [.inl (.astore_n 3, 1), .inl (.iconst 1, 1), .inl (.ireturn, 1)]),
  (15, [], [.inl (.iconst 0, 1), .inl (.ireturn, 1)])]
def hd_225 : mHd := [(0, 9, 12, 1)]
def hh_225 : List (Nat × Nat × Nat × Nat) := [(0, 9, 12, 13)]
/-- FerryrosterLaw.sailings(LFerryroster;C[J)I -/
def q_225 : mMeth := (yL_sailings, cL_sailings, 4, (some .int), 3, true, 1, 6, 99)
def k_226 : mCode := [(0, [0, 1, 2, 3, 4], [.inl (.aload 4, 2), .inl (.iconst 0, 1), .inl (.aload_n 0, 1), .inl (.iload_n 1, 1), .inl (.iload_n 2, 1), .inl (.iload_n 3, 1), .inl (.invokevirtual 103, 3), .inl (.i2l, 1), .inl (.lastore, 1), .inl (.goto 11, 3)]),
  (15, [], [.inl (.astore 5, 2), .inl (.iconst 1, 1), .inl (.ireturn, 1)]),
  (19, [], [.inl (.astore 5, 2), .inl (.iconst 2, 1), .inl (.ireturn, 1)]),
  (23, [], [.inl (.iconst 0, 1), .inl (.ireturn, 1)])]
def hd_226 : mHd := [(0, 12, 15, 3), (0, 12, 19, 1)]
def hh_226 : List (Nat × Nat × Nat × Nat) := [(0, 12, 15, 31), (0, 12, 19, 13)]
/-- FerryrosterLaw.work(LFerryroster;III[J)I -/
def q_226 : mMeth := (yL_work, cL_work, 6, (some .int), 5, true, 2, 12, 99)
def k_227 : mCode := [(0, [0, 1, 2], [.inl (.aload_n 2, 1), .inl (.iconst 0, 1), .inl (.aload_n 0, 1), .inl (.iload_n 1, 1), .inl (.invokevirtual 106, 3), .inl (.i2l, 1), .inl (.lastore, 1), .inl (.goto 6, 3)]),
  (12, [], [.inl (.astore_n 3, 1), .inl (.iconst 1, 1), .inl (.ireturn, 1)]),
  (15, [], [.inl (.iconst 0, 1), .inl (.ireturn, 1)])]
def hd_227 : mHd := [(0, 9, 12, 3)]
def hh_227 : List (Nat × Nat × Nat × Nat) := [(0, 9, 12, 31)]
/-- FerryrosterLaw.mostInDay(LFerryroster;I[J)I -/
def q_227 : mMeth := (yL_mostInDay, cL_mostInDay, 4, (some .int), 3, true, 1, 6, 99)
def k_228 : mCode := [(0, [0, 1, 2], [.inl (.aload_n 2, 1), .inl (.iconst 0, 1), .inl (.aload_n 0, 1), .inl (.iload_n 1, 1), .inl (.invokevirtual 109, 3), .inl (.i2l, 1), .inl (.lastore, 1), .inl (.goto 6, 3)]),
  (12, [], [.inl (.astore_n 3, 1), .inl (.iconst 1, 1), .inl (.ireturn, 1)]),
  (15, [], [.inl (.iconst 0, 1), .inl (.ireturn, 1)])]
def hd_228 : mHd := [(0, 9, 12, 3)]
def hh_228 : List (Nat × Nat × Nat × Nat) := [(0, 9, 12, 31)]
/-- FerryrosterLaw.mostInDayByHours(LFerryroster;I[J)I -/
def q_228 : mMeth := (yL_mostInDayByHours, cL_mostInDayByHours, 4, (some .int), 3, true, 1, 6, 99)
def k_229 : mCode := [(0, [0, 1, 2], [.inl (.aload_n 2, 1), .inl (.iconst 0, 1), .inl (.aload_n 0, 1), .inl (.iload_n 1, 1), .inl (.invokevirtual 112, 3), .inl (.i2l, 1), .inl (.lastore, 1), .inl (.goto 6, 3)]),
  (12, [], [.inl (.astore_n 3, 1), .inl (.iconst 1, 1), .inl (.ireturn, 1)]),
  (15, [], [.inl (.iconst 0, 1), .inl (.ireturn, 1)])]
def hd_229 : mHd := [(0, 9, 12, 3)]
def hh_229 : List (Nat × Nat × Nat × Nat) := [(0, 9, 12, 31)]
/-- FerryrosterLaw.mostInWeek(LFerryroster;I[J)I -/
def q_229 : mMeth := (yL_mostInWeek, cL_mostInWeek, 4, (some .int), 3, true, 1, 6, 99)
def k_230 : mCode := [(0, [0, 1, 2], [.inl (.aload_n 2, 1), .inl (.iconst 0, 1), .inl (.aload_n 0, 1), .inl (.iload_n 1, 1), .inl (.invokevirtual 115, 3), .inl (.i2l, 1), .inl (.lastore, 1), .inl (.goto 6, 3)]),
  (12, [], [.inl (.astore_n 3, 1), .inl (.iconst 1, 1), .inl (.ireturn, 1)]),
  (15, [], [.inl (.iconst 0, 1), .inl (.ireturn, 1)])]
def hd_230 : mHd := [(0, 9, 12, 3)]
def hh_230 : List (Nat × Nat × Nat × Nat) := [(0, 9, 12, 31)]
/-- FerryrosterLaw.mostInWeekByHours(LFerryroster;I[J)I -/
def q_230 : mMeth := (yL_mostInWeekByHours, cL_mostInWeekByHours, 4, (some .int), 3, true, 1, 6, 99)
def k_231 : mCode := [(0, [0, 1, 2, 3], [.inl (.aload_n 3, 1), .inl (.iconst 0, 1), .inl (.aload_n 0, 1), .inl (.iload_n 1, 1), .inl (.iload_n 2, 1), .inl (.invokevirtual 118, 3), .inl (.i2l, 1), .inl (.lastore, 1), .inl (.goto 15, 3)]),
  (13, [], [.inl (.astore 4, 2), .inl (.iconst 1, 1), .inl (.ireturn, 1)]),
  (17, [], [.inl (.astore 4, 2), .inl (.iconst 2, 1), .inl (.ireturn, 1)]),
  (21, [], [.inl (.astore 4, 2), .inl (.iconst 3, 1), .inl (.ireturn, 1)]),
  (25, [], [.inl (.iconst 0, 1), .inl (.ireturn, 1)])]
def hd_231 : mHd := [(0, 10, 13, 3), (0, 10, 17, 1), (0, 10, 21, 4)]
def hh_231 : List (Nat × Nat × Nat × Nat) := [(0, 10, 13, 31), (0, 10, 17, 13), (0, 10, 21, 36)]
/-- FerryrosterLaw.nextStart(LFerryroster;II[J)I -/
def q_231 : mMeth := (yL_nextStart, cL_nextStart, 5, (some .int), 4, true, 3, 18, 99)
def k_232 : mCode := [(0, [0, 1, 2], [.inl (.aload_n 2, 1), .inl (.iconst 0, 1), .inl (.aload_n 0, 1), .inl (.iload_n 1, 1), .inl (.invokevirtual 121, 3), .inl (.f2d, 1), .inl (.dastore, 1), .inl (.goto 9, 3)]),
  (12, [], [.inl (.astore_n 3, 1), .inl (.iconst 1, 1), .inl (.ireturn, 1)]),
  (15, [], [.inl (.astore_n 3, 1), .inl (.iconst 2, 1), .inl (.ireturn, 1)]),
  (18, [], [.inl (.iconst 0, 1), .inl (.ireturn, 1)])]
def hd_232 : mHd := [(0, 9, 12, 3), (0, 9, 15, 6)]
def hh_232 : List (Nat × Nat × Nat × Nat) := [(0, 9, 12, 31), (0, 9, 15, 125)]
/-- FerryrosterLaw.workShare(LFerryroster;I[D)I -/
def q_232 : mMeth := (yL_workShare, cL_workShare, 4, (some .int), 3, true, 2, 12, 99)
def k_233 : mCode := [(0, [0, 1], [.inl (.aload_n 1, 1), .inl (.iconst 0, 1), .inl (.aload_n 0, 1), .inl (.invokevirtual 127, 3), .inl (.dastore, 1), .inl (.goto 6, 3)]),
  (10, [], [.inl (.astore_n 2, 1), .inl (.iconst 1, 1), .inl (.ireturn, 1)]),
  (13, [], [.inl (.iconst 0, 1), .inl (.ireturn, 1)])]
def hd_233 : mHd := [(0, 7, 10, 6)]
def hh_233 : List (Nat × Nat × Nat × Nat) := [(0, 7, 10, 125)]
/-- FerryrosterLaw.meanWork(LFerryroster;[D)I -/
def q_233 : mMeth := (yL_meanWork, cL_meanWork, 3, (some .int), 2, true, 1, 6, 99)
def k_300 : mCode := [(28, [0, 1, 2, 3, 4, 5], [.inl (.iload 5, 2), .inl (.aload_n 0, 1), .inl (.arraylength, 1), .inl (.iconst 5, 1), .inl (.isub, 1), .inl (.if_icmp .gt 2391, 3), .inl (.aload_n 0, 1), .inl (.iload 5, 2), .inl (.iaload, 1), .inl (.bipush 63, 2), .inl (.iand, 1), .inl (.tableswitch 2375 0 36 #[164, 220, 233, 289, 345, 389, 469, 549, 617, 685, 741, 833, 889, 964, 1020, 1088, 1168, 1248, 1316, 1372, 1428, 1441, 1497, 1565, 1628, 1708, 1776, 1789, 1847, 1927, 1983, 2039, 2095, 2151, 2219, 2297, 2362], 164)]),
  (208, [0, 1, 2, 3, 4, 5], [.inl (.aload_n 1, 1), .inl (.aload_n 0, 1), .inl (.iload 5, 2), .inl (.iconst 1, 1), .inl (.iadd, 1), .inl (.iaload, 1), .inl (.aload_n 3, 1), .inl (.invokestatic 135, 3), .inl (.istore 6, 2), .inl (.aload_n 2, 1), .inl (.aload_n 0, 1), .inl (.iload 5, 2), .inl (.iconst 1, 1), .inl (.iadd, 1), .inl (.iaload, 1), .inl (.invokevirtual 140, 3), .inl (.istore 7, 2), .inl (.aload_n 2, 1), .inl (.invokevirtual 141, 3), .inl (.iload 6, 2), .inl (.if_icmp .eq 5, 3), .inl (.iconst 0, 1), .inl (.ireturn, 1)]),
  (244, [0, 1, 2, 3, 4, 5, 6, 7], [.inl (.iload 6, 2), .inl (.ifCond .ne 15, 3), .inl (.aload_n 3, 1), .inl (.iconst 0, 1), .inl (.laload, 1), .inl (.iload 7, 2), .inl (.i2l, 1), .inl (.lcmp, 1), .inl (.ifCond .eq 5, 3), .inl (.iconst 0, 1), .inl (.ireturn, 1)]),
  (261, [0, 1, 2, 3, 4, 5], [.inl (.goto 2158, 3)]),
  (264, [0, 1, 2, 3, 4, 5], [.inl (.aload_n 1, 1), .inl (.invokevirtual 144, 3), .inl (.aload_n 2, 1), .inl (.invokevirtual 147, 3), .inl (.if_icmp .eq 2147, 3), .inl (.iconst 0, 1), .inl (.ireturn, 1)]),
  (277, [0, 1, 2, 3, 4, 5], [.inl (.aload_n 1, 1), .inl (.aload_n 0, 1), .inl (.iload 5, 2), .inl (.iconst 1, 1), .inl (.iadd, 1), .inl (.iaload, 1), .inl (.aload_n 3, 1), .inl (.invokestatic 148, 3), .inl (.istore 6, 2), .inl (.aload_n 2, 1), .inl (.aload_n 0, 1), .inl (.iload 5, 2), .inl (.iconst 1, 1), .inl (.iadd, 1), .inl (.iaload, 1), .inl (.invokevirtual 150, 3), .inl (.istore 7, 2), .inl (.aload_n 2, 1), .inl (.invokevirtual 141, 3), .inl (.iload 6, 2), .inl (.if_icmp .eq 5, 3), .inl (.iconst 0, 1), .inl (.ireturn, 1)]),
  (313, [0, 1, 2, 3, 4, 5, 6, 7], [.inl (.iload 6, 2), .inl (.ifCond .ne 15, 3), .inl (.aload_n 3, 1), .inl (.iconst 0, 1), .inl (.laload, 1), .inl (.iload 7, 2), .inl (.i2l, 1), .inl (.lcmp, 1), .inl (.ifCond .eq 5, 3), .inl (.iconst 0, 1), .inl (.ireturn, 1)]),
  (330, [0, 1, 2, 3, 4, 5], [.inl (.goto 2089, 3)]),
  (333, [0, 1, 2, 3, 4, 5], [.inl (.aload_n 1, 1), .inl (.aload_n 0, 1), .inl (.iload 5, 2), .inl (.iconst 1, 1), .inl (.iadd, 1), .inl (.iaload, 1), .inl (.aload_n 3, 1), .inl (.invokestatic 151, 3), .inl (.istore 6, 2), .inl (.aload_n 2, 1), .inl (.aload_n 0, 1), .inl (.iload 5, 2), .inl (.iconst 1, 1), .inl (.iadd, 1), .inl (.iaload, 1), .inl (.invokevirtual 153, 3), .inl (.istore 7, 2), .inl (.aload_n 2, 1), .inl (.invokevirtual 141, 3), .inl (.iload 6, 2), .inl (.if_icmp .eq 5, 3), .inl (.iconst 0, 1), .inl (.ireturn, 1)]),
  (369, [0, 1, 2, 3, 4, 5, 6, 7], [.inl (.iload 6, 2), .inl (.ifCond .ne 15, 3), .inl (.aload_n 3, 1), .inl (.iconst 0, 1), .inl (.laload, 1), .inl (.iload 7, 2), .inl (.i2l, 1), .inl (.lcmp, 1), .inl (.ifCond .eq 5, 3), .inl (.iconst 0, 1), .inl (.ireturn, 1)]),
  (386, [0, 1, 2, 3, 4, 5], [.inl (.goto 2033, 3)]),
  (389, [0, 1, 2, 3, 4, 5], [.inl (.aload_n 1, 1), .inl (.aload_n 3, 1), .inl (.invokestatic 154, 3), .inl (.istore 6, 2), .inl (.aload_n 2, 1), .inl (.invokevirtual 157, 3), .inl (.istore 7, 2), .inl (.aload_n 2, 1), .inl (.invokevirtual 141, 3), .inl (.iload 6, 2), .inl (.if_icmp .eq 5, 3), .inl (.iconst 0, 1), .inl (.ireturn, 1)]),
  (413, [0, 1, 2, 3, 4, 5, 6, 7], [.inl (.iload 6, 2), .inl (.ifCond .ne 15, 3), .inl (.aload_n 3, 1), .inl (.iconst 0, 1), .inl (.laload, 1), .inl (.iload 7, 2), .inl (.i2l, 1), .inl (.lcmp, 1), .inl (.ifCond .eq 5, 3), .inl (.iconst 0, 1), .inl (.ireturn, 1)]),
  (430, [0, 1, 2, 3, 4, 5], [.inl (.goto 1989, 3)]),
  (433, [0, 1, 2, 3, 4, 5], [.inl (.aload_n 1, 1), .inl (.aload_n 0, 1), .inl (.iload 5, 2), .inl (.iconst 1, 1), .inl (.iadd, 1), .inl (.iaload, 1), .inl (.aload_n 0, 1), .inl (.iload 5, 2), .inl (.iconst 2, 1), .inl (.iadd, 1), .inl (.iaload, 1), .inl (.aload_n 0, 1), .inl (.iload 5, 2), .inl (.iconst 3, 1), .inl (.iadd, 1), .inl (.iaload, 1), .inl (.aload_n 3, 1), .inl (.invokestatic 158, 3), .inl (.istore 6, 2), .inl (.aload_n 2, 1), .inl (.aload_n 0, 1), .inl (.iload 5, 2), .inl (.iconst 1, 1), .inl (.iadd, 1), .inl (.iaload, 1), .inl (.aload_n 0, 1), .inl (.iload 5, 2), .inl (.iconst 2, 1), .inl (.iadd, 1), .inl (.iaload, 1), .inl (.aload_n 0, 1), .inl (.iload 5, 2), .inl (.iconst 3, 1), .inl (.iadd, 1), .inl (.iaload, 1), .inl (.invokevirtual 161, 3), .inl (.istore 7, 2), .inl (.aload_n 2, 1), .inl (.invokevirtual 141, 3), .inl (.iload 6, 2), .inl (.if_icmp .eq 5, 3), .inl (.iconst 0, 1), .inl (.ireturn, 1)]),
  (493, [0, 1, 2, 3, 4, 5, 6, 7], [.inl (.iload 6, 2), .inl (.ifCond .ne 15, 3), .inl (.aload_n 3, 1), .inl (.iconst 0, 1), .inl (.laload, 1), .inl (.iload 7, 2), .inl (.i2l, 1), .inl (.lcmp, 1), .inl (.ifCond .eq 5, 3), .inl (.iconst 0, 1), .inl (.ireturn, 1)]),
  (510, [0, 1, 2, 3, 4, 5], [.inl (.goto 1909, 3)]),
  (513, [0, 1, 2, 3, 4, 5], [.inl (.aload_n 1, 1), .inl (.aload_n 0, 1), .inl (.iload 5, 2), .inl (.iconst 1, 1), .inl (.iadd, 1), .inl (.iaload, 1), .inl (.aload_n 0, 1), .inl (.iload 5, 2), .inl (.iconst 2, 1), .inl (.iadd, 1), .inl (.iaload, 1), .inl (.aload_n 0, 1), .inl (.iload 5, 2), .inl (.iconst 3, 1), .inl (.iadd, 1), .inl (.iaload, 1), .inl (.aload_n 3, 1), .inl (.invokestatic 162, 3), .inl (.istore 6, 2), .inl (.aload_n 2, 1), .inl (.aload_n 0, 1), .inl (.iload 5, 2), .inl (.iconst 1, 1), .inl (.iadd, 1), .inl (.iaload, 1), .inl (.aload_n 0, 1), .inl (.iload 5, 2), .inl (.iconst 2, 1), .inl (.iadd, 1), .inl (.iaload, 1), .inl (.aload_n 0, 1), .inl (.iload 5, 2), .inl (.iconst 3, 1), .inl (.iadd, 1), .inl (.iaload, 1), .inl (.invokevirtual 164, 3), .inl (.istore 7, 2), .inl (.aload_n 2, 1), .inl (.invokevirtual 141, 3), .inl (.iload 6, 2), .inl (.if_icmp .eq 5, 3), .inl (.iconst 0, 1), .inl (.ireturn, 1)]),
  (573, [0, 1, 2, 3, 4, 5, 6, 7], [.inl (.iload 6, 2), .inl (.ifCond .ne 15, 3), .inl (.aload_n 3, 1), .inl (.iconst 0, 1), .inl (.laload, 1), .inl (.iload 7, 2), .inl (.i2l, 1), .inl (.lcmp, 1), .inl (.ifCond .eq 5, 3), .inl (.iconst 0, 1), .inl (.ireturn, 1)]),
  (590, [0, 1, 2, 3, 4, 5], [.inl (.goto 1829, 3)]),
  (593, [0, 1, 2, 3, 4, 5], [.inl (.aload_n 1, 1), .inl (.aload_n 0, 1), .inl (.iload 5, 2), .inl (.iconst 1, 1), .inl (.iadd, 1), .inl (.iaload, 1), .inl (.aload_n 0, 1), .inl (.iload 5, 2), .inl (.iconst 2, 1), .inl (.iadd, 1), .inl (.iaload, 1), .inl (.aload_n 3, 1), .inl (.invokestatic 165, 3), .inl (.istore 6, 2), .inl (.aload_n 2, 1), .inl (.aload_n 0, 1), .inl (.iload 5, 2), .inl (.iconst 1, 1), .inl (.iadd, 1), .inl (.iaload, 1), .inl (.aload_n 0, 1), .inl (.iload 5, 2), .inl (.iconst 2, 1), .inl (.iadd, 1), .inl (.iaload, 1), .inl (.invokevirtual 168, 3), .inl (.istore 7, 2), .inl (.aload_n 2, 1), .inl (.invokevirtual 141, 3), .inl (.iload 6, 2), .inl (.if_icmp .eq 5, 3), .inl (.iconst 0, 1), .inl (.ireturn, 1)]),
  (641, [0, 1, 2, 3, 4, 5, 6, 7], [.inl (.iload 6, 2), .inl (.ifCond .ne 15, 3), .inl (.aload_n 3, 1), .inl (.iconst 0, 1), .inl (.laload, 1), .inl (.iload 7, 2), .inl (.i2l, 1), .inl (.lcmp, 1), .inl (.ifCond .eq 5, 3), .inl (.iconst 0, 1), .inl (.ireturn, 1)]),
  (658, [0, 1, 2, 3, 4, 5], [.inl (.goto 1761, 3)]),
  (661, [0, 1, 2, 3, 4, 5], [.inl (.aload_n 1, 1), .inl (.aload_n 0, 1), .inl (.iload 5, 2), .inl (.iconst 1, 1), .inl (.iadd, 1), .inl (.iaload, 1), .inl (.aload_n 0, 1), .inl (.iload 5, 2), .inl (.iconst 2, 1), .inl (.iadd, 1), .inl (.iaload, 1), .inl (.aload_n 3, 1), .inl (.invokestatic 169, 3), .inl (.istore 6, 2), .inl (.aload_n 2, 1), .inl (.aload_n 0, 1), .inl (.iload 5, 2), .inl (.iconst 1, 1), .inl (.iadd, 1), .inl (.iaload, 1), .inl (.aload_n 0, 1), .inl (.iload 5, 2), .inl (.iconst 2, 1), .inl (.iadd, 1), .inl (.iaload, 1), .inl (.invokevirtual 171, 3), .inl (.istore 7, 2), .inl (.aload_n 2, 1), .inl (.invokevirtual 141, 3), .inl (.iload 6, 2), .inl (.if_icmp .eq 5, 3), .inl (.iconst 0, 1), .inl (.ireturn, 1)]),
  (709, [0, 1, 2, 3, 4, 5, 6, 7], [.inl (.iload 6, 2), .inl (.ifCond .ne 15, 3), .inl (.aload_n 3, 1), .inl (.iconst 0, 1), .inl (.laload, 1), .inl (.iload 7, 2), .inl (.i2l, 1), .inl (.lcmp, 1), .inl (.ifCond .eq 5, 3), .inl (.iconst 0, 1), .inl (.ireturn, 1)]),
  (726, [0, 1, 2, 3, 4, 5], [.inl (.goto 1693, 3)]),
  (729, [0, 1, 2, 3, 4, 5], [.inl (.aload_n 1, 1), .inl (.aload_n 0, 1), .inl (.iload 5, 2), .inl (.iconst 1, 1), .inl (.iadd, 1), .inl (.iaload, 1), .inl (.aload_n 3, 1), .inl (.invokestatic 172, 3), .inl (.istore 6, 2), .inl (.aload_n 2, 1), .inl (.aload_n 0, 1), .inl (.iload 5, 2), .inl (.iconst 1, 1), .inl (.iadd, 1), .inl (.iaload, 1), .inl (.invokevirtual 174, 3), .inl (.istore 7, 2), .inl (.aload_n 2, 1), .inl (.invokevirtual 141, 3), .inl (.iload 6, 2), .inl (.if_icmp .eq 5, 3), .inl (.iconst 0, 1), .inl (.ireturn, 1)]),
  (765, [0, 1, 2, 3, 4, 5, 6, 7], [.inl (.iload 6, 2), .inl (.ifCond .ne 15, 3), .inl (.aload_n 3, 1), .inl (.iconst 0, 1), .inl (.laload, 1), .inl (.iload 7, 2), .inl (.i2l, 1), .inl (.lcmp, 1), .inl (.ifCond .eq 5, 3), .inl (.iconst 0, 1), .inl (.ireturn, 1)]),
  (782, [0, 1, 2, 3, 4, 5], [.inl (.goto 1637, 3)]),
  (785, [0, 1, 2, 3, 4, 5], [.inl (.aload_n 1, 1), .inl (.aload_n 0, 1), .inl (.iload 5, 2), .inl (.iconst 1, 1), .inl (.iadd, 1), .inl (.iaload, 1), .inl (.aload_n 0, 1), .inl (.iload 5, 2), .inl (.iconst 2, 1), .inl (.iadd, 1), .inl (.iaload, 1), .inl (.aload_n 0, 1), .inl (.iload 5, 2), .inl (.iconst 3, 1), .inl (.iadd, 1), .inl (.iaload, 1), .inl (.aload_n 0, 1), .inl (.iload 5, 2), .inl (.iconst 4, 1), .inl (.iadd, 1), .inl (.iaload, 1), .inl (.aload_n 3, 1), .inl (.invokestatic 175, 3), .inl (.istore 6, 2), .inl (.aload_n 2, 1), .inl (.aload_n 0, 1), .inl (.iload 5, 2), .inl (.iconst 1, 1), .inl (.iadd, 1), .inl (.iaload, 1), .inl (.aload_n 0, 1), .inl (.iload 5, 2), .inl (.iconst 2, 1), .inl (.iadd, 1), .inl (.iaload, 1), .inl (.aload_n 0, 1), .inl (.iload 5, 2), .inl (.iconst 3, 1), .inl (.iadd, 1), .inl (.iaload, 1), .inl (.aload_n 0, 1), .inl (.iload 5, 2), .inl (.iconst 4, 1), .inl (.iadd, 1), .inl (.iaload, 1), .inl (.invokevirtual 178, 3), .inl (.istore 7, 2), .inl (.aload_n 2, 1), .inl (.invokevirtual 141, 3), .inl (.iload 6, 2), .inl (.if_icmp .eq 5, 3), .inl (.iconst 0, 1), .inl (.ireturn, 1)]),
  (857, [0, 1, 2, 3, 4, 5, 6, 7], [.inl (.iload 6, 2), .inl (.ifCond .ne 15, 3), .inl (.aload_n 3, 1), .inl (.iconst 0, 1), .inl (.laload, 1), .inl (.iload 7, 2), .inl (.i2l, 1), .inl (.lcmp, 1), .inl (.ifCond .eq 5, 3), .inl (.iconst 0, 1), .inl (.ireturn, 1)]),
  (874, [0, 1, 2, 3, 4, 5], [.inl (.goto 1545, 3)]),
  (877, [0, 1, 2, 3, 4, 5], [.inl (.aload_n 1, 1), .inl (.aload_n 0, 1), .inl (.iload 5, 2), .inl (.iconst 1, 1), .inl (.iadd, 1), .inl (.iaload, 1), .inl (.aload_n 3, 1), .inl (.invokestatic 179, 3), .inl (.istore 6, 2), .inl (.aload_n 2, 1), .inl (.aload_n 0, 1), .inl (.iload 5, 2), .inl (.iconst 1, 1), .inl (.iadd, 1), .inl (.iaload, 1), .inl (.invokevirtual 181, 3), .inl (.istore 7, 2), .inl (.aload_n 2, 1), .inl (.invokevirtual 141, 3), .inl (.iload 6, 2), .inl (.if_icmp .eq 5, 3), .inl (.iconst 0, 1), .inl (.ireturn, 1)]),
  (913, [0, 1, 2, 3, 4, 5, 6, 7], [.inl (.iload 6, 2), .inl (.ifCond .ne 15, 3), .inl (.aload_n 3, 1), .inl (.iconst 0, 1), .inl (.laload, 1), .inl (.iload 7, 2), .inl (.i2l, 1), .inl (.lcmp, 1), .inl (.ifCond .eq 5, 3), .inl (.iconst 0, 1), .inl (.ireturn, 1)]),
  (930, [0, 1, 2, 3, 4, 5], [.inl (.goto 1489, 3)]),
  (933, [0, 1, 2, 3, 4, 5], [.inl (.aload_n 1, 1), .inl (.aload_n 0, 1), .inl (.iload 5, 2), .inl (.iconst 1, 1), .inl (.iadd, 1), .inl (.iaload, 1), .inl (.aload_n 0, 1), .inl (.iload 5, 2), .inl (.iconst 2, 1), .inl (.iadd, 1), .inl (.iaload, 1), .inl (.aload_n 3, 1), .inl (.invokestatic 182, 3), .inl (.istore 6, 2), .inl (.aload_n 2, 1), .inl (.aload_n 0, 1), .inl (.iload 5, 2), .inl (.iconst 1, 1), .inl (.iadd, 1), .inl (.iaload, 1), .inl (.aload_n 0, 1), .inl (.iload 5, 2), .inl (.iconst 2, 1), .inl (.iadd, 1), .inl (.iaload, 1), .inl (.invokevirtual 184, 3), .inl (.istore 7, 2), .inl (.aload_n 2, 1), .inl (.invokevirtual 141, 3), .inl (.iload 6, 2), .inl (.if_icmp .eq 5, 3), .inl (.iconst 0, 1), .inl (.ireturn, 1)]),
  (981, [0, 1, 2, 3, 4, 5, 6, 7], [.inl (.iload 6, 2), .inl (.ifCond .ne 22, 3), .inl (.aload_n 3, 1), .inl (.iconst 0, 1), .inl (.laload, 1), .inl (.iload 7, 2), .inl (.ifCond .eq 7, 3), .inl (.lconst 1, 1), .inl (.goto 4, 3)]),
  (998, [0, 1, 2, 3, 4, 5], [.inl (.lconst 0, 1)]),
  (999, [0, 1, 2, 3, 4, 5], [.inl (.lcmp, 1), .inl (.ifCond .eq 5, 3), .inl (.iconst 0, 1), .inl (.ireturn, 1)]),
  (1005, [0, 1, 2, 3, 4, 5], [.inl (.goto 1414, 3)]),
  (1008, [0, 1, 2, 3, 4, 5], [.inl (.aload_n 1, 1), .inl (.aload_n 0, 1), .inl (.iload 5, 2), .inl (.iconst 1, 1), .inl (.iadd, 1), .inl (.iaload, 1), .inl (.aload_n 3, 1), .inl (.invokestatic 185, 3), .inl (.istore 6, 2), .inl (.aload_n 2, 1), .inl (.aload_n 0, 1), .inl (.iload 5, 2), .inl (.iconst 1, 1), .inl (.iadd, 1), .inl (.iaload, 1), .inl (.invokevirtual 187, 3), .inl (.istore 7, 2), .inl (.aload_n 2, 1), .inl (.invokevirtual 141, 3), .inl (.iload 6, 2), .inl (.if_icmp .eq 5, 3), .inl (.iconst 0, 1), .inl (.ireturn, 1)]),
  (1044, [0, 1, 2, 3, 4, 5, 6, 7], [.inl (.iload 6, 2), .inl (.ifCond .ne 15, 3), .inl (.aload_n 3, 1), .inl (.iconst 0, 1), .inl (.laload, 1), .inl (.iload 7, 2), .inl (.i2l, 1), .inl (.lcmp, 1), .inl (.ifCond .eq 5, 3), .inl (.iconst 0, 1), .inl (.ireturn, 1)]),
  (1061, [0, 1, 2, 3, 4, 5], [.inl (.goto 1358, 3)]),
  (1064, [0, 1, 2, 3, 4, 5], [.inl (.aload_n 1, 1), .inl (.aload_n 0, 1), .inl (.iload 5, 2), .inl (.iconst 1, 1), .inl (.iadd, 1), .inl (.iaload, 1), .inl (.aload_n 0, 1), .inl (.iload 5, 2), .inl (.iconst 2, 1), .inl (.iadd, 1), .inl (.iaload, 1), .inl (.aload_n 3, 1), .inl (.invokestatic 188, 3), .inl (.istore 6, 2), .inl (.aload_n 2, 1), .inl (.aload_n 0, 1), .inl (.iload 5, 2), .inl (.iconst 1, 1), .inl (.iadd, 1), .inl (.iaload, 1), .inl (.aload_n 0, 1), .inl (.iload 5, 2), .inl (.iconst 2, 1), .inl (.iadd, 1), .inl (.iaload, 1), .inl (.invokevirtual 190, 3), .inl (.istore 7, 2), .inl (.aload_n 2, 1), .inl (.invokevirtual 141, 3), .inl (.iload 6, 2), .inl (.if_icmp .eq 5, 3), .inl (.iconst 0, 1), .inl (.ireturn, 1)]),
  (1112, [0, 1, 2, 3, 4, 5, 6, 7], [.inl (.iload 6, 2), .inl (.ifCond .ne 15, 3), .inl (.aload_n 3, 1), .inl (.iconst 0, 1), .inl (.laload, 1), .inl (.iload 7, 2), .inl (.i2l, 1), .inl (.lcmp, 1), .inl (.ifCond .eq 5, 3), .inl (.iconst 0, 1), .inl (.ireturn, 1)]),
  (1129, [0, 1, 2, 3, 4, 5], [.inl (.goto 1290, 3)]),
  (1132, [0, 1, 2, 3, 4, 5], [.inl (.aload_n 1, 1), .inl (.aload_n 0, 1), .inl (.iload 5, 2), .inl (.iconst 1, 1), .inl (.iadd, 1), .inl (.iaload, 1), .inl (.aload_n 0, 1), .inl (.iload 5, 2), .inl (.iconst 2, 1), .inl (.iadd, 1), .inl (.iaload, 1), .inl (.aload_n 0, 1), .inl (.iload 5, 2), .inl (.iconst 3, 1), .inl (.iadd, 1), .inl (.iaload, 1), .inl (.aload_n 3, 1), .inl (.invokestatic 191, 3), .inl (.istore 6, 2), .inl (.aload_n 2, 1), .inl (.aload_n 0, 1), .inl (.iload 5, 2), .inl (.iconst 1, 1), .inl (.iadd, 1), .inl (.iaload, 1), .inl (.aload_n 0, 1), .inl (.iload 5, 2), .inl (.iconst 2, 1), .inl (.iadd, 1), .inl (.iaload, 1), .inl (.aload_n 0, 1), .inl (.iload 5, 2), .inl (.iconst 3, 1), .inl (.iadd, 1), .inl (.iaload, 1), .inl (.invokevirtual 193, 3), .inl (.istore 7, 2), .inl (.aload_n 2, 1), .inl (.invokevirtual 141, 3), .inl (.iload 6, 2), .inl (.if_icmp .eq 5, 3), .inl (.iconst 0, 1), .inl (.ireturn, 1)]),
  (1192, [0, 1, 2, 3, 4, 5, 6, 7], [.inl (.iload 6, 2), .inl (.ifCond .ne 15, 3), .inl (.aload_n 3, 1), .inl (.iconst 0, 1), .inl (.laload, 1), .inl (.iload 7, 2), .inl (.i2l, 1), .inl (.lcmp, 1), .inl (.ifCond .eq 5, 3), .inl (.iconst 0, 1), .inl (.ireturn, 1)]),
  (1209, [0, 1, 2, 3, 4, 5], [.inl (.goto 1210, 3)]),
  (1212, [0, 1, 2, 3, 4, 5], [.inl (.aload_n 1, 1), .inl (.aload_n 0, 1), .inl (.iload 5, 2), .inl (.iconst 1, 1), .inl (.iadd, 1), .inl (.iaload, 1), .inl (.aload_n 0, 1), .inl (.iload 5, 2), .inl (.iconst 2, 1), .inl (.iadd, 1), .inl (.iaload, 1), .inl (.aload_n 0, 1), .inl (.iload 5, 2), .inl (.iconst 3, 1), .inl (.iadd, 1), .inl (.iaload, 1), .inl (.aload_n 3, 1), .inl (.invokestatic 194, 3), .inl (.istore 6, 2), .inl (.aload_n 2, 1), .inl (.aload_n 0, 1), .inl (.iload 5, 2), .inl (.iconst 1, 1), .inl (.iadd, 1), .inl (.iaload, 1), .inl (.aload_n 0, 1), .inl (.iload 5, 2), .inl (.iconst 2, 1), .inl (.iadd, 1), .inl (.iaload, 1), .inl (.aload_n 0, 1), .inl (.iload 5, 2), .inl (.iconst 3, 1), .inl (.iadd, 1), .inl (.iaload, 1), .inl (.invokevirtual 196, 3), .inl (.istore 7, 2), .inl (.aload_n 2, 1), .inl (.invokevirtual 141, 3), .inl (.iload 6, 2), .inl (.if_icmp .eq 5, 3), .inl (.iconst 0, 1), .inl (.ireturn, 1)]),
  (1272, [0, 1, 2, 3, 4, 5, 6, 7], [.inl (.iload 6, 2), .inl (.ifCond .ne 15, 3), .inl (.aload_n 3, 1), .inl (.iconst 0, 1), .inl (.laload, 1), .inl (.iload 7, 2), .inl (.i2l, 1), .inl (.lcmp, 1), .inl (.ifCond .eq 5, 3), .inl (.iconst 0, 1), .inl (.ireturn, 1)]),
  (1289, [0, 1, 2, 3, 4, 5], [.inl (.goto 1130, 3)]),
  (1292, [0, 1, 2, 3, 4, 5], [.inl (.aload_n 1, 1), .inl (.aload_n 0, 1), .inl (.iload 5, 2), .inl (.iconst 1, 1), .inl (.iadd, 1), .inl (.iaload, 1), .inl (.aload_n 0, 1), .inl (.iload 5, 2), .inl (.iconst 2, 1), .inl (.iadd, 1), .inl (.iaload, 1), .inl (.aload_n 3, 1), .inl (.invokestatic 197, 3), .inl (.istore 6, 2), .inl (.aload_n 2, 1), .inl (.aload_n 0, 1), .inl (.iload 5, 2), .inl (.iconst 1, 1), .inl (.iadd, 1), .inl (.iaload, 1), .inl (.aload_n 0, 1), .inl (.iload 5, 2), .inl (.iconst 2, 1), .inl (.iadd, 1), .inl (.iaload, 1), .inl (.invokevirtual 199, 3), .inl (.istore 7, 2), .inl (.aload_n 2, 1), .inl (.invokevirtual 141, 3), .inl (.iload 6, 2), .inl (.if_icmp .eq 5, 3), .inl (.iconst 0, 1), .inl (.ireturn, 1)]),
  (1340, [0, 1, 2, 3, 4, 5, 6, 7], [.inl (.iload 6, 2), .inl (.ifCond .ne 15, 3), .inl (.aload_n 3, 1), .inl (.iconst 0, 1), .inl (.laload, 1), .inl (.iload 7, 2), .inl (.i2l, 1), .inl (.lcmp, 1), .inl (.ifCond .eq 5, 3), .inl (.iconst 0, 1), .inl (.ireturn, 1)]),
  (1357, [0, 1, 2, 3, 4, 5], [.inl (.goto 1062, 3)]),
  (1360, [0, 1, 2, 3, 4, 5], [.inl (.aload_n 1, 1), .inl (.aload_n 0, 1), .inl (.iload 5, 2), .inl (.iconst 1, 1), .inl (.iadd, 1), .inl (.iaload, 1), .inl (.aload_n 3, 1), .inl (.invokestatic 200, 3), .inl (.istore 6, 2), .inl (.aload_n 2, 1), .inl (.aload_n 0, 1), .inl (.iload 5, 2), .inl (.iconst 1, 1), .inl (.iadd, 1), .inl (.iaload, 1), .inl (.invokevirtual 202, 3), .inl (.istore 7, 2), .inl (.aload_n 2, 1), .inl (.invokevirtual 141, 3), .inl (.iload 6, 2), .inl (.if_icmp .eq 5, 3), .inl (.iconst 0, 1), .inl (.ireturn, 1)]),
  (1396, [0, 1, 2, 3, 4, 5, 6, 7], [.inl (.iload 6, 2), .inl (.ifCond .ne 15, 3), .inl (.aload_n 3, 1), .inl (.iconst 0, 1), .inl (.laload, 1), .inl (.iload 7, 2), .inl (.i2l, 1), .inl (.lcmp, 1), .inl (.ifCond .eq 5, 3), .inl (.iconst 0, 1), .inl (.ireturn, 1)]),
  (1413, [0, 1, 2, 3, 4, 5], [.inl (.goto 1006, 3)]),
  (1416, [0, 1, 2, 3, 4, 5], [.inl (.aload_n 1, 1), .inl (.aload_n 0, 1), .inl (.iload 5, 2), .inl (.iconst 1, 1), .inl (.iadd, 1), .inl (.iaload, 1), .inl (.aload_n 3, 1), .inl (.invokestatic 203, 3), .inl (.istore 6, 2), .inl (.aload_n 2, 1), .inl (.aload_n 0, 1), .inl (.iload 5, 2), .inl (.iconst 1, 1), .inl (.iadd, 1), .inl (.iaload, 1), .inl (.invokevirtual 205, 3), .inl (.istore 7, 2), .inl (.aload_n 2, 1), .inl (.invokevirtual 141, 3), .inl (.iload 6, 2), .inl (.if_icmp .eq 5, 3), .inl (.iconst 0, 1), .inl (.ireturn, 1)]),
  (1452, [0, 1, 2, 3, 4, 5, 6, 7], [.inl (.iload 6, 2), .inl (.ifCond .ne 15, 3), .inl (.aload_n 3, 1), .inl (.iconst 0, 1), .inl (.laload, 1), .inl (.iload 7, 2), .inl (.i2l, 1), .inl (.lcmp, 1), .inl (.ifCond .eq 5, 3), .inl (.iconst 0, 1), .inl (.ireturn, 1)]),
  (1469, [0, 1, 2, 3, 4, 5], [.inl (.goto 950, 3)]),
  (1472, [0, 1, 2, 3, 4, 5], [.inl (.aload_n 1, 1), .inl (.invokevirtual 206, 3), .inl (.aload_n 2, 1), .inl (.invokevirtual 209, 3), .inl (.if_icmp .eq 939, 3), .inl (.iconst 0, 1), .inl (.ireturn, 1)]),
  (1485, [0, 1, 2, 3, 4, 5], [.inl (.aload_n 1, 1), .inl (.aload_n 0, 1), .inl (.iload 5, 2), .inl (.iconst 1, 1), .inl (.iadd, 1), .inl (.iaload, 1), .inl (.aload_n 3, 1), .inl (.invokestatic 210, 3), .inl (.istore 6, 2), .inl (.aload_n 2, 1), .inl (.aload_n 0, 1), .inl (.iload 5, 2), .inl (.iconst 1, 1), .inl (.iadd, 1), .inl (.iaload, 1), .inl (.invokevirtual 212, 3), .inl (.istore 7, 2), .inl (.aload_n 2, 1), .inl (.invokevirtual 141, 3), .inl (.iload 6, 2), .inl (.if_icmp .eq 5, 3), .inl (.iconst 0, 1), .inl (.ireturn, 1)]),
  (1521, [0, 1, 2, 3, 4, 5, 6, 7], [.inl (.iload 6, 2), .inl (.ifCond .ne 15, 3), .inl (.aload_n 3, 1), .inl (.iconst 0, 1), .inl (.laload, 1), .inl (.iload 7, 2), .inl (.i2l, 1), .inl (.lcmp, 1), .inl (.ifCond .eq 5, 3), .inl (.iconst 0, 1), .inl (.ireturn, 1)]),
  (1538, [0, 1, 2, 3, 4, 5], [.inl (.goto 881, 3)]),
  (1541, [0, 1, 2, 3, 4, 5], [.inl (.aload_n 1, 1), .inl (.aload_n 0, 1), .inl (.iload 5, 2), .inl (.iconst 1, 1), .inl (.iadd, 1), .inl (.iaload, 1), .inl (.aload_n 0, 1), .inl (.iload 5, 2), .inl (.iconst 2, 1), .inl (.iadd, 1), .inl (.iaload, 1), .inl (.aload_n 3, 1), .inl (.invokestatic 213, 3), .inl (.istore 6, 2), .inl (.aload_n 2, 1), .inl (.aload_n 0, 1), .inl (.iload 5, 2), .inl (.iconst 1, 1), .inl (.iadd, 1), .inl (.iaload, 1), .inl (.aload_n 0, 1), .inl (.iload 5, 2), .inl (.iconst 2, 1), .inl (.iadd, 1), .inl (.iaload, 1), .inl (.invokevirtual 215, 3), .inl (.istore 7, 2), .inl (.aload_n 2, 1), .inl (.invokevirtual 141, 3), .inl (.iload 6, 2), .inl (.if_icmp .eq 5, 3), .inl (.iconst 0, 1), .inl (.ireturn, 1)]),
  (1589, [0, 1, 2, 3, 4, 5, 6, 7], [.inl (.iload 6, 2), .inl (.ifCond .ne 15, 3), .inl (.aload_n 3, 1), .inl (.iconst 0, 1), .inl (.laload, 1), .inl (.iload 7, 2), .inl (.i2l, 1), .inl (.lcmp, 1), .inl (.ifCond .eq 5, 3), .inl (.iconst 0, 1), .inl (.ireturn, 1)]),
  (1606, [0, 1, 2, 3, 4, 5], [.inl (.goto 813, 3)]),
  (1609, [0, 1, 2, 3, 4, 5], [.inl (.aload_n 1, 1), .inl (.aload_n 0, 1), .inl (.iload 5, 2), .inl (.iconst 1, 1), .inl (.iadd, 1), .inl (.iaload, 1), .inl (.aload_n 3, 1), .inl (.invokestatic 216, 3), .inl (.istore 6, 2), .inl (.aload_n 2, 1), .inl (.aload_n 0, 1), .inl (.iload 5, 2), .inl (.iconst 1, 1), .inl (.iadd, 1), .inl (.iaload, 1), .inl (.invokevirtual 218, 3), .inl (.istore 7, 2), .inl (.aload_n 2, 1), .inl (.invokevirtual 141, 3), .inl (.iload 6, 2), .inl (.if_icmp .eq 5, 3), .inl (.iconst 0, 1), .inl (.ireturn, 1)]),
  (1645, [0, 1, 2, 3, 4, 5, 6, 7], [.inl (.iload 6, 2), .inl (.ifCond .ne 22, 3), .inl (.aload_n 3, 1), .inl (.iconst 0, 1), .inl (.laload, 1), .inl (.iload 7, 2), .inl (.ifCond .eq 7, 3), .inl (.lconst 1, 1), .inl (.goto 4, 3)]),
  (1662, [0, 1, 2, 3, 4, 5], [.inl (.lconst 0, 1)]),
  (1663, [0, 1, 2, 3, 4, 5], [.inl (.lcmp, 1), .inl (.ifCond .eq 5, 3), .inl (.iconst 0, 1), .inl (.ireturn, 1)]),
  (1669, [0, 1, 2, 3, 4, 5], [.inl (.goto 750, 3)]),
  (1672, [0, 1, 2, 3, 4, 5], [.inl (.aload_n 1, 1), .inl (.aload_n 0, 1), .inl (.iload 5, 2), .inl (.iconst 1, 1), .inl (.iadd, 1), .inl (.iaload, 1), .inl (.aload_n 0, 1), .inl (.iload 5, 2), .inl (.iconst 2, 1), .inl (.iadd, 1), .inl (.iaload, 1), .inl (.aload_n 0, 1), .inl (.iload 5, 2), .inl (.iconst 3, 1), .inl (.iadd, 1), .inl (.iaload, 1), .inl (.aload_n 3, 1), .inl (.invokestatic 219, 3), .inl (.istore 6, 2), .inl (.aload_n 2, 1), .inl (.aload_n 0, 1), .inl (.iload 5, 2), .inl (.iconst 1, 1), .inl (.iadd, 1), .inl (.iaload, 1), .inl (.aload_n 0, 1), .inl (.iload 5, 2), .inl (.iconst 2, 1), .inl (.iadd, 1), .inl (.iaload, 1), .inl (.aload_n 0, 1), .inl (.iload 5, 2), .inl (.iconst 3, 1), .inl (.iadd, 1), .inl (.iaload, 1), .inl (.invokevirtual 221, 3), .inl (.istore 7, 2), .inl (.aload_n 2, 1), .inl (.invokevirtual 141, 3), .inl (.iload 6, 2), .inl (.if_icmp .eq 5, 3), .inl (.iconst 0, 1), .inl (.ireturn, 1)]),
  (1732, [0, 1, 2, 3, 4, 5, 6, 7], [.inl (.iload 6, 2), .inl (.ifCond .ne 15, 3), .inl (.aload_n 3, 1), .inl (.iconst 0, 1), .inl (.laload, 1), .inl (.iload 7, 2), .inl (.i2l, 1), .inl (.lcmp, 1), .inl (.ifCond .eq 5, 3), .inl (.iconst 0, 1), .inl (.ireturn, 1)]),
  (1749, [0, 1, 2, 3, 4, 5], [.inl (.goto 670, 3)]),
  (1752, [0, 1, 2, 3, 4, 5], [.inl (.aload_n 1, 1), .inl (.aload_n 0, 1), .inl (.iload 5, 2), .inl (.iconst 1, 1), .inl (.iadd, 1), .inl (.iaload, 1), .inl (.aload_n 0, 1), .inl (.iload 5, 2), .inl (.iconst 2, 1), .inl (.iadd, 1), .inl (.iaload, 1), .inl (.aload_n 3, 1), .inl (.invokestatic 222, 3), .inl (.istore 6, 2), .inl (.aload_n 2, 1), .inl (.aload_n 0, 1), .inl (.iload 5, 2), .inl (.iconst 1, 1), .inl (.iadd, 1), .inl (.iaload, 1), .inl (.aload_n 0, 1), .inl (.iload 5, 2), .inl (.iconst 2, 1), .inl (.iadd, 1), .inl (.iaload, 1), .inl (.invokevirtual 224, 3), .inl (.istore 7, 2), .inl (.aload_n 2, 1), .inl (.invokevirtual 141, 3), .inl (.iload 6, 2), .inl (.if_icmp .eq 5, 3), .inl (.iconst 0, 1), .inl (.ireturn, 1)]),
  (1800, [0, 1, 2, 3, 4, 5, 6, 7], [.inl (.iload 6, 2), .inl (.ifCond .ne 15, 3), .inl (.aload_n 3, 1), .inl (.iconst 0, 1), .inl (.laload, 1), .inl (.iload 7, 2), .inl (.i2l, 1), .inl (.lcmp, 1), .inl (.ifCond .eq 5, 3), .inl (.iconst 0, 1), .inl (.ireturn, 1)]),
  (1817, [0, 1, 2, 3, 4, 5], [.inl (.goto 602, 3)]),
  (1820, [0, 1, 2, 3, 4, 5], [.inl (.aload_n 1, 1), .inl (.invokevirtual 225, 3), .inl (.aload_n 2, 1), .inl (.invokevirtual 228, 3), .inl (.if_icmp .eq 591, 3), .inl (.iconst 0, 1), .inl (.ireturn, 1)]),
  (1833, [0, 1, 2, 3, 4, 5], [.inl (.aload_n 1, 1), .inl (.aload_n 0, 1), .inl (.iload 5, 2), .inl (.iconst 1, 1), .inl (.iadd, 1), .inl (.iaload, 1), .inl (.i2c, 1), .inl (.aload_n 3, 1), .inl (.invokestatic 229, 3), .inl (.istore 6, 2), .inl (.aload_n 2, 1), .inl (.aload_n 0, 1), .inl (.iload 5, 2), .inl (.iconst 1, 1), .inl (.iadd, 1), .inl (.iaload, 1), .inl (.i2c, 1), .inl (.invokevirtual 232, 3), .inl (.istore 7, 2), .inl (.aload_n 2, 1), .inl (.invokevirtual 141, 3), .inl (.iload 6, 2), .inl (.if_icmp .eq 5, 3), .inl (.iconst 0, 1), .inl (.ireturn, 1)]),
  (1871, [0, 1, 2, 3, 4, 5, 6, 7], [.inl (.iload 6, 2), .inl (.ifCond .ne 15, 3), .inl (.aload_n 3, 1), .inl (.iconst 0, 1), .inl (.laload, 1), .inl (.iload 7, 2), .inl (.i2l, 1), .inl (.lcmp, 1), .inl (.ifCond .eq 5, 3), .inl (.iconst 0, 1), .inl (.ireturn, 1)]),
  (1888, [0, 1, 2, 3, 4, 5], [.inl (.goto 531, 3)]),
  (1891, [0, 1, 2, 3, 4, 5], [.inl (.aload_n 1, 1), .inl (.aload_n 0, 1), .inl (.iload 5, 2), .inl (.iconst 1, 1), .inl (.iadd, 1), .inl (.iaload, 1), .inl (.aload_n 0, 1), .inl (.iload 5, 2), .inl (.iconst 2, 1), .inl (.iadd, 1), .inl (.iaload, 1), .inl (.aload_n 0, 1), .inl (.iload 5, 2), .inl (.iconst 3, 1), .inl (.iadd, 1), .inl (.iaload, 1), .inl (.aload_n 3, 1), .inl (.invokestatic 233, 3), .inl (.istore 6, 2), .inl (.aload_n 2, 1), .inl (.aload_n 0, 1), .inl (.iload 5, 2), .inl (.iconst 1, 1), .inl (.iadd, 1), .inl (.iaload, 1), .inl (.aload_n 0, 1), .inl (.iload 5, 2), .inl (.iconst 2, 1), .inl (.iadd, 1), .inl (.iaload, 1), .inl (.aload_n 0, 1), .inl (.iload 5, 2), .inl (.iconst 3, 1), .inl (.iadd, 1), .inl (.iaload, 1), .inl (.invokevirtual 235, 3), .inl (.istore 7, 2), .inl (.aload_n 2, 1), .inl (.invokevirtual 141, 3), .inl (.iload 6, 2), .inl (.if_icmp .eq 5, 3), .inl (.iconst 0, 1), .inl (.ireturn, 1)]),
  (1951, [0, 1, 2, 3, 4, 5, 6, 7], [.inl (.iload 6, 2), .inl (.ifCond .ne 15, 3), .inl (.aload_n 3, 1), .inl (.iconst 0, 1), .inl (.laload, 1), .inl (.iload 7, 2), .inl (.i2l, 1), .inl (.lcmp, 1), .inl (.ifCond .eq 5, 3), .inl (.iconst 0, 1), .inl (.ireturn, 1)]),
  (1968, [0, 1, 2, 3, 4, 5], [.inl (.goto 451, 3)]),
  (1971, [0, 1, 2, 3, 4, 5], [.inl (.aload_n 1, 1), .inl (.aload_n 0, 1), .inl (.iload 5, 2), .inl (.iconst 1, 1), .inl (.iadd, 1), .inl (.iaload, 1), .inl (.aload_n 3, 1), .inl (.invokestatic 236, 3), .inl (.istore 6, 2), .inl (.aload_n 2, 1), .inl (.aload_n 0, 1), .inl (.iload 5, 2), .inl (.iconst 1, 1), .inl (.iadd, 1), .inl (.iaload, 1), .inl (.invokevirtual 238, 3), .inl (.istore 7, 2), .inl (.aload_n 2, 1), .inl (.invokevirtual 141, 3), .inl (.iload 6, 2), .inl (.if_icmp .eq 5, 3), .inl (.iconst 0, 1), .inl (.ireturn, 1)]),
  (2007, [0, 1, 2, 3, 4, 5, 6, 7], [.inl (.iload 6, 2), .inl (.ifCond .ne 15, 3), .inl (.aload_n 3, 1), .inl (.iconst 0, 1), .inl (.laload, 1), .inl (.iload 7, 2), .inl (.i2l, 1), .inl (.lcmp, 1), .inl (.ifCond .eq 5, 3), .inl (.iconst 0, 1), .inl (.ireturn, 1)]),
  (2024, [0, 1, 2, 3, 4, 5], [.inl (.goto 395, 3)]),
  (2027, [0, 1, 2, 3, 4, 5], [.inl (.aload_n 1, 1), .inl (.aload_n 0, 1), .inl (.iload 5, 2), .inl (.iconst 1, 1), .inl (.iadd, 1), .inl (.iaload, 1), .inl (.aload_n 3, 1), .inl (.invokestatic 239, 3), .inl (.istore 6, 2), .inl (.aload_n 2, 1), .inl (.aload_n 0, 1), .inl (.iload 5, 2), .inl (.iconst 1, 1), .inl (.iadd, 1), .inl (.iaload, 1), .inl (.invokevirtual 241, 3), .inl (.istore 7, 2), .inl (.aload_n 2, 1), .inl (.invokevirtual 141, 3), .inl (.iload 6, 2), .inl (.if_icmp .eq 5, 3), .inl (.iconst 0, 1), .inl (.ireturn, 1)]),
  (2063, [0, 1, 2, 3, 4, 5, 6, 7], [.inl (.iload 6, 2), .inl (.ifCond .ne 15, 3), .inl (.aload_n 3, 1), .inl (.iconst 0, 1), .inl (.laload, 1), .inl (.iload 7, 2), .inl (.i2l, 1), .inl (.lcmp, 1), .inl (.ifCond .eq 5, 3), .inl (.iconst 0, 1), .inl (.ireturn, 1)]),
  (2080, [0, 1, 2, 3, 4, 5], [.inl (.goto 339, 3)]),
  (2083, [0, 1, 2, 3, 4, 5], [.inl (.aload_n 1, 1), .inl (.aload_n 0, 1), .inl (.iload 5, 2), .inl (.iconst 1, 1), .inl (.iadd, 1), .inl (.iaload, 1), .inl (.aload_n 3, 1), .inl (.invokestatic 242, 3), .inl (.istore 6, 2), .inl (.aload_n 2, 1), .inl (.aload_n 0, 1), .inl (.iload 5, 2), .inl (.iconst 1, 1), .inl (.iadd, 1), .inl (.iaload, 1), .inl (.invokevirtual 244, 3), .inl (.istore 7, 2), .inl (.aload_n 2, 1), .inl (.invokevirtual 141, 3), .inl (.iload 6, 2), .inl (.if_icmp .eq 5, 3), .inl (.iconst 0, 1), .inl (.ireturn, 1)]),
  (2119, [0, 1, 2, 3, 4, 5, 6, 7], [.inl (.iload 6, 2), .inl (.ifCond .ne 15, 3), .inl (.aload_n 3, 1), .inl (.iconst 0, 1), .inl (.laload, 1), .inl (.iload 7, 2), .inl (.i2l, 1), .inl (.lcmp, 1), .inl (.ifCond .eq 5, 3), .inl (.iconst 0, 1), .inl (.ireturn, 1)]),
  (2136, [0, 1, 2, 3, 4, 5], [.inl (.goto 283, 3)]),
  (2139, [0, 1, 2, 3, 4, 5], [.inl (.aload_n 1, 1), .inl (.aload_n 0, 1), .inl (.iload 5, 2), .inl (.iconst 1, 1), .inl (.iadd, 1), .inl (.iaload, 1), .inl (.aload_n 3, 1), .inl (.invokestatic 245, 3), .inl (.istore 6, 2), .inl (.aload_n 2, 1), .inl (.aload_n 0, 1), .inl (.iload 5, 2), .inl (.iconst 1, 1), .inl (.iadd, 1), .inl (.iaload, 1), .inl (.invokevirtual 247, 3), .inl (.istore 7, 2), .inl (.aload_n 2, 1), .inl (.invokevirtual 141, 3), .inl (.iload 6, 2), .inl (.if_icmp .eq 5, 3), .inl (.iconst 0, 1), .inl (.ireturn, 1)]),
  (2175, [0, 1, 2, 3, 4, 5, 6, 7], [.inl (.iload 6, 2), .inl (.ifCond .ne 15, 3), .inl (.aload_n 3, 1), .inl (.iconst 0, 1), .inl (.laload, 1), .inl (.iload 7, 2), .inl (.i2l, 1), .inl (.lcmp, 1), .inl (.ifCond .eq 5, 3), .inl (.iconst 0, 1), .inl (.ireturn, 1)]),
  (2192, [0, 1, 2, 3, 4, 5], [.inl (.goto 227, 3)]),
  (2195, [0, 1, 2, 3, 4, 5], [.inl (.aload_n 1, 1), .inl (.aload_n 0, 1), .inl (.iload 5, 2), .inl (.iconst 1, 1), .inl (.iadd, 1), .inl (.iaload, 1), .inl (.aload_n 0, 1), .inl (.iload 5, 2), .inl (.iconst 2, 1), .inl (.iadd, 1), .inl (.iaload, 1), .inl (.aload_n 3, 1), .inl (.invokestatic 248, 3), .inl (.istore 6, 2), .inl (.aload_n 2, 1), .inl (.aload_n 0, 1), .inl (.iload 5, 2), .inl (.iconst 1, 1), .inl (.iadd, 1), .inl (.iaload, 1), .inl (.aload_n 0, 1), .inl (.iload 5, 2), .inl (.iconst 2, 1), .inl (.iadd, 1), .inl (.iaload, 1), .inl (.invokevirtual 250, 3), .inl (.istore 7, 2), .inl (.aload_n 2, 1), .inl (.invokevirtual 141, 3), .inl (.iload 6, 2), .inl (.if_icmp .eq 5, 3), .inl (.iconst 0, 1), .inl (.ireturn, 1)]),
  (2243, [0, 1, 2, 3, 4, 5, 6, 7], [.inl (.iload 6, 2), .inl (.ifCond .ne 15, 3), .inl (.aload_n 3, 1), .inl (.iconst 0, 1), .inl (.laload, 1), .inl (.iload 7, 2), .inl (.i2l, 1), .inl (.lcmp, 1), .inl (.ifCond .eq 5, 3), .inl (.iconst 0, 1), .inl (.ireturn, 1)]),
  (2260, [0, 1, 2, 3, 4, 5], [.inl (.goto 159, 3)]),
  (2263, [0, 1, 2, 3, 4, 5], [.inl (.aload_n 1, 1), .inl (.aload_n 0, 1), .inl (.iload 5, 2), .inl (.iconst 1, 1), .inl (.iadd, 1), .inl (.iaload, 1), .inl (.aload 4, 2), .inl (.invokestatic 251, 3), .inl (.istore 6, 2), .inl (.aload_n 2, 1), .inl (.aload_n 0, 1), .inl (.iload 5, 2), .inl (.iconst 1, 1), .inl (.iadd, 1), .inl (.iaload, 1), .inl (.invokevirtual 254, 3), .inl (.fstore 7, 2), .inl (.aload_n 2, 1), .inl (.invokevirtual 141, 3), .inl (.iload 6, 2), .inl (.if_icmp .eq 5, 3), .inl (.iconst 0, 1), .inl (.ireturn, 1)]),
  (2300, [0, 1, 2, 3, 4, 5, 6, 7], [.inl (.iload 6, 2), .inl (.ifCond .ne 36, 3), .inl (.aload 4, 2), .inl (.iconst 0, 1), .inl (.daload, 1), .inl (.fload 7, 2), .inl (.f2d, 1), .inl (.dcmp .l, 1), .inl (.ifCond .eq 25, 3), .inl (.aload 4, 2), .inl (.iconst 0, 1), .inl (.daload, 1), .inl (.aload 4, 2), .inl (.iconst 0, 1), .inl (.daload, 1), .inl (.dcmp .l, 1), .inl (.ifCond .eq 11, 3), .inl (.fload 7, 2), .inl (.fload 7, 2), .inl (.fcmp .l, 1), .inl (.ifCond .ne 5, 3)]),
  (2336, [], [.inl (.iconst 0, 1), .inl (.ireturn, 1)]),
  (2338, [0, 1, 2, 3, 4, 5], [.inl (.goto 81, 3)]),
  (2341, [0, 1, 2, 3, 4, 5], [.inl (.aload_n 1, 1), .inl (.aload 4, 2), .inl (.invokestatic 255, 3), .inl (.istore 6, 2), .inl (.aload_n 2, 1), .inl (.invokevirtual 258, 3), .inl (.dstore 7, 2), .inl (.aload_n 2, 1), .inl (.invokevirtual 141, 3), .inl (.iload 6, 2), .inl (.if_icmp .eq 5, 3), .inl (.iconst 0, 1), .inl (.ireturn, 1)]),
  (2366, [0, 1, 2, 3, 4, 5, 6, 7], [.inl (.iload 6, 2), .inl (.ifCond .ne 35, 3), .inl (.aload 4, 2), .inl (.iconst 0, 1), .inl (.daload, 1), .inl (.dload 7, 2), .inl (.dcmp .l, 1), .inl (.ifCond .eq 25, 3), .inl (.aload 4, 2), .inl (.iconst 0, 1), .inl (.daload, 1), .inl (.aload 4, 2), .inl (.iconst 0, 1), .inl (.daload, 1), .inl (.dcmp .l, 1), .inl (.ifCond .eq 11, 3), .inl (.dload 7, 2), .inl (.dload 7, 2), .inl (.dcmp .l, 1), .inl (.ifCond .ne 5, 3)]),
  (2401, [], [.inl (.iconst 0, 1), .inl (.ireturn, 1)]),
  (2403, [0, 1, 2, 3, 4, 5], [.inl (.goto 16, 3)]),
  (2406, [0, 1, 2, 3, 4, 5], [.inl (.aload_n 1, 1), .inl (.invokevirtual 259, 3), .inl (.aload_n 2, 1), .inl (.invokevirtual 263, 3), .inl (.if_icmp .eq 5, 3), .inl (.iconst 0, 1), .inl (.ireturn, 1)]),
  (2419, [0, 1, 2, 3, 4, 5], [.inl (.iinc 5 5, 3), .inl (.goto (-2394), 3)]),
  (2425, [], [.inl (.iconst 1, 1), .inl (.ireturn, 1)])]
def sLL_ : List (Nat × Nat × Nat × Nat × Nat) := [(201, 3, 1, 6, 99), (202, 3, 1, 6, 99), (203, 3, 1, 6, 99), (204, 2, 8, 1094, 99), (205, 5, 4, 24, 99), (206, 5, 5, 30, 99), (207, 4, 3, 18, 99), (208, 4, 2, 12, 99), (209, 3, 2, 12, 99), (210, 6, 3, 18, 99), (211, 3, 2, 12, 99), (212, 4, 2, 12, 99), (213, 3, 5, 84, 99), (214, 4, 3, 18, 99), (215, 5, 7, 98, 99), (216, 5, 5, 30, 99), (217, 4, 4, 24, 99), (218, 3, 2, 12, 99), (219, 3, 3, 18, 99), (220, 3, 1, 6, 99), (221, 4, 2, 12, 99), (222, 3, 2, 12, 99), (223, 5, 4, 24, 99), (224, 4, 3, 18, 99), (225, 3, 1, 6, 99), (226, 5, 2, 12, 99), (227, 3, 1, 6, 99), (228, 3, 1, 6, 99), (229, 3, 1, 6, 99), (230, 3, 1, 6, 99), (231, 4, 3, 18, 99), (232, 3, 2, 12, 99), (233, 2, 1, 6, 99)]
def sgL_ : mSig := fun y => match lookC sLL_ y with
  | some z => z
  | none => sg_ y
def wL_ : List (Nat × mMeth × mCode × mHd) := [(201, q_201, k_201, hd_201), (202, q_202, k_202, hd_202), (203, q_203, k_203, hd_203), (204, q_204, k_204, hd_204), (205, q_205, k_205, hd_205), (206, q_206, k_206, hd_206), (207, q_207, k_207, hd_207), (208, q_208, k_208, hd_208), (209, q_209, k_209, hd_209), (210, q_210, k_210, hd_210), (211, q_211, k_211, hd_211), (212, q_212, k_212, hd_212), (213, q_213, k_213, hd_213), (214, q_214, k_214, hd_214), (215, q_215, k_215, hd_215), (216, q_216, k_216, hd_216), (217, q_217, k_217, hd_217), (218, q_218, k_218, hd_218), (219, q_219, k_219, hd_219), (220, q_220, k_220, hd_220), (221, q_221, k_221, hd_221), (222, q_222, k_222, hd_222), (223, q_223, k_223, hd_223), (224, q_224, k_224, hd_224), (225, q_225, k_225, hd_225), (226, q_226, k_226, hd_226), (227, q_227, k_227, hd_227), (228, q_228, k_228, hd_228), (229, q_229, k_229, hd_229), (230, q_230, k_230, hd_230), (231, q_231, k_231, hd_231), (232, q_232, k_232, hd_232), (233, q_233, k_233, hd_233)]
/-- where the switch goes -/
def lsw (c : Nat) : Nat := ([208, 264, 277, 333, 389, 433, 513, 593, 661, 729, 785, 877, 933, 1008, 1064, 1132, 1212, 1292, 1360, 1416, 1472, 1485, 1541, 1609, 1672, 1752, 1820, 1833, 1891, 1971, 2027, 2083, 2139, 2195, 2263, 2341, 2406] : List Nat).getD c 2419
section LRuns_
variable {P : mPool} {rt : Nat} {sg : mSig} {C : mCall} {J : mK} {K : mK} {X : Nat → Nat → mLs → Nat × Nat → mS → Prop} {post : mO → mS → Prop} {pc : Nat} {ls : mLs} {r : List mV} {rem : Nat × Nat} {st : mS} {nx : mLs → List mV → Nat × Nat → mS → Prop} {l : List mI}
theorem a_201_0 {C : mCall} {K : mK} : matH P_RL 0 sg_ k_201 hd_201 C K post 0 ls r rem st = mblk P_RL 0 sg_ C (mjmp k_201 K) (mexcH hd_201 K post k_201) post [.inl (.aload_n 2, 1), .inl (.iconst 0, 1), .inl (.aload_n 0, 1), .inl (.iload_n 1, 1), .inl (.invokevirtual 7, 3), .inl (.i2l, 1), .inl (.lastore, 1), .inl (.goto 9, 3)] 0 ls r rem st := (rfl)
theorem j_201_0 : mjmp k_201 K 0 ls r rem st = K 0 (mproj [0, 1, 2] ls) r rem st := (rfl)
theorem vl_7 {a1 : mV} {i : Nat} : mstep P_RL rt sg_ C J X post (.invokevirtual 7) pc ls (a1 :: mr 0 i :: r) rem st nx = cond (mroom r) (1 ≤ rem.1 ∧ 6 ≤ rem.2 ∧ C 113 [mr 0 i, a1] st (mck X pc ls r (rem.1 - 1, rem.2 - 6) nx)) False := (rfl)
theorem lg_9_9 : mstep P rt sg C J X post (.goto 9) 9 ls r rem st nx = J 18 ls r rem st := e_goto rfl
theorem a_201_12 {C : mCall} {K : mK} : matH P_RL 0 sg_ k_201 hd_201 C K post 12 ls r rem st = mblk P_RL 0 sg_ C (mjmp k_201 K) (mexcH hd_201 K post k_201) post [.inl (.astore_n 3, 1), .inl (.iconst 1, 1), .inl (.ireturn, 1)] 12 ls r rem st := (rfl)
theorem j_201_12 : mjmp k_201 K 12 ls r rem st = K 12 (mproj [] ls) r rem st := (rfl)
theorem a_201_15 {C : mCall} {K : mK} : matH P_RL 0 sg_ k_201 hd_201 C K post 15 ls r rem st = mblk P_RL 0 sg_ C (mjmp k_201 K) (mexcH hd_201 K post k_201) post [.inl (.astore_n 3, 1), .inl (.iconst 2, 1), .inl (.ireturn, 1)] 15 ls r rem st := (rfl)
theorem j_201_15 : mjmp k_201 K 15 ls r rem st = K 15 (mproj [] ls) r rem st := (rfl)
theorem a_201_18 {C : mCall} {K : mK} : matH P_RL 0 sg_ k_201 hd_201 C K post 18 ls r rem st = mblk P_RL 0 sg_ C (mjmp k_201 K) (mexcH hd_201 K post k_201) post [.inl (.iconst 0, 1), .inl (.ireturn, 1)] 18 ls r rem st := (rfl)
theorem j_201_18 : mjmp k_201 K 18 ls r rem st = K 18 (mproj [] ls) r rem st := (rfl)
theorem x_201_1 : mexcH hd_201 K post k_201 1 4 ls rem st = ((1 ≤ 1 ∧ 1 ≤ 6) ∧ ∀ q : Nat, mjmp k_201 K 12 ls [mr 99 q] rem st) := (rfl)
theorem x_201_2 : mexcH hd_201 K post k_201 2 4 ls rem st = ((1 ≤ 2 ∧ 2 ≤ 6) ∧ ∀ q : Nat, mjmp k_201 K 15 ls [mr 99 q] rem st) := (rfl)
theorem a_202_0 {C : mCall} {K : mK} : matH P_RL 0 sg_ k_202 hd_202 C K post 0 ls r rem st = mblk P_RL 0 sg_ C (mjmp k_202 K) (mexcH hd_202 K post k_202) post [.inl (.aload_n 2, 1), .inl (.iconst 0, 1), .inl (.aload_n 0, 1), .inl (.iload_n 1, 1), .inl (.invokevirtual 17, 3), .inl (.i2l, 1), .inl (.lastore, 1), .inl (.goto 6, 3)] 0 ls r rem st := (rfl)
theorem j_202_0 : mjmp k_202 K 0 ls r rem st = K 0 (mproj [0, 1, 2] ls) r rem st := (rfl)
theorem vl_17 {a1 : mV} {i : Nat} : mstep P_RL rt sg_ C J X post (.invokevirtual 17) pc ls (a1 :: mr 0 i :: r) rem st nx = cond (mroom r) (1 ≤ rem.1 ∧ 6 ≤ rem.2 ∧ C 115 [mr 0 i, a1] st (mck X pc ls r (rem.1 - 1, rem.2 - 6) nx)) False := (rfl)
theorem lg_9_6 : mstep P rt sg C J X post (.goto 6) 9 ls r rem st nx = J 15 ls r rem st := e_goto rfl
theorem a_202_12 {C : mCall} {K : mK} : matH P_RL 0 sg_ k_202 hd_202 C K post 12 ls r rem st = mblk P_RL 0 sg_ C (mjmp k_202 K) (mexcH hd_202 K post k_202) post [.inl (.astore_n 3, 1), .inl (.iconst 1, 1), .inl (.ireturn, 1)] 12 ls r rem st := (rfl)
theorem j_202_12 : mjmp k_202 K 12 ls r rem st = K 12 (mproj [] ls) r rem st := (rfl)
theorem a_202_15 {C : mCall} {K : mK} : matH P_RL 0 sg_ k_202 hd_202 C K post 15 ls r rem st = mblk P_RL 0 sg_ C (mjmp k_202 K) (mexcH hd_202 K post k_202) post [.inl (.iconst 0, 1), .inl (.ireturn, 1)] 15 ls r rem st := (rfl)
theorem j_202_15 : mjmp k_202 K 15 ls r rem st = K 15 (mproj [] ls) r rem st := (rfl)
theorem x_202_1 : mexcH hd_202 K post k_202 1 4 ls rem st = ((1 ≤ 1 ∧ 1 ≤ 6) ∧ ∀ q : Nat, mjmp k_202 K 12 ls [mr 99 q] rem st) := (rfl)
theorem a_203_0 {C : mCall} {K : mK} : matH P_RL 0 sg_ k_203 hd_203 C K post 0 ls r rem st = mblk P_RL 0 sg_ C (mjmp k_203 K) (mexcH hd_203 K post k_203) post [.inl (.aload_n 2, 1), .inl (.iconst 0, 1), .inl (.aload_n 0, 1), .inl (.iload_n 1, 1), .inl (.invokevirtual 20, 3), .inl (.i2l, 1), .inl (.lastore, 1), .inl (.goto 6, 3)] 0 ls r rem st := (rfl)
theorem j_203_0 : mjmp k_203 K 0 ls r rem st = K 0 (mproj [0, 1, 2] ls) r rem st := (rfl)
theorem vl_20 {a1 : mV} {i : Nat} : mstep P_RL rt sg_ C J X post (.invokevirtual 20) pc ls (a1 :: mr 0 i :: r) rem st nx = cond (mroom r) (1 ≤ rem.1 ∧ 6 ≤ rem.2 ∧ C 116 [mr 0 i, a1] st (mck X pc ls r (rem.1 - 1, rem.2 - 6) nx)) False := (rfl)
theorem a_203_12 {C : mCall} {K : mK} : matH P_RL 0 sg_ k_203 hd_203 C K post 12 ls r rem st = mblk P_RL 0 sg_ C (mjmp k_203 K) (mexcH hd_203 K post k_203) post [.inl (.astore_n 3, 1), .inl (.iconst 1, 1), .inl (.ireturn, 1)] 12 ls r rem st := (rfl)
theorem j_203_12 : mjmp k_203 K 12 ls r rem st = K 12 (mproj [] ls) r rem st := (rfl)
theorem a_203_15 {C : mCall} {K : mK} : matH P_RL 0 sg_ k_203 hd_203 C K post 15 ls r rem st = mblk P_RL 0 sg_ C (mjmp k_203 K) (mexcH hd_203 K post k_203) post [.inl (.iconst 0, 1), .inl (.ireturn, 1)] 15 ls r rem st := (rfl)
theorem j_203_15 : mjmp k_203 K 15 ls r rem st = K 15 (mproj [] ls) r rem st := (rfl)
theorem x_203_1 : mexcH hd_203 K post k_203 1 4 ls rem st = ((1 ≤ 1 ∧ 1 ≤ 6) ∧ ∀ q : Nat, mjmp k_203 K 12 ls [mr 99 q] rem st) := (rfl)
theorem a_204_0 {C : mCall} {K : mK} : matH P_RL 0 sg_ k_204 hd_204 C K post 0 ls r rem st = mblk P_RL 0 sg_ C (mjmp k_204 K) (mexcH hd_204 K post k_204) post [.inl (.aload_n 1, 1), .inl (.iconst 0, 1), .inl (.aload_n 0, 1), .inl (.invokevirtual 23, 3), .inl (.i2l, 1), .inl (.lastore, 1), .inl (.goto 6, 3)] 0 ls r rem st := (rfl)
theorem j_204_0 : mjmp k_204 K 0 ls r rem st = K 0 (mproj [0, 1] ls) r rem st := (rfl)
theorem vl_23 {i : Nat} : mstep P_RL rt sg_ C J X post (.invokevirtual 23) pc ls (mr 0 i :: r) rem st nx = cond (mroom r) (8 ≤ rem.1 ∧ 1094 ≤ rem.2 ∧ C 120 [mr 0 i] st (mck X pc ls r (rem.1 - 8, rem.2 - 1094) nx)) False := (rfl)
theorem lg_8_6 : mstep P rt sg C J X post (.goto 6) 8 ls r rem st nx = J 14 ls r rem st := e_goto rfl
theorem a_204_11 {C : mCall} {K : mK} : matH P_RL 0 sg_ k_204 hd_204 C K post 11 ls r rem st = mblk P_RL 0 sg_ C (mjmp k_204 K) (mexcH hd_204 K post k_204) post [.inl (.astore_n 2, 1), .inl (.iconst 1, 1), .inl (.ireturn, 1)] 11 ls r rem st := (rfl)
theorem j_204_11 : mjmp k_204 K 11 ls r rem st = K 11 (mproj [] ls) r rem st := (rfl)
theorem a_204_14 {C : mCall} {K : mK} : matH P_RL 0 sg_ k_204 hd_204 C K post 14 ls r rem st = mblk P_RL 0 sg_ C (mjmp k_204 K) (mexcH hd_204 K post k_204) post [.inl (.iconst 0, 1), .inl (.ireturn, 1)] 14 ls r rem st := (rfl)
theorem j_204_14 : mjmp k_204 K 14 ls r rem st = K 14 (mproj [] ls) r rem st := (rfl)
theorem x_204_2 : mexcH hd_204 K post k_204 2 3 ls rem st = ((1 ≤ 2 ∧ 2 ≤ 6) ∧ ∀ q : Nat, mjmp k_204 K 11 ls [mr 99 q] rem st) := (rfl)
theorem a_205_0 {C : mCall} {K : mK} : matH P_RL 0 sg_ k_205 hd_205 C K post 0 ls r rem st = mblk P_RL 0 sg_ C (mjmp k_205 K) (mexcH hd_205 K post k_205) post [.inl (.aload 4, 2), .inl (.iconst 0, 1), .inl (.aload_n 0, 1), .inl (.iload_n 1, 1), .inl (.iload_n 2, 1), .inl (.iload_n 3, 1), .inl (.invokevirtual 27, 3), .inl (.i2l, 1), .inl (.lastore, 1), .inl (.goto 15, 3)] 0 ls r rem st := (rfl)
theorem j_205_0 : mjmp k_205 K 0 ls r rem st = K 0 (mproj [0, 1, 2, 3, 4] ls) r rem st := (rfl)
theorem vl_27 {a1 a2 a3 : mV} {i : Nat} : mstep P_RL rt sg_ C J X post (.invokevirtual 27) pc ls (a3 :: a2 :: a1 :: mr 0 i :: r) rem st nx = cond (mroom r) (4 ≤ rem.1 ∧ 24 ≤ rem.2 ∧ C 121 [mr 0 i, a1, a2, a3] st (mck X pc ls r (rem.1 - 4, rem.2 - 24) nx)) False := (rfl)
theorem lg_12_15 : mstep P rt sg C J X post (.goto 15) 12 ls r rem st nx = J 27 ls r rem st := e_goto rfl
theorem a_205_15 {C : mCall} {K : mK} : matH P_RL 0 sg_ k_205 hd_205 C K post 15 ls r rem st = mblk P_RL 0 sg_ C (mjmp k_205 K) (mexcH hd_205 K post k_205) post [.inl (.astore 5, 2), .inl (.iconst 1, 1), .inl (.ireturn, 1)] 15 ls r rem st := (rfl)
theorem j_205_15 : mjmp k_205 K 15 ls r rem st = K 15 (mproj [] ls) r rem st := (rfl)
theorem a_205_19 {C : mCall} {K : mK} : matH P_RL 0 sg_ k_205 hd_205 C K post 19 ls r rem st = mblk P_RL 0 sg_ C (mjmp k_205 K) (mexcH hd_205 K post k_205) post [.inl (.astore 5, 2), .inl (.iconst 2, 1), .inl (.ireturn, 1)] 19 ls r rem st := (rfl)
theorem j_205_19 : mjmp k_205 K 19 ls r rem st = K 19 (mproj [] ls) r rem st := (rfl)
theorem a_205_23 {C : mCall} {K : mK} : matH P_RL 0 sg_ k_205 hd_205 C K post 23 ls r rem st = mblk P_RL 0 sg_ C (mjmp k_205 K) (mexcH hd_205 K post k_205) post [.inl (.astore 5, 2), .inl (.iconst 3, 1), .inl (.ireturn, 1)] 23 ls r rem st := (rfl)
theorem j_205_23 : mjmp k_205 K 23 ls r rem st = K 23 (mproj [] ls) r rem st := (rfl)
theorem a_205_27 {C : mCall} {K : mK} : matH P_RL 0 sg_ k_205 hd_205 C K post 27 ls r rem st = mblk P_RL 0 sg_ C (mjmp k_205 K) (mexcH hd_205 K post k_205) post [.inl (.iconst 0, 1), .inl (.ireturn, 1)] 27 ls r rem st := (rfl)
theorem j_205_27 : mjmp k_205 K 27 ls r rem st = K 27 (mproj [] ls) r rem st := (rfl)
theorem x_205_3 : mexcH hd_205 K post k_205 3 7 ls rem st = ((1 ≤ 3 ∧ 3 ≤ 6) ∧ ∀ q : Nat, mjmp k_205 K 15 ls [mr 99 q] rem st) := (rfl)
theorem x_205_1 : mexcH hd_205 K post k_205 1 7 ls rem st = ((1 ≤ 1 ∧ 1 ≤ 6) ∧ ∀ q : Nat, mjmp k_205 K 19 ls [mr 99 q] rem st) := (rfl)
theorem x_205_2 : mexcH hd_205 K post k_205 2 7 ls rem st = ((1 ≤ 2 ∧ 2 ≤ 6) ∧ ∀ q : Nat, mjmp k_205 K 23 ls [mr 99 q] rem st) := (rfl)
theorem a_206_0 {C : mCall} {K : mK} : matH P_RL 0 sg_ k_206 hd_206 C K post 0 ls r rem st = mblk P_RL 0 sg_ C (mjmp k_206 K) (mexcH hd_206 K post k_206) post [.inl (.aload 4, 2), .inl (.iconst 0, 1), .inl (.aload_n 0, 1), .inl (.iload_n 1, 1), .inl (.iload_n 2, 1), .inl (.iload_n 3, 1), .inl (.invokevirtual 33, 3), .inl (.i2l, 1), .inl (.lastore, 1), .inl (.goto 19, 3)] 0 ls r rem st := (rfl)
theorem j_206_0 : mjmp k_206 K 0 ls r rem st = K 0 (mproj [0, 1, 2, 3, 4] ls) r rem st := (rfl)
theorem vl_33 {a1 a2 a3 : mV} {i : Nat} : mstep P_RL rt sg_ C J X post (.invokevirtual 33) pc ls (a3 :: a2 :: a1 :: mr 0 i :: r) rem st nx = cond (mroom r) (5 ≤ rem.1 ∧ 30 ≤ rem.2 ∧ C 122 [mr 0 i, a1, a2, a3] st (mck X pc ls r (rem.1 - 5, rem.2 - 30) nx)) False := (rfl)
theorem lg_12_19 : mstep P rt sg C J X post (.goto 19) 12 ls r rem st nx = J 31 ls r rem st := e_goto rfl
theorem a_206_15 {C : mCall} {K : mK} : matH P_RL 0 sg_ k_206 hd_206 C K post 15 ls r rem st = mblk P_RL 0 sg_ C (mjmp k_206 K) (mexcH hd_206 K post k_206) post [.inl (.astore 5, 2), .inl (.iconst 1, 1), .inl (.ireturn, 1)] 15 ls r rem st := (rfl)
theorem j_206_15 : mjmp k_206 K 15 ls r rem st = K 15 (mproj [] ls) r rem st := (rfl)
theorem a_206_19 {C : mCall} {K : mK} : matH P_RL 0 sg_ k_206 hd_206 C K post 19 ls r rem st = mblk P_RL 0 sg_ C (mjmp k_206 K) (mexcH hd_206 K post k_206) post [.inl (.astore 5, 2), .inl (.iconst 2, 1), .inl (.ireturn, 1)] 19 ls r rem st := (rfl)
theorem j_206_19 : mjmp k_206 K 19 ls r rem st = K 19 (mproj [] ls) r rem st := (rfl)
theorem a_206_23 {C : mCall} {K : mK} : matH P_RL 0 sg_ k_206 hd_206 C K post 23 ls r rem st = mblk P_RL 0 sg_ C (mjmp k_206 K) (mexcH hd_206 K post k_206) post [.inl (.astore 5, 2), .inl (.iconst 3, 1), .inl (.ireturn, 1)] 23 ls r rem st := (rfl)
theorem j_206_23 : mjmp k_206 K 23 ls r rem st = K 23 (mproj [] ls) r rem st := (rfl)
theorem a_206_27 {C : mCall} {K : mK} : matH P_RL 0 sg_ k_206 hd_206 C K post 27 ls r rem st = mblk P_RL 0 sg_ C (mjmp k_206 K) (mexcH hd_206 K post k_206) post [.inl (.astore 5, 2), .inl (.iconst 4, 1), .inl (.ireturn, 1)] 27 ls r rem st := (rfl)
theorem j_206_27 : mjmp k_206 K 27 ls r rem st = K 27 (mproj [] ls) r rem st := (rfl)
theorem a_206_31 {C : mCall} {K : mK} : matH P_RL 0 sg_ k_206 hd_206 C K post 31 ls r rem st = mblk P_RL 0 sg_ C (mjmp k_206 K) (mexcH hd_206 K post k_206) post [.inl (.iconst 0, 1), .inl (.ireturn, 1)] 31 ls r rem st := (rfl)
theorem j_206_31 : mjmp k_206 K 31 ls r rem st = K 31 (mproj [] ls) r rem st := (rfl)
theorem x_206_3 : mexcH hd_206 K post k_206 3 7 ls rem st = ((1 ≤ 3 ∧ 3 ≤ 6) ∧ ∀ q : Nat, mjmp k_206 K 15 ls [mr 99 q] rem st) := (rfl)
theorem x_206_1 : mexcH hd_206 K post k_206 1 7 ls rem st = ((1 ≤ 1 ∧ 1 ≤ 6) ∧ ∀ q : Nat, mjmp k_206 K 19 ls [mr 99 q] rem st) := (rfl)
theorem x_206_4 : mexcH hd_206 K post k_206 4 7 ls rem st = ((1 ≤ 4 ∧ 4 ≤ 6) ∧ ∀ q : Nat, mjmp k_206 K 23 ls [mr 99 q] rem st) := (rfl)
theorem x_206_2 : mexcH hd_206 K post k_206 2 7 ls rem st = ((1 ≤ 2 ∧ 2 ≤ 6) ∧ ∀ q : Nat, mjmp k_206 K 27 ls [mr 99 q] rem st) := (rfl)
theorem a_207_0 {C : mCall} {K : mK} : matH P_RL 0 sg_ k_207 hd_207 C K post 0 ls r rem st = mblk P_RL 0 sg_ C (mjmp k_207 K) (mexcH hd_207 K post k_207) post [.inl (.aload_n 3, 1), .inl (.iconst 0, 1), .inl (.aload_n 0, 1), .inl (.iload_n 1, 1), .inl (.iload_n 2, 1), .inl (.invokevirtual 38, 3), .inl (.i2l, 1), .inl (.lastore, 1), .inl (.goto 15, 3)] 0 ls r rem st := (rfl)
theorem j_207_0 : mjmp k_207 K 0 ls r rem st = K 0 (mproj [0, 1, 2, 3] ls) r rem st := (rfl)
theorem vl_38 {a1 a2 : mV} {i : Nat} : mstep P_RL rt sg_ C J X post (.invokevirtual 38) pc ls (a2 :: a1 :: mr 0 i :: r) rem st nx = cond (mroom r) (3 ≤ rem.1 ∧ 18 ≤ rem.2 ∧ C 123 [mr 0 i, a1, a2] st (mck X pc ls r (rem.1 - 3, rem.2 - 18) nx)) False := (rfl)
theorem lg_10_15 : mstep P rt sg C J X post (.goto 15) 10 ls r rem st nx = J 25 ls r rem st := e_goto rfl
theorem a_207_13 {C : mCall} {K : mK} : matH P_RL 0 sg_ k_207 hd_207 C K post 13 ls r rem st = mblk P_RL 0 sg_ C (mjmp k_207 K) (mexcH hd_207 K post k_207) post [.inl (.astore 4, 2), .inl (.iconst 1, 1), .inl (.ireturn, 1)] 13 ls r rem st := (rfl)
theorem j_207_13 : mjmp k_207 K 13 ls r rem st = K 13 (mproj [] ls) r rem st := (rfl)
theorem a_207_17 {C : mCall} {K : mK} : matH P_RL 0 sg_ k_207 hd_207 C K post 17 ls r rem st = mblk P_RL 0 sg_ C (mjmp k_207 K) (mexcH hd_207 K post k_207) post [.inl (.astore 4, 2), .inl (.iconst 2, 1), .inl (.ireturn, 1)] 17 ls r rem st := (rfl)
theorem j_207_17 : mjmp k_207 K 17 ls r rem st = K 17 (mproj [] ls) r rem st := (rfl)
theorem a_207_21 {C : mCall} {K : mK} : matH P_RL 0 sg_ k_207 hd_207 C K post 21 ls r rem st = mblk P_RL 0 sg_ C (mjmp k_207 K) (mexcH hd_207 K post k_207) post [.inl (.astore 4, 2), .inl (.iconst 3, 1), .inl (.ireturn, 1)] 21 ls r rem st := (rfl)
theorem j_207_21 : mjmp k_207 K 21 ls r rem st = K 21 (mproj [] ls) r rem st := (rfl)
theorem a_207_25 {C : mCall} {K : mK} : matH P_RL 0 sg_ k_207 hd_207 C K post 25 ls r rem st = mblk P_RL 0 sg_ C (mjmp k_207 K) (mexcH hd_207 K post k_207) post [.inl (.iconst 0, 1), .inl (.ireturn, 1)] 25 ls r rem st := (rfl)
theorem j_207_25 : mjmp k_207 K 25 ls r rem st = K 25 (mproj [] ls) r rem st := (rfl)
theorem x_207_3 : mexcH hd_207 K post k_207 3 5 ls rem st = ((1 ≤ 3 ∧ 3 ≤ 6) ∧ ∀ q : Nat, mjmp k_207 K 13 ls [mr 99 q] rem st) := (rfl)
theorem x_207_1 : mexcH hd_207 K post k_207 1 5 ls rem st = ((1 ≤ 1 ∧ 1 ≤ 6) ∧ ∀ q : Nat, mjmp k_207 K 17 ls [mr 99 q] rem st) := (rfl)
theorem x_207_4 : mexcH hd_207 K post k_207 4 5 ls rem st = ((1 ≤ 4 ∧ 4 ≤ 6) ∧ ∀ q : Nat, mjmp k_207 K 21 ls [mr 99 q] rem st) := (rfl)
theorem a_208_0 {C : mCall} {K : mK} : matH P_RL 0 sg_ k_208 hd_208 C K post 0 ls r rem st = mblk P_RL 0 sg_ C (mjmp k_208 K) (mexcH hd_208 K post k_208) post [.inl (.aload_n 3, 1), .inl (.iconst 0, 1), .inl (.aload_n 0, 1), .inl (.iload_n 1, 1), .inl (.iload_n 2, 1), .inl (.invokevirtual 42, 3), .inl (.i2l, 1), .inl (.lastore, 1), .inl (.goto 11, 3)] 0 ls r rem st := (rfl)
theorem j_208_0 : mjmp k_208 K 0 ls r rem st = K 0 (mproj [0, 1, 2, 3] ls) r rem st := (rfl)
theorem vl_42 {a1 a2 : mV} {i : Nat} : mstep P_RL rt sg_ C J X post (.invokevirtual 42) pc ls (a2 :: a1 :: mr 0 i :: r) rem st nx = cond (mroom r) (2 ≤ rem.1 ∧ 12 ≤ rem.2 ∧ C 124 [mr 0 i, a1, a2] st (mck X pc ls r (rem.1 - 2, rem.2 - 12) nx)) False := (rfl)
theorem lg_10_11 : mstep P rt sg C J X post (.goto 11) 10 ls r rem st nx = J 21 ls r rem st := e_goto rfl
theorem a_208_13 {C : mCall} {K : mK} : matH P_RL 0 sg_ k_208 hd_208 C K post 13 ls r rem st = mblk P_RL 0 sg_ C (mjmp k_208 K) (mexcH hd_208 K post k_208) post [.inl (.astore 4, 2), .inl (.iconst 1, 1), .inl (.ireturn, 1)] 13 ls r rem st := (rfl)
theorem j_208_13 : mjmp k_208 K 13 ls r rem st = K 13 (mproj [] ls) r rem st := (rfl)
theorem a_208_17 {C : mCall} {K : mK} : matH P_RL 0 sg_ k_208 hd_208 C K post 17 ls r rem st = mblk P_RL 0 sg_ C (mjmp k_208 K) (mexcH hd_208 K post k_208) post [.inl (.astore 4, 2), .inl (.iconst 2, 1), .inl (.ireturn, 1)] 17 ls r rem st := (rfl)
theorem j_208_17 : mjmp k_208 K 17 ls r rem st = K 17 (mproj [] ls) r rem st := (rfl)
theorem a_208_21 {C : mCall} {K : mK} : matH P_RL 0 sg_ k_208 hd_208 C K post 21 ls r rem st = mblk P_RL 0 sg_ C (mjmp k_208 K) (mexcH hd_208 K post k_208) post [.inl (.iconst 0, 1), .inl (.ireturn, 1)] 21 ls r rem st := (rfl)
theorem j_208_21 : mjmp k_208 K 21 ls r rem st = K 21 (mproj [] ls) r rem st := (rfl)
theorem x_208_3 : mexcH hd_208 K post k_208 3 5 ls rem st = ((1 ≤ 3 ∧ 3 ≤ 6) ∧ ∀ q : Nat, mjmp k_208 K 13 ls [mr 99 q] rem st) := (rfl)
theorem x_208_1 : mexcH hd_208 K post k_208 1 5 ls rem st = ((1 ≤ 1 ∧ 1 ≤ 6) ∧ ∀ q : Nat, mjmp k_208 K 17 ls [mr 99 q] rem st) := (rfl)
theorem a_209_0 {C : mCall} {K : mK} : matH P_RL 0 sg_ k_209 hd_209 C K post 0 ls r rem st = mblk P_RL 0 sg_ C (mjmp k_209 K) (mexcH hd_209 K post k_209) post [.inl (.aload_n 2, 1), .inl (.iconst 0, 1), .inl (.aload_n 0, 1), .inl (.iload_n 1, 1), .inl (.invokevirtual 45, 3), .inl (.i2l, 1), .inl (.lastore, 1), .inl (.goto 9, 3)] 0 ls r rem st := (rfl)
theorem j_209_0 : mjmp k_209 K 0 ls r rem st = K 0 (mproj [0, 1, 2] ls) r rem st := (rfl)
theorem vl_45 {a1 : mV} {i : Nat} : mstep P_RL rt sg_ C J X post (.invokevirtual 45) pc ls (a1 :: mr 0 i :: r) rem st nx = cond (mroom r) (2 ≤ rem.1 ∧ 12 ≤ rem.2 ∧ C 125 [mr 0 i, a1] st (mck X pc ls r (rem.1 - 2, rem.2 - 12) nx)) False := (rfl)
theorem a_209_12 {C : mCall} {K : mK} : matH P_RL 0 sg_ k_209 hd_209 C K post 12 ls r rem st = mblk P_RL 0 sg_ C (mjmp k_209 K) (mexcH hd_209 K post k_209) post [.inl (.astore_n 3, 1), .inl (.iconst 1, 1), .inl (.ireturn, 1)] 12 ls r rem st := (rfl)
theorem j_209_12 : mjmp k_209 K 12 ls r rem st = K 12 (mproj [] ls) r rem st := (rfl)
theorem a_209_15 {C : mCall} {K : mK} : matH P_RL 0 sg_ k_209 hd_209 C K post 15 ls r rem st = mblk P_RL 0 sg_ C (mjmp k_209 K) (mexcH hd_209 K post k_209) post [.inl (.astore_n 3, 1), .inl (.iconst 2, 1), .inl (.ireturn, 1)] 15 ls r rem st := (rfl)
theorem j_209_15 : mjmp k_209 K 15 ls r rem st = K 15 (mproj [] ls) r rem st := (rfl)
theorem a_209_18 {C : mCall} {K : mK} : matH P_RL 0 sg_ k_209 hd_209 C K post 18 ls r rem st = mblk P_RL 0 sg_ C (mjmp k_209 K) (mexcH hd_209 K post k_209) post [.inl (.iconst 0, 1), .inl (.ireturn, 1)] 18 ls r rem st := (rfl)
theorem j_209_18 : mjmp k_209 K 18 ls r rem st = K 18 (mproj [] ls) r rem st := (rfl)
theorem x_209_3 : mexcH hd_209 K post k_209 3 4 ls rem st = ((1 ≤ 3 ∧ 3 ≤ 6) ∧ ∀ q : Nat, mjmp k_209 K 12 ls [mr 99 q] rem st) := (rfl)
theorem x_209_2 : mexcH hd_209 K post k_209 2 4 ls rem st = ((1 ≤ 2 ∧ 2 ≤ 6) ∧ ∀ q : Nat, mjmp k_209 K 15 ls [mr 99 q] rem st) := (rfl)
theorem a_210_0 {C : mCall} {K : mK} : matH P_RL 0 sg_ k_210 hd_210 C K post 0 ls r rem st = mblk P_RL 0 sg_ C (mjmp k_210 K) (mexcH hd_210 K post k_210) post [.inl (.aload 5, 2), .inl (.iconst 0, 1), .inl (.aload_n 0, 1), .inl (.iload_n 1, 1), .inl (.iload_n 2, 1), .inl (.iload_n 3, 1), .inl (.iload 4, 2), .inl (.invokevirtual 48, 3), .inl (.i2l, 1), .inl (.lastore, 1), .inl (.goto 15, 3)] 0 ls r rem st := (rfl)
theorem j_210_0 : mjmp k_210 K 0 ls r rem st = K 0 (mproj [0, 1, 2, 3, 4, 5] ls) r rem st := (rfl)
theorem vl_48 {a1 a2 a3 a4 : mV} {i : Nat} : mstep P_RL rt sg_ C J X post (.invokevirtual 48) pc ls (a4 :: a3 :: a2 :: a1 :: mr 0 i :: r) rem st nx = cond (mroom r) (3 ≤ rem.1 ∧ 18 ≤ rem.2 ∧ C 126 [mr 0 i, a1, a2, a3, a4] st (mck X pc ls r (rem.1 - 3, rem.2 - 18) nx)) False := (rfl)
theorem lg_14_15 : mstep P rt sg C J X post (.goto 15) 14 ls r rem st nx = J 29 ls r rem st := e_goto rfl
theorem a_210_17 {C : mCall} {K : mK} : matH P_RL 0 sg_ k_210 hd_210 C K post 17 ls r rem st = mblk P_RL 0 sg_ C (mjmp k_210 K) (mexcH hd_210 K post k_210) post [.inl (.astore 6, 2), .inl (.iconst 1, 1), .inl (.ireturn, 1)] 17 ls r rem st := (rfl)
theorem j_210_17 : mjmp k_210 K 17 ls r rem st = K 17 (mproj [] ls) r rem st := (rfl)
theorem a_210_21 {C : mCall} {K : mK} : matH P_RL 0 sg_ k_210 hd_210 C K post 21 ls r rem st = mblk P_RL 0 sg_ C (mjmp k_210 K) (mexcH hd_210 K post k_210) post [.inl (.astore 6, 2), .inl (.iconst 2, 1), .inl (.ireturn, 1)] 21 ls r rem st := (rfl)
theorem j_210_21 : mjmp k_210 K 21 ls r rem st = K 21 (mproj [] ls) r rem st := (rfl)
theorem a_210_25 {C : mCall} {K : mK} : matH P_RL 0 sg_ k_210 hd_210 C K post 25 ls r rem st = mblk P_RL 0 sg_ C (mjmp k_210 K) (mexcH hd_210 K post k_210) post [.inl (.astore 6, 2), .inl (.iconst 3, 1), .inl (.ireturn, 1)] 25 ls r rem st := (rfl)
theorem j_210_25 : mjmp k_210 K 25 ls r rem st = K 25 (mproj [] ls) r rem st := (rfl)
theorem a_210_29 {C : mCall} {K : mK} : matH P_RL 0 sg_ k_210 hd_210 C K post 29 ls r rem st = mblk P_RL 0 sg_ C (mjmp k_210 K) (mexcH hd_210 K post k_210) post [.inl (.iconst 0, 1), .inl (.ireturn, 1)] 29 ls r rem st := (rfl)
theorem j_210_29 : mjmp k_210 K 29 ls r rem st = K 29 (mproj [] ls) r rem st := (rfl)
theorem x_210_3 : mexcH hd_210 K post k_210 3 9 ls rem st = ((1 ≤ 3 ∧ 3 ≤ 6) ∧ ∀ q : Nat, mjmp k_210 K 17 ls [mr 99 q] rem st) := (rfl)
theorem x_210_1 : mexcH hd_210 K post k_210 1 9 ls rem st = ((1 ≤ 1 ∧ 1 ≤ 6) ∧ ∀ q : Nat, mjmp k_210 K 21 ls [mr 99 q] rem st) := (rfl)
theorem x_210_2 : mexcH hd_210 K post k_210 2 9 ls rem st = ((1 ≤ 2 ∧ 2 ≤ 6) ∧ ∀ q : Nat, mjmp k_210 K 25 ls [mr 99 q] rem st) := (rfl)
theorem a_211_0 {C : mCall} {K : mK} : matH P_RL 0 sg_ k_211 hd_211 C K post 0 ls r rem st = mblk P_RL 0 sg_ C (mjmp k_211 K) (mexcH hd_211 K post k_211) post [.inl (.aload_n 2, 1), .inl (.iconst 0, 1), .inl (.aload_n 0, 1), .inl (.iload_n 1, 1), .inl (.invokevirtual 52, 3), .inl (.i2l, 1), .inl (.lastore, 1), .inl (.goto 9, 3)] 0 ls r rem st := (rfl)
theorem j_211_0 : mjmp k_211 K 0 ls r rem st = K 0 (mproj [0, 1, 2] ls) r rem st := (rfl)
theorem vl_52 {a1 : mV} {i : Nat} : mstep P_RL rt sg_ C J X post (.invokevirtual 52) pc ls (a1 :: mr 0 i :: r) rem st nx = cond (mroom r) (2 ≤ rem.1 ∧ 12 ≤ rem.2 ∧ C 127 [mr 0 i, a1] st (mck X pc ls r (rem.1 - 2, rem.2 - 12) nx)) False := (rfl)
theorem a_211_12 {C : mCall} {K : mK} : matH P_RL 0 sg_ k_211 hd_211 C K post 12 ls r rem st = mblk P_RL 0 sg_ C (mjmp k_211 K) (mexcH hd_211 K post k_211) post [.inl (.astore_n 3, 1), .inl (.iconst 1, 1), .inl (.ireturn, 1)] 12 ls r rem st := (rfl)
theorem j_211_12 : mjmp k_211 K 12 ls r rem st = K 12 (mproj [] ls) r rem st := (rfl)
theorem a_211_15 {C : mCall} {K : mK} : matH P_RL 0 sg_ k_211 hd_211 C K post 15 ls r rem st = mblk P_RL 0 sg_ C (mjmp k_211 K) (mexcH hd_211 K post k_211) post [.inl (.astore_n 3, 1), .inl (.iconst 2, 1), .inl (.ireturn, 1)] 15 ls r rem st := (rfl)
theorem j_211_15 : mjmp k_211 K 15 ls r rem st = K 15 (mproj [] ls) r rem st := (rfl)
theorem a_211_18 {C : mCall} {K : mK} : matH P_RL 0 sg_ k_211 hd_211 C K post 18 ls r rem st = mblk P_RL 0 sg_ C (mjmp k_211 K) (mexcH hd_211 K post k_211) post [.inl (.iconst 0, 1), .inl (.ireturn, 1)] 18 ls r rem st := (rfl)
theorem j_211_18 : mjmp k_211 K 18 ls r rem st = K 18 (mproj [] ls) r rem st := (rfl)
theorem x_211_3 : mexcH hd_211 K post k_211 3 4 ls rem st = ((1 ≤ 3 ∧ 3 ≤ 6) ∧ ∀ q : Nat, mjmp k_211 K 12 ls [mr 99 q] rem st) := (rfl)
theorem x_211_2 : mexcH hd_211 K post k_211 2 4 ls rem st = ((1 ≤ 2 ∧ 2 ≤ 6) ∧ ∀ q : Nat, mjmp k_211 K 15 ls [mr 99 q] rem st) := (rfl)
theorem a_212_0 {C : mCall} {K : mK} : matH P_RL 0 sg_ k_212 hd_212 C K post 0 ls r rem st = mblk P_RL 0 sg_ C (mjmp k_212 K) (mexcH hd_212 K post k_212) post [.inl (.aload_n 3, 1), .inl (.iconst 0, 1), .inl (.aload_n 0, 1), .inl (.iload_n 1, 1), .inl (.iload_n 2, 1), .inl (.invokevirtual 55, 3), .inl (.ifCond .eq 7, 3), .inl (.lconst 1, 1), .inl (.goto 4, 3)] 0 ls r rem st := (rfl)
theorem j_212_0 : mjmp k_212 K 0 ls r rem st = K 0 (mproj [0, 1, 2, 3] ls) r rem st := (rfl)
theorem vl_55 {a1 a2 : mV} {i : Nat} : mstep P_RL rt sg_ C J X post (.invokevirtual 55) pc ls (a2 :: a1 :: mr 0 i :: r) rem st nx = cond (mroom r) (2 ≤ rem.1 ∧ 12 ≤ rem.2 ∧ C 128 [mr 0 i, a1, a2] st (mck X pc ls r (rem.1 - 2, rem.2 - 12) nx)) False := (rfl)
theorem lzeq_8_7 {a : Int} : mstep P rt sg C J X post (.ifCond .eq 7) 8 ls (mi a :: r) rem st nx = ((mcmp .eq a 0 → J 15 ls r rem st) ∧ (¬ mcmp .eq a 0 → nx ls r rem st)) := e_ifc rfl
theorem lg_12_4 : mstep P rt sg C J X post (.goto 4) 12 ls r rem st nx = J 16 ls r rem st := e_goto rfl
theorem a_212_15 {C : mCall} {K : mK} : matH P_RL 0 sg_ k_212 hd_212 C K post 15 ls r rem st = mblk P_RL 0 sg_ C (mjmp k_212 K) (mexcH hd_212 K post k_212) post [.inl (.lconst 0, 1)] 15 ls r rem st := (rfl)
theorem j_212_15 : mjmp k_212 K 15 ls r rem st = K 15 (mproj [] ls) r rem st := (rfl)
theorem a_212_16 {C : mCall} {K : mK} : matH P_RL 0 sg_ k_212 hd_212 C K post 16 ls r rem st = mblk P_RL 0 sg_ C (mjmp k_212 K) (mexcH hd_212 K post k_212) post [.inl (.lastore, 1), .inl (.goto 11, 3)] 16 ls r rem st := (rfl)
theorem j_212_16 : mjmp k_212 K 16 ls r rem st = K 16 (mproj [] ls) r rem st := (rfl)
theorem lg_17_11 : mstep P rt sg C J X post (.goto 11) 17 ls r rem st nx = J 28 ls r rem st := e_goto rfl
theorem a_212_20 {C : mCall} {K : mK} : matH P_RL 0 sg_ k_212 hd_212 C K post 20 ls r rem st = mblk P_RL 0 sg_ C (mjmp k_212 K) (mexcH hd_212 K post k_212) post [.inl (.astore 4, 2), .inl (.iconst 1, 1), .inl (.ireturn, 1)] 20 ls r rem st := (rfl)
theorem j_212_20 : mjmp k_212 K 20 ls r rem st = K 20 (mproj [] ls) r rem st := (rfl)
theorem a_212_24 {C : mCall} {K : mK} : matH P_RL 0 sg_ k_212 hd_212 C K post 24 ls r rem st = mblk P_RL 0 sg_ C (mjmp k_212 K) (mexcH hd_212 K post k_212) post [.inl (.astore 4, 2), .inl (.iconst 2, 1), .inl (.ireturn, 1)] 24 ls r rem st := (rfl)
theorem j_212_24 : mjmp k_212 K 24 ls r rem st = K 24 (mproj [] ls) r rem st := (rfl)
theorem a_212_28 {C : mCall} {K : mK} : matH P_RL 0 sg_ k_212 hd_212 C K post 28 ls r rem st = mblk P_RL 0 sg_ C (mjmp k_212 K) (mexcH hd_212 K post k_212) post [.inl (.iconst 0, 1), .inl (.ireturn, 1)] 28 ls r rem st := (rfl)
theorem j_212_28 : mjmp k_212 K 28 ls r rem st = K 28 (mproj [] ls) r rem st := (rfl)
theorem x_212_3 : mexcH hd_212 K post k_212 3 5 ls rem st = ((1 ≤ 3 ∧ 3 ≤ 6) ∧ ∀ q : Nat, mjmp k_212 K 20 ls [mr 99 q] rem st) := (rfl)
theorem x_212_1 : mexcH hd_212 K post k_212 1 5 ls rem st = ((1 ≤ 1 ∧ 1 ≤ 6) ∧ ∀ q : Nat, mjmp k_212 K 24 ls [mr 99 q] rem st) := (rfl)
theorem a_213_0 {C : mCall} {K : mK} : matH P_RL 0 sg_ k_213 hd_213 C K post 0 ls r rem st = mblk P_RL 0 sg_ C (mjmp k_213 K) (mexcH hd_213 K post k_213) post [.inl (.aload_n 2, 1), .inl (.iconst 0, 1), .inl (.aload_n 0, 1), .inl (.iload_n 1, 1), .inl (.invokevirtual 59, 3), .inl (.i2l, 1), .inl (.lastore, 1), .inl (.goto 9, 3)] 0 ls r rem st := (rfl)
theorem j_213_0 : mjmp k_213 K 0 ls r rem st = K 0 (mproj [0, 1, 2] ls) r rem st := (rfl)
theorem vl_59 {a1 : mV} {i : Nat} : mstep P_RL rt sg_ C J X post (.invokevirtual 59) pc ls (a1 :: mr 0 i :: r) rem st nx = cond (mroom r) (5 ≤ rem.1 ∧ 84 ≤ rem.2 ∧ C 134 [mr 0 i, a1] st (mck X pc ls r (rem.1 - 5, rem.2 - 84) nx)) False := (rfl)
theorem a_213_12 {C : mCall} {K : mK} : matH P_RL 0 sg_ k_213 hd_213 C K post 12 ls r rem st = mblk P_RL 0 sg_ C (mjmp k_213 K) (mexcH hd_213 K post k_213) post [.inl (.astore_n 3, 1), .inl (.iconst 1, 1), .inl (.ireturn, 1)] 12 ls r rem st := (rfl)
theorem j_213_12 : mjmp k_213 K 12 ls r rem st = K 12 (mproj [] ls) r rem st := (rfl)
theorem a_213_15 {C : mCall} {K : mK} : matH P_RL 0 sg_ k_213 hd_213 C K post 15 ls r rem st = mblk P_RL 0 sg_ C (mjmp k_213 K) (mexcH hd_213 K post k_213) post [.inl (.astore_n 3, 1), .inl (.iconst 2, 1), .inl (.ireturn, 1)] 15 ls r rem st := (rfl)
theorem j_213_15 : mjmp k_213 K 15 ls r rem st = K 15 (mproj [] ls) r rem st := (rfl)
theorem a_213_18 {C : mCall} {K : mK} : matH P_RL 0 sg_ k_213 hd_213 C K post 18 ls r rem st = mblk P_RL 0 sg_ C (mjmp k_213 K) (mexcH hd_213 K post k_213) post [.inl (.iconst 0, 1), .inl (.ireturn, 1)] 18 ls r rem st := (rfl)
theorem j_213_18 : mjmp k_213 K 18 ls r rem st = K 18 (mproj [] ls) r rem st := (rfl)
theorem x_213_1 : mexcH hd_213 K post k_213 1 4 ls rem st = ((1 ≤ 1 ∧ 1 ≤ 6) ∧ ∀ q : Nat, mjmp k_213 K 12 ls [mr 99 q] rem st) := (rfl)
theorem x_213_2 : mexcH hd_213 K post k_213 2 4 ls rem st = ((1 ≤ 2 ∧ 2 ≤ 6) ∧ ∀ q : Nat, mjmp k_213 K 15 ls [mr 99 q] rem st) := (rfl)
theorem a_214_0 {C : mCall} {K : mK} : matH P_RL 0 sg_ k_214 hd_214 C K post 0 ls r rem st = mblk P_RL 0 sg_ C (mjmp k_214 K) (mexcH hd_214 K post k_214) post [.inl (.aload_n 3, 1), .inl (.iconst 0, 1), .inl (.aload_n 0, 1), .inl (.iload_n 1, 1), .inl (.iload_n 2, 1), .inl (.invokevirtual 62, 3), .inl (.i2l, 1), .inl (.lastore, 1), .inl (.goto 15, 3)] 0 ls r rem st := (rfl)
theorem j_214_0 : mjmp k_214 K 0 ls r rem st = K 0 (mproj [0, 1, 2, 3] ls) r rem st := (rfl)
theorem vl_62 {a1 a2 : mV} {i : Nat} : mstep P_RL rt sg_ C J X post (.invokevirtual 62) pc ls (a2 :: a1 :: mr 0 i :: r) rem st nx = cond (mroom r) (3 ≤ rem.1 ∧ 18 ≤ rem.2 ∧ C 135 [mr 0 i, a1, a2] st (mck X pc ls r (rem.1 - 3, rem.2 - 18) nx)) False := (rfl)
theorem a_214_13 {C : mCall} {K : mK} : matH P_RL 0 sg_ k_214 hd_214 C K post 13 ls r rem st = mblk P_RL 0 sg_ C (mjmp k_214 K) (mexcH hd_214 K post k_214) post [.inl (.astore 4, 2), .inl (.iconst 1, 1), .inl (.ireturn, 1)] 13 ls r rem st := (rfl)
theorem j_214_13 : mjmp k_214 K 13 ls r rem st = K 13 (mproj [] ls) r rem st := (rfl)
theorem a_214_17 {C : mCall} {K : mK} : matH P_RL 0 sg_ k_214 hd_214 C K post 17 ls r rem st = mblk P_RL 0 sg_ C (mjmp k_214 K) (mexcH hd_214 K post k_214) post [.inl (.astore 4, 2), .inl (.iconst 2, 1), .inl (.ireturn, 1)] 17 ls r rem st := (rfl)
theorem j_214_17 : mjmp k_214 K 17 ls r rem st = K 17 (mproj [] ls) r rem st := (rfl)
theorem a_214_21 {C : mCall} {K : mK} : matH P_RL 0 sg_ k_214 hd_214 C K post 21 ls r rem st = mblk P_RL 0 sg_ C (mjmp k_214 K) (mexcH hd_214 K post k_214) post [.inl (.astore 4, 2), .inl (.iconst 3, 1), .inl (.ireturn, 1)] 21 ls r rem st := (rfl)
theorem j_214_21 : mjmp k_214 K 21 ls r rem st = K 21 (mproj [] ls) r rem st := (rfl)
theorem a_214_25 {C : mCall} {K : mK} : matH P_RL 0 sg_ k_214 hd_214 C K post 25 ls r rem st = mblk P_RL 0 sg_ C (mjmp k_214 K) (mexcH hd_214 K post k_214) post [.inl (.iconst 0, 1), .inl (.ireturn, 1)] 25 ls r rem st := (rfl)
theorem j_214_25 : mjmp k_214 K 25 ls r rem st = K 25 (mproj [] ls) r rem st := (rfl)
theorem x_214_3 : mexcH hd_214 K post k_214 3 5 ls rem st = ((1 ≤ 3 ∧ 3 ≤ 6) ∧ ∀ q : Nat, mjmp k_214 K 13 ls [mr 99 q] rem st) := (rfl)
theorem x_214_1 : mexcH hd_214 K post k_214 1 5 ls rem st = ((1 ≤ 1 ∧ 1 ≤ 6) ∧ ∀ q : Nat, mjmp k_214 K 17 ls [mr 99 q] rem st) := (rfl)
theorem x_214_2 : mexcH hd_214 K post k_214 2 5 ls rem st = ((1 ≤ 2 ∧ 2 ≤ 6) ∧ ∀ q : Nat, mjmp k_214 K 21 ls [mr 99 q] rem st) := (rfl)
theorem a_215_0 {C : mCall} {K : mK} : matH P_RL 0 sg_ k_215 hd_215 C K post 0 ls r rem st = mblk P_RL 0 sg_ C (mjmp k_215 K) (mexcH hd_215 K post k_215) post [.inl (.aload 4, 2), .inl (.iconst 0, 1), .inl (.aload_n 0, 1), .inl (.iload_n 1, 1), .inl (.iload_n 2, 1), .inl (.iload_n 3, 1), .inl (.invokevirtual 65, 3), .inl (.i2l, 1), .inl (.lastore, 1), .inl (.goto 15, 3)] 0 ls r rem st := (rfl)
theorem j_215_0 : mjmp k_215 K 0 ls r rem st = K 0 (mproj [0, 1, 2, 3, 4] ls) r rem st := (rfl)
theorem vl_65 {a1 a2 a3 : mV} {i : Nat} : mstep P_RL rt sg_ C J X post (.invokevirtual 65) pc ls (a3 :: a2 :: a1 :: mr 0 i :: r) rem st nx = cond (mroom r) (7 ≤ rem.1 ∧ 98 ≤ rem.2 ∧ C 136 [mr 0 i, a1, a2, a3] st (mck X pc ls r (rem.1 - 7, rem.2 - 98) nx)) False := (rfl)
theorem a_215_15 {C : mCall} {K : mK} : matH P_RL 0 sg_ k_215 hd_215 C K post 15 ls r rem st = mblk P_RL 0 sg_ C (mjmp k_215 K) (mexcH hd_215 K post k_215) post [.inl (.astore 5, 2), .inl (.iconst 1, 1), .inl (.ireturn, 1)] 15 ls r rem st := (rfl)
theorem j_215_15 : mjmp k_215 K 15 ls r rem st = K 15 (mproj [] ls) r rem st := (rfl)
theorem a_215_19 {C : mCall} {K : mK} : matH P_RL 0 sg_ k_215 hd_215 C K post 19 ls r rem st = mblk P_RL 0 sg_ C (mjmp k_215 K) (mexcH hd_215 K post k_215) post [.inl (.astore 5, 2), .inl (.iconst 2, 1), .inl (.ireturn, 1)] 19 ls r rem st := (rfl)
theorem j_215_19 : mjmp k_215 K 19 ls r rem st = K 19 (mproj [] ls) r rem st := (rfl)
theorem a_215_23 {C : mCall} {K : mK} : matH P_RL 0 sg_ k_215 hd_215 C K post 23 ls r rem st = mblk P_RL 0 sg_ C (mjmp k_215 K) (mexcH hd_215 K post k_215) post [.inl (.astore 5, 2), .inl (.iconst 3, 1), .inl (.ireturn, 1)] 23 ls r rem st := (rfl)
theorem j_215_23 : mjmp k_215 K 23 ls r rem st = K 23 (mproj [] ls) r rem st := (rfl)
theorem a_215_27 {C : mCall} {K : mK} : matH P_RL 0 sg_ k_215 hd_215 C K post 27 ls r rem st = mblk P_RL 0 sg_ C (mjmp k_215 K) (mexcH hd_215 K post k_215) post [.inl (.iconst 0, 1), .inl (.ireturn, 1)] 27 ls r rem st := (rfl)
theorem j_215_27 : mjmp k_215 K 27 ls r rem st = K 27 (mproj [] ls) r rem st := (rfl)
theorem x_215_3 : mexcH hd_215 K post k_215 3 7 ls rem st = ((1 ≤ 3 ∧ 3 ≤ 6) ∧ ∀ q : Nat, mjmp k_215 K 15 ls [mr 99 q] rem st) := (rfl)
theorem x_215_1 : mexcH hd_215 K post k_215 1 7 ls rem st = ((1 ≤ 1 ∧ 1 ≤ 6) ∧ ∀ q : Nat, mjmp k_215 K 19 ls [mr 99 q] rem st) := (rfl)
theorem x_215_2 : mexcH hd_215 K post k_215 2 7 ls rem st = ((1 ≤ 2 ∧ 2 ≤ 6) ∧ ∀ q : Nat, mjmp k_215 K 23 ls [mr 99 q] rem st) := (rfl)
theorem a_216_0 {C : mCall} {K : mK} : matH P_RL 0 sg_ k_216 hd_216 C K post 0 ls r rem st = mblk P_RL 0 sg_ C (mjmp k_216 K) (mexcH hd_216 K post k_216) post [.inl (.aload 4, 2), .inl (.iconst 0, 1), .inl (.aload_n 0, 1), .inl (.iload_n 1, 1), .inl (.iload_n 2, 1), .inl (.iload_n 3, 1), .inl (.invokevirtual 68, 3), .inl (.i2l, 1), .inl (.lastore, 1), .inl (.goto 23, 3)] 0 ls r rem st := (rfl)
theorem j_216_0 : mjmp k_216 K 0 ls r rem st = K 0 (mproj [0, 1, 2, 3, 4] ls) r rem st := (rfl)
theorem vl_68 {a1 a2 a3 : mV} {i : Nat} : mstep P_RL rt sg_ C J X post (.invokevirtual 68) pc ls (a3 :: a2 :: a1 :: mr 0 i :: r) rem st nx = cond (mroom r) (5 ≤ rem.1 ∧ 30 ≤ rem.2 ∧ C 137 [mr 0 i, a1, a2, a3] st (mck X pc ls r (rem.1 - 5, rem.2 - 30) nx)) False := (rfl)
theorem lg_12_23 : mstep P rt sg C J X post (.goto 23) 12 ls r rem st nx = J 35 ls r rem st := e_goto rfl
theorem a_216_15 {C : mCall} {K : mK} : matH P_RL 0 sg_ k_216 hd_216 C K post 15 ls r rem st = mblk P_RL 0 sg_ C (mjmp k_216 K) (mexcH hd_216 K post k_216) post [.inl (.astore 5, 2), .inl (.iconst 1, 1), .inl (.ireturn, 1)] 15 ls r rem st := (rfl)
theorem j_216_15 : mjmp k_216 K 15 ls r rem st = K 15 (mproj [] ls) r rem st := (rfl)
theorem a_216_19 {C : mCall} {K : mK} : matH P_RL 0 sg_ k_216 hd_216 C K post 19 ls r rem st = mblk P_RL 0 sg_ C (mjmp k_216 K) (mexcH hd_216 K post k_216) post [.inl (.astore 5, 2), .inl (.iconst 2, 1), .inl (.ireturn, 1)] 19 ls r rem st := (rfl)
theorem j_216_19 : mjmp k_216 K 19 ls r rem st = K 19 (mproj [] ls) r rem st := (rfl)
theorem a_216_23 {C : mCall} {K : mK} : matH P_RL 0 sg_ k_216 hd_216 C K post 23 ls r rem st = mblk P_RL 0 sg_ C (mjmp k_216 K) (mexcH hd_216 K post k_216) post [.inl (.astore 5, 2), .inl (.iconst 3, 1), .inl (.ireturn, 1)] 23 ls r rem st := (rfl)
theorem j_216_23 : mjmp k_216 K 23 ls r rem st = K 23 (mproj [] ls) r rem st := (rfl)
theorem a_216_27 {C : mCall} {K : mK} : matH P_RL 0 sg_ k_216 hd_216 C K post 27 ls r rem st = mblk P_RL 0 sg_ C (mjmp k_216 K) (mexcH hd_216 K post k_216) post [.inl (.astore 5, 2), .inl (.iconst 4, 1), .inl (.ireturn, 1)] 27 ls r rem st := (rfl)
theorem j_216_27 : mjmp k_216 K 27 ls r rem st = K 27 (mproj [] ls) r rem st := (rfl)
theorem a_216_31 {C : mCall} {K : mK} : matH P_RL 0 sg_ k_216 hd_216 C K post 31 ls r rem st = mblk P_RL 0 sg_ C (mjmp k_216 K) (mexcH hd_216 K post k_216) post [.inl (.astore 5, 2), .inl (.iconst 5, 1), .inl (.ireturn, 1)] 31 ls r rem st := (rfl)
theorem j_216_31 : mjmp k_216 K 31 ls r rem st = K 31 (mproj [] ls) r rem st := (rfl)
theorem a_216_35 {C : mCall} {K : mK} : matH P_RL 0 sg_ k_216 hd_216 C K post 35 ls r rem st = mblk P_RL 0 sg_ C (mjmp k_216 K) (mexcH hd_216 K post k_216) post [.inl (.iconst 0, 1), .inl (.ireturn, 1)] 35 ls r rem st := (rfl)
theorem j_216_35 : mjmp k_216 K 35 ls r rem st = K 35 (mproj [] ls) r rem st := (rfl)
theorem x_216_4 : mexcH hd_216 K post k_216 4 7 ls rem st = ((1 ≤ 4 ∧ 4 ≤ 6) ∧ ∀ q : Nat, mjmp k_216 K 15 ls [mr 99 q] rem st) := (rfl)
theorem x_216_3 : mexcH hd_216 K post k_216 3 7 ls rem st = ((1 ≤ 3 ∧ 3 ≤ 6) ∧ ∀ q : Nat, mjmp k_216 K 19 ls [mr 99 q] rem st) := (rfl)
theorem x_216_2 : mexcH hd_216 K post k_216 2 7 ls rem st = ((1 ≤ 2 ∧ 2 ≤ 6) ∧ ∀ q : Nat, mjmp k_216 K 23 ls [mr 99 q] rem st) := (rfl)
theorem x_216_1 : mexcH hd_216 K post k_216 1 7 ls rem st = ((1 ≤ 1 ∧ 1 ≤ 6) ∧ ∀ q : Nat, mjmp k_216 K 27 ls [mr 99 q] rem st) := (rfl)
theorem x_216_5 : mexcH hd_216 K post k_216 5 7 ls rem st = ((1 ≤ 5 ∧ 5 ≤ 6) ∧ ∀ q : Nat, mjmp k_216 K 31 ls [mr 99 q] rem st) := (rfl)
theorem a_217_0 {C : mCall} {K : mK} : matH P_RL 0 sg_ k_217 hd_217 C K post 0 ls r rem st = mblk P_RL 0 sg_ C (mjmp k_217 K) (mexcH hd_217 K post k_217) post [.inl (.aload_n 3, 1), .inl (.iconst 0, 1), .inl (.aload_n 0, 1), .inl (.iload_n 1, 1), .inl (.iload_n 2, 1), .inl (.invokevirtual 73, 3), .inl (.i2l, 1), .inl (.lastore, 1), .inl (.goto 15, 3)] 0 ls r rem st := (rfl)
theorem j_217_0 : mjmp k_217 K 0 ls r rem st = K 0 (mproj [0, 1, 2, 3] ls) r rem st := (rfl)
theorem vl_73 {a1 a2 : mV} {i : Nat} : mstep P_RL rt sg_ C J X post (.invokevirtual 73) pc ls (a2 :: a1 :: mr 0 i :: r) rem st nx = cond (mroom r) (4 ≤ rem.1 ∧ 24 ≤ rem.2 ∧ C 138 [mr 0 i, a1, a2] st (mck X pc ls r (rem.1 - 4, rem.2 - 24) nx)) False := (rfl)
theorem a_217_13 {C : mCall} {K : mK} : matH P_RL 0 sg_ k_217 hd_217 C K post 13 ls r rem st = mblk P_RL 0 sg_ C (mjmp k_217 K) (mexcH hd_217 K post k_217) post [.inl (.astore 4, 2), .inl (.iconst 1, 1), .inl (.ireturn, 1)] 13 ls r rem st := (rfl)
theorem j_217_13 : mjmp k_217 K 13 ls r rem st = K 13 (mproj [] ls) r rem st := (rfl)
theorem a_217_17 {C : mCall} {K : mK} : matH P_RL 0 sg_ k_217 hd_217 C K post 17 ls r rem st = mblk P_RL 0 sg_ C (mjmp k_217 K) (mexcH hd_217 K post k_217) post [.inl (.astore 4, 2), .inl (.iconst 2, 1), .inl (.ireturn, 1)] 17 ls r rem st := (rfl)
theorem j_217_17 : mjmp k_217 K 17 ls r rem st = K 17 (mproj [] ls) r rem st := (rfl)
theorem a_217_21 {C : mCall} {K : mK} : matH P_RL 0 sg_ k_217 hd_217 C K post 21 ls r rem st = mblk P_RL 0 sg_ C (mjmp k_217 K) (mexcH hd_217 K post k_217) post [.inl (.astore 4, 2), .inl (.iconst 3, 1), .inl (.ireturn, 1)] 21 ls r rem st := (rfl)
theorem j_217_21 : mjmp k_217 K 21 ls r rem st = K 21 (mproj [] ls) r rem st := (rfl)
theorem a_217_25 {C : mCall} {K : mK} : matH P_RL 0 sg_ k_217 hd_217 C K post 25 ls r rem st = mblk P_RL 0 sg_ C (mjmp k_217 K) (mexcH hd_217 K post k_217) post [.inl (.iconst 0, 1), .inl (.ireturn, 1)] 25 ls r rem st := (rfl)
theorem j_217_25 : mjmp k_217 K 25 ls r rem st = K 25 (mproj [] ls) r rem st := (rfl)
theorem x_217_4 : mexcH hd_217 K post k_217 4 5 ls rem st = ((1 ≤ 4 ∧ 4 ≤ 6) ∧ ∀ q : Nat, mjmp k_217 K 13 ls [mr 99 q] rem st) := (rfl)
theorem x_217_3 : mexcH hd_217 K post k_217 3 5 ls rem st = ((1 ≤ 3 ∧ 3 ≤ 6) ∧ ∀ q : Nat, mjmp k_217 K 17 ls [mr 99 q] rem st) := (rfl)
theorem x_217_2 : mexcH hd_217 K post k_217 2 5 ls rem st = ((1 ≤ 2 ∧ 2 ≤ 6) ∧ ∀ q : Nat, mjmp k_217 K 21 ls [mr 99 q] rem st) := (rfl)
theorem a_218_0 {C : mCall} {K : mK} : matH P_RL 0 sg_ k_218 hd_218 C K post 0 ls r rem st = mblk P_RL 0 sg_ C (mjmp k_218 K) (mexcH hd_218 K post k_218) post [.inl (.aload_n 2, 1), .inl (.iconst 0, 1), .inl (.aload_n 0, 1), .inl (.iload_n 1, 1), .inl (.invokevirtual 76, 3), .inl (.i2l, 1), .inl (.lastore, 1), .inl (.goto 9, 3)] 0 ls r rem st := (rfl)
theorem j_218_0 : mjmp k_218 K 0 ls r rem st = K 0 (mproj [0, 1, 2] ls) r rem st := (rfl)
theorem vl_76 {a1 : mV} {i : Nat} : mstep P_RL rt sg_ C J X post (.invokevirtual 76) pc ls (a1 :: mr 0 i :: r) rem st nx = cond (mroom r) (2 ≤ rem.1 ∧ 12 ≤ rem.2 ∧ C 139 [mr 0 i, a1] st (mck X pc ls r (rem.1 - 2, rem.2 - 12) nx)) False := (rfl)
theorem a_218_12 {C : mCall} {K : mK} : matH P_RL 0 sg_ k_218 hd_218 C K post 12 ls r rem st = mblk P_RL 0 sg_ C (mjmp k_218 K) (mexcH hd_218 K post k_218) post [.inl (.astore_n 3, 1), .inl (.iconst 1, 1), .inl (.ireturn, 1)] 12 ls r rem st := (rfl)
theorem j_218_12 : mjmp k_218 K 12 ls r rem st = K 12 (mproj [] ls) r rem st := (rfl)
theorem a_218_15 {C : mCall} {K : mK} : matH P_RL 0 sg_ k_218 hd_218 C K post 15 ls r rem st = mblk P_RL 0 sg_ C (mjmp k_218 K) (mexcH hd_218 K post k_218) post [.inl (.astore_n 3, 1), .inl (.iconst 2, 1), .inl (.ireturn, 1)] 15 ls r rem st := (rfl)
theorem j_218_15 : mjmp k_218 K 15 ls r rem st = K 15 (mproj [] ls) r rem st := (rfl)
theorem a_218_18 {C : mCall} {K : mK} : matH P_RL 0 sg_ k_218 hd_218 C K post 18 ls r rem st = mblk P_RL 0 sg_ C (mjmp k_218 K) (mexcH hd_218 K post k_218) post [.inl (.iconst 0, 1), .inl (.ireturn, 1)] 18 ls r rem st := (rfl)
theorem j_218_18 : mjmp k_218 K 18 ls r rem st = K 18 (mproj [] ls) r rem st := (rfl)
theorem x_218_4 : mexcH hd_218 K post k_218 4 4 ls rem st = ((1 ≤ 4 ∧ 4 ≤ 6) ∧ ∀ q : Nat, mjmp k_218 K 12 ls [mr 99 q] rem st) := (rfl)
theorem x_218_2 : mexcH hd_218 K post k_218 2 4 ls rem st = ((1 ≤ 2 ∧ 2 ≤ 6) ∧ ∀ q : Nat, mjmp k_218 K 15 ls [mr 99 q] rem st) := (rfl)
theorem a_219_0 {C : mCall} {K : mK} : matH P_RL 0 sg_ k_219 hd_219 C K post 0 ls r rem st = mblk P_RL 0 sg_ C (mjmp k_219 K) (mexcH hd_219 K post k_219) post [.inl (.aload_n 2, 1), .inl (.iconst 0, 1), .inl (.aload_n 0, 1), .inl (.iload_n 1, 1), .inl (.invokevirtual 79, 3), .inl (.i2l, 1), .inl (.lastore, 1), .inl (.goto 12, 3)] 0 ls r rem st := (rfl)
theorem j_219_0 : mjmp k_219 K 0 ls r rem st = K 0 (mproj [0, 1, 2] ls) r rem st := (rfl)
theorem vl_79 {a1 : mV} {i : Nat} : mstep P_RL rt sg_ C J X post (.invokevirtual 79) pc ls (a1 :: mr 0 i :: r) rem st nx = cond (mroom r) (3 ≤ rem.1 ∧ 18 ≤ rem.2 ∧ C 140 [mr 0 i, a1] st (mck X pc ls r (rem.1 - 3, rem.2 - 18) nx)) False := (rfl)
theorem lg_9_12 : mstep P rt sg C J X post (.goto 12) 9 ls r rem st nx = J 21 ls r rem st := e_goto rfl
theorem a_219_12 {C : mCall} {K : mK} : matH P_RL 0 sg_ k_219 hd_219 C K post 12 ls r rem st = mblk P_RL 0 sg_ C (mjmp k_219 K) (mexcH hd_219 K post k_219) post [.inl (.astore_n 3, 1), .inl (.iconst 1, 1), .inl (.ireturn, 1)] 12 ls r rem st := (rfl)
theorem j_219_12 : mjmp k_219 K 12 ls r rem st = K 12 (mproj [] ls) r rem st := (rfl)
theorem a_219_15 {C : mCall} {K : mK} : matH P_RL 0 sg_ k_219 hd_219 C K post 15 ls r rem st = mblk P_RL 0 sg_ C (mjmp k_219 K) (mexcH hd_219 K post k_219) post [.inl (.astore_n 3, 1), .inl (.iconst 2, 1), .inl (.ireturn, 1)] 15 ls r rem st := (rfl)
theorem j_219_15 : mjmp k_219 K 15 ls r rem st = K 15 (mproj [] ls) r rem st := (rfl)
theorem a_219_18 {C : mCall} {K : mK} : matH P_RL 0 sg_ k_219 hd_219 C K post 18 ls r rem st = mblk P_RL 0 sg_ C (mjmp k_219 K) (mexcH hd_219 K post k_219) post [.inl (.astore_n 3, 1), .inl (.iconst 3, 1), .inl (.ireturn, 1)] 18 ls r rem st := (rfl)
theorem j_219_18 : mjmp k_219 K 18 ls r rem st = K 18 (mproj [] ls) r rem st := (rfl)
theorem a_219_21 {C : mCall} {K : mK} : matH P_RL 0 sg_ k_219 hd_219 C K post 21 ls r rem st = mblk P_RL 0 sg_ C (mjmp k_219 K) (mexcH hd_219 K post k_219) post [.inl (.iconst 0, 1), .inl (.ireturn, 1)] 21 ls r rem st := (rfl)
theorem j_219_21 : mjmp k_219 K 21 ls r rem st = K 21 (mproj [] ls) r rem st := (rfl)
theorem x_219_4 : mexcH hd_219 K post k_219 4 4 ls rem st = ((1 ≤ 4 ∧ 4 ≤ 6) ∧ ∀ q : Nat, mjmp k_219 K 12 ls [mr 99 q] rem st) := (rfl)
theorem x_219_2 : mexcH hd_219 K post k_219 2 4 ls rem st = ((1 ≤ 2 ∧ 2 ≤ 6) ∧ ∀ q : Nat, mjmp k_219 K 15 ls [mr 99 q] rem st) := (rfl)
theorem x_219_5 : mexcH hd_219 K post k_219 5 4 ls rem st = ((1 ≤ 5 ∧ 5 ≤ 6) ∧ ∀ q : Nat, mjmp k_219 K 18 ls [mr 99 q] rem st) := (rfl)
theorem a_220_0 {C : mCall} {K : mK} : matH P_RL 0 sg_ k_220 hd_220 C K post 0 ls r rem st = mblk P_RL 0 sg_ C (mjmp k_220 K) (mexcH hd_220 K post k_220) post [.inl (.aload_n 2, 1), .inl (.iconst 0, 1), .inl (.aload_n 0, 1), .inl (.iload_n 1, 1), .inl (.invokevirtual 82, 3), .inl (.i2l, 1), .inl (.lastore, 1), .inl (.goto 6, 3)] 0 ls r rem st := (rfl)
theorem j_220_0 : mjmp k_220 K 0 ls r rem st = K 0 (mproj [0, 1, 2] ls) r rem st := (rfl)
theorem vl_82 {a1 : mV} {i : Nat} : mstep P_RL rt sg_ C J X post (.invokevirtual 82) pc ls (a1 :: mr 0 i :: r) rem st nx = cond (mroom r) (1 ≤ rem.1 ∧ 6 ≤ rem.2 ∧ C 142 [mr 0 i, a1] st (mck X pc ls r (rem.1 - 1, rem.2 - 6) nx)) False := (rfl)
theorem a_220_12 {C : mCall} {K : mK} : matH P_RL 0 sg_ k_220 hd_220 C K post 12 ls r rem st = mblk P_RL 0 sg_ C (mjmp k_220 K) (mexcH hd_220 K post k_220) post [.inl (.astore_n 3, 1), .inl (.iconst 1, 1), .inl (.ireturn, 1)] 12 ls r rem st := (rfl)
theorem j_220_12 : mjmp k_220 K 12 ls r rem st = K 12 (mproj [] ls) r rem st := (rfl)
theorem a_220_15 {C : mCall} {K : mK} : matH P_RL 0 sg_ k_220 hd_220 C K post 15 ls r rem st = mblk P_RL 0 sg_ C (mjmp k_220 K) (mexcH hd_220 K post k_220) post [.inl (.iconst 0, 1), .inl (.ireturn, 1)] 15 ls r rem st := (rfl)
theorem j_220_15 : mjmp k_220 K 15 ls r rem st = K 15 (mproj [] ls) r rem st := (rfl)
theorem x_220_4 : mexcH hd_220 K post k_220 4 4 ls rem st = ((1 ≤ 4 ∧ 4 ≤ 6) ∧ ∀ q : Nat, mjmp k_220 K 12 ls [mr 99 q] rem st) := (rfl)
theorem a_221_0 {C : mCall} {K : mK} : matH P_RL 0 sg_ k_221 hd_221 C K post 0 ls r rem st = mblk P_RL 0 sg_ C (mjmp k_221 K) (mexcH hd_221 K post k_221) post [.inl (.aload_n 3, 1), .inl (.iconst 0, 1), .inl (.aload_n 0, 1), .inl (.iload_n 1, 1), .inl (.iload_n 2, 1), .inl (.invokevirtual 86, 3), .inl (.i2l, 1), .inl (.lastore, 1), .inl (.goto 11, 3)] 0 ls r rem st := (rfl)
theorem j_221_0 : mjmp k_221 K 0 ls r rem st = K 0 (mproj [0, 1, 2, 3] ls) r rem st := (rfl)
theorem vl_86 {a1 a2 : mV} {i : Nat} : mstep P_RL rt sg_ C J X post (.invokevirtual 86) pc ls (a2 :: a1 :: mr 0 i :: r) rem st nx = cond (mroom r) (2 ≤ rem.1 ∧ 12 ≤ rem.2 ∧ C 143 [mr 0 i, a1, a2] st (mck X pc ls r (rem.1 - 2, rem.2 - 12) nx)) False := (rfl)
theorem a_221_13 {C : mCall} {K : mK} : matH P_RL 0 sg_ k_221 hd_221 C K post 13 ls r rem st = mblk P_RL 0 sg_ C (mjmp k_221 K) (mexcH hd_221 K post k_221) post [.inl (.astore 4, 2), .inl (.iconst 1, 1), .inl (.ireturn, 1)] 13 ls r rem st := (rfl)
theorem j_221_13 : mjmp k_221 K 13 ls r rem st = K 13 (mproj [] ls) r rem st := (rfl)
theorem a_221_17 {C : mCall} {K : mK} : matH P_RL 0 sg_ k_221 hd_221 C K post 17 ls r rem st = mblk P_RL 0 sg_ C (mjmp k_221 K) (mexcH hd_221 K post k_221) post [.inl (.astore 4, 2), .inl (.iconst 2, 1), .inl (.ireturn, 1)] 17 ls r rem st := (rfl)
theorem j_221_17 : mjmp k_221 K 17 ls r rem st = K 17 (mproj [] ls) r rem st := (rfl)
theorem a_221_21 {C : mCall} {K : mK} : matH P_RL 0 sg_ k_221 hd_221 C K post 21 ls r rem st = mblk P_RL 0 sg_ C (mjmp k_221 K) (mexcH hd_221 K post k_221) post [.inl (.iconst 0, 1), .inl (.ireturn, 1)] 21 ls r rem st := (rfl)
theorem j_221_21 : mjmp k_221 K 21 ls r rem st = K 21 (mproj [] ls) r rem st := (rfl)
theorem x_221_4 : mexcH hd_221 K post k_221 4 5 ls rem st = ((1 ≤ 4 ∧ 4 ≤ 6) ∧ ∀ q : Nat, mjmp k_221 K 13 ls [mr 99 q] rem st) := (rfl)
theorem x_221_3 : mexcH hd_221 K post k_221 3 5 ls rem st = ((1 ≤ 3 ∧ 3 ≤ 6) ∧ ∀ q : Nat, mjmp k_221 K 17 ls [mr 99 q] rem st) := (rfl)
theorem a_222_0 {C : mCall} {K : mK} : matH P_RL 0 sg_ k_222 hd_222 C K post 0 ls r rem st = mblk P_RL 0 sg_ C (mjmp k_222 K) (mexcH hd_222 K post k_222) post [.inl (.aload_n 2, 1), .inl (.iconst 0, 1), .inl (.aload_n 0, 1), .inl (.iload_n 1, 1), .inl (.invokevirtual 89, 3), .inl (.ifCond .eq 7, 3), .inl (.lconst 1, 1), .inl (.goto 4, 3)] 0 ls r rem st := (rfl)
theorem j_222_0 : mjmp k_222 K 0 ls r rem st = K 0 (mproj [0, 1, 2] ls) r rem st := (rfl)
theorem vl_89 {a1 : mV} {i : Nat} : mstep P_RL rt sg_ C J X post (.invokevirtual 89) pc ls (a1 :: mr 0 i :: r) rem st nx = cond (mroom r) (2 ≤ rem.1 ∧ 12 ≤ rem.2 ∧ C 144 [mr 0 i, a1] st (mck X pc ls r (rem.1 - 2, rem.2 - 12) nx)) False := (rfl)
theorem lzeq_7_7 {a : Int} : mstep P rt sg C J X post (.ifCond .eq 7) 7 ls (mi a :: r) rem st nx = ((mcmp .eq a 0 → J 14 ls r rem st) ∧ (¬ mcmp .eq a 0 → nx ls r rem st)) := e_ifc rfl
theorem lg_11_4 : mstep P rt sg C J X post (.goto 4) 11 ls r rem st nx = J 15 ls r rem st := e_goto rfl
theorem a_222_14 {C : mCall} {K : mK} : matH P_RL 0 sg_ k_222 hd_222 C K post 14 ls r rem st = mblk P_RL 0 sg_ C (mjmp k_222 K) (mexcH hd_222 K post k_222) post [.inl (.lconst 0, 1)] 14 ls r rem st := (rfl)
theorem j_222_14 : mjmp k_222 K 14 ls r rem st = K 14 (mproj [] ls) r rem st := (rfl)
theorem a_222_15 {C : mCall} {K : mK} : matH P_RL 0 sg_ k_222 hd_222 C K post 15 ls r rem st = mblk P_RL 0 sg_ C (mjmp k_222 K) (mexcH hd_222 K post k_222) post [.inl (.lastore, 1), .inl (.goto 9, 3)] 15 ls r rem st := (rfl)
theorem j_222_15 : mjmp k_222 K 15 ls r rem st = K 15 (mproj [] ls) r rem st := (rfl)
theorem lg_16_9 : mstep P rt sg C J X post (.goto 9) 16 ls r rem st nx = J 25 ls r rem st := e_goto rfl
theorem a_222_19 {C : mCall} {K : mK} : matH P_RL 0 sg_ k_222 hd_222 C K post 19 ls r rem st = mblk P_RL 0 sg_ C (mjmp k_222 K) (mexcH hd_222 K post k_222) post [.inl (.astore_n 3, 1), .inl (.iconst 1, 1), .inl (.ireturn, 1)] 19 ls r rem st := (rfl)
theorem j_222_19 : mjmp k_222 K 19 ls r rem st = K 19 (mproj [] ls) r rem st := (rfl)
theorem a_222_22 {C : mCall} {K : mK} : matH P_RL 0 sg_ k_222 hd_222 C K post 22 ls r rem st = mblk P_RL 0 sg_ C (mjmp k_222 K) (mexcH hd_222 K post k_222) post [.inl (.astore_n 3, 1), .inl (.iconst 2, 1), .inl (.ireturn, 1)] 22 ls r rem st := (rfl)
theorem j_222_22 : mjmp k_222 K 22 ls r rem st = K 22 (mproj [] ls) r rem st := (rfl)
theorem a_222_25 {C : mCall} {K : mK} : matH P_RL 0 sg_ k_222 hd_222 C K post 25 ls r rem st = mblk P_RL 0 sg_ C (mjmp k_222 K) (mexcH hd_222 K post k_222) post [.inl (.iconst 0, 1), .inl (.ireturn, 1)] 25 ls r rem st := (rfl)
theorem j_222_25 : mjmp k_222 K 25 ls r rem st = K 25 (mproj [] ls) r rem st := (rfl)
theorem x_222_4 : mexcH hd_222 K post k_222 4 4 ls rem st = ((1 ≤ 4 ∧ 4 ≤ 6) ∧ ∀ q : Nat, mjmp k_222 K 19 ls [mr 99 q] rem st) := (rfl)
theorem x_222_2 : mexcH hd_222 K post k_222 2 4 ls rem st = ((1 ≤ 2 ∧ 2 ≤ 6) ∧ ∀ q : Nat, mjmp k_222 K 22 ls [mr 99 q] rem st) := (rfl)
theorem a_223_0 {C : mCall} {K : mK} : matH P_RL 0 sg_ k_223 hd_223 C K post 0 ls r rem st = mblk P_RL 0 sg_ C (mjmp k_223 K) (mexcH hd_223 K post k_223) post [.inl (.aload 4, 2), .inl (.iconst 0, 1), .inl (.aload_n 0, 1), .inl (.iload_n 1, 1), .inl (.iload_n 2, 1), .inl (.iload_n 3, 1), .inl (.invokevirtual 93, 3), .inl (.i2l, 1), .inl (.lastore, 1), .inl (.goto 15, 3)] 0 ls r rem st := (rfl)
theorem j_223_0 : mjmp k_223 K 0 ls r rem st = K 0 (mproj [0, 1, 2, 3, 4] ls) r rem st := (rfl)
theorem vl_93 {a1 a2 a3 : mV} {i : Nat} : mstep P_RL rt sg_ C J X post (.invokevirtual 93) pc ls (a3 :: a2 :: a1 :: mr 0 i :: r) rem st nx = cond (mroom r) (4 ≤ rem.1 ∧ 24 ≤ rem.2 ∧ C 145 [mr 0 i, a1, a2, a3] st (mck X pc ls r (rem.1 - 4, rem.2 - 24) nx)) False := (rfl)
theorem a_223_15 {C : mCall} {K : mK} : matH P_RL 0 sg_ k_223 hd_223 C K post 15 ls r rem st = mblk P_RL 0 sg_ C (mjmp k_223 K) (mexcH hd_223 K post k_223) post [.inl (.astore 5, 2), .inl (.iconst 1, 1), .inl (.ireturn, 1)] 15 ls r rem st := (rfl)
theorem j_223_15 : mjmp k_223 K 15 ls r rem st = K 15 (mproj [] ls) r rem st := (rfl)
theorem a_223_19 {C : mCall} {K : mK} : matH P_RL 0 sg_ k_223 hd_223 C K post 19 ls r rem st = mblk P_RL 0 sg_ C (mjmp k_223 K) (mexcH hd_223 K post k_223) post [.inl (.astore 5, 2), .inl (.iconst 2, 1), .inl (.ireturn, 1)] 19 ls r rem st := (rfl)
theorem j_223_19 : mjmp k_223 K 19 ls r rem st = K 19 (mproj [] ls) r rem st := (rfl)
theorem a_223_23 {C : mCall} {K : mK} : matH P_RL 0 sg_ k_223 hd_223 C K post 23 ls r rem st = mblk P_RL 0 sg_ C (mjmp k_223 K) (mexcH hd_223 K post k_223) post [.inl (.astore 5, 2), .inl (.iconst 3, 1), .inl (.ireturn, 1)] 23 ls r rem st := (rfl)
theorem j_223_23 : mjmp k_223 K 23 ls r rem st = K 23 (mproj [] ls) r rem st := (rfl)
theorem a_223_27 {C : mCall} {K : mK} : matH P_RL 0 sg_ k_223 hd_223 C K post 27 ls r rem st = mblk P_RL 0 sg_ C (mjmp k_223 K) (mexcH hd_223 K post k_223) post [.inl (.iconst 0, 1), .inl (.ireturn, 1)] 27 ls r rem st := (rfl)
theorem j_223_27 : mjmp k_223 K 27 ls r rem st = K 27 (mproj [] ls) r rem st := (rfl)
theorem x_223_4 : mexcH hd_223 K post k_223 4 7 ls rem st = ((1 ≤ 4 ∧ 4 ≤ 6) ∧ ∀ q : Nat, mjmp k_223 K 15 ls [mr 99 q] rem st) := (rfl)
theorem x_223_3 : mexcH hd_223 K post k_223 3 7 ls rem st = ((1 ≤ 3 ∧ 3 ≤ 6) ∧ ∀ q : Nat, mjmp k_223 K 19 ls [mr 99 q] rem st) := (rfl)
theorem x_223_2 : mexcH hd_223 K post k_223 2 7 ls rem st = ((1 ≤ 2 ∧ 2 ≤ 6) ∧ ∀ q : Nat, mjmp k_223 K 23 ls [mr 99 q] rem st) := (rfl)
theorem a_224_0 {C : mCall} {K : mK} : matH P_RL 0 sg_ k_224 hd_224 C K post 0 ls r rem st = mblk P_RL 0 sg_ C (mjmp k_224 K) (mexcH hd_224 K post k_224) post [.inl (.aload_n 3, 1), .inl (.iconst 0, 1), .inl (.aload_n 0, 1), .inl (.iload_n 1, 1), .inl (.iload_n 2, 1), .inl (.invokevirtual 96, 3), .inl (.i2l, 1), .inl (.lastore, 1), .inl (.goto 15, 3)] 0 ls r rem st := (rfl)
theorem j_224_0 : mjmp k_224 K 0 ls r rem st = K 0 (mproj [0, 1, 2, 3] ls) r rem st := (rfl)
theorem vl_96 {a1 a2 : mV} {i : Nat} : mstep P_RL rt sg_ C J X post (.invokevirtual 96) pc ls (a2 :: a1 :: mr 0 i :: r) rem st nx = cond (mroom r) (3 ≤ rem.1 ∧ 18 ≤ rem.2 ∧ C 146 [mr 0 i, a1, a2] st (mck X pc ls r (rem.1 - 3, rem.2 - 18) nx)) False := (rfl)
theorem a_224_13 {C : mCall} {K : mK} : matH P_RL 0 sg_ k_224 hd_224 C K post 13 ls r rem st = mblk P_RL 0 sg_ C (mjmp k_224 K) (mexcH hd_224 K post k_224) post [.inl (.astore 4, 2), .inl (.iconst 1, 1), .inl (.ireturn, 1)] 13 ls r rem st := (rfl)
theorem j_224_13 : mjmp k_224 K 13 ls r rem st = K 13 (mproj [] ls) r rem st := (rfl)
theorem a_224_17 {C : mCall} {K : mK} : matH P_RL 0 sg_ k_224 hd_224 C K post 17 ls r rem st = mblk P_RL 0 sg_ C (mjmp k_224 K) (mexcH hd_224 K post k_224) post [.inl (.astore 4, 2), .inl (.iconst 2, 1), .inl (.ireturn, 1)] 17 ls r rem st := (rfl)
theorem j_224_17 : mjmp k_224 K 17 ls r rem st = K 17 (mproj [] ls) r rem st := (rfl)
theorem a_224_21 {C : mCall} {K : mK} : matH P_RL 0 sg_ k_224 hd_224 C K post 21 ls r rem st = mblk P_RL 0 sg_ C (mjmp k_224 K) (mexcH hd_224 K post k_224) post [.inl (.astore 4, 2), .inl (.iconst 3, 1), .inl (.ireturn, 1)] 21 ls r rem st := (rfl)
theorem j_224_21 : mjmp k_224 K 21 ls r rem st = K 21 (mproj [] ls) r rem st := (rfl)
theorem a_224_25 {C : mCall} {K : mK} : matH P_RL 0 sg_ k_224 hd_224 C K post 25 ls r rem st = mblk P_RL 0 sg_ C (mjmp k_224 K) (mexcH hd_224 K post k_224) post [.inl (.iconst 0, 1), .inl (.ireturn, 1)] 25 ls r rem st := (rfl)
theorem j_224_25 : mjmp k_224 K 25 ls r rem st = K 25 (mproj [] ls) r rem st := (rfl)
theorem x_224_4 : mexcH hd_224 K post k_224 4 5 ls rem st = ((1 ≤ 4 ∧ 4 ≤ 6) ∧ ∀ q : Nat, mjmp k_224 K 13 ls [mr 99 q] rem st) := (rfl)
theorem x_224_3 : mexcH hd_224 K post k_224 3 5 ls rem st = ((1 ≤ 3 ∧ 3 ≤ 6) ∧ ∀ q : Nat, mjmp k_224 K 17 ls [mr 99 q] rem st) := (rfl)
theorem x_224_2 : mexcH hd_224 K post k_224 2 5 ls rem st = ((1 ≤ 2 ∧ 2 ≤ 6) ∧ ∀ q : Nat, mjmp k_224 K 21 ls [mr 99 q] rem st) := (rfl)
theorem a_225_0 {C : mCall} {K : mK} : matH P_RL 0 sg_ k_225 hd_225 C K post 0 ls r rem st = mblk P_RL 0 sg_ C (mjmp k_225 K) (mexcH hd_225 K post k_225) post [.inl (.aload_n 2, 1), .inl (.iconst 0, 1), .inl (.aload_n 0, 1), .inl (.iload_n 1, 1), .inl (.invokevirtual 99, 3), .inl (.i2l, 1), .inl (.lastore, 1), .inl (.goto 6, 3)] 0 ls r rem st := (rfl)
theorem j_225_0 : mjmp k_225 K 0 ls r rem st = K 0 (mproj [0, 1, 2] ls) r rem st := (rfl)
theorem vl_99 {a1 : mV} {i : Nat} : mstep P_RL rt sg_ C J X post (.invokevirtual 99) pc ls (a1 :: mr 0 i :: r) rem st nx = cond (mroom r) (1 ≤ rem.1 ∧ 6 ≤ rem.2 ∧ C 148 [mr 0 i, a1] st (mck X pc ls r (rem.1 - 1, rem.2 - 6) nx)) False := (rfl)
theorem a_225_12 {C : mCall} {K : mK} : matH P_RL 0 sg_ k_225 hd_225 C K post 12 ls r rem st = mblk P_RL 0 sg_ C (mjmp k_225 K) (mexcH hd_225 K post k_225) post [.inl (.astore_n 3, 1), .inl (.iconst 1, 1), .inl (.ireturn, 1)] 12 ls r rem st := (rfl)
theorem j_225_12 : mjmp k_225 K 12 ls r rem st = K 12 (mproj [] ls) r rem st := (rfl)
theorem a_225_15 {C : mCall} {K : mK} : matH P_RL 0 sg_ k_225 hd_225 C K post 15 ls r rem st = mblk P_RL 0 sg_ C (mjmp k_225 K) (mexcH hd_225 K post k_225) post [.inl (.iconst 0, 1), .inl (.ireturn, 1)] 15 ls r rem st := (rfl)
theorem j_225_15 : mjmp k_225 K 15 ls r rem st = K 15 (mproj [] ls) r rem st := (rfl)
theorem x_225_1 : mexcH hd_225 K post k_225 1 4 ls rem st = ((1 ≤ 1 ∧ 1 ≤ 6) ∧ ∀ q : Nat, mjmp k_225 K 12 ls [mr 99 q] rem st) := (rfl)
theorem a_226_0 {C : mCall} {K : mK} : matH P_RL 0 sg_ k_226 hd_226 C K post 0 ls r rem st = mblk P_RL 0 sg_ C (mjmp k_226 K) (mexcH hd_226 K post k_226) post [.inl (.aload 4, 2), .inl (.iconst 0, 1), .inl (.aload_n 0, 1), .inl (.iload_n 1, 1), .inl (.iload_n 2, 1), .inl (.iload_n 3, 1), .inl (.invokevirtual 103, 3), .inl (.i2l, 1), .inl (.lastore, 1), .inl (.goto 11, 3)] 0 ls r rem st := (rfl)
theorem j_226_0 : mjmp k_226 K 0 ls r rem st = K 0 (mproj [0, 1, 2, 3, 4] ls) r rem st := (rfl)
theorem vl_103 {a1 a2 a3 : mV} {i : Nat} : mstep P_RL rt sg_ C J X post (.invokevirtual 103) pc ls (a3 :: a2 :: a1 :: mr 0 i :: r) rem st nx = cond (mroom r) (2 ≤ rem.1 ∧ 12 ≤ rem.2 ∧ C 167 [mr 0 i, a1, a2, a3] st (mck X pc ls r (rem.1 - 2, rem.2 - 12) nx)) False := (rfl)
theorem lg_12_11 : mstep P rt sg C J X post (.goto 11) 12 ls r rem st nx = J 23 ls r rem st := e_goto rfl
theorem a_226_15 {C : mCall} {K : mK} : matH P_RL 0 sg_ k_226 hd_226 C K post 15 ls r rem st = mblk P_RL 0 sg_ C (mjmp k_226 K) (mexcH hd_226 K post k_226) post [.inl (.astore 5, 2), .inl (.iconst 1, 1), .inl (.ireturn, 1)] 15 ls r rem st := (rfl)
theorem j_226_15 : mjmp k_226 K 15 ls r rem st = K 15 (mproj [] ls) r rem st := (rfl)
theorem a_226_19 {C : mCall} {K : mK} : matH P_RL 0 sg_ k_226 hd_226 C K post 19 ls r rem st = mblk P_RL 0 sg_ C (mjmp k_226 K) (mexcH hd_226 K post k_226) post [.inl (.astore 5, 2), .inl (.iconst 2, 1), .inl (.ireturn, 1)] 19 ls r rem st := (rfl)
theorem j_226_19 : mjmp k_226 K 19 ls r rem st = K 19 (mproj [] ls) r rem st := (rfl)
theorem a_226_23 {C : mCall} {K : mK} : matH P_RL 0 sg_ k_226 hd_226 C K post 23 ls r rem st = mblk P_RL 0 sg_ C (mjmp k_226 K) (mexcH hd_226 K post k_226) post [.inl (.iconst 0, 1), .inl (.ireturn, 1)] 23 ls r rem st := (rfl)
theorem j_226_23 : mjmp k_226 K 23 ls r rem st = K 23 (mproj [] ls) r rem st := (rfl)
theorem x_226_3 : mexcH hd_226 K post k_226 3 7 ls rem st = ((1 ≤ 3 ∧ 3 ≤ 6) ∧ ∀ q : Nat, mjmp k_226 K 15 ls [mr 99 q] rem st) := (rfl)
theorem x_226_1 : mexcH hd_226 K post k_226 1 7 ls rem st = ((1 ≤ 1 ∧ 1 ≤ 6) ∧ ∀ q : Nat, mjmp k_226 K 19 ls [mr 99 q] rem st) := (rfl)
theorem a_227_0 {C : mCall} {K : mK} : matH P_RL 0 sg_ k_227 hd_227 C K post 0 ls r rem st = mblk P_RL 0 sg_ C (mjmp k_227 K) (mexcH hd_227 K post k_227) post [.inl (.aload_n 2, 1), .inl (.iconst 0, 1), .inl (.aload_n 0, 1), .inl (.iload_n 1, 1), .inl (.invokevirtual 106, 3), .inl (.i2l, 1), .inl (.lastore, 1), .inl (.goto 6, 3)] 0 ls r rem st := (rfl)
theorem j_227_0 : mjmp k_227 K 0 ls r rem st = K 0 (mproj [0, 1, 2] ls) r rem st := (rfl)
theorem vl_106 {a1 : mV} {i : Nat} : mstep P_RL rt sg_ C J X post (.invokevirtual 106) pc ls (a1 :: mr 0 i :: r) rem st nx = cond (mroom r) (1 ≤ rem.1 ∧ 6 ≤ rem.2 ∧ C 168 [mr 0 i, a1] st (mck X pc ls r (rem.1 - 1, rem.2 - 6) nx)) False := (rfl)
theorem a_227_12 {C : mCall} {K : mK} : matH P_RL 0 sg_ k_227 hd_227 C K post 12 ls r rem st = mblk P_RL 0 sg_ C (mjmp k_227 K) (mexcH hd_227 K post k_227) post [.inl (.astore_n 3, 1), .inl (.iconst 1, 1), .inl (.ireturn, 1)] 12 ls r rem st := (rfl)
theorem j_227_12 : mjmp k_227 K 12 ls r rem st = K 12 (mproj [] ls) r rem st := (rfl)
theorem a_227_15 {C : mCall} {K : mK} : matH P_RL 0 sg_ k_227 hd_227 C K post 15 ls r rem st = mblk P_RL 0 sg_ C (mjmp k_227 K) (mexcH hd_227 K post k_227) post [.inl (.iconst 0, 1), .inl (.ireturn, 1)] 15 ls r rem st := (rfl)
theorem j_227_15 : mjmp k_227 K 15 ls r rem st = K 15 (mproj [] ls) r rem st := (rfl)
theorem x_227_3 : mexcH hd_227 K post k_227 3 4 ls rem st = ((1 ≤ 3 ∧ 3 ≤ 6) ∧ ∀ q : Nat, mjmp k_227 K 12 ls [mr 99 q] rem st) := (rfl)
theorem a_228_0 {C : mCall} {K : mK} : matH P_RL 0 sg_ k_228 hd_228 C K post 0 ls r rem st = mblk P_RL 0 sg_ C (mjmp k_228 K) (mexcH hd_228 K post k_228) post [.inl (.aload_n 2, 1), .inl (.iconst 0, 1), .inl (.aload_n 0, 1), .inl (.iload_n 1, 1), .inl (.invokevirtual 109, 3), .inl (.i2l, 1), .inl (.lastore, 1), .inl (.goto 6, 3)] 0 ls r rem st := (rfl)
theorem j_228_0 : mjmp k_228 K 0 ls r rem st = K 0 (mproj [0, 1, 2] ls) r rem st := (rfl)
theorem vl_109 {a1 : mV} {i : Nat} : mstep P_RL rt sg_ C J X post (.invokevirtual 109) pc ls (a1 :: mr 0 i :: r) rem st nx = cond (mroom r) (1 ≤ rem.1 ∧ 6 ≤ rem.2 ∧ C 169 [mr 0 i, a1] st (mck X pc ls r (rem.1 - 1, rem.2 - 6) nx)) False := (rfl)
theorem a_228_12 {C : mCall} {K : mK} : matH P_RL 0 sg_ k_228 hd_228 C K post 12 ls r rem st = mblk P_RL 0 sg_ C (mjmp k_228 K) (mexcH hd_228 K post k_228) post [.inl (.astore_n 3, 1), .inl (.iconst 1, 1), .inl (.ireturn, 1)] 12 ls r rem st := (rfl)
theorem j_228_12 : mjmp k_228 K 12 ls r rem st = K 12 (mproj [] ls) r rem st := (rfl)
theorem a_228_15 {C : mCall} {K : mK} : matH P_RL 0 sg_ k_228 hd_228 C K post 15 ls r rem st = mblk P_RL 0 sg_ C (mjmp k_228 K) (mexcH hd_228 K post k_228) post [.inl (.iconst 0, 1), .inl (.ireturn, 1)] 15 ls r rem st := (rfl)
theorem j_228_15 : mjmp k_228 K 15 ls r rem st = K 15 (mproj [] ls) r rem st := (rfl)
theorem x_228_3 : mexcH hd_228 K post k_228 3 4 ls rem st = ((1 ≤ 3 ∧ 3 ≤ 6) ∧ ∀ q : Nat, mjmp k_228 K 12 ls [mr 99 q] rem st) := (rfl)
theorem a_229_0 {C : mCall} {K : mK} : matH P_RL 0 sg_ k_229 hd_229 C K post 0 ls r rem st = mblk P_RL 0 sg_ C (mjmp k_229 K) (mexcH hd_229 K post k_229) post [.inl (.aload_n 2, 1), .inl (.iconst 0, 1), .inl (.aload_n 0, 1), .inl (.iload_n 1, 1), .inl (.invokevirtual 112, 3), .inl (.i2l, 1), .inl (.lastore, 1), .inl (.goto 6, 3)] 0 ls r rem st := (rfl)
theorem j_229_0 : mjmp k_229 K 0 ls r rem st = K 0 (mproj [0, 1, 2] ls) r rem st := (rfl)
theorem vl_112 {a1 : mV} {i : Nat} : mstep P_RL rt sg_ C J X post (.invokevirtual 112) pc ls (a1 :: mr 0 i :: r) rem st nx = cond (mroom r) (1 ≤ rem.1 ∧ 6 ≤ rem.2 ∧ C 170 [mr 0 i, a1] st (mck X pc ls r (rem.1 - 1, rem.2 - 6) nx)) False := (rfl)
theorem a_229_12 {C : mCall} {K : mK} : matH P_RL 0 sg_ k_229 hd_229 C K post 12 ls r rem st = mblk P_RL 0 sg_ C (mjmp k_229 K) (mexcH hd_229 K post k_229) post [.inl (.astore_n 3, 1), .inl (.iconst 1, 1), .inl (.ireturn, 1)] 12 ls r rem st := (rfl)
theorem j_229_12 : mjmp k_229 K 12 ls r rem st = K 12 (mproj [] ls) r rem st := (rfl)
theorem a_229_15 {C : mCall} {K : mK} : matH P_RL 0 sg_ k_229 hd_229 C K post 15 ls r rem st = mblk P_RL 0 sg_ C (mjmp k_229 K) (mexcH hd_229 K post k_229) post [.inl (.iconst 0, 1), .inl (.ireturn, 1)] 15 ls r rem st := (rfl)
theorem j_229_15 : mjmp k_229 K 15 ls r rem st = K 15 (mproj [] ls) r rem st := (rfl)
theorem x_229_3 : mexcH hd_229 K post k_229 3 4 ls rem st = ((1 ≤ 3 ∧ 3 ≤ 6) ∧ ∀ q : Nat, mjmp k_229 K 12 ls [mr 99 q] rem st) := (rfl)
theorem a_230_0 {C : mCall} {K : mK} : matH P_RL 0 sg_ k_230 hd_230 C K post 0 ls r rem st = mblk P_RL 0 sg_ C (mjmp k_230 K) (mexcH hd_230 K post k_230) post [.inl (.aload_n 2, 1), .inl (.iconst 0, 1), .inl (.aload_n 0, 1), .inl (.iload_n 1, 1), .inl (.invokevirtual 115, 3), .inl (.i2l, 1), .inl (.lastore, 1), .inl (.goto 6, 3)] 0 ls r rem st := (rfl)
theorem j_230_0 : mjmp k_230 K 0 ls r rem st = K 0 (mproj [0, 1, 2] ls) r rem st := (rfl)
theorem vl_115 {a1 : mV} {i : Nat} : mstep P_RL rt sg_ C J X post (.invokevirtual 115) pc ls (a1 :: mr 0 i :: r) rem st nx = cond (mroom r) (1 ≤ rem.1 ∧ 6 ≤ rem.2 ∧ C 171 [mr 0 i, a1] st (mck X pc ls r (rem.1 - 1, rem.2 - 6) nx)) False := (rfl)
theorem a_230_12 {C : mCall} {K : mK} : matH P_RL 0 sg_ k_230 hd_230 C K post 12 ls r rem st = mblk P_RL 0 sg_ C (mjmp k_230 K) (mexcH hd_230 K post k_230) post [.inl (.astore_n 3, 1), .inl (.iconst 1, 1), .inl (.ireturn, 1)] 12 ls r rem st := (rfl)
theorem j_230_12 : mjmp k_230 K 12 ls r rem st = K 12 (mproj [] ls) r rem st := (rfl)
theorem a_230_15 {C : mCall} {K : mK} : matH P_RL 0 sg_ k_230 hd_230 C K post 15 ls r rem st = mblk P_RL 0 sg_ C (mjmp k_230 K) (mexcH hd_230 K post k_230) post [.inl (.iconst 0, 1), .inl (.ireturn, 1)] 15 ls r rem st := (rfl)
theorem j_230_15 : mjmp k_230 K 15 ls r rem st = K 15 (mproj [] ls) r rem st := (rfl)
theorem x_230_3 : mexcH hd_230 K post k_230 3 4 ls rem st = ((1 ≤ 3 ∧ 3 ≤ 6) ∧ ∀ q : Nat, mjmp k_230 K 12 ls [mr 99 q] rem st) := (rfl)
theorem a_231_0 {C : mCall} {K : mK} : matH P_RL 0 sg_ k_231 hd_231 C K post 0 ls r rem st = mblk P_RL 0 sg_ C (mjmp k_231 K) (mexcH hd_231 K post k_231) post [.inl (.aload_n 3, 1), .inl (.iconst 0, 1), .inl (.aload_n 0, 1), .inl (.iload_n 1, 1), .inl (.iload_n 2, 1), .inl (.invokevirtual 118, 3), .inl (.i2l, 1), .inl (.lastore, 1), .inl (.goto 15, 3)] 0 ls r rem st := (rfl)
theorem j_231_0 : mjmp k_231 K 0 ls r rem st = K 0 (mproj [0, 1, 2, 3] ls) r rem st := (rfl)
theorem vl_118 {a1 a2 : mV} {i : Nat} : mstep P_RL rt sg_ C J X post (.invokevirtual 118) pc ls (a2 :: a1 :: mr 0 i :: r) rem st nx = cond (mroom r) (3 ≤ rem.1 ∧ 18 ≤ rem.2 ∧ C 172 [mr 0 i, a1, a2] st (mck X pc ls r (rem.1 - 3, rem.2 - 18) nx)) False := (rfl)
theorem a_231_13 {C : mCall} {K : mK} : matH P_RL 0 sg_ k_231 hd_231 C K post 13 ls r rem st = mblk P_RL 0 sg_ C (mjmp k_231 K) (mexcH hd_231 K post k_231) post [.inl (.astore 4, 2), .inl (.iconst 1, 1), .inl (.ireturn, 1)] 13 ls r rem st := (rfl)
theorem j_231_13 : mjmp k_231 K 13 ls r rem st = K 13 (mproj [] ls) r rem st := (rfl)
theorem a_231_17 {C : mCall} {K : mK} : matH P_RL 0 sg_ k_231 hd_231 C K post 17 ls r rem st = mblk P_RL 0 sg_ C (mjmp k_231 K) (mexcH hd_231 K post k_231) post [.inl (.astore 4, 2), .inl (.iconst 2, 1), .inl (.ireturn, 1)] 17 ls r rem st := (rfl)
theorem j_231_17 : mjmp k_231 K 17 ls r rem st = K 17 (mproj [] ls) r rem st := (rfl)
theorem a_231_21 {C : mCall} {K : mK} : matH P_RL 0 sg_ k_231 hd_231 C K post 21 ls r rem st = mblk P_RL 0 sg_ C (mjmp k_231 K) (mexcH hd_231 K post k_231) post [.inl (.astore 4, 2), .inl (.iconst 3, 1), .inl (.ireturn, 1)] 21 ls r rem st := (rfl)
theorem j_231_21 : mjmp k_231 K 21 ls r rem st = K 21 (mproj [] ls) r rem st := (rfl)
theorem a_231_25 {C : mCall} {K : mK} : matH P_RL 0 sg_ k_231 hd_231 C K post 25 ls r rem st = mblk P_RL 0 sg_ C (mjmp k_231 K) (mexcH hd_231 K post k_231) post [.inl (.iconst 0, 1), .inl (.ireturn, 1)] 25 ls r rem st := (rfl)
theorem j_231_25 : mjmp k_231 K 25 ls r rem st = K 25 (mproj [] ls) r rem st := (rfl)
theorem x_231_3 : mexcH hd_231 K post k_231 3 5 ls rem st = ((1 ≤ 3 ∧ 3 ≤ 6) ∧ ∀ q : Nat, mjmp k_231 K 13 ls [mr 99 q] rem st) := (rfl)
theorem x_231_1 : mexcH hd_231 K post k_231 1 5 ls rem st = ((1 ≤ 1 ∧ 1 ≤ 6) ∧ ∀ q : Nat, mjmp k_231 K 17 ls [mr 99 q] rem st) := (rfl)
theorem x_231_4 : mexcH hd_231 K post k_231 4 5 ls rem st = ((1 ≤ 4 ∧ 4 ≤ 6) ∧ ∀ q : Nat, mjmp k_231 K 21 ls [mr 99 q] rem st) := (rfl)
theorem a_232_0 {C : mCall} {K : mK} : matH P_RL 0 sg_ k_232 hd_232 C K post 0 ls r rem st = mblk P_RL 0 sg_ C (mjmp k_232 K) (mexcH hd_232 K post k_232) post [.inl (.aload_n 2, 1), .inl (.iconst 0, 1), .inl (.aload_n 0, 1), .inl (.iload_n 1, 1), .inl (.invokevirtual 121, 3), .inl (.f2d, 1), .inl (.dastore, 1), .inl (.goto 9, 3)] 0 ls r rem st := (rfl)
theorem j_232_0 : mjmp k_232 K 0 ls r rem st = K 0 (mproj [0, 1, 2] ls) r rem st := (rfl)
theorem vl_121 {a1 : mV} {i : Nat} : mstep P_RL rt sg_ C J X post (.invokevirtual 121) pc ls (a1 :: mr 0 i :: r) rem st nx = cond (mroom r) (2 ≤ rem.1 ∧ 12 ≤ rem.2 ∧ C 173 [mr 0 i, a1] st (mck X pc ls r (rem.1 - 2, rem.2 - 12) nx)) False := (rfl)
theorem a_232_12 {C : mCall} {K : mK} : matH P_RL 0 sg_ k_232 hd_232 C K post 12 ls r rem st = mblk P_RL 0 sg_ C (mjmp k_232 K) (mexcH hd_232 K post k_232) post [.inl (.astore_n 3, 1), .inl (.iconst 1, 1), .inl (.ireturn, 1)] 12 ls r rem st := (rfl)
theorem j_232_12 : mjmp k_232 K 12 ls r rem st = K 12 (mproj [] ls) r rem st := (rfl)
theorem a_232_15 {C : mCall} {K : mK} : matH P_RL 0 sg_ k_232 hd_232 C K post 15 ls r rem st = mblk P_RL 0 sg_ C (mjmp k_232 K) (mexcH hd_232 K post k_232) post [.inl (.astore_n 3, 1), .inl (.iconst 2, 1), .inl (.ireturn, 1)] 15 ls r rem st := (rfl)
theorem j_232_15 : mjmp k_232 K 15 ls r rem st = K 15 (mproj [] ls) r rem st := (rfl)
theorem a_232_18 {C : mCall} {K : mK} : matH P_RL 0 sg_ k_232 hd_232 C K post 18 ls r rem st = mblk P_RL 0 sg_ C (mjmp k_232 K) (mexcH hd_232 K post k_232) post [.inl (.iconst 0, 1), .inl (.ireturn, 1)] 18 ls r rem st := (rfl)
theorem j_232_18 : mjmp k_232 K 18 ls r rem st = K 18 (mproj [] ls) r rem st := (rfl)
theorem x_232_3 : mexcH hd_232 K post k_232 3 4 ls rem st = ((1 ≤ 3 ∧ 3 ≤ 6) ∧ ∀ q : Nat, mjmp k_232 K 12 ls [mr 99 q] rem st) := (rfl)
theorem x_232_6 : mexcH hd_232 K post k_232 6 4 ls rem st = ((1 ≤ 6 ∧ 6 ≤ 6) ∧ ∀ q : Nat, mjmp k_232 K 15 ls [mr 99 q] rem st) := (rfl)
theorem a_233_0 {C : mCall} {K : mK} : matH P_RL 0 sg_ k_233 hd_233 C K post 0 ls r rem st = mblk P_RL 0 sg_ C (mjmp k_233 K) (mexcH hd_233 K post k_233) post [.inl (.aload_n 1, 1), .inl (.iconst 0, 1), .inl (.aload_n 0, 1), .inl (.invokevirtual 127, 3), .inl (.dastore, 1), .inl (.goto 6, 3)] 0 ls r rem st := (rfl)
theorem j_233_0 : mjmp k_233 K 0 ls r rem st = K 0 (mproj [0, 1] ls) r rem st := (rfl)
theorem vl_127 {i : Nat} : mstep P_RL rt sg_ C J X post (.invokevirtual 127) pc ls (mr 0 i :: r) rem st nx = cond (mroom r) (1 ≤ rem.1 ∧ 6 ≤ rem.2 ∧ C 174 [mr 0 i] st (mck X pc ls r (rem.1 - 1, rem.2 - 6) nx)) False := (rfl)
theorem lg_7_6 : mstep P rt sg C J X post (.goto 6) 7 ls r rem st nx = J 13 ls r rem st := e_goto rfl
theorem a_233_10 {C : mCall} {K : mK} : matH P_RL 0 sg_ k_233 hd_233 C K post 10 ls r rem st = mblk P_RL 0 sg_ C (mjmp k_233 K) (mexcH hd_233 K post k_233) post [.inl (.astore_n 2, 1), .inl (.iconst 1, 1), .inl (.ireturn, 1)] 10 ls r rem st := (rfl)
theorem j_233_10 : mjmp k_233 K 10 ls r rem st = K 10 (mproj [] ls) r rem st := (rfl)
theorem a_233_13 {C : mCall} {K : mK} : matH P_RL 0 sg_ k_233 hd_233 C K post 13 ls r rem st = mblk P_RL 0 sg_ C (mjmp k_233 K) (mexcH hd_233 K post k_233) post [.inl (.iconst 0, 1), .inl (.ireturn, 1)] 13 ls r rem st := (rfl)
theorem j_233_13 : mjmp k_233 K 13 ls r rem st = K 13 (mproj [] ls) r rem st := (rfl)
theorem x_233_6 : mexcH hd_233 K post k_233 6 3 ls rem st = ((1 ≤ 6 ∧ 6 ≤ 6) ∧ ∀ q : Nat, mjmp k_233 K 10 ls [mr 99 q] rem st) := (rfl)
theorem a_300_28 {C : mCall} {K : mK} : mat P_RL 1 sgL_ k_300 [] C K post 28 ls r rem st = mblk P_RL 1 sgL_ C (mjmp k_300 K) (mexc [] K post k_300) post [.inl (.iload 5, 2), .inl (.aload_n 0, 1), .inl (.arraylength, 1), .inl (.iconst 5, 1), .inl (.isub, 1), .inl (.if_icmp .gt 2391, 3), .inl (.aload_n 0, 1), .inl (.iload 5, 2), .inl (.iaload, 1), .inl (.bipush 63, 2), .inl (.iand, 1), .inl (.tableswitch 2375 0 36 #[164, 220, 233, 289, 345, 389, 469, 549, 617, 685, 741, 833, 889, 964, 1020, 1088, 1168, 1248, 1316, 1372, 1428, 1441, 1497, 1565, 1628, 1708, 1776, 1789, 1847, 1927, 1983, 2039, 2095, 2151, 2219, 2297, 2362], 164)] 28 ls r rem st := (rfl)
theorem j_300_28 : mjmp k_300 K 28 ls r rem st = K 28 (mproj [0, 1, 2, 3, 4, 5] ls) r rem st := (rfl)
theorem lcgt_34_2391 {a b : Int} : mstep P rt sg C J X post (.if_icmp .gt 2391) 34 ls (mi b :: mi a :: r) rem st nx = ((mcmp .gt a b → J 2425 ls r rem st) ∧ (¬ mcmp .gt a b → nx ls r rem st)) := e_icmp rfl
theorem a_300_208 {C : mCall} {K : mK} : mat P_RL 1 sgL_ k_300 [] C K post 208 ls r rem st = mblk P_RL 1 sgL_ C (mjmp k_300 K) (mexc [] K post k_300) post [.inl (.aload_n 1, 1), .inl (.aload_n 0, 1), .inl (.iload 5, 2), .inl (.iconst 1, 1), .inl (.iadd, 1), .inl (.iaload, 1), .inl (.aload_n 3, 1), .inl (.invokestatic 135, 3), .inl (.istore 6, 2), .inl (.aload_n 2, 1), .inl (.aload_n 0, 1), .inl (.iload 5, 2), .inl (.iconst 1, 1), .inl (.iadd, 1), .inl (.iaload, 1), .inl (.invokevirtual 140, 3), .inl (.istore 7, 2), .inl (.aload_n 2, 1), .inl (.invokevirtual 141, 3), .inl (.iload 6, 2), .inl (.if_icmp .eq 5, 3), .inl (.iconst 0, 1), .inl (.ireturn, 1)] 208 ls r rem st := (rfl)
theorem j_300_208 : mjmp k_300 K 208 ls r rem st = K 208 (mproj [0, 1, 2, 3, 4, 5] ls) r rem st := (rfl)
theorem vW_135 {a0 a1 a2 : mV} : mstep P_RL rt sgL_ C J X post (.invokestatic 135) pc ls (a2 :: a1 :: a0 :: r) rem st nx = cond (mroom r) (1 ≤ rem.1 ∧ 6 ≤ rem.2 ∧ C 201 [a0, a1, a2] st (mck X pc ls r (rem.1 - 1, rem.2 - 6) nx)) False := (rfl)
theorem vL_140 {a1 : mV} {i : Nat} : mstep P_RL rt sgL_ C J X post (.invokevirtual 140) pc ls (a1 :: mr 30 i :: r) rem st nx = cond (mroom r) (0 ≤ rem.1 ∧ 0 ≤ rem.2 ∧ C 8 [mr 30 i, a1] st (mck X pc ls r (rem.1 - 0, rem.2 - 0) nx)) False := (rfl)
theorem vL_141 {i : Nat} : mstep P_RL rt sgL_ C J X post (.invokevirtual 141) pc ls (mr 30 i :: r) rem st nx = cond (mroom r) (0 ≤ rem.1 ∧ 0 ≤ rem.2 ∧ C 1 [mr 30 i] st (mck X pc ls r (rem.1 - 0, rem.2 - 0) nx)) False := (rfl)
theorem lceq_239_5 {a b : Int} : mstep P rt sg C J X post (.if_icmp .eq 5) 239 ls (mi b :: mi a :: r) rem st nx = ((mcmp .eq a b → J 244 ls r rem st) ∧ (¬ mcmp .eq a b → nx ls r rem st)) := e_icmp rfl
theorem a_300_244 {C : mCall} {K : mK} : mat P_RL 1 sgL_ k_300 [] C K post 244 ls r rem st = mblk P_RL 1 sgL_ C (mjmp k_300 K) (mexc [] K post k_300) post [.inl (.iload 6, 2), .inl (.ifCond .ne 15, 3), .inl (.aload_n 3, 1), .inl (.iconst 0, 1), .inl (.laload, 1), .inl (.iload 7, 2), .inl (.i2l, 1), .inl (.lcmp, 1), .inl (.ifCond .eq 5, 3), .inl (.iconst 0, 1), .inl (.ireturn, 1)] 244 ls r rem st := (rfl)
theorem j_300_244 : mjmp k_300 K 244 ls r rem st = K 244 (mproj [0, 1, 2, 3, 4, 5, 6, 7] ls) r rem st := (rfl)
theorem lzne_246_15 {a : Int} : mstep P rt sg C J X post (.ifCond .ne 15) 246 ls (mi a :: r) rem st nx = ((mcmp .ne a 0 → J 261 ls r rem st) ∧ (¬ mcmp .ne a 0 → nx ls r rem st)) := e_ifc rfl
theorem lzeq_256_5 {a : Int} : mstep P rt sg C J X post (.ifCond .eq 5) 256 ls (mi a :: r) rem st nx = ((mcmp .eq a 0 → J 261 ls r rem st) ∧ (¬ mcmp .eq a 0 → nx ls r rem st)) := e_ifc rfl
theorem a_300_261 {C : mCall} {K : mK} : mat P_RL 1 sgL_ k_300 [] C K post 261 ls r rem st = mblk P_RL 1 sgL_ C (mjmp k_300 K) (mexc [] K post k_300) post [.inl (.goto 2158, 3)] 261 ls r rem st := (rfl)
theorem j_300_261 : mjmp k_300 K 261 ls r rem st = K 261 (mproj [0, 1, 2, 3, 4, 5] ls) r rem st := (rfl)
theorem lg_261_2158 : mstep P rt sg C J X post (.goto 2158) 261 ls r rem st nx = J 2419 ls r rem st := e_goto rfl
theorem a_300_264 {C : mCall} {K : mK} : mat P_RL 1 sgL_ k_300 [] C K post 264 ls r rem st = mblk P_RL 1 sgL_ C (mjmp k_300 K) (mexc [] K post k_300) post [.inl (.aload_n 1, 1), .inl (.invokevirtual 144, 3), .inl (.aload_n 2, 1), .inl (.invokevirtual 147, 3), .inl (.if_icmp .eq 2147, 3), .inl (.iconst 0, 1), .inl (.ireturn, 1)] 264 ls r rem st := (rfl)
theorem j_300_264 : mjmp k_300 K 264 ls r rem st = K 264 (mproj [0, 1, 2, 3, 4, 5] ls) r rem st := (rfl)
theorem vL_144 {i : Nat} : mstep P_RL rt sgL_ C J X post (.invokevirtual 144) pc ls (mr 0 i :: r) rem st nx = cond (mroom r) (0 ≤ rem.1 ∧ 0 ≤ rem.2 ∧ C 114 [mr 0 i] st (mck X pc ls r (rem.1 - 0, rem.2 - 0) nx)) False := (rfl)
theorem vL_147 {i : Nat} : mstep P_RL rt sgL_ C J X post (.invokevirtual 147) pc ls (mr 30 i :: r) rem st nx = cond (mroom r) (0 ≤ rem.1 ∧ 0 ≤ rem.2 ∧ C 9 [mr 30 i] st (mck X pc ls r (rem.1 - 0, rem.2 - 0) nx)) False := (rfl)
theorem lceq_272_2147 {a b : Int} : mstep P rt sg C J X post (.if_icmp .eq 2147) 272 ls (mi b :: mi a :: r) rem st nx = ((mcmp .eq a b → J 2419 ls r rem st) ∧ (¬ mcmp .eq a b → nx ls r rem st)) := e_icmp rfl
theorem a_300_277 {C : mCall} {K : mK} : mat P_RL 1 sgL_ k_300 [] C K post 277 ls r rem st = mblk P_RL 1 sgL_ C (mjmp k_300 K) (mexc [] K post k_300) post [.inl (.aload_n 1, 1), .inl (.aload_n 0, 1), .inl (.iload 5, 2), .inl (.iconst 1, 1), .inl (.iadd, 1), .inl (.iaload, 1), .inl (.aload_n 3, 1), .inl (.invokestatic 148, 3), .inl (.istore 6, 2), .inl (.aload_n 2, 1), .inl (.aload_n 0, 1), .inl (.iload 5, 2), .inl (.iconst 1, 1), .inl (.iadd, 1), .inl (.iaload, 1), .inl (.invokevirtual 150, 3), .inl (.istore 7, 2), .inl (.aload_n 2, 1), .inl (.invokevirtual 141, 3), .inl (.iload 6, 2), .inl (.if_icmp .eq 5, 3), .inl (.iconst 0, 1), .inl (.ireturn, 1)] 277 ls r rem st := (rfl)
theorem j_300_277 : mjmp k_300 K 277 ls r rem st = K 277 (mproj [0, 1, 2, 3, 4, 5] ls) r rem st := (rfl)
theorem vW_148 {a0 a1 a2 : mV} : mstep P_RL rt sgL_ C J X post (.invokestatic 148) pc ls (a2 :: a1 :: a0 :: r) rem st nx = cond (mroom r) (1 ≤ rem.1 ∧ 6 ≤ rem.2 ∧ C 202 [a0, a1, a2] st (mck X pc ls r (rem.1 - 1, rem.2 - 6) nx)) False := (rfl)
theorem vL_150 {a1 : mV} {i : Nat} : mstep P_RL rt sgL_ C J X post (.invokevirtual 150) pc ls (a1 :: mr 30 i :: r) rem st nx = cond (mroom r) (0 ≤ rem.1 ∧ 0 ≤ rem.2 ∧ C 10 [mr 30 i, a1] st (mck X pc ls r (rem.1 - 0, rem.2 - 0) nx)) False := (rfl)
theorem lceq_308_5 {a b : Int} : mstep P rt sg C J X post (.if_icmp .eq 5) 308 ls (mi b :: mi a :: r) rem st nx = ((mcmp .eq a b → J 313 ls r rem st) ∧ (¬ mcmp .eq a b → nx ls r rem st)) := e_icmp rfl
theorem a_300_313 {C : mCall} {K : mK} : mat P_RL 1 sgL_ k_300 [] C K post 313 ls r rem st = mblk P_RL 1 sgL_ C (mjmp k_300 K) (mexc [] K post k_300) post [.inl (.iload 6, 2), .inl (.ifCond .ne 15, 3), .inl (.aload_n 3, 1), .inl (.iconst 0, 1), .inl (.laload, 1), .inl (.iload 7, 2), .inl (.i2l, 1), .inl (.lcmp, 1), .inl (.ifCond .eq 5, 3), .inl (.iconst 0, 1), .inl (.ireturn, 1)] 313 ls r rem st := (rfl)
theorem j_300_313 : mjmp k_300 K 313 ls r rem st = K 313 (mproj [0, 1, 2, 3, 4, 5, 6, 7] ls) r rem st := (rfl)
theorem lzne_315_15 {a : Int} : mstep P rt sg C J X post (.ifCond .ne 15) 315 ls (mi a :: r) rem st nx = ((mcmp .ne a 0 → J 330 ls r rem st) ∧ (¬ mcmp .ne a 0 → nx ls r rem st)) := e_ifc rfl
theorem lzeq_325_5 {a : Int} : mstep P rt sg C J X post (.ifCond .eq 5) 325 ls (mi a :: r) rem st nx = ((mcmp .eq a 0 → J 330 ls r rem st) ∧ (¬ mcmp .eq a 0 → nx ls r rem st)) := e_ifc rfl
theorem a_300_330 {C : mCall} {K : mK} : mat P_RL 1 sgL_ k_300 [] C K post 330 ls r rem st = mblk P_RL 1 sgL_ C (mjmp k_300 K) (mexc [] K post k_300) post [.inl (.goto 2089, 3)] 330 ls r rem st := (rfl)
theorem j_300_330 : mjmp k_300 K 330 ls r rem st = K 330 (mproj [0, 1, 2, 3, 4, 5] ls) r rem st := (rfl)
theorem lg_330_2089 : mstep P rt sg C J X post (.goto 2089) 330 ls r rem st nx = J 2419 ls r rem st := e_goto rfl
theorem a_300_333 {C : mCall} {K : mK} : mat P_RL 1 sgL_ k_300 [] C K post 333 ls r rem st = mblk P_RL 1 sgL_ C (mjmp k_300 K) (mexc [] K post k_300) post [.inl (.aload_n 1, 1), .inl (.aload_n 0, 1), .inl (.iload 5, 2), .inl (.iconst 1, 1), .inl (.iadd, 1), .inl (.iaload, 1), .inl (.aload_n 3, 1), .inl (.invokestatic 151, 3), .inl (.istore 6, 2), .inl (.aload_n 2, 1), .inl (.aload_n 0, 1), .inl (.iload 5, 2), .inl (.iconst 1, 1), .inl (.iadd, 1), .inl (.iaload, 1), .inl (.invokevirtual 153, 3), .inl (.istore 7, 2), .inl (.aload_n 2, 1), .inl (.invokevirtual 141, 3), .inl (.iload 6, 2), .inl (.if_icmp .eq 5, 3), .inl (.iconst 0, 1), .inl (.ireturn, 1)] 333 ls r rem st := (rfl)
theorem j_300_333 : mjmp k_300 K 333 ls r rem st = K 333 (mproj [0, 1, 2, 3, 4, 5] ls) r rem st := (rfl)
theorem vW_151 {a0 a1 a2 : mV} : mstep P_RL rt sgL_ C J X post (.invokestatic 151) pc ls (a2 :: a1 :: a0 :: r) rem st nx = cond (mroom r) (1 ≤ rem.1 ∧ 6 ≤ rem.2 ∧ C 203 [a0, a1, a2] st (mck X pc ls r (rem.1 - 1, rem.2 - 6) nx)) False := (rfl)
theorem vL_153 {a1 : mV} {i : Nat} : mstep P_RL rt sgL_ C J X post (.invokevirtual 153) pc ls (a1 :: mr 30 i :: r) rem st nx = cond (mroom r) (0 ≤ rem.1 ∧ 0 ≤ rem.2 ∧ C 11 [mr 30 i, a1] st (mck X pc ls r (rem.1 - 0, rem.2 - 0) nx)) False := (rfl)
theorem lceq_364_5 {a b : Int} : mstep P rt sg C J X post (.if_icmp .eq 5) 364 ls (mi b :: mi a :: r) rem st nx = ((mcmp .eq a b → J 369 ls r rem st) ∧ (¬ mcmp .eq a b → nx ls r rem st)) := e_icmp rfl
theorem a_300_369 {C : mCall} {K : mK} : mat P_RL 1 sgL_ k_300 [] C K post 369 ls r rem st = mblk P_RL 1 sgL_ C (mjmp k_300 K) (mexc [] K post k_300) post [.inl (.iload 6, 2), .inl (.ifCond .ne 15, 3), .inl (.aload_n 3, 1), .inl (.iconst 0, 1), .inl (.laload, 1), .inl (.iload 7, 2), .inl (.i2l, 1), .inl (.lcmp, 1), .inl (.ifCond .eq 5, 3), .inl (.iconst 0, 1), .inl (.ireturn, 1)] 369 ls r rem st := (rfl)
theorem j_300_369 : mjmp k_300 K 369 ls r rem st = K 369 (mproj [0, 1, 2, 3, 4, 5, 6, 7] ls) r rem st := (rfl)
theorem lzne_371_15 {a : Int} : mstep P rt sg C J X post (.ifCond .ne 15) 371 ls (mi a :: r) rem st nx = ((mcmp .ne a 0 → J 386 ls r rem st) ∧ (¬ mcmp .ne a 0 → nx ls r rem st)) := e_ifc rfl
theorem lzeq_381_5 {a : Int} : mstep P rt sg C J X post (.ifCond .eq 5) 381 ls (mi a :: r) rem st nx = ((mcmp .eq a 0 → J 386 ls r rem st) ∧ (¬ mcmp .eq a 0 → nx ls r rem st)) := e_ifc rfl
theorem a_300_386 {C : mCall} {K : mK} : mat P_RL 1 sgL_ k_300 [] C K post 386 ls r rem st = mblk P_RL 1 sgL_ C (mjmp k_300 K) (mexc [] K post k_300) post [.inl (.goto 2033, 3)] 386 ls r rem st := (rfl)
theorem j_300_386 : mjmp k_300 K 386 ls r rem st = K 386 (mproj [0, 1, 2, 3, 4, 5] ls) r rem st := (rfl)
theorem lg_386_2033 : mstep P rt sg C J X post (.goto 2033) 386 ls r rem st nx = J 2419 ls r rem st := e_goto rfl
theorem a_300_389 {C : mCall} {K : mK} : mat P_RL 1 sgL_ k_300 [] C K post 389 ls r rem st = mblk P_RL 1 sgL_ C (mjmp k_300 K) (mexc [] K post k_300) post [.inl (.aload_n 1, 1), .inl (.aload_n 3, 1), .inl (.invokestatic 154, 3), .inl (.istore 6, 2), .inl (.aload_n 2, 1), .inl (.invokevirtual 157, 3), .inl (.istore 7, 2), .inl (.aload_n 2, 1), .inl (.invokevirtual 141, 3), .inl (.iload 6, 2), .inl (.if_icmp .eq 5, 3), .inl (.iconst 0, 1), .inl (.ireturn, 1)] 389 ls r rem st := (rfl)
theorem j_300_389 : mjmp k_300 K 389 ls r rem st = K 389 (mproj [0, 1, 2, 3, 4, 5] ls) r rem st := (rfl)
theorem vW_154 {a0 a1 : mV} : mstep P_RL rt sgL_ C J X post (.invokestatic 154) pc ls (a1 :: a0 :: r) rem st nx = cond (mroom r) (8 ≤ rem.1 ∧ 1094 ≤ rem.2 ∧ C 204 [a0, a1] st (mck X pc ls r (rem.1 - 8, rem.2 - 1094) nx)) False := (rfl)
theorem vL_157 {i : Nat} : mstep P_RL rt sgL_ C J X post (.invokevirtual 157) pc ls (mr 30 i :: r) rem st nx = cond (mroom r) (0 ≤ rem.1 ∧ 0 ≤ rem.2 ∧ C 12 [mr 30 i] st (mck X pc ls r (rem.1 - 0, rem.2 - 0) nx)) False := (rfl)
theorem lceq_408_5 {a b : Int} : mstep P rt sg C J X post (.if_icmp .eq 5) 408 ls (mi b :: mi a :: r) rem st nx = ((mcmp .eq a b → J 413 ls r rem st) ∧ (¬ mcmp .eq a b → nx ls r rem st)) := e_icmp rfl
theorem a_300_413 {C : mCall} {K : mK} : mat P_RL 1 sgL_ k_300 [] C K post 413 ls r rem st = mblk P_RL 1 sgL_ C (mjmp k_300 K) (mexc [] K post k_300) post [.inl (.iload 6, 2), .inl (.ifCond .ne 15, 3), .inl (.aload_n 3, 1), .inl (.iconst 0, 1), .inl (.laload, 1), .inl (.iload 7, 2), .inl (.i2l, 1), .inl (.lcmp, 1), .inl (.ifCond .eq 5, 3), .inl (.iconst 0, 1), .inl (.ireturn, 1)] 413 ls r rem st := (rfl)
theorem j_300_413 : mjmp k_300 K 413 ls r rem st = K 413 (mproj [0, 1, 2, 3, 4, 5, 6, 7] ls) r rem st := (rfl)
theorem lzne_415_15 {a : Int} : mstep P rt sg C J X post (.ifCond .ne 15) 415 ls (mi a :: r) rem st nx = ((mcmp .ne a 0 → J 430 ls r rem st) ∧ (¬ mcmp .ne a 0 → nx ls r rem st)) := e_ifc rfl
theorem lzeq_425_5 {a : Int} : mstep P rt sg C J X post (.ifCond .eq 5) 425 ls (mi a :: r) rem st nx = ((mcmp .eq a 0 → J 430 ls r rem st) ∧ (¬ mcmp .eq a 0 → nx ls r rem st)) := e_ifc rfl
theorem a_300_430 {C : mCall} {K : mK} : mat P_RL 1 sgL_ k_300 [] C K post 430 ls r rem st = mblk P_RL 1 sgL_ C (mjmp k_300 K) (mexc [] K post k_300) post [.inl (.goto 1989, 3)] 430 ls r rem st := (rfl)
theorem j_300_430 : mjmp k_300 K 430 ls r rem st = K 430 (mproj [0, 1, 2, 3, 4, 5] ls) r rem st := (rfl)
theorem lg_430_1989 : mstep P rt sg C J X post (.goto 1989) 430 ls r rem st nx = J 2419 ls r rem st := e_goto rfl
theorem a_300_433 {C : mCall} {K : mK} : mat P_RL 1 sgL_ k_300 [] C K post 433 ls r rem st = mblk P_RL 1 sgL_ C (mjmp k_300 K) (mexc [] K post k_300) post [.inl (.aload_n 1, 1), .inl (.aload_n 0, 1), .inl (.iload 5, 2), .inl (.iconst 1, 1), .inl (.iadd, 1), .inl (.iaload, 1), .inl (.aload_n 0, 1), .inl (.iload 5, 2), .inl (.iconst 2, 1), .inl (.iadd, 1), .inl (.iaload, 1), .inl (.aload_n 0, 1), .inl (.iload 5, 2), .inl (.iconst 3, 1), .inl (.iadd, 1), .inl (.iaload, 1), .inl (.aload_n 3, 1), .inl (.invokestatic 158, 3), .inl (.istore 6, 2), .inl (.aload_n 2, 1), .inl (.aload_n 0, 1), .inl (.iload 5, 2), .inl (.iconst 1, 1), .inl (.iadd, 1), .inl (.iaload, 1), .inl (.aload_n 0, 1), .inl (.iload 5, 2), .inl (.iconst 2, 1), .inl (.iadd, 1), .inl (.iaload, 1), .inl (.aload_n 0, 1), .inl (.iload 5, 2), .inl (.iconst 3, 1), .inl (.iadd, 1), .inl (.iaload, 1), .inl (.invokevirtual 161, 3), .inl (.istore 7, 2), .inl (.aload_n 2, 1), .inl (.invokevirtual 141, 3), .inl (.iload 6, 2), .inl (.if_icmp .eq 5, 3), .inl (.iconst 0, 1), .inl (.ireturn, 1)] 433 ls r rem st := (rfl)
theorem j_300_433 : mjmp k_300 K 433 ls r rem st = K 433 (mproj [0, 1, 2, 3, 4, 5] ls) r rem st := (rfl)
theorem vW_158 {a0 a1 a2 a3 a4 : mV} : mstep P_RL rt sgL_ C J X post (.invokestatic 158) pc ls (a4 :: a3 :: a2 :: a1 :: a0 :: r) rem st nx = cond (mroom r) (4 ≤ rem.1 ∧ 24 ≤ rem.2 ∧ C 205 [a0, a1, a2, a3, a4] st (mck X pc ls r (rem.1 - 4, rem.2 - 24) nx)) False := (rfl)
theorem vL_161 {a1 a2 a3 : mV} {i : Nat} : mstep P_RL rt sgL_ C J X post (.invokevirtual 161) pc ls (a3 :: a2 :: a1 :: mr 30 i :: r) rem st nx = cond (mroom r) (0 ≤ rem.1 ∧ 0 ≤ rem.2 ∧ C 13 [mr 30 i, a1, a2, a3] st (mck X pc ls r (rem.1 - 0, rem.2 - 0) nx)) False := (rfl)
theorem lceq_488_5 {a b : Int} : mstep P rt sg C J X post (.if_icmp .eq 5) 488 ls (mi b :: mi a :: r) rem st nx = ((mcmp .eq a b → J 493 ls r rem st) ∧ (¬ mcmp .eq a b → nx ls r rem st)) := e_icmp rfl
theorem a_300_493 {C : mCall} {K : mK} : mat P_RL 1 sgL_ k_300 [] C K post 493 ls r rem st = mblk P_RL 1 sgL_ C (mjmp k_300 K) (mexc [] K post k_300) post [.inl (.iload 6, 2), .inl (.ifCond .ne 15, 3), .inl (.aload_n 3, 1), .inl (.iconst 0, 1), .inl (.laload, 1), .inl (.iload 7, 2), .inl (.i2l, 1), .inl (.lcmp, 1), .inl (.ifCond .eq 5, 3), .inl (.iconst 0, 1), .inl (.ireturn, 1)] 493 ls r rem st := (rfl)
theorem j_300_493 : mjmp k_300 K 493 ls r rem st = K 493 (mproj [0, 1, 2, 3, 4, 5, 6, 7] ls) r rem st := (rfl)
theorem lzne_495_15 {a : Int} : mstep P rt sg C J X post (.ifCond .ne 15) 495 ls (mi a :: r) rem st nx = ((mcmp .ne a 0 → J 510 ls r rem st) ∧ (¬ mcmp .ne a 0 → nx ls r rem st)) := e_ifc rfl
theorem lzeq_505_5 {a : Int} : mstep P rt sg C J X post (.ifCond .eq 5) 505 ls (mi a :: r) rem st nx = ((mcmp .eq a 0 → J 510 ls r rem st) ∧ (¬ mcmp .eq a 0 → nx ls r rem st)) := e_ifc rfl
theorem a_300_510 {C : mCall} {K : mK} : mat P_RL 1 sgL_ k_300 [] C K post 510 ls r rem st = mblk P_RL 1 sgL_ C (mjmp k_300 K) (mexc [] K post k_300) post [.inl (.goto 1909, 3)] 510 ls r rem st := (rfl)
theorem j_300_510 : mjmp k_300 K 510 ls r rem st = K 510 (mproj [0, 1, 2, 3, 4, 5] ls) r rem st := (rfl)
theorem lg_510_1909 : mstep P rt sg C J X post (.goto 1909) 510 ls r rem st nx = J 2419 ls r rem st := e_goto rfl
theorem a_300_513 {C : mCall} {K : mK} : mat P_RL 1 sgL_ k_300 [] C K post 513 ls r rem st = mblk P_RL 1 sgL_ C (mjmp k_300 K) (mexc [] K post k_300) post [.inl (.aload_n 1, 1), .inl (.aload_n 0, 1), .inl (.iload 5, 2), .inl (.iconst 1, 1), .inl (.iadd, 1), .inl (.iaload, 1), .inl (.aload_n 0, 1), .inl (.iload 5, 2), .inl (.iconst 2, 1), .inl (.iadd, 1), .inl (.iaload, 1), .inl (.aload_n 0, 1), .inl (.iload 5, 2), .inl (.iconst 3, 1), .inl (.iadd, 1), .inl (.iaload, 1), .inl (.aload_n 3, 1), .inl (.invokestatic 162, 3), .inl (.istore 6, 2), .inl (.aload_n 2, 1), .inl (.aload_n 0, 1), .inl (.iload 5, 2), .inl (.iconst 1, 1), .inl (.iadd, 1), .inl (.iaload, 1), .inl (.aload_n 0, 1), .inl (.iload 5, 2), .inl (.iconst 2, 1), .inl (.iadd, 1), .inl (.iaload, 1), .inl (.aload_n 0, 1), .inl (.iload 5, 2), .inl (.iconst 3, 1), .inl (.iadd, 1), .inl (.iaload, 1), .inl (.invokevirtual 164, 3), .inl (.istore 7, 2), .inl (.aload_n 2, 1), .inl (.invokevirtual 141, 3), .inl (.iload 6, 2), .inl (.if_icmp .eq 5, 3), .inl (.iconst 0, 1), .inl (.ireturn, 1)] 513 ls r rem st := (rfl)
theorem j_300_513 : mjmp k_300 K 513 ls r rem st = K 513 (mproj [0, 1, 2, 3, 4, 5] ls) r rem st := (rfl)
theorem vW_162 {a0 a1 a2 a3 a4 : mV} : mstep P_RL rt sgL_ C J X post (.invokestatic 162) pc ls (a4 :: a3 :: a2 :: a1 :: a0 :: r) rem st nx = cond (mroom r) (5 ≤ rem.1 ∧ 30 ≤ rem.2 ∧ C 206 [a0, a1, a2, a3, a4] st (mck X pc ls r (rem.1 - 5, rem.2 - 30) nx)) False := (rfl)
theorem vL_164 {a1 a2 a3 : mV} {i : Nat} : mstep P_RL rt sgL_ C J X post (.invokevirtual 164) pc ls (a3 :: a2 :: a1 :: mr 30 i :: r) rem st nx = cond (mroom r) (0 ≤ rem.1 ∧ 0 ≤ rem.2 ∧ C 14 [mr 30 i, a1, a2, a3] st (mck X pc ls r (rem.1 - 0, rem.2 - 0) nx)) False := (rfl)
theorem lceq_568_5 {a b : Int} : mstep P rt sg C J X post (.if_icmp .eq 5) 568 ls (mi b :: mi a :: r) rem st nx = ((mcmp .eq a b → J 573 ls r rem st) ∧ (¬ mcmp .eq a b → nx ls r rem st)) := e_icmp rfl
theorem a_300_573 {C : mCall} {K : mK} : mat P_RL 1 sgL_ k_300 [] C K post 573 ls r rem st = mblk P_RL 1 sgL_ C (mjmp k_300 K) (mexc [] K post k_300) post [.inl (.iload 6, 2), .inl (.ifCond .ne 15, 3), .inl (.aload_n 3, 1), .inl (.iconst 0, 1), .inl (.laload, 1), .inl (.iload 7, 2), .inl (.i2l, 1), .inl (.lcmp, 1), .inl (.ifCond .eq 5, 3), .inl (.iconst 0, 1), .inl (.ireturn, 1)] 573 ls r rem st := (rfl)
theorem j_300_573 : mjmp k_300 K 573 ls r rem st = K 573 (mproj [0, 1, 2, 3, 4, 5, 6, 7] ls) r rem st := (rfl)
theorem lzne_575_15 {a : Int} : mstep P rt sg C J X post (.ifCond .ne 15) 575 ls (mi a :: r) rem st nx = ((mcmp .ne a 0 → J 590 ls r rem st) ∧ (¬ mcmp .ne a 0 → nx ls r rem st)) := e_ifc rfl
theorem lzeq_585_5 {a : Int} : mstep P rt sg C J X post (.ifCond .eq 5) 585 ls (mi a :: r) rem st nx = ((mcmp .eq a 0 → J 590 ls r rem st) ∧ (¬ mcmp .eq a 0 → nx ls r rem st)) := e_ifc rfl
theorem a_300_590 {C : mCall} {K : mK} : mat P_RL 1 sgL_ k_300 [] C K post 590 ls r rem st = mblk P_RL 1 sgL_ C (mjmp k_300 K) (mexc [] K post k_300) post [.inl (.goto 1829, 3)] 590 ls r rem st := (rfl)
theorem j_300_590 : mjmp k_300 K 590 ls r rem st = K 590 (mproj [0, 1, 2, 3, 4, 5] ls) r rem st := (rfl)
theorem lg_590_1829 : mstep P rt sg C J X post (.goto 1829) 590 ls r rem st nx = J 2419 ls r rem st := e_goto rfl
theorem a_300_593 {C : mCall} {K : mK} : mat P_RL 1 sgL_ k_300 [] C K post 593 ls r rem st = mblk P_RL 1 sgL_ C (mjmp k_300 K) (mexc [] K post k_300) post [.inl (.aload_n 1, 1), .inl (.aload_n 0, 1), .inl (.iload 5, 2), .inl (.iconst 1, 1), .inl (.iadd, 1), .inl (.iaload, 1), .inl (.aload_n 0, 1), .inl (.iload 5, 2), .inl (.iconst 2, 1), .inl (.iadd, 1), .inl (.iaload, 1), .inl (.aload_n 3, 1), .inl (.invokestatic 165, 3), .inl (.istore 6, 2), .inl (.aload_n 2, 1), .inl (.aload_n 0, 1), .inl (.iload 5, 2), .inl (.iconst 1, 1), .inl (.iadd, 1), .inl (.iaload, 1), .inl (.aload_n 0, 1), .inl (.iload 5, 2), .inl (.iconst 2, 1), .inl (.iadd, 1), .inl (.iaload, 1), .inl (.invokevirtual 168, 3), .inl (.istore 7, 2), .inl (.aload_n 2, 1), .inl (.invokevirtual 141, 3), .inl (.iload 6, 2), .inl (.if_icmp .eq 5, 3), .inl (.iconst 0, 1), .inl (.ireturn, 1)] 593 ls r rem st := (rfl)
theorem j_300_593 : mjmp k_300 K 593 ls r rem st = K 593 (mproj [0, 1, 2, 3, 4, 5] ls) r rem st := (rfl)
theorem vW_165 {a0 a1 a2 a3 : mV} : mstep P_RL rt sgL_ C J X post (.invokestatic 165) pc ls (a3 :: a2 :: a1 :: a0 :: r) rem st nx = cond (mroom r) (3 ≤ rem.1 ∧ 18 ≤ rem.2 ∧ C 207 [a0, a1, a2, a3] st (mck X pc ls r (rem.1 - 3, rem.2 - 18) nx)) False := (rfl)
theorem vL_168 {a1 a2 : mV} {i : Nat} : mstep P_RL rt sgL_ C J X post (.invokevirtual 168) pc ls (a2 :: a1 :: mr 30 i :: r) rem st nx = cond (mroom r) (0 ≤ rem.1 ∧ 0 ≤ rem.2 ∧ C 15 [mr 30 i, a1, a2] st (mck X pc ls r (rem.1 - 0, rem.2 - 0) nx)) False := (rfl)
theorem lceq_636_5 {a b : Int} : mstep P rt sg C J X post (.if_icmp .eq 5) 636 ls (mi b :: mi a :: r) rem st nx = ((mcmp .eq a b → J 641 ls r rem st) ∧ (¬ mcmp .eq a b → nx ls r rem st)) := e_icmp rfl
theorem a_300_641 {C : mCall} {K : mK} : mat P_RL 1 sgL_ k_300 [] C K post 641 ls r rem st = mblk P_RL 1 sgL_ C (mjmp k_300 K) (mexc [] K post k_300) post [.inl (.iload 6, 2), .inl (.ifCond .ne 15, 3), .inl (.aload_n 3, 1), .inl (.iconst 0, 1), .inl (.laload, 1), .inl (.iload 7, 2), .inl (.i2l, 1), .inl (.lcmp, 1), .inl (.ifCond .eq 5, 3), .inl (.iconst 0, 1), .inl (.ireturn, 1)] 641 ls r rem st := (rfl)
theorem j_300_641 : mjmp k_300 K 641 ls r rem st = K 641 (mproj [0, 1, 2, 3, 4, 5, 6, 7] ls) r rem st := (rfl)
theorem lzne_643_15 {a : Int} : mstep P rt sg C J X post (.ifCond .ne 15) 643 ls (mi a :: r) rem st nx = ((mcmp .ne a 0 → J 658 ls r rem st) ∧ (¬ mcmp .ne a 0 → nx ls r rem st)) := e_ifc rfl
theorem lzeq_653_5 {a : Int} : mstep P rt sg C J X post (.ifCond .eq 5) 653 ls (mi a :: r) rem st nx = ((mcmp .eq a 0 → J 658 ls r rem st) ∧ (¬ mcmp .eq a 0 → nx ls r rem st)) := e_ifc rfl
theorem a_300_658 {C : mCall} {K : mK} : mat P_RL 1 sgL_ k_300 [] C K post 658 ls r rem st = mblk P_RL 1 sgL_ C (mjmp k_300 K) (mexc [] K post k_300) post [.inl (.goto 1761, 3)] 658 ls r rem st := (rfl)
theorem j_300_658 : mjmp k_300 K 658 ls r rem st = K 658 (mproj [0, 1, 2, 3, 4, 5] ls) r rem st := (rfl)
theorem lg_658_1761 : mstep P rt sg C J X post (.goto 1761) 658 ls r rem st nx = J 2419 ls r rem st := e_goto rfl
theorem a_300_661 {C : mCall} {K : mK} : mat P_RL 1 sgL_ k_300 [] C K post 661 ls r rem st = mblk P_RL 1 sgL_ C (mjmp k_300 K) (mexc [] K post k_300) post [.inl (.aload_n 1, 1), .inl (.aload_n 0, 1), .inl (.iload 5, 2), .inl (.iconst 1, 1), .inl (.iadd, 1), .inl (.iaload, 1), .inl (.aload_n 0, 1), .inl (.iload 5, 2), .inl (.iconst 2, 1), .inl (.iadd, 1), .inl (.iaload, 1), .inl (.aload_n 3, 1), .inl (.invokestatic 169, 3), .inl (.istore 6, 2), .inl (.aload_n 2, 1), .inl (.aload_n 0, 1), .inl (.iload 5, 2), .inl (.iconst 1, 1), .inl (.iadd, 1), .inl (.iaload, 1), .inl (.aload_n 0, 1), .inl (.iload 5, 2), .inl (.iconst 2, 1), .inl (.iadd, 1), .inl (.iaload, 1), .inl (.invokevirtual 171, 3), .inl (.istore 7, 2), .inl (.aload_n 2, 1), .inl (.invokevirtual 141, 3), .inl (.iload 6, 2), .inl (.if_icmp .eq 5, 3), .inl (.iconst 0, 1), .inl (.ireturn, 1)] 661 ls r rem st := (rfl)
theorem j_300_661 : mjmp k_300 K 661 ls r rem st = K 661 (mproj [0, 1, 2, 3, 4, 5] ls) r rem st := (rfl)
theorem vW_169 {a0 a1 a2 a3 : mV} : mstep P_RL rt sgL_ C J X post (.invokestatic 169) pc ls (a3 :: a2 :: a1 :: a0 :: r) rem st nx = cond (mroom r) (2 ≤ rem.1 ∧ 12 ≤ rem.2 ∧ C 208 [a0, a1, a2, a3] st (mck X pc ls r (rem.1 - 2, rem.2 - 12) nx)) False := (rfl)
theorem vL_171 {a1 a2 : mV} {i : Nat} : mstep P_RL rt sgL_ C J X post (.invokevirtual 171) pc ls (a2 :: a1 :: mr 30 i :: r) rem st nx = cond (mroom r) (0 ≤ rem.1 ∧ 0 ≤ rem.2 ∧ C 19 [mr 30 i, a1, a2] st (mck X pc ls r (rem.1 - 0, rem.2 - 0) nx)) False := (rfl)
theorem lceq_704_5 {a b : Int} : mstep P rt sg C J X post (.if_icmp .eq 5) 704 ls (mi b :: mi a :: r) rem st nx = ((mcmp .eq a b → J 709 ls r rem st) ∧ (¬ mcmp .eq a b → nx ls r rem st)) := e_icmp rfl
theorem a_300_709 {C : mCall} {K : mK} : mat P_RL 1 sgL_ k_300 [] C K post 709 ls r rem st = mblk P_RL 1 sgL_ C (mjmp k_300 K) (mexc [] K post k_300) post [.inl (.iload 6, 2), .inl (.ifCond .ne 15, 3), .inl (.aload_n 3, 1), .inl (.iconst 0, 1), .inl (.laload, 1), .inl (.iload 7, 2), .inl (.i2l, 1), .inl (.lcmp, 1), .inl (.ifCond .eq 5, 3), .inl (.iconst 0, 1), .inl (.ireturn, 1)] 709 ls r rem st := (rfl)
theorem j_300_709 : mjmp k_300 K 709 ls r rem st = K 709 (mproj [0, 1, 2, 3, 4, 5, 6, 7] ls) r rem st := (rfl)
theorem lzne_711_15 {a : Int} : mstep P rt sg C J X post (.ifCond .ne 15) 711 ls (mi a :: r) rem st nx = ((mcmp .ne a 0 → J 726 ls r rem st) ∧ (¬ mcmp .ne a 0 → nx ls r rem st)) := e_ifc rfl
theorem lzeq_721_5 {a : Int} : mstep P rt sg C J X post (.ifCond .eq 5) 721 ls (mi a :: r) rem st nx = ((mcmp .eq a 0 → J 726 ls r rem st) ∧ (¬ mcmp .eq a 0 → nx ls r rem st)) := e_ifc rfl
theorem a_300_726 {C : mCall} {K : mK} : mat P_RL 1 sgL_ k_300 [] C K post 726 ls r rem st = mblk P_RL 1 sgL_ C (mjmp k_300 K) (mexc [] K post k_300) post [.inl (.goto 1693, 3)] 726 ls r rem st := (rfl)
theorem j_300_726 : mjmp k_300 K 726 ls r rem st = K 726 (mproj [0, 1, 2, 3, 4, 5] ls) r rem st := (rfl)
theorem lg_726_1693 : mstep P rt sg C J X post (.goto 1693) 726 ls r rem st nx = J 2419 ls r rem st := e_goto rfl
theorem a_300_729 {C : mCall} {K : mK} : mat P_RL 1 sgL_ k_300 [] C K post 729 ls r rem st = mblk P_RL 1 sgL_ C (mjmp k_300 K) (mexc [] K post k_300) post [.inl (.aload_n 1, 1), .inl (.aload_n 0, 1), .inl (.iload 5, 2), .inl (.iconst 1, 1), .inl (.iadd, 1), .inl (.iaload, 1), .inl (.aload_n 3, 1), .inl (.invokestatic 172, 3), .inl (.istore 6, 2), .inl (.aload_n 2, 1), .inl (.aload_n 0, 1), .inl (.iload 5, 2), .inl (.iconst 1, 1), .inl (.iadd, 1), .inl (.iaload, 1), .inl (.invokevirtual 174, 3), .inl (.istore 7, 2), .inl (.aload_n 2, 1), .inl (.invokevirtual 141, 3), .inl (.iload 6, 2), .inl (.if_icmp .eq 5, 3), .inl (.iconst 0, 1), .inl (.ireturn, 1)] 729 ls r rem st := (rfl)
theorem j_300_729 : mjmp k_300 K 729 ls r rem st = K 729 (mproj [0, 1, 2, 3, 4, 5] ls) r rem st := (rfl)
theorem vW_172 {a0 a1 a2 : mV} : mstep P_RL rt sgL_ C J X post (.invokestatic 172) pc ls (a2 :: a1 :: a0 :: r) rem st nx = cond (mroom r) (2 ≤ rem.1 ∧ 12 ≤ rem.2 ∧ C 209 [a0, a1, a2] st (mck X pc ls r (rem.1 - 2, rem.2 - 12) nx)) False := (rfl)
theorem vL_174 {a1 : mV} {i : Nat} : mstep P_RL rt sgL_ C J X post (.invokevirtual 174) pc ls (a1 :: mr 30 i :: r) rem st nx = cond (mroom r) (0 ≤ rem.1 ∧ 0 ≤ rem.2 ∧ C 20 [mr 30 i, a1] st (mck X pc ls r (rem.1 - 0, rem.2 - 0) nx)) False := (rfl)
theorem lceq_760_5 {a b : Int} : mstep P rt sg C J X post (.if_icmp .eq 5) 760 ls (mi b :: mi a :: r) rem st nx = ((mcmp .eq a b → J 765 ls r rem st) ∧ (¬ mcmp .eq a b → nx ls r rem st)) := e_icmp rfl
theorem a_300_765 {C : mCall} {K : mK} : mat P_RL 1 sgL_ k_300 [] C K post 765 ls r rem st = mblk P_RL 1 sgL_ C (mjmp k_300 K) (mexc [] K post k_300) post [.inl (.iload 6, 2), .inl (.ifCond .ne 15, 3), .inl (.aload_n 3, 1), .inl (.iconst 0, 1), .inl (.laload, 1), .inl (.iload 7, 2), .inl (.i2l, 1), .inl (.lcmp, 1), .inl (.ifCond .eq 5, 3), .inl (.iconst 0, 1), .inl (.ireturn, 1)] 765 ls r rem st := (rfl)
theorem j_300_765 : mjmp k_300 K 765 ls r rem st = K 765 (mproj [0, 1, 2, 3, 4, 5, 6, 7] ls) r rem st := (rfl)
theorem lzne_767_15 {a : Int} : mstep P rt sg C J X post (.ifCond .ne 15) 767 ls (mi a :: r) rem st nx = ((mcmp .ne a 0 → J 782 ls r rem st) ∧ (¬ mcmp .ne a 0 → nx ls r rem st)) := e_ifc rfl
theorem lzeq_777_5 {a : Int} : mstep P rt sg C J X post (.ifCond .eq 5) 777 ls (mi a :: r) rem st nx = ((mcmp .eq a 0 → J 782 ls r rem st) ∧ (¬ mcmp .eq a 0 → nx ls r rem st)) := e_ifc rfl
theorem a_300_782 {C : mCall} {K : mK} : mat P_RL 1 sgL_ k_300 [] C K post 782 ls r rem st = mblk P_RL 1 sgL_ C (mjmp k_300 K) (mexc [] K post k_300) post [.inl (.goto 1637, 3)] 782 ls r rem st := (rfl)
theorem j_300_782 : mjmp k_300 K 782 ls r rem st = K 782 (mproj [0, 1, 2, 3, 4, 5] ls) r rem st := (rfl)
theorem lg_782_1637 : mstep P rt sg C J X post (.goto 1637) 782 ls r rem st nx = J 2419 ls r rem st := e_goto rfl
theorem a_300_785 {C : mCall} {K : mK} : mat P_RL 1 sgL_ k_300 [] C K post 785 ls r rem st = mblk P_RL 1 sgL_ C (mjmp k_300 K) (mexc [] K post k_300) post [.inl (.aload_n 1, 1), .inl (.aload_n 0, 1), .inl (.iload 5, 2), .inl (.iconst 1, 1), .inl (.iadd, 1), .inl (.iaload, 1), .inl (.aload_n 0, 1), .inl (.iload 5, 2), .inl (.iconst 2, 1), .inl (.iadd, 1), .inl (.iaload, 1), .inl (.aload_n 0, 1), .inl (.iload 5, 2), .inl (.iconst 3, 1), .inl (.iadd, 1), .inl (.iaload, 1), .inl (.aload_n 0, 1), .inl (.iload 5, 2), .inl (.iconst 4, 1), .inl (.iadd, 1), .inl (.iaload, 1), .inl (.aload_n 3, 1), .inl (.invokestatic 175, 3), .inl (.istore 6, 2), .inl (.aload_n 2, 1), .inl (.aload_n 0, 1), .inl (.iload 5, 2), .inl (.iconst 1, 1), .inl (.iadd, 1), .inl (.iaload, 1), .inl (.aload_n 0, 1), .inl (.iload 5, 2), .inl (.iconst 2, 1), .inl (.iadd, 1), .inl (.iaload, 1), .inl (.aload_n 0, 1), .inl (.iload 5, 2), .inl (.iconst 3, 1), .inl (.iadd, 1), .inl (.iaload, 1), .inl (.aload_n 0, 1), .inl (.iload 5, 2), .inl (.iconst 4, 1), .inl (.iadd, 1), .inl (.iaload, 1), .inl (.invokevirtual 178, 3), .inl (.istore 7, 2), .inl (.aload_n 2, 1), .inl (.invokevirtual 141, 3), .inl (.iload 6, 2), .inl (.if_icmp .eq 5, 3), .inl (.iconst 0, 1), .inl (.ireturn, 1)] 785 ls r rem st := (rfl)
theorem j_300_785 : mjmp k_300 K 785 ls r rem st = K 785 (mproj [0, 1, 2, 3, 4, 5] ls) r rem st := (rfl)
theorem vW_175 {a0 a1 a2 a3 a4 a5 : mV} : mstep P_RL rt sgL_ C J X post (.invokestatic 175) pc ls (a5 :: a4 :: a3 :: a2 :: a1 :: a0 :: r) rem st nx = cond (mroom r) (3 ≤ rem.1 ∧ 18 ≤ rem.2 ∧ C 210 [a0, a1, a2, a3, a4, a5] st (mck X pc ls r (rem.1 - 3, rem.2 - 18) nx)) False := (rfl)
theorem vL_178 {a1 a2 a3 a4 : mV} {i : Nat} : mstep P_RL rt sgL_ C J X post (.invokevirtual 178) pc ls (a4 :: a3 :: a2 :: a1 :: mr 30 i :: r) rem st nx = cond (mroom r) (0 ≤ rem.1 ∧ 0 ≤ rem.2 ∧ C 21 [mr 30 i, a1, a2, a3, a4] st (mck X pc ls r (rem.1 - 0, rem.2 - 0) nx)) False := (rfl)
theorem lceq_852_5 {a b : Int} : mstep P rt sg C J X post (.if_icmp .eq 5) 852 ls (mi b :: mi a :: r) rem st nx = ((mcmp .eq a b → J 857 ls r rem st) ∧ (¬ mcmp .eq a b → nx ls r rem st)) := e_icmp rfl
theorem a_300_857 {C : mCall} {K : mK} : mat P_RL 1 sgL_ k_300 [] C K post 857 ls r rem st = mblk P_RL 1 sgL_ C (mjmp k_300 K) (mexc [] K post k_300) post [.inl (.iload 6, 2), .inl (.ifCond .ne 15, 3), .inl (.aload_n 3, 1), .inl (.iconst 0, 1), .inl (.laload, 1), .inl (.iload 7, 2), .inl (.i2l, 1), .inl (.lcmp, 1), .inl (.ifCond .eq 5, 3), .inl (.iconst 0, 1), .inl (.ireturn, 1)] 857 ls r rem st := (rfl)
theorem j_300_857 : mjmp k_300 K 857 ls r rem st = K 857 (mproj [0, 1, 2, 3, 4, 5, 6, 7] ls) r rem st := (rfl)
theorem lzne_859_15 {a : Int} : mstep P rt sg C J X post (.ifCond .ne 15) 859 ls (mi a :: r) rem st nx = ((mcmp .ne a 0 → J 874 ls r rem st) ∧ (¬ mcmp .ne a 0 → nx ls r rem st)) := e_ifc rfl
theorem lzeq_869_5 {a : Int} : mstep P rt sg C J X post (.ifCond .eq 5) 869 ls (mi a :: r) rem st nx = ((mcmp .eq a 0 → J 874 ls r rem st) ∧ (¬ mcmp .eq a 0 → nx ls r rem st)) := e_ifc rfl
theorem a_300_874 {C : mCall} {K : mK} : mat P_RL 1 sgL_ k_300 [] C K post 874 ls r rem st = mblk P_RL 1 sgL_ C (mjmp k_300 K) (mexc [] K post k_300) post [.inl (.goto 1545, 3)] 874 ls r rem st := (rfl)
theorem j_300_874 : mjmp k_300 K 874 ls r rem st = K 874 (mproj [0, 1, 2, 3, 4, 5] ls) r rem st := (rfl)
theorem lg_874_1545 : mstep P rt sg C J X post (.goto 1545) 874 ls r rem st nx = J 2419 ls r rem st := e_goto rfl
theorem a_300_877 {C : mCall} {K : mK} : mat P_RL 1 sgL_ k_300 [] C K post 877 ls r rem st = mblk P_RL 1 sgL_ C (mjmp k_300 K) (mexc [] K post k_300) post [.inl (.aload_n 1, 1), .inl (.aload_n 0, 1), .inl (.iload 5, 2), .inl (.iconst 1, 1), .inl (.iadd, 1), .inl (.iaload, 1), .inl (.aload_n 3, 1), .inl (.invokestatic 179, 3), .inl (.istore 6, 2), .inl (.aload_n 2, 1), .inl (.aload_n 0, 1), .inl (.iload 5, 2), .inl (.iconst 1, 1), .inl (.iadd, 1), .inl (.iaload, 1), .inl (.invokevirtual 181, 3), .inl (.istore 7, 2), .inl (.aload_n 2, 1), .inl (.invokevirtual 141, 3), .inl (.iload 6, 2), .inl (.if_icmp .eq 5, 3), .inl (.iconst 0, 1), .inl (.ireturn, 1)] 877 ls r rem st := (rfl)
theorem j_300_877 : mjmp k_300 K 877 ls r rem st = K 877 (mproj [0, 1, 2, 3, 4, 5] ls) r rem st := (rfl)
theorem vW_179 {a0 a1 a2 : mV} : mstep P_RL rt sgL_ C J X post (.invokestatic 179) pc ls (a2 :: a1 :: a0 :: r) rem st nx = cond (mroom r) (2 ≤ rem.1 ∧ 12 ≤ rem.2 ∧ C 211 [a0, a1, a2] st (mck X pc ls r (rem.1 - 2, rem.2 - 12) nx)) False := (rfl)
theorem vL_181 {a1 : mV} {i : Nat} : mstep P_RL rt sgL_ C J X post (.invokevirtual 181) pc ls (a1 :: mr 30 i :: r) rem st nx = cond (mroom r) (0 ≤ rem.1 ∧ 0 ≤ rem.2 ∧ C 22 [mr 30 i, a1] st (mck X pc ls r (rem.1 - 0, rem.2 - 0) nx)) False := (rfl)
theorem lceq_908_5 {a b : Int} : mstep P rt sg C J X post (.if_icmp .eq 5) 908 ls (mi b :: mi a :: r) rem st nx = ((mcmp .eq a b → J 913 ls r rem st) ∧ (¬ mcmp .eq a b → nx ls r rem st)) := e_icmp rfl
theorem a_300_913 {C : mCall} {K : mK} : mat P_RL 1 sgL_ k_300 [] C K post 913 ls r rem st = mblk P_RL 1 sgL_ C (mjmp k_300 K) (mexc [] K post k_300) post [.inl (.iload 6, 2), .inl (.ifCond .ne 15, 3), .inl (.aload_n 3, 1), .inl (.iconst 0, 1), .inl (.laload, 1), .inl (.iload 7, 2), .inl (.i2l, 1), .inl (.lcmp, 1), .inl (.ifCond .eq 5, 3), .inl (.iconst 0, 1), .inl (.ireturn, 1)] 913 ls r rem st := (rfl)
theorem j_300_913 : mjmp k_300 K 913 ls r rem st = K 913 (mproj [0, 1, 2, 3, 4, 5, 6, 7] ls) r rem st := (rfl)
theorem lzne_915_15 {a : Int} : mstep P rt sg C J X post (.ifCond .ne 15) 915 ls (mi a :: r) rem st nx = ((mcmp .ne a 0 → J 930 ls r rem st) ∧ (¬ mcmp .ne a 0 → nx ls r rem st)) := e_ifc rfl
theorem lzeq_925_5 {a : Int} : mstep P rt sg C J X post (.ifCond .eq 5) 925 ls (mi a :: r) rem st nx = ((mcmp .eq a 0 → J 930 ls r rem st) ∧ (¬ mcmp .eq a 0 → nx ls r rem st)) := e_ifc rfl
theorem a_300_930 {C : mCall} {K : mK} : mat P_RL 1 sgL_ k_300 [] C K post 930 ls r rem st = mblk P_RL 1 sgL_ C (mjmp k_300 K) (mexc [] K post k_300) post [.inl (.goto 1489, 3)] 930 ls r rem st := (rfl)
theorem j_300_930 : mjmp k_300 K 930 ls r rem st = K 930 (mproj [0, 1, 2, 3, 4, 5] ls) r rem st := (rfl)
theorem lg_930_1489 : mstep P rt sg C J X post (.goto 1489) 930 ls r rem st nx = J 2419 ls r rem st := e_goto rfl
theorem a_300_933 {C : mCall} {K : mK} : mat P_RL 1 sgL_ k_300 [] C K post 933 ls r rem st = mblk P_RL 1 sgL_ C (mjmp k_300 K) (mexc [] K post k_300) post [.inl (.aload_n 1, 1), .inl (.aload_n 0, 1), .inl (.iload 5, 2), .inl (.iconst 1, 1), .inl (.iadd, 1), .inl (.iaload, 1), .inl (.aload_n 0, 1), .inl (.iload 5, 2), .inl (.iconst 2, 1), .inl (.iadd, 1), .inl (.iaload, 1), .inl (.aload_n 3, 1), .inl (.invokestatic 182, 3), .inl (.istore 6, 2), .inl (.aload_n 2, 1), .inl (.aload_n 0, 1), .inl (.iload 5, 2), .inl (.iconst 1, 1), .inl (.iadd, 1), .inl (.iaload, 1), .inl (.aload_n 0, 1), .inl (.iload 5, 2), .inl (.iconst 2, 1), .inl (.iadd, 1), .inl (.iaload, 1), .inl (.invokevirtual 184, 3), .inl (.istore 7, 2), .inl (.aload_n 2, 1), .inl (.invokevirtual 141, 3), .inl (.iload 6, 2), .inl (.if_icmp .eq 5, 3), .inl (.iconst 0, 1), .inl (.ireturn, 1)] 933 ls r rem st := (rfl)
theorem j_300_933 : mjmp k_300 K 933 ls r rem st = K 933 (mproj [0, 1, 2, 3, 4, 5] ls) r rem st := (rfl)
theorem vW_182 {a0 a1 a2 a3 : mV} : mstep P_RL rt sgL_ C J X post (.invokestatic 182) pc ls (a3 :: a2 :: a1 :: a0 :: r) rem st nx = cond (mroom r) (2 ≤ rem.1 ∧ 12 ≤ rem.2 ∧ C 212 [a0, a1, a2, a3] st (mck X pc ls r (rem.1 - 2, rem.2 - 12) nx)) False := (rfl)
theorem vL_184 {a1 a2 : mV} {i : Nat} : mstep P_RL rt sgL_ C J X post (.invokevirtual 184) pc ls (a2 :: a1 :: mr 30 i :: r) rem st nx = cond (mroom r) (0 ≤ rem.1 ∧ 0 ≤ rem.2 ∧ C 23 [mr 30 i, a1, a2] st (mck X pc ls r (rem.1 - 0, rem.2 - 0) nx)) False := (rfl)
theorem lceq_976_5 {a b : Int} : mstep P rt sg C J X post (.if_icmp .eq 5) 976 ls (mi b :: mi a :: r) rem st nx = ((mcmp .eq a b → J 981 ls r rem st) ∧ (¬ mcmp .eq a b → nx ls r rem st)) := e_icmp rfl
theorem a_300_981 {C : mCall} {K : mK} : mat P_RL 1 sgL_ k_300 [] C K post 981 ls r rem st = mblk P_RL 1 sgL_ C (mjmp k_300 K) (mexc [] K post k_300) post [.inl (.iload 6, 2), .inl (.ifCond .ne 22, 3), .inl (.aload_n 3, 1), .inl (.iconst 0, 1), .inl (.laload, 1), .inl (.iload 7, 2), .inl (.ifCond .eq 7, 3), .inl (.lconst 1, 1), .inl (.goto 4, 3)] 981 ls r rem st := (rfl)
theorem j_300_981 : mjmp k_300 K 981 ls r rem st = K 981 (mproj [0, 1, 2, 3, 4, 5, 6, 7] ls) r rem st := (rfl)
theorem lzne_983_22 {a : Int} : mstep P rt sg C J X post (.ifCond .ne 22) 983 ls (mi a :: r) rem st nx = ((mcmp .ne a 0 → J 1005 ls r rem st) ∧ (¬ mcmp .ne a 0 → nx ls r rem st)) := e_ifc rfl
theorem lzeq_991_7 {a : Int} : mstep P rt sg C J X post (.ifCond .eq 7) 991 ls (mi a :: r) rem st nx = ((mcmp .eq a 0 → J 998 ls r rem st) ∧ (¬ mcmp .eq a 0 → nx ls r rem st)) := e_ifc rfl
theorem lg_995_4 : mstep P rt sg C J X post (.goto 4) 995 ls r rem st nx = J 999 ls r rem st := e_goto rfl
theorem a_300_998 {C : mCall} {K : mK} : mat P_RL 1 sgL_ k_300 [] C K post 998 ls r rem st = mblk P_RL 1 sgL_ C (mjmp k_300 K) (mexc [] K post k_300) post [.inl (.lconst 0, 1)] 998 ls r rem st := (rfl)
theorem j_300_998 : mjmp k_300 K 998 ls r rem st = K 998 (mproj [0, 1, 2, 3, 4, 5] ls) r rem st := (rfl)
theorem a_300_999 {C : mCall} {K : mK} : mat P_RL 1 sgL_ k_300 [] C K post 999 ls r rem st = mblk P_RL 1 sgL_ C (mjmp k_300 K) (mexc [] K post k_300) post [.inl (.lcmp, 1), .inl (.ifCond .eq 5, 3), .inl (.iconst 0, 1), .inl (.ireturn, 1)] 999 ls r rem st := (rfl)
theorem j_300_999 : mjmp k_300 K 999 ls r rem st = K 999 (mproj [0, 1, 2, 3, 4, 5] ls) r rem st := (rfl)
theorem lzeq_1000_5 {a : Int} : mstep P rt sg C J X post (.ifCond .eq 5) 1000 ls (mi a :: r) rem st nx = ((mcmp .eq a 0 → J 1005 ls r rem st) ∧ (¬ mcmp .eq a 0 → nx ls r rem st)) := e_ifc rfl
theorem a_300_1005 {C : mCall} {K : mK} : mat P_RL 1 sgL_ k_300 [] C K post 1005 ls r rem st = mblk P_RL 1 sgL_ C (mjmp k_300 K) (mexc [] K post k_300) post [.inl (.goto 1414, 3)] 1005 ls r rem st := (rfl)
theorem j_300_1005 : mjmp k_300 K 1005 ls r rem st = K 1005 (mproj [0, 1, 2, 3, 4, 5] ls) r rem st := (rfl)
theorem lg_1005_1414 : mstep P rt sg C J X post (.goto 1414) 1005 ls r rem st nx = J 2419 ls r rem st := e_goto rfl
theorem a_300_1008 {C : mCall} {K : mK} : mat P_RL 1 sgL_ k_300 [] C K post 1008 ls r rem st = mblk P_RL 1 sgL_ C (mjmp k_300 K) (mexc [] K post k_300) post [.inl (.aload_n 1, 1), .inl (.aload_n 0, 1), .inl (.iload 5, 2), .inl (.iconst 1, 1), .inl (.iadd, 1), .inl (.iaload, 1), .inl (.aload_n 3, 1), .inl (.invokestatic 185, 3), .inl (.istore 6, 2), .inl (.aload_n 2, 1), .inl (.aload_n 0, 1), .inl (.iload 5, 2), .inl (.iconst 1, 1), .inl (.iadd, 1), .inl (.iaload, 1), .inl (.invokevirtual 187, 3), .inl (.istore 7, 2), .inl (.aload_n 2, 1), .inl (.invokevirtual 141, 3), .inl (.iload 6, 2), .inl (.if_icmp .eq 5, 3), .inl (.iconst 0, 1), .inl (.ireturn, 1)] 1008 ls r rem st := (rfl)
theorem j_300_1008 : mjmp k_300 K 1008 ls r rem st = K 1008 (mproj [0, 1, 2, 3, 4, 5] ls) r rem st := (rfl)
theorem vW_185 {a0 a1 a2 : mV} : mstep P_RL rt sgL_ C J X post (.invokestatic 185) pc ls (a2 :: a1 :: a0 :: r) rem st nx = cond (mroom r) (5 ≤ rem.1 ∧ 84 ≤ rem.2 ∧ C 213 [a0, a1, a2] st (mck X pc ls r (rem.1 - 5, rem.2 - 84) nx)) False := (rfl)
theorem vL_187 {a1 : mV} {i : Nat} : mstep P_RL rt sgL_ C J X post (.invokevirtual 187) pc ls (a1 :: mr 30 i :: r) rem st nx = cond (mroom r) (0 ≤ rem.1 ∧ 0 ≤ rem.2 ∧ C 24 [mr 30 i, a1] st (mck X pc ls r (rem.1 - 0, rem.2 - 0) nx)) False := (rfl)
theorem lceq_1039_5 {a b : Int} : mstep P rt sg C J X post (.if_icmp .eq 5) 1039 ls (mi b :: mi a :: r) rem st nx = ((mcmp .eq a b → J 1044 ls r rem st) ∧ (¬ mcmp .eq a b → nx ls r rem st)) := e_icmp rfl
theorem a_300_1044 {C : mCall} {K : mK} : mat P_RL 1 sgL_ k_300 [] C K post 1044 ls r rem st = mblk P_RL 1 sgL_ C (mjmp k_300 K) (mexc [] K post k_300) post [.inl (.iload 6, 2), .inl (.ifCond .ne 15, 3), .inl (.aload_n 3, 1), .inl (.iconst 0, 1), .inl (.laload, 1), .inl (.iload 7, 2), .inl (.i2l, 1), .inl (.lcmp, 1), .inl (.ifCond .eq 5, 3), .inl (.iconst 0, 1), .inl (.ireturn, 1)] 1044 ls r rem st := (rfl)
theorem j_300_1044 : mjmp k_300 K 1044 ls r rem st = K 1044 (mproj [0, 1, 2, 3, 4, 5, 6, 7] ls) r rem st := (rfl)
theorem lzne_1046_15 {a : Int} : mstep P rt sg C J X post (.ifCond .ne 15) 1046 ls (mi a :: r) rem st nx = ((mcmp .ne a 0 → J 1061 ls r rem st) ∧ (¬ mcmp .ne a 0 → nx ls r rem st)) := e_ifc rfl
theorem lzeq_1056_5 {a : Int} : mstep P rt sg C J X post (.ifCond .eq 5) 1056 ls (mi a :: r) rem st nx = ((mcmp .eq a 0 → J 1061 ls r rem st) ∧ (¬ mcmp .eq a 0 → nx ls r rem st)) := e_ifc rfl
theorem a_300_1061 {C : mCall} {K : mK} : mat P_RL 1 sgL_ k_300 [] C K post 1061 ls r rem st = mblk P_RL 1 sgL_ C (mjmp k_300 K) (mexc [] K post k_300) post [.inl (.goto 1358, 3)] 1061 ls r rem st := (rfl)
theorem j_300_1061 : mjmp k_300 K 1061 ls r rem st = K 1061 (mproj [0, 1, 2, 3, 4, 5] ls) r rem st := (rfl)
theorem lg_1061_1358 : mstep P rt sg C J X post (.goto 1358) 1061 ls r rem st nx = J 2419 ls r rem st := e_goto rfl
theorem a_300_1064 {C : mCall} {K : mK} : mat P_RL 1 sgL_ k_300 [] C K post 1064 ls r rem st = mblk P_RL 1 sgL_ C (mjmp k_300 K) (mexc [] K post k_300) post [.inl (.aload_n 1, 1), .inl (.aload_n 0, 1), .inl (.iload 5, 2), .inl (.iconst 1, 1), .inl (.iadd, 1), .inl (.iaload, 1), .inl (.aload_n 0, 1), .inl (.iload 5, 2), .inl (.iconst 2, 1), .inl (.iadd, 1), .inl (.iaload, 1), .inl (.aload_n 3, 1), .inl (.invokestatic 188, 3), .inl (.istore 6, 2), .inl (.aload_n 2, 1), .inl (.aload_n 0, 1), .inl (.iload 5, 2), .inl (.iconst 1, 1), .inl (.iadd, 1), .inl (.iaload, 1), .inl (.aload_n 0, 1), .inl (.iload 5, 2), .inl (.iconst 2, 1), .inl (.iadd, 1), .inl (.iaload, 1), .inl (.invokevirtual 190, 3), .inl (.istore 7, 2), .inl (.aload_n 2, 1), .inl (.invokevirtual 141, 3), .inl (.iload 6, 2), .inl (.if_icmp .eq 5, 3), .inl (.iconst 0, 1), .inl (.ireturn, 1)] 1064 ls r rem st := (rfl)
theorem j_300_1064 : mjmp k_300 K 1064 ls r rem st = K 1064 (mproj [0, 1, 2, 3, 4, 5] ls) r rem st := (rfl)
theorem vW_188 {a0 a1 a2 a3 : mV} : mstep P_RL rt sgL_ C J X post (.invokestatic 188) pc ls (a3 :: a2 :: a1 :: a0 :: r) rem st nx = cond (mroom r) (3 ≤ rem.1 ∧ 18 ≤ rem.2 ∧ C 214 [a0, a1, a2, a3] st (mck X pc ls r (rem.1 - 3, rem.2 - 18) nx)) False := (rfl)
theorem vL_190 {a1 a2 : mV} {i : Nat} : mstep P_RL rt sgL_ C J X post (.invokevirtual 190) pc ls (a2 :: a1 :: mr 30 i :: r) rem st nx = cond (mroom r) (0 ≤ rem.1 ∧ 0 ≤ rem.2 ∧ C 26 [mr 30 i, a1, a2] st (mck X pc ls r (rem.1 - 0, rem.2 - 0) nx)) False := (rfl)
theorem lceq_1107_5 {a b : Int} : mstep P rt sg C J X post (.if_icmp .eq 5) 1107 ls (mi b :: mi a :: r) rem st nx = ((mcmp .eq a b → J 1112 ls r rem st) ∧ (¬ mcmp .eq a b → nx ls r rem st)) := e_icmp rfl
theorem a_300_1112 {C : mCall} {K : mK} : mat P_RL 1 sgL_ k_300 [] C K post 1112 ls r rem st = mblk P_RL 1 sgL_ C (mjmp k_300 K) (mexc [] K post k_300) post [.inl (.iload 6, 2), .inl (.ifCond .ne 15, 3), .inl (.aload_n 3, 1), .inl (.iconst 0, 1), .inl (.laload, 1), .inl (.iload 7, 2), .inl (.i2l, 1), .inl (.lcmp, 1), .inl (.ifCond .eq 5, 3), .inl (.iconst 0, 1), .inl (.ireturn, 1)] 1112 ls r rem st := (rfl)
theorem j_300_1112 : mjmp k_300 K 1112 ls r rem st = K 1112 (mproj [0, 1, 2, 3, 4, 5, 6, 7] ls) r rem st := (rfl)
theorem lzne_1114_15 {a : Int} : mstep P rt sg C J X post (.ifCond .ne 15) 1114 ls (mi a :: r) rem st nx = ((mcmp .ne a 0 → J 1129 ls r rem st) ∧ (¬ mcmp .ne a 0 → nx ls r rem st)) := e_ifc rfl
theorem lzeq_1124_5 {a : Int} : mstep P rt sg C J X post (.ifCond .eq 5) 1124 ls (mi a :: r) rem st nx = ((mcmp .eq a 0 → J 1129 ls r rem st) ∧ (¬ mcmp .eq a 0 → nx ls r rem st)) := e_ifc rfl
theorem a_300_1129 {C : mCall} {K : mK} : mat P_RL 1 sgL_ k_300 [] C K post 1129 ls r rem st = mblk P_RL 1 sgL_ C (mjmp k_300 K) (mexc [] K post k_300) post [.inl (.goto 1290, 3)] 1129 ls r rem st := (rfl)
theorem j_300_1129 : mjmp k_300 K 1129 ls r rem st = K 1129 (mproj [0, 1, 2, 3, 4, 5] ls) r rem st := (rfl)
theorem lg_1129_1290 : mstep P rt sg C J X post (.goto 1290) 1129 ls r rem st nx = J 2419 ls r rem st := e_goto rfl
theorem a_300_1132 {C : mCall} {K : mK} : mat P_RL 1 sgL_ k_300 [] C K post 1132 ls r rem st = mblk P_RL 1 sgL_ C (mjmp k_300 K) (mexc [] K post k_300) post [.inl (.aload_n 1, 1), .inl (.aload_n 0, 1), .inl (.iload 5, 2), .inl (.iconst 1, 1), .inl (.iadd, 1), .inl (.iaload, 1), .inl (.aload_n 0, 1), .inl (.iload 5, 2), .inl (.iconst 2, 1), .inl (.iadd, 1), .inl (.iaload, 1), .inl (.aload_n 0, 1), .inl (.iload 5, 2), .inl (.iconst 3, 1), .inl (.iadd, 1), .inl (.iaload, 1), .inl (.aload_n 3, 1), .inl (.invokestatic 191, 3), .inl (.istore 6, 2), .inl (.aload_n 2, 1), .inl (.aload_n 0, 1), .inl (.iload 5, 2), .inl (.iconst 1, 1), .inl (.iadd, 1), .inl (.iaload, 1), .inl (.aload_n 0, 1), .inl (.iload 5, 2), .inl (.iconst 2, 1), .inl (.iadd, 1), .inl (.iaload, 1), .inl (.aload_n 0, 1), .inl (.iload 5, 2), .inl (.iconst 3, 1), .inl (.iadd, 1), .inl (.iaload, 1), .inl (.invokevirtual 193, 3), .inl (.istore 7, 2), .inl (.aload_n 2, 1), .inl (.invokevirtual 141, 3), .inl (.iload 6, 2), .inl (.if_icmp .eq 5, 3), .inl (.iconst 0, 1), .inl (.ireturn, 1)] 1132 ls r rem st := (rfl)
theorem j_300_1132 : mjmp k_300 K 1132 ls r rem st = K 1132 (mproj [0, 1, 2, 3, 4, 5] ls) r rem st := (rfl)
theorem vW_191 {a0 a1 a2 a3 a4 : mV} : mstep P_RL rt sgL_ C J X post (.invokestatic 191) pc ls (a4 :: a3 :: a2 :: a1 :: a0 :: r) rem st nx = cond (mroom r) (7 ≤ rem.1 ∧ 98 ≤ rem.2 ∧ C 215 [a0, a1, a2, a3, a4] st (mck X pc ls r (rem.1 - 7, rem.2 - 98) nx)) False := (rfl)
theorem vL_193 {a1 a2 a3 : mV} {i : Nat} : mstep P_RL rt sgL_ C J X post (.invokevirtual 193) pc ls (a3 :: a2 :: a1 :: mr 30 i :: r) rem st nx = cond (mroom r) (0 ≤ rem.1 ∧ 0 ≤ rem.2 ∧ C 27 [mr 30 i, a1, a2, a3] st (mck X pc ls r (rem.1 - 0, rem.2 - 0) nx)) False := (rfl)
theorem lceq_1187_5 {a b : Int} : mstep P rt sg C J X post (.if_icmp .eq 5) 1187 ls (mi b :: mi a :: r) rem st nx = ((mcmp .eq a b → J 1192 ls r rem st) ∧ (¬ mcmp .eq a b → nx ls r rem st)) := e_icmp rfl
theorem a_300_1192 {C : mCall} {K : mK} : mat P_RL 1 sgL_ k_300 [] C K post 1192 ls r rem st = mblk P_RL 1 sgL_ C (mjmp k_300 K) (mexc [] K post k_300) post [.inl (.iload 6, 2), .inl (.ifCond .ne 15, 3), .inl (.aload_n 3, 1), .inl (.iconst 0, 1), .inl (.laload, 1), .inl (.iload 7, 2), .inl (.i2l, 1), .inl (.lcmp, 1), .inl (.ifCond .eq 5, 3), .inl (.iconst 0, 1), .inl (.ireturn, 1)] 1192 ls r rem st := (rfl)
theorem j_300_1192 : mjmp k_300 K 1192 ls r rem st = K 1192 (mproj [0, 1, 2, 3, 4, 5, 6, 7] ls) r rem st := (rfl)
theorem lzne_1194_15 {a : Int} : mstep P rt sg C J X post (.ifCond .ne 15) 1194 ls (mi a :: r) rem st nx = ((mcmp .ne a 0 → J 1209 ls r rem st) ∧ (¬ mcmp .ne a 0 → nx ls r rem st)) := e_ifc rfl
theorem lzeq_1204_5 {a : Int} : mstep P rt sg C J X post (.ifCond .eq 5) 1204 ls (mi a :: r) rem st nx = ((mcmp .eq a 0 → J 1209 ls r rem st) ∧ (¬ mcmp .eq a 0 → nx ls r rem st)) := e_ifc rfl
theorem a_300_1209 {C : mCall} {K : mK} : mat P_RL 1 sgL_ k_300 [] C K post 1209 ls r rem st = mblk P_RL 1 sgL_ C (mjmp k_300 K) (mexc [] K post k_300) post [.inl (.goto 1210, 3)] 1209 ls r rem st := (rfl)
theorem j_300_1209 : mjmp k_300 K 1209 ls r rem st = K 1209 (mproj [0, 1, 2, 3, 4, 5] ls) r rem st := (rfl)
theorem lg_1209_1210 : mstep P rt sg C J X post (.goto 1210) 1209 ls r rem st nx = J 2419 ls r rem st := e_goto rfl
theorem a_300_1212 {C : mCall} {K : mK} : mat P_RL 1 sgL_ k_300 [] C K post 1212 ls r rem st = mblk P_RL 1 sgL_ C (mjmp k_300 K) (mexc [] K post k_300) post [.inl (.aload_n 1, 1), .inl (.aload_n 0, 1), .inl (.iload 5, 2), .inl (.iconst 1, 1), .inl (.iadd, 1), .inl (.iaload, 1), .inl (.aload_n 0, 1), .inl (.iload 5, 2), .inl (.iconst 2, 1), .inl (.iadd, 1), .inl (.iaload, 1), .inl (.aload_n 0, 1), .inl (.iload 5, 2), .inl (.iconst 3, 1), .inl (.iadd, 1), .inl (.iaload, 1), .inl (.aload_n 3, 1), .inl (.invokestatic 194, 3), .inl (.istore 6, 2), .inl (.aload_n 2, 1), .inl (.aload_n 0, 1), .inl (.iload 5, 2), .inl (.iconst 1, 1), .inl (.iadd, 1), .inl (.iaload, 1), .inl (.aload_n 0, 1), .inl (.iload 5, 2), .inl (.iconst 2, 1), .inl (.iadd, 1), .inl (.iaload, 1), .inl (.aload_n 0, 1), .inl (.iload 5, 2), .inl (.iconst 3, 1), .inl (.iadd, 1), .inl (.iaload, 1), .inl (.invokevirtual 196, 3), .inl (.istore 7, 2), .inl (.aload_n 2, 1), .inl (.invokevirtual 141, 3), .inl (.iload 6, 2), .inl (.if_icmp .eq 5, 3), .inl (.iconst 0, 1), .inl (.ireturn, 1)] 1212 ls r rem st := (rfl)
theorem j_300_1212 : mjmp k_300 K 1212 ls r rem st = K 1212 (mproj [0, 1, 2, 3, 4, 5] ls) r rem st := (rfl)
theorem vW_194 {a0 a1 a2 a3 a4 : mV} : mstep P_RL rt sgL_ C J X post (.invokestatic 194) pc ls (a4 :: a3 :: a2 :: a1 :: a0 :: r) rem st nx = cond (mroom r) (5 ≤ rem.1 ∧ 30 ≤ rem.2 ∧ C 216 [a0, a1, a2, a3, a4] st (mck X pc ls r (rem.1 - 5, rem.2 - 30) nx)) False := (rfl)
theorem vL_196 {a1 a2 a3 : mV} {i : Nat} : mstep P_RL rt sgL_ C J X post (.invokevirtual 196) pc ls (a3 :: a2 :: a1 :: mr 30 i :: r) rem st nx = cond (mroom r) (0 ≤ rem.1 ∧ 0 ≤ rem.2 ∧ C 37 [mr 30 i, a1, a2, a3] st (mck X pc ls r (rem.1 - 0, rem.2 - 0) nx)) False := (rfl)
theorem lceq_1267_5 {a b : Int} : mstep P rt sg C J X post (.if_icmp .eq 5) 1267 ls (mi b :: mi a :: r) rem st nx = ((mcmp .eq a b → J 1272 ls r rem st) ∧ (¬ mcmp .eq a b → nx ls r rem st)) := e_icmp rfl
theorem a_300_1272 {C : mCall} {K : mK} : mat P_RL 1 sgL_ k_300 [] C K post 1272 ls r rem st = mblk P_RL 1 sgL_ C (mjmp k_300 K) (mexc [] K post k_300) post [.inl (.iload 6, 2), .inl (.ifCond .ne 15, 3), .inl (.aload_n 3, 1), .inl (.iconst 0, 1), .inl (.laload, 1), .inl (.iload 7, 2), .inl (.i2l, 1), .inl (.lcmp, 1), .inl (.ifCond .eq 5, 3), .inl (.iconst 0, 1), .inl (.ireturn, 1)] 1272 ls r rem st := (rfl)
theorem j_300_1272 : mjmp k_300 K 1272 ls r rem st = K 1272 (mproj [0, 1, 2, 3, 4, 5, 6, 7] ls) r rem st := (rfl)
theorem lzne_1274_15 {a : Int} : mstep P rt sg C J X post (.ifCond .ne 15) 1274 ls (mi a :: r) rem st nx = ((mcmp .ne a 0 → J 1289 ls r rem st) ∧ (¬ mcmp .ne a 0 → nx ls r rem st)) := e_ifc rfl
theorem lzeq_1284_5 {a : Int} : mstep P rt sg C J X post (.ifCond .eq 5) 1284 ls (mi a :: r) rem st nx = ((mcmp .eq a 0 → J 1289 ls r rem st) ∧ (¬ mcmp .eq a 0 → nx ls r rem st)) := e_ifc rfl
theorem a_300_1289 {C : mCall} {K : mK} : mat P_RL 1 sgL_ k_300 [] C K post 1289 ls r rem st = mblk P_RL 1 sgL_ C (mjmp k_300 K) (mexc [] K post k_300) post [.inl (.goto 1130, 3)] 1289 ls r rem st := (rfl)
theorem j_300_1289 : mjmp k_300 K 1289 ls r rem st = K 1289 (mproj [0, 1, 2, 3, 4, 5] ls) r rem st := (rfl)
theorem lg_1289_1130 : mstep P rt sg C J X post (.goto 1130) 1289 ls r rem st nx = J 2419 ls r rem st := e_goto rfl
theorem a_300_1292 {C : mCall} {K : mK} : mat P_RL 1 sgL_ k_300 [] C K post 1292 ls r rem st = mblk P_RL 1 sgL_ C (mjmp k_300 K) (mexc [] K post k_300) post [.inl (.aload_n 1, 1), .inl (.aload_n 0, 1), .inl (.iload 5, 2), .inl (.iconst 1, 1), .inl (.iadd, 1), .inl (.iaload, 1), .inl (.aload_n 0, 1), .inl (.iload 5, 2), .inl (.iconst 2, 1), .inl (.iadd, 1), .inl (.iaload, 1), .inl (.aload_n 3, 1), .inl (.invokestatic 197, 3), .inl (.istore 6, 2), .inl (.aload_n 2, 1), .inl (.aload_n 0, 1), .inl (.iload 5, 2), .inl (.iconst 1, 1), .inl (.iadd, 1), .inl (.iaload, 1), .inl (.aload_n 0, 1), .inl (.iload 5, 2), .inl (.iconst 2, 1), .inl (.iadd, 1), .inl (.iaload, 1), .inl (.invokevirtual 199, 3), .inl (.istore 7, 2), .inl (.aload_n 2, 1), .inl (.invokevirtual 141, 3), .inl (.iload 6, 2), .inl (.if_icmp .eq 5, 3), .inl (.iconst 0, 1), .inl (.ireturn, 1)] 1292 ls r rem st := (rfl)
theorem j_300_1292 : mjmp k_300 K 1292 ls r rem st = K 1292 (mproj [0, 1, 2, 3, 4, 5] ls) r rem st := (rfl)
theorem vW_197 {a0 a1 a2 a3 : mV} : mstep P_RL rt sgL_ C J X post (.invokestatic 197) pc ls (a3 :: a2 :: a1 :: a0 :: r) rem st nx = cond (mroom r) (4 ≤ rem.1 ∧ 24 ≤ rem.2 ∧ C 217 [a0, a1, a2, a3] st (mck X pc ls r (rem.1 - 4, rem.2 - 24) nx)) False := (rfl)
theorem vL_199 {a1 a2 : mV} {i : Nat} : mstep P_RL rt sgL_ C J X post (.invokevirtual 199) pc ls (a2 :: a1 :: mr 30 i :: r) rem st nx = cond (mroom r) (0 ≤ rem.1 ∧ 0 ≤ rem.2 ∧ C 38 [mr 30 i, a1, a2] st (mck X pc ls r (rem.1 - 0, rem.2 - 0) nx)) False := (rfl)
theorem lceq_1335_5 {a b : Int} : mstep P rt sg C J X post (.if_icmp .eq 5) 1335 ls (mi b :: mi a :: r) rem st nx = ((mcmp .eq a b → J 1340 ls r rem st) ∧ (¬ mcmp .eq a b → nx ls r rem st)) := e_icmp rfl
theorem a_300_1340 {C : mCall} {K : mK} : mat P_RL 1 sgL_ k_300 [] C K post 1340 ls r rem st = mblk P_RL 1 sgL_ C (mjmp k_300 K) (mexc [] K post k_300) post [.inl (.iload 6, 2), .inl (.ifCond .ne 15, 3), .inl (.aload_n 3, 1), .inl (.iconst 0, 1), .inl (.laload, 1), .inl (.iload 7, 2), .inl (.i2l, 1), .inl (.lcmp, 1), .inl (.ifCond .eq 5, 3), .inl (.iconst 0, 1), .inl (.ireturn, 1)] 1340 ls r rem st := (rfl)
theorem j_300_1340 : mjmp k_300 K 1340 ls r rem st = K 1340 (mproj [0, 1, 2, 3, 4, 5, 6, 7] ls) r rem st := (rfl)
theorem lzne_1342_15 {a : Int} : mstep P rt sg C J X post (.ifCond .ne 15) 1342 ls (mi a :: r) rem st nx = ((mcmp .ne a 0 → J 1357 ls r rem st) ∧ (¬ mcmp .ne a 0 → nx ls r rem st)) := e_ifc rfl
theorem lzeq_1352_5 {a : Int} : mstep P rt sg C J X post (.ifCond .eq 5) 1352 ls (mi a :: r) rem st nx = ((mcmp .eq a 0 → J 1357 ls r rem st) ∧ (¬ mcmp .eq a 0 → nx ls r rem st)) := e_ifc rfl
theorem a_300_1357 {C : mCall} {K : mK} : mat P_RL 1 sgL_ k_300 [] C K post 1357 ls r rem st = mblk P_RL 1 sgL_ C (mjmp k_300 K) (mexc [] K post k_300) post [.inl (.goto 1062, 3)] 1357 ls r rem st := (rfl)
theorem j_300_1357 : mjmp k_300 K 1357 ls r rem st = K 1357 (mproj [0, 1, 2, 3, 4, 5] ls) r rem st := (rfl)
theorem lg_1357_1062 : mstep P rt sg C J X post (.goto 1062) 1357 ls r rem st nx = J 2419 ls r rem st := e_goto rfl
theorem a_300_1360 {C : mCall} {K : mK} : mat P_RL 1 sgL_ k_300 [] C K post 1360 ls r rem st = mblk P_RL 1 sgL_ C (mjmp k_300 K) (mexc [] K post k_300) post [.inl (.aload_n 1, 1), .inl (.aload_n 0, 1), .inl (.iload 5, 2), .inl (.iconst 1, 1), .inl (.iadd, 1), .inl (.iaload, 1), .inl (.aload_n 3, 1), .inl (.invokestatic 200, 3), .inl (.istore 6, 2), .inl (.aload_n 2, 1), .inl (.aload_n 0, 1), .inl (.iload 5, 2), .inl (.iconst 1, 1), .inl (.iadd, 1), .inl (.iaload, 1), .inl (.invokevirtual 202, 3), .inl (.istore 7, 2), .inl (.aload_n 2, 1), .inl (.invokevirtual 141, 3), .inl (.iload 6, 2), .inl (.if_icmp .eq 5, 3), .inl (.iconst 0, 1), .inl (.ireturn, 1)] 1360 ls r rem st := (rfl)
theorem j_300_1360 : mjmp k_300 K 1360 ls r rem st = K 1360 (mproj [0, 1, 2, 3, 4, 5] ls) r rem st := (rfl)
theorem vW_200 {a0 a1 a2 : mV} : mstep P_RL rt sgL_ C J X post (.invokestatic 200) pc ls (a2 :: a1 :: a0 :: r) rem st nx = cond (mroom r) (2 ≤ rem.1 ∧ 12 ≤ rem.2 ∧ C 218 [a0, a1, a2] st (mck X pc ls r (rem.1 - 2, rem.2 - 12) nx)) False := (rfl)
theorem vL_202 {a1 : mV} {i : Nat} : mstep P_RL rt sgL_ C J X post (.invokevirtual 202) pc ls (a1 :: mr 30 i :: r) rem st nx = cond (mroom r) (0 ≤ rem.1 ∧ 0 ≤ rem.2 ∧ C 40 [mr 30 i, a1] st (mck X pc ls r (rem.1 - 0, rem.2 - 0) nx)) False := (rfl)
theorem lceq_1391_5 {a b : Int} : mstep P rt sg C J X post (.if_icmp .eq 5) 1391 ls (mi b :: mi a :: r) rem st nx = ((mcmp .eq a b → J 1396 ls r rem st) ∧ (¬ mcmp .eq a b → nx ls r rem st)) := e_icmp rfl
theorem a_300_1396 {C : mCall} {K : mK} : mat P_RL 1 sgL_ k_300 [] C K post 1396 ls r rem st = mblk P_RL 1 sgL_ C (mjmp k_300 K) (mexc [] K post k_300) post [.inl (.iload 6, 2), .inl (.ifCond .ne 15, 3), .inl (.aload_n 3, 1), .inl (.iconst 0, 1), .inl (.laload, 1), .inl (.iload 7, 2), .inl (.i2l, 1), .inl (.lcmp, 1), .inl (.ifCond .eq 5, 3), .inl (.iconst 0, 1), .inl (.ireturn, 1)] 1396 ls r rem st := (rfl)
theorem j_300_1396 : mjmp k_300 K 1396 ls r rem st = K 1396 (mproj [0, 1, 2, 3, 4, 5, 6, 7] ls) r rem st := (rfl)
theorem lzne_1398_15 {a : Int} : mstep P rt sg C J X post (.ifCond .ne 15) 1398 ls (mi a :: r) rem st nx = ((mcmp .ne a 0 → J 1413 ls r rem st) ∧ (¬ mcmp .ne a 0 → nx ls r rem st)) := e_ifc rfl
theorem lzeq_1408_5 {a : Int} : mstep P rt sg C J X post (.ifCond .eq 5) 1408 ls (mi a :: r) rem st nx = ((mcmp .eq a 0 → J 1413 ls r rem st) ∧ (¬ mcmp .eq a 0 → nx ls r rem st)) := e_ifc rfl
theorem a_300_1413 {C : mCall} {K : mK} : mat P_RL 1 sgL_ k_300 [] C K post 1413 ls r rem st = mblk P_RL 1 sgL_ C (mjmp k_300 K) (mexc [] K post k_300) post [.inl (.goto 1006, 3)] 1413 ls r rem st := (rfl)
theorem j_300_1413 : mjmp k_300 K 1413 ls r rem st = K 1413 (mproj [0, 1, 2, 3, 4, 5] ls) r rem st := (rfl)
theorem lg_1413_1006 : mstep P rt sg C J X post (.goto 1006) 1413 ls r rem st nx = J 2419 ls r rem st := e_goto rfl
theorem a_300_1416 {C : mCall} {K : mK} : mat P_RL 1 sgL_ k_300 [] C K post 1416 ls r rem st = mblk P_RL 1 sgL_ C (mjmp k_300 K) (mexc [] K post k_300) post [.inl (.aload_n 1, 1), .inl (.aload_n 0, 1), .inl (.iload 5, 2), .inl (.iconst 1, 1), .inl (.iadd, 1), .inl (.iaload, 1), .inl (.aload_n 3, 1), .inl (.invokestatic 203, 3), .inl (.istore 6, 2), .inl (.aload_n 2, 1), .inl (.aload_n 0, 1), .inl (.iload 5, 2), .inl (.iconst 1, 1), .inl (.iadd, 1), .inl (.iaload, 1), .inl (.invokevirtual 205, 3), .inl (.istore 7, 2), .inl (.aload_n 2, 1), .inl (.invokevirtual 141, 3), .inl (.iload 6, 2), .inl (.if_icmp .eq 5, 3), .inl (.iconst 0, 1), .inl (.ireturn, 1)] 1416 ls r rem st := (rfl)
theorem j_300_1416 : mjmp k_300 K 1416 ls r rem st = K 1416 (mproj [0, 1, 2, 3, 4, 5] ls) r rem st := (rfl)
theorem vW_203 {a0 a1 a2 : mV} : mstep P_RL rt sgL_ C J X post (.invokestatic 203) pc ls (a2 :: a1 :: a0 :: r) rem st nx = cond (mroom r) (3 ≤ rem.1 ∧ 18 ≤ rem.2 ∧ C 219 [a0, a1, a2] st (mck X pc ls r (rem.1 - 3, rem.2 - 18) nx)) False := (rfl)
theorem vL_205 {a1 : mV} {i : Nat} : mstep P_RL rt sgL_ C J X post (.invokevirtual 205) pc ls (a1 :: mr 30 i :: r) rem st nx = cond (mroom r) (0 ≤ rem.1 ∧ 0 ≤ rem.2 ∧ C 43 [mr 30 i, a1] st (mck X pc ls r (rem.1 - 0, rem.2 - 0) nx)) False := (rfl)
theorem lceq_1447_5 {a b : Int} : mstep P rt sg C J X post (.if_icmp .eq 5) 1447 ls (mi b :: mi a :: r) rem st nx = ((mcmp .eq a b → J 1452 ls r rem st) ∧ (¬ mcmp .eq a b → nx ls r rem st)) := e_icmp rfl
theorem a_300_1452 {C : mCall} {K : mK} : mat P_RL 1 sgL_ k_300 [] C K post 1452 ls r rem st = mblk P_RL 1 sgL_ C (mjmp k_300 K) (mexc [] K post k_300) post [.inl (.iload 6, 2), .inl (.ifCond .ne 15, 3), .inl (.aload_n 3, 1), .inl (.iconst 0, 1), .inl (.laload, 1), .inl (.iload 7, 2), .inl (.i2l, 1), .inl (.lcmp, 1), .inl (.ifCond .eq 5, 3), .inl (.iconst 0, 1), .inl (.ireturn, 1)] 1452 ls r rem st := (rfl)
theorem j_300_1452 : mjmp k_300 K 1452 ls r rem st = K 1452 (mproj [0, 1, 2, 3, 4, 5, 6, 7] ls) r rem st := (rfl)
theorem lzne_1454_15 {a : Int} : mstep P rt sg C J X post (.ifCond .ne 15) 1454 ls (mi a :: r) rem st nx = ((mcmp .ne a 0 → J 1469 ls r rem st) ∧ (¬ mcmp .ne a 0 → nx ls r rem st)) := e_ifc rfl
theorem lzeq_1464_5 {a : Int} : mstep P rt sg C J X post (.ifCond .eq 5) 1464 ls (mi a :: r) rem st nx = ((mcmp .eq a 0 → J 1469 ls r rem st) ∧ (¬ mcmp .eq a 0 → nx ls r rem st)) := e_ifc rfl
theorem a_300_1469 {C : mCall} {K : mK} : mat P_RL 1 sgL_ k_300 [] C K post 1469 ls r rem st = mblk P_RL 1 sgL_ C (mjmp k_300 K) (mexc [] K post k_300) post [.inl (.goto 950, 3)] 1469 ls r rem st := (rfl)
theorem j_300_1469 : mjmp k_300 K 1469 ls r rem st = K 1469 (mproj [0, 1, 2, 3, 4, 5] ls) r rem st := (rfl)
theorem lg_1469_950 : mstep P rt sg C J X post (.goto 950) 1469 ls r rem st nx = J 2419 ls r rem st := e_goto rfl
theorem a_300_1472 {C : mCall} {K : mK} : mat P_RL 1 sgL_ k_300 [] C K post 1472 ls r rem st = mblk P_RL 1 sgL_ C (mjmp k_300 K) (mexc [] K post k_300) post [.inl (.aload_n 1, 1), .inl (.invokevirtual 206, 3), .inl (.aload_n 2, 1), .inl (.invokevirtual 209, 3), .inl (.if_icmp .eq 939, 3), .inl (.iconst 0, 1), .inl (.ireturn, 1)] 1472 ls r rem st := (rfl)
theorem j_300_1472 : mjmp k_300 K 1472 ls r rem st = K 1472 (mproj [0, 1, 2, 3, 4, 5] ls) r rem st := (rfl)
theorem vL_206 {i : Nat} : mstep P_RL rt sgL_ C J X post (.invokevirtual 206) pc ls (mr 0 i :: r) rem st nx = cond (mroom r) (24 ≤ rem.1 ∧ 384 ≤ rem.2 ∧ C 141 [mr 0 i] st (mck X pc ls r (rem.1 - 24, rem.2 - 384) nx)) False := (rfl)
theorem vL_209 {i : Nat} : mstep P_RL rt sgL_ C J X post (.invokevirtual 209) pc ls (mr 30 i :: r) rem st nx = cond (mroom r) (0 ≤ rem.1 ∧ 0 ≤ rem.2 ∧ C 48 [mr 30 i] st (mck X pc ls r (rem.1 - 0, rem.2 - 0) nx)) False := (rfl)
theorem lceq_1480_939 {a b : Int} : mstep P rt sg C J X post (.if_icmp .eq 939) 1480 ls (mi b :: mi a :: r) rem st nx = ((mcmp .eq a b → J 2419 ls r rem st) ∧ (¬ mcmp .eq a b → nx ls r rem st)) := e_icmp rfl
theorem a_300_1485 {C : mCall} {K : mK} : mat P_RL 1 sgL_ k_300 [] C K post 1485 ls r rem st = mblk P_RL 1 sgL_ C (mjmp k_300 K) (mexc [] K post k_300) post [.inl (.aload_n 1, 1), .inl (.aload_n 0, 1), .inl (.iload 5, 2), .inl (.iconst 1, 1), .inl (.iadd, 1), .inl (.iaload, 1), .inl (.aload_n 3, 1), .inl (.invokestatic 210, 3), .inl (.istore 6, 2), .inl (.aload_n 2, 1), .inl (.aload_n 0, 1), .inl (.iload 5, 2), .inl (.iconst 1, 1), .inl (.iadd, 1), .inl (.iaload, 1), .inl (.invokevirtual 212, 3), .inl (.istore 7, 2), .inl (.aload_n 2, 1), .inl (.invokevirtual 141, 3), .inl (.iload 6, 2), .inl (.if_icmp .eq 5, 3), .inl (.iconst 0, 1), .inl (.ireturn, 1)] 1485 ls r rem st := (rfl)
theorem j_300_1485 : mjmp k_300 K 1485 ls r rem st = K 1485 (mproj [0, 1, 2, 3, 4, 5] ls) r rem st := (rfl)
theorem vW_210 {a0 a1 a2 : mV} : mstep P_RL rt sgL_ C J X post (.invokestatic 210) pc ls (a2 :: a1 :: a0 :: r) rem st nx = cond (mroom r) (1 ≤ rem.1 ∧ 6 ≤ rem.2 ∧ C 220 [a0, a1, a2] st (mck X pc ls r (rem.1 - 1, rem.2 - 6) nx)) False := (rfl)
theorem vL_212 {a1 : mV} {i : Nat} : mstep P_RL rt sgL_ C J X post (.invokevirtual 212) pc ls (a1 :: mr 30 i :: r) rem st nx = cond (mroom r) (0 ≤ rem.1 ∧ 0 ≤ rem.2 ∧ C 49 [mr 30 i, a1] st (mck X pc ls r (rem.1 - 0, rem.2 - 0) nx)) False := (rfl)
theorem lceq_1516_5 {a b : Int} : mstep P rt sg C J X post (.if_icmp .eq 5) 1516 ls (mi b :: mi a :: r) rem st nx = ((mcmp .eq a b → J 1521 ls r rem st) ∧ (¬ mcmp .eq a b → nx ls r rem st)) := e_icmp rfl
theorem a_300_1521 {C : mCall} {K : mK} : mat P_RL 1 sgL_ k_300 [] C K post 1521 ls r rem st = mblk P_RL 1 sgL_ C (mjmp k_300 K) (mexc [] K post k_300) post [.inl (.iload 6, 2), .inl (.ifCond .ne 15, 3), .inl (.aload_n 3, 1), .inl (.iconst 0, 1), .inl (.laload, 1), .inl (.iload 7, 2), .inl (.i2l, 1), .inl (.lcmp, 1), .inl (.ifCond .eq 5, 3), .inl (.iconst 0, 1), .inl (.ireturn, 1)] 1521 ls r rem st := (rfl)
theorem j_300_1521 : mjmp k_300 K 1521 ls r rem st = K 1521 (mproj [0, 1, 2, 3, 4, 5, 6, 7] ls) r rem st := (rfl)
theorem lzne_1523_15 {a : Int} : mstep P rt sg C J X post (.ifCond .ne 15) 1523 ls (mi a :: r) rem st nx = ((mcmp .ne a 0 → J 1538 ls r rem st) ∧ (¬ mcmp .ne a 0 → nx ls r rem st)) := e_ifc rfl
theorem lzeq_1533_5 {a : Int} : mstep P rt sg C J X post (.ifCond .eq 5) 1533 ls (mi a :: r) rem st nx = ((mcmp .eq a 0 → J 1538 ls r rem st) ∧ (¬ mcmp .eq a 0 → nx ls r rem st)) := e_ifc rfl
theorem a_300_1538 {C : mCall} {K : mK} : mat P_RL 1 sgL_ k_300 [] C K post 1538 ls r rem st = mblk P_RL 1 sgL_ C (mjmp k_300 K) (mexc [] K post k_300) post [.inl (.goto 881, 3)] 1538 ls r rem st := (rfl)
theorem j_300_1538 : mjmp k_300 K 1538 ls r rem st = K 1538 (mproj [0, 1, 2, 3, 4, 5] ls) r rem st := (rfl)
theorem lg_1538_881 : mstep P rt sg C J X post (.goto 881) 1538 ls r rem st nx = J 2419 ls r rem st := e_goto rfl
theorem a_300_1541 {C : mCall} {K : mK} : mat P_RL 1 sgL_ k_300 [] C K post 1541 ls r rem st = mblk P_RL 1 sgL_ C (mjmp k_300 K) (mexc [] K post k_300) post [.inl (.aload_n 1, 1), .inl (.aload_n 0, 1), .inl (.iload 5, 2), .inl (.iconst 1, 1), .inl (.iadd, 1), .inl (.iaload, 1), .inl (.aload_n 0, 1), .inl (.iload 5, 2), .inl (.iconst 2, 1), .inl (.iadd, 1), .inl (.iaload, 1), .inl (.aload_n 3, 1), .inl (.invokestatic 213, 3), .inl (.istore 6, 2), .inl (.aload_n 2, 1), .inl (.aload_n 0, 1), .inl (.iload 5, 2), .inl (.iconst 1, 1), .inl (.iadd, 1), .inl (.iaload, 1), .inl (.aload_n 0, 1), .inl (.iload 5, 2), .inl (.iconst 2, 1), .inl (.iadd, 1), .inl (.iaload, 1), .inl (.invokevirtual 215, 3), .inl (.istore 7, 2), .inl (.aload_n 2, 1), .inl (.invokevirtual 141, 3), .inl (.iload 6, 2), .inl (.if_icmp .eq 5, 3), .inl (.iconst 0, 1), .inl (.ireturn, 1)] 1541 ls r rem st := (rfl)
theorem j_300_1541 : mjmp k_300 K 1541 ls r rem st = K 1541 (mproj [0, 1, 2, 3, 4, 5] ls) r rem st := (rfl)
theorem vW_213 {a0 a1 a2 a3 : mV} : mstep P_RL rt sgL_ C J X post (.invokestatic 213) pc ls (a3 :: a2 :: a1 :: a0 :: r) rem st nx = cond (mroom r) (2 ≤ rem.1 ∧ 12 ≤ rem.2 ∧ C 221 [a0, a1, a2, a3] st (mck X pc ls r (rem.1 - 2, rem.2 - 12) nx)) False := (rfl)
theorem vL_215 {a1 a2 : mV} {i : Nat} : mstep P_RL rt sgL_ C J X post (.invokevirtual 215) pc ls (a2 :: a1 :: mr 30 i :: r) rem st nx = cond (mroom r) (0 ≤ rem.1 ∧ 0 ≤ rem.2 ∧ C 50 [mr 30 i, a1, a2] st (mck X pc ls r (rem.1 - 0, rem.2 - 0) nx)) False := (rfl)
theorem lceq_1584_5 {a b : Int} : mstep P rt sg C J X post (.if_icmp .eq 5) 1584 ls (mi b :: mi a :: r) rem st nx = ((mcmp .eq a b → J 1589 ls r rem st) ∧ (¬ mcmp .eq a b → nx ls r rem st)) := e_icmp rfl
theorem a_300_1589 {C : mCall} {K : mK} : mat P_RL 1 sgL_ k_300 [] C K post 1589 ls r rem st = mblk P_RL 1 sgL_ C (mjmp k_300 K) (mexc [] K post k_300) post [.inl (.iload 6, 2), .inl (.ifCond .ne 15, 3), .inl (.aload_n 3, 1), .inl (.iconst 0, 1), .inl (.laload, 1), .inl (.iload 7, 2), .inl (.i2l, 1), .inl (.lcmp, 1), .inl (.ifCond .eq 5, 3), .inl (.iconst 0, 1), .inl (.ireturn, 1)] 1589 ls r rem st := (rfl)
theorem j_300_1589 : mjmp k_300 K 1589 ls r rem st = K 1589 (mproj [0, 1, 2, 3, 4, 5, 6, 7] ls) r rem st := (rfl)
theorem lzne_1591_15 {a : Int} : mstep P rt sg C J X post (.ifCond .ne 15) 1591 ls (mi a :: r) rem st nx = ((mcmp .ne a 0 → J 1606 ls r rem st) ∧ (¬ mcmp .ne a 0 → nx ls r rem st)) := e_ifc rfl
theorem lzeq_1601_5 {a : Int} : mstep P rt sg C J X post (.ifCond .eq 5) 1601 ls (mi a :: r) rem st nx = ((mcmp .eq a 0 → J 1606 ls r rem st) ∧ (¬ mcmp .eq a 0 → nx ls r rem st)) := e_ifc rfl
theorem a_300_1606 {C : mCall} {K : mK} : mat P_RL 1 sgL_ k_300 [] C K post 1606 ls r rem st = mblk P_RL 1 sgL_ C (mjmp k_300 K) (mexc [] K post k_300) post [.inl (.goto 813, 3)] 1606 ls r rem st := (rfl)
theorem j_300_1606 : mjmp k_300 K 1606 ls r rem st = K 1606 (mproj [0, 1, 2, 3, 4, 5] ls) r rem st := (rfl)
theorem lg_1606_813 : mstep P rt sg C J X post (.goto 813) 1606 ls r rem st nx = J 2419 ls r rem st := e_goto rfl
theorem a_300_1609 {C : mCall} {K : mK} : mat P_RL 1 sgL_ k_300 [] C K post 1609 ls r rem st = mblk P_RL 1 sgL_ C (mjmp k_300 K) (mexc [] K post k_300) post [.inl (.aload_n 1, 1), .inl (.aload_n 0, 1), .inl (.iload 5, 2), .inl (.iconst 1, 1), .inl (.iadd, 1), .inl (.iaload, 1), .inl (.aload_n 3, 1), .inl (.invokestatic 216, 3), .inl (.istore 6, 2), .inl (.aload_n 2, 1), .inl (.aload_n 0, 1), .inl (.iload 5, 2), .inl (.iconst 1, 1), .inl (.iadd, 1), .inl (.iaload, 1), .inl (.invokevirtual 218, 3), .inl (.istore 7, 2), .inl (.aload_n 2, 1), .inl (.invokevirtual 141, 3), .inl (.iload 6, 2), .inl (.if_icmp .eq 5, 3), .inl (.iconst 0, 1), .inl (.ireturn, 1)] 1609 ls r rem st := (rfl)
theorem j_300_1609 : mjmp k_300 K 1609 ls r rem st = K 1609 (mproj [0, 1, 2, 3, 4, 5] ls) r rem st := (rfl)
theorem vW_216 {a0 a1 a2 : mV} : mstep P_RL rt sgL_ C J X post (.invokestatic 216) pc ls (a2 :: a1 :: a0 :: r) rem st nx = cond (mroom r) (2 ≤ rem.1 ∧ 12 ≤ rem.2 ∧ C 222 [a0, a1, a2] st (mck X pc ls r (rem.1 - 2, rem.2 - 12) nx)) False := (rfl)
theorem vL_218 {a1 : mV} {i : Nat} : mstep P_RL rt sgL_ C J X post (.invokevirtual 218) pc ls (a1 :: mr 30 i :: r) rem st nx = cond (mroom r) (0 ≤ rem.1 ∧ 0 ≤ rem.2 ∧ C 51 [mr 30 i, a1] st (mck X pc ls r (rem.1 - 0, rem.2 - 0) nx)) False := (rfl)
theorem lceq_1640_5 {a b : Int} : mstep P rt sg C J X post (.if_icmp .eq 5) 1640 ls (mi b :: mi a :: r) rem st nx = ((mcmp .eq a b → J 1645 ls r rem st) ∧ (¬ mcmp .eq a b → nx ls r rem st)) := e_icmp rfl
theorem a_300_1645 {C : mCall} {K : mK} : mat P_RL 1 sgL_ k_300 [] C K post 1645 ls r rem st = mblk P_RL 1 sgL_ C (mjmp k_300 K) (mexc [] K post k_300) post [.inl (.iload 6, 2), .inl (.ifCond .ne 22, 3), .inl (.aload_n 3, 1), .inl (.iconst 0, 1), .inl (.laload, 1), .inl (.iload 7, 2), .inl (.ifCond .eq 7, 3), .inl (.lconst 1, 1), .inl (.goto 4, 3)] 1645 ls r rem st := (rfl)
theorem j_300_1645 : mjmp k_300 K 1645 ls r rem st = K 1645 (mproj [0, 1, 2, 3, 4, 5, 6, 7] ls) r rem st := (rfl)
theorem lzne_1647_22 {a : Int} : mstep P rt sg C J X post (.ifCond .ne 22) 1647 ls (mi a :: r) rem st nx = ((mcmp .ne a 0 → J 1669 ls r rem st) ∧ (¬ mcmp .ne a 0 → nx ls r rem st)) := e_ifc rfl
theorem lzeq_1655_7 {a : Int} : mstep P rt sg C J X post (.ifCond .eq 7) 1655 ls (mi a :: r) rem st nx = ((mcmp .eq a 0 → J 1662 ls r rem st) ∧ (¬ mcmp .eq a 0 → nx ls r rem st)) := e_ifc rfl
theorem lg_1659_4 : mstep P rt sg C J X post (.goto 4) 1659 ls r rem st nx = J 1663 ls r rem st := e_goto rfl
theorem a_300_1662 {C : mCall} {K : mK} : mat P_RL 1 sgL_ k_300 [] C K post 1662 ls r rem st = mblk P_RL 1 sgL_ C (mjmp k_300 K) (mexc [] K post k_300) post [.inl (.lconst 0, 1)] 1662 ls r rem st := (rfl)
theorem j_300_1662 : mjmp k_300 K 1662 ls r rem st = K 1662 (mproj [0, 1, 2, 3, 4, 5] ls) r rem st := (rfl)
theorem a_300_1663 {C : mCall} {K : mK} : mat P_RL 1 sgL_ k_300 [] C K post 1663 ls r rem st = mblk P_RL 1 sgL_ C (mjmp k_300 K) (mexc [] K post k_300) post [.inl (.lcmp, 1), .inl (.ifCond .eq 5, 3), .inl (.iconst 0, 1), .inl (.ireturn, 1)] 1663 ls r rem st := (rfl)
theorem j_300_1663 : mjmp k_300 K 1663 ls r rem st = K 1663 (mproj [0, 1, 2, 3, 4, 5] ls) r rem st := (rfl)
theorem lzeq_1664_5 {a : Int} : mstep P rt sg C J X post (.ifCond .eq 5) 1664 ls (mi a :: r) rem st nx = ((mcmp .eq a 0 → J 1669 ls r rem st) ∧ (¬ mcmp .eq a 0 → nx ls r rem st)) := e_ifc rfl
theorem a_300_1669 {C : mCall} {K : mK} : mat P_RL 1 sgL_ k_300 [] C K post 1669 ls r rem st = mblk P_RL 1 sgL_ C (mjmp k_300 K) (mexc [] K post k_300) post [.inl (.goto 750, 3)] 1669 ls r rem st := (rfl)
theorem j_300_1669 : mjmp k_300 K 1669 ls r rem st = K 1669 (mproj [0, 1, 2, 3, 4, 5] ls) r rem st := (rfl)
theorem lg_1669_750 : mstep P rt sg C J X post (.goto 750) 1669 ls r rem st nx = J 2419 ls r rem st := e_goto rfl
theorem a_300_1672 {C : mCall} {K : mK} : mat P_RL 1 sgL_ k_300 [] C K post 1672 ls r rem st = mblk P_RL 1 sgL_ C (mjmp k_300 K) (mexc [] K post k_300) post [.inl (.aload_n 1, 1), .inl (.aload_n 0, 1), .inl (.iload 5, 2), .inl (.iconst 1, 1), .inl (.iadd, 1), .inl (.iaload, 1), .inl (.aload_n 0, 1), .inl (.iload 5, 2), .inl (.iconst 2, 1), .inl (.iadd, 1), .inl (.iaload, 1), .inl (.aload_n 0, 1), .inl (.iload 5, 2), .inl (.iconst 3, 1), .inl (.iadd, 1), .inl (.iaload, 1), .inl (.aload_n 3, 1), .inl (.invokestatic 219, 3), .inl (.istore 6, 2), .inl (.aload_n 2, 1), .inl (.aload_n 0, 1), .inl (.iload 5, 2), .inl (.iconst 1, 1), .inl (.iadd, 1), .inl (.iaload, 1), .inl (.aload_n 0, 1), .inl (.iload 5, 2), .inl (.iconst 2, 1), .inl (.iadd, 1), .inl (.iaload, 1), .inl (.aload_n 0, 1), .inl (.iload 5, 2), .inl (.iconst 3, 1), .inl (.iadd, 1), .inl (.iaload, 1), .inl (.invokevirtual 221, 3), .inl (.istore 7, 2), .inl (.aload_n 2, 1), .inl (.invokevirtual 141, 3), .inl (.iload 6, 2), .inl (.if_icmp .eq 5, 3), .inl (.iconst 0, 1), .inl (.ireturn, 1)] 1672 ls r rem st := (rfl)
theorem j_300_1672 : mjmp k_300 K 1672 ls r rem st = K 1672 (mproj [0, 1, 2, 3, 4, 5] ls) r rem st := (rfl)
theorem vW_219 {a0 a1 a2 a3 a4 : mV} : mstep P_RL rt sgL_ C J X post (.invokestatic 219) pc ls (a4 :: a3 :: a2 :: a1 :: a0 :: r) rem st nx = cond (mroom r) (4 ≤ rem.1 ∧ 24 ≤ rem.2 ∧ C 223 [a0, a1, a2, a3, a4] st (mck X pc ls r (rem.1 - 4, rem.2 - 24) nx)) False := (rfl)
theorem vL_221 {a1 a2 a3 : mV} {i : Nat} : mstep P_RL rt sgL_ C J X post (.invokevirtual 221) pc ls (a3 :: a2 :: a1 :: mr 30 i :: r) rem st nx = cond (mroom r) (0 ≤ rem.1 ∧ 0 ≤ rem.2 ∧ C 52 [mr 30 i, a1, a2, a3] st (mck X pc ls r (rem.1 - 0, rem.2 - 0) nx)) False := (rfl)
theorem lceq_1727_5 {a b : Int} : mstep P rt sg C J X post (.if_icmp .eq 5) 1727 ls (mi b :: mi a :: r) rem st nx = ((mcmp .eq a b → J 1732 ls r rem st) ∧ (¬ mcmp .eq a b → nx ls r rem st)) := e_icmp rfl
theorem a_300_1732 {C : mCall} {K : mK} : mat P_RL 1 sgL_ k_300 [] C K post 1732 ls r rem st = mblk P_RL 1 sgL_ C (mjmp k_300 K) (mexc [] K post k_300) post [.inl (.iload 6, 2), .inl (.ifCond .ne 15, 3), .inl (.aload_n 3, 1), .inl (.iconst 0, 1), .inl (.laload, 1), .inl (.iload 7, 2), .inl (.i2l, 1), .inl (.lcmp, 1), .inl (.ifCond .eq 5, 3), .inl (.iconst 0, 1), .inl (.ireturn, 1)] 1732 ls r rem st := (rfl)
theorem j_300_1732 : mjmp k_300 K 1732 ls r rem st = K 1732 (mproj [0, 1, 2, 3, 4, 5, 6, 7] ls) r rem st := (rfl)
theorem lzne_1734_15 {a : Int} : mstep P rt sg C J X post (.ifCond .ne 15) 1734 ls (mi a :: r) rem st nx = ((mcmp .ne a 0 → J 1749 ls r rem st) ∧ (¬ mcmp .ne a 0 → nx ls r rem st)) := e_ifc rfl
theorem lzeq_1744_5 {a : Int} : mstep P rt sg C J X post (.ifCond .eq 5) 1744 ls (mi a :: r) rem st nx = ((mcmp .eq a 0 → J 1749 ls r rem st) ∧ (¬ mcmp .eq a 0 → nx ls r rem st)) := e_ifc rfl
theorem a_300_1749 {C : mCall} {K : mK} : mat P_RL 1 sgL_ k_300 [] C K post 1749 ls r rem st = mblk P_RL 1 sgL_ C (mjmp k_300 K) (mexc [] K post k_300) post [.inl (.goto 670, 3)] 1749 ls r rem st := (rfl)
theorem j_300_1749 : mjmp k_300 K 1749 ls r rem st = K 1749 (mproj [0, 1, 2, 3, 4, 5] ls) r rem st := (rfl)
theorem lg_1749_670 : mstep P rt sg C J X post (.goto 670) 1749 ls r rem st nx = J 2419 ls r rem st := e_goto rfl
theorem a_300_1752 {C : mCall} {K : mK} : mat P_RL 1 sgL_ k_300 [] C K post 1752 ls r rem st = mblk P_RL 1 sgL_ C (mjmp k_300 K) (mexc [] K post k_300) post [.inl (.aload_n 1, 1), .inl (.aload_n 0, 1), .inl (.iload 5, 2), .inl (.iconst 1, 1), .inl (.iadd, 1), .inl (.iaload, 1), .inl (.aload_n 0, 1), .inl (.iload 5, 2), .inl (.iconst 2, 1), .inl (.iadd, 1), .inl (.iaload, 1), .inl (.aload_n 3, 1), .inl (.invokestatic 222, 3), .inl (.istore 6, 2), .inl (.aload_n 2, 1), .inl (.aload_n 0, 1), .inl (.iload 5, 2), .inl (.iconst 1, 1), .inl (.iadd, 1), .inl (.iaload, 1), .inl (.aload_n 0, 1), .inl (.iload 5, 2), .inl (.iconst 2, 1), .inl (.iadd, 1), .inl (.iaload, 1), .inl (.invokevirtual 224, 3), .inl (.istore 7, 2), .inl (.aload_n 2, 1), .inl (.invokevirtual 141, 3), .inl (.iload 6, 2), .inl (.if_icmp .eq 5, 3), .inl (.iconst 0, 1), .inl (.ireturn, 1)] 1752 ls r rem st := (rfl)
theorem j_300_1752 : mjmp k_300 K 1752 ls r rem st = K 1752 (mproj [0, 1, 2, 3, 4, 5] ls) r rem st := (rfl)
theorem vW_222 {a0 a1 a2 a3 : mV} : mstep P_RL rt sgL_ C J X post (.invokestatic 222) pc ls (a3 :: a2 :: a1 :: a0 :: r) rem st nx = cond (mroom r) (3 ≤ rem.1 ∧ 18 ≤ rem.2 ∧ C 224 [a0, a1, a2, a3] st (mck X pc ls r (rem.1 - 3, rem.2 - 18) nx)) False := (rfl)
theorem vL_224 {a1 a2 : mV} {i : Nat} : mstep P_RL rt sgL_ C J X post (.invokevirtual 224) pc ls (a2 :: a1 :: mr 30 i :: r) rem st nx = cond (mroom r) (0 ≤ rem.1 ∧ 0 ≤ rem.2 ∧ C 53 [mr 30 i, a1, a2] st (mck X pc ls r (rem.1 - 0, rem.2 - 0) nx)) False := (rfl)
theorem lceq_1795_5 {a b : Int} : mstep P rt sg C J X post (.if_icmp .eq 5) 1795 ls (mi b :: mi a :: r) rem st nx = ((mcmp .eq a b → J 1800 ls r rem st) ∧ (¬ mcmp .eq a b → nx ls r rem st)) := e_icmp rfl
theorem a_300_1800 {C : mCall} {K : mK} : mat P_RL 1 sgL_ k_300 [] C K post 1800 ls r rem st = mblk P_RL 1 sgL_ C (mjmp k_300 K) (mexc [] K post k_300) post [.inl (.iload 6, 2), .inl (.ifCond .ne 15, 3), .inl (.aload_n 3, 1), .inl (.iconst 0, 1), .inl (.laload, 1), .inl (.iload 7, 2), .inl (.i2l, 1), .inl (.lcmp, 1), .inl (.ifCond .eq 5, 3), .inl (.iconst 0, 1), .inl (.ireturn, 1)] 1800 ls r rem st := (rfl)
theorem j_300_1800 : mjmp k_300 K 1800 ls r rem st = K 1800 (mproj [0, 1, 2, 3, 4, 5, 6, 7] ls) r rem st := (rfl)
theorem lzne_1802_15 {a : Int} : mstep P rt sg C J X post (.ifCond .ne 15) 1802 ls (mi a :: r) rem st nx = ((mcmp .ne a 0 → J 1817 ls r rem st) ∧ (¬ mcmp .ne a 0 → nx ls r rem st)) := e_ifc rfl
theorem lzeq_1812_5 {a : Int} : mstep P rt sg C J X post (.ifCond .eq 5) 1812 ls (mi a :: r) rem st nx = ((mcmp .eq a 0 → J 1817 ls r rem st) ∧ (¬ mcmp .eq a 0 → nx ls r rem st)) := e_ifc rfl
theorem a_300_1817 {C : mCall} {K : mK} : mat P_RL 1 sgL_ k_300 [] C K post 1817 ls r rem st = mblk P_RL 1 sgL_ C (mjmp k_300 K) (mexc [] K post k_300) post [.inl (.goto 602, 3)] 1817 ls r rem st := (rfl)
theorem j_300_1817 : mjmp k_300 K 1817 ls r rem st = K 1817 (mproj [0, 1, 2, 3, 4, 5] ls) r rem st := (rfl)
theorem lg_1817_602 : mstep P rt sg C J X post (.goto 602) 1817 ls r rem st nx = J 2419 ls r rem st := e_goto rfl
theorem a_300_1820 {C : mCall} {K : mK} : mat P_RL 1 sgL_ k_300 [] C K post 1820 ls r rem st = mblk P_RL 1 sgL_ C (mjmp k_300 K) (mexc [] K post k_300) post [.inl (.aload_n 1, 1), .inl (.invokevirtual 225, 3), .inl (.aload_n 2, 1), .inl (.invokevirtual 228, 3), .inl (.if_icmp .eq 591, 3), .inl (.iconst 0, 1), .inl (.ireturn, 1)] 1820 ls r rem st := (rfl)
theorem j_300_1820 : mjmp k_300 K 1820 ls r rem st = K 1820 (mproj [0, 1, 2, 3, 4, 5] ls) r rem st := (rfl)
theorem vL_225 {i : Nat} : mstep P_RL rt sgL_ C J X post (.invokevirtual 225) pc ls (mr 0 i :: r) rem st nx = cond (mroom r) (0 ≤ rem.1 ∧ 0 ≤ rem.2 ∧ C 147 [mr 0 i] st (mck X pc ls r (rem.1 - 0, rem.2 - 0) nx)) False := (rfl)
theorem vL_228 {i : Nat} : mstep P_RL rt sgL_ C J X post (.invokevirtual 228) pc ls (mr 30 i :: r) rem st nx = cond (mroom r) (0 ≤ rem.1 ∧ 0 ≤ rem.2 ∧ C 54 [mr 30 i] st (mck X pc ls r (rem.1 - 0, rem.2 - 0) nx)) False := (rfl)
theorem lceq_1828_591 {a b : Int} : mstep P rt sg C J X post (.if_icmp .eq 591) 1828 ls (mi b :: mi a :: r) rem st nx = ((mcmp .eq a b → J 2419 ls r rem st) ∧ (¬ mcmp .eq a b → nx ls r rem st)) := e_icmp rfl
theorem a_300_1833 {C : mCall} {K : mK} : mat P_RL 1 sgL_ k_300 [] C K post 1833 ls r rem st = mblk P_RL 1 sgL_ C (mjmp k_300 K) (mexc [] K post k_300) post [.inl (.aload_n 1, 1), .inl (.aload_n 0, 1), .inl (.iload 5, 2), .inl (.iconst 1, 1), .inl (.iadd, 1), .inl (.iaload, 1), .inl (.i2c, 1), .inl (.aload_n 3, 1), .inl (.invokestatic 229, 3), .inl (.istore 6, 2), .inl (.aload_n 2, 1), .inl (.aload_n 0, 1), .inl (.iload 5, 2), .inl (.iconst 1, 1), .inl (.iadd, 1), .inl (.iaload, 1), .inl (.i2c, 1), .inl (.invokevirtual 232, 3), .inl (.istore 7, 2), .inl (.aload_n 2, 1), .inl (.invokevirtual 141, 3), .inl (.iload 6, 2), .inl (.if_icmp .eq 5, 3), .inl (.iconst 0, 1), .inl (.ireturn, 1)] 1833 ls r rem st := (rfl)
theorem j_300_1833 : mjmp k_300 K 1833 ls r rem st = K 1833 (mproj [0, 1, 2, 3, 4, 5] ls) r rem st := (rfl)
theorem vW_229 {a0 a1 a2 : mV} : mstep P_RL rt sgL_ C J X post (.invokestatic 229) pc ls (a2 :: a1 :: a0 :: r) rem st nx = cond (mroom r) (1 ≤ rem.1 ∧ 6 ≤ rem.2 ∧ C 225 [a0, a1, a2] st (mck X pc ls r (rem.1 - 1, rem.2 - 6) nx)) False := (rfl)
theorem vL_232 {a1 : mV} {i : Nat} : mstep P_RL rt sgL_ C J X post (.invokevirtual 232) pc ls (a1 :: mr 30 i :: r) rem st nx = cond (mroom r) (0 ≤ rem.1 ∧ 0 ≤ rem.2 ∧ C 55 [mr 30 i, a1] st (mck X pc ls r (rem.1 - 0, rem.2 - 0) nx)) False := (rfl)
theorem lceq_1866_5 {a b : Int} : mstep P rt sg C J X post (.if_icmp .eq 5) 1866 ls (mi b :: mi a :: r) rem st nx = ((mcmp .eq a b → J 1871 ls r rem st) ∧ (¬ mcmp .eq a b → nx ls r rem st)) := e_icmp rfl
theorem a_300_1871 {C : mCall} {K : mK} : mat P_RL 1 sgL_ k_300 [] C K post 1871 ls r rem st = mblk P_RL 1 sgL_ C (mjmp k_300 K) (mexc [] K post k_300) post [.inl (.iload 6, 2), .inl (.ifCond .ne 15, 3), .inl (.aload_n 3, 1), .inl (.iconst 0, 1), .inl (.laload, 1), .inl (.iload 7, 2), .inl (.i2l, 1), .inl (.lcmp, 1), .inl (.ifCond .eq 5, 3), .inl (.iconst 0, 1), .inl (.ireturn, 1)] 1871 ls r rem st := (rfl)
theorem j_300_1871 : mjmp k_300 K 1871 ls r rem st = K 1871 (mproj [0, 1, 2, 3, 4, 5, 6, 7] ls) r rem st := (rfl)
theorem lzne_1873_15 {a : Int} : mstep P rt sg C J X post (.ifCond .ne 15) 1873 ls (mi a :: r) rem st nx = ((mcmp .ne a 0 → J 1888 ls r rem st) ∧ (¬ mcmp .ne a 0 → nx ls r rem st)) := e_ifc rfl
theorem lzeq_1883_5 {a : Int} : mstep P rt sg C J X post (.ifCond .eq 5) 1883 ls (mi a :: r) rem st nx = ((mcmp .eq a 0 → J 1888 ls r rem st) ∧ (¬ mcmp .eq a 0 → nx ls r rem st)) := e_ifc rfl
theorem a_300_1888 {C : mCall} {K : mK} : mat P_RL 1 sgL_ k_300 [] C K post 1888 ls r rem st = mblk P_RL 1 sgL_ C (mjmp k_300 K) (mexc [] K post k_300) post [.inl (.goto 531, 3)] 1888 ls r rem st := (rfl)
theorem j_300_1888 : mjmp k_300 K 1888 ls r rem st = K 1888 (mproj [0, 1, 2, 3, 4, 5] ls) r rem st := (rfl)
theorem lg_1888_531 : mstep P rt sg C J X post (.goto 531) 1888 ls r rem st nx = J 2419 ls r rem st := e_goto rfl
theorem a_300_1891 {C : mCall} {K : mK} : mat P_RL 1 sgL_ k_300 [] C K post 1891 ls r rem st = mblk P_RL 1 sgL_ C (mjmp k_300 K) (mexc [] K post k_300) post [.inl (.aload_n 1, 1), .inl (.aload_n 0, 1), .inl (.iload 5, 2), .inl (.iconst 1, 1), .inl (.iadd, 1), .inl (.iaload, 1), .inl (.aload_n 0, 1), .inl (.iload 5, 2), .inl (.iconst 2, 1), .inl (.iadd, 1), .inl (.iaload, 1), .inl (.aload_n 0, 1), .inl (.iload 5, 2), .inl (.iconst 3, 1), .inl (.iadd, 1), .inl (.iaload, 1), .inl (.aload_n 3, 1), .inl (.invokestatic 233, 3), .inl (.istore 6, 2), .inl (.aload_n 2, 1), .inl (.aload_n 0, 1), .inl (.iload 5, 2), .inl (.iconst 1, 1), .inl (.iadd, 1), .inl (.iaload, 1), .inl (.aload_n 0, 1), .inl (.iload 5, 2), .inl (.iconst 2, 1), .inl (.iadd, 1), .inl (.iaload, 1), .inl (.aload_n 0, 1), .inl (.iload 5, 2), .inl (.iconst 3, 1), .inl (.iadd, 1), .inl (.iaload, 1), .inl (.invokevirtual 235, 3), .inl (.istore 7, 2), .inl (.aload_n 2, 1), .inl (.invokevirtual 141, 3), .inl (.iload 6, 2), .inl (.if_icmp .eq 5, 3), .inl (.iconst 0, 1), .inl (.ireturn, 1)] 1891 ls r rem st := (rfl)
theorem j_300_1891 : mjmp k_300 K 1891 ls r rem st = K 1891 (mproj [0, 1, 2, 3, 4, 5] ls) r rem st := (rfl)
theorem vW_233 {a0 a1 a2 a3 a4 : mV} : mstep P_RL rt sgL_ C J X post (.invokestatic 233) pc ls (a4 :: a3 :: a2 :: a1 :: a0 :: r) rem st nx = cond (mroom r) (2 ≤ rem.1 ∧ 12 ≤ rem.2 ∧ C 226 [a0, a1, a2, a3, a4] st (mck X pc ls r (rem.1 - 2, rem.2 - 12) nx)) False := (rfl)
theorem vL_235 {a1 a2 a3 : mV} {i : Nat} : mstep P_RL rt sgL_ C J X post (.invokevirtual 235) pc ls (a3 :: a2 :: a1 :: mr 30 i :: r) rem st nx = cond (mroom r) (0 ≤ rem.1 ∧ 0 ≤ rem.2 ∧ C 56 [mr 30 i, a1, a2, a3] st (mck X pc ls r (rem.1 - 0, rem.2 - 0) nx)) False := (rfl)
theorem lceq_1946_5 {a b : Int} : mstep P rt sg C J X post (.if_icmp .eq 5) 1946 ls (mi b :: mi a :: r) rem st nx = ((mcmp .eq a b → J 1951 ls r rem st) ∧ (¬ mcmp .eq a b → nx ls r rem st)) := e_icmp rfl
theorem a_300_1951 {C : mCall} {K : mK} : mat P_RL 1 sgL_ k_300 [] C K post 1951 ls r rem st = mblk P_RL 1 sgL_ C (mjmp k_300 K) (mexc [] K post k_300) post [.inl (.iload 6, 2), .inl (.ifCond .ne 15, 3), .inl (.aload_n 3, 1), .inl (.iconst 0, 1), .inl (.laload, 1), .inl (.iload 7, 2), .inl (.i2l, 1), .inl (.lcmp, 1), .inl (.ifCond .eq 5, 3), .inl (.iconst 0, 1), .inl (.ireturn, 1)] 1951 ls r rem st := (rfl)
theorem j_300_1951 : mjmp k_300 K 1951 ls r rem st = K 1951 (mproj [0, 1, 2, 3, 4, 5, 6, 7] ls) r rem st := (rfl)
theorem lzne_1953_15 {a : Int} : mstep P rt sg C J X post (.ifCond .ne 15) 1953 ls (mi a :: r) rem st nx = ((mcmp .ne a 0 → J 1968 ls r rem st) ∧ (¬ mcmp .ne a 0 → nx ls r rem st)) := e_ifc rfl
theorem lzeq_1963_5 {a : Int} : mstep P rt sg C J X post (.ifCond .eq 5) 1963 ls (mi a :: r) rem st nx = ((mcmp .eq a 0 → J 1968 ls r rem st) ∧ (¬ mcmp .eq a 0 → nx ls r rem st)) := e_ifc rfl
theorem a_300_1968 {C : mCall} {K : mK} : mat P_RL 1 sgL_ k_300 [] C K post 1968 ls r rem st = mblk P_RL 1 sgL_ C (mjmp k_300 K) (mexc [] K post k_300) post [.inl (.goto 451, 3)] 1968 ls r rem st := (rfl)
theorem j_300_1968 : mjmp k_300 K 1968 ls r rem st = K 1968 (mproj [0, 1, 2, 3, 4, 5] ls) r rem st := (rfl)
theorem lg_1968_451 : mstep P rt sg C J X post (.goto 451) 1968 ls r rem st nx = J 2419 ls r rem st := e_goto rfl
theorem a_300_1971 {C : mCall} {K : mK} : mat P_RL 1 sgL_ k_300 [] C K post 1971 ls r rem st = mblk P_RL 1 sgL_ C (mjmp k_300 K) (mexc [] K post k_300) post [.inl (.aload_n 1, 1), .inl (.aload_n 0, 1), .inl (.iload 5, 2), .inl (.iconst 1, 1), .inl (.iadd, 1), .inl (.iaload, 1), .inl (.aload_n 3, 1), .inl (.invokestatic 236, 3), .inl (.istore 6, 2), .inl (.aload_n 2, 1), .inl (.aload_n 0, 1), .inl (.iload 5, 2), .inl (.iconst 1, 1), .inl (.iadd, 1), .inl (.iaload, 1), .inl (.invokevirtual 238, 3), .inl (.istore 7, 2), .inl (.aload_n 2, 1), .inl (.invokevirtual 141, 3), .inl (.iload 6, 2), .inl (.if_icmp .eq 5, 3), .inl (.iconst 0, 1), .inl (.ireturn, 1)] 1971 ls r rem st := (rfl)
theorem j_300_1971 : mjmp k_300 K 1971 ls r rem st = K 1971 (mproj [0, 1, 2, 3, 4, 5] ls) r rem st := (rfl)
theorem vW_236 {a0 a1 a2 : mV} : mstep P_RL rt sgL_ C J X post (.invokestatic 236) pc ls (a2 :: a1 :: a0 :: r) rem st nx = cond (mroom r) (1 ≤ rem.1 ∧ 6 ≤ rem.2 ∧ C 227 [a0, a1, a2] st (mck X pc ls r (rem.1 - 1, rem.2 - 6) nx)) False := (rfl)
theorem vL_238 {a1 : mV} {i : Nat} : mstep P_RL rt sgL_ C J X post (.invokevirtual 238) pc ls (a1 :: mr 30 i :: r) rem st nx = cond (mroom r) (0 ≤ rem.1 ∧ 0 ≤ rem.2 ∧ C 58 [mr 30 i, a1] st (mck X pc ls r (rem.1 - 0, rem.2 - 0) nx)) False := (rfl)
theorem lceq_2002_5 {a b : Int} : mstep P rt sg C J X post (.if_icmp .eq 5) 2002 ls (mi b :: mi a :: r) rem st nx = ((mcmp .eq a b → J 2007 ls r rem st) ∧ (¬ mcmp .eq a b → nx ls r rem st)) := e_icmp rfl
theorem a_300_2007 {C : mCall} {K : mK} : mat P_RL 1 sgL_ k_300 [] C K post 2007 ls r rem st = mblk P_RL 1 sgL_ C (mjmp k_300 K) (mexc [] K post k_300) post [.inl (.iload 6, 2), .inl (.ifCond .ne 15, 3), .inl (.aload_n 3, 1), .inl (.iconst 0, 1), .inl (.laload, 1), .inl (.iload 7, 2), .inl (.i2l, 1), .inl (.lcmp, 1), .inl (.ifCond .eq 5, 3), .inl (.iconst 0, 1), .inl (.ireturn, 1)] 2007 ls r rem st := (rfl)
theorem j_300_2007 : mjmp k_300 K 2007 ls r rem st = K 2007 (mproj [0, 1, 2, 3, 4, 5, 6, 7] ls) r rem st := (rfl)
theorem lzne_2009_15 {a : Int} : mstep P rt sg C J X post (.ifCond .ne 15) 2009 ls (mi a :: r) rem st nx = ((mcmp .ne a 0 → J 2024 ls r rem st) ∧ (¬ mcmp .ne a 0 → nx ls r rem st)) := e_ifc rfl
theorem lzeq_2019_5 {a : Int} : mstep P rt sg C J X post (.ifCond .eq 5) 2019 ls (mi a :: r) rem st nx = ((mcmp .eq a 0 → J 2024 ls r rem st) ∧ (¬ mcmp .eq a 0 → nx ls r rem st)) := e_ifc rfl
theorem a_300_2024 {C : mCall} {K : mK} : mat P_RL 1 sgL_ k_300 [] C K post 2024 ls r rem st = mblk P_RL 1 sgL_ C (mjmp k_300 K) (mexc [] K post k_300) post [.inl (.goto 395, 3)] 2024 ls r rem st := (rfl)
theorem j_300_2024 : mjmp k_300 K 2024 ls r rem st = K 2024 (mproj [0, 1, 2, 3, 4, 5] ls) r rem st := (rfl)
theorem lg_2024_395 : mstep P rt sg C J X post (.goto 395) 2024 ls r rem st nx = J 2419 ls r rem st := e_goto rfl
theorem a_300_2027 {C : mCall} {K : mK} : mat P_RL 1 sgL_ k_300 [] C K post 2027 ls r rem st = mblk P_RL 1 sgL_ C (mjmp k_300 K) (mexc [] K post k_300) post [.inl (.aload_n 1, 1), .inl (.aload_n 0, 1), .inl (.iload 5, 2), .inl (.iconst 1, 1), .inl (.iadd, 1), .inl (.iaload, 1), .inl (.aload_n 3, 1), .inl (.invokestatic 239, 3), .inl (.istore 6, 2), .inl (.aload_n 2, 1), .inl (.aload_n 0, 1), .inl (.iload 5, 2), .inl (.iconst 1, 1), .inl (.iadd, 1), .inl (.iaload, 1), .inl (.invokevirtual 241, 3), .inl (.istore 7, 2), .inl (.aload_n 2, 1), .inl (.invokevirtual 141, 3), .inl (.iload 6, 2), .inl (.if_icmp .eq 5, 3), .inl (.iconst 0, 1), .inl (.ireturn, 1)] 2027 ls r rem st := (rfl)
theorem j_300_2027 : mjmp k_300 K 2027 ls r rem st = K 2027 (mproj [0, 1, 2, 3, 4, 5] ls) r rem st := (rfl)
theorem vW_239 {a0 a1 a2 : mV} : mstep P_RL rt sgL_ C J X post (.invokestatic 239) pc ls (a2 :: a1 :: a0 :: r) rem st nx = cond (mroom r) (1 ≤ rem.1 ∧ 6 ≤ rem.2 ∧ C 228 [a0, a1, a2] st (mck X pc ls r (rem.1 - 1, rem.2 - 6) nx)) False := (rfl)
theorem vL_241 {a1 : mV} {i : Nat} : mstep P_RL rt sgL_ C J X post (.invokevirtual 241) pc ls (a1 :: mr 30 i :: r) rem st nx = cond (mroom r) (0 ≤ rem.1 ∧ 0 ≤ rem.2 ∧ C 59 [mr 30 i, a1] st (mck X pc ls r (rem.1 - 0, rem.2 - 0) nx)) False := (rfl)
theorem lceq_2058_5 {a b : Int} : mstep P rt sg C J X post (.if_icmp .eq 5) 2058 ls (mi b :: mi a :: r) rem st nx = ((mcmp .eq a b → J 2063 ls r rem st) ∧ (¬ mcmp .eq a b → nx ls r rem st)) := e_icmp rfl
theorem a_300_2063 {C : mCall} {K : mK} : mat P_RL 1 sgL_ k_300 [] C K post 2063 ls r rem st = mblk P_RL 1 sgL_ C (mjmp k_300 K) (mexc [] K post k_300) post [.inl (.iload 6, 2), .inl (.ifCond .ne 15, 3), .inl (.aload_n 3, 1), .inl (.iconst 0, 1), .inl (.laload, 1), .inl (.iload 7, 2), .inl (.i2l, 1), .inl (.lcmp, 1), .inl (.ifCond .eq 5, 3), .inl (.iconst 0, 1), .inl (.ireturn, 1)] 2063 ls r rem st := (rfl)
theorem j_300_2063 : mjmp k_300 K 2063 ls r rem st = K 2063 (mproj [0, 1, 2, 3, 4, 5, 6, 7] ls) r rem st := (rfl)
theorem lzne_2065_15 {a : Int} : mstep P rt sg C J X post (.ifCond .ne 15) 2065 ls (mi a :: r) rem st nx = ((mcmp .ne a 0 → J 2080 ls r rem st) ∧ (¬ mcmp .ne a 0 → nx ls r rem st)) := e_ifc rfl
theorem lzeq_2075_5 {a : Int} : mstep P rt sg C J X post (.ifCond .eq 5) 2075 ls (mi a :: r) rem st nx = ((mcmp .eq a 0 → J 2080 ls r rem st) ∧ (¬ mcmp .eq a 0 → nx ls r rem st)) := e_ifc rfl
theorem a_300_2080 {C : mCall} {K : mK} : mat P_RL 1 sgL_ k_300 [] C K post 2080 ls r rem st = mblk P_RL 1 sgL_ C (mjmp k_300 K) (mexc [] K post k_300) post [.inl (.goto 339, 3)] 2080 ls r rem st := (rfl)
theorem j_300_2080 : mjmp k_300 K 2080 ls r rem st = K 2080 (mproj [0, 1, 2, 3, 4, 5] ls) r rem st := (rfl)
theorem lg_2080_339 : mstep P rt sg C J X post (.goto 339) 2080 ls r rem st nx = J 2419 ls r rem st := e_goto rfl
theorem a_300_2083 {C : mCall} {K : mK} : mat P_RL 1 sgL_ k_300 [] C K post 2083 ls r rem st = mblk P_RL 1 sgL_ C (mjmp k_300 K) (mexc [] K post k_300) post [.inl (.aload_n 1, 1), .inl (.aload_n 0, 1), .inl (.iload 5, 2), .inl (.iconst 1, 1), .inl (.iadd, 1), .inl (.iaload, 1), .inl (.aload_n 3, 1), .inl (.invokestatic 242, 3), .inl (.istore 6, 2), .inl (.aload_n 2, 1), .inl (.aload_n 0, 1), .inl (.iload 5, 2), .inl (.iconst 1, 1), .inl (.iadd, 1), .inl (.iaload, 1), .inl (.invokevirtual 244, 3), .inl (.istore 7, 2), .inl (.aload_n 2, 1), .inl (.invokevirtual 141, 3), .inl (.iload 6, 2), .inl (.if_icmp .eq 5, 3), .inl (.iconst 0, 1), .inl (.ireturn, 1)] 2083 ls r rem st := (rfl)
theorem j_300_2083 : mjmp k_300 K 2083 ls r rem st = K 2083 (mproj [0, 1, 2, 3, 4, 5] ls) r rem st := (rfl)
theorem vW_242 {a0 a1 a2 : mV} : mstep P_RL rt sgL_ C J X post (.invokestatic 242) pc ls (a2 :: a1 :: a0 :: r) rem st nx = cond (mroom r) (1 ≤ rem.1 ∧ 6 ≤ rem.2 ∧ C 229 [a0, a1, a2] st (mck X pc ls r (rem.1 - 1, rem.2 - 6) nx)) False := (rfl)
theorem vL_244 {a1 : mV} {i : Nat} : mstep P_RL rt sgL_ C J X post (.invokevirtual 244) pc ls (a1 :: mr 30 i :: r) rem st nx = cond (mroom r) (0 ≤ rem.1 ∧ 0 ≤ rem.2 ∧ C 60 [mr 30 i, a1] st (mck X pc ls r (rem.1 - 0, rem.2 - 0) nx)) False := (rfl)
theorem lceq_2114_5 {a b : Int} : mstep P rt sg C J X post (.if_icmp .eq 5) 2114 ls (mi b :: mi a :: r) rem st nx = ((mcmp .eq a b → J 2119 ls r rem st) ∧ (¬ mcmp .eq a b → nx ls r rem st)) := e_icmp rfl
theorem a_300_2119 {C : mCall} {K : mK} : mat P_RL 1 sgL_ k_300 [] C K post 2119 ls r rem st = mblk P_RL 1 sgL_ C (mjmp k_300 K) (mexc [] K post k_300) post [.inl (.iload 6, 2), .inl (.ifCond .ne 15, 3), .inl (.aload_n 3, 1), .inl (.iconst 0, 1), .inl (.laload, 1), .inl (.iload 7, 2), .inl (.i2l, 1), .inl (.lcmp, 1), .inl (.ifCond .eq 5, 3), .inl (.iconst 0, 1), .inl (.ireturn, 1)] 2119 ls r rem st := (rfl)
theorem j_300_2119 : mjmp k_300 K 2119 ls r rem st = K 2119 (mproj [0, 1, 2, 3, 4, 5, 6, 7] ls) r rem st := (rfl)
theorem lzne_2121_15 {a : Int} : mstep P rt sg C J X post (.ifCond .ne 15) 2121 ls (mi a :: r) rem st nx = ((mcmp .ne a 0 → J 2136 ls r rem st) ∧ (¬ mcmp .ne a 0 → nx ls r rem st)) := e_ifc rfl
theorem lzeq_2131_5 {a : Int} : mstep P rt sg C J X post (.ifCond .eq 5) 2131 ls (mi a :: r) rem st nx = ((mcmp .eq a 0 → J 2136 ls r rem st) ∧ (¬ mcmp .eq a 0 → nx ls r rem st)) := e_ifc rfl
theorem a_300_2136 {C : mCall} {K : mK} : mat P_RL 1 sgL_ k_300 [] C K post 2136 ls r rem st = mblk P_RL 1 sgL_ C (mjmp k_300 K) (mexc [] K post k_300) post [.inl (.goto 283, 3)] 2136 ls r rem st := (rfl)
theorem j_300_2136 : mjmp k_300 K 2136 ls r rem st = K 2136 (mproj [0, 1, 2, 3, 4, 5] ls) r rem st := (rfl)
theorem lg_2136_283 : mstep P rt sg C J X post (.goto 283) 2136 ls r rem st nx = J 2419 ls r rem st := e_goto rfl
theorem a_300_2139 {C : mCall} {K : mK} : mat P_RL 1 sgL_ k_300 [] C K post 2139 ls r rem st = mblk P_RL 1 sgL_ C (mjmp k_300 K) (mexc [] K post k_300) post [.inl (.aload_n 1, 1), .inl (.aload_n 0, 1), .inl (.iload 5, 2), .inl (.iconst 1, 1), .inl (.iadd, 1), .inl (.iaload, 1), .inl (.aload_n 3, 1), .inl (.invokestatic 245, 3), .inl (.istore 6, 2), .inl (.aload_n 2, 1), .inl (.aload_n 0, 1), .inl (.iload 5, 2), .inl (.iconst 1, 1), .inl (.iadd, 1), .inl (.iaload, 1), .inl (.invokevirtual 247, 3), .inl (.istore 7, 2), .inl (.aload_n 2, 1), .inl (.invokevirtual 141, 3), .inl (.iload 6, 2), .inl (.if_icmp .eq 5, 3), .inl (.iconst 0, 1), .inl (.ireturn, 1)] 2139 ls r rem st := (rfl)
theorem j_300_2139 : mjmp k_300 K 2139 ls r rem st = K 2139 (mproj [0, 1, 2, 3, 4, 5] ls) r rem st := (rfl)
theorem vW_245 {a0 a1 a2 : mV} : mstep P_RL rt sgL_ C J X post (.invokestatic 245) pc ls (a2 :: a1 :: a0 :: r) rem st nx = cond (mroom r) (1 ≤ rem.1 ∧ 6 ≤ rem.2 ∧ C 230 [a0, a1, a2] st (mck X pc ls r (rem.1 - 1, rem.2 - 6) nx)) False := (rfl)
theorem vL_247 {a1 : mV} {i : Nat} : mstep P_RL rt sgL_ C J X post (.invokevirtual 247) pc ls (a1 :: mr 30 i :: r) rem st nx = cond (mroom r) (0 ≤ rem.1 ∧ 0 ≤ rem.2 ∧ C 61 [mr 30 i, a1] st (mck X pc ls r (rem.1 - 0, rem.2 - 0) nx)) False := (rfl)
theorem lceq_2170_5 {a b : Int} : mstep P rt sg C J X post (.if_icmp .eq 5) 2170 ls (mi b :: mi a :: r) rem st nx = ((mcmp .eq a b → J 2175 ls r rem st) ∧ (¬ mcmp .eq a b → nx ls r rem st)) := e_icmp rfl
theorem a_300_2175 {C : mCall} {K : mK} : mat P_RL 1 sgL_ k_300 [] C K post 2175 ls r rem st = mblk P_RL 1 sgL_ C (mjmp k_300 K) (mexc [] K post k_300) post [.inl (.iload 6, 2), .inl (.ifCond .ne 15, 3), .inl (.aload_n 3, 1), .inl (.iconst 0, 1), .inl (.laload, 1), .inl (.iload 7, 2), .inl (.i2l, 1), .inl (.lcmp, 1), .inl (.ifCond .eq 5, 3), .inl (.iconst 0, 1), .inl (.ireturn, 1)] 2175 ls r rem st := (rfl)
theorem j_300_2175 : mjmp k_300 K 2175 ls r rem st = K 2175 (mproj [0, 1, 2, 3, 4, 5, 6, 7] ls) r rem st := (rfl)
theorem lzne_2177_15 {a : Int} : mstep P rt sg C J X post (.ifCond .ne 15) 2177 ls (mi a :: r) rem st nx = ((mcmp .ne a 0 → J 2192 ls r rem st) ∧ (¬ mcmp .ne a 0 → nx ls r rem st)) := e_ifc rfl
theorem lzeq_2187_5 {a : Int} : mstep P rt sg C J X post (.ifCond .eq 5) 2187 ls (mi a :: r) rem st nx = ((mcmp .eq a 0 → J 2192 ls r rem st) ∧ (¬ mcmp .eq a 0 → nx ls r rem st)) := e_ifc rfl
theorem a_300_2192 {C : mCall} {K : mK} : mat P_RL 1 sgL_ k_300 [] C K post 2192 ls r rem st = mblk P_RL 1 sgL_ C (mjmp k_300 K) (mexc [] K post k_300) post [.inl (.goto 227, 3)] 2192 ls r rem st := (rfl)
theorem j_300_2192 : mjmp k_300 K 2192 ls r rem st = K 2192 (mproj [0, 1, 2, 3, 4, 5] ls) r rem st := (rfl)
theorem lg_2192_227 : mstep P rt sg C J X post (.goto 227) 2192 ls r rem st nx = J 2419 ls r rem st := e_goto rfl
theorem a_300_2195 {C : mCall} {K : mK} : mat P_RL 1 sgL_ k_300 [] C K post 2195 ls r rem st = mblk P_RL 1 sgL_ C (mjmp k_300 K) (mexc [] K post k_300) post [.inl (.aload_n 1, 1), .inl (.aload_n 0, 1), .inl (.iload 5, 2), .inl (.iconst 1, 1), .inl (.iadd, 1), .inl (.iaload, 1), .inl (.aload_n 0, 1), .inl (.iload 5, 2), .inl (.iconst 2, 1), .inl (.iadd, 1), .inl (.iaload, 1), .inl (.aload_n 3, 1), .inl (.invokestatic 248, 3), .inl (.istore 6, 2), .inl (.aload_n 2, 1), .inl (.aload_n 0, 1), .inl (.iload 5, 2), .inl (.iconst 1, 1), .inl (.iadd, 1), .inl (.iaload, 1), .inl (.aload_n 0, 1), .inl (.iload 5, 2), .inl (.iconst 2, 1), .inl (.iadd, 1), .inl (.iaload, 1), .inl (.invokevirtual 250, 3), .inl (.istore 7, 2), .inl (.aload_n 2, 1), .inl (.invokevirtual 141, 3), .inl (.iload 6, 2), .inl (.if_icmp .eq 5, 3), .inl (.iconst 0, 1), .inl (.ireturn, 1)] 2195 ls r rem st := (rfl)
theorem j_300_2195 : mjmp k_300 K 2195 ls r rem st = K 2195 (mproj [0, 1, 2, 3, 4, 5] ls) r rem st := (rfl)
theorem vW_248 {a0 a1 a2 a3 : mV} : mstep P_RL rt sgL_ C J X post (.invokestatic 248) pc ls (a3 :: a2 :: a1 :: a0 :: r) rem st nx = cond (mroom r) (3 ≤ rem.1 ∧ 18 ≤ rem.2 ∧ C 231 [a0, a1, a2, a3] st (mck X pc ls r (rem.1 - 3, rem.2 - 18) nx)) False := (rfl)
theorem vL_250 {a1 a2 : mV} {i : Nat} : mstep P_RL rt sgL_ C J X post (.invokevirtual 250) pc ls (a2 :: a1 :: mr 30 i :: r) rem st nx = cond (mroom r) (0 ≤ rem.1 ∧ 0 ≤ rem.2 ∧ C 62 [mr 30 i, a1, a2] st (mck X pc ls r (rem.1 - 0, rem.2 - 0) nx)) False := (rfl)
theorem lceq_2238_5 {a b : Int} : mstep P rt sg C J X post (.if_icmp .eq 5) 2238 ls (mi b :: mi a :: r) rem st nx = ((mcmp .eq a b → J 2243 ls r rem st) ∧ (¬ mcmp .eq a b → nx ls r rem st)) := e_icmp rfl
theorem a_300_2243 {C : mCall} {K : mK} : mat P_RL 1 sgL_ k_300 [] C K post 2243 ls r rem st = mblk P_RL 1 sgL_ C (mjmp k_300 K) (mexc [] K post k_300) post [.inl (.iload 6, 2), .inl (.ifCond .ne 15, 3), .inl (.aload_n 3, 1), .inl (.iconst 0, 1), .inl (.laload, 1), .inl (.iload 7, 2), .inl (.i2l, 1), .inl (.lcmp, 1), .inl (.ifCond .eq 5, 3), .inl (.iconst 0, 1), .inl (.ireturn, 1)] 2243 ls r rem st := (rfl)
theorem j_300_2243 : mjmp k_300 K 2243 ls r rem st = K 2243 (mproj [0, 1, 2, 3, 4, 5, 6, 7] ls) r rem st := (rfl)
theorem lzne_2245_15 {a : Int} : mstep P rt sg C J X post (.ifCond .ne 15) 2245 ls (mi a :: r) rem st nx = ((mcmp .ne a 0 → J 2260 ls r rem st) ∧ (¬ mcmp .ne a 0 → nx ls r rem st)) := e_ifc rfl
theorem lzeq_2255_5 {a : Int} : mstep P rt sg C J X post (.ifCond .eq 5) 2255 ls (mi a :: r) rem st nx = ((mcmp .eq a 0 → J 2260 ls r rem st) ∧ (¬ mcmp .eq a 0 → nx ls r rem st)) := e_ifc rfl
theorem a_300_2260 {C : mCall} {K : mK} : mat P_RL 1 sgL_ k_300 [] C K post 2260 ls r rem st = mblk P_RL 1 sgL_ C (mjmp k_300 K) (mexc [] K post k_300) post [.inl (.goto 159, 3)] 2260 ls r rem st := (rfl)
theorem j_300_2260 : mjmp k_300 K 2260 ls r rem st = K 2260 (mproj [0, 1, 2, 3, 4, 5] ls) r rem st := (rfl)
theorem lg_2260_159 : mstep P rt sg C J X post (.goto 159) 2260 ls r rem st nx = J 2419 ls r rem st := e_goto rfl
theorem a_300_2263 {C : mCall} {K : mK} : mat P_RL 1 sgL_ k_300 [] C K post 2263 ls r rem st = mblk P_RL 1 sgL_ C (mjmp k_300 K) (mexc [] K post k_300) post [.inl (.aload_n 1, 1), .inl (.aload_n 0, 1), .inl (.iload 5, 2), .inl (.iconst 1, 1), .inl (.iadd, 1), .inl (.iaload, 1), .inl (.aload 4, 2), .inl (.invokestatic 251, 3), .inl (.istore 6, 2), .inl (.aload_n 2, 1), .inl (.aload_n 0, 1), .inl (.iload 5, 2), .inl (.iconst 1, 1), .inl (.iadd, 1), .inl (.iaload, 1), .inl (.invokevirtual 254, 3), .inl (.fstore 7, 2), .inl (.aload_n 2, 1), .inl (.invokevirtual 141, 3), .inl (.iload 6, 2), .inl (.if_icmp .eq 5, 3), .inl (.iconst 0, 1), .inl (.ireturn, 1)] 2263 ls r rem st := (rfl)
theorem j_300_2263 : mjmp k_300 K 2263 ls r rem st = K 2263 (mproj [0, 1, 2, 3, 4, 5] ls) r rem st := (rfl)
theorem vW_251 {a0 a1 a2 : mV} : mstep P_RL rt sgL_ C J X post (.invokestatic 251) pc ls (a2 :: a1 :: a0 :: r) rem st nx = cond (mroom r) (2 ≤ rem.1 ∧ 12 ≤ rem.2 ∧ C 232 [a0, a1, a2] st (mck X pc ls r (rem.1 - 2, rem.2 - 12) nx)) False := (rfl)
theorem vL_254 {a1 : mV} {i : Nat} : mstep P_RL rt sgL_ C J X post (.invokevirtual 254) pc ls (a1 :: mr 30 i :: r) rem st nx = cond (mroom r) (0 ≤ rem.1 ∧ 0 ≤ rem.2 ∧ C 63 [mr 30 i, a1] st (mck X pc ls r (rem.1 - 0, rem.2 - 0) nx)) False := (rfl)
theorem lceq_2295_5 {a b : Int} : mstep P rt sg C J X post (.if_icmp .eq 5) 2295 ls (mi b :: mi a :: r) rem st nx = ((mcmp .eq a b → J 2300 ls r rem st) ∧ (¬ mcmp .eq a b → nx ls r rem st)) := e_icmp rfl
theorem a_300_2300 {C : mCall} {K : mK} : mat P_RL 1 sgL_ k_300 [] C K post 2300 ls r rem st = mblk P_RL 1 sgL_ C (mjmp k_300 K) (mexc [] K post k_300) post [.inl (.iload 6, 2), .inl (.ifCond .ne 36, 3), .inl (.aload 4, 2), .inl (.iconst 0, 1), .inl (.daload, 1), .inl (.fload 7, 2), .inl (.f2d, 1), .inl (.dcmp .l, 1), .inl (.ifCond .eq 25, 3), .inl (.aload 4, 2), .inl (.iconst 0, 1), .inl (.daload, 1), .inl (.aload 4, 2), .inl (.iconst 0, 1), .inl (.daload, 1), .inl (.dcmp .l, 1), .inl (.ifCond .eq 11, 3), .inl (.fload 7, 2), .inl (.fload 7, 2), .inl (.fcmp .l, 1), .inl (.ifCond .ne 5, 3)] 2300 ls r rem st := (rfl)
theorem j_300_2300 : mjmp k_300 K 2300 ls r rem st = K 2300 (mproj [0, 1, 2, 3, 4, 5, 6, 7] ls) r rem st := (rfl)
theorem lzne_2302_36 {a : Int} : mstep P rt sg C J X post (.ifCond .ne 36) 2302 ls (mi a :: r) rem st nx = ((mcmp .ne a 0 → J 2338 ls r rem st) ∧ (¬ mcmp .ne a 0 → nx ls r rem st)) := e_ifc rfl
theorem lzeq_2313_25 {a : Int} : mstep P rt sg C J X post (.ifCond .eq 25) 2313 ls (mi a :: r) rem st nx = ((mcmp .eq a 0 → J 2338 ls r rem st) ∧ (¬ mcmp .eq a 0 → nx ls r rem st)) := e_ifc rfl
theorem lzeq_2325_11 {a : Int} : mstep P rt sg C J X post (.ifCond .eq 11) 2325 ls (mi a :: r) rem st nx = ((mcmp .eq a 0 → J 2336 ls r rem st) ∧ (¬ mcmp .eq a 0 → nx ls r rem st)) := e_ifc rfl
theorem lzne_2333_5 {a : Int} : mstep P rt sg C J X post (.ifCond .ne 5) 2333 ls (mi a :: r) rem st nx = ((mcmp .ne a 0 → J 2338 ls r rem st) ∧ (¬ mcmp .ne a 0 → nx ls r rem st)) := e_ifc rfl
theorem a_300_2336 {C : mCall} {K : mK} : mat P_RL 1 sgL_ k_300 [] C K post 2336 ls r rem st = mblk P_RL 1 sgL_ C (mjmp k_300 K) (mexc [] K post k_300) post [.inl (.iconst 0, 1), .inl (.ireturn, 1)] 2336 ls r rem st := (rfl)
theorem j_300_2336 : mjmp k_300 K 2336 ls r rem st = K 2336 (mproj [] ls) r rem st := (rfl)
theorem a_300_2338 {C : mCall} {K : mK} : mat P_RL 1 sgL_ k_300 [] C K post 2338 ls r rem st = mblk P_RL 1 sgL_ C (mjmp k_300 K) (mexc [] K post k_300) post [.inl (.goto 81, 3)] 2338 ls r rem st := (rfl)
theorem j_300_2338 : mjmp k_300 K 2338 ls r rem st = K 2338 (mproj [0, 1, 2, 3, 4, 5] ls) r rem st := (rfl)
theorem lg_2338_81 : mstep P rt sg C J X post (.goto 81) 2338 ls r rem st nx = J 2419 ls r rem st := e_goto rfl
theorem a_300_2341 {C : mCall} {K : mK} : mat P_RL 1 sgL_ k_300 [] C K post 2341 ls r rem st = mblk P_RL 1 sgL_ C (mjmp k_300 K) (mexc [] K post k_300) post [.inl (.aload_n 1, 1), .inl (.aload 4, 2), .inl (.invokestatic 255, 3), .inl (.istore 6, 2), .inl (.aload_n 2, 1), .inl (.invokevirtual 258, 3), .inl (.dstore 7, 2), .inl (.aload_n 2, 1), .inl (.invokevirtual 141, 3), .inl (.iload 6, 2), .inl (.if_icmp .eq 5, 3), .inl (.iconst 0, 1), .inl (.ireturn, 1)] 2341 ls r rem st := (rfl)
theorem j_300_2341 : mjmp k_300 K 2341 ls r rem st = K 2341 (mproj [0, 1, 2, 3, 4, 5] ls) r rem st := (rfl)
theorem vW_255 {a0 a1 : mV} : mstep P_RL rt sgL_ C J X post (.invokestatic 255) pc ls (a1 :: a0 :: r) rem st nx = cond (mroom r) (1 ≤ rem.1 ∧ 6 ≤ rem.2 ∧ C 233 [a0, a1] st (mck X pc ls r (rem.1 - 1, rem.2 - 6) nx)) False := (rfl)
theorem vL_258 {i : Nat} : mstep P_RL rt sgL_ C J X post (.invokevirtual 258) pc ls (mr 30 i :: r) rem st nx = cond (mroom r) (0 ≤ rem.1 ∧ 0 ≤ rem.2 ∧ C 64 [mr 30 i] st (mck X pc ls r (rem.1 - 0, rem.2 - 0) nx)) False := (rfl)
theorem lceq_2361_5 {a b : Int} : mstep P rt sg C J X post (.if_icmp .eq 5) 2361 ls (mi b :: mi a :: r) rem st nx = ((mcmp .eq a b → J 2366 ls r rem st) ∧ (¬ mcmp .eq a b → nx ls r rem st)) := e_icmp rfl
theorem a_300_2366 {C : mCall} {K : mK} : mat P_RL 1 sgL_ k_300 [] C K post 2366 ls r rem st = mblk P_RL 1 sgL_ C (mjmp k_300 K) (mexc [] K post k_300) post [.inl (.iload 6, 2), .inl (.ifCond .ne 35, 3), .inl (.aload 4, 2), .inl (.iconst 0, 1), .inl (.daload, 1), .inl (.dload 7, 2), .inl (.dcmp .l, 1), .inl (.ifCond .eq 25, 3), .inl (.aload 4, 2), .inl (.iconst 0, 1), .inl (.daload, 1), .inl (.aload 4, 2), .inl (.iconst 0, 1), .inl (.daload, 1), .inl (.dcmp .l, 1), .inl (.ifCond .eq 11, 3), .inl (.dload 7, 2), .inl (.dload 7, 2), .inl (.dcmp .l, 1), .inl (.ifCond .ne 5, 3)] 2366 ls r rem st := (rfl)
theorem j_300_2366 : mjmp k_300 K 2366 ls r rem st = K 2366 (mproj [0, 1, 2, 3, 4, 5, 6, 7] ls) r rem st := (rfl)
theorem lzne_2368_35 {a : Int} : mstep P rt sg C J X post (.ifCond .ne 35) 2368 ls (mi a :: r) rem st nx = ((mcmp .ne a 0 → J 2403 ls r rem st) ∧ (¬ mcmp .ne a 0 → nx ls r rem st)) := e_ifc rfl
theorem lzeq_2378_25 {a : Int} : mstep P rt sg C J X post (.ifCond .eq 25) 2378 ls (mi a :: r) rem st nx = ((mcmp .eq a 0 → J 2403 ls r rem st) ∧ (¬ mcmp .eq a 0 → nx ls r rem st)) := e_ifc rfl
theorem lzeq_2390_11 {a : Int} : mstep P rt sg C J X post (.ifCond .eq 11) 2390 ls (mi a :: r) rem st nx = ((mcmp .eq a 0 → J 2401 ls r rem st) ∧ (¬ mcmp .eq a 0 → nx ls r rem st)) := e_ifc rfl
theorem lzne_2398_5 {a : Int} : mstep P rt sg C J X post (.ifCond .ne 5) 2398 ls (mi a :: r) rem st nx = ((mcmp .ne a 0 → J 2403 ls r rem st) ∧ (¬ mcmp .ne a 0 → nx ls r rem st)) := e_ifc rfl
theorem a_300_2401 {C : mCall} {K : mK} : mat P_RL 1 sgL_ k_300 [] C K post 2401 ls r rem st = mblk P_RL 1 sgL_ C (mjmp k_300 K) (mexc [] K post k_300) post [.inl (.iconst 0, 1), .inl (.ireturn, 1)] 2401 ls r rem st := (rfl)
theorem j_300_2401 : mjmp k_300 K 2401 ls r rem st = K 2401 (mproj [] ls) r rem st := (rfl)
theorem a_300_2403 {C : mCall} {K : mK} : mat P_RL 1 sgL_ k_300 [] C K post 2403 ls r rem st = mblk P_RL 1 sgL_ C (mjmp k_300 K) (mexc [] K post k_300) post [.inl (.goto 16, 3)] 2403 ls r rem st := (rfl)
theorem j_300_2403 : mjmp k_300 K 2403 ls r rem st = K 2403 (mproj [0, 1, 2, 3, 4, 5] ls) r rem st := (rfl)
theorem lg_2403_16 : mstep P rt sg C J X post (.goto 16) 2403 ls r rem st nx = J 2419 ls r rem st := e_goto rfl
theorem a_300_2406 {C : mCall} {K : mK} : mat P_RL 1 sgL_ k_300 [] C K post 2406 ls r rem st = mblk P_RL 1 sgL_ C (mjmp k_300 K) (mexc [] K post k_300) post [.inl (.aload_n 1, 1), .inl (.invokevirtual 259, 3), .inl (.aload_n 2, 1), .inl (.invokevirtual 263, 3), .inl (.if_icmp .eq 5, 3), .inl (.iconst 0, 1), .inl (.ireturn, 1)] 2406 ls r rem st := (rfl)
theorem j_300_2406 : mjmp k_300 K 2406 ls r rem st = K 2406 (mproj [0, 1, 2, 3, 4, 5] ls) r rem st := (rfl)
theorem vL_259 {i : Nat} : mstep P_RL rt sgL_ C J X post (.invokevirtual 259) pc ls (mr 0 i :: r) rem st nx = cond (mroom r) (0 ≤ rem.1 ∧ 0 ≤ rem.2 ∧ C 175 [mr 0 i] st (mck X pc ls r (rem.1 - 0, rem.2 - 0) nx)) False := (rfl)
theorem vL_263 {i : Nat} : mstep P_RL rt sgL_ C J X post (.invokevirtual 263) pc ls (mr 30 i :: r) rem st nx = cond (mroom r) (0 ≤ rem.1 ∧ 0 ≤ rem.2 ∧ C 65 [mr 30 i] st (mck X pc ls r (rem.1 - 0, rem.2 - 0) nx)) False := (rfl)
theorem lceq_2414_5 {a b : Int} : mstep P rt sg C J X post (.if_icmp .eq 5) 2414 ls (mi b :: mi a :: r) rem st nx = ((mcmp .eq a b → J 2419 ls r rem st) ∧ (¬ mcmp .eq a b → nx ls r rem st)) := e_icmp rfl
theorem a_300_2419 {C : mCall} {K : mK} : mat P_RL 1 sgL_ k_300 [] C K post 2419 ls r rem st = mblk P_RL 1 sgL_ C (mjmp k_300 K) (mexc [] K post k_300) post [.inl (.iinc 5 5, 3), .inl (.goto (-2394), 3)] 2419 ls r rem st := (rfl)
theorem j_300_2419 : mjmp k_300 K 2419 ls r rem st = K 2419 (mproj [0, 1, 2, 3, 4, 5] ls) r rem st := (rfl)
theorem lg_2422_m2394 : mstep P rt sg C J X post (.goto (-2394)) 2422 ls r rem st nx = J 28 ls r rem st := e_goto rfl
theorem a_300_2425 {C : mCall} {K : mK} : mat P_RL 1 sgL_ k_300 [] C K post 2425 ls r rem st = mblk P_RL 1 sgL_ C (mjmp k_300 K) (mexc [] K post k_300) post [.inl (.iconst 1, 1), .inl (.ireturn, 1)] 2425 ls r rem st := (rfl)
theorem j_300_2425 : mjmp k_300 K 2425 ls r rem st = K 2425 (mproj [] ls) r rem st := (rfl)
end LRuns_
