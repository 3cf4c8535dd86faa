/-! ROWS for runs: the program's jumps, fields, calls, blocks, by program (wip/tools/runs.py) -/
section Runs_
variable {P : mPool} {rt : Nat} {sg : mSig} {C : mCall} {J : mK} {K : mK} {X : Nat → Nat → mLs → Nat × Nat → mS → Prop} {post : mO → mS → Prop} {pc : Nat} {ls : mLs} {r : List mV} {rem : Nat × Nat} {st : mS} {nx : mLs → List mV → Nat × Nat → mS → Prop} {l : List mI}
theorem rm_  : mroom [] = true := (rfl)
theorem rm_i {a0 : Int} : mroom [mi a0] = true := (rfl)
theorem rm_r {a0 b0 : Nat} : mroom [mr a0 b0] = true := (rfl)
theorem rm_ii {a0 : Int} {a1 : Int} : mroom [mi a0, mi a1] = true := (rfl)
theorem rm_ir {a0 : Int} {a1 b1 : Nat} : mroom [mi a0, mr a1 b1] = true := (rfl)
theorem rm_ri {a0 b0 : Nat} {a1 : Int} : mroom [mr a0 b0, mi a1] = true := (rfl)
theorem rm_rr {a0 b0 : Nat} {a1 b1 : Nat} : mroom [mr a0 b0, mr a1 b1] = true := (rfl)
theorem rm_iii {a0 : Int} {a1 : Int} {a2 : Int} : mroom [mi a0, mi a1, mi a2] = true := (rfl)
theorem rm_iir {a0 : Int} {a1 : Int} {a2 b2 : Nat} : mroom [mi a0, mi a1, mr a2 b2] = true := (rfl)
theorem rm_iri {a0 : Int} {a1 b1 : Nat} {a2 : Int} : mroom [mi a0, mr a1 b1, mi a2] = true := (rfl)
theorem rm_irr {a0 : Int} {a1 b1 : Nat} {a2 b2 : Nat} : mroom [mi a0, mr a1 b1, mr a2 b2] = true := (rfl)
theorem rm_rii {a0 b0 : Nat} {a1 : Int} {a2 : Int} : mroom [mr a0 b0, mi a1, mi a2] = true := (rfl)
theorem rm_rir {a0 b0 : Nat} {a1 : Int} {a2 b2 : Nat} : mroom [mr a0 b0, mi a1, mr a2 b2] = true := (rfl)
theorem rm_rri {a0 b0 : Nat} {a1 b1 : Nat} {a2 : Int} : mroom [mr a0 b0, mr a1 b1, mi a2] = true := (rfl)
theorem rm_rrr {a0 b0 : Nat} {a1 b1 : Nat} {a2 b2 : Nat} : mroom [mr a0 b0, mr a1 b1, mr a2 b2] = true := (rfl)
theorem rm_iiii {a0 : Int} {a1 : Int} {a2 : Int} {a3 : Int} : mroom [mi a0, mi a1, mi a2, mi a3] = true := (rfl)
theorem rm_iiir {a0 : Int} {a1 : Int} {a2 : Int} {a3 b3 : Nat} : mroom [mi a0, mi a1, mi a2, mr a3 b3] = true := (rfl)
theorem rm_iiri {a0 : Int} {a1 : Int} {a2 b2 : Nat} {a3 : Int} : mroom [mi a0, mi a1, mr a2 b2, mi a3] = true := (rfl)
theorem rm_iirr {a0 : Int} {a1 : Int} {a2 b2 : Nat} {a3 b3 : Nat} : mroom [mi a0, mi a1, mr a2 b2, mr a3 b3] = true := (rfl)
theorem rm_irii {a0 : Int} {a1 b1 : Nat} {a2 : Int} {a3 : Int} : mroom [mi a0, mr a1 b1, mi a2, mi a3] = true := (rfl)
theorem rm_irir {a0 : Int} {a1 b1 : Nat} {a2 : Int} {a3 b3 : Nat} : mroom [mi a0, mr a1 b1, mi a2, mr a3 b3] = true := (rfl)
theorem rm_irri {a0 : Int} {a1 b1 : Nat} {a2 b2 : Nat} {a3 : Int} : mroom [mi a0, mr a1 b1, mr a2 b2, mi a3] = true := (rfl)
theorem rm_irrr {a0 : Int} {a1 b1 : Nat} {a2 b2 : Nat} {a3 b3 : Nat} : mroom [mi a0, mr a1 b1, mr a2 b2, mr a3 b3] = true := (rfl)
theorem rm_riii {a0 b0 : Nat} {a1 : Int} {a2 : Int} {a3 : Int} : mroom [mr a0 b0, mi a1, mi a2, mi a3] = true := (rfl)
theorem rm_riir {a0 b0 : Nat} {a1 : Int} {a2 : Int} {a3 b3 : Nat} : mroom [mr a0 b0, mi a1, mi a2, mr a3 b3] = true := (rfl)
theorem rm_riri {a0 b0 : Nat} {a1 : Int} {a2 b2 : Nat} {a3 : Int} : mroom [mr a0 b0, mi a1, mr a2 b2, mi a3] = true := (rfl)
theorem rm_rirr {a0 b0 : Nat} {a1 : Int} {a2 b2 : Nat} {a3 b3 : Nat} : mroom [mr a0 b0, mi a1, mr a2 b2, mr a3 b3] = true := (rfl)
theorem rm_rrii {a0 b0 : Nat} {a1 b1 : Nat} {a2 : Int} {a3 : Int} : mroom [mr a0 b0, mr a1 b1, mi a2, mi a3] = true := (rfl)
theorem rm_rrir {a0 b0 : Nat} {a1 b1 : Nat} {a2 : Int} {a3 b3 : Nat} : mroom [mr a0 b0, mr a1 b1, mi a2, mr a3 b3] = true := (rfl)
theorem rm_rrri {a0 b0 : Nat} {a1 b1 : Nat} {a2 b2 : Nat} {a3 : Int} : mroom [mr a0 b0, mr a1 b1, mr a2 b2, mi a3] = true := (rfl)
theorem rm_rrrr {a0 b0 : Nat} {a1 b1 : Nat} {a2 b2 : Nat} {a3 b3 : Nat} : mroom [mr a0 b0, mr a1 b1, mr a2 b2, mr a3 b3] = true := (rfl)
theorem ad_4 : mAd 4 = some (0, 4) := (rfl)
theorem le_4 : mLen st 4 = some (0, 4) := (rfl)
theorem ad_5 : mAd 5 = some (0, 4) := (rfl)
theorem le_5 : mLen st 5 = some (0, 4) := (rfl)
theorem ad_6 : mAd 6 = some (0, 1000) := (rfl)
theorem le_6 : mLen st 6 = some (0, 1000) := (rfl)
theorem ad_8 : mAd 8 = some (0, 3) := (rfl)
theorem le_8 : mLen st 8 = some (0, 3) := (rfl)
theorem ad_10 : mAd 10 = some (0, 3) := (rfl)
theorem le_10 : mLen st 10 = some (0, 3) := (rfl)
theorem ad_11 : mAd 11 = some (0, 3) := (rfl)
theorem le_11 : mLen st 11 = some (0, 3) := (rfl)
theorem ad_13 : mAd 13 = some (0, 3) := (rfl)
theorem le_13 : mLen st 13 = some (0, 3) := (rfl)
theorem ad_14 : mAd 14 = some (0, 3) := (rfl)
theorem le_14 : mLen st 14 = some (0, 3) := (rfl)
theorem ad_15 : mAd 15 = some (0, 3) := (rfl)
theorem le_15 : mLen st 15 = some (0, 3) := (rfl)
theorem ad_16 : mAd 16 = some (0, 3) := (rfl)
theorem le_16 : mLen st 16 = some (0, 3) := (rfl)
theorem ad_18 : mAd 18 = some (0, 4) := (rfl)
theorem le_18 : mLen st 18 = some (0, 4) := (rfl)
theorem ad_19 : mAd 19 = some (0, 4) := (rfl)
theorem le_19 : mLen st 19 = some (0, 4) := (rfl)
theorem ad_31 : mAd 31 = some (1, 32) := (rfl)
theorem le_31 : mLen st 31 = some (1, 32) := (rfl)
theorem ad_32 : mAd 32 = some (1, 336) := (rfl)
theorem le_32 : mLen st 32 = some (1, 336) := (rfl)
theorem ad_33 : mAd 33 = some (1, 336) := (rfl)
theorem le_33 : mLen st 33 = some (1, 336) := (rfl)
theorem ad_34 : mAd 34 = some (1, 8) := (rfl)
theorem le_34 : mLen st 34 = some (1, 8) := (rfl)
theorem ad_35 : mAd 35 = some (0, 32) := (rfl)
theorem le_35 : mLen st 35 = some (0, 32) := (rfl)
theorem ad_36 : mAd 36 = some (0, 32) := (rfl)
theorem le_36 : mLen st 36 = some (0, 32) := (rfl)
theorem ad_37 : mAd 37 = some (0, 8) := (rfl)
theorem le_37 : mLen st 37 = some (0, 8) := (rfl)
theorem ad_38 : mAd 38 = some (0, 8) := (rfl)
theorem le_38 : mLen st 38 = some (0, 8) := (rfl)
theorem ad_39 : mAd 39 = some (0, 4) := (rfl)
theorem le_39 : mLen st 39 = some (0, 4) := (rfl)
theorem ad_40 : mAd 40 = some (0, 12) := (rfl)
theorem le_40 : mLen st 40 = some (0, 12) := (rfl)
theorem ad_41 : mAd 41 = some (0, 24) := (rfl)
theorem le_41 : mLen st 41 = some (0, 24) := (rfl)
theorem ad_42 : mAd 42 = some (0, 24) := (rfl)
theorem le_42 : mLen st 42 = some (0, 24) := (rfl)
theorem ad_43 : mAd 43 = some (0, 24) := (rfl)
theorem le_43 : mLen st 43 = some (0, 24) := (rfl)
theorem ad_44 : mAd 44 = some (0, 24) := (rfl)
theorem le_44 : mLen st 44 = some (0, 24) := (rfl)
theorem ad_45 : mAd 45 = some (0, 72) := (rfl)
theorem le_45 : mLen st 45 = some (0, 72) := (rfl)
theorem ad_46 : mAd 46 = some (0, 1001) := (rfl)
theorem le_46 : mLen st 46 = some (0, 1001) := (rfl)
theorem ad_47 : mAd 47 = some (0, 3) := (rfl)
theorem le_47 : mLen st 47 = some (0, 3) := (rfl)
theorem ad_48 : mAd 48 = some (0, 3) := (rfl)
theorem le_48 : mLen st 48 = some (0, 3) := (rfl)
theorem ad_49 : mAd 49 = some (1, 24) := (rfl)
theorem le_49 : mLen st 49 = some (1, 24) := (rfl)
theorem ad_50 : mAd 50 = some (0, 4) := (rfl)
theorem le_50 : mLen st 50 = some (0, 4) := (rfl)
theorem ad_51 : mAd 51 = some (0, 4) := (rfl)
theorem le_51 : mLen st 51 = some (0, 4) := (rfl)
theorem ad_52 : mAd 52 = some (0, 72) := (rfl)
theorem le_52 : mLen st 52 = some (0, 72) := (rfl)
theorem ad_53 : mAd 53 = some (0, 24) := (rfl)
theorem le_53 : mLen st 53 = some (0, 24) := (rfl)
theorem ad_54 : mAd 54 = some (0, 72) := (rfl)
theorem le_54 : mLen st 54 = some (0, 72) := (rfl)
theorem ad_55 : mAd 55 = some (0, 24) := (rfl)
theorem le_55 : mLen st 55 = some (0, 24) := (rfl)
theorem ad_60 : mAd 60 = some (2, 1) := (rfl)
theorem le_60 : mLen st 60 = some (2, 1) := (rfl)
theorem ad_61 : mAd 61 = some (3, 1) := (rfl)
theorem le_61 : mLen st 61 = some (3, 1) := (rfl)
theorem le_62 : mLen st 62 = some (0, sN st 62) := (rfl)
theorem ft_0_5 : mFt 0 5 = 0 := (rfl)
theorem ft_0_6 : mFt 0 6 = 0 := (rfl)
theorem ft_0_7 : mFt 0 7 = 0 := (rfl)
theorem ft_3_0 : mFt 3 0 = 0 := (rfl)
theorem ft_3_5 : mFt 3 5 = 0 := (rfl)
theorem ft_3_6 : mFt 3 6 = 0 := (rfl)
theorem ft_3_8 : mFt 3 8 = 0 := (rfl)
theorem ft_7_1 : mFt 7 1 = 0 := (rfl)
theorem ft_7_2 : mFt 7 2 = 1 := (rfl)
theorem ft_9_1 : mFt 9 1 = 0 := (rfl)
theorem ft_9_2 : mFt 9 2 = 0 := (rfl)
theorem ft_9_3 : mFt 9 3 = 2 := (rfl)
theorem ft_12_0 : mFt 12 0 = 0 := (rfl)
theorem ft_12_5 : mFt 12 5 = 0 := (rfl)
theorem ft_17_3 : mFt 17 3 = 0 := (rfl)
theorem ft_17_4 : mFt 17 4 = 0 := (rfl)
theorem ft_30_0 : mFt 30 0 = 0 := (rfl)
theorem ft_30_1 : mFt 30 1 = 0 := (rfl)
theorem ft_30_2 : mFt 30 2 = 0 := (rfl)
theorem ft_30_3 : mFt 30 3 = 0 := (rfl)
theorem ft_30_4 : mFt 30 4 = 0 := (rfl)
theorem ft_30_5 : mFt 30 5 = 0 := (rfl)
theorem ft_30_6 : mFt 30 6 = 0 := (rfl)
theorem ft_30_7 : mFt 30 7 = 0 := (rfl)
theorem a_1_0 {C : mCall} {K : mK} : mat P_RX7 0 sg_ k_1 [] C K post 0 ls r rem st = mblk P_RX7 0 sg_ C (mjmp k_1 K) (mexc [] K post k_1) post [.inl (.aload_n 0, 1), .inl (.getfield 93, 3), .inl (.ireturn, 1)] 0 ls r rem st := (rfl)
theorem j_1_0 : mjmp k_1 K 0 ls r rem st = K 0 (mproj [0] ls) r rem st := (rfl)
theorem f_RX7_93_30 {i : Nat} {f : mV → Prop} : mGet P_RX7 93 30 i st f = f (mi (sI st 30 i 0)) := (rfl)
theorem a_2_0 {C : mCall} {K : mK} : mat P_RX7 0 sg_ k_2 [] C K post 0 ls r rem st = mblk P_RX7 0 sg_ C (mjmp k_2 K) (mexc [] K post k_2) post [.inl (.aload_n 0, 1), .inl (.iload_n 1, 1), .inl (.putfield 93, 3), .inl (.iconst 0, 1), .inl (.ireturn, 1)] 0 ls r rem st := (rfl)
theorem j_2_0 : mjmp k_2 K 0 ls r rem st = K 0 (mproj [0, 1] ls) r rem st := (rfl)
theorem p_RX7_93_30 {f : Nat → Prop} : mPut P_RX7 93 30 0 f = f 0 := (rfl)
theorem a_3_0 {C : mCall} {K : mK} : mat P_RX7 1 sg_ k_3 [] C K post 0 ls r rem st = mblk P_RX7 1 sg_ C (mjmp k_3 K) (mexc [] K post k_3) post [.inl (.iload_n 0, 1), .inl (.iload_n 1, 1), .inl (.if_icmp .lt 12, 3), .inl (.iload_n 0, 1), .inl (.iload_n 2, 1), .inl (.if_icmp .gt 7, 3), .inl (.iconst 1, 1), .inl (.goto 4, 3)] 0 ls r rem st := (rfl)
theorem j_3_0 : mjmp k_3 K 0 ls r rem st = K 0 (mproj [0, 1, 2] ls) r rem st := (rfl)
theorem clt_2_12 {a b : Int} : mstep P rt sg C J X post (.if_icmp .lt 12) 2 ls (mi b :: mi a :: r) rem st nx = ((mcmp .lt a b → J 14 ls r rem st) ∧ (¬ mcmp .lt a b → nx ls r rem st)) := e_icmp rfl
theorem cgt_7_7 {a b : Int} : mstep P rt sg C J X post (.if_icmp .gt 7) 7 ls (mi b :: mi a :: r) rem st nx = ((mcmp .gt a b → J 14 ls r rem st) ∧ (¬ mcmp .gt a b → nx ls r rem st)) := e_icmp rfl
theorem g_11_4 : mstep P rt sg C J X post (.goto 4) 11 ls r rem st nx = J 15 ls r rem st := e_goto rfl
theorem a_3_14 {C : mCall} {K : mK} : mat P_RX7 1 sg_ k_3 [] C K post 14 ls r rem st = mblk P_RX7 1 sg_ C (mjmp k_3 K) (mexc [] K post k_3) post [.inl (.iconst 0, 1)] 14 ls r rem st := (rfl)
theorem j_3_14 : mjmp k_3 K 14 ls r rem st = K 14 (mproj [] ls) r rem st := (rfl)
theorem a_3_15 {C : mCall} {K : mK} : mat P_RX7 1 sg_ k_3 [] C K post 15 ls r rem st = mblk P_RX7 1 sg_ C (mjmp k_3 K) (mexc [] K post k_3) post [.inl (.ireturn, 1)] 15 ls r rem st := (rfl)
theorem j_3_15 : mjmp k_3 K 15 ls r rem st = K 15 (mproj [] ls) r rem st := (rfl)
theorem a_4_0 {C : mCall} {K : mK} : mat P_RX7 1 sg_ k_4 [] C K post 0 ls r rem st = mblk P_RX7 1 sg_ C (mjmp k_4 K) (mexc [] K post k_4) post [.inl (.iload_n 1, 1), .inl (.iconst 0, 1), .inl (.aload_n 0, 1), .inl (.getfield 96, 3), .inl (.iconst 1, 1), .inl (.isub, 1), .inl (.invokestatic 99, 3), .inl (.ireturn, 1)] 0 ls r rem st := (rfl)
theorem j_4_0 : mjmp k_4 K 0 ls r rem st = K 0 (mproj [0, 1] ls) r rem st := (rfl)
theorem f_RX7_96_30 {i : Nat} {f : mV → Prop} : mGet P_RX7 96 30 i st f = f (mi (sI st 30 i 1)) := (rfl)
theorem v_RX7_99 {a0 a1 a2 : mV} : mstep P_RX7 rt sg_ C J X post (.invokestatic 99) pc ls (a2 :: a1 :: a0 :: r) rem st nx = cond (mroom r) (0 ≤ rem.1 ∧ 0 ≤ rem.2 ∧ C 3 [a0, a1, a2] st (mck X pc ls r (rem.1 - 0, rem.2 - 0) nx)) False := (rfl)
theorem a_5_0 {C : mCall} {K : mK} : mat P_RX7 1 sg_ k_5 [] C K post 0 ls r rem st = mblk P_RX7 1 sg_ C (mjmp k_5 K) (mexc [] K post k_5) post [.inl (.iload_n 1, 1), .inl (.iconst 0, 1), .inl (.aload_n 0, 1), .inl (.getfield 103, 3), .inl (.iconst 1, 1), .inl (.isub, 1), .inl (.invokestatic 99, 3), .inl (.ireturn, 1)] 0 ls r rem st := (rfl)
theorem j_5_0 : mjmp k_5 K 0 ls r rem st = K 0 (mproj [0, 1] ls) r rem st := (rfl)
theorem f_RX7_103_30 {i : Nat} {f : mV → Prop} : mGet P_RX7 103 30 i st f = f (mi (sI st 30 i 3)) := (rfl)
theorem a_6_0 {C : mCall} {K : mK} : mat P_RX7 0 sg_ k_6 [] C K post 0 ls r rem st = mblk P_RX7 0 sg_ C (mjmp k_6 K) (mexc [] K post k_6) post [.inl (.aload_n 0, 1), .inl (.getfield 106, 3), .inl (.bipush 24, 2), .inl (.idiv, 1), .inl (.ireturn, 1)] 0 ls r rem st := (rfl)
theorem j_6_0 : mjmp k_6 K 0 ls r rem st = K 0 (mproj [0] ls) r rem st := (rfl)
theorem f_RX7_106_30 {i : Nat} {f : mV → Prop} : mGet P_RX7 106 30 i st f = f (mi (sI st 30 i 4)) := (rfl)
theorem a_7_0 {C : mCall} {K : mK} : mat P_RX7 0 sg_ k_7 [] C K post 0 ls r rem st = mblk P_RX7 0 sg_ C (mjmp k_7 K) (mexc [] K post k_7) post [.inl (.iconst 0, 1), .inl (.istore_n 2, 1)] 0 ls r rem st := (rfl)
theorem j_7_0 : mjmp k_7 K 0 ls r rem st = K 0 (mproj [0, 1] ls) r rem st := (rfl)
theorem a_7_2 {C : mCall} {K : mK} : mat P_RX7 0 sg_ k_7 [] C K post 2 ls r rem st = mblk P_RX7 0 sg_ C (mjmp k_7 K) (mexc [] K post k_7) post [.inl (.iload_n 2, 1), .inl (.aload_n 0, 1), .inl (.getfield 96, 3), .inl (.if_icmp .ge 108, 3), .inl (.aload_n 0, 1), .inl (.getfield 26, 3), .inl (.iload_n 2, 1), .inl (.baload, 1), .inl (.ifCond .eq 93, 3), .inl (.aload_n 0, 1), .inl (.getfield 39, 3), .inl (.iload_n 2, 1), .inl (.iaload, 1), .inl (.iload_n 1, 1), .inl (.if_icmp .eq 6, 3), .inl (.goto 80, 3)] 2 ls r rem st := (rfl)
theorem j_7_2 : mjmp k_7 K 2 ls r rem st = K 2 (mproj [0, 1, 2] ls) r rem st := (rfl)
theorem cge_7_108 {a b : Int} : mstep P rt sg C J X post (.if_icmp .ge 108) 7 ls (mi b :: mi a :: r) rem st nx = ((mcmp .ge a b → J 115 ls r rem st) ∧ (¬ mcmp .ge a b → nx ls r rem st)) := e_icmp rfl
theorem f_RX7_26_30 {i : Nat} {f : mV → Prop} : mGet P_RX7 26 30 i st f = f (mr 34 i) := (rfl)
theorem zeq_16_93 {a : Int} : mstep P rt sg C J X post (.ifCond .eq 93) 16 ls (mi a :: r) rem st nx = ((mcmp .eq a 0 → J 109 ls r rem st) ∧ (¬ mcmp .eq a 0 → nx ls r rem st)) := e_ifc rfl
theorem f_RX7_39_30 {i : Nat} {f : mV → Prop} : mGet P_RX7 39 30 i st f = f (mr 38 i) := (rfl)
theorem ceq_26_6 {a b : Int} : mstep P rt sg C J X post (.if_icmp .eq 6) 26 ls (mi b :: mi a :: r) rem st nx = ((mcmp .eq a b → J 32 ls r rem st) ∧ (¬ mcmp .eq a b → nx ls r rem st)) := e_icmp rfl
theorem g_29_80 : mstep P rt sg C J X post (.goto 80) 29 ls r rem st nx = J 109 ls r rem st := e_goto rfl
theorem a_7_32 {C : mCall} {K : mK} : mat P_RX7 0 sg_ k_7 [] C K post 32 ls r rem st = mblk P_RX7 0 sg_ C (mjmp k_7 K) (mexc [] K post k_7) post [.inl (.iconst 4, 1), .inl (.iload_n 2, 1), .inl (.imul, 1), .inl (.aload_n 0, 1), .inl (.getfield 36, 3), .inl (.iload_n 2, 1), .inl (.iaload, 1), .inl (.iadd, 1), .inl (.istore_n 3, 1), .inl (.aload_n 0, 1), .inl (.getfield 26, 3), .inl (.iload_n 2, 1), .inl (.iconst 0, 1), .inl (.bastore, 1), .inl (.aload_n 0, 1), .inl (.getfield 16, 3), .inl (.iload_n 3, 1), .inl (.baload, 1), .inl (.ifCond .eq 27, 3), .inl (.aload_n 0, 1), .inl (.getfield 33, 3), .inl (.iload_n 3, 1), .inl (.iaload, 1), .inl (.iload_n 1, 1), .inl (.if_icmp .lt 17, 3), .inl (.aload_n 0, 1), .inl (.getfield 33, 3), .inl (.iload_n 3, 1), .inl (.dup2, 1), .inl (.iaload, 1), .inl (.bipush 30, 2), .inl (.iadd, 1), .inl (.iastore, 1), .inl (.goto 29, 3)] 32 ls r rem st := (rfl)
theorem j_7_32 : mjmp k_7 K 32 ls r rem st = K 32 (mproj [0, 1, 2] ls) r rem st := (rfl)
theorem f_RX7_36_30 {i : Nat} {f : mV → Prop} : mGet P_RX7 36 30 i st f = f (mr 37 i) := (rfl)
theorem f_RX7_16_30 {i : Nat} {f : mV → Prop} : mGet P_RX7 16 30 i st f = f (mr 31 i) := (rfl)
theorem zeq_56_27 {a : Int} : mstep P rt sg C J X post (.ifCond .eq 27) 56 ls (mi a :: r) rem st nx = ((mcmp .eq a 0 → J 83 ls r rem st) ∧ (¬ mcmp .eq a 0 → nx ls r rem st)) := e_ifc rfl
theorem f_RX7_33_30 {i : Nat} {f : mV → Prop} : mGet P_RX7 33 30 i st f = f (mr 36 i) := (rfl)
theorem clt_66_17 {a b : Int} : mstep P rt sg C J X post (.if_icmp .lt 17) 66 ls (mi b :: mi a :: r) rem st nx = ((mcmp .lt a b → J 83 ls r rem st) ∧ (¬ mcmp .lt a b → nx ls r rem st)) := e_icmp rfl
theorem g_80_29 : mstep P rt sg C J X post (.goto 29) 80 ls r rem st nx = J 109 ls r rem st := e_goto rfl
theorem a_7_83 {C : mCall} {K : mK} : mat P_RX7 0 sg_ k_7 [] C K post 83 ls r rem st = mblk P_RX7 0 sg_ C (mjmp k_7 K) (mexc [] K post k_7) post [.inl (.aload_n 0, 1), .inl (.getfield 16, 3), .inl (.iload_n 3, 1), .inl (.iconst 1, 1), .inl (.bastore, 1), .inl (.aload_n 0, 1), .inl (.getfield 29, 3), .inl (.iload_n 3, 1), .inl (.iload_n 1, 1), .inl (.iconst 1, 1), .inl (.iadd, 1), .inl (.iastore, 1), .inl (.aload_n 0, 1), .inl (.getfield 33, 3), .inl (.iload_n 3, 1), .inl (.iload_n 1, 1), .inl (.bipush 30, 2), .inl (.iadd, 1), .inl (.iastore, 1)] 83 ls r rem st := (rfl)
theorem j_7_83 : mjmp k_7 K 83 ls r rem st = K 83 (mproj [0, 1, 2, 3] ls) r rem st := (rfl)
theorem f_RX7_29_30 {i : Nat} {f : mV → Prop} : mGet P_RX7 29 30 i st f = f (mr 35 i) := (rfl)
theorem a_7_109 {C : mCall} {K : mK} : mat P_RX7 0 sg_ k_7 [] C K post 109 ls r rem st = mblk P_RX7 0 sg_ C (mjmp k_7 K) (mexc [] K post k_7) post [.inl (.iinc 2 1, 3), .inl (.goto (-110), 3)] 109 ls r rem st := (rfl)
theorem j_7_109 : mjmp k_7 K 109 ls r rem st = K 109 (mproj [0, 1, 2] ls) r rem st := (rfl)
theorem g_112_m110 : mstep P rt sg C J X post (.goto (-110)) 112 ls r rem st nx = J 2 ls r rem st := e_goto rfl
theorem a_7_115 {C : mCall} {K : mK} : mat P_RX7 0 sg_ k_7 [] C K post 115 ls r rem st = mblk P_RX7 0 sg_ C (mjmp k_7 K) (mexc [] K post k_7) post [.inl (.return_, 1)] 115 ls r rem st := (rfl)
theorem j_7_115 : mjmp k_7 K 115 ls r rem st = K 115 (mproj [] ls) r rem st := (rfl)
theorem a_8_0 {C : mCall} {K : mK} : mat P_RX7 0 sg_ k_8 [] C K post 0 ls r rem st = mblk P_RX7 0 sg_ C (mjmp k_8 K) (mexc [] K post k_8) post [.inl (.iload_n 1, 1), .inl (.iconst 1, 1), .inl (.bipush 48, 2), .inl (.invokestatic 99, 3), .inl (.ifCond .ne 9, 3), .inl (.aload_n 0, 1), .inl (.iconst 1, 1), .inl (.invokevirtual 109, 3), .inl (.ireturn, 1)] 0 ls r rem st := (rfl)
theorem j_8_0 : mjmp k_8 K 0 ls r rem st = K 0 (mproj [0, 1] ls) r rem st := (rfl)
theorem zne_7_9 {a : Int} : mstep P rt sg C J X post (.ifCond .ne 9) 7 ls (mi a :: r) rem st nx = ((mcmp .ne a 0 → J 16 ls r rem st) ∧ (¬ mcmp .ne a 0 → nx ls r rem st)) := e_ifc rfl
theorem v_RX7_109_30 {a1 : mV} {i : Nat} : mstep P_RX7 rt sg_ C J X post (.invokevirtual 109) pc ls (a1 :: mr 30 i :: r) rem st nx = cond (mroom r) (0 ≤ rem.1 ∧ 0 ≤ rem.2 ∧ C 2 [mr 30 i, a1] st (mck X pc ls r (rem.1 - 0, rem.2 - 0) nx)) False := (rfl)
theorem a_8_16 {C : mCall} {K : mK} : mat P_RX7 0 sg_ k_8 [] C K post 16 ls r rem st = mblk P_RX7 0 sg_ C (mjmp k_8 K) (mexc [] K post k_8) post [.inl (.aload_n 0, 1), .inl (.getfield 106, 3), .inl (.iload_n 1, 1), .inl (.iadd, 1), .inl (.sipush 999, 3), .inl (.if_icmp .le 9, 3), .inl (.aload_n 0, 1), .inl (.iconst 2, 1), .inl (.invokevirtual 109, 3), .inl (.ireturn, 1)] 16 ls r rem st := (rfl)
theorem j_8_16 : mjmp k_8 K 16 ls r rem st = K 16 (mproj [0, 1] ls) r rem st := (rfl)
theorem cle_25_9 {a b : Int} : mstep P rt sg C J X post (.if_icmp .le 9) 25 ls (mi b :: mi a :: r) rem st nx = ((mcmp .le a b → J 34 ls r rem st) ∧ (¬ mcmp .le a b → nx ls r rem st)) := e_icmp rfl
theorem a_8_34 {C : mCall} {K : mK} : mat P_RX7 0 sg_ k_8 [] C K post 34 ls r rem st = mblk P_RX7 0 sg_ C (mjmp k_8 K) (mexc [] K post k_8) post [.inl (.aload_n 0, 1), .inl (.iconst 0, 1), .inl (.putfield 93, 3), .inl (.iconst 0, 1), .inl (.istore_n 2, 1), .inl (.iconst 0, 1), .inl (.istore_n 3, 1)] 34 ls r rem st := (rfl)
theorem j_8_34 : mjmp k_8 K 34 ls r rem st = K 34 (mproj [0, 1] ls) r rem st := (rfl)
theorem a_8_43 {C : mCall} {K : mK} : mat P_RX7 0 sg_ k_8 [] C K post 43 ls r rem st = mblk P_RX7 0 sg_ C (mjmp k_8 K) (mexc [] K post k_8) post [.inl (.iload_n 3, 1), .inl (.iload_n 1, 1), .inl (.if_icmp .ge 117, 3), .inl (.aload_n 0, 1), .inl (.dup, 1), .inl (.getfield 106, 3), .inl (.iconst 1, 1), .inl (.iadd, 1), .inl (.putfield 106, 3), .inl (.aload_n 0, 1), .inl (.getfield 106, 3), .inl (.bipush 24, 2), .inl (.irem, 1), .inl (.ifCond .ne 13, 3), .inl (.aload_n 0, 1), .inl (.aload_n 0, 1), .inl (.invokevirtual 113, 3), .inl (.iconst 1, 1), .inl (.isub, 1), .inl (.invokevirtual 117, 3)] 43 ls r rem st := (rfl)
theorem j_8_43 : mjmp k_8 K 43 ls r rem st = K 43 (mproj [0, 1, 2, 3] ls) r rem st := (rfl)
theorem cge_45_117 {a b : Int} : mstep P rt sg C J X post (.if_icmp .ge 117) 45 ls (mi b :: mi a :: r) rem st nx = ((mcmp .ge a b → J 162 ls r rem st) ∧ (¬ mcmp .ge a b → nx ls r rem st)) := e_icmp rfl
theorem p_RX7_106_30 {f : Nat → Prop} : mPut P_RX7 106 30 0 f = f 4 := (rfl)
theorem zne_65_13 {a : Int} : mstep P rt sg C J X post (.ifCond .ne 13) 65 ls (mi a :: r) rem st nx = ((mcmp .ne a 0 → J 78 ls r rem st) ∧ (¬ mcmp .ne a 0 → nx ls r rem st)) := e_ifc rfl
theorem v_RX7_113_30  {i : Nat} : mstep P_RX7 rt sg_ C J X post (.invokevirtual 113) pc ls (mr 30 i :: r) rem st nx = cond (mroom r) (0 ≤ rem.1 ∧ 0 ≤ rem.2 ∧ C 6 [mr 30 i] st (mck X pc ls r (rem.1 - 0, rem.2 - 0) nx)) False := (rfl)
theorem v_RX7_117_30 {a1 : mV} {i : Nat} : mstep P_RX7 rt sg_ C J X post (.invokevirtual 117) pc ls (a1 :: mr 30 i :: r) rem st nx = cond (mroom r) (0 ≤ rem.1 ∧ 0 ≤ rem.2 ∧ C 7 [mr 30 i, a1] st (mck X pc ls r (rem.1 - 0, rem.2 - 0) nx)) False := (rfl)
theorem a_8_78 {C : mCall} {K : mK} : mat P_RX7 0 sg_ k_8 [] C K post 78 ls r rem st = mblk P_RX7 0 sg_ C (mjmp k_8 K) (mexc [] K post k_8) post [.inl (.iconst 0, 1), .inl (.istore 4, 2)] 78 ls r rem st := (rfl)
theorem j_8_78 : mjmp k_8 K 78 ls r rem st = K 78 (mproj [0, 1, 2, 3] ls) r rem st := (rfl)
theorem a_8_81 {C : mCall} {K : mK} : mat P_RX7 0 sg_ k_8 [] C K post 81 ls r rem st = mblk P_RX7 0 sg_ C (mjmp k_8 K) (mexc [] K post k_8) post [.inl (.iload 4, 2), .inl (.aload_n 0, 1), .inl (.getfield 103, 3), .inl (.if_icmp .ge 69, 3), .inl (.aload_n 0, 1), .inl (.getfield 57, 3), .inl (.iload 4, 2), .inl (.iaload, 1), .inl (.bipush 112, 2), .inl (.if_icmp .ne 51, 3), .inl (.aload_n 0, 1), .inl (.getfield 51, 3), .inl (.iload 4, 2), .inl (.iaload, 1), .inl (.aload_n 0, 1), .inl (.getfield 106, 3), .inl (.if_icmp .eq 6, 3), .inl (.goto 34, 3)] 81 ls r rem st := (rfl)
theorem j_8_81 : mjmp k_8 K 81 ls r rem st = K 81 (mproj [0, 1, 2, 3, 4] ls) r rem st := (rfl)
theorem cge_87_69 {a b : Int} : mstep P rt sg C J X post (.if_icmp .ge 69) 87 ls (mi b :: mi a :: r) rem st nx = ((mcmp .ge a b → J 156 ls r rem st) ∧ (¬ mcmp .ge a b → nx ls r rem st)) := e_icmp rfl
theorem f_RX7_57_30 {i : Nat} {f : mV → Prop} : mGet P_RX7 57 30 i st f = f (mr 44 i) := (rfl)
theorem cne_99_51 {a b : Int} : mstep P rt sg C J X post (.if_icmp .ne 51) 99 ls (mi b :: mi a :: r) rem st nx = ((mcmp .ne a b → J 150 ls r rem st) ∧ (¬ mcmp .ne a b → nx ls r rem st)) := e_icmp rfl
theorem f_RX7_51_30 {i : Nat} {f : mV → Prop} : mGet P_RX7 51 30 i st f = f (mr 42 i) := (rfl)
theorem ceq_113_6 {a b : Int} : mstep P rt sg C J X post (.if_icmp .eq 6) 113 ls (mi b :: mi a :: r) rem st nx = ((mcmp .eq a b → J 119 ls r rem st) ∧ (¬ mcmp .eq a b → nx ls r rem st)) := e_icmp rfl
theorem g_116_34 : mstep P rt sg C J X post (.goto 34) 116 ls r rem st nx = J 150 ls r rem st := e_goto rfl
theorem a_8_119 {C : mCall} {K : mK} : mat P_RX7 0 sg_ k_8 [] C K post 119 ls r rem st = mblk P_RX7 0 sg_ C (mjmp k_8 K) (mexc [] K post k_8) post [.inl (.aload_n 0, 1), .inl (.iload 4, 2), .inl (.invokevirtual 121, 3), .inl (.ifCond .eq 15, 3), .inl (.aload_n 0, 1), .inl (.getfield 57, 3), .inl (.iload 4, 2), .inl (.bipush 115, 2), .inl (.iastore, 1), .inl (.goto 13, 3)] 119 ls r rem st := (rfl)
theorem j_8_119 : mjmp k_8 K 119 ls r rem st = K 119 (mproj [0, 1, 2, 3, 4] ls) r rem st := (rfl)
theorem v_RX7_121_30 {a1 : mV} {i : Nat} : mstep P_RX7 rt sg_ C J X post (.invokevirtual 121) pc ls (a1 :: mr 30 i :: r) rem st nx = cond (mroom r) (0 ≤ rem.1 ∧ 0 ≤ rem.2 ∧ C 34 [mr 30 i, a1] st (mck X pc ls r (rem.1 - 0, rem.2 - 0) nx)) False := (rfl)
theorem zeq_125_15 {a : Int} : mstep P rt sg C J X post (.ifCond .eq 15) 125 ls (mi a :: r) rem st nx = ((mcmp .eq a 0 → J 140 ls r rem st) ∧ (¬ mcmp .eq a 0 → nx ls r rem st)) := e_ifc rfl
theorem g_137_13 : mstep P rt sg C J X post (.goto 13) 137 ls r rem st nx = J 150 ls r rem st := e_goto rfl
theorem a_8_140 {C : mCall} {K : mK} : mat P_RX7 0 sg_ k_8 [] C K post 140 ls r rem st = mblk P_RX7 0 sg_ C (mjmp k_8 K) (mexc [] K post k_8) post [.inl (.aload_n 0, 1), .inl (.iload 4, 2), .inl (.invokevirtual 125, 3), .inl (.pop, 1), .inl (.iinc 2 1, 3)] 140 ls r rem st := (rfl)
theorem j_8_140 : mjmp k_8 K 140 ls r rem st = K 140 (mproj [0, 1, 2, 3, 4] ls) r rem st := (rfl)
theorem v_RX7_125_30 {a1 : mV} {i : Nat} : mstep P_RX7 rt sg_ C J X post (.invokevirtual 125) pc ls (a1 :: mr 30 i :: r) rem st nx = cond (mroom r) (0 ≤ rem.1 ∧ 0 ≤ rem.2 ∧ C 35 [mr 30 i, a1] st (mck X pc ls r (rem.1 - 0, rem.2 - 0) nx)) False := (rfl)
theorem a_8_150 {C : mCall} {K : mK} : mat P_RX7 0 sg_ k_8 [] C K post 150 ls r rem st = mblk P_RX7 0 sg_ C (mjmp k_8 K) (mexc [] K post k_8) post [.inl (.iinc 4 1, 3), .inl (.goto (-72), 3)] 150 ls r rem st := (rfl)
theorem j_8_150 : mjmp k_8 K 150 ls r rem st = K 150 (mproj [0, 1, 2, 3, 4] ls) r rem st := (rfl)
theorem g_153_m72 : mstep P rt sg C J X post (.goto (-72)) 153 ls r rem st nx = J 81 ls r rem st := e_goto rfl
theorem a_8_156 {C : mCall} {K : mK} : mat P_RX7 0 sg_ k_8 [] C K post 156 ls r rem st = mblk P_RX7 0 sg_ C (mjmp k_8 K) (mexc [] K post k_8) post [.inl (.iinc 3 1, 3), .inl (.goto (-116), 3)] 156 ls r rem st := (rfl)
theorem j_8_156 : mjmp k_8 K 156 ls r rem st = K 156 (mproj [0, 1, 2, 3] ls) r rem st := (rfl)
theorem g_159_m116 : mstep P rt sg C J X post (.goto (-116)) 159 ls r rem st nx = J 43 ls r rem st := e_goto rfl
theorem a_8_162 {C : mCall} {K : mK} : mat P_RX7 0 sg_ k_8 [] C K post 162 ls r rem st = mblk P_RX7 0 sg_ C (mjmp k_8 K) (mexc [] K post k_8) post [.inl (.iload_n 2, 1), .inl (.ireturn, 1)] 162 ls r rem st := (rfl)
theorem j_8_162 : mjmp k_8 K 162 ls r rem st = K 162 (mproj [2] ls) r rem st := (rfl)
theorem a_9_0 {C : mCall} {K : mK} : mat P_RX7 0 sg_ k_9 [] C K post 0 ls r rem st = mblk P_RX7 0 sg_ C (mjmp k_9 K) (mexc [] K post k_9) post [.inl (.aload_n 0, 1), .inl (.iconst 0, 1), .inl (.putfield 93, 3), .inl (.aload_n 0, 1), .inl (.getfield 106, 3), .inl (.ireturn, 1)] 0 ls r rem st := (rfl)
theorem j_9_0 : mjmp k_9 K 0 ls r rem st = K 0 (mproj [0] ls) r rem st := (rfl)
theorem a_10_0 {C : mCall} {K : mK} : mat P_RX7 0 sg_ k_10 [] C K post 0 ls r rem st = mblk P_RX7 0 sg_ C (mjmp k_10 K) (mexc [] K post k_10) post [.inl (.iload_n 1, 1), .inl (.iconst 1, 1), .inl (.bipush 24, 2), .inl (.invokestatic 99, 3), .inl (.ifCond .ne 9, 3), .inl (.aload_n 0, 1), .inl (.iconst 1, 1), .inl (.invokevirtual 109, 3), .inl (.ireturn, 1)] 0 ls r rem st := (rfl)
theorem j_10_0 : mjmp k_10 K 0 ls r rem st = K 0 (mproj [0, 1] ls) r rem st := (rfl)
theorem a_10_16 {C : mCall} {K : mK} : mat P_RX7 0 sg_ k_10 [] C K post 16 ls r rem st = mblk P_RX7 0 sg_ C (mjmp k_10 K) (mexc [] K post k_10) post [.inl (.aload_n 0, 1), .inl (.iconst 0, 1), .inl (.putfield 93, 3), .inl (.aload_n 0, 1), .inl (.getfield 7, 3), .inl (.istore_n 2, 1), .inl (.aload_n 0, 1), .inl (.iload_n 1, 1), .inl (.putfield 7, 3), .inl (.iload_n 2, 1), .inl (.ireturn, 1)] 16 ls r rem st := (rfl)
theorem j_10_16 : mjmp k_10 K 16 ls r rem st = K 16 (mproj [0, 1] ls) r rem st := (rfl)
theorem f_RX7_7_30 {i : Nat} {f : mV → Prop} : mGet P_RX7 7 30 i st f = f (mi (sI st 30 i 5)) := (rfl)
theorem p_RX7_7_30 {f : Nat → Prop} : mPut P_RX7 7 30 0 f = f 5 := (rfl)
theorem a_11_0 {C : mCall} {K : mK} : mat P_RX7 0 sg_ k_11 [] C K post 0 ls r rem st = mblk P_RX7 0 sg_ C (mjmp k_11 K) (mexc [] K post k_11) post [.inl (.iload_n 1, 1), .inl (.iconst 1, 1), .inl (.sipush 168, 3), .inl (.invokestatic 99, 3), .inl (.ifCond .ne 9, 3), .inl (.aload_n 0, 1), .inl (.iconst 1, 1), .inl (.invokevirtual 109, 3), .inl (.ireturn, 1)] 0 ls r rem st := (rfl)
theorem j_11_0 : mjmp k_11 K 0 ls r rem st = K 0 (mproj [0, 1] ls) r rem st := (rfl)
theorem zne_8_9 {a : Int} : mstep P rt sg C J X post (.ifCond .ne 9) 8 ls (mi a :: r) rem st nx = ((mcmp .ne a 0 → J 17 ls r rem st) ∧ (¬ mcmp .ne a 0 → nx ls r rem st)) := e_ifc rfl
theorem a_11_17 {C : mCall} {K : mK} : mat P_RX7 0 sg_ k_11 [] C K post 17 ls r rem st = mblk P_RX7 0 sg_ C (mjmp k_11 K) (mexc [] K post k_11) post [.inl (.aload_n 0, 1), .inl (.iconst 0, 1), .inl (.putfield 93, 3), .inl (.aload_n 0, 1), .inl (.getfield 13, 3), .inl (.istore_n 2, 1), .inl (.aload_n 0, 1), .inl (.iload_n 1, 1), .inl (.putfield 13, 3), .inl (.iload_n 2, 1), .inl (.ireturn, 1)] 17 ls r rem st := (rfl)
theorem j_11_17 : mjmp k_11 K 17 ls r rem st = K 17 (mproj [0, 1] ls) r rem st := (rfl)
theorem f_RX7_13_30 {i : Nat} {f : mV → Prop} : mGet P_RX7 13 30 i st f = f (mi (sI st 30 i 6)) := (rfl)
theorem p_RX7_13_30 {f : Nat → Prop} : mPut P_RX7 13 30 0 f = f 6 := (rfl)
theorem a_12_0 {C : mCall} {K : mK} : mat P_RX7 0 sg_ k_12 [] C K post 0 ls r rem st = mblk P_RX7 0 sg_ C (mjmp k_12 K) (mexc [] K post k_12) post [.inl (.aload_n 0, 1), .inl (.getfield 96, 3), .inl (.bipush 8, 2), .inl (.if_icmp .ne 9, 3), .inl (.aload_n 0, 1), .inl (.iconst 1, 1), .inl (.invokevirtual 109, 3), .inl (.ireturn, 1)] 0 ls r rem st := (rfl)
theorem j_12_0 : mjmp k_12 K 0 ls r rem st = K 0 (mproj [0] ls) r rem st := (rfl)
theorem cne_6_9 {a b : Int} : mstep P rt sg C J X post (.if_icmp .ne 9) 6 ls (mi b :: mi a :: r) rem st nx = ((mcmp .ne a b → J 15 ls r rem st) ∧ (¬ mcmp .ne a b → nx ls r rem st)) := e_icmp rfl
theorem a_12_15 {C : mCall} {K : mK} : mat P_RX7 0 sg_ k_12 [] C K post 15 ls r rem st = mblk P_RX7 0 sg_ C (mjmp k_12 K) (mexc [] K post k_12) post [.inl (.aload_n 0, 1), .inl (.iconst 0, 1), .inl (.putfield 93, 3), .inl (.aload_n 0, 1), .inl (.dup, 1), .inl (.getfield 96, 3), .inl (.iconst 1, 1), .inl (.iadd, 1), .inl (.putfield 96, 3), .inl (.aload_n 0, 1), .inl (.getfield 96, 3), .inl (.iconst 1, 1), .inl (.isub, 1), .inl (.ireturn, 1)] 15 ls r rem st := (rfl)
theorem j_12_15 : mjmp k_12 K 15 ls r rem st = K 15 (mproj [0] ls) r rem st := (rfl)
theorem p_RX7_96_30 {f : Nat → Prop} : mPut P_RX7 96 30 0 f = f 1 := (rfl)
theorem a_13_0 {C : mCall} {K : mK} : mat P_RX7 0 sg_ k_13 [] C K post 0 ls r rem st = mblk P_RX7 0 sg_ C (mjmp k_13 K) (mexc [] K post k_13) post [.inl (.aload_n 0, 1), .inl (.iload_n 1, 1), .inl (.invokevirtual 128, 3), .inl (.ifCond .ne 9, 3), .inl (.aload_n 0, 1), .inl (.iconst 1, 1), .inl (.invokevirtual 109, 3), .inl (.ireturn, 1)] 0 ls r rem st := (rfl)
theorem j_13_0 : mjmp k_13 K 0 ls r rem st = K 0 (mproj [0, 1, 2, 3] ls) r rem st := (rfl)
theorem v_RX7_128_30 {a1 : mV} {i : Nat} : mstep P_RX7 rt sg_ C J X post (.invokevirtual 128) pc ls (a1 :: mr 30 i :: r) rem st nx = cond (mroom r) (0 ≤ rem.1 ∧ 0 ≤ rem.2 ∧ C 4 [mr 30 i, a1] st (mck X pc ls r (rem.1 - 0, rem.2 - 0) nx)) False := (rfl)
theorem zne_5_9 {a : Int} : mstep P rt sg C J X post (.ifCond .ne 9) 5 ls (mi a :: r) rem st nx = ((mcmp .ne a 0 → J 14 ls r rem st) ∧ (¬ mcmp .ne a 0 → nx ls r rem st)) := e_ifc rfl
theorem a_13_14 {C : mCall} {K : mK} : mat P_RX7 0 sg_ k_13 [] C K post 14 ls r rem st = mblk P_RX7 0 sg_ C (mjmp k_13 K) (mexc [] K post k_13) post [.inl (.iload_n 2, 1), .inl (.iconst 0, 1), .inl (.iconst 3, 1), .inl (.invokestatic 99, 3), .inl (.ifCond .eq 13, 3), .inl (.iload_n 3, 1), .inl (.iconst 1, 1), .inl (.bipush 60, 2), .inl (.invokestatic 99, 3), .inl (.ifCond .ne 9, 3)] 14 ls r rem st := (rfl)
theorem j_13_14 : mjmp k_13 K 14 ls r rem st = K 14 (mproj [0, 1, 2, 3] ls) r rem st := (rfl)
theorem zeq_20_13 {a : Int} : mstep P rt sg C J X post (.ifCond .eq 13) 20 ls (mi a :: r) rem st nx = ((mcmp .eq a 0 → J 33 ls r rem st) ∧ (¬ mcmp .eq a 0 → nx ls r rem st)) := e_ifc rfl
theorem zne_30_9 {a : Int} : mstep P rt sg C J X post (.ifCond .ne 9) 30 ls (mi a :: r) rem st nx = ((mcmp .ne a 0 → J 39 ls r rem st) ∧ (¬ mcmp .ne a 0 → nx ls r rem st)) := e_ifc rfl
theorem a_13_33 {C : mCall} {K : mK} : mat P_RX7 0 sg_ k_13 [] C K post 33 ls r rem st = mblk P_RX7 0 sg_ C (mjmp k_13 K) (mexc [] K post k_13) post [.inl (.aload_n 0, 1), .inl (.iconst 2, 1), .inl (.invokevirtual 109, 3), .inl (.ireturn, 1)] 33 ls r rem st := (rfl)
theorem j_13_33 : mjmp k_13 K 33 ls r rem st = K 33 (mproj [0] ls) r rem st := (rfl)
theorem a_13_39 {C : mCall} {K : mK} : mat P_RX7 0 sg_ k_13 [] C K post 39 ls r rem st = mblk P_RX7 0 sg_ C (mjmp k_13 K) (mexc [] K post k_13) post [.inl (.iconst 4, 1), .inl (.iload_n 1, 1), .inl (.imul, 1), .inl (.iload_n 2, 1), .inl (.iadd, 1), .inl (.istore 4, 2), .inl (.aload_n 0, 1), .inl (.getfield 16, 3), .inl (.iload 4, 2), .inl (.baload, 1), .inl (.ifCond .eq 23, 3), .inl (.aload_n 0, 1), .inl (.getfield 33, 3), .inl (.iload 4, 2), .inl (.iaload, 1), .inl (.aload_n 0, 1), .inl (.invokevirtual 113, 3), .inl (.if_icmp .lt 9, 3), .inl (.aload_n 0, 1), .inl (.iconst 3, 1), .inl (.invokevirtual 109, 3), .inl (.ireturn, 1)] 39 ls r rem st := (rfl)
theorem j_13_39 : mjmp k_13 K 39 ls r rem st = K 39 (mproj [0, 1, 2, 3] ls) r rem st := (rfl)
theorem zeq_53_23 {a : Int} : mstep P rt sg C J X post (.ifCond .eq 23) 53 ls (mi a :: r) rem st nx = ((mcmp .eq a 0 → J 76 ls r rem st) ∧ (¬ mcmp .eq a 0 → nx ls r rem st)) := e_ifc rfl
theorem clt_67_9 {a b : Int} : mstep P rt sg C J X post (.if_icmp .lt 9) 67 ls (mi b :: mi a :: r) rem st nx = ((mcmp .lt a b → J 76 ls r rem st) ∧ (¬ mcmp .lt a b → nx ls r rem st)) := e_icmp rfl
theorem a_13_76 {C : mCall} {K : mK} : mat P_RX7 0 sg_ k_13 [] C K post 76 ls r rem st = mblk P_RX7 0 sg_ C (mjmp k_13 K) (mexc [] K post k_13) post [.inl (.aload_n 0, 1), .inl (.iconst 0, 1), .inl (.putfield 93, 3), .inl (.aload_n 0, 1), .inl (.getfield 16, 3), .inl (.iload 4, 2), .inl (.iconst 1, 1), .inl (.bastore, 1), .inl (.aload_n 0, 1), .inl (.getfield 29, 3), .inl (.iload 4, 2), .inl (.aload_n 0, 1), .inl (.invokevirtual 113, 3), .inl (.iastore, 1), .inl (.aload_n 0, 1), .inl (.getfield 33, 3), .inl (.iload 4, 2), .inl (.aload_n 0, 1), .inl (.invokevirtual 113, 3), .inl (.iload_n 3, 1), .inl (.iadd, 1), .inl (.iconst 1, 1), .inl (.isub, 1), .inl (.iastore, 1), .inl (.aload_n 0, 1), .inl (.getfield 33, 3), .inl (.iload 4, 2), .inl (.iaload, 1), .inl (.ireturn, 1)] 76 ls r rem st := (rfl)
theorem j_13_76 : mjmp k_13 K 76 ls r rem st = K 76 (mproj [0, 3, 4] ls) r rem st := (rfl)
theorem a_14_0 {C : mCall} {K : mK} : mat P_RX7 0 sg_ k_14 [] C K post 0 ls r rem st = mblk P_RX7 0 sg_ C (mjmp k_14 K) (mexc [] K post k_14) post [.inl (.aload_n 0, 1), .inl (.iload_n 1, 1), .inl (.invokevirtual 128, 3), .inl (.ifCond .ne 9, 3), .inl (.aload_n 0, 1), .inl (.iconst 1, 1), .inl (.invokevirtual 109, 3), .inl (.ireturn, 1)] 0 ls r rem st := (rfl)
theorem j_14_0 : mjmp k_14 K 0 ls r rem st = K 0 (mproj [0, 1, 2, 3] ls) r rem st := (rfl)
theorem a_14_14 {C : mCall} {K : mK} : mat P_RX7 0 sg_ k_14 [] C K post 14 ls r rem st = mblk P_RX7 0 sg_ C (mjmp k_14 K) (mexc [] K post k_14) post [.inl (.iload_n 2, 1), .inl (.iconst 0, 1), .inl (.iconst 3, 1), .inl (.invokestatic 99, 3), .inl (.ifCond .eq 13, 3), .inl (.iload_n 3, 1), .inl (.iconst 1, 1), .inl (.bipush 60, 2), .inl (.invokestatic 99, 3), .inl (.ifCond .ne 9, 3)] 14 ls r rem st := (rfl)
theorem j_14_14 : mjmp k_14 K 14 ls r rem st = K 14 (mproj [0, 1, 2, 3] ls) r rem st := (rfl)
theorem a_14_33 {C : mCall} {K : mK} : mat P_RX7 0 sg_ k_14 [] C K post 33 ls r rem st = mblk P_RX7 0 sg_ C (mjmp k_14 K) (mexc [] K post k_14) post [.inl (.aload_n 0, 1), .inl (.iconst 2, 1), .inl (.invokevirtual 109, 3), .inl (.ireturn, 1)] 33 ls r rem st := (rfl)
theorem j_14_33 : mjmp k_14 K 33 ls r rem st = K 33 (mproj [0] ls) r rem st := (rfl)
theorem a_14_39 {C : mCall} {K : mK} : mat P_RX7 0 sg_ k_14 [] C K post 39 ls r rem st = mblk P_RX7 0 sg_ C (mjmp k_14 K) (mexc [] K post k_14) post [.inl (.iconst 4, 1), .inl (.iload_n 1, 1), .inl (.imul, 1), .inl (.iload_n 2, 1), .inl (.iadd, 1), .inl (.istore 4, 2), .inl (.aload_n 0, 1), .inl (.getfield 16, 3), .inl (.iload 4, 2), .inl (.baload, 1), .inl (.ifCond .ne 9, 3), .inl (.aload_n 0, 1), .inl (.iconst 3, 1), .inl (.invokevirtual 109, 3), .inl (.ireturn, 1)] 39 ls r rem st := (rfl)
theorem j_14_39 : mjmp k_14 K 39 ls r rem st = K 39 (mproj [0, 1, 2, 3] ls) r rem st := (rfl)
theorem zne_53_9 {a : Int} : mstep P rt sg C J X post (.ifCond .ne 9) 53 ls (mi a :: r) rem st nx = ((mcmp .ne a 0 → J 62 ls r rem st) ∧ (¬ mcmp .ne a 0 → nx ls r rem st)) := e_ifc rfl
theorem a_14_62 {C : mCall} {K : mK} : mat P_RX7 0 sg_ k_14 [] C K post 62 ls r rem st = mblk P_RX7 0 sg_ C (mjmp k_14 K) (mexc [] K post k_14) post [.inl (.aload_n 0, 1), .inl (.invokevirtual 113, 3), .inl (.aload_n 0, 1), .inl (.getfield 33, 3), .inl (.iload 4, 2), .inl (.iaload, 1), .inl (.if_icmp .gt 20, 3), .inl (.aload_n 0, 1), .inl (.invokevirtual 113, 3), .inl (.aload_n 0, 1), .inl (.getfield 33, 3), .inl (.iload 4, 2), .inl (.iaload, 1), .inl (.bipush 9, 2), .inl (.isub, 1), .inl (.if_icmp .ge 9, 3)] 62 ls r rem st := (rfl)
theorem j_14_62 : mjmp k_14 K 62 ls r rem st = K 62 (mproj [0, 3, 4] ls) r rem st := (rfl)
theorem cgt_73_20 {a b : Int} : mstep P rt sg C J X post (.if_icmp .gt 20) 73 ls (mi b :: mi a :: r) rem st nx = ((mcmp .gt a b → J 93 ls r rem st) ∧ (¬ mcmp .gt a b → nx ls r rem st)) := e_icmp rfl
theorem cge_90_9 {a b : Int} : mstep P rt sg C J X post (.if_icmp .ge 9) 90 ls (mi b :: mi a :: r) rem st nx = ((mcmp .ge a b → J 99 ls r rem st) ∧ (¬ mcmp .ge a b → nx ls r rem st)) := e_icmp rfl
theorem a_14_93 {C : mCall} {K : mK} : mat P_RX7 0 sg_ k_14 [] C K post 93 ls r rem st = mblk P_RX7 0 sg_ C (mjmp k_14 K) (mexc [] K post k_14) post [.inl (.aload_n 0, 1), .inl (.iconst 4, 1), .inl (.invokevirtual 109, 3), .inl (.ireturn, 1)] 93 ls r rem st := (rfl)
theorem j_14_93 : mjmp k_14 K 93 ls r rem st = K 93 (mproj [0] ls) r rem st := (rfl)
theorem a_14_99 {C : mCall} {K : mK} : mat P_RX7 0 sg_ k_14 [] C K post 99 ls r rem st = mblk P_RX7 0 sg_ C (mjmp k_14 K) (mexc [] K post k_14) post [.inl (.aload_n 0, 1), .inl (.iconst 0, 1), .inl (.putfield 93, 3), .inl (.aload_n 0, 1), .inl (.getfield 33, 3), .inl (.iload 4, 2), .inl (.dup2, 1), .inl (.iaload, 1), .inl (.iload_n 3, 1), .inl (.iadd, 1), .inl (.iastore, 1), .inl (.aload_n 0, 1), .inl (.getfield 33, 3), .inl (.iload 4, 2), .inl (.iaload, 1), .inl (.ireturn, 1)] 99 ls r rem st := (rfl)
theorem j_14_99 : mjmp k_14 K 99 ls r rem st = K 99 (mproj [0, 3, 4] ls) r rem st := (rfl)
theorem a_15_0 {C : mCall} {K : mK} : mat P_RX7 0 sg_ k_15 [] C K post 0 ls r rem st = mblk P_RX7 0 sg_ C (mjmp k_15 K) (mexc [] K post k_15) post [.inl (.aload_n 0, 1), .inl (.iload_n 1, 1), .inl (.invokevirtual 128, 3), .inl (.ifCond .ne 9, 3), .inl (.aload_n 0, 1), .inl (.iconst 1, 1), .inl (.invokevirtual 109, 3), .inl (.ireturn, 1)] 0 ls r rem st := (rfl)
theorem j_15_0 : mjmp k_15 K 0 ls r rem st = K 0 (mproj [0, 1, 2] ls) r rem st := (rfl)
theorem a_15_14 {C : mCall} {K : mK} : mat P_RX7 0 sg_ k_15 [] C K post 14 ls r rem st = mblk P_RX7 0 sg_ C (mjmp k_15 K) (mexc [] K post k_15) post [.inl (.iload_n 2, 1), .inl (.iconst 0, 1), .inl (.iconst 3, 1), .inl (.invokestatic 99, 3), .inl (.ifCond .ne 9, 3), .inl (.aload_n 0, 1), .inl (.iconst 2, 1), .inl (.invokevirtual 109, 3), .inl (.ireturn, 1)] 14 ls r rem st := (rfl)
theorem j_15_14 : mjmp k_15 K 14 ls r rem st = K 14 (mproj [0, 1, 2] ls) r rem st := (rfl)
theorem zne_20_9 {a : Int} : mstep P rt sg C J X post (.ifCond .ne 9) 20 ls (mi a :: r) rem st nx = ((mcmp .ne a 0 → J 29 ls r rem st) ∧ (¬ mcmp .ne a 0 → nx ls r rem st)) := e_ifc rfl
theorem a_15_29 {C : mCall} {K : mK} : mat P_RX7 0 sg_ k_15 [] C K post 29 ls r rem st = mblk P_RX7 0 sg_ C (mjmp k_15 K) (mexc [] K post k_15) post [.inl (.aload_n 0, 1), .inl (.getfield 16, 3), .inl (.iconst 4, 1), .inl (.iload_n 1, 1), .inl (.imul, 1), .inl (.iload_n 2, 1), .inl (.iadd, 1), .inl (.baload, 1), .inl (.ifCond .ne 9, 3), .inl (.aload_n 0, 1), .inl (.iconst 3, 1), .inl (.invokevirtual 109, 3), .inl (.ireturn, 1)] 29 ls r rem st := (rfl)
theorem j_15_29 : mjmp k_15 K 29 ls r rem st = K 29 (mproj [0, 1, 2] ls) r rem st := (rfl)
theorem zne_39_9 {a : Int} : mstep P rt sg C J X post (.ifCond .ne 9) 39 ls (mi a :: r) rem st nx = ((mcmp .ne a 0 → J 48 ls r rem st) ∧ (¬ mcmp .ne a 0 → nx ls r rem st)) := e_ifc rfl
theorem a_15_48 {C : mCall} {K : mK} : mat P_RX7 0 sg_ k_15 [] C K post 48 ls r rem st = mblk P_RX7 0 sg_ C (mjmp k_15 K) (mexc [] K post k_15) post [.inl (.aload_n 0, 1), .inl (.iconst 0, 1), .inl (.putfield 93, 3), .inl (.aload_n 0, 1), .inl (.getfield 33, 3), .inl (.iconst 4, 1), .inl (.iload_n 1, 1), .inl (.imul, 1), .inl (.iload_n 2, 1), .inl (.iadd, 1), .inl (.iaload, 1), .inl (.ireturn, 1)] 48 ls r rem st := (rfl)
theorem j_15_48 : mjmp k_15 K 48 ls r rem st = K 48 (mproj [0, 1, 2] ls) r rem st := (rfl)
theorem a_16_0 {C : mCall} {K : mK} : mat P_RX7 1 sg_ k_16 [] C K post 0 ls r rem st = mblk P_RX7 1 sg_ C (mjmp k_16 K) (mexc [] K post k_16) post [.inl (.iconst 0, 1), .inl (.istore_n 3, 1)] 0 ls r rem st := (rfl)
theorem j_16_0 : mjmp k_16 K 0 ls r rem st = K 0 (mproj [0, 1, 2] ls) r rem st := (rfl)
theorem a_16_2 {C : mCall} {K : mK} : mat P_RX7 1 sg_ k_16 [] C K post 2 ls r rem st = mblk P_RX7 1 sg_ C (mjmp k_16 K) (mexc [] K post k_16) post [.inl (.iload_n 3, 1), .inl (.aload_n 0, 1), .inl (.getfield 42, 3), .inl (.aload_n 0, 1), .inl (.getfield 48, 3), .inl (.iload_n 1, 1), .inl (.iaload, 1), .inl (.iaload, 1), .inl (.if_icmp .ge 25, 3), .inl (.aload_n 0, 1), .inl (.getfield 60, 3), .inl (.iconst 3, 1), .inl (.iload_n 1, 1), .inl (.imul, 1), .inl (.iload_n 3, 1), .inl (.iadd, 1), .inl (.iaload, 1), .inl (.iload_n 2, 1), .inl (.if_icmp .ne 5, 3), .inl (.iconst 1, 1), .inl (.ireturn, 1)] 2 ls r rem st := (rfl)
theorem j_16_2 : mjmp k_16 K 2 ls r rem st = K 2 (mproj [0, 1, 2, 3] ls) r rem st := (rfl)
theorem f_RX7_42_30 {i : Nat} {f : mV → Prop} : mGet P_RX7 42 30 i st f = f (mr 39 i) := (rfl)
theorem f_RX7_48_30 {i : Nat} {f : mV → Prop} : mGet P_RX7 48 30 i st f = f (mr 41 i) := (rfl)
theorem cge_14_25 {a b : Int} : mstep P rt sg C J X post (.if_icmp .ge 25) 14 ls (mi b :: mi a :: r) rem st nx = ((mcmp .ge a b → J 39 ls r rem st) ∧ (¬ mcmp .ge a b → nx ls r rem st)) := e_icmp rfl
theorem f_RX7_60_30 {i : Nat} {f : mV → Prop} : mGet P_RX7 60 30 i st f = f (mr 45 i) := (rfl)
theorem cne_28_5 {a b : Int} : mstep P rt sg C J X post (.if_icmp .ne 5) 28 ls (mi b :: mi a :: r) rem st nx = ((mcmp .ne a b → J 33 ls r rem st) ∧ (¬ mcmp .ne a b → nx ls r rem st)) := e_icmp rfl
theorem a_16_33 {C : mCall} {K : mK} : mat P_RX7 1 sg_ k_16 [] C K post 33 ls r rem st = mblk P_RX7 1 sg_ C (mjmp k_16 K) (mexc [] K post k_16) post [.inl (.iinc 3 1, 3), .inl (.goto (-34), 3)] 33 ls r rem st := (rfl)
theorem j_16_33 : mjmp k_16 K 33 ls r rem st = K 33 (mproj [0, 1, 2, 3] ls) r rem st := (rfl)
theorem g_36_m34 : mstep P rt sg C J X post (.goto (-34)) 36 ls r rem st nx = J 2 ls r rem st := e_goto rfl
theorem a_16_39 {C : mCall} {K : mK} : mat P_RX7 1 sg_ k_16 [] C K post 39 ls r rem st = mblk P_RX7 1 sg_ C (mjmp k_16 K) (mexc [] K post k_16) post [.inl (.iconst 0, 1), .inl (.ireturn, 1)] 39 ls r rem st := (rfl)
theorem j_16_39 : mjmp k_16 K 39 ls r rem st = K 39 (mproj [] ls) r rem st := (rfl)
theorem a_17_0 {C : mCall} {K : mK} : mat P_RX7 0 sg_ k_17 [] C K post 0 ls r rem st = mblk P_RX7 0 sg_ C (mjmp k_17 K) (mexc [] K post k_17) post [.inl (.aload_n 0, 1), .inl (.getfield 51, 3), .inl (.iload_n 1, 1), .inl (.iaload, 1), .inl (.bipush 24, 2), .inl (.idiv, 1), .inl (.ireturn, 1)] 0 ls r rem st := (rfl)
theorem j_17_0 : mjmp k_17 K 0 ls r rem st = K 0 (mproj [0, 1] ls) r rem st := (rfl)
theorem a_18_0 {C : mCall} {K : mK} : mat P_RX7 0 sg_ k_18 [] C K post 0 ls r rem st = mblk P_RX7 0 sg_ C (mjmp k_18 K) (mexc [] K post k_18) post [.inl (.aload_n 0, 1), .inl (.getfield 51, 3), .inl (.iload_n 1, 1), .inl (.iaload, 1), .inl (.aload_n 0, 1), .inl (.getfield 54, 3), .inl (.iload_n 1, 1), .inl (.iaload, 1), .inl (.iadd, 1), .inl (.iconst 1, 1), .inl (.isub, 1), .inl (.bipush 24, 2), .inl (.idiv, 1), .inl (.ireturn, 1)] 0 ls r rem st := (rfl)
theorem j_18_0 : mjmp k_18 K 0 ls r rem st = K 0 (mproj [0, 1] ls) r rem st := (rfl)
theorem f_RX7_54_30 {i : Nat} {f : mV → Prop} : mGet P_RX7 54 30 i st f = f (mr 43 i) := (rfl)
theorem a_19_0 {C : mCall} {K : mK} : mat P_RX7 0 sg_ k_19 [] C K post 0 ls r rem st = mblk P_RX7 0 sg_ C (mjmp k_19 K) (mexc [] K post k_19) post [.inl (.aload_n 0, 1), .inl (.iload_n 1, 1), .inl (.invokevirtual 128, 3), .inl (.ifCond .ne 9, 3), .inl (.aload_n 0, 1), .inl (.iconst 1, 1), .inl (.invokevirtual 109, 3), .inl (.ireturn, 1)] 0 ls r rem st := (rfl)
theorem j_19_0 : mjmp k_19 K 0 ls r rem st = K 0 (mproj [0, 1, 2] ls) r rem st := (rfl)
theorem a_19_14 {C : mCall} {K : mK} : mat P_RX7 0 sg_ k_19 [] C K post 14 ls r rem st = mblk P_RX7 0 sg_ C (mjmp k_19 K) (mexc [] K post k_19) post [.inl (.iload_n 2, 1), .inl (.iconst 1, 1), .inl (.bipush 20, 2), .inl (.invokestatic 99, 3), .inl (.ifCond .ne 9, 3), .inl (.aload_n 0, 1), .inl (.iconst 2, 1), .inl (.invokevirtual 109, 3), .inl (.ireturn, 1)] 14 ls r rem st := (rfl)
theorem j_19_14 : mjmp k_19 K 14 ls r rem st = K 14 (mproj [0, 1, 2] ls) r rem st := (rfl)
theorem zne_21_9 {a : Int} : mstep P rt sg C J X post (.ifCond .ne 9) 21 ls (mi a :: r) rem st nx = ((mcmp .ne a 0 → J 30 ls r rem st) ∧ (¬ mcmp .ne a 0 → nx ls r rem st)) := e_ifc rfl
theorem a_19_30 {C : mCall} {K : mK} : mat P_RX7 0 sg_ k_19 [] C K post 30 ls r rem st = mblk P_RX7 0 sg_ C (mjmp k_19 K) (mexc [] K post k_19) post [.inl (.aload_n 0, 1), .inl (.iconst 0, 1), .inl (.putfield 93, 3), .inl (.aload_n 0, 1), .inl (.invokevirtual 113, 3), .inl (.iload_n 2, 1), .inl (.iadd, 1), .inl (.iconst 1, 1), .inl (.isub, 1), .inl (.istore_n 3, 1), .inl (.aload_n 0, 1), .inl (.invokevirtual 113, 3), .inl (.istore 4, 2)] 30 ls r rem st := (rfl)
theorem j_19_30 : mjmp k_19 K 30 ls r rem st = K 30 (mproj [0, 1, 2] ls) r rem st := (rfl)
theorem a_19_50 {C : mCall} {K : mK} : mat P_RX7 0 sg_ k_19 [] C K post 50 ls r rem st = mblk P_RX7 0 sg_ C (mjmp k_19 K) (mexc [] K post k_19) post [.inl (.iload 4, 2), .inl (.iload_n 3, 1), .inl (.if_icmp .gt 29, 3), .inl (.iload 4, 2), .inl (.bipush 42, 2), .inl (.if_icmp .ge 22, 3), .inl (.aload_n 0, 1), .inl (.getfield 20, 3), .inl (.bipush 42, 2), .inl (.iload_n 1, 1), .inl (.imul, 1), .inl (.iload 4, 2), .inl (.iadd, 1), .inl (.iconst 1, 1), .inl (.bastore, 1), .inl (.iinc 4 1, 3), .inl (.goto (-29), 3)] 50 ls r rem st := (rfl)
theorem j_19_50 : mjmp k_19 K 50 ls r rem st = K 50 (mproj [0, 1, 3, 4] ls) r rem st := (rfl)
theorem cgt_53_29 {a b : Int} : mstep P rt sg C J X post (.if_icmp .gt 29) 53 ls (mi b :: mi a :: r) rem st nx = ((mcmp .gt a b → J 82 ls r rem st) ∧ (¬ mcmp .gt a b → nx ls r rem st)) := e_icmp rfl
theorem cge_60_22 {a b : Int} : mstep P rt sg C J X post (.if_icmp .ge 22) 60 ls (mi b :: mi a :: r) rem st nx = ((mcmp .ge a b → J 82 ls r rem st) ∧ (¬ mcmp .ge a b → nx ls r rem st)) := e_icmp rfl
theorem f_RX7_20_30 {i : Nat} {f : mV → Prop} : mGet P_RX7 20 30 i st f = f (mr 32 i) := (rfl)
theorem g_79_m29 : mstep P rt sg C J X post (.goto (-29)) 79 ls r rem st nx = J 50 ls r rem st := e_goto rfl
theorem a_19_82 {C : mCall} {K : mK} : mat P_RX7 0 sg_ k_19 [] C K post 82 ls r rem st = mblk P_RX7 0 sg_ C (mjmp k_19 K) (mexc [] K post k_19) post [.inl (.iconst 0, 1), .inl (.istore 4, 2), .inl (.iconst 0, 1), .inl (.istore 5, 2)] 82 ls r rem st := (rfl)
theorem j_19_82 : mjmp k_19 K 82 ls r rem st = K 82 (mproj [0, 1, 3] ls) r rem st := (rfl)
theorem a_19_88 {C : mCall} {K : mK} : mat P_RX7 0 sg_ k_19 [] C K post 88 ls r rem st = mblk P_RX7 0 sg_ C (mjmp k_19 K) (mexc [] K post k_19) post [.inl (.iload 5, 2), .inl (.aload_n 0, 1), .inl (.getfield 103, 3), .inl (.if_icmp .ge 64, 3), .inl (.iload 4, 2), .inl (.aload_n 0, 1), .inl (.getfield 57, 3), .inl (.iload 5, 2), .inl (.iaload, 1), .inl (.bipush 112, 2), .inl (.if_icmp .ne 40, 3), .inl (.aload_n 0, 1), .inl (.iload 5, 2), .inl (.iload_n 1, 1), .inl (.invokevirtual 131, 3), .inl (.ifCond .eq 30, 3), .inl (.aload_n 0, 1), .inl (.iload 5, 2), .inl (.invokevirtual 135, 3), .inl (.iload_n 3, 1), .inl (.if_icmp .gt 20, 3), .inl (.aload_n 0, 1), .inl (.iload 5, 2), .inl (.invokevirtual 138, 3), .inl (.aload_n 0, 1), .inl (.invokevirtual 113, 3), .inl (.if_icmp .lt 7, 3), .inl (.iconst 1, 1), .inl (.goto 4, 3)] 88 ls r rem st := (rfl)
theorem j_19_88 : mjmp k_19 K 88 ls r rem st = K 88 (mproj [0, 1, 3, 4, 5] ls) r rem st := (rfl)
theorem cge_94_64 {a b : Int} : mstep P rt sg C J X post (.if_icmp .ge 64) 94 ls (mi b :: mi a :: r) rem st nx = ((mcmp .ge a b → J 158 ls r rem st) ∧ (¬ mcmp .ge a b → nx ls r rem st)) := e_icmp rfl
theorem cne_108_40 {a b : Int} : mstep P rt sg C J X post (.if_icmp .ne 40) 108 ls (mi b :: mi a :: r) rem st nx = ((mcmp .ne a b → J 148 ls r rem st) ∧ (¬ mcmp .ne a b → nx ls r rem st)) := e_icmp rfl
theorem v_RX7_131_30 {a1 a2 : mV} {i : Nat} : mstep P_RX7 rt sg_ C J X post (.invokevirtual 131) pc ls (a2 :: a1 :: mr 30 i :: r) rem st nx = cond (mroom r) (0 ≤ rem.1 ∧ 0 ≤ rem.2 ∧ C 16 [mr 30 i, a1, a2] st (mck X pc ls r (rem.1 - 0, rem.2 - 0) nx)) False := (rfl)
theorem zeq_118_30 {a : Int} : mstep P rt sg C J X post (.ifCond .eq 30) 118 ls (mi a :: r) rem st nx = ((mcmp .eq a 0 → J 148 ls r rem st) ∧ (¬ mcmp .eq a 0 → nx ls r rem st)) := e_ifc rfl
theorem v_RX7_135_30 {a1 : mV} {i : Nat} : mstep P_RX7 rt sg_ C J X post (.invokevirtual 135) pc ls (a1 :: mr 30 i :: r) rem st nx = cond (mroom r) (0 ≤ rem.1 ∧ 0 ≤ rem.2 ∧ C 17 [mr 30 i, a1] st (mck X pc ls r (rem.1 - 0, rem.2 - 0) nx)) False := (rfl)
theorem cgt_128_20 {a b : Int} : mstep P rt sg C J X post (.if_icmp .gt 20) 128 ls (mi b :: mi a :: r) rem st nx = ((mcmp .gt a b → J 148 ls r rem st) ∧ (¬ mcmp .gt a b → nx ls r rem st)) := e_icmp rfl
theorem v_RX7_138_30 {a1 : mV} {i : Nat} : mstep P_RX7 rt sg_ C J X post (.invokevirtual 138) pc ls (a1 :: mr 30 i :: r) rem st nx = cond (mroom r) (0 ≤ rem.1 ∧ 0 ≤ rem.2 ∧ C 18 [mr 30 i, a1] st (mck X pc ls r (rem.1 - 0, rem.2 - 0) nx)) False := (rfl)
theorem clt_141_7 {a b : Int} : mstep P rt sg C J X post (.if_icmp .lt 7) 141 ls (mi b :: mi a :: r) rem st nx = ((mcmp .lt a b → J 148 ls r rem st) ∧ (¬ mcmp .lt a b → nx ls r rem st)) := e_icmp rfl
theorem g_145_4 : mstep P rt sg C J X post (.goto 4) 145 ls r rem st nx = J 149 ls r rem st := e_goto rfl
theorem a_19_148 {C : mCall} {K : mK} : mat P_RX7 0 sg_ k_19 [] C K post 148 ls r rem st = mblk P_RX7 0 sg_ C (mjmp k_19 K) (mexc [] K post k_19) post [.inl (.iconst 0, 1)] 148 ls r rem st := (rfl)
theorem j_19_148 : mjmp k_19 K 148 ls r rem st = K 148 (mproj [0, 1, 3, 5] ls) r rem st := (rfl)
theorem a_19_149 {C : mCall} {K : mK} : mat P_RX7 0 sg_ k_19 [] C K post 149 ls r rem st = mblk P_RX7 0 sg_ C (mjmp k_19 K) (mexc [] K post k_19) post [.inl (.iadd, 1), .inl (.istore 4, 2), .inl (.iinc 5 1, 3), .inl (.goto (-67), 3)] 149 ls r rem st := (rfl)
theorem j_19_149 : mjmp k_19 K 149 ls r rem st = K 149 (mproj [0, 1, 3, 5] ls) r rem st := (rfl)
theorem g_155_m67 : mstep P rt sg C J X post (.goto (-67)) 155 ls r rem st nx = J 88 ls r rem st := e_goto rfl
theorem a_19_158 {C : mCall} {K : mK} : mat P_RX7 0 sg_ k_19 [] C K post 158 ls r rem st = mblk P_RX7 0 sg_ C (mjmp k_19 K) (mexc [] K post k_19) post [.inl (.iload 4, 2), .inl (.ireturn, 1)] 158 ls r rem st := (rfl)
theorem j_19_158 : mjmp k_19 K 158 ls r rem st = K 158 (mproj [4] ls) r rem st := (rfl)
theorem a_20_0 {C : mCall} {K : mK} : mat P_RX7 0 sg_ k_20 [] C K post 0 ls r rem st = mblk P_RX7 0 sg_ C (mjmp k_20 K) (mexc [] K post k_20) post [.inl (.aload_n 0, 1), .inl (.iload_n 1, 1), .inl (.invokevirtual 128, 3), .inl (.ifCond .ne 9, 3), .inl (.aload_n 0, 1), .inl (.iconst 1, 1), .inl (.invokevirtual 109, 3), .inl (.ireturn, 1)] 0 ls r rem st := (rfl)
theorem j_20_0 : mjmp k_20 K 0 ls r rem st = K 0 (mproj [0, 1] ls) r rem st := (rfl)
theorem a_20_14 {C : mCall} {K : mK} : mat P_RX7 0 sg_ k_20 [] C K post 14 ls r rem st = mblk P_RX7 0 sg_ C (mjmp k_20 K) (mexc [] K post k_20) post [.inl (.iconst 0, 1), .inl (.istore_n 2, 1), .inl (.aload_n 0, 1), .inl (.invokevirtual 113, 3), .inl (.istore_n 3, 1)] 14 ls r rem st := (rfl)
theorem j_20_14 : mjmp k_20 K 14 ls r rem st = K 14 (mproj [0, 1] ls) r rem st := (rfl)
theorem a_20_21 {C : mCall} {K : mK} : mat P_RX7 0 sg_ k_20 [] C K post 21 ls r rem st = mblk P_RX7 0 sg_ C (mjmp k_20 K) (mexc [] K post k_20) post [.inl (.iload_n 3, 1), .inl (.bipush 42, 2), .inl (.if_icmp .ge 31, 3), .inl (.iload_n 2, 1), .inl (.aload_n 0, 1), .inl (.getfield 20, 3), .inl (.bipush 42, 2), .inl (.iload_n 1, 1), .inl (.imul, 1), .inl (.iload_n 3, 1), .inl (.iadd, 1), .inl (.baload, 1), .inl (.ifCond .eq 7, 3), .inl (.iconst 1, 1), .inl (.goto 4, 3)] 21 ls r rem st := (rfl)
theorem j_20_21 : mjmp k_20 K 21 ls r rem st = K 21 (mproj [0, 1, 2, 3] ls) r rem st := (rfl)
theorem cge_24_31 {a b : Int} : mstep P rt sg C J X post (.if_icmp .ge 31) 24 ls (mi b :: mi a :: r) rem st nx = ((mcmp .ge a b → J 55 ls r rem st) ∧ (¬ mcmp .ge a b → nx ls r rem st)) := e_icmp rfl
theorem zeq_39_7 {a : Int} : mstep P rt sg C J X post (.ifCond .eq 7) 39 ls (mi a :: r) rem st nx = ((mcmp .eq a 0 → J 46 ls r rem st) ∧ (¬ mcmp .eq a 0 → nx ls r rem st)) := e_ifc rfl
theorem g_43_4 : mstep P rt sg C J X post (.goto 4) 43 ls r rem st nx = J 47 ls r rem st := e_goto rfl
theorem a_20_46 {C : mCall} {K : mK} : mat P_RX7 0 sg_ k_20 [] C K post 46 ls r rem st = mblk P_RX7 0 sg_ C (mjmp k_20 K) (mexc [] K post k_20) post [.inl (.iconst 0, 1)] 46 ls r rem st := (rfl)
theorem j_20_46 : mjmp k_20 K 46 ls r rem st = K 46 (mproj [0, 1, 3] ls) r rem st := (rfl)
theorem a_20_47 {C : mCall} {K : mK} : mat P_RX7 0 sg_ k_20 [] C K post 47 ls r rem st = mblk P_RX7 0 sg_ C (mjmp k_20 K) (mexc [] K post k_20) post [.inl (.iadd, 1), .inl (.istore_n 2, 1), .inl (.iinc 3 1, 3), .inl (.goto (-31), 3)] 47 ls r rem st := (rfl)
theorem j_20_47 : mjmp k_20 K 47 ls r rem st = K 47 (mproj [0, 1, 3] ls) r rem st := (rfl)
theorem g_52_m31 : mstep P rt sg C J X post (.goto (-31)) 52 ls r rem st nx = J 21 ls r rem st := e_goto rfl
theorem a_20_55 {C : mCall} {K : mK} : mat P_RX7 0 sg_ k_20 [] C K post 55 ls r rem st = mblk P_RX7 0 sg_ C (mjmp k_20 K) (mexc [] K post k_20) post [.inl (.iload_n 2, 1), .inl (.ifCond .ne 9, 3), .inl (.aload_n 0, 1), .inl (.iconst 2, 1), .inl (.invokevirtual 109, 3), .inl (.ireturn, 1)] 55 ls r rem st := (rfl)
theorem j_20_55 : mjmp k_20 K 55 ls r rem st = K 55 (mproj [0, 1, 2] ls) r rem st := (rfl)
theorem zne_56_9 {a : Int} : mstep P rt sg C J X post (.ifCond .ne 9) 56 ls (mi a :: r) rem st nx = ((mcmp .ne a 0 → J 65 ls r rem st) ∧ (¬ mcmp .ne a 0 → nx ls r rem st)) := e_ifc rfl
theorem a_20_65 {C : mCall} {K : mK} : mat P_RX7 0 sg_ k_20 [] C K post 65 ls r rem st = mblk P_RX7 0 sg_ C (mjmp k_20 K) (mexc [] K post k_20) post [.inl (.aload_n 0, 1), .inl (.iconst 0, 1), .inl (.putfield 93, 3), .inl (.aload_n 0, 1), .inl (.invokevirtual 113, 3), .inl (.istore_n 3, 1)] 65 ls r rem st := (rfl)
theorem j_20_65 : mjmp k_20 K 65 ls r rem st = K 65 (mproj [0, 1, 2] ls) r rem st := (rfl)
theorem a_20_75 {C : mCall} {K : mK} : mat P_RX7 0 sg_ k_20 [] C K post 75 ls r rem st = mblk P_RX7 0 sg_ C (mjmp k_20 K) (mexc [] K post k_20) post [.inl (.iload_n 3, 1), .inl (.bipush 42, 2), .inl (.if_icmp .ge 21, 3), .inl (.aload_n 0, 1), .inl (.getfield 20, 3), .inl (.bipush 42, 2), .inl (.iload_n 1, 1), .inl (.imul, 1), .inl (.iload_n 3, 1), .inl (.iadd, 1), .inl (.iconst 0, 1), .inl (.bastore, 1), .inl (.iinc 3 1, 3), .inl (.goto (-21), 3)] 75 ls r rem st := (rfl)
theorem j_20_75 : mjmp k_20 K 75 ls r rem st = K 75 (mproj [0, 1, 2, 3] ls) r rem st := (rfl)
theorem cge_78_21 {a b : Int} : mstep P rt sg C J X post (.if_icmp .ge 21) 78 ls (mi b :: mi a :: r) rem st nx = ((mcmp .ge a b → J 99 ls r rem st) ∧ (¬ mcmp .ge a b → nx ls r rem st)) := e_icmp rfl
theorem g_96_m21 : mstep P rt sg C J X post (.goto (-21)) 96 ls r rem st nx = J 75 ls r rem st := e_goto rfl
theorem a_20_99 {C : mCall} {K : mK} : mat P_RX7 0 sg_ k_20 [] C K post 99 ls r rem st = mblk P_RX7 0 sg_ C (mjmp k_20 K) (mexc [] K post k_20) post [.inl (.iload_n 2, 1), .inl (.ireturn, 1)] 99 ls r rem st := (rfl)
theorem j_20_99 : mjmp k_20 K 99 ls r rem st = K 99 (mproj [2] ls) r rem st := (rfl)
theorem a_21_0 {C : mCall} {K : mK} : mat P_RX7 0 sg_ k_21 [] C K post 0 ls r rem st = mblk P_RX7 0 sg_ C (mjmp k_21 K) (mexc [] K post k_21) post [.inl (.aload_n 0, 1), .inl (.iload_n 1, 1), .inl (.invokevirtual 128, 3), .inl (.ifCond .ne 9, 3), .inl (.aload_n 0, 1), .inl (.iconst 1, 1), .inl (.invokevirtual 109, 3), .inl (.ireturn, 1)] 0 ls r rem st := (rfl)
theorem j_21_0 : mjmp k_21 K 0 ls r rem st = K 0 (mproj [0, 1, 2, 3, 4] ls) r rem st := (rfl)
theorem a_21_14 {C : mCall} {K : mK} : mat P_RX7 0 sg_ k_21 [] C K post 14 ls r rem st = mblk P_RX7 0 sg_ C (mjmp k_21 K) (mexc [] K post k_21) post [.inl (.iload_n 2, 1), .inl (.iconst 0, 1), .inl (.iconst 3, 1), .inl (.invokestatic 99, 3), .inl (.ifCond .eq 39, 3), .inl (.iload_n 3, 1), .inl (.aload_n 0, 1), .inl (.invokevirtual 113, 3), .inl (.if_icmp .le 31, 3), .inl (.iload_n 3, 1), .inl (.bipush 41, 2), .inl (.if_icmp .gt 25, 3), .inl (.iload 4, 2), .inl (.iconst 1, 1), .inl (.bipush 10, 2), .inl (.invokestatic 99, 3), .inl (.ifCond .eq 14, 3), .inl (.iload_n 3, 1), .inl (.iload 4, 2), .inl (.iadd, 1), .inl (.iconst 1, 1), .inl (.isub, 1), .inl (.bipush 41, 2), .inl (.if_icmp .le 9, 3)] 14 ls r rem st := (rfl)
theorem j_21_14 : mjmp k_21 K 14 ls r rem st = K 14 (mproj [0, 1, 2, 3, 4] ls) r rem st := (rfl)
theorem zeq_20_39 {a : Int} : mstep P rt sg C J X post (.ifCond .eq 39) 20 ls (mi a :: r) rem st nx = ((mcmp .eq a 0 → J 59 ls r rem st) ∧ (¬ mcmp .eq a 0 → nx ls r rem st)) := e_ifc rfl
theorem cle_28_31 {a b : Int} : mstep P rt sg C J X post (.if_icmp .le 31) 28 ls (mi b :: mi a :: r) rem st nx = ((mcmp .le a b → J 59 ls r rem st) ∧ (¬ mcmp .le a b → nx ls r rem st)) := e_icmp rfl
theorem cgt_34_25 {a b : Int} : mstep P rt sg C J X post (.if_icmp .gt 25) 34 ls (mi b :: mi a :: r) rem st nx = ((mcmp .gt a b → J 59 ls r rem st) ∧ (¬ mcmp .gt a b → nx ls r rem st)) := e_icmp rfl
theorem zeq_45_14 {a : Int} : mstep P rt sg C J X post (.ifCond .eq 14) 45 ls (mi a :: r) rem st nx = ((mcmp .eq a 0 → J 59 ls r rem st) ∧ (¬ mcmp .eq a 0 → nx ls r rem st)) := e_ifc rfl
theorem cle_56_9 {a b : Int} : mstep P rt sg C J X post (.if_icmp .le 9) 56 ls (mi b :: mi a :: r) rem st nx = ((mcmp .le a b → J 65 ls r rem st) ∧ (¬ mcmp .le a b → nx ls r rem st)) := e_icmp rfl
theorem a_21_59 {C : mCall} {K : mK} : mat P_RX7 0 sg_ k_21 [] C K post 59 ls r rem st = mblk P_RX7 0 sg_ C (mjmp k_21 K) (mexc [] K post k_21) post [.inl (.aload_n 0, 1), .inl (.iconst 2, 1), .inl (.invokevirtual 109, 3), .inl (.ireturn, 1)] 59 ls r rem st := (rfl)
theorem j_21_59 : mjmp k_21 K 59 ls r rem st = K 59 (mproj [0] ls) r rem st := (rfl)
theorem a_21_65 {C : mCall} {K : mK} : mat P_RX7 0 sg_ k_21 [] C K post 65 ls r rem st = mblk P_RX7 0 sg_ C (mjmp k_21 K) (mexc [] K post k_21) post [.inl (.aload_n 0, 1), .inl (.getfield 26, 3), .inl (.iload_n 1, 1), .inl (.baload, 1), .inl (.ifCond .eq 9, 3), .inl (.aload_n 0, 1), .inl (.iconst 3, 1), .inl (.invokevirtual 109, 3), .inl (.ireturn, 1)] 65 ls r rem st := (rfl)
theorem j_21_65 : mjmp k_21 K 65 ls r rem st = K 65 (mproj [0, 1, 2, 3, 4] ls) r rem st := (rfl)
theorem zeq_71_9 {a : Int} : mstep P rt sg C J X post (.ifCond .eq 9) 71 ls (mi a :: r) rem st nx = ((mcmp .eq a 0 → J 80 ls r rem st) ∧ (¬ mcmp .eq a 0 → nx ls r rem st)) := e_ifc rfl
theorem a_21_80 {C : mCall} {K : mK} : mat P_RX7 0 sg_ k_21 [] C K post 80 ls r rem st = mblk P_RX7 0 sg_ C (mjmp k_21 K) (mexc [] K post k_21) post [.inl (.aload_n 0, 1), .inl (.iconst 0, 1), .inl (.putfield 93, 3), .inl (.aload_n 0, 1), .inl (.getfield 26, 3), .inl (.iload_n 1, 1), .inl (.iconst 1, 1), .inl (.bastore, 1), .inl (.aload_n 0, 1), .inl (.getfield 36, 3), .inl (.iload_n 1, 1), .inl (.iload_n 2, 1), .inl (.iastore, 1), .inl (.aload_n 0, 1), .inl (.getfield 39, 3), .inl (.iload_n 1, 1), .inl (.iload_n 3, 1), .inl (.iload 4, 2), .inl (.iadd, 1), .inl (.iconst 1, 1), .inl (.isub, 1), .inl (.iastore, 1), .inl (.iload_n 3, 1), .inl (.istore 5, 2)] 80 ls r rem st := (rfl)
theorem j_21_80 : mjmp k_21 K 80 ls r rem st = K 80 (mproj [0, 1, 2, 3, 4] ls) r rem st := (rfl)
theorem a_21_114 {C : mCall} {K : mK} : mat P_RX7 0 sg_ k_21 [] C K post 114 ls r rem st = mblk P_RX7 0 sg_ C (mjmp k_21 K) (mexc [] K post k_21) post [.inl (.iload 5, 2), .inl (.iload_n 3, 1), .inl (.iload 4, 2), .inl (.iadd, 1), .inl (.if_icmp .ge 22, 3), .inl (.aload_n 0, 1), .inl (.getfield 23, 3), .inl (.bipush 42, 2), .inl (.iload_n 1, 1), .inl (.imul, 1), .inl (.iload 5, 2), .inl (.iadd, 1), .inl (.iconst 1, 1), .inl (.bastore, 1), .inl (.iinc 5 1, 3), .inl (.goto (-25), 3)] 114 ls r rem st := (rfl)
theorem j_21_114 : mjmp k_21 K 114 ls r rem st = K 114 (mproj [0, 1, 3, 4, 5] ls) r rem st := (rfl)
theorem cge_120_22 {a b : Int} : mstep P rt sg C J X post (.if_icmp .ge 22) 120 ls (mi b :: mi a :: r) rem st nx = ((mcmp .ge a b → J 142 ls r rem st) ∧ (¬ mcmp .ge a b → nx ls r rem st)) := e_icmp rfl
theorem f_RX7_23_30 {i : Nat} {f : mV → Prop} : mGet P_RX7 23 30 i st f = f (mr 33 i) := (rfl)
theorem g_139_m25 : mstep P rt sg C J X post (.goto (-25)) 139 ls r rem st nx = J 114 ls r rem st := e_goto rfl
theorem a_21_142 {C : mCall} {K : mK} : mat P_RX7 0 sg_ k_21 [] C K post 142 ls r rem st = mblk P_RX7 0 sg_ C (mjmp k_21 K) (mexc [] K post k_21) post [.inl (.aload_n 0, 1), .inl (.getfield 39, 3), .inl (.iload_n 1, 1), .inl (.iaload, 1), .inl (.ireturn, 1)] 142 ls r rem st := (rfl)
theorem j_21_142 : mjmp k_21 K 142 ls r rem st = K 142 (mproj [0, 1] ls) r rem st := (rfl)
theorem a_22_0 {C : mCall} {K : mK} : mat P_RX7 0 sg_ k_22 [] C K post 0 ls r rem st = mblk P_RX7 0 sg_ C (mjmp k_22 K) (mexc [] K post k_22) post [.inl (.aload_n 0, 1), .inl (.iload_n 1, 1), .inl (.invokevirtual 128, 3), .inl (.ifCond .ne 9, 3), .inl (.aload_n 0, 1), .inl (.iconst 1, 1), .inl (.invokevirtual 109, 3), .inl (.ireturn, 1)] 0 ls r rem st := (rfl)
theorem j_22_0 : mjmp k_22 K 0 ls r rem st = K 0 (mproj [0, 1] ls) r rem st := (rfl)
theorem a_22_14 {C : mCall} {K : mK} : mat P_RX7 0 sg_ k_22 [] C K post 14 ls r rem st = mblk P_RX7 0 sg_ C (mjmp k_22 K) (mexc [] K post k_22) post [.inl (.aload_n 0, 1), .inl (.getfield 26, 3), .inl (.iload_n 1, 1), .inl (.baload, 1), .inl (.ifCond .ne 9, 3), .inl (.aload_n 0, 1), .inl (.iconst 2, 1), .inl (.invokevirtual 109, 3), .inl (.ireturn, 1)] 14 ls r rem st := (rfl)
theorem j_22_14 : mjmp k_22 K 14 ls r rem st = K 14 (mproj [0, 1] ls) r rem st := (rfl)
theorem a_22_29 {C : mCall} {K : mK} : mat P_RX7 0 sg_ k_22 [] C K post 29 ls r rem st = mblk P_RX7 0 sg_ C (mjmp k_22 K) (mexc [] K post k_22) post [.inl (.aload_n 0, 1), .inl (.iconst 0, 1), .inl (.putfield 93, 3), .inl (.aload_n 0, 1), .inl (.getfield 26, 3), .inl (.iload_n 1, 1), .inl (.iconst 0, 1), .inl (.bastore, 1), .inl (.iconst 0, 1), .inl (.istore_n 2, 1), .inl (.aload_n 0, 1), .inl (.invokevirtual 113, 3), .inl (.istore_n 3, 1)] 29 ls r rem st := (rfl)
theorem j_22_29 : mjmp k_22 K 29 ls r rem st = K 29 (mproj [0, 1] ls) r rem st := (rfl)
theorem a_22_48 {C : mCall} {K : mK} : mat P_RX7 0 sg_ k_22 [] C K post 48 ls r rem st = mblk P_RX7 0 sg_ C (mjmp k_22 K) (mexc [] K post k_22) post [.inl (.iload_n 3, 1), .inl (.bipush 42, 2), .inl (.if_icmp .ge 43, 3), .inl (.iload_n 2, 1), .inl (.aload_n 0, 1), .inl (.getfield 23, 3), .inl (.bipush 42, 2), .inl (.iload_n 1, 1), .inl (.imul, 1), .inl (.iload_n 3, 1), .inl (.iadd, 1), .inl (.baload, 1), .inl (.ifCond .eq 7, 3), .inl (.iconst 1, 1), .inl (.goto 4, 3)] 48 ls r rem st := (rfl)
theorem j_22_48 : mjmp k_22 K 48 ls r rem st = K 48 (mproj [0, 1, 2, 3] ls) r rem st := (rfl)
theorem cge_51_43 {a b : Int} : mstep P rt sg C J X post (.if_icmp .ge 43) 51 ls (mi b :: mi a :: r) rem st nx = ((mcmp .ge a b → J 94 ls r rem st) ∧ (¬ mcmp .ge a b → nx ls r rem st)) := e_icmp rfl
theorem zeq_66_7 {a : Int} : mstep P rt sg C J X post (.ifCond .eq 7) 66 ls (mi a :: r) rem st nx = ((mcmp .eq a 0 → J 73 ls r rem st) ∧ (¬ mcmp .eq a 0 → nx ls r rem st)) := e_ifc rfl
theorem g_70_4 : mstep P rt sg C J X post (.goto 4) 70 ls r rem st nx = J 74 ls r rem st := e_goto rfl
theorem a_22_73 {C : mCall} {K : mK} : mat P_RX7 0 sg_ k_22 [] C K post 73 ls r rem st = mblk P_RX7 0 sg_ C (mjmp k_22 K) (mexc [] K post k_22) post [.inl (.iconst 0, 1)] 73 ls r rem st := (rfl)
theorem j_22_73 : mjmp k_22 K 73 ls r rem st = K 73 (mproj [0, 1, 3] ls) r rem st := (rfl)
theorem a_22_74 {C : mCall} {K : mK} : mat P_RX7 0 sg_ k_22 [] C K post 74 ls r rem st = mblk P_RX7 0 sg_ C (mjmp k_22 K) (mexc [] K post k_22) post [.inl (.iadd, 1), .inl (.istore_n 2, 1), .inl (.aload_n 0, 1), .inl (.getfield 23, 3), .inl (.bipush 42, 2), .inl (.iload_n 1, 1), .inl (.imul, 1), .inl (.iload_n 3, 1), .inl (.iadd, 1), .inl (.iconst 0, 1), .inl (.bastore, 1), .inl (.iinc 3 1, 3), .inl (.goto (-43), 3)] 74 ls r rem st := (rfl)
theorem j_22_74 : mjmp k_22 K 74 ls r rem st = K 74 (mproj [0, 1, 3] ls) r rem st := (rfl)
theorem g_91_m43 : mstep P rt sg C J X post (.goto (-43)) 91 ls r rem st nx = J 48 ls r rem st := e_goto rfl
theorem a_22_94 {C : mCall} {K : mK} : mat P_RX7 0 sg_ k_22 [] C K post 94 ls r rem st = mblk P_RX7 0 sg_ C (mjmp k_22 K) (mexc [] K post k_22) post [.inl (.iload_n 2, 1), .inl (.ireturn, 1)] 94 ls r rem st := (rfl)
theorem j_22_94 : mjmp k_22 K 94 ls r rem st = K 94 (mproj [2] ls) r rem st := (rfl)
theorem a_23_0 {C : mCall} {K : mK} : mat P_RX7 1 sg_ k_23 [] C K post 0 ls r rem st = mblk P_RX7 1 sg_ C (mjmp k_23 K) (mexc [] K post k_23) post [.inl (.aload_n 0, 1), .inl (.aload_n 0, 1), .inl (.iload_n 1, 1), .inl (.invokevirtual 128, 3), .inl (.ifCond .ne 7, 3), .inl (.iconst 1, 1), .inl (.goto 18, 3)] 0 ls r rem st := (rfl)
theorem j_23_0 : mjmp k_23 K 0 ls r rem st = K 0 (mproj [0, 1, 2] ls) r rem st := (rfl)
theorem zne_6_7 {a : Int} : mstep P rt sg C J X post (.ifCond .ne 7) 6 ls (mi a :: r) rem st nx = ((mcmp .ne a 0 → J 13 ls r rem st) ∧ (¬ mcmp .ne a 0 → nx ls r rem st)) := e_ifc rfl
theorem g_10_18 : mstep P rt sg C J X post (.goto 18) 10 ls r rem st nx = J 28 ls r rem st := e_goto rfl
theorem a_23_13 {C : mCall} {K : mK} : mat P_RX7 1 sg_ k_23 [] C K post 13 ls r rem st = mblk P_RX7 1 sg_ C (mjmp k_23 K) (mexc [] K post k_23) post [.inl (.iload_n 2, 1), .inl (.iconst 0, 1), .inl (.bipush 41, 2), .inl (.invokestatic 99, 3), .inl (.ifCond .eq 7, 3), .inl (.iconst 0, 1), .inl (.goto 4, 3)] 13 ls r rem st := (rfl)
theorem j_23_13 : mjmp k_23 K 13 ls r rem st = K 13 (mproj [0, 1, 2] ls) r rem st := (rfl)
theorem zeq_20_7 {a : Int} : mstep P rt sg C J X post (.ifCond .eq 7) 20 ls (mi a :: r) rem st nx = ((mcmp .eq a 0 → J 27 ls r rem st) ∧ (¬ mcmp .eq a 0 → nx ls r rem st)) := e_ifc rfl
theorem g_24_4 : mstep P rt sg C J X post (.goto 4) 24 ls r rem st nx = J 28 ls r rem st := e_goto rfl
theorem a_23_27 {C : mCall} {K : mK} : mat P_RX7 1 sg_ k_23 [] C K post 27 ls r rem st = mblk P_RX7 1 sg_ C (mjmp k_23 K) (mexc [] K post k_23) post [.inl (.iconst 2, 1)] 27 ls r rem st := (rfl)
theorem j_23_27 : mjmp k_23 K 27 ls r rem st = K 27 (mproj [0, 1, 2] ls) r rem st := (rfl)
theorem a_23_28 {C : mCall} {K : mK} : mat P_RX7 1 sg_ k_23 [] C K post 28 ls r rem st = mblk P_RX7 1 sg_ C (mjmp k_23 K) (mexc [] K post k_23) post [.inl (.putfield 93, 3), .inl (.aload_n 0, 1), .inl (.getfield 93, 3), .inl (.ifCond .ne 35, 3), .inl (.aload_n 0, 1), .inl (.getfield 20, 3), .inl (.bipush 42, 2), .inl (.iload_n 1, 1), .inl (.imul, 1), .inl (.iload_n 2, 1), .inl (.iadd, 1), .inl (.baload, 1), .inl (.ifCond .ne 17, 3), .inl (.aload_n 0, 1), .inl (.getfield 23, 3), .inl (.bipush 42, 2), .inl (.iload_n 1, 1), .inl (.imul, 1), .inl (.iload_n 2, 1), .inl (.iadd, 1), .inl (.baload, 1), .inl (.ifCond .eq 7, 3)] 28 ls r rem st := (rfl)
theorem j_23_28 : mjmp k_23 K 28 ls r rem st = K 28 (mproj [0, 1, 2] ls) r rem st := (rfl)
theorem zne_35_35 {a : Int} : mstep P rt sg C J X post (.ifCond .ne 35) 35 ls (mi a :: r) rem st nx = ((mcmp .ne a 0 → J 70 ls r rem st) ∧ (¬ mcmp .ne a 0 → nx ls r rem st)) := e_ifc rfl
theorem zne_49_17 {a : Int} : mstep P rt sg C J X post (.ifCond .ne 17) 49 ls (mi a :: r) rem st nx = ((mcmp .ne a 0 → J 66 ls r rem st) ∧ (¬ mcmp .ne a 0 → nx ls r rem st)) := e_ifc rfl
theorem zeq_63_7 {a : Int} : mstep P rt sg C J X post (.ifCond .eq 7) 63 ls (mi a :: r) rem st nx = ((mcmp .eq a 0 → J 70 ls r rem st) ∧ (¬ mcmp .eq a 0 → nx ls r rem st)) := e_ifc rfl
theorem a_23_66 {C : mCall} {K : mK} : mat P_RX7 1 sg_ k_23 [] C K post 66 ls r rem st = mblk P_RX7 1 sg_ C (mjmp k_23 K) (mexc [] K post k_23) post [.inl (.iconst 1, 1), .inl (.goto 4, 3)] 66 ls r rem st := (rfl)
theorem j_23_66 : mjmp k_23 K 66 ls r rem st = K 66 (mproj [] ls) r rem st := (rfl)
theorem g_67_4 : mstep P rt sg C J X post (.goto 4) 67 ls r rem st nx = J 71 ls r rem st := e_goto rfl
theorem a_23_70 {C : mCall} {K : mK} : mat P_RX7 1 sg_ k_23 [] C K post 70 ls r rem st = mblk P_RX7 1 sg_ C (mjmp k_23 K) (mexc [] K post k_23) post [.inl (.iconst 0, 1)] 70 ls r rem st := (rfl)
theorem j_23_70 : mjmp k_23 K 70 ls r rem st = K 70 (mproj [] ls) r rem st := (rfl)
theorem a_23_71 {C : mCall} {K : mK} : mat P_RX7 1 sg_ k_23 [] C K post 71 ls r rem st = mblk P_RX7 1 sg_ C (mjmp k_23 K) (mexc [] K post k_23) post [.inl (.ireturn, 1)] 71 ls r rem st := (rfl)
theorem j_23_71 : mjmp k_23 K 71 ls r rem st = K 71 (mproj [] ls) r rem st := (rfl)
theorem a_24_0 {C : mCall} {K : mK} : mat P_RX7 0 sg_ k_24 [] C K post 0 ls r rem st = mblk P_RX7 0 sg_ C (mjmp k_24 K) (mexc [] K post k_24) post [.inl (.iload_n 1, 1), .inl (.iconst 0, 1), .inl (.iconst 3, 1), .inl (.invokestatic 99, 3), .inl (.ifCond .ne 9, 3), .inl (.aload_n 0, 1), .inl (.iconst 1, 1), .inl (.invokevirtual 109, 3), .inl (.ireturn, 1)] 0 ls r rem st := (rfl)
theorem j_24_0 : mjmp k_24 K 0 ls r rem st = K 0 (mproj [0, 1] ls) r rem st := (rfl)
theorem zne_6_9 {a : Int} : mstep P rt sg C J X post (.ifCond .ne 9) 6 ls (mi a :: r) rem st nx = ((mcmp .ne a 0 → J 15 ls r rem st) ∧ (¬ mcmp .ne a 0 → nx ls r rem st)) := e_ifc rfl
theorem a_24_15 {C : mCall} {K : mK} : mat P_RX7 0 sg_ k_24 [] C K post 15 ls r rem st = mblk P_RX7 0 sg_ C (mjmp k_24 K) (mexc [] K post k_24) post [.inl (.aload_n 0, 1), .inl (.getfield 141, 3), .inl (.iconst 4, 1), .inl (.if_icmp .ne 9, 3), .inl (.aload_n 0, 1), .inl (.iconst 2, 1), .inl (.invokevirtual 109, 3), .inl (.ireturn, 1)] 15 ls r rem st := (rfl)
theorem j_24_15 : mjmp k_24 K 15 ls r rem st = K 15 (mproj [0, 1] ls) r rem st := (rfl)
theorem f_RX7_141_30 {i : Nat} {f : mV → Prop} : mGet P_RX7 141 30 i st f = f (mi (sI st 30 i 2)) := (rfl)
theorem cne_20_9 {a b : Int} : mstep P rt sg C J X post (.if_icmp .ne 9) 20 ls (mi b :: mi a :: r) rem st nx = ((mcmp .ne a b → J 29 ls r rem st) ∧ (¬ mcmp .ne a b → nx ls r rem st)) := e_icmp rfl
theorem a_24_29 {C : mCall} {K : mK} : mat P_RX7 0 sg_ k_24 [] C K post 29 ls r rem st = mblk P_RX7 0 sg_ C (mjmp k_24 K) (mexc [] K post k_24) post [.inl (.aload_n 0, 1), .inl (.iconst 0, 1), .inl (.putfield 93, 3), .inl (.aload_n 0, 1), .inl (.getfield 42, 3), .inl (.aload_n 0, 1), .inl (.getfield 141, 3), .inl (.iconst 1, 1), .inl (.iastore, 1), .inl (.aload_n 0, 1), .inl (.getfield 45, 3), .inl (.iconst 3, 1), .inl (.aload_n 0, 1), .inl (.getfield 141, 3), .inl (.imul, 1), .inl (.iload_n 1, 1), .inl (.iastore, 1), .inl (.aload_n 0, 1), .inl (.dup, 1), .inl (.getfield 141, 3), .inl (.iconst 1, 1), .inl (.iadd, 1), .inl (.putfield 141, 3), .inl (.aload_n 0, 1), .inl (.getfield 141, 3), .inl (.iconst 1, 1), .inl (.isub, 1), .inl (.ireturn, 1)] 29 ls r rem st := (rfl)
theorem j_24_29 : mjmp k_24 K 29 ls r rem st = K 29 (mproj [0, 1] ls) r rem st := (rfl)
theorem f_RX7_45_30 {i : Nat} {f : mV → Prop} : mGet P_RX7 45 30 i st f = f (mr 40 i) := (rfl)
theorem p_RX7_141_30 {f : Nat → Prop} : mPut P_RX7 141 30 0 f = f 2 := (rfl)
theorem a_25_0 {C : mCall} {K : mK} : mat P_RX7 1 sg_ k_25 [] C K post 0 ls r rem st = mblk P_RX7 1 sg_ C (mjmp k_25 K) (mexc [] K post k_25) post [.inl (.iconst 0, 1), .inl (.istore_n 2, 1)] 0 ls r rem st := (rfl)
theorem j_25_0 : mjmp k_25 K 0 ls r rem st = K 0 (mproj [0, 1] ls) r rem st := (rfl)
theorem a_25_2 {C : mCall} {K : mK} : mat P_RX7 1 sg_ k_25 [] C K post 2 ls r rem st = mblk P_RX7 1 sg_ C (mjmp k_25 K) (mexc [] K post k_25) post [.inl (.iload_n 2, 1), .inl (.aload_n 0, 1), .inl (.getfield 103, 3), .inl (.if_icmp .ge 21, 3), .inl (.aload_n 0, 1), .inl (.getfield 48, 3), .inl (.iload_n 2, 1), .inl (.iaload, 1), .inl (.iload_n 1, 1), .inl (.if_icmp .ne 5, 3), .inl (.iconst 1, 1), .inl (.ireturn, 1)] 2 ls r rem st := (rfl)
theorem j_25_2 : mjmp k_25 K 2 ls r rem st = K 2 (mproj [0, 1, 2] ls) r rem st := (rfl)
theorem cge_7_21 {a b : Int} : mstep P rt sg C J X post (.if_icmp .ge 21) 7 ls (mi b :: mi a :: r) rem st nx = ((mcmp .ge a b → J 28 ls r rem st) ∧ (¬ mcmp .ge a b → nx ls r rem st)) := e_icmp rfl
theorem cne_17_5 {a b : Int} : mstep P rt sg C J X post (.if_icmp .ne 5) 17 ls (mi b :: mi a :: r) rem st nx = ((mcmp .ne a b → J 22 ls r rem st) ∧ (¬ mcmp .ne a b → nx ls r rem st)) := e_icmp rfl
theorem a_25_22 {C : mCall} {K : mK} : mat P_RX7 1 sg_ k_25 [] C K post 22 ls r rem st = mblk P_RX7 1 sg_ C (mjmp k_25 K) (mexc [] K post k_25) post [.inl (.iinc 2 1, 3), .inl (.goto (-23), 3)] 22 ls r rem st := (rfl)
theorem j_25_22 : mjmp k_25 K 22 ls r rem st = K 22 (mproj [0, 1, 2] ls) r rem st := (rfl)
theorem g_25_m23 : mstep P rt sg C J X post (.goto (-23)) 25 ls r rem st nx = J 2 ls r rem st := e_goto rfl
theorem a_25_28 {C : mCall} {K : mK} : mat P_RX7 1 sg_ k_25 [] C K post 28 ls r rem st = mblk P_RX7 1 sg_ C (mjmp k_25 K) (mexc [] K post k_25) post [.inl (.iconst 0, 1), .inl (.ireturn, 1)] 28 ls r rem st := (rfl)
theorem j_25_28 : mjmp k_25 K 28 ls r rem st = K 28 (mproj [] ls) r rem st := (rfl)
theorem a_26_0 {C : mCall} {K : mK} : mat P_RX7 0 sg_ k_26 [] C K post 0 ls r rem st = mblk P_RX7 0 sg_ C (mjmp k_26 K) (mexc [] K post k_26) post [.inl (.iload_n 1, 1), .inl (.iconst 0, 1), .inl (.aload_n 0, 1), .inl (.getfield 141, 3), .inl (.iconst 1, 1), .inl (.isub, 1), .inl (.invokestatic 99, 3), .inl (.ifCond .ne 9, 3), .inl (.aload_n 0, 1), .inl (.iconst 1, 1), .inl (.invokevirtual 109, 3), .inl (.ireturn, 1)] 0 ls r rem st := (rfl)
theorem j_26_0 : mjmp k_26 K 0 ls r rem st = K 0 (mproj [0, 1, 2] ls) r rem st := (rfl)
theorem zne_11_9 {a : Int} : mstep P rt sg C J X post (.ifCond .ne 9) 11 ls (mi a :: r) rem st nx = ((mcmp .ne a 0 → J 20 ls r rem st) ∧ (¬ mcmp .ne a 0 → nx ls r rem st)) := e_ifc rfl
theorem a_26_20 {C : mCall} {K : mK} : mat P_RX7 0 sg_ k_26 [] C K post 20 ls r rem st = mblk P_RX7 0 sg_ C (mjmp k_26 K) (mexc [] K post k_26) post [.inl (.iload_n 2, 1), .inl (.iconst 0, 1), .inl (.iconst 3, 1), .inl (.invokestatic 99, 3), .inl (.ifCond .ne 9, 3), .inl (.aload_n 0, 1), .inl (.iconst 2, 1), .inl (.invokevirtual 109, 3), .inl (.ireturn, 1)] 20 ls r rem st := (rfl)
theorem j_26_20 : mjmp k_26 K 20 ls r rem st = K 20 (mproj [0, 1, 2] ls) r rem st := (rfl)
theorem zne_26_9 {a : Int} : mstep P rt sg C J X post (.ifCond .ne 9) 26 ls (mi a :: r) rem st nx = ((mcmp .ne a 0 → J 35 ls r rem st) ∧ (¬ mcmp .ne a 0 → nx ls r rem st)) := e_ifc rfl
theorem a_26_35 {C : mCall} {K : mK} : mat P_RX7 0 sg_ k_26 [] C K post 35 ls r rem st = mblk P_RX7 0 sg_ C (mjmp k_26 K) (mexc [] K post k_26) post [.inl (.aload_n 0, 1), .inl (.getfield 42, 3), .inl (.iload_n 1, 1), .inl (.iaload, 1), .inl (.iconst 3, 1), .inl (.if_icmp .eq 11, 3), .inl (.aload_n 0, 1), .inl (.iload_n 1, 1), .inl (.invokevirtual 144, 3), .inl (.ifCond .eq 9, 3)] 35 ls r rem st := (rfl)
theorem j_26_35 : mjmp k_26 K 35 ls r rem st = K 35 (mproj [0, 1, 2] ls) r rem st := (rfl)
theorem ceq_42_11 {a b : Int} : mstep P rt sg C J X post (.if_icmp .eq 11) 42 ls (mi b :: mi a :: r) rem st nx = ((mcmp .eq a b → J 53 ls r rem st) ∧ (¬ mcmp .eq a b → nx ls r rem st)) := e_icmp rfl
theorem v_RX7_144_30 {a1 : mV} {i : Nat} : mstep P_RX7 rt sg_ C J X post (.invokevirtual 144) pc ls (a1 :: mr 30 i :: r) rem st nx = cond (mroom r) (0 ≤ rem.1 ∧ 0 ≤ rem.2 ∧ C 25 [mr 30 i, a1] st (mck X pc ls r (rem.1 - 0, rem.2 - 0) nx)) False := (rfl)
theorem zeq_50_9 {a : Int} : mstep P rt sg C J X post (.ifCond .eq 9) 50 ls (mi a :: r) rem st nx = ((mcmp .eq a 0 → J 59 ls r rem st) ∧ (¬ mcmp .eq a 0 → nx ls r rem st)) := e_ifc rfl
theorem a_26_53 {C : mCall} {K : mK} : mat P_RX7 0 sg_ k_26 [] C K post 53 ls r rem st = mblk P_RX7 0 sg_ C (mjmp k_26 K) (mexc [] K post k_26) post [.inl (.aload_n 0, 1), .inl (.iconst 3, 1), .inl (.invokevirtual 109, 3), .inl (.ireturn, 1)] 53 ls r rem st := (rfl)
theorem j_26_53 : mjmp k_26 K 53 ls r rem st = K 53 (mproj [0] ls) r rem st := (rfl)
theorem a_26_59 {C : mCall} {K : mK} : mat P_RX7 0 sg_ k_26 [] C K post 59 ls r rem st = mblk P_RX7 0 sg_ C (mjmp k_26 K) (mexc [] K post k_26) post [.inl (.aload_n 0, 1), .inl (.iconst 0, 1), .inl (.putfield 93, 3), .inl (.aload_n 0, 1), .inl (.getfield 45, 3), .inl (.iconst 3, 1), .inl (.iload_n 1, 1), .inl (.imul, 1), .inl (.aload_n 0, 1), .inl (.getfield 42, 3), .inl (.iload_n 1, 1), .inl (.iaload, 1), .inl (.iadd, 1), .inl (.iload_n 2, 1), .inl (.iastore, 1), .inl (.aload_n 0, 1), .inl (.getfield 42, 3), .inl (.iload_n 1, 1), .inl (.dup2, 1), .inl (.iaload, 1), .inl (.iconst 1, 1), .inl (.iadd, 1), .inl (.iastore, 1), .inl (.aload_n 0, 1), .inl (.getfield 42, 3), .inl (.iload_n 1, 1), .inl (.iaload, 1), .inl (.ireturn, 1)] 59 ls r rem st := (rfl)
theorem j_26_59 : mjmp k_26 K 59 ls r rem st = K 59 (mproj [0, 1, 2] ls) r rem st := (rfl)
theorem a_27_0 {C : mCall} {K : mK} : mat P_RX7 0 sg_ k_27 [] C K post 0 ls r rem st = mblk P_RX7 0 sg_ C (mjmp k_27 K) (mexc [] K post k_27) post [.inl (.iload_n 1, 1), .inl (.iconst 0, 1), .inl (.aload_n 0, 1), .inl (.getfield 141, 3), .inl (.iconst 1, 1), .inl (.isub, 1), .inl (.invokestatic 99, 3), .inl (.ifCond .ne 9, 3), .inl (.aload_n 0, 1), .inl (.iconst 1, 1), .inl (.invokevirtual 109, 3), .inl (.ireturn, 1)] 0 ls r rem st := (rfl)
theorem j_27_0 : mjmp k_27 K 0 ls r rem st = K 0 (mproj [0, 1, 2, 3] ls) r rem st := (rfl)
theorem a_27_20 {C : mCall} {K : mK} : mat P_RX7 0 sg_ k_27 [] C K post 20 ls r rem st = mblk P_RX7 0 sg_ C (mjmp k_27 K) (mexc [] K post k_27) post [.inl (.iload_n 2, 1), .inl (.aload_n 0, 1), .inl (.getfield 106, 3), .inl (.if_icmp .le 29, 3), .inl (.iload_n 2, 1), .inl (.sipush 999, 3), .inl (.if_icmp .gt 22, 3), .inl (.iload_n 3, 1), .inl (.iconst 1, 1), .inl (.bipush 12, 2), .inl (.invokestatic 99, 3), .inl (.ifCond .eq 12, 3), .inl (.iload_n 2, 1), .inl (.iload_n 3, 1), .inl (.iadd, 1), .inl (.sipush 999, 3), .inl (.if_icmp .le 9, 3)] 20 ls r rem st := (rfl)
theorem j_27_20 : mjmp k_27 K 20 ls r rem st = K 20 (mproj [0, 1, 2, 3] ls) r rem st := (rfl)
theorem cle_25_29 {a b : Int} : mstep P rt sg C J X post (.if_icmp .le 29) 25 ls (mi b :: mi a :: r) rem st nx = ((mcmp .le a b → J 54 ls r rem st) ∧ (¬ mcmp .le a b → nx ls r rem st)) := e_icmp rfl
theorem cgt_32_22 {a b : Int} : mstep P rt sg C J X post (.if_icmp .gt 22) 32 ls (mi b :: mi a :: r) rem st nx = ((mcmp .gt a b → J 54 ls r rem st) ∧ (¬ mcmp .gt a b → nx ls r rem st)) := e_icmp rfl
theorem zeq_42_12 {a : Int} : mstep P rt sg C J X post (.ifCond .eq 12) 42 ls (mi a :: r) rem st nx = ((mcmp .eq a 0 → J 54 ls r rem st) ∧ (¬ mcmp .eq a 0 → nx ls r rem st)) := e_ifc rfl
theorem cle_51_9 {a b : Int} : mstep P rt sg C J X post (.if_icmp .le 9) 51 ls (mi b :: mi a :: r) rem st nx = ((mcmp .le a b → J 60 ls r rem st) ∧ (¬ mcmp .le a b → nx ls r rem st)) := e_icmp rfl
theorem a_27_54 {C : mCall} {K : mK} : mat P_RX7 0 sg_ k_27 [] C K post 54 ls r rem st = mblk P_RX7 0 sg_ C (mjmp k_27 K) (mexc [] K post k_27) post [.inl (.aload_n 0, 1), .inl (.iconst 2, 1), .inl (.invokevirtual 109, 3), .inl (.ireturn, 1)] 54 ls r rem st := (rfl)
theorem j_27_54 : mjmp k_27 K 54 ls r rem st = K 54 (mproj [0] ls) r rem st := (rfl)
theorem a_27_60 {C : mCall} {K : mK} : mat P_RX7 0 sg_ k_27 [] C K post 60 ls r rem st = mblk P_RX7 0 sg_ C (mjmp k_27 K) (mexc [] K post k_27) post [.inl (.aload_n 0, 1), .inl (.getfield 103, 3), .inl (.bipush 24, 2), .inl (.if_icmp .ne 7, 3), .inl (.iconst 1, 1), .inl (.goto 4, 3)] 60 ls r rem st := (rfl)
theorem j_27_60 : mjmp k_27 K 60 ls r rem st = K 60 (mproj [0, 1, 2, 3] ls) r rem st := (rfl)
theorem cne_66_7 {a b : Int} : mstep P rt sg C J X post (.if_icmp .ne 7) 66 ls (mi b :: mi a :: r) rem st nx = ((mcmp .ne a b → J 73 ls r rem st) ∧ (¬ mcmp .ne a b → nx ls r rem st)) := e_icmp rfl
theorem a_27_73 {C : mCall} {K : mK} : mat P_RX7 0 sg_ k_27 [] C K post 73 ls r rem st = mblk P_RX7 0 sg_ C (mjmp k_27 K) (mexc [] K post k_27) post [.inl (.iconst 0, 1)] 73 ls r rem st := (rfl)
theorem j_27_73 : mjmp k_27 K 73 ls r rem st = K 73 (mproj [0, 1, 2, 3] ls) r rem st := (rfl)
theorem a_27_74 {C : mCall} {K : mK} : mat P_RX7 0 sg_ k_27 [] C K post 74 ls r rem st = mblk P_RX7 0 sg_ C (mjmp k_27 K) (mexc [] K post k_27) post [.inl (.istore 4, 2), .inl (.iconst 0, 1), .inl (.istore 5, 2)] 74 ls r rem st := (rfl)
theorem j_27_74 : mjmp k_27 K 74 ls r rem st = K 74 (mproj [0, 1, 2, 3] ls) r rem st := (rfl)
theorem a_27_79 {C : mCall} {K : mK} : mat P_RX7 0 sg_ k_27 [] C K post 79 ls r rem st = mblk P_RX7 0 sg_ C (mjmp k_27 K) (mexc [] K post k_27) post [.inl (.iload 5, 2), .inl (.aload_n 0, 1), .inl (.getfield 103, 3), .inl (.if_icmp .ge 76, 3), .inl (.iload 4, 2), .inl (.ifCond .ne 58, 3), .inl (.aload_n 0, 1), .inl (.getfield 48, 3), .inl (.iload 5, 2), .inl (.iaload, 1), .inl (.iload_n 1, 1), .inl (.if_icmp .ne 51, 3), .inl (.aload_n 0, 1), .inl (.getfield 57, 3), .inl (.iload 5, 2), .inl (.iaload, 1), .inl (.bipush 99, 2), .inl (.if_icmp .eq 39, 3), .inl (.aload_n 0, 1), .inl (.getfield 51, 3), .inl (.iload 5, 2), .inl (.iaload, 1), .inl (.iload_n 2, 1), .inl (.iload_n 3, 1), .inl (.iadd, 1), .inl (.if_icmp .ge 26, 3), .inl (.iload_n 2, 1), .inl (.aload_n 0, 1), .inl (.getfield 51, 3), .inl (.iload 5, 2), .inl (.iaload, 1), .inl (.aload_n 0, 1), .inl (.getfield 54, 3), .inl (.iload 5, 2), .inl (.iaload, 1), .inl (.iadd, 1), .inl (.if_icmp .ge 7, 3)] 79 ls r rem st := (rfl)
theorem j_27_79 : mjmp k_27 K 79 ls r rem st = K 79 (mproj [0, 1, 2, 3, 4, 5] ls) r rem st := (rfl)
theorem cge_85_76 {a b : Int} : mstep P rt sg C J X post (.if_icmp .ge 76) 85 ls (mi b :: mi a :: r) rem st nx = ((mcmp .ge a b → J 161 ls r rem st) ∧ (¬ mcmp .ge a b → nx ls r rem st)) := e_icmp rfl
theorem zne_90_58 {a : Int} : mstep P rt sg C J X post (.ifCond .ne 58) 90 ls (mi a :: r) rem st nx = ((mcmp .ne a 0 → J 148 ls r rem st) ∧ (¬ mcmp .ne a 0 → nx ls r rem st)) := e_ifc rfl
theorem cne_101_51 {a b : Int} : mstep P rt sg C J X post (.if_icmp .ne 51) 101 ls (mi b :: mi a :: r) rem st nx = ((mcmp .ne a b → J 152 ls r rem st) ∧ (¬ mcmp .ne a b → nx ls r rem st)) := e_icmp rfl
theorem ceq_113_39 {a b : Int} : mstep P rt sg C J X post (.if_icmp .eq 39) 113 ls (mi b :: mi a :: r) rem st nx = ((mcmp .eq a b → J 152 ls r rem st) ∧ (¬ mcmp .eq a b → nx ls r rem st)) := e_icmp rfl
theorem cge_126_26 {a b : Int} : mstep P rt sg C J X post (.if_icmp .ge 26) 126 ls (mi b :: mi a :: r) rem st nx = ((mcmp .ge a b → J 152 ls r rem st) ∧ (¬ mcmp .ge a b → nx ls r rem st)) := e_icmp rfl
theorem cge_145_7 {a b : Int} : mstep P rt sg C J X post (.if_icmp .ge 7) 145 ls (mi b :: mi a :: r) rem st nx = ((mcmp .ge a b → J 152 ls r rem st) ∧ (¬ mcmp .ge a b → nx ls r rem st)) := e_icmp rfl
theorem a_27_148 {C : mCall} {K : mK} : mat P_RX7 0 sg_ k_27 [] C K post 148 ls r rem st = mblk P_RX7 0 sg_ C (mjmp k_27 K) (mexc [] K post k_27) post [.inl (.iconst 1, 1), .inl (.goto 4, 3)] 148 ls r rem st := (rfl)
theorem j_27_148 : mjmp k_27 K 148 ls r rem st = K 148 (mproj [0, 1, 2, 3, 5] ls) r rem st := (rfl)
theorem g_149_4 : mstep P rt sg C J X post (.goto 4) 149 ls r rem st nx = J 153 ls r rem st := e_goto rfl
theorem a_27_152 {C : mCall} {K : mK} : mat P_RX7 0 sg_ k_27 [] C K post 152 ls r rem st = mblk P_RX7 0 sg_ C (mjmp k_27 K) (mexc [] K post k_27) post [.inl (.iconst 0, 1)] 152 ls r rem st := (rfl)
theorem j_27_152 : mjmp k_27 K 152 ls r rem st = K 152 (mproj [0, 1, 2, 3, 5] ls) r rem st := (rfl)
theorem a_27_153 {C : mCall} {K : mK} : mat P_RX7 0 sg_ k_27 [] C K post 153 ls r rem st = mblk P_RX7 0 sg_ C (mjmp k_27 K) (mexc [] K post k_27) post [.inl (.istore 4, 2), .inl (.iinc 5 1, 3), .inl (.goto (-79), 3)] 153 ls r rem st := (rfl)
theorem j_27_153 : mjmp k_27 K 153 ls r rem st = K 153 (mproj [0, 1, 2, 3, 5] ls) r rem st := (rfl)
theorem g_158_m79 : mstep P rt sg C J X post (.goto (-79)) 158 ls r rem st nx = J 79 ls r rem st := e_goto rfl
theorem a_27_161 {C : mCall} {K : mK} : mat P_RX7 0 sg_ k_27 [] C K post 161 ls r rem st = mblk P_RX7 0 sg_ C (mjmp k_27 K) (mexc [] K post k_27) post [.inl (.iload 4, 2), .inl (.ifCond .eq 9, 3), .inl (.aload_n 0, 1), .inl (.iconst 3, 1), .inl (.invokevirtual 109, 3), .inl (.ireturn, 1)] 161 ls r rem st := (rfl)
theorem j_27_161 : mjmp k_27 K 161 ls r rem st = K 161 (mproj [0, 1, 2, 3, 4] ls) r rem st := (rfl)
theorem zeq_163_9 {a : Int} : mstep P rt sg C J X post (.ifCond .eq 9) 163 ls (mi a :: r) rem st nx = ((mcmp .eq a 0 → J 172 ls r rem st) ∧ (¬ mcmp .eq a 0 → nx ls r rem st)) := e_ifc rfl
theorem a_27_172 {C : mCall} {K : mK} : mat P_RX7 0 sg_ k_27 [] C K post 172 ls r rem st = mblk P_RX7 0 sg_ C (mjmp k_27 K) (mexc [] K post k_27) post [.inl (.aload_n 0, 1), .inl (.iconst 0, 1), .inl (.putfield 93, 3), .inl (.aload_n 0, 1), .inl (.getfield 48, 3), .inl (.aload_n 0, 1), .inl (.getfield 103, 3), .inl (.iload_n 1, 1), .inl (.iastore, 1), .inl (.aload_n 0, 1), .inl (.getfield 51, 3), .inl (.aload_n 0, 1), .inl (.getfield 103, 3), .inl (.iload_n 2, 1), .inl (.iastore, 1), .inl (.aload_n 0, 1), .inl (.getfield 54, 3), .inl (.aload_n 0, 1), .inl (.getfield 103, 3), .inl (.iload_n 3, 1), .inl (.iastore, 1), .inl (.aload_n 0, 1), .inl (.getfield 57, 3), .inl (.aload_n 0, 1), .inl (.getfield 103, 3), .inl (.bipush 112, 2), .inl (.iastore, 1), .inl (.iconst 0, 1), .inl (.istore 5, 2)] 172 ls r rem st := (rfl)
theorem j_27_172 : mjmp k_27 K 172 ls r rem st = K 172 (mproj [0, 1, 2, 3] ls) r rem st := (rfl)
theorem a_27_221 {C : mCall} {K : mK} : mat P_RX7 0 sg_ k_27 [] C K post 221 ls r rem st = mblk P_RX7 0 sg_ C (mjmp k_27 K) (mexc [] K post k_27) post [.inl (.iload 5, 2), .inl (.iconst 3, 1), .inl (.if_icmp .ge 24, 3), .inl (.aload_n 0, 1), .inl (.getfield 60, 3), .inl (.iconst 3, 1), .inl (.aload_n 0, 1), .inl (.getfield 103, 3), .inl (.imul, 1), .inl (.iload 5, 2), .inl (.iadd, 1), .inl (.iconst (-1), 1), .inl (.iastore, 1), .inl (.iinc 5 1, 3), .inl (.goto (-24), 3)] 221 ls r rem st := (rfl)
theorem j_27_221 : mjmp k_27 K 221 ls r rem st = K 221 (mproj [0, 5] ls) r rem st := (rfl)
theorem cge_224_24 {a b : Int} : mstep P rt sg C J X post (.if_icmp .ge 24) 224 ls (mi b :: mi a :: r) rem st nx = ((mcmp .ge a b → J 248 ls r rem st) ∧ (¬ mcmp .ge a b → nx ls r rem st)) := e_icmp rfl
theorem g_245_m24 : mstep P rt sg C J X post (.goto (-24)) 245 ls r rem st nx = J 221 ls r rem st := e_goto rfl
theorem a_27_248 {C : mCall} {K : mK} : mat P_RX7 0 sg_ k_27 [] C K post 248 ls r rem st = mblk P_RX7 0 sg_ C (mjmp k_27 K) (mexc [] K post k_27) post [.inl (.aload_n 0, 1), .inl (.dup, 1), .inl (.getfield 103, 3), .inl (.iconst 1, 1), .inl (.iadd, 1), .inl (.putfield 103, 3), .inl (.aload_n 0, 1), .inl (.getfield 103, 3), .inl (.iconst 1, 1), .inl (.isub, 1), .inl (.ireturn, 1)] 248 ls r rem st := (rfl)
theorem j_27_248 : mjmp k_27 K 248 ls r rem st = K 248 (mproj [0] ls) r rem st := (rfl)
theorem p_RX7_103_30 {f : Nat → Prop} : mPut P_RX7 103 30 0 f = f 3 := (rfl)
theorem a_28_0 {C : mCall} {K : mK} : mat P_RX7 0 sg_ k_28 [] C K post 0 ls r rem st = mblk P_RX7 0 sg_ C (mjmp k_28 K) (mexc [] K post k_28) post [.inl (.iconst 0, 1), .inl (.istore_n 3, 1)] 0 ls r rem st := (rfl)
theorem j_28_0 : mjmp k_28 K 0 ls r rem st = K 0 (mproj [0, 1, 2] ls) r rem st := (rfl)
theorem a_28_2 {C : mCall} {K : mK} : mat P_RX7 0 sg_ k_28 [] C K post 2 ls r rem st = mblk P_RX7 0 sg_ C (mjmp k_28 K) (mexc [] K post k_28) post [.inl (.iload_n 3, 1), .inl (.sipush 1000, 3), .inl (.if_icmp .gt 16, 3), .inl (.aload_n 0, 1), .inl (.getfield 63, 3), .inl (.iload_n 3, 1), .inl (.iconst 0, 1), .inl (.iastore, 1), .inl (.iinc 3 1, 3), .inl (.goto (-17), 3)] 2 ls r rem st := (rfl)
theorem j_28_2 : mjmp k_28 K 2 ls r rem st = K 2 (mproj [0, 1, 2, 3] ls) r rem st := (rfl)
theorem cgt_6_16 {a b : Int} : mstep P rt sg C J X post (.if_icmp .gt 16) 6 ls (mi b :: mi a :: r) rem st nx = ((mcmp .gt a b → J 22 ls r rem st) ∧ (¬ mcmp .gt a b → nx ls r rem st)) := e_icmp rfl
theorem f_RX7_63_30 {i : Nat} {f : mV → Prop} : mGet P_RX7 63 30 i st f = f (mr 46 i) := (rfl)
theorem g_19_m17 : mstep P rt sg C J X post (.goto (-17)) 19 ls r rem st nx = J 2 ls r rem st := e_goto rfl
theorem a_28_22 {C : mCall} {K : mK} : mat P_RX7 0 sg_ k_28 [] C K post 22 ls r rem st = mblk P_RX7 0 sg_ C (mjmp k_28 K) (mexc [] K post k_28) post [.inl (.iconst 0, 1), .inl (.istore_n 3, 1)] 22 ls r rem st := (rfl)
theorem j_28_22 : mjmp k_28 K 22 ls r rem st = K 22 (mproj [0, 1, 2] ls) r rem st := (rfl)
theorem a_28_24 {C : mCall} {K : mK} : mat P_RX7 0 sg_ k_28 [] C K post 24 ls r rem st = mblk P_RX7 0 sg_ C (mjmp k_28 K) (mexc [] K post k_28) post [.inl (.iload_n 3, 1), .inl (.aload_n 0, 1), .inl (.getfield 103, 3), .inl (.if_icmp .ge 79, 3), .inl (.iload_n 3, 1), .inl (.iload_n 2, 1), .inl (.if_icmp .eq 68, 3), .inl (.aload_n 0, 1), .inl (.getfield 57, 3), .inl (.iload_n 3, 1), .inl (.iaload, 1), .inl (.bipush 99, 2), .inl (.if_icmp .eq 57, 3), .inl (.aload_n 0, 1), .inl (.iload_n 3, 1), .inl (.iload_n 1, 1), .inl (.invokevirtual 131, 3), .inl (.ifCond .ne 6, 3), .inl (.goto 45, 3)] 24 ls r rem st := (rfl)
theorem j_28_24 : mjmp k_28 K 24 ls r rem st = K 24 (mproj [0, 1, 2, 3] ls) r rem st := (rfl)
theorem cge_29_79 {a b : Int} : mstep P rt sg C J X post (.if_icmp .ge 79) 29 ls (mi b :: mi a :: r) rem st nx = ((mcmp .ge a b → J 108 ls r rem st) ∧ (¬ mcmp .ge a b → nx ls r rem st)) := e_icmp rfl
theorem ceq_34_68 {a b : Int} : mstep P rt sg C J X post (.if_icmp .eq 68) 34 ls (mi b :: mi a :: r) rem st nx = ((mcmp .eq a b → J 102 ls r rem st) ∧ (¬ mcmp .eq a b → nx ls r rem st)) := e_icmp rfl
theorem ceq_45_57 {a b : Int} : mstep P rt sg C J X post (.if_icmp .eq 57) 45 ls (mi b :: mi a :: r) rem st nx = ((mcmp .eq a b → J 102 ls r rem st) ∧ (¬ mcmp .eq a b → nx ls r rem st)) := e_icmp rfl
theorem zne_54_6 {a : Int} : mstep P rt sg C J X post (.ifCond .ne 6) 54 ls (mi a :: r) rem st nx = ((mcmp .ne a 0 → J 60 ls r rem st) ∧ (¬ mcmp .ne a 0 → nx ls r rem st)) := e_ifc rfl
theorem g_57_45 : mstep P rt sg C J X post (.goto 45) 57 ls r rem st nx = J 102 ls r rem st := e_goto rfl
theorem a_28_60 {C : mCall} {K : mK} : mat P_RX7 0 sg_ k_28 [] C K post 60 ls r rem st = mblk P_RX7 0 sg_ C (mjmp k_28 K) (mexc [] K post k_28) post [.inl (.aload_n 0, 1), .inl (.getfield 51, 3), .inl (.iload_n 3, 1), .inl (.iaload, 1), .inl (.istore 4, 2)] 60 ls r rem st := (rfl)
theorem j_28_60 : mjmp k_28 K 60 ls r rem st = K 60 (mproj [0, 1, 2, 3] ls) r rem st := (rfl)
theorem a_28_68 {C : mCall} {K : mK} : mat P_RX7 0 sg_ k_28 [] C K post 68 ls r rem st = mblk P_RX7 0 sg_ C (mjmp k_28 K) (mexc [] K post k_28) post [.inl (.iload 4, 2), .inl (.aload_n 0, 1), .inl (.getfield 51, 3), .inl (.iload_n 3, 1), .inl (.iaload, 1), .inl (.aload_n 0, 1), .inl (.getfield 54, 3), .inl (.iload_n 3, 1), .inl (.iaload, 1), .inl (.iadd, 1), .inl (.if_icmp .ge 19, 3), .inl (.aload_n 0, 1), .inl (.getfield 63, 3), .inl (.iload 4, 2), .inl (.iconst 1, 1), .inl (.iadd, 1), .inl (.iconst 1, 1), .inl (.iastore, 1), .inl (.iinc 4 1, 3), .inl (.goto (-31), 3)] 68 ls r rem st := (rfl)
theorem j_28_68 : mjmp k_28 K 68 ls r rem st = K 68 (mproj [0, 1, 2, 3, 4] ls) r rem st := (rfl)
theorem cge_83_19 {a b : Int} : mstep P rt sg C J X post (.if_icmp .ge 19) 83 ls (mi b :: mi a :: r) rem st nx = ((mcmp .ge a b → J 102 ls r rem st) ∧ (¬ mcmp .ge a b → nx ls r rem st)) := e_icmp rfl
theorem g_99_m31 : mstep P rt sg C J X post (.goto (-31)) 99 ls r rem st nx = J 68 ls r rem st := e_goto rfl
theorem a_28_102 {C : mCall} {K : mK} : mat P_RX7 0 sg_ k_28 [] C K post 102 ls r rem st = mblk P_RX7 0 sg_ C (mjmp k_28 K) (mexc [] K post k_28) post [.inl (.iinc 3 1, 3), .inl (.goto (-81), 3)] 102 ls r rem st := (rfl)
theorem j_28_102 : mjmp k_28 K 102 ls r rem st = K 102 (mproj [0, 1, 2, 3] ls) r rem st := (rfl)
theorem g_105_m81 : mstep P rt sg C J X post (.goto (-81)) 105 ls r rem st nx = J 24 ls r rem st := e_goto rfl
theorem a_28_108 {C : mCall} {K : mK} : mat P_RX7 0 sg_ k_28 [] C K post 108 ls r rem st = mblk P_RX7 0 sg_ C (mjmp k_28 K) (mexc [] K post k_28) post [.inl (.iconst 1, 1), .inl (.istore_n 3, 1)] 108 ls r rem st := (rfl)
theorem j_28_108 : mjmp k_28 K 108 ls r rem st = K 108 (mproj [0] ls) r rem st := (rfl)
theorem a_28_110 {C : mCall} {K : mK} : mat P_RX7 0 sg_ k_28 [] C K post 110 ls r rem st = mblk P_RX7 0 sg_ C (mjmp k_28 K) (mexc [] K post k_28) post [.inl (.iload_n 3, 1), .inl (.sipush 1000, 3), .inl (.if_icmp .gt 26, 3), .inl (.aload_n 0, 1), .inl (.getfield 63, 3), .inl (.iload_n 3, 1), .inl (.dup2, 1), .inl (.iaload, 1), .inl (.aload_n 0, 1), .inl (.getfield 63, 3), .inl (.iload_n 3, 1), .inl (.iconst 1, 1), .inl (.isub, 1), .inl (.iaload, 1), .inl (.iadd, 1), .inl (.iastore, 1), .inl (.iinc 3 1, 3), .inl (.goto (-27), 3)] 110 ls r rem st := (rfl)
theorem j_28_110 : mjmp k_28 K 110 ls r rem st = K 110 (mproj [0, 3] ls) r rem st := (rfl)
theorem cgt_114_26 {a b : Int} : mstep P rt sg C J X post (.if_icmp .gt 26) 114 ls (mi b :: mi a :: r) rem st nx = ((mcmp .gt a b → J 140 ls r rem st) ∧ (¬ mcmp .gt a b → nx ls r rem st)) := e_icmp rfl
theorem g_137_m27 : mstep P rt sg C J X post (.goto (-27)) 137 ls r rem st nx = J 110 ls r rem st := e_goto rfl
theorem a_28_140 {C : mCall} {K : mK} : mat P_RX7 0 sg_ k_28 [] C K post 140 ls r rem st = mblk P_RX7 0 sg_ C (mjmp k_28 K) (mexc [] K post k_28) post [.inl (.return_, 1)] 140 ls r rem st := (rfl)
theorem j_28_140 : mjmp k_28 K 140 ls r rem st = K 140 (mproj [] ls) r rem st := (rfl)
theorem a_29_0 {C : mCall} {K : mK} : mat P_RX7 0 sg_ k_29 [] C K post 0 ls r rem st = mblk P_RX7 0 sg_ C (mjmp k_29 K) (mexc [] K post k_29) post [.inl (.iload_n 1, 1), .inl (.ifCond .ge 7, 3), .inl (.iconst 0, 1), .inl (.goto 4, 3)] 0 ls r rem st := (rfl)
theorem j_29_0 : mjmp k_29 K 0 ls r rem st = K 0 (mproj [0, 1, 2] ls) r rem st := (rfl)
theorem zge_1_7 {a : Int} : mstep P rt sg C J X post (.ifCond .ge 7) 1 ls (mi a :: r) rem st nx = ((mcmp .ge a 0 → J 8 ls r rem st) ∧ (¬ mcmp .ge a 0 → nx ls r rem st)) := e_ifc rfl
theorem g_5_4 : mstep P rt sg C J X post (.goto 4) 5 ls r rem st nx = J 9 ls r rem st := e_goto rfl
theorem a_29_8 {C : mCall} {K : mK} : mat P_RX7 0 sg_ k_29 [] C K post 8 ls r rem st = mblk P_RX7 0 sg_ C (mjmp k_29 K) (mexc [] K post k_29) post [.inl (.iload_n 1, 1)] 8 ls r rem st := (rfl)
theorem j_29_8 : mjmp k_29 K 8 ls r rem st = K 8 (mproj [0, 1, 2] ls) r rem st := (rfl)
theorem a_29_9 {C : mCall} {K : mK} : mat P_RX7 0 sg_ k_29 [] C K post 9 ls r rem st = mblk P_RX7 0 sg_ C (mjmp k_29 K) (mexc [] K post k_29) post [.inl (.istore_n 3, 1), .inl (.iload_n 2, 1), .inl (.sipush 1000, 3), .inl (.if_icmp .le 9, 3), .inl (.sipush 1000, 3), .inl (.goto 4, 3)] 9 ls r rem st := (rfl)
theorem j_29_9 : mjmp k_29 K 9 ls r rem st = K 9 (mproj [0, 2] ls) r rem st := (rfl)
theorem cle_14_9 {a b : Int} : mstep P rt sg C J X post (.if_icmp .le 9) 14 ls (mi b :: mi a :: r) rem st nx = ((mcmp .le a b → J 23 ls r rem st) ∧ (¬ mcmp .le a b → nx ls r rem st)) := e_icmp rfl
theorem g_20_4 : mstep P rt sg C J X post (.goto 4) 20 ls r rem st nx = J 24 ls r rem st := e_goto rfl
theorem a_29_23 {C : mCall} {K : mK} : mat P_RX7 0 sg_ k_29 [] C K post 23 ls r rem st = mblk P_RX7 0 sg_ C (mjmp k_29 K) (mexc [] K post k_29) post [.inl (.iload_n 2, 1)] 23 ls r rem st := (rfl)
theorem j_29_23 : mjmp k_29 K 23 ls r rem st = K 23 (mproj [0, 2, 3] ls) r rem st := (rfl)
theorem a_29_24 {C : mCall} {K : mK} : mat P_RX7 0 sg_ k_29 [] C K post 24 ls r rem st = mblk P_RX7 0 sg_ C (mjmp k_29 K) (mexc [] K post k_29) post [.inl (.istore 4, 2), .inl (.iload 4, 2), .inl (.iload_n 3, 1), .inl (.if_icmp .le 20, 3), .inl (.aload_n 0, 1), .inl (.getfield 63, 3), .inl (.iload 4, 2), .inl (.iaload, 1), .inl (.aload_n 0, 1), .inl (.getfield 63, 3), .inl (.iload_n 3, 1), .inl (.iaload, 1), .inl (.isub, 1), .inl (.goto 4, 3)] 24 ls r rem st := (rfl)
theorem j_29_24 : mjmp k_29 K 24 ls r rem st = K 24 (mproj [0, 3] ls) r rem st := (rfl)
theorem cle_29_20 {a b : Int} : mstep P rt sg C J X post (.if_icmp .le 20) 29 ls (mi b :: mi a :: r) rem st nx = ((mcmp .le a b → J 49 ls r rem st) ∧ (¬ mcmp .le a b → nx ls r rem st)) := e_icmp rfl
theorem g_46_4 : mstep P rt sg C J X post (.goto 4) 46 ls r rem st nx = J 50 ls r rem st := e_goto rfl
theorem a_29_49 {C : mCall} {K : mK} : mat P_RX7 0 sg_ k_29 [] C K post 49 ls r rem st = mblk P_RX7 0 sg_ C (mjmp k_29 K) (mexc [] K post k_29) post [.inl (.iconst 0, 1)] 49 ls r rem st := (rfl)
theorem j_29_49 : mjmp k_29 K 49 ls r rem st = K 49 (mproj [] ls) r rem st := (rfl)
theorem a_29_50 {C : mCall} {K : mK} : mat P_RX7 0 sg_ k_29 [] C K post 50 ls r rem st = mblk P_RX7 0 sg_ C (mjmp k_29 K) (mexc [] K post k_29) post [.inl (.ireturn, 1)] 50 ls r rem st := (rfl)
theorem j_29_50 : mjmp k_29 K 50 ls r rem st = K 50 (mproj [] ls) r rem st := (rfl)
theorem a_30_0 {C : mCall} {K : mK} : mat P_RX7 0 sg_ k_30 [] C K post 0 ls r rem st = mblk P_RX7 0 sg_ C (mjmp k_30 K) (mexc [] K post k_30) post [.inl (.iload_n 0, 1), .inl (.iload_n 2, 1), .inl (.if_icmp .le 7, 3), .inl (.iload_n 0, 1), .inl (.goto 4, 3)] 0 ls r rem st := (rfl)
theorem j_30_0 : mjmp k_30 K 0 ls r rem st = K 0 (mproj [0, 1, 2, 3] ls) r rem st := (rfl)
theorem cle_2_7 {a b : Int} : mstep P rt sg C J X post (.if_icmp .le 7) 2 ls (mi b :: mi a :: r) rem st nx = ((mcmp .le a b → J 9 ls r rem st) ∧ (¬ mcmp .le a b → nx ls r rem st)) := e_icmp rfl
theorem g_6_4 : mstep P rt sg C J X post (.goto 4) 6 ls r rem st nx = J 10 ls r rem st := e_goto rfl
theorem a_30_9 {C : mCall} {K : mK} : mat P_RX7 0 sg_ k_30 [] C K post 9 ls r rem st = mblk P_RX7 0 sg_ C (mjmp k_30 K) (mexc [] K post k_30) post [.inl (.iload_n 2, 1)] 9 ls r rem st := (rfl)
theorem j_30_9 : mjmp k_30 K 9 ls r rem st = K 9 (mproj [1, 2, 3] ls) r rem st := (rfl)
theorem a_30_10 {C : mCall} {K : mK} : mat P_RX7 0 sg_ k_30 [] C K post 10 ls r rem st = mblk P_RX7 0 sg_ C (mjmp k_30 K) (mexc [] K post k_30) post [.inl (.istore 4, 2), .inl (.iload_n 1, 1), .inl (.iload_n 3, 1), .inl (.if_icmp .ge 7, 3), .inl (.iload_n 1, 1), .inl (.goto 4, 3)] 10 ls r rem st := (rfl)
theorem j_30_10 : mjmp k_30 K 10 ls r rem st = K 10 (mproj [1, 3] ls) r rem st := (rfl)
theorem cge_14_7 {a b : Int} : mstep P rt sg C J X post (.if_icmp .ge 7) 14 ls (mi b :: mi a :: r) rem st nx = ((mcmp .ge a b → J 21 ls r rem st) ∧ (¬ mcmp .ge a b → nx ls r rem st)) := e_icmp rfl
theorem g_18_4 : mstep P rt sg C J X post (.goto 4) 18 ls r rem st nx = J 22 ls r rem st := e_goto rfl
theorem a_30_21 {C : mCall} {K : mK} : mat P_RX7 0 sg_ k_30 [] C K post 21 ls r rem st = mblk P_RX7 0 sg_ C (mjmp k_30 K) (mexc [] K post k_30) post [.inl (.iload_n 3, 1)] 21 ls r rem st := (rfl)
theorem j_30_21 : mjmp k_30 K 21 ls r rem st = K 21 (mproj [3, 4] ls) r rem st := (rfl)
theorem a_30_22 {C : mCall} {K : mK} : mat P_RX7 0 sg_ k_30 [] C K post 22 ls r rem st = mblk P_RX7 0 sg_ C (mjmp k_30 K) (mexc [] K post k_30) post [.inl (.istore 5, 2), .inl (.iload 5, 2), .inl (.iload 4, 2), .inl (.if_icmp .le 11, 3), .inl (.iload 5, 2), .inl (.iload 4, 2), .inl (.isub, 1), .inl (.goto 4, 3)] 22 ls r rem st := (rfl)
theorem j_30_22 : mjmp k_30 K 22 ls r rem st = K 22 (mproj [4] ls) r rem st := (rfl)
theorem cle_28_11 {a b : Int} : mstep P rt sg C J X post (.if_icmp .le 11) 28 ls (mi b :: mi a :: r) rem st nx = ((mcmp .le a b → J 39 ls r rem st) ∧ (¬ mcmp .le a b → nx ls r rem st)) := e_icmp rfl
theorem g_36_4 : mstep P rt sg C J X post (.goto 4) 36 ls r rem st nx = J 40 ls r rem st := e_goto rfl
theorem a_30_39 {C : mCall} {K : mK} : mat P_RX7 0 sg_ k_30 [] C K post 39 ls r rem st = mblk P_RX7 0 sg_ C (mjmp k_30 K) (mexc [] K post k_30) post [.inl (.iconst 0, 1)] 39 ls r rem st := (rfl)
theorem j_30_39 : mjmp k_30 K 39 ls r rem st = K 39 (mproj [] ls) r rem st := (rfl)
theorem a_30_40 {C : mCall} {K : mK} : mat P_RX7 0 sg_ k_30 [] C K post 40 ls r rem st = mblk P_RX7 0 sg_ C (mjmp k_30 K) (mexc [] K post k_30) post [.inl (.ireturn, 1)] 40 ls r rem st := (rfl)
theorem j_30_40 : mjmp k_30 K 40 ls r rem st = K 40 (mproj [] ls) r rem st := (rfl)
theorem a_31_0 {C : mCall} {K : mK} : mat P_RX7 1 sg_ k_31 [] C K post 0 ls r rem st = mblk P_RX7 1 sg_ C (mjmp k_31 K) (mexc [] K post k_31) post [.inl (.iload_n 1, 1), .inl (.iload_n 3, 1), .inl (.isub, 1), .inl (.iconst 1, 1), .inl (.iadd, 1), .inl (.istore 5, 2)] 0 ls r rem st := (rfl)
theorem j_31_0 : mjmp k_31 K 0 ls r rem st = K 0 (mproj [0, 1, 2, 3, 4] ls) r rem st := (rfl)
theorem a_31_7 {C : mCall} {K : mK} : mat P_RX7 1 sg_ k_31 [] C K post 7 ls r rem st = mblk P_RX7 1 sg_ C (mjmp k_31 K) (mexc [] K post k_31) post [.inl (.iload 5, 2), .inl (.iload_n 1, 1), .inl (.iload_n 2, 1), .inl (.iadd, 1), .inl (.if_icmp .ge 40, 3), .inl (.aload_n 0, 1), .inl (.iload 5, 2), .inl (.iload 5, 2), .inl (.iload_n 3, 1), .inl (.iadd, 1), .inl (.invokevirtual 147, 3), .inl (.iload 5, 2), .inl (.iload 5, 2), .inl (.iload_n 3, 1), .inl (.iadd, 1), .inl (.iload_n 1, 1), .inl (.iload_n 1, 1), .inl (.iload_n 2, 1), .inl (.iadd, 1), .inl (.invokestatic 151, 3), .inl (.iadd, 1), .inl (.iload 4, 2), .inl (.if_icmp .le 5, 3), .inl (.iconst 1, 1), .inl (.ireturn, 1)] 7 ls r rem st := (rfl)
theorem j_31_7 : mjmp k_31 K 7 ls r rem st = K 7 (mproj [0, 1, 2, 3, 4, 5] ls) r rem st := (rfl)
theorem cge_12_40 {a b : Int} : mstep P rt sg C J X post (.if_icmp .ge 40) 12 ls (mi b :: mi a :: r) rem st nx = ((mcmp .ge a b → J 52 ls r rem st) ∧ (¬ mcmp .ge a b → nx ls r rem st)) := e_icmp rfl
theorem v_RX7_147_30 {a1 a2 : mV} {i : Nat} : mstep P_RX7 rt sg_ C J X post (.invokevirtual 147) pc ls (a2 :: a1 :: mr 30 i :: r) rem st nx = cond (mroom r) (0 ≤ rem.1 ∧ 0 ≤ rem.2 ∧ C 29 [mr 30 i, a1, a2] st (mck X pc ls r (rem.1 - 0, rem.2 - 0) nx)) False := (rfl)
theorem v_RX7_151 {a0 a1 a2 a3 : mV} : mstep P_RX7 rt sg_ C J X post (.invokestatic 151) pc ls (a3 :: a2 :: a1 :: a0 :: r) rem st nx = cond (mroom r) (0 ≤ rem.1 ∧ 0 ≤ rem.2 ∧ C 30 [a0, a1, a2, a3] st (mck X pc ls r (rem.1 - 0, rem.2 - 0) nx)) False := (rfl)
theorem cle_41_5 {a b : Int} : mstep P rt sg C J X post (.if_icmp .le 5) 41 ls (mi b :: mi a :: r) rem st nx = ((mcmp .le a b → J 46 ls r rem st) ∧ (¬ mcmp .le a b → nx ls r rem st)) := e_icmp rfl
theorem a_31_46 {C : mCall} {K : mK} : mat P_RX7 1 sg_ k_31 [] C K post 46 ls r rem st = mblk P_RX7 1 sg_ C (mjmp k_31 K) (mexc [] K post k_31) post [.inl (.iinc 5 1, 3), .inl (.goto (-42), 3)] 46 ls r rem st := (rfl)
theorem j_31_46 : mjmp k_31 K 46 ls r rem st = K 46 (mproj [0, 1, 2, 3, 4, 5] ls) r rem st := (rfl)
theorem g_49_m42 : mstep P rt sg C J X post (.goto (-42)) 49 ls r rem st nx = J 7 ls r rem st := e_goto rfl
theorem a_31_52 {C : mCall} {K : mK} : mat P_RX7 1 sg_ k_31 [] C K post 52 ls r rem st = mblk P_RX7 1 sg_ C (mjmp k_31 K) (mexc [] K post k_31) post [.inl (.iconst 0, 1), .inl (.ireturn, 1)] 52 ls r rem st := (rfl)
theorem j_31_52 : mjmp k_31 K 52 ls r rem st = K 52 (mproj [] ls) r rem st := (rfl)
theorem a_32_0 {C : mCall} {K : mK} : mat P_RX7 0 sg_ k_32 [] C K post 0 ls r rem st = mblk P_RX7 0 sg_ C (mjmp k_32 K) (mexc [] K post k_32) post [.inl (.aload_n 0, 1), .inl (.iload_n 1, 1), .inl (.iload_n 1, 1), .inl (.iload_n 2, 1), .inl (.iadd, 1), .inl (.invokevirtual 147, 3), .inl (.ifCond .le 5, 3), .inl (.iconst 4, 1), .inl (.ireturn, 1)] 0 ls r rem st := (rfl)
theorem j_32_0 : mjmp k_32 K 0 ls r rem st = K 0 (mproj [0, 1, 2] ls) r rem st := (rfl)
theorem zle_8_5 {a : Int} : mstep P rt sg C J X post (.ifCond .le 5) 8 ls (mi a :: r) rem st nx = ((mcmp .le a 0 → J 13 ls r rem st) ∧ (¬ mcmp .le a 0 → nx ls r rem st)) := e_ifc rfl
theorem a_32_13 {C : mCall} {K : mK} : mat P_RX7 0 sg_ k_32 [] C K post 13 ls r rem st = mblk P_RX7 0 sg_ C (mjmp k_32 K) (mexc [] K post k_32) post [.inl (.aload_n 0, 1), .inl (.iload_n 1, 1), .inl (.iload_n 2, 1), .inl (.bipush 24, 2), .inl (.aload_n 0, 1), .inl (.getfield 7, 3), .inl (.invokevirtual 155, 3), .inl (.ifCond .eq 5, 3), .inl (.iconst 5, 1), .inl (.ireturn, 1)] 13 ls r rem st := (rfl)
theorem j_32_13 : mjmp k_32 K 13 ls r rem st = K 13 (mproj [0, 1, 2] ls) r rem st := (rfl)
theorem v_RX7_155_30 {a1 a2 a3 a4 : mV} {i : Nat} : mstep P_RX7 rt sg_ C J X post (.invokevirtual 155) pc ls (a4 :: a3 :: a2 :: a1 :: mr 30 i :: r) rem st nx = cond (mroom r) (0 ≤ rem.1 ∧ 0 ≤ rem.2 ∧ C 31 [mr 30 i, a1, a2, a3, a4] st (mck X pc ls r (rem.1 - 0, rem.2 - 0) nx)) False := (rfl)
theorem zeq_25_5 {a : Int} : mstep P rt sg C J X post (.ifCond .eq 5) 25 ls (mi a :: r) rem st nx = ((mcmp .eq a 0 → J 30 ls r rem st) ∧ (¬ mcmp .eq a 0 → nx ls r rem st)) := e_ifc rfl
theorem a_32_30 {C : mCall} {K : mK} : mat P_RX7 0 sg_ k_32 [] C K post 30 ls r rem st = mblk P_RX7 0 sg_ C (mjmp k_32 K) (mexc [] K post k_32) post [.inl (.aload_n 0, 1), .inl (.iload_n 1, 1), .inl (.iload_n 2, 1), .inl (.sipush 168, 3), .inl (.aload_n 0, 1), .inl (.getfield 13, 3), .inl (.invokevirtual 155, 3), .inl (.ifCond .eq 8, 3), .inl (.bipush 6, 2), .inl (.goto 4, 3)] 30 ls r rem st := (rfl)
theorem j_32_30 : mjmp k_32 K 30 ls r rem st = K 30 (mproj [0, 1, 2] ls) r rem st := (rfl)
theorem zeq_43_8 {a : Int} : mstep P rt sg C J X post (.ifCond .eq 8) 43 ls (mi a :: r) rem st nx = ((mcmp .eq a 0 → J 51 ls r rem st) ∧ (¬ mcmp .eq a 0 → nx ls r rem st)) := e_ifc rfl
theorem g_48_4 : mstep P rt sg C J X post (.goto 4) 48 ls r rem st nx = J 52 ls r rem st := e_goto rfl
theorem a_32_51 {C : mCall} {K : mK} : mat P_RX7 0 sg_ k_32 [] C K post 51 ls r rem st = mblk P_RX7 0 sg_ C (mjmp k_32 K) (mexc [] K post k_32) post [.inl (.iconst 0, 1)] 51 ls r rem st := (rfl)
theorem j_32_51 : mjmp k_32 K 51 ls r rem st = K 51 (mproj [] ls) r rem st := (rfl)
theorem a_32_52 {C : mCall} {K : mK} : mat P_RX7 0 sg_ k_32 [] C K post 52 ls r rem st = mblk P_RX7 0 sg_ C (mjmp k_32 K) (mexc [] K post k_32) post [.inl (.ireturn, 1)] 52 ls r rem st := (rfl)
theorem j_32_52 : mjmp k_32 K 52 ls r rem st = K 52 (mproj [] ls) r rem st := (rfl)
theorem a_33_0 {C : mCall} {K : mK} : mat P_RX7 0 sg_ k_33 [] C K post 0 ls r rem st = mblk P_RX7 0 sg_ C (mjmp k_33 K) (mexc [] K post k_33) post [.inl (.iconst 4, 1), .inl (.iload_n 3, 1), .inl (.imul, 1), .inl (.aload_n 0, 1), .inl (.getfield 45, 3), .inl (.iconst 3, 1), .inl (.aload_n 0, 1), .inl (.getfield 48, 3), .inl (.iload_n 1, 1), .inl (.iaload, 1), .inl (.imul, 1), .inl (.iload_n 2, 1), .inl (.iadd, 1), .inl (.iaload, 1), .inl (.iadd, 1), .inl (.istore 4, 2), .inl (.aload_n 0, 1), .inl (.getfield 16, 3), .inl (.iload 4, 2), .inl (.baload, 1), .inl (.ifCond .eq 33, 3), .inl (.aload_n 0, 1), .inl (.getfield 29, 3), .inl (.iload 4, 2), .inl (.iaload, 1), .inl (.aload_n 0, 1), .inl (.iload_n 1, 1), .inl (.invokevirtual 135, 3), .inl (.if_icmp .gt 18, 3), .inl (.aload_n 0, 1), .inl (.getfield 33, 3), .inl (.iload 4, 2), .inl (.iaload, 1), .inl (.aload_n 0, 1), .inl (.iload_n 1, 1), .inl (.invokevirtual 138, 3), .inl (.if_icmp .ge 5, 3)] 0 ls r rem st := (rfl)
theorem j_33_0 : mjmp k_33 K 0 ls r rem st = K 0 (mproj [0, 1, 2, 3] ls) r rem st := (rfl)
theorem zeq_28_33 {a : Int} : mstep P rt sg C J X post (.ifCond .eq 33) 28 ls (mi a :: r) rem st nx = ((mcmp .eq a 0 → J 61 ls r rem st) ∧ (¬ mcmp .eq a 0 → nx ls r rem st)) := e_ifc rfl
theorem cgt_43_18 {a b : Int} : mstep P rt sg C J X post (.if_icmp .gt 18) 43 ls (mi b :: mi a :: r) rem st nx = ((mcmp .gt a b → J 61 ls r rem st) ∧ (¬ mcmp .gt a b → nx ls r rem st)) := e_icmp rfl
theorem cge_58_5 {a b : Int} : mstep P rt sg C J X post (.if_icmp .ge 5) 58 ls (mi b :: mi a :: r) rem st nx = ((mcmp .ge a b → J 63 ls r rem st) ∧ (¬ mcmp .ge a b → nx ls r rem st)) := e_icmp rfl
theorem a_33_61 {C : mCall} {K : mK} : mat P_RX7 0 sg_ k_33 [] C K post 61 ls r rem st = mblk P_RX7 0 sg_ C (mjmp k_33 K) (mexc [] K post k_33) post [.inl (.iconst 1, 1), .inl (.ireturn, 1)] 61 ls r rem st := (rfl)
theorem j_33_61 : mjmp k_33 K 61 ls r rem st = K 61 (mproj [] ls) r rem st := (rfl)
theorem a_33_63 {C : mCall} {K : mK} : mat P_RX7 0 sg_ k_33 [] C K post 63 ls r rem st = mblk P_RX7 0 sg_ C (mjmp k_33 K) (mexc [] K post k_33) post [.inl (.aload_n 0, 1), .inl (.iload_n 1, 1), .inl (.invokevirtual 135, 3), .inl (.istore 5, 2)] 63 ls r rem st := (rfl)
theorem j_33_63 : mjmp k_33 K 63 ls r rem st = K 63 (mproj [0, 1, 3] ls) r rem st := (rfl)
theorem a_33_70 {C : mCall} {K : mK} : mat P_RX7 0 sg_ k_33 [] C K post 70 ls r rem st = mblk P_RX7 0 sg_ C (mjmp k_33 K) (mexc [] K post k_33) post [.inl (.iload 5, 2), .inl (.aload_n 0, 1), .inl (.iload_n 1, 1), .inl (.invokevirtual 138, 3), .inl (.if_icmp .gt 26, 3), .inl (.aload_n 0, 1), .inl (.getfield 20, 3), .inl (.bipush 42, 2), .inl (.iload_n 3, 1), .inl (.imul, 1), .inl (.iload 5, 2), .inl (.iadd, 1), .inl (.baload, 1), .inl (.ifCond .eq 5, 3), .inl (.iconst 2, 1), .inl (.ireturn, 1)] 70 ls r rem st := (rfl)
theorem j_33_70 : mjmp k_33 K 70 ls r rem st = K 70 (mproj [0, 1, 3, 5] ls) r rem st := (rfl)
theorem cgt_77_26 {a b : Int} : mstep P rt sg C J X post (.if_icmp .gt 26) 77 ls (mi b :: mi a :: r) rem st nx = ((mcmp .gt a b → J 103 ls r rem st) ∧ (¬ mcmp .gt a b → nx ls r rem st)) := e_icmp rfl
theorem zeq_92_5 {a : Int} : mstep P rt sg C J X post (.ifCond .eq 5) 92 ls (mi a :: r) rem st nx = ((mcmp .eq a 0 → J 97 ls r rem st) ∧ (¬ mcmp .eq a 0 → nx ls r rem st)) := e_ifc rfl
theorem a_33_97 {C : mCall} {K : mK} : mat P_RX7 0 sg_ k_33 [] C K post 97 ls r rem st = mblk P_RX7 0 sg_ C (mjmp k_33 K) (mexc [] K post k_33) post [.inl (.iinc 5 1, 3), .inl (.goto (-30), 3)] 97 ls r rem st := (rfl)
theorem j_33_97 : mjmp k_33 K 97 ls r rem st = K 97 (mproj [0, 1, 3, 5] ls) r rem st := (rfl)
theorem g_100_m30 : mstep P rt sg C J X post (.goto (-30)) 100 ls r rem st nx = J 70 ls r rem st := e_goto rfl
theorem a_33_103 {C : mCall} {K : mK} : mat P_RX7 0 sg_ k_33 [] C K post 103 ls r rem st = mblk P_RX7 0 sg_ C (mjmp k_33 K) (mexc [] K post k_33) post [.inl (.aload_n 0, 1), .inl (.iload_n 1, 1), .inl (.invokevirtual 135, 3), .inl (.istore 5, 2)] 103 ls r rem st := (rfl)
theorem j_33_103 : mjmp k_33 K 103 ls r rem st = K 103 (mproj [0, 1, 3] ls) r rem st := (rfl)
theorem a_33_110 {C : mCall} {K : mK} : mat P_RX7 0 sg_ k_33 [] C K post 110 ls r rem st = mblk P_RX7 0 sg_ C (mjmp k_33 K) (mexc [] K post k_33) post [.inl (.iload 5, 2), .inl (.aload_n 0, 1), .inl (.iload_n 1, 1), .inl (.invokevirtual 138, 3), .inl (.if_icmp .gt 26, 3), .inl (.aload_n 0, 1), .inl (.getfield 23, 3), .inl (.bipush 42, 2), .inl (.iload_n 3, 1), .inl (.imul, 1), .inl (.iload 5, 2), .inl (.iadd, 1), .inl (.baload, 1), .inl (.ifCond .eq 5, 3), .inl (.iconst 3, 1), .inl (.ireturn, 1)] 110 ls r rem st := (rfl)
theorem j_33_110 : mjmp k_33 K 110 ls r rem st = K 110 (mproj [0, 1, 3, 5] ls) r rem st := (rfl)
theorem cgt_117_26 {a b : Int} : mstep P rt sg C J X post (.if_icmp .gt 26) 117 ls (mi b :: mi a :: r) rem st nx = ((mcmp .gt a b → J 143 ls r rem st) ∧ (¬ mcmp .gt a b → nx ls r rem st)) := e_icmp rfl
theorem zeq_132_5 {a : Int} : mstep P rt sg C J X post (.ifCond .eq 5) 132 ls (mi a :: r) rem st nx = ((mcmp .eq a 0 → J 137 ls r rem st) ∧ (¬ mcmp .eq a 0 → nx ls r rem st)) := e_ifc rfl
theorem a_33_137 {C : mCall} {K : mK} : mat P_RX7 0 sg_ k_33 [] C K post 137 ls r rem st = mblk P_RX7 0 sg_ C (mjmp k_33 K) (mexc [] K post k_33) post [.inl (.iinc 5 1, 3), .inl (.goto (-30), 3)] 137 ls r rem st := (rfl)
theorem j_33_137 : mjmp k_33 K 137 ls r rem st = K 137 (mproj [0, 1, 3, 5] ls) r rem st := (rfl)
theorem g_140_m30 : mstep P rt sg C J X post (.goto (-30)) 140 ls r rem st nx = J 110 ls r rem st := e_goto rfl
theorem a_33_143 {C : mCall} {K : mK} : mat P_RX7 0 sg_ k_33 [] C K post 143 ls r rem st = mblk P_RX7 0 sg_ C (mjmp k_33 K) (mexc [] K post k_33) post [.inl (.aload_n 0, 1), .inl (.iload_n 3, 1), .inl (.iload_n 1, 1), .inl (.invokevirtual 159, 3), .inl (.aload_n 0, 1), .inl (.aload_n 0, 1), .inl (.getfield 51, 3), .inl (.iload_n 1, 1), .inl (.iaload, 1), .inl (.aload_n 0, 1), .inl (.getfield 54, 3), .inl (.iload_n 1, 1), .inl (.iaload, 1), .inl (.invokevirtual 163, 3), .inl (.ireturn, 1)] 143 ls r rem st := (rfl)
theorem j_33_143 : mjmp k_33 K 143 ls r rem st = K 143 (mproj [0, 1, 3] ls) r rem st := (rfl)
theorem v_RX7_159_30 {a1 a2 : mV} {i : Nat} : mstep P_RX7 rt sg_ C J X post (.invokevirtual 159) pc ls (a2 :: a1 :: mr 30 i :: r) rem st nx = cond (mroom r) (0 ≤ rem.1 ∧ 0 ≤ rem.2 ∧ C 28 [mr 30 i, a1, a2] st (mck X pc ls r (rem.1 - 0, rem.2 - 0) nx)) False := (rfl)
theorem v_RX7_163_30 {a1 a2 : mV} {i : Nat} : mstep P_RX7 rt sg_ C J X post (.invokevirtual 163) pc ls (a2 :: a1 :: mr 30 i :: r) rem st nx = cond (mroom r) (0 ≤ rem.1 ∧ 0 ≤ rem.2 ∧ C 32 [mr 30 i, a1, a2] st (mck X pc ls r (rem.1 - 0, rem.2 - 0) nx)) False := (rfl)
theorem a_34_0 {C : mCall} {K : mK} : mat P_RX7 1 sg_ k_34 [] C K post 0 ls r rem st = mblk P_RX7 1 sg_ C (mjmp k_34 K) (mexc [] K post k_34) post [.inl (.iconst 0, 1), .inl (.istore_n 2, 1)] 0 ls r rem st := (rfl)
theorem j_34_0 : mjmp k_34 K 0 ls r rem st = K 0 (mproj [0, 1] ls) r rem st := (rfl)
theorem a_34_2 {C : mCall} {K : mK} : mat P_RX7 1 sg_ k_34 [] C K post 2 ls r rem st = mblk P_RX7 1 sg_ C (mjmp k_34 K) (mexc [] K post k_34) post [.inl (.iload_n 2, 1), .inl (.aload_n 0, 1), .inl (.getfield 42, 3), .inl (.aload_n 0, 1), .inl (.getfield 48, 3), .inl (.iload_n 1, 1), .inl (.iaload, 1), .inl (.iaload, 1), .inl (.if_icmp .ge 37, 3), .inl (.aload_n 0, 1), .inl (.getfield 60, 3), .inl (.iconst 3, 1), .inl (.iload_n 1, 1), .inl (.imul, 1), .inl (.iload_n 2, 1), .inl (.iadd, 1), .inl (.iaload, 1), .inl (.istore_n 3, 1), .inl (.iload_n 3, 1), .inl (.iconst (-1), 1), .inl (.if_icmp .eq 13, 3), .inl (.aload_n 0, 1), .inl (.iload_n 1, 1), .inl (.iload_n 2, 1), .inl (.iload_n 3, 1), .inl (.invokevirtual 166, 3), .inl (.ifCond .eq 5, 3)] 2 ls r rem st := (rfl)
theorem j_34_2 : mjmp k_34 K 2 ls r rem st = K 2 (mproj [0, 1, 2] ls) r rem st := (rfl)
theorem cge_14_37 {a b : Int} : mstep P rt sg C J X post (.if_icmp .ge 37) 14 ls (mi b :: mi a :: r) rem st nx = ((mcmp .ge a b → J 51 ls r rem st) ∧ (¬ mcmp .ge a b → nx ls r rem st)) := e_icmp rfl
theorem ceq_30_13 {a b : Int} : mstep P rt sg C J X post (.if_icmp .eq 13) 30 ls (mi b :: mi a :: r) rem st nx = ((mcmp .eq a b → J 43 ls r rem st) ∧ (¬ mcmp .eq a b → nx ls r rem st)) := e_icmp rfl
theorem v_RX7_166_30 {a1 a2 a3 : mV} {i : Nat} : mstep P_RX7 rt sg_ C J X post (.invokevirtual 166) pc ls (a3 :: a2 :: a1 :: mr 30 i :: r) rem st nx = cond (mroom r) (0 ≤ rem.1 ∧ 0 ≤ rem.2 ∧ C 33 [mr 30 i, a1, a2, a3] st (mck X pc ls r (rem.1 - 0, rem.2 - 0) nx)) False := (rfl)
theorem zeq_40_5 {a : Int} : mstep P rt sg C J X post (.ifCond .eq 5) 40 ls (mi a :: r) rem st nx = ((mcmp .eq a 0 → J 45 ls r rem st) ∧ (¬ mcmp .eq a 0 → nx ls r rem st)) := e_ifc rfl
theorem a_34_43 {C : mCall} {K : mK} : mat P_RX7 1 sg_ k_34 [] C K post 43 ls r rem st = mblk P_RX7 1 sg_ C (mjmp k_34 K) (mexc [] K post k_34) post [.inl (.iconst 0, 1), .inl (.ireturn, 1)] 43 ls r rem st := (rfl)
theorem j_34_43 : mjmp k_34 K 43 ls r rem st = K 43 (mproj [] ls) r rem st := (rfl)
theorem a_34_45 {C : mCall} {K : mK} : mat P_RX7 1 sg_ k_34 [] C K post 45 ls r rem st = mblk P_RX7 1 sg_ C (mjmp k_34 K) (mexc [] K post k_34) post [.inl (.iinc 2 1, 3), .inl (.goto (-46), 3)] 45 ls r rem st := (rfl)
theorem j_34_45 : mjmp k_34 K 45 ls r rem st = K 45 (mproj [0, 1, 2] ls) r rem st := (rfl)
theorem g_48_m46 : mstep P rt sg C J X post (.goto (-46)) 48 ls r rem st nx = J 2 ls r rem st := e_goto rfl
theorem a_34_51 {C : mCall} {K : mK} : mat P_RX7 1 sg_ k_34 [] C K post 51 ls r rem st = mblk P_RX7 1 sg_ C (mjmp k_34 K) (mexc [] K post k_34) post [.inl (.iconst 1, 1), .inl (.ireturn, 1)] 51 ls r rem st := (rfl)
theorem j_34_51 : mjmp k_34 K 51 ls r rem st = K 51 (mproj [] ls) r rem st := (rfl)
theorem a_35_0 {C : mCall} {K : mK} : mat P_RX7 0 sg_ k_35 [] C K post 0 ls r rem st = mblk P_RX7 0 sg_ C (mjmp k_35 K) (mexc [] K post k_35) post [.inl (.iconst 0, 1), .inl (.istore_n 2, 1), .inl (.aload_n 0, 1), .inl (.getfield 57, 3), .inl (.iload_n 1, 1), .inl (.bipush 99, 2), .inl (.iastore, 1), .inl (.iconst 0, 1), .inl (.istore_n 3, 1)] 0 ls r rem st := (rfl)
theorem j_35_0 : mjmp k_35 K 0 ls r rem st = K 0 (mproj [0, 1] ls) r rem st := (rfl)
theorem a_35_12 {C : mCall} {K : mK} : mat P_RX7 0 sg_ k_35 [] C K post 12 ls r rem st = mblk P_RX7 0 sg_ C (mjmp k_35 K) (mexc [] K post k_35) post [.inl (.iload_n 3, 1), .inl (.iconst 3, 1), .inl (.if_icmp .ge 42, 3), .inl (.iload_n 2, 1), .inl (.aload_n 0, 1), .inl (.getfield 60, 3), .inl (.iconst 3, 1), .inl (.iload_n 1, 1), .inl (.imul, 1), .inl (.iload_n 3, 1), .inl (.iadd, 1), .inl (.iaload, 1), .inl (.iconst (-1), 1), .inl (.if_icmp .ne 7, 3), .inl (.iconst 0, 1), .inl (.goto 4, 3)] 12 ls r rem st := (rfl)
theorem j_35_12 : mjmp k_35 K 12 ls r rem st = K 12 (mproj [0, 1, 2, 3] ls) r rem st := (rfl)
theorem cge_14_42 {a b : Int} : mstep P rt sg C J X post (.if_icmp .ge 42) 14 ls (mi b :: mi a :: r) rem st nx = ((mcmp .ge a b → J 56 ls r rem st) ∧ (¬ mcmp .ge a b → nx ls r rem st)) := e_icmp rfl
theorem cne_29_7 {a b : Int} : mstep P rt sg C J X post (.if_icmp .ne 7) 29 ls (mi b :: mi a :: r) rem st nx = ((mcmp .ne a b → J 36 ls r rem st) ∧ (¬ mcmp .ne a b → nx ls r rem st)) := e_icmp rfl
theorem g_33_4 : mstep P rt sg C J X post (.goto 4) 33 ls r rem st nx = J 37 ls r rem st := e_goto rfl
theorem a_35_36 {C : mCall} {K : mK} : mat P_RX7 0 sg_ k_35 [] C K post 36 ls r rem st = mblk P_RX7 0 sg_ C (mjmp k_35 K) (mexc [] K post k_35) post [.inl (.iconst 1, 1)] 36 ls r rem st := (rfl)
theorem j_35_36 : mjmp k_35 K 36 ls r rem st = K 36 (mproj [0, 1, 3] ls) r rem st := (rfl)
theorem a_35_37 {C : mCall} {K : mK} : mat P_RX7 0 sg_ k_35 [] C K post 37 ls r rem st = mblk P_RX7 0 sg_ C (mjmp k_35 K) (mexc [] K post k_35) post [.inl (.iadd, 1), .inl (.istore_n 2, 1), .inl (.aload_n 0, 1), .inl (.getfield 60, 3), .inl (.iconst 3, 1), .inl (.iload_n 1, 1), .inl (.imul, 1), .inl (.iload_n 3, 1), .inl (.iadd, 1), .inl (.iconst (-1), 1), .inl (.iastore, 1), .inl (.iinc 3 1, 3), .inl (.goto (-41), 3)] 37 ls r rem st := (rfl)
theorem j_35_37 : mjmp k_35 K 37 ls r rem st = K 37 (mproj [0, 1, 3] ls) r rem st := (rfl)
theorem g_53_m41 : mstep P rt sg C J X post (.goto (-41)) 53 ls r rem st nx = J 12 ls r rem st := e_goto rfl
theorem a_35_56 {C : mCall} {K : mK} : mat P_RX7 0 sg_ k_35 [] C K post 56 ls r rem st = mblk P_RX7 0 sg_ C (mjmp k_35 K) (mexc [] K post k_35) post [.inl (.iload_n 2, 1), .inl (.ireturn, 1)] 56 ls r rem st := (rfl)
theorem j_35_56 : mjmp k_35 K 56 ls r rem st = K 56 (mproj [2] ls) r rem st := (rfl)
theorem a_36_0 {C : mCall} {K : mK} : mat P_RX7 1 sg_ k_36 [] C K post 0 ls r rem st = mblk P_RX7 1 sg_ C (mjmp k_36 K) (mexc [] K post k_36) post [.inl (.iload_n 2, 1), .inl (.iconst 0, 1), .inl (.aload_n 0, 1), .inl (.getfield 42, 3), .inl (.aload_n 0, 1), .inl (.getfield 48, 3), .inl (.iload_n 1, 1), .inl (.iaload, 1), .inl (.iaload, 1), .inl (.iconst 1, 1), .inl (.isub, 1), .inl (.invokestatic 99, 3), .inl (.ireturn, 1)] 0 ls r rem st := (rfl)
theorem j_36_0 : mjmp k_36 K 0 ls r rem st = K 0 (mproj [0, 1, 2] ls) r rem st := (rfl)
theorem a_37_0 {C : mCall} {K : mK} : mat P_RX7 0 sg_ k_37 [] C K post 0 ls r rem st = mblk P_RX7 0 sg_ C (mjmp k_37 K) (mexc [] K post k_37) post [.inl (.aload_n 0, 1), .inl (.iload_n 1, 1), .inl (.invokevirtual 170, 3), .inl (.ifCond .ne 9, 3), .inl (.aload_n 0, 1), .inl (.iconst 1, 1), .inl (.invokevirtual 109, 3), .inl (.ireturn, 1)] 0 ls r rem st := (rfl)
theorem j_37_0 : mjmp k_37 K 0 ls r rem st = K 0 (mproj [0, 1, 2, 3] ls) r rem st := (rfl)
theorem v_RX7_170_30 {a1 : mV} {i : Nat} : mstep P_RX7 rt sg_ C J X post (.invokevirtual 170) pc ls (a1 :: mr 30 i :: r) rem st nx = cond (mroom r) (0 ≤ rem.1 ∧ 0 ≤ rem.2 ∧ C 5 [mr 30 i, a1] st (mck X pc ls r (rem.1 - 0, rem.2 - 0) nx)) False := (rfl)
theorem a_37_14 {C : mCall} {K : mK} : mat P_RX7 0 sg_ k_37 [] C K post 14 ls r rem st = mblk P_RX7 0 sg_ C (mjmp k_37 K) (mexc [] K post k_37) post [.inl (.aload_n 0, 1), .inl (.iload_n 1, 1), .inl (.iload_n 2, 1), .inl (.invokevirtual 173, 3), .inl (.ifCond .eq 11, 3), .inl (.aload_n 0, 1), .inl (.iload_n 3, 1), .inl (.invokevirtual 128, 3), .inl (.ifCond .ne 9, 3)] 14 ls r rem st := (rfl)
theorem j_37_14 : mjmp k_37 K 14 ls r rem st = K 14 (mproj [0, 1, 2, 3] ls) r rem st := (rfl)
theorem v_RX7_173_30 {a1 a2 : mV} {i : Nat} : mstep P_RX7 rt sg_ C J X post (.invokevirtual 173) pc ls (a2 :: a1 :: mr 30 i :: r) rem st nx = cond (mroom r) (0 ≤ rem.1 ∧ 0 ≤ rem.2 ∧ C 36 [mr 30 i, a1, a2] st (mck X pc ls r (rem.1 - 0, rem.2 - 0) nx)) False := (rfl)
theorem zeq_20_11 {a : Int} : mstep P rt sg C J X post (.ifCond .eq 11) 20 ls (mi a :: r) rem st nx = ((mcmp .eq a 0 → J 31 ls r rem st) ∧ (¬ mcmp .eq a 0 → nx ls r rem st)) := e_ifc rfl
theorem zne_28_9 {a : Int} : mstep P rt sg C J X post (.ifCond .ne 9) 28 ls (mi a :: r) rem st nx = ((mcmp .ne a 0 → J 37 ls r rem st) ∧ (¬ mcmp .ne a 0 → nx ls r rem st)) := e_ifc rfl
theorem a_37_31 {C : mCall} {K : mK} : mat P_RX7 0 sg_ k_37 [] C K post 31 ls r rem st = mblk P_RX7 0 sg_ C (mjmp k_37 K) (mexc [] K post k_37) post [.inl (.aload_n 0, 1), .inl (.iconst 2, 1), .inl (.invokevirtual 109, 3), .inl (.ireturn, 1)] 31 ls r rem st := (rfl)
theorem j_37_31 : mjmp k_37 K 31 ls r rem st = K 31 (mproj [0] ls) r rem st := (rfl)
theorem a_37_37 {C : mCall} {K : mK} : mat P_RX7 0 sg_ k_37 [] C K post 37 ls r rem st = mblk P_RX7 0 sg_ C (mjmp k_37 K) (mexc [] K post k_37) post [.inl (.aload_n 0, 1), .inl (.getfield 57, 3), .inl (.iload_n 1, 1), .inl (.iaload, 1), .inl (.bipush 112, 2), .inl (.if_icmp .eq 9, 3), .inl (.aload_n 0, 1), .inl (.iconst 3, 1), .inl (.invokevirtual 109, 3), .inl (.ireturn, 1)] 37 ls r rem st := (rfl)
theorem j_37_37 : mjmp k_37 K 37 ls r rem st = K 37 (mproj [0, 1, 2, 3] ls) r rem st := (rfl)
theorem ceq_45_9 {a b : Int} : mstep P rt sg C J X post (.if_icmp .eq 9) 45 ls (mi b :: mi a :: r) rem st nx = ((mcmp .eq a b → J 54 ls r rem st) ∧ (¬ mcmp .eq a b → nx ls r rem st)) := e_icmp rfl
theorem a_37_54 {C : mCall} {K : mK} : mat P_RX7 0 sg_ k_37 [] C K post 54 ls r rem st = mblk P_RX7 0 sg_ C (mjmp k_37 K) (mexc [] K post k_37) post [.inl (.aload_n 0, 1), .inl (.iload_n 1, 1), .inl (.iload_n 3, 1), .inl (.invokevirtual 131, 3), .inl (.ifCond .eq 9, 3), .inl (.aload_n 0, 1), .inl (.iconst 4, 1), .inl (.invokevirtual 109, 3), .inl (.ireturn, 1)] 54 ls r rem st := (rfl)
theorem j_37_54 : mjmp k_37 K 54 ls r rem st = K 54 (mproj [0, 1, 2, 3] ls) r rem st := (rfl)
theorem zeq_60_9 {a : Int} : mstep P rt sg C J X post (.ifCond .eq 9) 60 ls (mi a :: r) rem st nx = ((mcmp .eq a 0 → J 69 ls r rem st) ∧ (¬ mcmp .eq a 0 → nx ls r rem st)) := e_ifc rfl
theorem a_37_69 {C : mCall} {K : mK} : mat P_RX7 0 sg_ k_37 [] C K post 69 ls r rem st = mblk P_RX7 0 sg_ C (mjmp k_37 K) (mexc [] K post k_37) post [.inl (.aload_n 0, 1), .inl (.iload_n 1, 1), .inl (.iload_n 2, 1), .inl (.iload_n 3, 1), .inl (.invokevirtual 166, 3), .inl (.ifCond .eq 9, 3), .inl (.aload_n 0, 1), .inl (.iconst 5, 1), .inl (.invokevirtual 109, 3), .inl (.ireturn, 1)] 69 ls r rem st := (rfl)
theorem j_37_69 : mjmp k_37 K 69 ls r rem st = K 69 (mproj [0, 1, 2, 3] ls) r rem st := (rfl)
theorem zeq_76_9 {a : Int} : mstep P rt sg C J X post (.ifCond .eq 9) 76 ls (mi a :: r) rem st nx = ((mcmp .eq a 0 → J 85 ls r rem st) ∧ (¬ mcmp .eq a 0 → nx ls r rem st)) := e_ifc rfl
theorem a_37_85 {C : mCall} {K : mK} : mat P_RX7 0 sg_ k_37 [] C K post 85 ls r rem st = mblk P_RX7 0 sg_ C (mjmp k_37 K) (mexc [] K post k_37) post [.inl (.aload_n 0, 1), .inl (.iconst 0, 1), .inl (.putfield 93, 3), .inl (.aload_n 0, 1), .inl (.getfield 60, 3), .inl (.iconst 3, 1), .inl (.iload_n 1, 1), .inl (.imul, 1), .inl (.iload_n 2, 1), .inl (.iadd, 1), .inl (.iaload, 1), .inl (.istore 4, 2), .inl (.aload_n 0, 1), .inl (.getfield 60, 3), .inl (.iconst 3, 1), .inl (.iload_n 1, 1), .inl (.imul, 1), .inl (.iload_n 2, 1), .inl (.iadd, 1), .inl (.iload_n 3, 1), .inl (.iastore, 1), .inl (.iload 4, 2), .inl (.ireturn, 1)] 85 ls r rem st := (rfl)
theorem j_37_85 : mjmp k_37 K 85 ls r rem st = K 85 (mproj [0, 1, 2, 3] ls) r rem st := (rfl)
theorem a_38_0 {C : mCall} {K : mK} : mat P_RX7 0 sg_ k_38 [] C K post 0 ls r rem st = mblk P_RX7 0 sg_ C (mjmp k_38 K) (mexc [] K post k_38) post [.inl (.aload_n 0, 1), .inl (.iload_n 1, 1), .inl (.invokevirtual 170, 3), .inl (.ifCond .ne 9, 3), .inl (.aload_n 0, 1), .inl (.iconst 1, 1), .inl (.invokevirtual 109, 3), .inl (.ireturn, 1)] 0 ls r rem st := (rfl)
theorem j_38_0 : mjmp k_38 K 0 ls r rem st = K 0 (mproj [0, 1, 2] ls) r rem st := (rfl)
theorem a_38_14 {C : mCall} {K : mK} : mat P_RX7 0 sg_ k_38 [] C K post 14 ls r rem st = mblk P_RX7 0 sg_ C (mjmp k_38 K) (mexc [] K post k_38) post [.inl (.aload_n 0, 1), .inl (.iload_n 1, 1), .inl (.iload_n 2, 1), .inl (.invokevirtual 173, 3), .inl (.ifCond .ne 9, 3), .inl (.aload_n 0, 1), .inl (.iconst 2, 1), .inl (.invokevirtual 109, 3), .inl (.ireturn, 1)] 14 ls r rem st := (rfl)
theorem j_38_14 : mjmp k_38 K 14 ls r rem st = K 14 (mproj [0, 1, 2] ls) r rem st := (rfl)
theorem a_38_29 {C : mCall} {K : mK} : mat P_RX7 0 sg_ k_38 [] C K post 29 ls r rem st = mblk P_RX7 0 sg_ C (mjmp k_38 K) (mexc [] K post k_38) post [.inl (.aload_n 0, 1), .inl (.getfield 60, 3), .inl (.iconst 3, 1), .inl (.iload_n 1, 1), .inl (.imul, 1), .inl (.iload_n 2, 1), .inl (.iadd, 1), .inl (.iaload, 1), .inl (.istore_n 3, 1), .inl (.aload_n 0, 1), .inl (.getfield 57, 3), .inl (.iload_n 1, 1), .inl (.iaload, 1), .inl (.bipush 112, 2), .inl (.if_icmp .ne 8, 3), .inl (.iload_n 3, 1), .inl (.iconst (-1), 1), .inl (.if_icmp .ne 9, 3)] 29 ls r rem st := (rfl)
theorem j_38_29 : mjmp k_38 K 29 ls r rem st = K 29 (mproj [0, 1, 2] ls) r rem st := (rfl)
theorem cne_48_8 {a b : Int} : mstep P rt sg C J X post (.if_icmp .ne 8) 48 ls (mi b :: mi a :: r) rem st nx = ((mcmp .ne a b → J 56 ls r rem st) ∧ (¬ mcmp .ne a b → nx ls r rem st)) := e_icmp rfl
theorem cne_53_9 {a b : Int} : mstep P rt sg C J X post (.if_icmp .ne 9) 53 ls (mi b :: mi a :: r) rem st nx = ((mcmp .ne a b → J 62 ls r rem st) ∧ (¬ mcmp .ne a b → nx ls r rem st)) := e_icmp rfl
theorem a_38_56 {C : mCall} {K : mK} : mat P_RX7 0 sg_ k_38 [] C K post 56 ls r rem st = mblk P_RX7 0 sg_ C (mjmp k_38 K) (mexc [] K post k_38) post [.inl (.aload_n 0, 1), .inl (.iconst 3, 1), .inl (.invokevirtual 109, 3), .inl (.ireturn, 1)] 56 ls r rem st := (rfl)
theorem j_38_56 : mjmp k_38 K 56 ls r rem st = K 56 (mproj [0] ls) r rem st := (rfl)
theorem a_38_62 {C : mCall} {K : mK} : mat P_RX7 0 sg_ k_38 [] C K post 62 ls r rem st = mblk P_RX7 0 sg_ C (mjmp k_38 K) (mexc [] K post k_38) post [.inl (.aload_n 0, 1), .inl (.iconst 0, 1), .inl (.putfield 93, 3), .inl (.aload_n 0, 1), .inl (.getfield 60, 3), .inl (.iconst 3, 1), .inl (.iload_n 1, 1), .inl (.imul, 1), .inl (.iload_n 2, 1), .inl (.iadd, 1), .inl (.iconst (-1), 1), .inl (.iastore, 1), .inl (.iload_n 3, 1), .inl (.ireturn, 1)] 62 ls r rem st := (rfl)
theorem j_38_62 : mjmp k_38 K 62 ls r rem st = K 62 (mproj [0, 1, 2, 3] ls) r rem st := (rfl)
theorem a_39_0 {C : mCall} {K : mK} : mat P_RX7 1 sg_ k_39 [] C K post 0 ls r rem st = mblk P_RX7 1 sg_ C (mjmp k_39 K) (mexc [] K post k_39) post [.inl (.aload_n 0, 1), .inl (.aload_n 0, 1), .inl (.iload_n 1, 1), .inl (.invokevirtual 170, 3), .inl (.ifCond .ne 7, 3), .inl (.iconst 1, 1), .inl (.goto 19, 3)] 0 ls r rem st := (rfl)
theorem j_39_0 : mjmp k_39 K 0 ls r rem st = K 0 (mproj [0, 1] ls) r rem st := (rfl)
theorem g_10_19 : mstep P rt sg C J X post (.goto 19) 10 ls r rem st nx = J 29 ls r rem st := e_goto rfl
theorem a_39_13 {C : mCall} {K : mK} : mat P_RX7 1 sg_ k_39 [] C K post 13 ls r rem st = mblk P_RX7 1 sg_ C (mjmp k_39 K) (mexc [] K post k_39) post [.inl (.aload_n 0, 1), .inl (.getfield 57, 3), .inl (.iload_n 1, 1), .inl (.iaload, 1), .inl (.bipush 112, 2), .inl (.if_icmp .ne 7, 3), .inl (.iconst 0, 1), .inl (.goto 4, 3)] 13 ls r rem st := (rfl)
theorem j_39_13 : mjmp k_39 K 13 ls r rem st = K 13 (mproj [0, 1] ls) r rem st := (rfl)
theorem cne_21_7 {a b : Int} : mstep P rt sg C J X post (.if_icmp .ne 7) 21 ls (mi b :: mi a :: r) rem st nx = ((mcmp .ne a b → J 28 ls r rem st) ∧ (¬ mcmp .ne a b → nx ls r rem st)) := e_icmp rfl
theorem g_25_4 : mstep P rt sg C J X post (.goto 4) 25 ls r rem st nx = J 29 ls r rem st := e_goto rfl
theorem a_39_28 {C : mCall} {K : mK} : mat P_RX7 1 sg_ k_39 [] C K post 28 ls r rem st = mblk P_RX7 1 sg_ C (mjmp k_39 K) (mexc [] K post k_39) post [.inl (.iconst 2, 1)] 28 ls r rem st := (rfl)
theorem j_39_28 : mjmp k_39 K 28 ls r rem st = K 28 (mproj [0] ls) r rem st := (rfl)
theorem a_39_29 {C : mCall} {K : mK} : mat P_RX7 1 sg_ k_39 [] C K post 29 ls r rem st = mblk P_RX7 1 sg_ C (mjmp k_39 K) (mexc [] K post k_39) post [.inl (.putfield 93, 3), .inl (.aload_n 0, 1), .inl (.getfield 93, 3), .inl (.ifCond .ne 7, 3), .inl (.iconst 1, 1), .inl (.goto 4, 3)] 29 ls r rem st := (rfl)
theorem j_39_29 : mjmp k_39 K 29 ls r rem st = K 29 (mproj [0] ls) r rem st := (rfl)
theorem zne_36_7 {a : Int} : mstep P rt sg C J X post (.ifCond .ne 7) 36 ls (mi a :: r) rem st nx = ((mcmp .ne a 0 → J 43 ls r rem st) ∧ (¬ mcmp .ne a 0 → nx ls r rem st)) := e_ifc rfl
theorem g_40_4 : mstep P rt sg C J X post (.goto 4) 40 ls r rem st nx = J 44 ls r rem st := e_goto rfl
theorem a_39_43 {C : mCall} {K : mK} : mat P_RX7 1 sg_ k_39 [] C K post 43 ls r rem st = mblk P_RX7 1 sg_ C (mjmp k_39 K) (mexc [] K post k_39) post [.inl (.iconst 0, 1)] 43 ls r rem st := (rfl)
theorem j_39_43 : mjmp k_39 K 43 ls r rem st = K 43 (mproj [] ls) r rem st := (rfl)
theorem a_39_44 {C : mCall} {K : mK} : mat P_RX7 1 sg_ k_39 [] C K post 44 ls r rem st = mblk P_RX7 1 sg_ C (mjmp k_39 K) (mexc [] K post k_39) post [.inl (.ireturn, 1)] 44 ls r rem st := (rfl)
theorem j_39_44 : mjmp k_39 K 44 ls r rem st = K 44 (mproj [] ls) r rem st := (rfl)
theorem a_40_0 {C : mCall} {K : mK} : mat P_RX7 0 sg_ k_40 [] C K post 0 ls r rem st = mblk P_RX7 0 sg_ C (mjmp k_40 K) (mexc [] K post k_40) post [.inl (.aload_n 0, 1), .inl (.iload_n 1, 1), .inl (.invokevirtual 176, 3), .inl (.ifCond .eq 11, 3), .inl (.aload_n 0, 1), .inl (.iload_n 1, 1), .inl (.invokevirtual 125, 3), .inl (.goto 4, 3)] 0 ls r rem st := (rfl)
theorem j_40_0 : mjmp k_40 K 0 ls r rem st = K 0 (mproj [0, 1] ls) r rem st := (rfl)
theorem v_RX7_176_30 {a1 : mV} {i : Nat} : mstep P_RX7 rt sg_ C J X post (.invokevirtual 176) pc ls (a1 :: mr 30 i :: r) rem st nx = cond (mroom r) (0 ≤ rem.1 ∧ 0 ≤ rem.2 ∧ C 39 [mr 30 i, a1] st (mck X pc ls r (rem.1 - 0, rem.2 - 0) nx)) False := (rfl)
theorem zeq_5_11 {a : Int} : mstep P rt sg C J X post (.ifCond .eq 11) 5 ls (mi a :: r) rem st nx = ((mcmp .eq a 0 → J 16 ls r rem st) ∧ (¬ mcmp .eq a 0 → nx ls r rem st)) := e_ifc rfl
theorem g_13_4 : mstep P rt sg C J X post (.goto 4) 13 ls r rem st nx = J 17 ls r rem st := e_goto rfl
theorem a_40_16 {C : mCall} {K : mK} : mat P_RX7 0 sg_ k_40 [] C K post 16 ls r rem st = mblk P_RX7 0 sg_ C (mjmp k_40 K) (mexc [] K post k_40) post [.inl (.iconst 0, 1)] 16 ls r rem st := (rfl)
theorem j_40_16 : mjmp k_40 K 16 ls r rem st = K 16 (mproj [] ls) r rem st := (rfl)
theorem a_40_17 {C : mCall} {K : mK} : mat P_RX7 0 sg_ k_40 [] C K post 17 ls r rem st = mblk P_RX7 0 sg_ C (mjmp k_40 K) (mexc [] K post k_40) post [.inl (.ireturn, 1)] 17 ls r rem st := (rfl)
theorem j_40_17 : mjmp k_40 K 17 ls r rem st = K 17 (mproj [] ls) r rem st := (rfl)
theorem a_41_0 {C : mCall} {K : mK} : mat P_RX7 0 sg_ k_41 [] C K post 0 ls r rem st = mblk P_RX7 0 sg_ C (mjmp k_41 K) (mexc [] K post k_41) post [.inl (.iload_n 2, 1), .inl (.aload_n 0, 1), .inl (.getfield 42, 3), .inl (.aload_n 0, 1), .inl (.getfield 48, 3), .inl (.iload_n 1, 1), .inl (.iaload, 1), .inl (.iaload, 1), .inl (.if_icmp .ne 47, 3), .inl (.iload_n 3, 1), .inl (.aload_n 0, 1), .inl (.getfield 179, 3), .inl (.if_icmp .lt 4, 3), .inl (.return_, 1)] 0 ls r rem st := (rfl)
theorem j_41_0 : mjmp k_41 K 0 ls r rem st = K 0 (mproj [0, 1, 2, 3] ls) r rem st := (rfl)
theorem cne_12_47 {a b : Int} : mstep P rt sg C J X post (.if_icmp .ne 47) 12 ls (mi b :: mi a :: r) rem st nx = ((mcmp .ne a b → J 59 ls r rem st) ∧ (¬ mcmp .ne a b → nx ls r rem st)) := e_icmp rfl
theorem f_RX7_179_30 {i : Nat} {f : mV → Prop} : mGet P_RX7 179 30 i st f = f (mi (sI st 30 i 7)) := (rfl)
theorem clt_20_4 {a b : Int} : mstep P rt sg C J X post (.if_icmp .lt 4) 20 ls (mi b :: mi a :: r) rem st nx = ((mcmp .lt a b → J 24 ls r rem st) ∧ (¬ mcmp .lt a b → nx ls r rem st)) := e_icmp rfl
theorem a_41_24 {C : mCall} {K : mK} : mat P_RX7 0 sg_ k_41 [] C K post 24 ls r rem st = mblk P_RX7 0 sg_ C (mjmp k_41 K) (mexc [] K post k_41) post [.inl (.aload_n 0, 1), .inl (.iload_n 3, 1), .inl (.putfield 179, 3), .inl (.iconst 0, 1), .inl (.istore 4, 2)] 24 ls r rem st := (rfl)
theorem j_41_24 : mjmp k_41 K 24 ls r rem st = K 24 (mproj [0, 2, 3] ls) r rem st := (rfl)
theorem p_RX7_179_30 {f : Nat → Prop} : mPut P_RX7 179 30 0 f = f 7 := (rfl)
theorem a_41_32 {C : mCall} {K : mK} : mat P_RX7 0 sg_ k_41 [] C K post 32 ls r rem st = mblk P_RX7 0 sg_ C (mjmp k_41 K) (mexc [] K post k_41) post [.inl (.iload 4, 2), .inl (.iload_n 2, 1), .inl (.if_icmp .ge 23, 3), .inl (.aload_n 0, 1), .inl (.getfield 69, 3), .inl (.iload 4, 2), .inl (.aload_n 0, 1), .inl (.getfield 66, 3), .inl (.iload 4, 2), .inl (.iaload, 1), .inl (.iastore, 1), .inl (.iinc 4 1, 3), .inl (.goto (-23), 3)] 32 ls r rem st := (rfl)
theorem j_41_32 : mjmp k_41 K 32 ls r rem st = K 32 (mproj [0, 2, 4] ls) r rem st := (rfl)
theorem cge_35_23 {a b : Int} : mstep P rt sg C J X post (.if_icmp .ge 23) 35 ls (mi b :: mi a :: r) rem st nx = ((mcmp .ge a b → J 58 ls r rem st) ∧ (¬ mcmp .ge a b → nx ls r rem st)) := e_icmp rfl
theorem f_RX7_69_30 {i : Nat} {f : mV → Prop} : mGet P_RX7 69 30 i st f = f (mr 48 i) := (rfl)
theorem f_RX7_66_30 {i : Nat} {f : mV → Prop} : mGet P_RX7 66 30 i st f = f (mr 47 i) := (rfl)
theorem g_55_m23 : mstep P rt sg C J X post (.goto (-23)) 55 ls r rem st nx = J 32 ls r rem st := e_goto rfl
theorem a_41_58 {C : mCall} {K : mK} : mat P_RX7 0 sg_ k_41 [] C K post 58 ls r rem st = mblk P_RX7 0 sg_ C (mjmp k_41 K) (mexc [] K post k_41) post [.inl (.return_, 1)] 58 ls r rem st := (rfl)
theorem j_41_58 : mjmp k_41 K 58 ls r rem st = K 58 (mproj [] ls) r rem st := (rfl)
theorem a_41_59 {C : mCall} {K : mK} : mat P_RX7 0 sg_ k_41 [] C K post 59 ls r rem st = mblk P_RX7 0 sg_ C (mjmp k_41 K) (mexc [] K post k_41) post [.inl (.iconst 0, 1), .inl (.istore 4, 2)] 59 ls r rem st := (rfl)
theorem j_41_59 : mjmp k_41 K 59 ls r rem st = K 59 (mproj [0, 1, 2, 3] ls) r rem st := (rfl)
theorem a_41_62 {C : mCall} {K : mK} : mat P_RX7 0 sg_ k_41 [] C K post 62 ls r rem st = mblk P_RX7 0 sg_ C (mjmp k_41 K) (mexc [] K post k_41) post [.inl (.iload 4, 2), .inl (.aload_n 0, 1), .inl (.getfield 96, 3), .inl (.if_icmp .ge 111, 3), .inl (.iconst 1, 1), .inl (.istore 5, 2), .inl (.iconst 0, 1), .inl (.istore 6, 2)] 62 ls r rem st := (rfl)
theorem j_41_62 : mjmp k_41 K 62 ls r rem st = K 62 (mproj [0, 1, 2, 3, 4] ls) r rem st := (rfl)
theorem cge_68_111 {a b : Int} : mstep P rt sg C J X post (.if_icmp .ge 111) 68 ls (mi b :: mi a :: r) rem st nx = ((mcmp .ge a b → J 179 ls r rem st) ∧ (¬ mcmp .ge a b → nx ls r rem st)) := e_icmp rfl
theorem a_41_77 {C : mCall} {K : mK} : mat P_RX7 0 sg_ k_41 [] C K post 77 ls r rem st = mblk P_RX7 0 sg_ C (mjmp k_41 K) (mexc [] K post k_41) post [.inl (.iload 6, 2), .inl (.iload_n 2, 1), .inl (.if_icmp .ge 33, 3), .inl (.iload 5, 2), .inl (.ifCond .eq 19, 3), .inl (.aload_n 0, 1), .inl (.getfield 66, 3), .inl (.iload 6, 2), .inl (.iaload, 1), .inl (.iload 4, 2), .inl (.if_icmp .eq 7, 3), .inl (.iconst 1, 1), .inl (.goto 4, 3)] 77 ls r rem st := (rfl)
theorem j_41_77 : mjmp k_41 K 77 ls r rem st = K 77 (mproj [0, 1, 2, 3, 4, 5, 6] ls) r rem st := (rfl)
theorem cge_80_33 {a b : Int} : mstep P rt sg C J X post (.if_icmp .ge 33) 80 ls (mi b :: mi a :: r) rem st nx = ((mcmp .ge a b → J 113 ls r rem st) ∧ (¬ mcmp .ge a b → nx ls r rem st)) := e_icmp rfl
theorem zeq_85_19 {a : Int} : mstep P rt sg C J X post (.ifCond .eq 19) 85 ls (mi a :: r) rem st nx = ((mcmp .eq a 0 → J 104 ls r rem st) ∧ (¬ mcmp .eq a 0 → nx ls r rem st)) := e_ifc rfl
theorem ceq_97_7 {a b : Int} : mstep P rt sg C J X post (.if_icmp .eq 7) 97 ls (mi b :: mi a :: r) rem st nx = ((mcmp .eq a b → J 104 ls r rem st) ∧ (¬ mcmp .eq a b → nx ls r rem st)) := e_icmp rfl
theorem g_101_4 : mstep P rt sg C J X post (.goto 4) 101 ls r rem st nx = J 105 ls r rem st := e_goto rfl
theorem a_41_104 {C : mCall} {K : mK} : mat P_RX7 0 sg_ k_41 [] C K post 104 ls r rem st = mblk P_RX7 0 sg_ C (mjmp k_41 K) (mexc [] K post k_41) post [.inl (.iconst 0, 1)] 104 ls r rem st := (rfl)
theorem j_41_104 : mjmp k_41 K 104 ls r rem st = K 104 (mproj [0, 1, 2, 3, 4, 6] ls) r rem st := (rfl)
theorem a_41_105 {C : mCall} {K : mK} : mat P_RX7 0 sg_ k_41 [] C K post 105 ls r rem st = mblk P_RX7 0 sg_ C (mjmp k_41 K) (mexc [] K post k_41) post [.inl (.istore 5, 2), .inl (.iinc 6 1, 3), .inl (.goto (-33), 3)] 105 ls r rem st := (rfl)
theorem j_41_105 : mjmp k_41 K 105 ls r rem st = K 105 (mproj [0, 1, 2, 3, 4, 6] ls) r rem st := (rfl)
theorem g_110_m33 : mstep P rt sg C J X post (.goto (-33)) 110 ls r rem st nx = J 77 ls r rem st := e_goto rfl
theorem a_41_113 {C : mCall} {K : mK} : mat P_RX7 0 sg_ k_41 [] C K post 113 ls r rem st = mblk P_RX7 0 sg_ C (mjmp k_41 K) (mexc [] K post k_41) post [.inl (.iload 5, 2), .inl (.ifCond .eq 58, 3), .inl (.aload_n 0, 1), .inl (.getfield 72, 3), .inl (.iconst 3, 1), .inl (.iload 4, 2), .inl (.imul, 1), .inl (.iload_n 2, 1), .inl (.iadd, 1), .inl (.baload, 1), .inl (.ifCond .ne 6, 3), .inl (.goto 41, 3)] 113 ls r rem st := (rfl)
theorem j_41_113 : mjmp k_41 K 113 ls r rem st = K 113 (mproj [0, 1, 2, 3, 4, 5] ls) r rem st := (rfl)
theorem zeq_115_58 {a : Int} : mstep P rt sg C J X post (.ifCond .eq 58) 115 ls (mi a :: r) rem st nx = ((mcmp .eq a 0 → J 173 ls r rem st) ∧ (¬ mcmp .eq a 0 → nx ls r rem st)) := e_ifc rfl
theorem f_RX7_72_30 {i : Nat} {f : mV → Prop} : mGet P_RX7 72 30 i st f = f (mr 49 i) := (rfl)
theorem zne_129_6 {a : Int} : mstep P rt sg C J X post (.ifCond .ne 6) 129 ls (mi a :: r) rem st nx = ((mcmp .ne a 0 → J 135 ls r rem st) ∧ (¬ mcmp .ne a 0 → nx ls r rem st)) := e_ifc rfl
theorem g_132_41 : mstep P rt sg C J X post (.goto 41) 132 ls r rem st nx = J 173 ls r rem st := e_goto rfl
theorem a_41_135 {C : mCall} {K : mK} : mat P_RX7 0 sg_ k_41 [] C K post 135 ls r rem st = mblk P_RX7 0 sg_ C (mjmp k_41 K) (mexc [] K post k_41) post [.inl (.aload_n 0, 1), .inl (.getfield 66, 3), .inl (.iload_n 2, 1), .inl (.iload 4, 2), .inl (.iastore, 1), .inl (.aload_n 0, 1), .inl (.iload_n 1, 1), .inl (.iload_n 2, 1), .inl (.iconst 1, 1), .inl (.iadd, 1), .inl (.iload_n 3, 1), .inl (.aload_n 0, 1), .inl (.getfield 60, 3), .inl (.iconst 3, 1), .inl (.iload_n 1, 1), .inl (.imul, 1), .inl (.iload_n 2, 1), .inl (.iadd, 1), .inl (.iaload, 1), .inl (.iload 4, 2), .inl (.if_icmp .ne 7, 3), .inl (.iconst 0, 1), .inl (.goto 4, 3)] 135 ls r rem st := (rfl)
theorem j_41_135 : mjmp k_41 K 135 ls r rem st = K 135 (mproj [0, 1, 2, 3, 4] ls) r rem st := (rfl)
theorem cne_161_7 {a b : Int} : mstep P rt sg C J X post (.if_icmp .ne 7) 161 ls (mi b :: mi a :: r) rem st nx = ((mcmp .ne a b → J 168 ls r rem st) ∧ (¬ mcmp .ne a b → nx ls r rem st)) := e_icmp rfl
theorem g_165_4 : mstep P rt sg C J X post (.goto 4) 165 ls r rem st nx = J 169 ls r rem st := e_goto rfl
theorem a_41_168 {C : mCall} {K : mK} : mat P_RX7 0 sg_ k_41 [] C K post 168 ls r rem st = mblk P_RX7 0 sg_ C (mjmp k_41 K) (mexc [] K post k_41) post [.inl (.iconst 1, 1)] 168 ls r rem st := (rfl)
theorem j_41_168 : mjmp k_41 K 168 ls r rem st = K 168 (mproj [0, 1, 2, 3, 4] ls) r rem st := (rfl)
theorem a_41_169 {C : mCall} {K : mK} : mat P_RX7 0 sg_ k_41 [] C K post 169 ls r rem st = mblk P_RX7 0 sg_ C (mjmp k_41 K) (mexc [] K post k_41) post [.inl (.iadd, 1), .inl (.invokevirtual 182, 3)] 169 ls r rem st := (rfl)
theorem j_41_169 : mjmp k_41 K 169 ls r rem st = K 169 (mproj [0, 1, 2, 3, 4] ls) r rem st := (rfl)
theorem v_RX7_182_30 {a1 a2 a3 : mV} {i : Nat} : mstep P_RX7 rt sg_ C J X post (.invokevirtual 182) pc ls (a3 :: a2 :: a1 :: mr 30 i :: r) rem st nx = cond (mroom r) (0 ≤ rem.1 ∧ 0 ≤ rem.2 ∧ C 41 [mr 30 i, a1, a2, a3] st (mck X pc ls r (rem.1 - 0, rem.2 - 0) nx)) False := (rfl)
theorem a_41_173 {C : mCall} {K : mK} : mat P_RX7 0 sg_ k_41 [] C K post 173 ls r rem st = mblk P_RX7 0 sg_ C (mjmp k_41 K) (mexc [] K post k_41) post [.inl (.iinc 4 1, 3), .inl (.goto (-114), 3)] 173 ls r rem st := (rfl)
theorem j_41_173 : mjmp k_41 K 173 ls r rem st = K 173 (mproj [0, 1, 2, 3, 4] ls) r rem st := (rfl)
theorem g_176_m114 : mstep P rt sg C J X post (.goto (-114)) 176 ls r rem st nx = J 62 ls r rem st := e_goto rfl
theorem a_41_179 {C : mCall} {K : mK} : mat P_RX7 0 sg_ k_41 [] C K post 179 ls r rem st = mblk P_RX7 0 sg_ C (mjmp k_41 K) (mexc [] K post k_41) post [.inl (.return_, 1)] 179 ls r rem st := (rfl)
theorem j_41_179 : mjmp k_41 K 179 ls r rem st = K 179 (mproj [] ls) r rem st := (rfl)
theorem a_42_0 {C : mCall} {K : mK} : mat P_RX7 1 sg_ k_42 [] C K post 0 ls r rem st = mblk P_RX7 1 sg_ C (mjmp k_42 K) (mexc [] K post k_42) post [.inl (.aload_n 0, 1), .inl (.bipush 9, 2), .inl (.putfield 179, 3), .inl (.iconst 0, 1), .inl (.istore_n 2, 1)] 0 ls r rem st := (rfl)
theorem j_42_0 : mjmp k_42 K 0 ls r rem st = K 0 (mproj [0, 1] ls) r rem st := (rfl)
theorem a_42_8 {C : mCall} {K : mK} : mat P_RX7 1 sg_ k_42 [] C K post 8 ls r rem st = mblk P_RX7 1 sg_ C (mjmp k_42 K) (mexc [] K post k_42) post [.inl (.iload_n 2, 1), .inl (.aload_n 0, 1), .inl (.getfield 96, 3), .inl (.if_icmp .ge 57, 3), .inl (.iconst 0, 1), .inl (.istore_n 3, 1)] 8 ls r rem st := (rfl)
theorem j_42_8 : mjmp k_42 K 8 ls r rem st = K 8 (mproj [0, 1, 2] ls) r rem st := (rfl)
theorem cge_13_57 {a b : Int} : mstep P rt sg C J X post (.if_icmp .ge 57) 13 ls (mi b :: mi a :: r) rem st nx = ((mcmp .ge a b → J 70 ls r rem st) ∧ (¬ mcmp .ge a b → nx ls r rem st)) := e_icmp rfl
theorem a_42_18 {C : mCall} {K : mK} : mat P_RX7 1 sg_ k_42 [] C K post 18 ls r rem st = mblk P_RX7 1 sg_ C (mjmp k_42 K) (mexc [] K post k_42) post [.inl (.iload_n 3, 1), .inl (.aload_n 0, 1), .inl (.getfield 42, 3), .inl (.aload_n 0, 1), .inl (.getfield 48, 3), .inl (.iload_n 1, 1), .inl (.iaload, 1), .inl (.iaload, 1), .inl (.if_icmp .ge 34, 3), .inl (.aload_n 0, 1), .inl (.getfield 72, 3), .inl (.iconst 3, 1), .inl (.iload_n 2, 1), .inl (.imul, 1), .inl (.iload_n 3, 1), .inl (.iadd, 1), .inl (.aload_n 0, 1), .inl (.iload_n 1, 1), .inl (.iload_n 3, 1), .inl (.iload_n 2, 1), .inl (.invokevirtual 166, 3), .inl (.ifCond .ne 7, 3), .inl (.iconst 1, 1), .inl (.goto 4, 3)] 18 ls r rem st := (rfl)
theorem j_42_18 : mjmp k_42 K 18 ls r rem st = K 18 (mproj [0, 1, 2, 3] ls) r rem st := (rfl)
theorem cge_30_34 {a b : Int} : mstep P rt sg C J X post (.if_icmp .ge 34) 30 ls (mi b :: mi a :: r) rem st nx = ((mcmp .ge a b → J 64 ls r rem st) ∧ (¬ mcmp .ge a b → nx ls r rem st)) := e_icmp rfl
theorem zne_49_7 {a : Int} : mstep P rt sg C J X post (.ifCond .ne 7) 49 ls (mi a :: r) rem st nx = ((mcmp .ne a 0 → J 56 ls r rem st) ∧ (¬ mcmp .ne a 0 → nx ls r rem st)) := e_ifc rfl
theorem g_53_4 : mstep P rt sg C J X post (.goto 4) 53 ls r rem st nx = J 57 ls r rem st := e_goto rfl
theorem a_42_56 {C : mCall} {K : mK} : mat P_RX7 1 sg_ k_42 [] C K post 56 ls r rem st = mblk P_RX7 1 sg_ C (mjmp k_42 K) (mexc [] K post k_42) post [.inl (.iconst 0, 1)] 56 ls r rem st := (rfl)
theorem j_42_56 : mjmp k_42 K 56 ls r rem st = K 56 (mproj [0, 1, 2, 3] ls) r rem st := (rfl)
theorem a_42_57 {C : mCall} {K : mK} : mat P_RX7 1 sg_ k_42 [] C K post 57 ls r rem st = mblk P_RX7 1 sg_ C (mjmp k_42 K) (mexc [] K post k_42) post [.inl (.bastore, 1), .inl (.iinc 3 1, 3), .inl (.goto (-43), 3)] 57 ls r rem st := (rfl)
theorem j_42_57 : mjmp k_42 K 57 ls r rem st = K 57 (mproj [0, 1, 2, 3] ls) r rem st := (rfl)
theorem g_61_m43 : mstep P rt sg C J X post (.goto (-43)) 61 ls r rem st nx = J 18 ls r rem st := e_goto rfl
theorem a_42_64 {C : mCall} {K : mK} : mat P_RX7 1 sg_ k_42 [] C K post 64 ls r rem st = mblk P_RX7 1 sg_ C (mjmp k_42 K) (mexc [] K post k_42) post [.inl (.iinc 2 1, 3), .inl (.goto (-59), 3)] 64 ls r rem st := (rfl)
theorem j_42_64 : mjmp k_42 K 64 ls r rem st = K 64 (mproj [0, 1, 2] ls) r rem st := (rfl)
theorem g_67_m59 : mstep P rt sg C J X post (.goto (-59)) 67 ls r rem st nx = J 8 ls r rem st := e_goto rfl
theorem a_42_70 {C : mCall} {K : mK} : mat P_RX7 1 sg_ k_42 [] C K post 70 ls r rem st = mblk P_RX7 1 sg_ C (mjmp k_42 K) (mexc [] K post k_42) post [.inl (.aload_n 0, 1), .inl (.iload_n 1, 1), .inl (.iconst 0, 1), .inl (.iconst 0, 1), .inl (.invokevirtual 182, 3), .inl (.iconst 0, 1), .inl (.istore_n 2, 1)] 70 ls r rem st := (rfl)
theorem j_42_70 : mjmp k_42 K 70 ls r rem st = K 70 (mproj [0, 1] ls) r rem st := (rfl)
theorem a_42_79 {C : mCall} {K : mK} : mat P_RX7 1 sg_ k_42 [] C K post 79 ls r rem st = mblk P_RX7 1 sg_ C (mjmp k_42 K) (mexc [] K post k_42) post [.inl (.iload_n 2, 1), .inl (.aload_n 0, 1), .inl (.getfield 42, 3), .inl (.aload_n 0, 1), .inl (.getfield 48, 3), .inl (.iload_n 1, 1), .inl (.iaload, 1), .inl (.iaload, 1), .inl (.if_icmp .ge 34, 3), .inl (.aload_n 0, 1), .inl (.getfield 179, 3), .inl (.bipush 9, 2), .inl (.if_icmp .ge 25, 3), .inl (.aload_n 0, 1), .inl (.getfield 60, 3), .inl (.iconst 3, 1), .inl (.iload_n 1, 1), .inl (.imul, 1), .inl (.iload_n 2, 1), .inl (.iadd, 1), .inl (.aload_n 0, 1), .inl (.getfield 69, 3), .inl (.iload_n 2, 1), .inl (.iaload, 1), .inl (.iastore, 1), .inl (.iinc 2 1, 3), .inl (.goto (-43), 3)] 79 ls r rem st := (rfl)
theorem j_42_79 : mjmp k_42 K 79 ls r rem st = K 79 (mproj [0, 1, 2] ls) r rem st := (rfl)
theorem cge_91_34 {a b : Int} : mstep P rt sg C J X post (.if_icmp .ge 34) 91 ls (mi b :: mi a :: r) rem st nx = ((mcmp .ge a b → J 125 ls r rem st) ∧ (¬ mcmp .ge a b → nx ls r rem st)) := e_icmp rfl
theorem cge_100_25 {a b : Int} : mstep P rt sg C J X post (.if_icmp .ge 25) 100 ls (mi b :: mi a :: r) rem st nx = ((mcmp .ge a b → J 125 ls r rem st) ∧ (¬ mcmp .ge a b → nx ls r rem st)) := e_icmp rfl
theorem g_122_m43 : mstep P rt sg C J X post (.goto (-43)) 122 ls r rem st nx = J 79 ls r rem st := e_goto rfl
theorem a_42_125 {C : mCall} {K : mK} : mat P_RX7 1 sg_ k_42 [] C K post 125 ls r rem st = mblk P_RX7 1 sg_ C (mjmp k_42 K) (mexc [] K post k_42) post [.inl (.aload_n 0, 1), .inl (.getfield 179, 3), .inl (.bipush 9, 2), .inl (.if_icmp .ge 7, 3), .inl (.iconst 1, 1), .inl (.goto 4, 3)] 125 ls r rem st := (rfl)
theorem j_42_125 : mjmp k_42 K 125 ls r rem st = K 125 (mproj [0] ls) r rem st := (rfl)
theorem cge_131_7 {a b : Int} : mstep P rt sg C J X post (.if_icmp .ge 7) 131 ls (mi b :: mi a :: r) rem st nx = ((mcmp .ge a b → J 138 ls r rem st) ∧ (¬ mcmp .ge a b → nx ls r rem st)) := e_icmp rfl
theorem g_135_4 : mstep P rt sg C J X post (.goto 4) 135 ls r rem st nx = J 139 ls r rem st := e_goto rfl
theorem a_42_138 {C : mCall} {K : mK} : mat P_RX7 1 sg_ k_42 [] C K post 138 ls r rem st = mblk P_RX7 1 sg_ C (mjmp k_42 K) (mexc [] K post k_42) post [.inl (.iconst 0, 1)] 138 ls r rem st := (rfl)
theorem j_42_138 : mjmp k_42 K 138 ls r rem st = K 138 (mproj [] ls) r rem st := (rfl)
theorem a_42_139 {C : mCall} {K : mK} : mat P_RX7 1 sg_ k_42 [] C K post 139 ls r rem st = mblk P_RX7 1 sg_ C (mjmp k_42 K) (mexc [] K post k_42) post [.inl (.ireturn, 1)] 139 ls r rem st := (rfl)
theorem j_42_139 : mjmp k_42 K 139 ls r rem st = K 139 (mproj [] ls) r rem st := (rfl)
theorem a_43_0 {C : mCall} {K : mK} : mat P_RX7 0 sg_ k_43 [] C K post 0 ls r rem st = mblk P_RX7 0 sg_ C (mjmp k_43 K) (mexc [] K post k_43) post [.inl (.aload_n 0, 1), .inl (.iload_n 1, 1), .inl (.invokevirtual 176, 3), .inl (.ifCond .ne 5, 3), .inl (.iconst 0, 1), .inl (.ireturn, 1)] 0 ls r rem st := (rfl)
theorem j_43_0 : mjmp k_43 K 0 ls r rem st = K 0 (mproj [0, 1] ls) r rem st := (rfl)
theorem zne_5_5 {a : Int} : mstep P rt sg C J X post (.ifCond .ne 5) 5 ls (mi a :: r) rem st nx = ((mcmp .ne a 0 → J 10 ls r rem st) ∧ (¬ mcmp .ne a 0 → nx ls r rem st)) := e_ifc rfl
theorem a_43_10 {C : mCall} {K : mK} : mat P_RX7 0 sg_ k_43 [] C K post 10 ls r rem st = mblk P_RX7 0 sg_ C (mjmp k_43 K) (mexc [] K post k_43) post [.inl (.aload_n 0, 1), .inl (.iload_n 1, 1), .inl (.invokevirtual 186, 3), .inl (.ifCond .eq 10, 3), .inl (.aload_n 0, 1), .inl (.getfield 179, 3), .inl (.goto 8, 3)] 10 ls r rem st := (rfl)
theorem j_43_10 : mjmp k_43 K 10 ls r rem st = K 10 (mproj [0, 1] ls) r rem st := (rfl)
theorem v_RX7_186_30 {a1 : mV} {i : Nat} : mstep P_RX7 rt sg_ C J X post (.invokevirtual 186) pc ls (a1 :: mr 30 i :: r) rem st nx = cond (mroom r) (0 ≤ rem.1 ∧ 0 ≤ rem.2 ∧ C 42 [mr 30 i, a1] st (mck X pc ls r (rem.1 - 0, rem.2 - 0) nx)) False := (rfl)
theorem zeq_15_10 {a : Int} : mstep P rt sg C J X post (.ifCond .eq 10) 15 ls (mi a :: r) rem st nx = ((mcmp .eq a 0 → J 25 ls r rem st) ∧ (¬ mcmp .eq a 0 → nx ls r rem st)) := e_ifc rfl
theorem g_22_8 : mstep P rt sg C J X post (.goto 8) 22 ls r rem st nx = J 30 ls r rem st := e_goto rfl
theorem a_43_25 {C : mCall} {K : mK} : mat P_RX7 0 sg_ k_43 [] C K post 25 ls r rem st = mblk P_RX7 0 sg_ C (mjmp k_43 K) (mexc [] K post k_43) post [.inl (.aload_n 0, 1), .inl (.iconst 3, 1), .inl (.invokevirtual 109, 3)] 25 ls r rem st := (rfl)
theorem j_43_25 : mjmp k_43 K 25 ls r rem st = K 25 (mproj [0] ls) r rem st := (rfl)
theorem a_43_30 {C : mCall} {K : mK} : mat P_RX7 0 sg_ k_43 [] C K post 30 ls r rem st = mblk P_RX7 0 sg_ C (mjmp k_43 K) (mexc [] K post k_43) post [.inl (.ireturn, 1)] 30 ls r rem st := (rfl)
theorem j_43_30 : mjmp k_43 K 30 ls r rem st = K 30 (mproj [] ls) r rem st := (rfl)
theorem a_44_0 {C : mCall} {K : mK} : mat P_RX7 0 sg_ k_44 [] C K post 0 ls r rem st = mblk P_RX7 0 sg_ C (mjmp k_44 K) (mexc [] K post k_44) post [.inl (.iconst 0, 1), .inl (.istore_n 3, 1)] 0 ls r rem st := (rfl)
theorem j_44_0 : mjmp k_44 K 0 ls r rem st = K 0 (mproj [0, 1, 2] ls) r rem st := (rfl)
theorem a_44_2 {C : mCall} {K : mK} : mat P_RX7 0 sg_ k_44 [] C K post 2 ls r rem st = mblk P_RX7 0 sg_ C (mjmp k_44 K) (mexc [] K post k_44) post [.inl (.iload_n 3, 1), .inl (.iload_n 2, 1), .inl (.if_icmp .ge 15, 3), .inl (.aload_n 1, 1), .inl (.iload_n 3, 1), .inl (.aload_n 0, 1), .inl (.iload_n 3, 1), .inl (.iaload, 1), .inl (.iastore, 1), .inl (.iinc 3 1, 3), .inl (.goto (-14), 3)] 2 ls r rem st := (rfl)
theorem j_44_2 : mjmp k_44 K 2 ls r rem st = K 2 (mproj [0, 1, 2, 3] ls) r rem st := (rfl)
theorem cge_4_15 {a b : Int} : mstep P rt sg C J X post (.if_icmp .ge 15) 4 ls (mi b :: mi a :: r) rem st nx = ((mcmp .ge a b → J 19 ls r rem st) ∧ (¬ mcmp .ge a b → nx ls r rem st)) := e_icmp rfl
theorem g_16_m14 : mstep P rt sg C J X post (.goto (-14)) 16 ls r rem st nx = J 2 ls r rem st := e_goto rfl
theorem a_44_19 {C : mCall} {K : mK} : mat P_RX7 0 sg_ k_44 [] C K post 19 ls r rem st = mblk P_RX7 0 sg_ C (mjmp k_44 K) (mexc [] K post k_44) post [.inl (.return_, 1)] 19 ls r rem st := (rfl)
theorem j_44_19 : mjmp k_44 K 19 ls r rem st = K 19 (mproj [] ls) r rem st := (rfl)
theorem a_45_0 {C : mCall} {K : mK} : mat P_RX7 0 sg_ k_45 [] C K post 0 ls r rem st = mblk P_RX7 0 sg_ C (mjmp k_45 K) (mexc [] K post k_45) post [.inl (.iconst 0, 1), .inl (.istore_n 1, 1), .inl (.iconst 0, 1), .inl (.istore_n 2, 1)] 0 ls r rem st := (rfl)
theorem j_45_0 : mjmp k_45 K 0 ls r rem st = K 0 (mproj [0] ls) r rem st := (rfl)
theorem a_45_4 {C : mCall} {K : mK} : mat P_RX7 0 sg_ k_45 [] C K post 4 ls r rem st = mblk P_RX7 0 sg_ C (mjmp k_45 K) (mexc [] K post k_45) post [.inl (.iload_n 2, 1), .inl (.sipush 1000, 3), .inl (.if_icmp .ge 77, 3), .inl (.iload_n 1, 1), .inl (.iconst 4, 1), .inl (.if_icmp .ge 72, 3), .inl (.iconst 0, 1), .inl (.istore_n 3, 1)] 4 ls r rem st := (rfl)
theorem j_45_4 : mjmp k_45 K 4 ls r rem st = K 4 (mproj [0, 1, 2] ls) r rem st := (rfl)
theorem cge_8_77 {a b : Int} : mstep P rt sg C J X post (.if_icmp .ge 77) 8 ls (mi b :: mi a :: r) rem st nx = ((mcmp .ge a b → J 85 ls r rem st) ∧ (¬ mcmp .ge a b → nx ls r rem st)) := e_icmp rfl
theorem cge_13_72 {a b : Int} : mstep P rt sg C J X post (.if_icmp .ge 72) 13 ls (mi b :: mi a :: r) rem st nx = ((mcmp .ge a b → J 85 ls r rem st) ∧ (¬ mcmp .ge a b → nx ls r rem st)) := e_icmp rfl
theorem a_45_18 {C : mCall} {K : mK} : mat P_RX7 0 sg_ k_45 [] C K post 18 ls r rem st = mblk P_RX7 0 sg_ C (mjmp k_45 K) (mexc [] K post k_45) post [.inl (.iload_n 3, 1), .inl (.aload_n 0, 1), .inl (.getfield 103, 3), .inl (.if_icmp .ge 56, 3), .inl (.iload_n 1, 1), .inl (.iconst 4, 1), .inl (.if_icmp .ge 51, 3), .inl (.aload_n 0, 1), .inl (.getfield 51, 3), .inl (.iload_n 3, 1), .inl (.iaload, 1), .inl (.iload_n 2, 1), .inl (.if_icmp .ne 35, 3), .inl (.aload_n 0, 1), .inl (.getfield 57, 3), .inl (.iload_n 3, 1), .inl (.iaload, 1), .inl (.bipush 112, 2), .inl (.if_icmp .ne 24, 3), .inl (.aload_n 0, 1), .inl (.iload_n 3, 1), .inl (.invokevirtual 121, 3), .inl (.ifCond .eq 6, 3), .inl (.goto 13, 3)] 18 ls r rem st := (rfl)
theorem j_45_18 : mjmp k_45 K 18 ls r rem st = K 18 (mproj [0, 1, 2, 3] ls) r rem st := (rfl)
theorem cge_23_56 {a b : Int} : mstep P rt sg C J X post (.if_icmp .ge 56) 23 ls (mi b :: mi a :: r) rem st nx = ((mcmp .ge a b → J 79 ls r rem st) ∧ (¬ mcmp .ge a b → nx ls r rem st)) := e_icmp rfl
theorem cge_28_51 {a b : Int} : mstep P rt sg C J X post (.if_icmp .ge 51) 28 ls (mi b :: mi a :: r) rem st nx = ((mcmp .ge a b → J 79 ls r rem st) ∧ (¬ mcmp .ge a b → nx ls r rem st)) := e_icmp rfl
theorem cne_38_35 {a b : Int} : mstep P rt sg C J X post (.if_icmp .ne 35) 38 ls (mi b :: mi a :: r) rem st nx = ((mcmp .ne a b → J 73 ls r rem st) ∧ (¬ mcmp .ne a b → nx ls r rem st)) := e_icmp rfl
theorem cne_49_24 {a b : Int} : mstep P rt sg C J X post (.if_icmp .ne 24) 49 ls (mi b :: mi a :: r) rem st nx = ((mcmp .ne a b → J 73 ls r rem st) ∧ (¬ mcmp .ne a b → nx ls r rem st)) := e_icmp rfl
theorem zeq_57_6 {a : Int} : mstep P rt sg C J X post (.ifCond .eq 6) 57 ls (mi a :: r) rem st nx = ((mcmp .eq a 0 → J 63 ls r rem st) ∧ (¬ mcmp .eq a 0 → nx ls r rem st)) := e_ifc rfl
theorem g_60_13 : mstep P rt sg C J X post (.goto 13) 60 ls r rem st nx = J 73 ls r rem st := e_goto rfl
theorem a_45_63 {C : mCall} {K : mK} : mat P_RX7 0 sg_ k_45 [] C K post 63 ls r rem st = mblk P_RX7 0 sg_ C (mjmp k_45 K) (mexc [] K post k_45) post [.inl (.aload_n 0, 1), .inl (.getfield 75, 3), .inl (.iload_n 1, 1), .inl (.iload_n 3, 1), .inl (.iastore, 1), .inl (.iinc 1 1, 3)] 63 ls r rem st := (rfl)
theorem j_45_63 : mjmp k_45 K 63 ls r rem st = K 63 (mproj [0, 1, 2, 3] ls) r rem st := (rfl)
theorem f_RX7_75_30 {i : Nat} {f : mV → Prop} : mGet P_RX7 75 30 i st f = f (mr 50 i) := (rfl)
theorem a_45_73 {C : mCall} {K : mK} : mat P_RX7 0 sg_ k_45 [] C K post 73 ls r rem st = mblk P_RX7 0 sg_ C (mjmp k_45 K) (mexc [] K post k_45) post [.inl (.iinc 3 1, 3), .inl (.goto (-58), 3)] 73 ls r rem st := (rfl)
theorem j_45_73 : mjmp k_45 K 73 ls r rem st = K 73 (mproj [0, 1, 2, 3] ls) r rem st := (rfl)
theorem g_76_m58 : mstep P rt sg C J X post (.goto (-58)) 76 ls r rem st nx = J 18 ls r rem st := e_goto rfl
theorem a_45_79 {C : mCall} {K : mK} : mat P_RX7 0 sg_ k_45 [] C K post 79 ls r rem st = mblk P_RX7 0 sg_ C (mjmp k_45 K) (mexc [] K post k_45) post [.inl (.iinc 2 1, 3), .inl (.goto (-78), 3)] 79 ls r rem st := (rfl)
theorem j_45_79 : mjmp k_45 K 79 ls r rem st = K 79 (mproj [0, 1, 2] ls) r rem st := (rfl)
theorem g_82_m78 : mstep P rt sg C J X post (.goto (-78)) 82 ls r rem st nx = J 4 ls r rem st := e_goto rfl
theorem a_45_85 {C : mCall} {K : mK} : mat P_RX7 0 sg_ k_45 [] C K post 85 ls r rem st = mblk P_RX7 0 sg_ C (mjmp k_45 K) (mexc [] K post k_45) post [.inl (.iload_n 1, 1), .inl (.ireturn, 1)] 85 ls r rem st := (rfl)
theorem j_45_85 : mjmp k_45 K 85 ls r rem st = K 85 (mproj [1] ls) r rem st := (rfl)
theorem a_46_0 {C : mCall} {K : mK} : mat P_RX7 1 sg_ k_46 [] C K post 0 ls r rem st = mblk P_RX7 1 sg_ C (mjmp k_46 K) (mexc [] K post k_46) post [.inl (.iload_n 1, 1), .inl (.iconst 2, 1), .inl (.isub, 1), .inl (.istore_n 2, 1)] 0 ls r rem st := (rfl)
theorem j_46_0 : mjmp k_46 K 0 ls r rem st = K 0 (mproj [0, 1] ls) r rem st := (rfl)
theorem a_46_4 {C : mCall} {K : mK} : mat P_RX7 1 sg_ k_46 [] C K post 4 ls r rem st = mblk P_RX7 1 sg_ C (mjmp k_46 K) (mexc [] K post k_46) post [.inl (.iload_n 2, 1), .inl (.ifCond .lt 26, 3), .inl (.aload_n 0, 1), .inl (.getfield 78, 3), .inl (.iload_n 2, 1), .inl (.iaload, 1), .inl (.aload_n 0, 1), .inl (.getfield 78, 3), .inl (.iload_n 2, 1), .inl (.iconst 1, 1), .inl (.iadd, 1), .inl (.iaload, 1), .inl (.if_icmp .le 9, 3), .inl (.iinc 2 (-1), 3), .inl (.goto (-24), 3)] 4 ls r rem st := (rfl)
theorem j_46_4 : mjmp k_46 K 4 ls r rem st = K 4 (mproj [0, 1, 2] ls) r rem st := (rfl)
theorem zlt_5_26 {a : Int} : mstep P rt sg C J X post (.ifCond .lt 26) 5 ls (mi a :: r) rem st nx = ((mcmp .lt a 0 → J 31 ls r rem st) ∧ (¬ mcmp .lt a 0 → nx ls r rem st)) := e_ifc rfl
theorem f_RX7_78_30 {i : Nat} {f : mV → Prop} : mGet P_RX7 78 30 i st f = f (mr 51 i) := (rfl)
theorem cle_22_9 {a b : Int} : mstep P rt sg C J X post (.if_icmp .le 9) 22 ls (mi b :: mi a :: r) rem st nx = ((mcmp .le a b → J 31 ls r rem st) ∧ (¬ mcmp .le a b → nx ls r rem st)) := e_icmp rfl
theorem g_28_m24 : mstep P rt sg C J X post (.goto (-24)) 28 ls r rem st nx = J 4 ls r rem st := e_goto rfl
theorem a_46_31 {C : mCall} {K : mK} : mat P_RX7 1 sg_ k_46 [] C K post 31 ls r rem st = mblk P_RX7 1 sg_ C (mjmp k_46 K) (mexc [] K post k_46) post [.inl (.iload_n 2, 1), .inl (.ifCond .ge 5, 3), .inl (.iconst 0, 1), .inl (.ireturn, 1)] 31 ls r rem st := (rfl)
theorem j_46_31 : mjmp k_46 K 31 ls r rem st = K 31 (mproj [0, 1, 2] ls) r rem st := (rfl)
theorem zge_32_5 {a : Int} : mstep P rt sg C J X post (.ifCond .ge 5) 32 ls (mi a :: r) rem st nx = ((mcmp .ge a 0 → J 37 ls r rem st) ∧ (¬ mcmp .ge a 0 → nx ls r rem st)) := e_ifc rfl
theorem a_46_37 {C : mCall} {K : mK} : mat P_RX7 1 sg_ k_46 [] C K post 37 ls r rem st = mblk P_RX7 1 sg_ C (mjmp k_46 K) (mexc [] K post k_46) post [.inl (.iload_n 1, 1), .inl (.iconst 1, 1), .inl (.isub, 1), .inl (.istore_n 3, 1)] 37 ls r rem st := (rfl)
theorem j_46_37 : mjmp k_46 K 37 ls r rem st = K 37 (mproj [0, 1, 2] ls) r rem st := (rfl)
theorem a_46_41 {C : mCall} {K : mK} : mat P_RX7 1 sg_ k_46 [] C K post 41 ls r rem st = mblk P_RX7 1 sg_ C (mjmp k_46 K) (mexc [] K post k_46) post [.inl (.aload_n 0, 1), .inl (.getfield 78, 3), .inl (.iload_n 3, 1), .inl (.iaload, 1), .inl (.aload_n 0, 1), .inl (.getfield 78, 3), .inl (.iload_n 2, 1), .inl (.iaload, 1), .inl (.if_icmp .ge 9, 3), .inl (.iinc 3 (-1), 3), .inl (.goto (-18), 3)] 41 ls r rem st := (rfl)
theorem j_46_41 : mjmp k_46 K 41 ls r rem st = K 41 (mproj [0, 1, 2, 3] ls) r rem st := (rfl)
theorem cge_53_9 {a b : Int} : mstep P rt sg C J X post (.if_icmp .ge 9) 53 ls (mi b :: mi a :: r) rem st nx = ((mcmp .ge a b → J 62 ls r rem st) ∧ (¬ mcmp .ge a b → nx ls r rem st)) := e_icmp rfl
theorem g_59_m18 : mstep P rt sg C J X post (.goto (-18)) 59 ls r rem st nx = J 41 ls r rem st := e_goto rfl
theorem a_46_62 {C : mCall} {K : mK} : mat P_RX7 1 sg_ k_46 [] C K post 62 ls r rem st = mblk P_RX7 1 sg_ C (mjmp k_46 K) (mexc [] K post k_46) post [.inl (.aload_n 0, 1), .inl (.iload_n 2, 1), .inl (.iload_n 3, 1), .inl (.invokevirtual 189, 3), .inl (.iload_n 2, 1), .inl (.iconst 1, 1), .inl (.iadd, 1), .inl (.istore 4, 2), .inl (.iload_n 1, 1), .inl (.iconst 1, 1), .inl (.isub, 1), .inl (.istore 5, 2)] 62 ls r rem st := (rfl)
theorem j_46_62 : mjmp k_46 K 62 ls r rem st = K 62 (mproj [0, 1, 2, 3] ls) r rem st := (rfl)
theorem v_RX7_189_30 {a1 a2 : mV} {i : Nat} : mstep P_RX7 rt sg_ C J X post (.invokevirtual 189) pc ls (a2 :: a1 :: mr 30 i :: r) rem st nx = cond (mroom r) (0 ≤ rem.1 ∧ 0 ≤ rem.2 ∧ C 47 [mr 30 i, a1, a2] st (mck X pc ls r (rem.1 - 0, rem.2 - 0) nx)) False := (rfl)
theorem a_46_78 {C : mCall} {K : mK} : mat P_RX7 1 sg_ k_46 [] C K post 78 ls r rem st = mblk P_RX7 1 sg_ C (mjmp k_46 K) (mexc [] K post k_46) post [.inl (.iload 4, 2), .inl (.iload 5, 2), .inl (.if_icmp .ge 20, 3), .inl (.aload_n 0, 1), .inl (.iload 4, 2), .inl (.iload 5, 2), .inl (.invokevirtual 189, 3), .inl (.iinc 5 (-1), 3), .inl (.iinc 4 1, 3), .inl (.goto (-21), 3)] 78 ls r rem st := (rfl)
theorem j_46_78 : mjmp k_46 K 78 ls r rem st = K 78 (mproj [0, 4, 5] ls) r rem st := (rfl)
theorem cge_82_20 {a b : Int} : mstep P rt sg C J X post (.if_icmp .ge 20) 82 ls (mi b :: mi a :: r) rem st nx = ((mcmp .ge a b → J 102 ls r rem st) ∧ (¬ mcmp .ge a b → nx ls r rem st)) := e_icmp rfl
theorem g_99_m21 : mstep P rt sg C J X post (.goto (-21)) 99 ls r rem st nx = J 78 ls r rem st := e_goto rfl
theorem a_46_102 {C : mCall} {K : mK} : mat P_RX7 1 sg_ k_46 [] C K post 102 ls r rem st = mblk P_RX7 1 sg_ C (mjmp k_46 K) (mexc [] K post k_46) post [.inl (.iconst 1, 1), .inl (.ireturn, 1)] 102 ls r rem st := (rfl)
theorem j_46_102 : mjmp k_46 K 102 ls r rem st = K 102 (mproj [] ls) r rem st := (rfl)
theorem a_47_0 {C : mCall} {K : mK} : mat P_RX7 0 sg_ k_47 [] C K post 0 ls r rem st = mblk P_RX7 0 sg_ C (mjmp k_47 K) (mexc [] K post k_47) post [.inl (.aload_n 0, 1), .inl (.getfield 78, 3), .inl (.iload_n 1, 1), .inl (.iaload, 1), .inl (.istore_n 3, 1), .inl (.aload_n 0, 1), .inl (.getfield 78, 3), .inl (.iload_n 1, 1), .inl (.aload_n 0, 1), .inl (.getfield 78, 3), .inl (.iload_n 2, 1), .inl (.iaload, 1), .inl (.iastore, 1), .inl (.aload_n 0, 1), .inl (.getfield 78, 3), .inl (.iload_n 2, 1), .inl (.iload_n 3, 1), .inl (.iastore, 1), .inl (.return_, 1)] 0 ls r rem st := (rfl)
theorem j_47_0 : mjmp k_47 K 0 ls r rem st = K 0 (mproj [0, 1, 2] ls) r rem st := (rfl)
theorem a_48_0 {C : mCall} {K : mK} : mat P_RX7 0 sg_ k_48 [] C K post 0 ls r rem st = mblk P_RX7 0 sg_ C (mjmp k_48 K) (mexc [] K post k_48) post [.inl (.aload_n 0, 1), .inl (.iconst 0, 1), .inl (.putfield 93, 3), .inl (.aload_n 0, 1), .inl (.invokevirtual 192, 3), .inl (.istore_n 1, 1), .inl (.iconst 0, 1), .inl (.istore_n 2, 1)] 0 ls r rem st := (rfl)
theorem j_48_0 : mjmp k_48 K 0 ls r rem st = K 0 (mproj [0] ls) r rem st := (rfl)
theorem v_RX7_192_30  {i : Nat} : mstep P_RX7 rt sg_ C J X post (.invokevirtual 192) pc ls (mr 30 i :: r) rem st nx = cond (mroom r) (0 ≤ rem.1 ∧ 0 ≤ rem.2 ∧ C 45 [mr 30 i] st (mck X pc ls r (rem.1 - 0, rem.2 - 0) nx)) False := (rfl)
theorem a_48_12 {C : mCall} {K : mK} : mat P_RX7 0 sg_ k_48 [] C K post 12 ls r rem st = mblk P_RX7 0 sg_ C (mjmp k_48 K) (mexc [] K post k_48) post [.inl (.iload_n 2, 1), .inl (.iload_n 1, 1), .inl (.if_icmp .ge 16, 3), .inl (.aload_n 0, 1), .inl (.getfield 78, 3), .inl (.iload_n 2, 1), .inl (.iload_n 2, 1), .inl (.iastore, 1), .inl (.iinc 2 1, 3), .inl (.goto (-15), 3)] 12 ls r rem st := (rfl)
theorem j_48_12 : mjmp k_48 K 12 ls r rem st = K 12 (mproj [0, 1, 2] ls) r rem st := (rfl)
theorem cge_14_16 {a b : Int} : mstep P rt sg C J X post (.if_icmp .ge 16) 14 ls (mi b :: mi a :: r) rem st nx = ((mcmp .ge a b → J 30 ls r rem st) ∧ (¬ mcmp .ge a b → nx ls r rem st)) := e_icmp rfl
theorem g_27_m15 : mstep P rt sg C J X post (.goto (-15)) 27 ls r rem st nx = J 12 ls r rem st := e_goto rfl
theorem a_48_30 {C : mCall} {K : mK} : mat P_RX7 0 sg_ k_48 [] C K post 30 ls r rem st = mblk P_RX7 0 sg_ C (mjmp k_48 K) (mexc [] K post k_48) post [.inl (.aload_n 0, 1), .inl (.getfield 60, 3), .inl (.aload_n 0, 1), .inl (.getfield 81, 3), .inl (.bipush 72, 2), .inl (.invokestatic 195, 3), .inl (.aload_n 0, 1), .inl (.getfield 57, 3), .inl (.aload_n 0, 1), .inl (.getfield 84, 3), .inl (.bipush 24, 2), .inl (.invokestatic 195, 3), .inl (.ldc 201, 2), .inl (.istore_n 2, 1), .inl (.iconst 1, 1), .inl (.istore_n 3, 1)] 30 ls r rem st := (rfl)
theorem j_48_30 : mjmp k_48 K 30 ls r rem st = K 30 (mproj [0, 1] ls) r rem st := (rfl)
theorem f_RX7_81_30 {i : Nat} {f : mV → Prop} : mGet P_RX7 81 30 i st f = f (mr 52 i) := (rfl)
theorem v_RX7_195 {a0 a1 a2 : mV} : mstep P_RX7 rt sg_ C J X post (.invokestatic 195) pc ls (a2 :: a1 :: a0 :: r) rem st nx = cond (mroom r) (0 ≤ rem.1 ∧ 0 ≤ rem.2 ∧ C 44 [a0, a1, a2] st (mck X pc ls r (rem.1 - 0, rem.2 - 0) nx)) False := (rfl)
theorem f_RX7_84_30 {i : Nat} {f : mV → Prop} : mGet P_RX7 84 30 i st f = f (mr 53 i) := (rfl)
theorem ld_RX7_201 : mstep P_RX7 rt sg C J X post (.ldc 201) pc ls r rem st nx = nx ls (mi 2147483647 :: r) rem st := (rfl)
theorem a_48_61 {C : mCall} {K : mK} : mat P_RX7 0 sg_ k_48 [] C K post 61 ls r rem st = mblk P_RX7 0 sg_ C (mjmp k_48 K) (mexc [] K post k_48) post [.inl (.iload_n 3, 1), .inl (.ifCond .eq 149, 3), .inl (.aload_n 0, 1), .inl (.getfield 81, 3), .inl (.aload_n 0, 1), .inl (.getfield 60, 3), .inl (.bipush 72, 2), .inl (.invokestatic 195, 3), .inl (.aload_n 0, 1), .inl (.getfield 84, 3), .inl (.aload_n 0, 1), .inl (.getfield 57, 3), .inl (.bipush 24, 2), .inl (.invokestatic 195, 3), .inl (.iconst 0, 1), .inl (.istore 4, 2), .inl (.iconst 0, 1), .inl (.istore 5, 2)] 61 ls r rem st := (rfl)
theorem j_48_61 : mjmp k_48 K 61 ls r rem st = K 61 (mproj [0, 1, 2, 3] ls) r rem st := (rfl)
theorem zeq_62_149 {a : Int} : mstep P rt sg C J X post (.ifCond .eq 149) 62 ls (mi a :: r) rem st nx = ((mcmp .eq a 0 → J 211 ls r rem st) ∧ (¬ mcmp .eq a 0 → nx ls r rem st)) := e_ifc rfl
theorem a_48_97 {C : mCall} {K : mK} : mat P_RX7 0 sg_ k_48 [] C K post 97 ls r rem st = mblk P_RX7 0 sg_ C (mjmp k_48 K) (mexc [] K post k_48) post [.inl (.iload 5, 2), .inl (.iload_n 1, 1), .inl (.if_icmp .ge 54, 3), .inl (.aload_n 0, 1), .inl (.getfield 75, 3), .inl (.aload_n 0, 1), .inl (.getfield 78, 3), .inl (.iload 5, 2), .inl (.iaload, 1), .inl (.iaload, 1), .inl (.istore 6, 2), .inl (.aload_n 0, 1), .inl (.iload 6, 2), .inl (.invokevirtual 186, 3), .inl (.ifCond .eq 15, 3), .inl (.iload 4, 2), .inl (.aload_n 0, 1), .inl (.getfield 179, 3), .inl (.iadd, 1), .inl (.istore 4, 2), .inl (.goto 13, 3)] 97 ls r rem st := (rfl)
theorem j_48_97 : mjmp k_48 K 97 ls r rem st = K 97 (mproj [0, 1, 2, 4, 5] ls) r rem st := (rfl)
theorem cge_100_54 {a b : Int} : mstep P rt sg C J X post (.if_icmp .ge 54) 100 ls (mi b :: mi a :: r) rem st nx = ((mcmp .ge a b → J 154 ls r rem st) ∧ (¬ mcmp .ge a b → nx ls r rem st)) := e_icmp rfl
theorem zeq_123_15 {a : Int} : mstep P rt sg C J X post (.ifCond .eq 15) 123 ls (mi a :: r) rem st nx = ((mcmp .eq a 0 → J 138 ls r rem st) ∧ (¬ mcmp .eq a 0 → nx ls r rem st)) := e_ifc rfl
theorem g_135_13 : mstep P rt sg C J X post (.goto 13) 135 ls r rem st nx = J 148 ls r rem st := e_goto rfl
theorem a_48_138 {C : mCall} {K : mK} : mat P_RX7 0 sg_ k_48 [] C K post 138 ls r rem st = mblk P_RX7 0 sg_ C (mjmp k_48 K) (mexc [] K post k_48) post [.inl (.aload_n 0, 1), .inl (.iload 6, 2), .inl (.invokevirtual 125, 3), .inl (.pop, 1), .inl (.iinc 4 100, 3)] 138 ls r rem st := (rfl)
theorem j_48_138 : mjmp k_48 K 138 ls r rem st = K 138 (mproj [0, 1, 2, 4, 5, 6] ls) r rem st := (rfl)
theorem a_48_148 {C : mCall} {K : mK} : mat P_RX7 0 sg_ k_48 [] C K post 148 ls r rem st = mblk P_RX7 0 sg_ C (mjmp k_48 K) (mexc [] K post k_48) post [.inl (.iinc 5 1, 3), .inl (.goto (-54), 3)] 148 ls r rem st := (rfl)
theorem j_48_148 : mjmp k_48 K 148 ls r rem st = K 148 (mproj [0, 1, 2, 4, 5] ls) r rem st := (rfl)
theorem g_151_m54 : mstep P rt sg C J X post (.goto (-54)) 151 ls r rem st nx = J 97 ls r rem st := e_goto rfl
theorem a_48_154 {C : mCall} {K : mK} : mat P_RX7 0 sg_ k_48 [] C K post 154 ls r rem st = mblk P_RX7 0 sg_ C (mjmp k_48 K) (mexc [] K post k_48) post [.inl (.iload 4, 2), .inl (.iload_n 2, 1), .inl (.if_icmp .ge 32, 3), .inl (.iload 4, 2), .inl (.istore_n 2, 1), .inl (.aload_n 0, 1), .inl (.getfield 60, 3), .inl (.aload_n 0, 1), .inl (.getfield 87, 3), .inl (.bipush 72, 2), .inl (.invokestatic 195, 3), .inl (.aload_n 0, 1), .inl (.getfield 57, 3), .inl (.aload_n 0, 1), .inl (.getfield 90, 3), .inl (.bipush 24, 2), .inl (.invokestatic 195, 3)] 154 ls r rem st := (rfl)
theorem j_48_154 : mjmp k_48 K 154 ls r rem st = K 154 (mproj [0, 1, 2, 4] ls) r rem st := (rfl)
theorem cge_157_32 {a b : Int} : mstep P rt sg C J X post (.if_icmp .ge 32) 157 ls (mi b :: mi a :: r) rem st nx = ((mcmp .ge a b → J 189 ls r rem st) ∧ (¬ mcmp .ge a b → nx ls r rem st)) := e_icmp rfl
theorem f_RX7_87_30 {i : Nat} {f : mV → Prop} : mGet P_RX7 87 30 i st f = f (mr 54 i) := (rfl)
theorem f_RX7_90_30 {i : Nat} {f : mV → Prop} : mGet P_RX7 90 30 i st f = f (mr 55 i) := (rfl)
theorem a_48_189 {C : mCall} {K : mK} : mat P_RX7 0 sg_ k_48 [] C K post 189 ls r rem st = mblk P_RX7 0 sg_ C (mjmp k_48 K) (mexc [] K post k_48) post [.inl (.iload_n 1, 1), .inl (.iconst 1, 1), .inl (.if_icmp .le 15, 3), .inl (.aload_n 0, 1), .inl (.iload_n 1, 1), .inl (.invokevirtual 202, 3), .inl (.ifCond .eq 7, 3), .inl (.iconst 1, 1), .inl (.goto 4, 3)] 189 ls r rem st := (rfl)
theorem j_48_189 : mjmp k_48 K 189 ls r rem st = K 189 (mproj [0, 1, 2] ls) r rem st := (rfl)
theorem cle_191_15 {a b : Int} : mstep P rt sg C J X post (.if_icmp .le 15) 191 ls (mi b :: mi a :: r) rem st nx = ((mcmp .le a b → J 206 ls r rem st) ∧ (¬ mcmp .le a b → nx ls r rem st)) := e_icmp rfl
theorem v_RX7_202_30 {a1 : mV} {i : Nat} : mstep P_RX7 rt sg_ C J X post (.invokevirtual 202) pc ls (a1 :: mr 30 i :: r) rem st nx = cond (mroom r) (0 ≤ rem.1 ∧ 0 ≤ rem.2 ∧ C 46 [mr 30 i, a1] st (mck X pc ls r (rem.1 - 0, rem.2 - 0) nx)) False := (rfl)
theorem zeq_199_7 {a : Int} : mstep P rt sg C J X post (.ifCond .eq 7) 199 ls (mi a :: r) rem st nx = ((mcmp .eq a 0 → J 206 ls r rem st) ∧ (¬ mcmp .eq a 0 → nx ls r rem st)) := e_ifc rfl
theorem g_203_4 : mstep P rt sg C J X post (.goto 4) 203 ls r rem st nx = J 207 ls r rem st := e_goto rfl
theorem a_48_206 {C : mCall} {K : mK} : mat P_RX7 0 sg_ k_48 [] C K post 206 ls r rem st = mblk P_RX7 0 sg_ C (mjmp k_48 K) (mexc [] K post k_48) post [.inl (.iconst 0, 1)] 206 ls r rem st := (rfl)
theorem j_48_206 : mjmp k_48 K 206 ls r rem st = K 206 (mproj [0, 1, 2] ls) r rem st := (rfl)
theorem a_48_207 {C : mCall} {K : mK} : mat P_RX7 0 sg_ k_48 [] C K post 207 ls r rem st = mblk P_RX7 0 sg_ C (mjmp k_48 K) (mexc [] K post k_48) post [.inl (.istore_n 3, 1), .inl (.goto (-147), 3)] 207 ls r rem st := (rfl)
theorem j_48_207 : mjmp k_48 K 207 ls r rem st = K 207 (mproj [0, 1, 2] ls) r rem st := (rfl)
theorem g_208_m147 : mstep P rt sg C J X post (.goto (-147)) 208 ls r rem st nx = J 61 ls r rem st := e_goto rfl
theorem a_48_211 {C : mCall} {K : mK} : mat P_RX7 0 sg_ k_48 [] C K post 211 ls r rem st = mblk P_RX7 0 sg_ C (mjmp k_48 K) (mexc [] K post k_48) post [.inl (.aload_n 0, 1), .inl (.getfield 87, 3), .inl (.aload_n 0, 1), .inl (.getfield 60, 3), .inl (.bipush 72, 2), .inl (.invokestatic 195, 3), .inl (.aload_n 0, 1), .inl (.getfield 90, 3), .inl (.aload_n 0, 1), .inl (.getfield 57, 3), .inl (.bipush 24, 2), .inl (.invokestatic 195, 3), .inl (.iload_n 2, 1), .inl (.bipush 100, 2), .inl (.idiv, 1), .inl (.ireturn, 1)] 211 ls r rem st := (rfl)
theorem j_48_211 : mjmp k_48 K 211 ls r rem st = K 211 (mproj [0, 2] ls) r rem st := (rfl)
theorem a_49_0 {C : mCall} {K : mK} : mat P_RX7 2 sg_ k_49 [] C K post 0 ls r rem st = mblk P_RX7 2 sg_ C (mjmp k_49 K) (mexc [] K post k_49) post [.inl (.aload_n 0, 1), .inl (.aload_n 0, 1), .inl (.iload_n 1, 1), .inl (.invokevirtual 170, 3), .inl (.ifCond .eq 7, 3), .inl (.iconst 0, 1), .inl (.goto 4, 3)] 0 ls r rem st := (rfl)
theorem j_49_0 : mjmp k_49 K 0 ls r rem st = K 0 (mproj [0, 1] ls) r rem st := (rfl)
theorem zeq_6_7 {a : Int} : mstep P rt sg C J X post (.ifCond .eq 7) 6 ls (mi a :: r) rem st nx = ((mcmp .eq a 0 → J 13 ls r rem st) ∧ (¬ mcmp .eq a 0 → nx ls r rem st)) := e_ifc rfl
theorem g_10_4 : mstep P rt sg C J X post (.goto 4) 10 ls r rem st nx = J 14 ls r rem st := e_goto rfl
theorem a_49_13 {C : mCall} {K : mK} : mat P_RX7 2 sg_ k_49 [] C K post 13 ls r rem st = mblk P_RX7 2 sg_ C (mjmp k_49 K) (mexc [] K post k_49) post [.inl (.iconst 1, 1)] 13 ls r rem st := (rfl)
theorem j_49_13 : mjmp k_49 K 13 ls r rem st = K 13 (mproj [0, 1] ls) r rem st := (rfl)
theorem a_49_14 {C : mCall} {K : mK} : mat P_RX7 2 sg_ k_49 [] C K post 14 ls r rem st = mblk P_RX7 2 sg_ C (mjmp k_49 K) (mexc [] K post k_49) post [.inl (.putfield 93, 3), .inl (.aload_n 0, 1), .inl (.getfield 93, 3), .inl (.ifCond .le 7, 3), .inl (.iconst 0, 1), .inl (.goto 9, 3)] 14 ls r rem st := (rfl)
theorem j_49_14 : mjmp k_49 K 14 ls r rem st = K 14 (mproj [0, 1] ls) r rem st := (rfl)
theorem zle_21_7 {a : Int} : mstep P rt sg C J X post (.ifCond .le 7) 21 ls (mi a :: r) rem st nx = ((mcmp .le a 0 → J 28 ls r rem st) ∧ (¬ mcmp .le a 0 → nx ls r rem st)) := e_ifc rfl
theorem g_25_9 : mstep P rt sg C J X post (.goto 9) 25 ls r rem st nx = J 34 ls r rem st := e_goto rfl
theorem a_49_28 {C : mCall} {K : mK} : mat P_RX7 2 sg_ k_49 [] C K post 28 ls r rem st = mblk P_RX7 2 sg_ C (mjmp k_49 K) (mexc [] K post k_49) post [.inl (.aload_n 0, 1), .inl (.getfield 57, 3), .inl (.iload_n 1, 1), .inl (.iaload, 1)] 28 ls r rem st := (rfl)
theorem j_49_28 : mjmp k_49 K 28 ls r rem st = K 28 (mproj [0, 1] ls) r rem st := (rfl)
theorem a_49_34 {C : mCall} {K : mK} : mat P_RX7 2 sg_ k_49 [] C K post 34 ls r rem st = mblk P_RX7 2 sg_ C (mjmp k_49 K) (mexc [] K post k_49) post [.inl (.i2c, 1), .inl (.ireturn, 1)] 34 ls r rem st := (rfl)
theorem j_49_34 : mjmp k_49 K 34 ls r rem st = K 34 (mproj [] ls) r rem st := (rfl)
theorem a_50_0 {C : mCall} {K : mK} : mat P_RX7 0 sg_ k_50 [] C K post 0 ls r rem st = mblk P_RX7 0 sg_ C (mjmp k_50 K) (mexc [] K post k_50) post [.inl (.aload_n 0, 1), .inl (.iload_n 1, 1), .inl (.invokevirtual 170, 3), .inl (.ifCond .ne 9, 3), .inl (.aload_n 0, 1), .inl (.iconst 1, 1), .inl (.invokevirtual 109, 3), .inl (.ireturn, 1)] 0 ls r rem st := (rfl)
theorem j_50_0 : mjmp k_50 K 0 ls r rem st = K 0 (mproj [0, 1, 2] ls) r rem st := (rfl)
theorem a_50_14 {C : mCall} {K : mK} : mat P_RX7 0 sg_ k_50 [] C K post 14 ls r rem st = mblk P_RX7 0 sg_ C (mjmp k_50 K) (mexc [] K post k_50) post [.inl (.aload_n 0, 1), .inl (.iload_n 1, 1), .inl (.iload_n 2, 1), .inl (.invokevirtual 173, 3), .inl (.ifCond .ne 9, 3), .inl (.aload_n 0, 1), .inl (.iconst 2, 1), .inl (.invokevirtual 109, 3), .inl (.ireturn, 1)] 14 ls r rem st := (rfl)
theorem j_50_14 : mjmp k_50 K 14 ls r rem st = K 14 (mproj [0, 1, 2] ls) r rem st := (rfl)
theorem a_50_29 {C : mCall} {K : mK} : mat P_RX7 0 sg_ k_50 [] C K post 29 ls r rem st = mblk P_RX7 0 sg_ C (mjmp k_50 K) (mexc [] K post k_50) post [.inl (.aload_n 0, 1), .inl (.iconst 0, 1), .inl (.putfield 93, 3), .inl (.aload_n 0, 1), .inl (.getfield 60, 3), .inl (.iconst 3, 1), .inl (.iload_n 1, 1), .inl (.imul, 1), .inl (.iload_n 2, 1), .inl (.iadd, 1), .inl (.iaload, 1), .inl (.ireturn, 1)] 29 ls r rem st := (rfl)
theorem j_50_29 : mjmp k_50 K 29 ls r rem st = K 29 (mproj [0, 1, 2] ls) r rem st := (rfl)
theorem a_51_0 {C : mCall} {K : mK} : mat P_RX7 1 sg_ k_51 [] C K post 0 ls r rem st = mblk P_RX7 1 sg_ C (mjmp k_51 K) (mexc [] K post k_51) post [.inl (.aload_n 0, 1), .inl (.iload_n 1, 1), .inl (.invokevirtual 176, 3), .inl (.ifCond .eq 15, 3), .inl (.aload_n 0, 1), .inl (.iload_n 1, 1), .inl (.invokevirtual 121, 3), .inl (.ifCond .eq 7, 3), .inl (.iconst 1, 1), .inl (.goto 4, 3)] 0 ls r rem st := (rfl)
theorem j_51_0 : mjmp k_51 K 0 ls r rem st = K 0 (mproj [0, 1] ls) r rem st := (rfl)
theorem zeq_5_15 {a : Int} : mstep P rt sg C J X post (.ifCond .eq 15) 5 ls (mi a :: r) rem st nx = ((mcmp .eq a 0 → J 20 ls r rem st) ∧ (¬ mcmp .eq a 0 → nx ls r rem st)) := e_ifc rfl
theorem zeq_13_7 {a : Int} : mstep P rt sg C J X post (.ifCond .eq 7) 13 ls (mi a :: r) rem st nx = ((mcmp .eq a 0 → J 20 ls r rem st) ∧ (¬ mcmp .eq a 0 → nx ls r rem st)) := e_ifc rfl
theorem g_17_4 : mstep P rt sg C J X post (.goto 4) 17 ls r rem st nx = J 21 ls r rem st := e_goto rfl
theorem a_51_20 {C : mCall} {K : mK} : mat P_RX7 1 sg_ k_51 [] C K post 20 ls r rem st = mblk P_RX7 1 sg_ C (mjmp k_51 K) (mexc [] K post k_51) post [.inl (.iconst 0, 1)] 20 ls r rem st := (rfl)
theorem j_51_20 : mjmp k_51 K 20 ls r rem st = K 20 (mproj [] ls) r rem st := (rfl)
theorem a_51_21 {C : mCall} {K : mK} : mat P_RX7 1 sg_ k_51 [] C K post 21 ls r rem st = mblk P_RX7 1 sg_ C (mjmp k_51 K) (mexc [] K post k_51) post [.inl (.ireturn, 1)] 21 ls r rem st := (rfl)
theorem j_51_21 : mjmp k_51 K 21 ls r rem st = K 21 (mproj [] ls) r rem st := (rfl)
theorem a_52_0 {C : mCall} {K : mK} : mat P_RX7 0 sg_ k_52 [] C K post 0 ls r rem st = mblk P_RX7 0 sg_ C (mjmp k_52 K) (mexc [] K post k_52) post [.inl (.aload_n 0, 1), .inl (.iload_n 1, 1), .inl (.invokevirtual 170, 3), .inl (.ifCond .ne 9, 3), .inl (.aload_n 0, 1), .inl (.iconst 1, 1), .inl (.invokevirtual 109, 3), .inl (.ireturn, 1)] 0 ls r rem st := (rfl)
theorem j_52_0 : mjmp k_52 K 0 ls r rem st = K 0 (mproj [0, 1, 2, 3] ls) r rem st := (rfl)
theorem a_52_14 {C : mCall} {K : mK} : mat P_RX7 0 sg_ k_52 [] C K post 14 ls r rem st = mblk P_RX7 0 sg_ C (mjmp k_52 K) (mexc [] K post k_52) post [.inl (.aload_n 0, 1), .inl (.iload_n 1, 1), .inl (.iload_n 2, 1), .inl (.invokevirtual 173, 3), .inl (.ifCond .eq 11, 3), .inl (.aload_n 0, 1), .inl (.iload_n 3, 1), .inl (.invokevirtual 128, 3), .inl (.ifCond .ne 9, 3)] 14 ls r rem st := (rfl)
theorem j_52_14 : mjmp k_52 K 14 ls r rem st = K 14 (mproj [0, 1, 2, 3] ls) r rem st := (rfl)
theorem a_52_31 {C : mCall} {K : mK} : mat P_RX7 0 sg_ k_52 [] C K post 31 ls r rem st = mblk P_RX7 0 sg_ C (mjmp k_52 K) (mexc [] K post k_52) post [.inl (.aload_n 0, 1), .inl (.iconst 2, 1), .inl (.invokevirtual 109, 3), .inl (.ireturn, 1)] 31 ls r rem st := (rfl)
theorem j_52_31 : mjmp k_52 K 31 ls r rem st = K 31 (mproj [0] ls) r rem st := (rfl)
theorem a_52_37 {C : mCall} {K : mK} : mat P_RX7 0 sg_ k_52 [] C K post 37 ls r rem st = mblk P_RX7 0 sg_ C (mjmp k_52 K) (mexc [] K post k_52) post [.inl (.aload_n 0, 1), .inl (.getfield 57, 3), .inl (.iload_n 1, 1), .inl (.iaload, 1), .inl (.bipush 112, 2), .inl (.if_icmp .eq 9, 3), .inl (.aload_n 0, 1), .inl (.iconst 3, 1), .inl (.invokevirtual 109, 3), .inl (.ireturn, 1)] 37 ls r rem st := (rfl)
theorem j_52_37 : mjmp k_52 K 37 ls r rem st = K 37 (mproj [0, 1, 2, 3] ls) r rem st := (rfl)
theorem a_52_54 {C : mCall} {K : mK} : mat P_RX7 0 sg_ k_52 [] C K post 54 ls r rem st = mblk P_RX7 0 sg_ C (mjmp k_52 K) (mexc [] K post k_52) post [.inl (.aload_n 0, 1), .inl (.iconst 0, 1), .inl (.putfield 93, 3), .inl (.aload_n 0, 1), .inl (.iload_n 1, 1), .inl (.iload_n 2, 1), .inl (.iload_n 3, 1), .inl (.invokevirtual 166, 3), .inl (.ireturn, 1)] 54 ls r rem st := (rfl)
theorem j_52_54 : mjmp k_52 K 54 ls r rem st = K 54 (mproj [0, 1, 2, 3] ls) r rem st := (rfl)
theorem a_53_0 {C : mCall} {K : mK} : mat P_RX7 0 sg_ k_53 [] C K post 0 ls r rem st = mblk P_RX7 0 sg_ C (mjmp k_53 K) (mexc [] K post k_53) post [.inl (.aload_n 0, 1), .inl (.iload_n 1, 1), .inl (.invokevirtual 170, 3), .inl (.ifCond .ne 9, 3), .inl (.aload_n 0, 1), .inl (.iconst 1, 1), .inl (.invokevirtual 109, 3), .inl (.ireturn, 1)] 0 ls r rem st := (rfl)
theorem j_53_0 : mjmp k_53 K 0 ls r rem st = K 0 (mproj [0, 1, 2] ls) r rem st := (rfl)
theorem a_53_14 {C : mCall} {K : mK} : mat P_RX7 0 sg_ k_53 [] C K post 14 ls r rem st = mblk P_RX7 0 sg_ C (mjmp k_53 K) (mexc [] K post k_53) post [.inl (.aload_n 0, 1), .inl (.iload_n 1, 1), .inl (.iload_n 2, 1), .inl (.invokevirtual 173, 3), .inl (.ifCond .ne 9, 3), .inl (.aload_n 0, 1), .inl (.iconst 2, 1), .inl (.invokevirtual 109, 3), .inl (.ireturn, 1)] 14 ls r rem st := (rfl)
theorem j_53_14 : mjmp k_53 K 14 ls r rem st = K 14 (mproj [0, 1, 2] ls) r rem st := (rfl)
theorem a_53_29 {C : mCall} {K : mK} : mat P_RX7 0 sg_ k_53 [] C K post 29 ls r rem st = mblk P_RX7 0 sg_ C (mjmp k_53 K) (mexc [] K post k_53) post [.inl (.aload_n 0, 1), .inl (.getfield 57, 3), .inl (.iload_n 1, 1), .inl (.iaload, 1), .inl (.bipush 112, 2), .inl (.if_icmp .eq 9, 3), .inl (.aload_n 0, 1), .inl (.iconst 3, 1), .inl (.invokevirtual 109, 3), .inl (.ireturn, 1)] 29 ls r rem st := (rfl)
theorem j_53_29 : mjmp k_53 K 29 ls r rem st = K 29 (mproj [0, 1, 2] ls) r rem st := (rfl)
theorem ceq_37_9 {a b : Int} : mstep P rt sg C J X post (.if_icmp .eq 9) 37 ls (mi b :: mi a :: r) rem st nx = ((mcmp .eq a b → J 46 ls r rem st) ∧ (¬ mcmp .eq a b → nx ls r rem st)) := e_icmp rfl
theorem a_53_46 {C : mCall} {K : mK} : mat P_RX7 0 sg_ k_53 [] C K post 46 ls r rem st = mblk P_RX7 0 sg_ C (mjmp k_53 K) (mexc [] K post k_53) post [.inl (.aload_n 0, 1), .inl (.iconst 0, 1), .inl (.putfield 93, 3), .inl (.iconst 0, 1), .inl (.istore_n 3, 1), .inl (.iconst 0, 1), .inl (.istore 4, 2)] 46 ls r rem st := (rfl)
theorem j_53_46 : mjmp k_53 K 46 ls r rem st = K 46 (mproj [0, 1, 2] ls) r rem st := (rfl)
theorem a_53_56 {C : mCall} {K : mK} : mat P_RX7 0 sg_ k_53 [] C K post 56 ls r rem st = mblk P_RX7 0 sg_ C (mjmp k_53 K) (mexc [] K post k_53) post [.inl (.iload 4, 2), .inl (.aload_n 0, 1), .inl (.getfield 96, 3), .inl (.if_icmp .ge 28, 3), .inl (.iload_n 3, 1), .inl (.aload_n 0, 1), .inl (.iload_n 1, 1), .inl (.iload_n 2, 1), .inl (.iload 4, 2), .inl (.invokevirtual 166, 3), .inl (.ifCond .ne 7, 3), .inl (.iconst 1, 1), .inl (.goto 4, 3)] 56 ls r rem st := (rfl)
theorem j_53_56 : mjmp k_53 K 56 ls r rem st = K 56 (mproj [0, 1, 2, 3, 4] ls) r rem st := (rfl)
theorem cge_62_28 {a b : Int} : mstep P rt sg C J X post (.if_icmp .ge 28) 62 ls (mi b :: mi a :: r) rem st nx = ((mcmp .ge a b → J 90 ls r rem st) ∧ (¬ mcmp .ge a b → nx ls r rem st)) := e_icmp rfl
theorem zne_74_7 {a : Int} : mstep P rt sg C J X post (.ifCond .ne 7) 74 ls (mi a :: r) rem st nx = ((mcmp .ne a 0 → J 81 ls r rem st) ∧ (¬ mcmp .ne a 0 → nx ls r rem st)) := e_ifc rfl
theorem g_78_4 : mstep P rt sg C J X post (.goto 4) 78 ls r rem st nx = J 82 ls r rem st := e_goto rfl
theorem a_53_81 {C : mCall} {K : mK} : mat P_RX7 0 sg_ k_53 [] C K post 81 ls r rem st = mblk P_RX7 0 sg_ C (mjmp k_53 K) (mexc [] K post k_53) post [.inl (.iconst 0, 1)] 81 ls r rem st := (rfl)
theorem j_53_81 : mjmp k_53 K 81 ls r rem st = K 81 (mproj [0, 1, 2, 4] ls) r rem st := (rfl)
theorem a_53_82 {C : mCall} {K : mK} : mat P_RX7 0 sg_ k_53 [] C K post 82 ls r rem st = mblk P_RX7 0 sg_ C (mjmp k_53 K) (mexc [] K post k_53) post [.inl (.iadd, 1), .inl (.istore_n 3, 1), .inl (.iinc 4 1, 3), .inl (.goto (-31), 3)] 82 ls r rem st := (rfl)
theorem j_53_82 : mjmp k_53 K 82 ls r rem st = K 82 (mproj [0, 1, 2, 4] ls) r rem st := (rfl)
theorem g_87_m31 : mstep P rt sg C J X post (.goto (-31)) 87 ls r rem st nx = J 56 ls r rem st := e_goto rfl
theorem a_53_90 {C : mCall} {K : mK} : mat P_RX7 0 sg_ k_53 [] C K post 90 ls r rem st = mblk P_RX7 0 sg_ C (mjmp k_53 K) (mexc [] K post k_53) post [.inl (.iload_n 3, 1), .inl (.ireturn, 1)] 90 ls r rem st := (rfl)
theorem j_53_90 : mjmp k_53 K 90 ls r rem st = K 90 (mproj [3] ls) r rem st := (rfl)
theorem a_54_0 {C : mCall} {K : mK} : mat P_RX7 0 sg_ k_54 [] C K post 0 ls r rem st = mblk P_RX7 0 sg_ C (mjmp k_54 K) (mexc [] K post k_54) post [.inl (.aload_n 0, 1), .inl (.iconst 0, 1), .inl (.putfield 93, 3), .inl (.iconst 0, 1), .inl (.istore_n 1, 1), .inl (.iconst 0, 1), .inl (.istore_n 2, 1)] 0 ls r rem st := (rfl)
theorem j_54_0 : mjmp k_54 K 0 ls r rem st = K 0 (mproj [0] ls) r rem st := (rfl)
theorem a_54_9 {C : mCall} {K : mK} : mat P_RX7 0 sg_ k_54 [] C K post 9 ls r rem st = mblk P_RX7 0 sg_ C (mjmp k_54 K) (mexc [] K post k_54) post [.inl (.iload_n 2, 1), .inl (.aload_n 0, 1), .inl (.getfield 103, 3), .inl (.if_icmp .ge 36, 3), .inl (.iload_n 1, 1), .inl (.aload_n 0, 1), .inl (.getfield 57, 3), .inl (.iload_n 2, 1), .inl (.iaload, 1), .inl (.bipush 112, 2), .inl (.if_icmp .ne 15, 3), .inl (.aload_n 0, 1), .inl (.iload_n 2, 1), .inl (.invokevirtual 121, 3), .inl (.ifCond .ne 7, 3), .inl (.iconst 1, 1), .inl (.goto 4, 3)] 9 ls r rem st := (rfl)
theorem j_54_9 : mjmp k_54 K 9 ls r rem st = K 9 (mproj [0, 1, 2] ls) r rem st := (rfl)
theorem cge_14_36 {a b : Int} : mstep P rt sg C J X post (.if_icmp .ge 36) 14 ls (mi b :: mi a :: r) rem st nx = ((mcmp .ge a b → J 50 ls r rem st) ∧ (¬ mcmp .ge a b → nx ls r rem st)) := e_icmp rfl
theorem cne_26_15 {a b : Int} : mstep P rt sg C J X post (.if_icmp .ne 15) 26 ls (mi b :: mi a :: r) rem st nx = ((mcmp .ne a b → J 41 ls r rem st) ∧ (¬ mcmp .ne a b → nx ls r rem st)) := e_icmp rfl
theorem zne_34_7 {a : Int} : mstep P rt sg C J X post (.ifCond .ne 7) 34 ls (mi a :: r) rem st nx = ((mcmp .ne a 0 → J 41 ls r rem st) ∧ (¬ mcmp .ne a 0 → nx ls r rem st)) := e_ifc rfl
theorem g_38_4 : mstep P rt sg C J X post (.goto 4) 38 ls r rem st nx = J 42 ls r rem st := e_goto rfl
theorem a_54_41 {C : mCall} {K : mK} : mat P_RX7 0 sg_ k_54 [] C K post 41 ls r rem st = mblk P_RX7 0 sg_ C (mjmp k_54 K) (mexc [] K post k_54) post [.inl (.iconst 0, 1)] 41 ls r rem st := (rfl)
theorem j_54_41 : mjmp k_54 K 41 ls r rem st = K 41 (mproj [0, 2] ls) r rem st := (rfl)
theorem a_54_42 {C : mCall} {K : mK} : mat P_RX7 0 sg_ k_54 [] C K post 42 ls r rem st = mblk P_RX7 0 sg_ C (mjmp k_54 K) (mexc [] K post k_54) post [.inl (.iadd, 1), .inl (.istore_n 1, 1), .inl (.iinc 2 1, 3), .inl (.goto (-38), 3)] 42 ls r rem st := (rfl)
theorem j_54_42 : mjmp k_54 K 42 ls r rem st = K 42 (mproj [0, 2] ls) r rem st := (rfl)
theorem g_47_m38 : mstep P rt sg C J X post (.goto (-38)) 47 ls r rem st nx = J 9 ls r rem st := e_goto rfl
theorem a_54_50 {C : mCall} {K : mK} : mat P_RX7 0 sg_ k_54 [] C K post 50 ls r rem st = mblk P_RX7 0 sg_ C (mjmp k_54 K) (mexc [] K post k_54) post [.inl (.iload_n 1, 1), .inl (.ireturn, 1)] 50 ls r rem st := (rfl)
theorem j_54_50 : mjmp k_54 K 50 ls r rem st = K 50 (mproj [1] ls) r rem st := (rfl)
theorem a_55_0 {C : mCall} {K : mK} : mat P_RX7 0 sg_ k_55 [] C K post 0 ls r rem st = mblk P_RX7 0 sg_ C (mjmp k_55 K) (mexc [] K post k_55) post [.inl (.iload_n 1, 1), .inl (.bipush 112, 2), .inl (.if_icmp .eq 21, 3), .inl (.iload_n 1, 1), .inl (.bipush 115, 2), .inl (.if_icmp .eq 15, 3), .inl (.iload_n 1, 1), .inl (.bipush 99, 2), .inl (.if_icmp .eq 9, 3), .inl (.aload_n 0, 1), .inl (.iconst 1, 1), .inl (.invokevirtual 109, 3), .inl (.ireturn, 1)] 0 ls r rem st := (rfl)
theorem j_55_0 : mjmp k_55 K 0 ls r rem st = K 0 (mproj [0, 1] ls) r rem st := (rfl)
theorem ceq_3_21 {a b : Int} : mstep P rt sg C J X post (.if_icmp .eq 21) 3 ls (mi b :: mi a :: r) rem st nx = ((mcmp .eq a b → J 24 ls r rem st) ∧ (¬ mcmp .eq a b → nx ls r rem st)) := e_icmp rfl
theorem ceq_9_15 {a b : Int} : mstep P rt sg C J X post (.if_icmp .eq 15) 9 ls (mi b :: mi a :: r) rem st nx = ((mcmp .eq a b → J 24 ls r rem st) ∧ (¬ mcmp .eq a b → nx ls r rem st)) := e_icmp rfl
theorem ceq_15_9 {a b : Int} : mstep P rt sg C J X post (.if_icmp .eq 9) 15 ls (mi b :: mi a :: r) rem st nx = ((mcmp .eq a b → J 24 ls r rem st) ∧ (¬ mcmp .eq a b → nx ls r rem st)) := e_icmp rfl
theorem a_55_24 {C : mCall} {K : mK} : mat P_RX7 0 sg_ k_55 [] C K post 24 ls r rem st = mblk P_RX7 0 sg_ C (mjmp k_55 K) (mexc [] K post k_55) post [.inl (.aload_n 0, 1), .inl (.iconst 0, 1), .inl (.putfield 93, 3), .inl (.iconst 0, 1), .inl (.istore_n 2, 1), .inl (.iconst 0, 1), .inl (.istore_n 3, 1)] 24 ls r rem st := (rfl)
theorem j_55_24 : mjmp k_55 K 24 ls r rem st = K 24 (mproj [0, 1] ls) r rem st := (rfl)
theorem a_55_33 {C : mCall} {K : mK} : mat P_RX7 0 sg_ k_55 [] C K post 33 ls r rem st = mblk P_RX7 0 sg_ C (mjmp k_55 K) (mexc [] K post k_55) post [.inl (.iload_n 3, 1), .inl (.aload_n 0, 1), .inl (.getfield 103, 3), .inl (.if_icmp .ge 27, 3), .inl (.iload_n 2, 1), .inl (.aload_n 0, 1), .inl (.getfield 57, 3), .inl (.iload_n 3, 1), .inl (.iaload, 1), .inl (.iload_n 1, 1), .inl (.if_icmp .ne 7, 3), .inl (.iconst 1, 1), .inl (.goto 4, 3)] 33 ls r rem st := (rfl)
theorem j_55_33 : mjmp k_55 K 33 ls r rem st = K 33 (mproj [0, 1, 2, 3] ls) r rem st := (rfl)
theorem cge_38_27 {a b : Int} : mstep P rt sg C J X post (.if_icmp .ge 27) 38 ls (mi b :: mi a :: r) rem st nx = ((mcmp .ge a b → J 65 ls r rem st) ∧ (¬ mcmp .ge a b → nx ls r rem st)) := e_icmp rfl
theorem cne_49_7 {a b : Int} : mstep P rt sg C J X post (.if_icmp .ne 7) 49 ls (mi b :: mi a :: r) rem st nx = ((mcmp .ne a b → J 56 ls r rem st) ∧ (¬ mcmp .ne a b → nx ls r rem st)) := e_icmp rfl
theorem a_55_56 {C : mCall} {K : mK} : mat P_RX7 0 sg_ k_55 [] C K post 56 ls r rem st = mblk P_RX7 0 sg_ C (mjmp k_55 K) (mexc [] K post k_55) post [.inl (.iconst 0, 1)] 56 ls r rem st := (rfl)
theorem j_55_56 : mjmp k_55 K 56 ls r rem st = K 56 (mproj [0, 1, 3] ls) r rem st := (rfl)
theorem a_55_57 {C : mCall} {K : mK} : mat P_RX7 0 sg_ k_55 [] C K post 57 ls r rem st = mblk P_RX7 0 sg_ C (mjmp k_55 K) (mexc [] K post k_55) post [.inl (.iadd, 1), .inl (.istore_n 2, 1), .inl (.iinc 3 1, 3), .inl (.goto (-29), 3)] 57 ls r rem st := (rfl)
theorem j_55_57 : mjmp k_55 K 57 ls r rem st = K 57 (mproj [0, 1, 3] ls) r rem st := (rfl)
theorem g_62_m29 : mstep P rt sg C J X post (.goto (-29)) 62 ls r rem st nx = J 33 ls r rem st := e_goto rfl
theorem a_55_65 {C : mCall} {K : mK} : mat P_RX7 0 sg_ k_55 [] C K post 65 ls r rem st = mblk P_RX7 0 sg_ C (mjmp k_55 K) (mexc [] K post k_55) post [.inl (.iload_n 2, 1), .inl (.ireturn, 1)] 65 ls r rem st := (rfl)
theorem j_55_65 : mjmp k_55 K 65 ls r rem st = K 65 (mproj [2] ls) r rem st := (rfl)
theorem a_56_0 {C : mCall} {K : mK} : mat P_RX7 0 sg_ k_56 [] C K post 0 ls r rem st = mblk P_RX7 0 sg_ C (mjmp k_56 K) (mexc [] K post k_56) post [.inl (.aload_n 0, 1), .inl (.iload_n 1, 1), .inl (.invokevirtual 128, 3), .inl (.ifCond .ne 9, 3), .inl (.aload_n 0, 1), .inl (.iconst 1, 1), .inl (.invokevirtual 109, 3), .inl (.ireturn, 1)] 0 ls r rem st := (rfl)
theorem j_56_0 : mjmp k_56 K 0 ls r rem st = K 0 (mproj [0, 1, 2, 3] ls) r rem st := (rfl)
theorem a_56_14 {C : mCall} {K : mK} : mat P_RX7 0 sg_ k_56 [] C K post 14 ls r rem st = mblk P_RX7 0 sg_ C (mjmp k_56 K) (mexc [] K post k_56) post [.inl (.iload_n 2, 1), .inl (.iconst 0, 1), .inl (.sipush 998, 3), .inl (.invokestatic 99, 3), .inl (.ifCond .eq 15, 3), .inl (.iload_n 3, 1), .inl (.iload_n 2, 1), .inl (.if_icmp .le 10, 3), .inl (.iload_n 3, 1), .inl (.sipush 999, 3), .inl (.if_icmp .le 9, 3)] 14 ls r rem st := (rfl)
theorem j_56_14 : mjmp k_56 K 14 ls r rem st = K 14 (mproj [0, 1, 2, 3] ls) r rem st := (rfl)
theorem zeq_22_15 {a : Int} : mstep P rt sg C J X post (.ifCond .eq 15) 22 ls (mi a :: r) rem st nx = ((mcmp .eq a 0 → J 37 ls r rem st) ∧ (¬ mcmp .eq a 0 → nx ls r rem st)) := e_ifc rfl
theorem cle_27_10 {a b : Int} : mstep P rt sg C J X post (.if_icmp .le 10) 27 ls (mi b :: mi a :: r) rem st nx = ((mcmp .le a b → J 37 ls r rem st) ∧ (¬ mcmp .le a b → nx ls r rem st)) := e_icmp rfl
theorem cle_34_9 {a b : Int} : mstep P rt sg C J X post (.if_icmp .le 9) 34 ls (mi b :: mi a :: r) rem st nx = ((mcmp .le a b → J 43 ls r rem st) ∧ (¬ mcmp .le a b → nx ls r rem st)) := e_icmp rfl
theorem a_56_37 {C : mCall} {K : mK} : mat P_RX7 0 sg_ k_56 [] C K post 37 ls r rem st = mblk P_RX7 0 sg_ C (mjmp k_56 K) (mexc [] K post k_56) post [.inl (.aload_n 0, 1), .inl (.iconst 2, 1), .inl (.invokevirtual 109, 3), .inl (.ireturn, 1)] 37 ls r rem st := (rfl)
theorem j_56_37 : mjmp k_56 K 37 ls r rem st = K 37 (mproj [0] ls) r rem st := (rfl)
theorem a_56_43 {C : mCall} {K : mK} : mat P_RX7 0 sg_ k_56 [] C K post 43 ls r rem st = mblk P_RX7 0 sg_ C (mjmp k_56 K) (mexc [] K post k_56) post [.inl (.aload_n 0, 1), .inl (.iconst 0, 1), .inl (.putfield 93, 3), .inl (.aload_n 0, 1), .inl (.iload_n 1, 1), .inl (.iconst (-1), 1), .inl (.invokevirtual 159, 3), .inl (.aload_n 0, 1), .inl (.iload_n 2, 1), .inl (.iload_n 3, 1), .inl (.invokevirtual 147, 3), .inl (.ireturn, 1)] 43 ls r rem st := (rfl)
theorem j_56_43 : mjmp k_56 K 43 ls r rem st = K 43 (mproj [0, 1, 2, 3] ls) r rem st := (rfl)
theorem a_57_0 {C : mCall} {K : mK} : mat P_RX7 0 sg_ k_57 [] C K post 0 ls r rem st = mblk P_RX7 0 sg_ C (mjmp k_57 K) (mexc [] K post k_57) post [.inl (.aload_n 0, 1), .inl (.iload_n 1, 1), .inl (.invokevirtual 128, 3), .inl (.ifCond .ne 9, 3), .inl (.aload_n 0, 1), .inl (.iconst 1, 1), .inl (.invokevirtual 109, 3), .inl (.ireturn, 1)] 0 ls r rem st := (rfl)
theorem j_57_0 : mjmp k_57 K 0 ls r rem st = K 0 (mproj [0, 1, 2] ls) r rem st := (rfl)
theorem a_57_14 {C : mCall} {K : mK} : mat P_RX7 0 sg_ k_57 [] C K post 14 ls r rem st = mblk P_RX7 0 sg_ C (mjmp k_57 K) (mexc [] K post k_57) post [.inl (.aload_n 0, 1), .inl (.iconst 0, 1), .inl (.putfield 93, 3), .inl (.aload_n 0, 1), .inl (.iload_n 1, 1), .inl (.iconst (-1), 1), .inl (.invokevirtual 159, 3), .inl (.iconst 0, 1), .inl (.istore_n 3, 1), .inl (.iconst 0, 1), .inl (.istore 4, 2)] 14 ls r rem st := (rfl)
theorem j_57_14 : mjmp k_57 K 14 ls r rem st = K 14 (mproj [0, 1, 2] ls) r rem st := (rfl)
theorem a_57_30 {C : mCall} {K : mK} : mat P_RX7 0 sg_ k_57 [] C K post 30 ls r rem st = mblk P_RX7 0 sg_ C (mjmp k_57 K) (mexc [] K post k_57) post [.inl (.iload 4, 2), .inl (.sipush 1000, 3), .inl (.if_icmp .ge 38, 3), .inl (.aload_n 0, 1), .inl (.iload 4, 2), .inl (.iload 4, 2), .inl (.iload_n 2, 1), .inl (.iadd, 1), .inl (.invokevirtual 147, 3), .inl (.iload_n 3, 1), .inl (.if_icmp .le 16, 3), .inl (.aload_n 0, 1), .inl (.iload 4, 2), .inl (.iload 4, 2), .inl (.iload_n 2, 1), .inl (.iadd, 1), .inl (.invokevirtual 147, 3), .inl (.goto 4, 3)] 30 ls r rem st := (rfl)
theorem j_57_30 : mjmp k_57 K 30 ls r rem st = K 30 (mproj [0, 2, 3, 4] ls) r rem st := (rfl)
theorem cge_35_38 {a b : Int} : mstep P rt sg C J X post (.if_icmp .ge 38) 35 ls (mi b :: mi a :: r) rem st nx = ((mcmp .ge a b → J 73 ls r rem st) ∧ (¬ mcmp .ge a b → nx ls r rem st)) := e_icmp rfl
theorem cle_49_16 {a b : Int} : mstep P rt sg C J X post (.if_icmp .le 16) 49 ls (mi b :: mi a :: r) rem st nx = ((mcmp .le a b → J 65 ls r rem st) ∧ (¬ mcmp .le a b → nx ls r rem st)) := e_icmp rfl
theorem g_62_4 : mstep P rt sg C J X post (.goto 4) 62 ls r rem st nx = J 66 ls r rem st := e_goto rfl
theorem a_57_65 {C : mCall} {K : mK} : mat P_RX7 0 sg_ k_57 [] C K post 65 ls r rem st = mblk P_RX7 0 sg_ C (mjmp k_57 K) (mexc [] K post k_57) post [.inl (.iload_n 3, 1)] 65 ls r rem st := (rfl)
theorem j_57_65 : mjmp k_57 K 65 ls r rem st = K 65 (mproj [0, 2, 3, 4] ls) r rem st := (rfl)
theorem a_57_66 {C : mCall} {K : mK} : mat P_RX7 0 sg_ k_57 [] C K post 66 ls r rem st = mblk P_RX7 0 sg_ C (mjmp k_57 K) (mexc [] K post k_57) post [.inl (.istore_n 3, 1), .inl (.iinc 4 1, 3), .inl (.goto (-40), 3)] 66 ls r rem st := (rfl)
theorem j_57_66 : mjmp k_57 K 66 ls r rem st = K 66 (mproj [0, 2, 4] ls) r rem st := (rfl)
theorem g_70_m40 : mstep P rt sg C J X post (.goto (-40)) 70 ls r rem st nx = J 30 ls r rem st := e_goto rfl
theorem a_57_73 {C : mCall} {K : mK} : mat P_RX7 0 sg_ k_57 [] C K post 73 ls r rem st = mblk P_RX7 0 sg_ C (mjmp k_57 K) (mexc [] K post k_57) post [.inl (.iload_n 3, 1), .inl (.ireturn, 1)] 73 ls r rem st := (rfl)
theorem j_57_73 : mjmp k_57 K 73 ls r rem st = K 73 (mproj [3] ls) r rem st := (rfl)
theorem a_58_0 {C : mCall} {K : mK} : mat P_RX7 0 sg_ k_58 [] C K post 0 ls r rem st = mblk P_RX7 0 sg_ C (mjmp k_58 K) (mexc [] K post k_58) post [.inl (.aload_n 0, 1), .inl (.iload_n 1, 1), .inl (.bipush 24, 2), .inl (.invokevirtual 205, 3), .inl (.ireturn, 1)] 0 ls r rem st := (rfl)
theorem j_58_0 : mjmp k_58 K 0 ls r rem st = K 0 (mproj [0, 1] ls) r rem st := (rfl)
theorem v_RX7_205_30 {a1 a2 : mV} {i : Nat} : mstep P_RX7 rt sg_ C J X post (.invokevirtual 205) pc ls (a2 :: a1 :: mr 30 i :: r) rem st nx = cond (mroom r) (0 ≤ rem.1 ∧ 0 ≤ rem.2 ∧ C 57 [mr 30 i, a1, a2] st (mck X pc ls r (rem.1 - 0, rem.2 - 0) nx)) False := (rfl)
theorem a_59_0 {C : mCall} {K : mK} : mat P_RX7 0 sg_ k_59 [] C K post 0 ls r rem st = mblk P_RX7 0 sg_ C (mjmp k_59 K) (mexc [] K post k_59) post [.inl (.aload_n 0, 1), .inl (.iload_n 1, 1), .inl (.bipush 24, 2), .inl (.invokevirtual 205, 3), .inl (.ireturn, 1)] 0 ls r rem st := (rfl)
theorem j_59_0 : mjmp k_59 K 0 ls r rem st = K 0 (mproj [0, 1] ls) r rem st := (rfl)
theorem a_60_0 {C : mCall} {K : mK} : mat P_RX7 0 sg_ k_60 [] C K post 0 ls r rem st = mblk P_RX7 0 sg_ C (mjmp k_60 K) (mexc [] K post k_60) post [.inl (.aload_n 0, 1), .inl (.iload_n 1, 1), .inl (.sipush 168, 3), .inl (.invokevirtual 205, 3), .inl (.ireturn, 1)] 0 ls r rem st := (rfl)
theorem j_60_0 : mjmp k_60 K 0 ls r rem st = K 0 (mproj [0, 1] ls) r rem st := (rfl)
theorem a_61_0 {C : mCall} {K : mK} : mat P_RX7 0 sg_ k_61 [] C K post 0 ls r rem st = mblk P_RX7 0 sg_ C (mjmp k_61 K) (mexc [] K post k_61) post [.inl (.aload_n 0, 1), .inl (.iload_n 1, 1), .inl (.sipush 168, 3), .inl (.invokevirtual 205, 3), .inl (.ireturn, 1)] 0 ls r rem st := (rfl)
theorem j_61_0 : mjmp k_61 K 0 ls r rem st = K 0 (mproj [0, 1] ls) r rem st := (rfl)
theorem a_62_0 {C : mCall} {K : mK} : mat P_RX7 0 sg_ k_62 [] C K post 0 ls r rem st = mblk P_RX7 0 sg_ C (mjmp k_62 K) (mexc [] K post k_62) post [.inl (.aload_n 0, 1), .inl (.iload_n 1, 1), .inl (.invokevirtual 128, 3), .inl (.ifCond .ne 9, 3), .inl (.aload_n 0, 1), .inl (.iconst 1, 1), .inl (.invokevirtual 109, 3), .inl (.ireturn, 1)] 0 ls r rem st := (rfl)
theorem j_62_0 : mjmp k_62 K 0 ls r rem st = K 0 (mproj [0, 1, 2] ls) r rem st := (rfl)
theorem a_62_14 {C : mCall} {K : mK} : mat P_RX7 0 sg_ k_62 [] C K post 14 ls r rem st = mblk P_RX7 0 sg_ C (mjmp k_62 K) (mexc [] K post k_62) post [.inl (.iload_n 2, 1), .inl (.iconst 1, 1), .inl (.bipush 12, 2), .inl (.invokestatic 99, 3), .inl (.ifCond .ne 9, 3), .inl (.aload_n 0, 1), .inl (.iconst 2, 1), .inl (.invokevirtual 109, 3), .inl (.ireturn, 1)] 14 ls r rem st := (rfl)
theorem j_62_14 : mjmp k_62 K 14 ls r rem st = K 14 (mproj [0, 1, 2] ls) r rem st := (rfl)
theorem a_62_30 {C : mCall} {K : mK} : mat P_RX7 0 sg_ k_62 [] C K post 30 ls r rem st = mblk P_RX7 0 sg_ C (mjmp k_62 K) (mexc [] K post k_62) post [.inl (.aload_n 0, 1), .inl (.iload_n 1, 1), .inl (.iconst (-1), 1), .inl (.invokevirtual 159, 3), .inl (.aload_n 0, 1), .inl (.iconst 0, 1), .inl (.putfield 93, 3), .inl (.aload_n 0, 1), .inl (.getfield 106, 3), .inl (.iconst 1, 1), .inl (.iadd, 1), .inl (.istore_n 3, 1)] 30 ls r rem st := (rfl)
theorem j_62_30 : mjmp k_62 K 30 ls r rem st = K 30 (mproj [0, 1, 2] ls) r rem st := (rfl)
theorem a_62_48 {C : mCall} {K : mK} : mat P_RX7 0 sg_ k_62 [] C K post 48 ls r rem st = mblk P_RX7 0 sg_ C (mjmp k_62 K) (mexc [] K post k_62) post [.inl (.iload_n 3, 1), .inl (.iload_n 2, 1), .inl (.iadd, 1), .inl (.sipush 999, 3), .inl (.if_icmp .gt 20, 3), .inl (.aload_n 0, 1), .inl (.iload_n 3, 1), .inl (.iload_n 2, 1), .inl (.invokevirtual 163, 3), .inl (.ifCond .ne 5, 3), .inl (.iload_n 3, 1), .inl (.ireturn, 1)] 48 ls r rem st := (rfl)
theorem j_62_48 : mjmp k_62 K 48 ls r rem st = K 48 (mproj [0, 2, 3] ls) r rem st := (rfl)
theorem cgt_54_20 {a b : Int} : mstep P rt sg C J X post (.if_icmp .gt 20) 54 ls (mi b :: mi a :: r) rem st nx = ((mcmp .gt a b → J 74 ls r rem st) ∧ (¬ mcmp .gt a b → nx ls r rem st)) := e_icmp rfl
theorem zne_63_5 {a : Int} : mstep P rt sg C J X post (.ifCond .ne 5) 63 ls (mi a :: r) rem st nx = ((mcmp .ne a 0 → J 68 ls r rem st) ∧ (¬ mcmp .ne a 0 → nx ls r rem st)) := e_ifc rfl
theorem a_62_68 {C : mCall} {K : mK} : mat P_RX7 0 sg_ k_62 [] C K post 68 ls r rem st = mblk P_RX7 0 sg_ C (mjmp k_62 K) (mexc [] K post k_62) post [.inl (.iinc 3 1, 3), .inl (.goto (-23), 3)] 68 ls r rem st := (rfl)
theorem j_62_68 : mjmp k_62 K 68 ls r rem st = K 68 (mproj [0, 2, 3] ls) r rem st := (rfl)
theorem g_71_m23 : mstep P rt sg C J X post (.goto (-23)) 71 ls r rem st nx = J 48 ls r rem st := e_goto rfl
theorem a_62_74 {C : mCall} {K : mK} : mat P_RX7 0 sg_ k_62 [] C K post 74 ls r rem st = mblk P_RX7 0 sg_ C (mjmp k_62 K) (mexc [] K post k_62) post [.inl (.aload_n 0, 1), .inl (.iconst 3, 1), .inl (.invokevirtual 109, 3), .inl (.ireturn, 1)] 74 ls r rem st := (rfl)
theorem j_62_74 : mjmp k_62 K 74 ls r rem st = K 74 (mproj [0] ls) r rem st := (rfl)
theorem a_63_0 {C : mCall} {K : mK} : mat P_RX7 0 sg_ k_63 [] C K post 0 ls r rem st = mblk P_RX7 0 sg_ C (mjmp k_63 K) (mexc [] K post k_63) post [.inl (.aload_n 0, 1), .inl (.iload_n 1, 1), .inl (.invokevirtual 128, 3), .inl (.ifCond .ne 10, 3), .inl (.aload_n 0, 1), .inl (.iconst 1, 1), .inl (.invokevirtual 109, 3), .inl (.i2f, 1), .inl (.freturn, 1)] 0 ls r rem st := (rfl)
theorem j_63_0 : mjmp k_63 K 0 ls r rem st = K 0 (mproj [0, 1] ls) r rem st := (rfl)
theorem zne_5_10 {a : Int} : mstep P rt sg C J X post (.ifCond .ne 10) 5 ls (mi a :: r) rem st nx = ((mcmp .ne a 0 → J 15 ls r rem st) ∧ (¬ mcmp .ne a 0 → nx ls r rem st)) := e_ifc rfl
theorem a_63_15 {C : mCall} {K : mK} : mat P_RX7 0 sg_ k_63 [] C K post 15 ls r rem st = mblk P_RX7 0 sg_ C (mjmp k_63 K) (mexc [] K post k_63) post [.inl (.aload_n 0, 1), .inl (.getfield 106, 3), .inl (.ifCond .ne 10, 3), .inl (.aload_n 0, 1), .inl (.iconst 2, 1), .inl (.invokevirtual 109, 3), .inl (.i2f, 1), .inl (.freturn, 1)] 15 ls r rem st := (rfl)
theorem j_63_15 : mjmp k_63 K 15 ls r rem st = K 15 (mproj [0, 1] ls) r rem st := (rfl)
theorem zne_19_10 {a : Int} : mstep P rt sg C J X post (.ifCond .ne 10) 19 ls (mi a :: r) rem st nx = ((mcmp .ne a 0 → J 29 ls r rem st) ∧ (¬ mcmp .ne a 0 → nx ls r rem st)) := e_ifc rfl
theorem a_63_29 {C : mCall} {K : mK} : mat P_RX7 0 sg_ k_63 [] C K post 29 ls r rem st = mblk P_RX7 0 sg_ C (mjmp k_63 K) (mexc [] K post k_63) post [.inl (.aload_n 0, 1), .inl (.iconst 0, 1), .inl (.putfield 93, 3), .inl (.aload_n 0, 1), .inl (.iload_n 1, 1), .inl (.iconst (-1), 1), .inl (.invokevirtual 159, 3), .inl (.aload_n 0, 1), .inl (.iconst 0, 1), .inl (.aload_n 0, 1), .inl (.getfield 106, 3), .inl (.invokevirtual 147, 3), .inl (.i2f, 1), .inl (.aload_n 0, 1), .inl (.getfield 106, 3), .inl (.i2f, 1), .inl (.fdiv, 1), .inl (.freturn, 1)] 29 ls r rem st := (rfl)
theorem j_63_29 : mjmp k_63 K 29 ls r rem st = K 29 (mproj [0, 1] ls) r rem st := (rfl)
theorem a_64_0 {C : mCall} {K : mK} : mat P_RX7 0 sg_ k_64 [] C K post 0 ls r rem st = mblk P_RX7 0 sg_ C (mjmp k_64 K) (mexc [] K post k_64) post [.inl (.aload_n 0, 1), .inl (.getfield 96, 3), .inl (.ifCond .ne 10, 3), .inl (.aload_n 0, 1), .inl (.iconst 1, 1), .inl (.invokevirtual 109, 3), .inl (.i2d, 1), .inl (.dreturn, 1)] 0 ls r rem st := (rfl)
theorem j_64_0 : mjmp k_64 K 0 ls r rem st = K 0 (mproj [0] ls) r rem st := (rfl)
theorem zne_4_10 {a : Int} : mstep P rt sg C J X post (.ifCond .ne 10) 4 ls (mi a :: r) rem st nx = ((mcmp .ne a 0 → J 14 ls r rem st) ∧ (¬ mcmp .ne a 0 → nx ls r rem st)) := e_ifc rfl
theorem a_64_14 {C : mCall} {K : mK} : mat P_RX7 0 sg_ k_64 [] C K post 14 ls r rem st = mblk P_RX7 0 sg_ C (mjmp k_64 K) (mexc [] K post k_64) post [.inl (.aload_n 0, 1), .inl (.iconst 0, 1), .inl (.putfield 93, 3), .inl (.iconst 0, 1), .inl (.istore_n 1, 1), .inl (.iconst 0, 1), .inl (.istore_n 2, 1)] 14 ls r rem st := (rfl)
theorem j_64_14 : mjmp k_64 K 14 ls r rem st = K 14 (mproj [0] ls) r rem st := (rfl)
theorem a_64_23 {C : mCall} {K : mK} : mat P_RX7 0 sg_ k_64 [] C K post 23 ls r rem st = mblk P_RX7 0 sg_ C (mjmp k_64 K) (mexc [] K post k_64) post [.inl (.iload_n 2, 1), .inl (.aload_n 0, 1), .inl (.getfield 96, 3), .inl (.if_icmp .ge 26, 3), .inl (.aload_n 0, 1), .inl (.iload_n 2, 1), .inl (.iconst (-1), 1), .inl (.invokevirtual 159, 3), .inl (.iload_n 1, 1), .inl (.aload_n 0, 1), .inl (.iconst 0, 1), .inl (.sipush 1000, 3), .inl (.invokevirtual 147, 3), .inl (.iadd, 1), .inl (.istore_n 1, 1), .inl (.iinc 2 1, 3), .inl (.goto (-28), 3)] 23 ls r rem st := (rfl)
theorem j_64_23 : mjmp k_64 K 23 ls r rem st = K 23 (mproj [0, 1, 2] ls) r rem st := (rfl)
theorem cge_28_26 {a b : Int} : mstep P rt sg C J X post (.if_icmp .ge 26) 28 ls (mi b :: mi a :: r) rem st nx = ((mcmp .ge a b → J 54 ls r rem st) ∧ (¬ mcmp .ge a b → nx ls r rem st)) := e_icmp rfl
theorem g_51_m28 : mstep P rt sg C J X post (.goto (-28)) 51 ls r rem st nx = J 23 ls r rem st := e_goto rfl
theorem a_64_54 {C : mCall} {K : mK} : mat P_RX7 0 sg_ k_64 [] C K post 54 ls r rem st = mblk P_RX7 0 sg_ C (mjmp k_64 K) (mexc [] K post k_64) post [.inl (.iload_n 1, 1), .inl (.i2d, 1), .inl (.aload_n 0, 1), .inl (.getfield 96, 3), .inl (.i2d, 1), .inl (.ddiv, 1), .inl (.dreturn, 1)] 54 ls r rem st := (rfl)
theorem j_64_54 : mjmp k_64 K 54 ls r rem st = K 54 (mproj [0, 1] ls) r rem st := (rfl)
theorem a_65_0 {C : mCall} {K : mK} : mat P_RX7 1 sg_ k_65 [] C K post 0 ls r rem st = mblk P_RX7 1 sg_ C (mjmp k_65 K) (mexc [] K post k_65) post [.inl (.aload_n 0, 1), .inl (.iconst 0, 1), .inl (.putfield 93, 3), .inl (.iconst 1, 1), .inl (.ireturn, 1)] 0 ls r rem st := (rfl)
theorem j_65_0 : mjmp k_65 K 0 ls r rem st = K 0 (mproj [0] ls) r rem st := (rfl)
theorem a_66_0 {C : mCall} {K : mK} : mat P_RX1 0 sg_ k_66 [] C K post 0 ls r rem st = mblk P_RX1 0 sg_ C (mjmp k_66 K) (mexc [] K post k_66) post [.inl (.iload_n 1, 1), .inl (.iconst 0, 1), .inl (.invokestatic 15, 3), .inl (.istore_n 3, 1)] 0 ls r rem st := (rfl)
theorem j_66_0 : mjmp k_66 K 0 ls r rem st = K 0 (mproj [0, 1, 2] ls) r rem st := (rfl)
theorem m_RX1_15 {a b : Int} (hr : mroom r = true) : mstep P_RX1 rt sg C J X post (.invokestatic 15) pc ls (mi b :: mi a :: r) rem st nx = nx ls (mi (max a b) :: r) rem st := e_max rfl hr
theorem a_66_6 {C : mCall} {K : mK} : mat P_RX1 0 sg_ k_66 [] C K post 6 ls r rem st = mblk P_RX1 0 sg_ C (mjmp k_66 K) (mexc [] K post k_66) post [.inl (.iload_n 3, 1), .inl (.iload_n 2, 1), .inl (.if_icmp .gt 27, 3), .inl (.iload_n 3, 1), .inl (.bipush 41, 2), .inl (.if_icmp .gt 21, 3), .inl (.aload_n 0, 1), .inl (.dup, 1), .inl (.getfield 9, 3), .inl (.lconst 1, 1), .inl (.iload_n 3, 1), .inl (.lshl, 1), .inl (.lor, 1), .inl (.putfield 9, 3), .inl (.iinc 3 1, 3), .inl (.goto (-26), 3)] 6 ls r rem st := (rfl)
theorem j_66_6 : mjmp k_66 K 6 ls r rem st = K 6 (mproj [0, 2, 3] ls) r rem st := (rfl)
theorem cgt_8_27 {a b : Int} : mstep P rt sg C J X post (.if_icmp .gt 27) 8 ls (mi b :: mi a :: r) rem st nx = ((mcmp .gt a b → J 35 ls r rem st) ∧ (¬ mcmp .gt a b → nx ls r rem st)) := e_icmp rfl
theorem cgt_14_21 {a b : Int} : mstep P rt sg C J X post (.if_icmp .gt 21) 14 ls (mi b :: mi a :: r) rem st nx = ((mcmp .gt a b → J 35 ls r rem st) ∧ (¬ mcmp .gt a b → nx ls r rem st)) := e_icmp rfl
theorem f_RX1_9_1 {i : Nat} {f : mV → Prop} : mGet P_RX1 9 1 i st f = f (ml (sJ st 1 i 0)) := (rfl)
theorem f_RX1_9_2 {i : Nat} {f : mV → Prop} : mGet P_RX1 9 2 i st f = f (ml (sJ st 2 i 0)) := (rfl)
theorem p_RX1_9_1 {f : Nat → Prop} : mPut P_RX1 9 1 1 f = f 0 := (rfl)
theorem p_RX1_9_2 {f : Nat → Prop} : mPut P_RX1 9 2 1 f = f 0 := (rfl)
theorem g_32_m26 : mstep P rt sg C J X post (.goto (-26)) 32 ls r rem st nx = J 6 ls r rem st := e_goto rfl
theorem a_66_35 {C : mCall} {K : mK} : mat P_RX1 0 sg_ k_66 [] C K post 35 ls r rem st = mblk P_RX1 0 sg_ C (mjmp k_66 K) (mexc [] K post k_66) post [.inl (.return_, 1)] 35 ls r rem st := (rfl)
theorem j_66_35 : mjmp k_66 K 35 ls r rem st = K 35 (mproj [] ls) r rem st := (rfl)
theorem a_67_0 {C : mCall} {K : mK} : mat P_RX1 0 sg_ k_67 [] C K post 0 ls r rem st = mblk P_RX1 0 sg_ C (mjmp k_67 K) (mexc [] K post k_67) post [.inl (.iload_n 1, 1), .inl (.ifCond .lt 23, 3), .inl (.iload_n 1, 1), .inl (.bipush 41, 2), .inl (.if_icmp .gt 17, 3), .inl (.aload_n 0, 1), .inl (.dup, 1), .inl (.getfield 9, 3), .inl (.lconst 1, 1), .inl (.iload_n 1, 1), .inl (.lshl, 1), .inl (.lconst 1, 1), .inl (.lsub, 1), .inl (.land, 1), .inl (.putfield 9, 3)] 0 ls r rem st := (rfl)
theorem j_67_0 : mjmp k_67 K 0 ls r rem st = K 0 (mproj [0, 1] ls) r rem st := (rfl)
theorem zlt_1_23 {a : Int} : mstep P rt sg C J X post (.ifCond .lt 23) 1 ls (mi a :: r) rem st nx = ((mcmp .lt a 0 → J 24 ls r rem st) ∧ (¬ mcmp .lt a 0 → nx ls r rem st)) := e_ifc rfl
theorem cgt_7_17 {a b : Int} : mstep P rt sg C J X post (.if_icmp .gt 17) 7 ls (mi b :: mi a :: r) rem st nx = ((mcmp .gt a b → J 24 ls r rem st) ∧ (¬ mcmp .gt a b → nx ls r rem st)) := e_icmp rfl
theorem a_67_24 {C : mCall} {K : mK} : mat P_RX1 0 sg_ k_67 [] C K post 24 ls r rem st = mblk P_RX1 0 sg_ C (mjmp k_67 K) (mexc [] K post k_67) post [.inl (.return_, 1)] 24 ls r rem st := (rfl)
theorem j_67_24 : mjmp k_67 K 24 ls r rem st = K 24 (mproj [] ls) r rem st := (rfl)
theorem a_68_0 {C : mCall} {K : mK} : mat P_RX1 0 sg_ k_68 [] C K post 0 ls r rem st = mblk P_RX1 0 sg_ C (mjmp k_68 K) (mexc [] K post k_68) post [.inl (.iload_n 1, 1), .inl (.ifCond .lt 21, 3), .inl (.iload_n 1, 1), .inl (.bipush 41, 2), .inl (.if_icmp .gt 15, 3), .inl (.aload_n 0, 1), .inl (.getfield 9, 3), .inl (.iload_n 1, 1), .inl (.lushr, 1), .inl (.invokestatic 21, 3), .inl (.goto 4, 3)] 0 ls r rem st := (rfl)
theorem j_68_0 : mjmp k_68 K 0 ls r rem st = K 0 (mproj [0, 1] ls) r rem st := (rfl)
theorem zlt_1_21 {a : Int} : mstep P rt sg C J X post (.ifCond .lt 21) 1 ls (mi a :: r) rem st nx = ((mcmp .lt a 0 → J 22 ls r rem st) ∧ (¬ mcmp .lt a 0 → nx ls r rem st)) := e_ifc rfl
theorem cgt_7_15 {a b : Int} : mstep P rt sg C J X post (.if_icmp .gt 15) 7 ls (mi b :: mi a :: r) rem st nx = ((mcmp .gt a b → J 22 ls r rem st) ∧ (¬ mcmp .gt a b → nx ls r rem st)) := e_icmp rfl
theorem v_RX1_21 {a0 : mV} : mstep P_RX1 rt sg_ C J X post (.invokestatic 21) pc ls (a0 :: r) rem st nx = cond (mroom r) (0 ≤ rem.1 ∧ 0 ≤ rem.2 ∧ C 180 [a0] st (mck X pc ls r (rem.1 - 0, rem.2 - 0) nx)) False := (rfl)
theorem g_19_4 : mstep P rt sg C J X post (.goto 4) 19 ls r rem st nx = J 23 ls r rem st := e_goto rfl
theorem a_68_22 {C : mCall} {K : mK} : mat P_RX1 0 sg_ k_68 [] C K post 22 ls r rem st = mblk P_RX1 0 sg_ C (mjmp k_68 K) (mexc [] K post k_68) post [.inl (.iconst 0, 1)] 22 ls r rem st := (rfl)
theorem j_68_22 : mjmp k_68 K 22 ls r rem st = K 22 (mproj [] ls) r rem st := (rfl)
theorem a_68_23 {C : mCall} {K : mK} : mat P_RX1 0 sg_ k_68 [] C K post 23 ls r rem st = mblk P_RX1 0 sg_ C (mjmp k_68 K) (mexc [] K post k_68) post [.inl (.ireturn, 1)] 23 ls r rem st := (rfl)
theorem j_68_23 : mjmp k_68 K 23 ls r rem st = K 23 (mproj [] ls) r rem st := (rfl)
theorem a_69_0 {C : mCall} {K : mK} : mat P_RX1 1 sg_ k_69 [] C K post 0 ls r rem st = mblk P_RX1 1 sg_ C (mjmp k_69 K) (mexc [] K post k_69) post [.inl (.iload_n 1, 1), .inl (.ifCond .lt 26, 3), .inl (.iload_n 1, 1), .inl (.bipush 41, 2), .inl (.if_icmp .gt 20, 3), .inl (.aload_n 0, 1), .inl (.getfield 9, 3), .inl (.iload_n 1, 1), .inl (.lushr, 1), .inl (.lconst 1, 1), .inl (.land, 1), .inl (.lconst 0, 1), .inl (.lcmp, 1), .inl (.ifCond .eq 7, 3), .inl (.iconst 1, 1), .inl (.goto 4, 3)] 0 ls r rem st := (rfl)
theorem j_69_0 : mjmp k_69 K 0 ls r rem st = K 0 (mproj [0, 1] ls) r rem st := (rfl)
theorem zlt_1_26 {a : Int} : mstep P rt sg C J X post (.ifCond .lt 26) 1 ls (mi a :: r) rem st nx = ((mcmp .lt a 0 → J 27 ls r rem st) ∧ (¬ mcmp .lt a 0 → nx ls r rem st)) := e_ifc rfl
theorem cgt_7_20 {a b : Int} : mstep P rt sg C J X post (.if_icmp .gt 20) 7 ls (mi b :: mi a :: r) rem st nx = ((mcmp .gt a b → J 27 ls r rem st) ∧ (¬ mcmp .gt a b → nx ls r rem st)) := e_icmp rfl
theorem a_69_27 {C : mCall} {K : mK} : mat P_RX1 1 sg_ k_69 [] C K post 27 ls r rem st = mblk P_RX1 1 sg_ C (mjmp k_69 K) (mexc [] K post k_69) post [.inl (.iconst 0, 1)] 27 ls r rem st := (rfl)
theorem j_69_27 : mjmp k_69 K 27 ls r rem st = K 27 (mproj [] ls) r rem st := (rfl)
theorem a_69_28 {C : mCall} {K : mK} : mat P_RX1 1 sg_ k_69 [] C K post 28 ls r rem st = mblk P_RX1 1 sg_ C (mjmp k_69 K) (mexc [] K post k_69) post [.inl (.ireturn, 1)] 28 ls r rem st := (rfl)
theorem j_69_28 : mjmp k_69 K 28 ls r rem st = K 28 (mproj [] ls) r rem st := (rfl)
theorem a_70_0 {C : mCall} {K : mK} : mat P_RX1 1 sg_ k_70 [] C K post 0 ls r rem st = mblk P_RX1 1 sg_ C (mjmp k_70 K) (mexc [] K post k_70) post [.inl (.iload_n 1, 1), .inl (.iconst 0, 1), .inl (.invokestatic 15, 3), .inl (.istore_n 3, 1)] 0 ls r rem st := (rfl)
theorem j_70_0 : mjmp k_70 K 0 ls r rem st = K 0 (mproj [0, 1, 2] ls) r rem st := (rfl)
theorem a_70_6 {C : mCall} {K : mK} : mat P_RX1 1 sg_ k_70 [] C K post 6 ls r rem st = mblk P_RX1 1 sg_ C (mjmp k_70 K) (mexc [] K post k_70) post [.inl (.iload_n 3, 1), .inl (.iload_n 2, 1), .inl (.if_icmp .gt 25, 3), .inl (.iload_n 3, 1), .inl (.bipush 41, 2), .inl (.if_icmp .gt 19, 3), .inl (.aload_n 0, 1), .inl (.iload_n 3, 1), .inl (.invokevirtual 27, 3), .inl (.ifCond .eq 5, 3), .inl (.iconst 1, 1), .inl (.ireturn, 1)] 6 ls r rem st := (rfl)
theorem j_70_6 : mjmp k_70 K 6 ls r rem st = K 6 (mproj [0, 2, 3] ls) r rem st := (rfl)
theorem cgt_8_25 {a b : Int} : mstep P rt sg C J X post (.if_icmp .gt 25) 8 ls (mi b :: mi a :: r) rem st nx = ((mcmp .gt a b → J 33 ls r rem st) ∧ (¬ mcmp .gt a b → nx ls r rem st)) := e_icmp rfl
theorem cgt_14_19 {a b : Int} : mstep P rt sg C J X post (.if_icmp .gt 19) 14 ls (mi b :: mi a :: r) rem st nx = ((mcmp .gt a b → J 33 ls r rem st) ∧ (¬ mcmp .gt a b → nx ls r rem st)) := e_icmp rfl
theorem v_RX1_27_1 {a1 : mV} {i : Nat} : mstep P_RX1 rt sg_ C J X post (.invokevirtual 27) pc ls (a1 :: mr 1 i :: r) rem st nx = cond (mroom r) (0 ≤ rem.1 ∧ 0 ≤ rem.2 ∧ C 69 [mr 1 i, a1] st (mck X pc ls r (rem.1 - 0, rem.2 - 0) nx)) False := (rfl)
theorem v_RX1_27_2 {a1 : mV} {i : Nat} : mstep P_RX1 rt sg_ C J X post (.invokevirtual 27) pc ls (a1 :: mr 2 i :: r) rem st nx = cond (mroom r) (0 ≤ rem.1 ∧ 0 ≤ rem.2 ∧ C 69 [mr 2 i, a1] st (mck X pc ls r (rem.1 - 0, rem.2 - 0) nx)) False := (rfl)
theorem zeq_22_5 {a : Int} : mstep P rt sg C J X post (.ifCond .eq 5) 22 ls (mi a :: r) rem st nx = ((mcmp .eq a 0 → J 27 ls r rem st) ∧ (¬ mcmp .eq a 0 → nx ls r rem st)) := e_ifc rfl
theorem a_70_27 {C : mCall} {K : mK} : mat P_RX1 1 sg_ k_70 [] C K post 27 ls r rem st = mblk P_RX1 1 sg_ C (mjmp k_70 K) (mexc [] K post k_70) post [.inl (.iinc 3 1, 3), .inl (.goto (-24), 3)] 27 ls r rem st := (rfl)
theorem j_70_27 : mjmp k_70 K 27 ls r rem st = K 27 (mproj [0, 2, 3] ls) r rem st := (rfl)
theorem g_30_m24 : mstep P rt sg C J X post (.goto (-24)) 30 ls r rem st nx = J 6 ls r rem st := e_goto rfl
theorem a_70_33 {C : mCall} {K : mK} : mat P_RX1 1 sg_ k_70 [] C K post 33 ls r rem st = mblk P_RX1 1 sg_ C (mjmp k_70 K) (mexc [] K post k_70) post [.inl (.iconst 0, 1), .inl (.ireturn, 1)] 33 ls r rem st := (rfl)
theorem j_70_33 : mjmp k_70 K 33 ls r rem st = K 33 (mproj [] ls) r rem st := (rfl)
theorem a_71_0 {C : mCall} {K : mK} : mat P_RX4 1 sg_ k_71 [] C K post 0 ls r rem st = mblk P_RX4 1 sg_ C (mjmp k_71 K) (mexc [] K post k_71) post [.inl (.aload_n 0, 1), .inl (.getfield 9, 3), .inl (.bipush 112, 2), .inl (.if_icmp .ne 7, 3), .inl (.iconst 1, 1), .inl (.goto 4, 3)] 0 ls r rem st := (rfl)
theorem j_71_0 : mjmp k_71 K 0 ls r rem st = K 0 (mproj [0] ls) r rem st := (rfl)
theorem f_RX4_9_9 {i : Nat} {f : mV → Prop} : mGet P_RX4 9 9 i st f = f (mi (sI st 9 i 3)) := (rfl)
theorem cne_6_7 {a b : Int} : mstep P rt sg C J X post (.if_icmp .ne 7) 6 ls (mi b :: mi a :: r) rem st nx = ((mcmp .ne a b → J 13 ls r rem st) ∧ (¬ mcmp .ne a b → nx ls r rem st)) := e_icmp rfl
theorem a_71_13 {C : mCall} {K : mK} : mat P_RX4 1 sg_ k_71 [] C K post 13 ls r rem st = mblk P_RX4 1 sg_ C (mjmp k_71 K) (mexc [] K post k_71) post [.inl (.iconst 0, 1)] 13 ls r rem st := (rfl)
theorem j_71_13 : mjmp k_71 K 13 ls r rem st = K 13 (mproj [] ls) r rem st := (rfl)
theorem a_71_14 {C : mCall} {K : mK} : mat P_RX4 1 sg_ k_71 [] C K post 14 ls r rem st = mblk P_RX4 1 sg_ C (mjmp k_71 K) (mexc [] K post k_71) post [.inl (.ireturn, 1)] 14 ls r rem st := (rfl)
theorem j_71_14 : mjmp k_71 K 14 ls r rem st = K 14 (mproj [] ls) r rem st := (rfl)
theorem a_72_0 {C : mCall} {K : mK} : mat P_RX4 0 sg_ k_72 [] C K post 0 ls r rem st = mblk P_RX4 0 sg_ C (mjmp k_72 K) (mexc [] K post k_72) post [.inl (.aload_n 0, 1), .inl (.getfield 26, 3), .inl (.bipush 24, 2), .inl (.idiv, 1), .inl (.ireturn, 1)] 0 ls r rem st := (rfl)
theorem j_72_0 : mjmp k_72 K 0 ls r rem st = K 0 (mproj [0] ls) r rem st := (rfl)
theorem f_RX4_26_9 {i : Nat} {f : mV → Prop} : mGet P_RX4 26 9 i st f = f (mi (sI st 9 i 1)) := (rfl)
theorem a_73_0 {C : mCall} {K : mK} : mat P_RX4 0 sg_ k_73 [] C K post 0 ls r rem st = mblk P_RX4 0 sg_ C (mjmp k_73 K) (mexc [] K post k_73) post [.inl (.aload_n 0, 1), .inl (.getfield 30, 3), .inl (.iconst 1, 1), .inl (.isub, 1), .inl (.bipush 24, 2), .inl (.idiv, 1), .inl (.ireturn, 1)] 0 ls r rem st := (rfl)
theorem j_73_0 : mjmp k_73 K 0 ls r rem st = K 0 (mproj [0] ls) r rem st := (rfl)
theorem f_RX4_30_9 {i : Nat} {f : mV → Prop} : mGet P_RX4 30 9 i st f = f (mi (sI st 9 i 2)) := (rfl)
theorem a_74_0 {C : mCall} {K : mK} : mat P_RX4 0 sg_ k_74 [] C K post 0 ls r rem st = mblk P_RX4 0 sg_ C (mjmp k_74 K) (mexc [] K post k_74) post [.inl (.iconst 0, 1), .inl (.aload_n 0, 1), .inl (.getfield 30, 3), .inl (.iload_n 2, 1), .inl (.invokestatic 33, 3), .inl (.aload_n 0, 1), .inl (.getfield 26, 3), .inl (.iload_n 1, 1), .inl (.invokestatic 39, 3), .inl (.isub, 1), .inl (.invokestatic 39, 3), .inl (.ireturn, 1)] 0 ls r rem st := (rfl)
theorem j_74_0 : mjmp k_74 K 0 ls r rem st = K 0 (mproj [0, 1, 2] ls) r rem st := (rfl)
theorem m_RX4_33 {a b : Int} (hr : mroom r = true) : mstep P_RX4 rt sg C J X post (.invokestatic 33) pc ls (mi b :: mi a :: r) rem st nx = nx ls (mi (min a b) :: r) rem st := e_min rfl hr
theorem m_RX4_39 {a b : Int} (hr : mroom r = true) : mstep P_RX4 rt sg C J X post (.invokestatic 39) pc ls (mi b :: mi a :: r) rem st nx = nx ls (mi (max a b) :: r) rem st := e_max rfl hr
theorem a_75_0 {C : mCall} {K : mK} : mat P_RX4 0 sg_ k_75 [] C K post 0 ls r rem st = mblk P_RX4 0 sg_ C (mjmp k_75 K) (mexc [] K post k_75) post [.inl (.iload_n 1, 1), .inl (.ifCond .lt 21, 3), .inl (.iload_n 1, 1), .inl (.aload_n 0, 1), .inl (.getfield 15, 3), .inl (.arraylength, 1), .inl (.if_icmp .ge 12, 3), .inl (.aload_n 0, 1), .inl (.getfield 15, 3), .inl (.iload_n 1, 1), .inl (.iaload, 1), .inl (.goto 4, 3)] 0 ls r rem st := (rfl)
theorem j_75_0 : mjmp k_75 K 0 ls r rem st = K 0 (mproj [0, 1] ls) r rem st := (rfl)
theorem f_RX4_15_9 {i : Nat} {f : mV → Prop} : mGet P_RX4 15 9 i st f = f (mr 10 i) := (rfl)
theorem cge_10_12 {a b : Int} : mstep P rt sg C J X post (.if_icmp .ge 12) 10 ls (mi b :: mi a :: r) rem st nx = ((mcmp .ge a b → J 22 ls r rem st) ∧ (¬ mcmp .ge a b → nx ls r rem st)) := e_icmp rfl
theorem a_75_22 {C : mCall} {K : mK} : mat P_RX4 0 sg_ k_75 [] C K post 22 ls r rem st = mblk P_RX4 0 sg_ C (mjmp k_75 K) (mexc [] K post k_75) post [.inl (.iconst (-1), 1)] 22 ls r rem st := (rfl)
theorem j_75_22 : mjmp k_75 K 22 ls r rem st = K 22 (mproj [] ls) r rem st := (rfl)
theorem a_75_23 {C : mCall} {K : mK} : mat P_RX4 0 sg_ k_75 [] C K post 23 ls r rem st = mblk P_RX4 0 sg_ C (mjmp k_75 K) (mexc [] K post k_75) post [.inl (.ireturn, 1)] 23 ls r rem st := (rfl)
theorem j_75_23 : mjmp k_75 K 23 ls r rem st = K 23 (mproj [] ls) r rem st := (rfl)
theorem a_76_0 {C : mCall} {K : mK} : mat P_RX4 0 sg_ k_76 [] C K post 0 ls r rem st = mblk P_RX4 0 sg_ C (mjmp k_76 K) (mexc [] K post k_76) post [.inl (.iload_n 1, 1), .inl (.ifCond .lt 19, 3), .inl (.iload_n 1, 1), .inl (.aload_n 0, 1), .inl (.getfield 15, 3), .inl (.arraylength, 1), .inl (.if_icmp .ge 10, 3), .inl (.aload_n 0, 1), .inl (.getfield 15, 3), .inl (.iload_n 1, 1), .inl (.iload_n 2, 1), .inl (.iastore, 1)] 0 ls r rem st := (rfl)
theorem j_76_0 : mjmp k_76 K 0 ls r rem st = K 0 (mproj [0, 1, 2] ls) r rem st := (rfl)
theorem zlt_1_19 {a : Int} : mstep P rt sg C J X post (.ifCond .lt 19) 1 ls (mi a :: r) rem st nx = ((mcmp .lt a 0 → J 20 ls r rem st) ∧ (¬ mcmp .lt a 0 → nx ls r rem st)) := e_ifc rfl
theorem cge_10_10 {a b : Int} : mstep P rt sg C J X post (.if_icmp .ge 10) 10 ls (mi b :: mi a :: r) rem st nx = ((mcmp .ge a b → J 20 ls r rem st) ∧ (¬ mcmp .ge a b → nx ls r rem st)) := e_icmp rfl
theorem a_76_20 {C : mCall} {K : mK} : mat P_RX4 0 sg_ k_76 [] C K post 20 ls r rem st = mblk P_RX4 0 sg_ C (mjmp k_76 K) (mexc [] K post k_76) post [.inl (.return_, 1)] 20 ls r rem st := (rfl)
theorem j_76_20 : mjmp k_76 K 20 ls r rem st = K 20 (mproj [] ls) r rem st := (rfl)
theorem a_77_0 {C : mCall} {K : mK} : mat P_RX4 0 sg_ k_77 [] C K post 0 ls r rem st = mblk P_RX4 0 sg_ C (mjmp k_77 K) (mexc [] K post k_77) post [.inl (.iconst 0, 1), .inl (.istore_n 1, 1)] 0 ls r rem st := (rfl)
theorem j_77_0 : mjmp k_77 K 0 ls r rem st = K 0 (mproj [0] ls) r rem st := (rfl)
theorem a_77_2 {C : mCall} {K : mK} : mat P_RX4 0 sg_ k_77 [] C K post 2 ls r rem st = mblk P_RX4 0 sg_ C (mjmp k_77 K) (mexc [] K post k_77) post [.inl (.iload_n 1, 1), .inl (.aload_n 0, 1), .inl (.getfield 15, 3), .inl (.arraylength, 1), .inl (.if_icmp .ge 30, 3), .inl (.iload_n 1, 1), .inl (.aload_n 0, 1), .inl (.getfield 19, 3), .inl (.arraylength, 1), .inl (.if_icmp .ge 21, 3), .inl (.aload_n 0, 1), .inl (.getfield 19, 3), .inl (.iload_n 1, 1), .inl (.aload_n 0, 1), .inl (.getfield 15, 3), .inl (.iload_n 1, 1), .inl (.iaload, 1), .inl (.iastore, 1), .inl (.iinc 1 1, 3), .inl (.goto (-33), 3)] 2 ls r rem st := (rfl)
theorem j_77_2 : mjmp k_77 K 2 ls r rem st = K 2 (mproj [0, 1] ls) r rem st := (rfl)
theorem cge_8_30 {a b : Int} : mstep P rt sg C J X post (.if_icmp .ge 30) 8 ls (mi b :: mi a :: r) rem st nx = ((mcmp .ge a b → J 38 ls r rem st) ∧ (¬ mcmp .ge a b → nx ls r rem st)) := e_icmp rfl
theorem f_RX4_19_9 {i : Nat} {f : mV → Prop} : mGet P_RX4 19 9 i st f = f (mr 11 i) := (rfl)
theorem cge_17_21 {a b : Int} : mstep P rt sg C J X post (.if_icmp .ge 21) 17 ls (mi b :: mi a :: r) rem st nx = ((mcmp .ge a b → J 38 ls r rem st) ∧ (¬ mcmp .ge a b → nx ls r rem st)) := e_icmp rfl
theorem g_35_m33 : mstep P rt sg C J X post (.goto (-33)) 35 ls r rem st nx = J 2 ls r rem st := e_goto rfl
theorem a_77_38 {C : mCall} {K : mK} : mat P_RX4 0 sg_ k_77 [] C K post 38 ls r rem st = mblk P_RX4 0 sg_ C (mjmp k_77 K) (mexc [] K post k_77) post [.inl (.return_, 1)] 38 ls r rem st := (rfl)
theorem j_77_38 : mjmp k_77 K 38 ls r rem st = K 38 (mproj [] ls) r rem st := (rfl)
theorem a_78_0 {C : mCall} {K : mK} : mat P_RX4 0 sg_ k_78 [] C K post 0 ls r rem st = mblk P_RX4 0 sg_ C (mjmp k_78 K) (mexc [] K post k_78) post [.inl (.iload_n 1, 1), .inl (.ifCond .lt 21, 3), .inl (.iload_n 1, 1), .inl (.aload_n 0, 1), .inl (.getfield 19, 3), .inl (.arraylength, 1), .inl (.if_icmp .ge 12, 3), .inl (.aload_n 0, 1), .inl (.getfield 19, 3), .inl (.iload_n 1, 1), .inl (.iaload, 1), .inl (.goto 4, 3)] 0 ls r rem st := (rfl)
theorem j_78_0 : mjmp k_78 K 0 ls r rem st = K 0 (mproj [0, 1] ls) r rem st := (rfl)
theorem a_78_22 {C : mCall} {K : mK} : mat P_RX4 0 sg_ k_78 [] C K post 22 ls r rem st = mblk P_RX4 0 sg_ C (mjmp k_78 K) (mexc [] K post k_78) post [.inl (.iconst (-1), 1)] 22 ls r rem st := (rfl)
theorem j_78_22 : mjmp k_78 K 22 ls r rem st = K 22 (mproj [] ls) r rem st := (rfl)
theorem a_78_23 {C : mCall} {K : mK} : mat P_RX4 0 sg_ k_78 [] C K post 23 ls r rem st = mblk P_RX4 0 sg_ C (mjmp k_78 K) (mexc [] K post k_78) post [.inl (.ireturn, 1)] 23 ls r rem st := (rfl)
theorem j_78_23 : mjmp k_78 K 23 ls r rem st = K 23 (mproj [] ls) r rem st := (rfl)
theorem a_79_0 {C : mCall} {K : mK} : mat P_RX4 1 sg_ k_79 [] C K post 0 ls r rem st = mblk P_RX4 1 sg_ C (mjmp k_79 K) (mexc [] K post k_79) post [.inl (.iconst 0, 1), .inl (.istore_n 2, 1)] 0 ls r rem st := (rfl)
theorem j_79_0 : mjmp k_79 K 0 ls r rem st = K 0 (mproj [0, 1] ls) r rem st := (rfl)
theorem a_79_2 {C : mCall} {K : mK} : mat P_RX4 1 sg_ k_79 [] C K post 2 ls r rem st = mblk P_RX4 1 sg_ C (mjmp k_79 K) (mexc [] K post k_79) post [.inl (.iload_n 2, 1), .inl (.aload_n 0, 1), .inl (.getfield 15, 3), .inl (.arraylength, 1), .inl (.if_icmp .ge 21, 3), .inl (.aload_n 0, 1), .inl (.getfield 15, 3), .inl (.iload_n 2, 1), .inl (.iaload, 1), .inl (.iload_n 1, 1), .inl (.if_icmp .ne 5, 3), .inl (.iconst 1, 1), .inl (.ireturn, 1)] 2 ls r rem st := (rfl)
theorem j_79_2 : mjmp k_79 K 2 ls r rem st = K 2 (mproj [0, 1, 2] ls) r rem st := (rfl)
theorem cge_8_21 {a b : Int} : mstep P rt sg C J X post (.if_icmp .ge 21) 8 ls (mi b :: mi a :: r) rem st nx = ((mcmp .ge a b → J 29 ls r rem st) ∧ (¬ mcmp .ge a b → nx ls r rem st)) := e_icmp rfl
theorem cne_18_5 {a b : Int} : mstep P rt sg C J X post (.if_icmp .ne 5) 18 ls (mi b :: mi a :: r) rem st nx = ((mcmp .ne a b → J 23 ls r rem st) ∧ (¬ mcmp .ne a b → nx ls r rem st)) := e_icmp rfl
theorem a_79_23 {C : mCall} {K : mK} : mat P_RX4 1 sg_ k_79 [] C K post 23 ls r rem st = mblk P_RX4 1 sg_ C (mjmp k_79 K) (mexc [] K post k_79) post [.inl (.iinc 2 1, 3), .inl (.goto (-24), 3)] 23 ls r rem st := (rfl)
theorem j_79_23 : mjmp k_79 K 23 ls r rem st = K 23 (mproj [0, 1, 2] ls) r rem st := (rfl)
theorem g_26_m24 : mstep P rt sg C J X post (.goto (-24)) 26 ls r rem st nx = J 2 ls r rem st := e_goto rfl
theorem a_79_29 {C : mCall} {K : mK} : mat P_RX4 1 sg_ k_79 [] C K post 29 ls r rem st = mblk P_RX4 1 sg_ C (mjmp k_79 K) (mexc [] K post k_79) post [.inl (.iconst 0, 1), .inl (.ireturn, 1)] 29 ls r rem st := (rfl)
theorem j_79_29 : mjmp k_79 K 29 ls r rem st = K 29 (mproj [] ls) r rem st := (rfl)
theorem a_80_0 {C : mCall} {K : mK} : mat P_RX4 0 sg_ k_80 [] C K post 0 ls r rem st = mblk P_RX4 0 sg_ C (mjmp k_80 K) (mexc [] K post k_80) post [.inl (.iconst 0, 1), .inl (.istore_n 1, 1), .inl (.iconst 0, 1), .inl (.istore_n 2, 1)] 0 ls r rem st := (rfl)
theorem j_80_0 : mjmp k_80 K 0 ls r rem st = K 0 (mproj [0] ls) r rem st := (rfl)
theorem a_80_4 {C : mCall} {K : mK} : mat P_RX4 0 sg_ k_80 [] C K post 4 ls r rem st = mblk P_RX4 0 sg_ C (mjmp k_80 K) (mexc [] K post k_80) post [.inl (.iload_n 2, 1), .inl (.aload_n 0, 1), .inl (.getfield 15, 3), .inl (.arraylength, 1), .inl (.if_icmp .ge 22, 3), .inl (.aload_n 0, 1), .inl (.getfield 15, 3), .inl (.iload_n 2, 1), .inl (.iaload, 1), .inl (.iconst (-1), 1), .inl (.if_icmp .eq 6, 3), .inl (.iinc 1 1, 3)] 4 ls r rem st := (rfl)
theorem j_80_4 : mjmp k_80 K 4 ls r rem st = K 4 (mproj [0, 1, 2] ls) r rem st := (rfl)
theorem cge_10_22 {a b : Int} : mstep P rt sg C J X post (.if_icmp .ge 22) 10 ls (mi b :: mi a :: r) rem st nx = ((mcmp .ge a b → J 32 ls r rem st) ∧ (¬ mcmp .ge a b → nx ls r rem st)) := e_icmp rfl
theorem ceq_20_6 {a b : Int} : mstep P rt sg C J X post (.if_icmp .eq 6) 20 ls (mi b :: mi a :: r) rem st nx = ((mcmp .eq a b → J 26 ls r rem st) ∧ (¬ mcmp .eq a b → nx ls r rem st)) := e_icmp rfl
theorem a_80_26 {C : mCall} {K : mK} : mat P_RX4 0 sg_ k_80 [] C K post 26 ls r rem st = mblk P_RX4 0 sg_ C (mjmp k_80 K) (mexc [] K post k_80) post [.inl (.iinc 2 1, 3), .inl (.goto (-25), 3)] 26 ls r rem st := (rfl)
theorem j_80_26 : mjmp k_80 K 26 ls r rem st = K 26 (mproj [0, 1, 2] ls) r rem st := (rfl)
theorem g_29_m25 : mstep P rt sg C J X post (.goto (-25)) 29 ls r rem st nx = J 4 ls r rem st := e_goto rfl
theorem a_80_32 {C : mCall} {K : mK} : mat P_RX4 0 sg_ k_80 [] C K post 32 ls r rem st = mblk P_RX4 0 sg_ C (mjmp k_80 K) (mexc [] K post k_80) post [.inl (.iload_n 1, 1), .inl (.ireturn, 1)] 32 ls r rem st := (rfl)
theorem j_80_32 : mjmp k_80 K 32 ls r rem st = K 32 (mproj [1] ls) r rem st := (rfl)
theorem a_81_0 {C : mCall} {K : mK} : mat P_RX4 1 sg_ k_81 [] C K post 0 ls r rem st = mblk P_RX4 1 sg_ C (mjmp k_81 K) (mexc [] K post k_81) post [.inl (.iconst 0, 1), .inl (.istore_n 2, 1)] 0 ls r rem st := (rfl)
theorem j_81_0 : mjmp k_81 K 0 ls r rem st = K 0 (mproj [0, 1] ls) r rem st := (rfl)
theorem a_81_2 {C : mCall} {K : mK} : mat P_RX4 1 sg_ k_81 [] C K post 2 ls r rem st = mblk P_RX4 1 sg_ C (mjmp k_81 K) (mexc [] K post k_81) post [.inl (.iload_n 2, 1), .inl (.aload_n 0, 1), .inl (.getfield 15, 3), .inl (.arraylength, 1), .inl (.if_icmp .ge 34, 3), .inl (.aload_n 0, 1), .inl (.getfield 15, 3), .inl (.iload_n 2, 1), .inl (.iaload, 1), .inl (.iconst (-1), 1), .inl (.if_icmp .eq 18, 3), .inl (.aload_n 1, 1), .inl (.aload_n 0, 1), .inl (.getfield 15, 3), .inl (.iload_n 2, 1), .inl (.iaload, 1), .inl (.invokevirtual 42, 3), .inl (.ifCond .eq 5, 3), .inl (.iconst 1, 1), .inl (.ireturn, 1)] 2 ls r rem st := (rfl)
theorem j_81_2 : mjmp k_81 K 2 ls r rem st = K 2 (mproj [0, 1, 2] ls) r rem st := (rfl)
theorem cge_8_34 {a b : Int} : mstep P rt sg C J X post (.if_icmp .ge 34) 8 ls (mi b :: mi a :: r) rem st nx = ((mcmp .ge a b → J 42 ls r rem st) ∧ (¬ mcmp .ge a b → nx ls r rem st)) := e_icmp rfl
theorem ceq_18_18 {a b : Int} : mstep P rt sg C J X post (.if_icmp .eq 18) 18 ls (mi b :: mi a :: r) rem st nx = ((mcmp .eq a b → J 36 ls r rem st) ∧ (¬ mcmp .eq a b → nx ls r rem st)) := e_icmp rfl
theorem v_RX4_42_9 {a1 : mV} {i : Nat} : mstep P_RX4 rt sg_ C J X post (.invokevirtual 42) pc ls (a1 :: mr 9 i :: r) rem st nx = cond (mroom r) (0 ≤ rem.1 ∧ 0 ≤ rem.2 ∧ C 79 [mr 9 i, a1] st (mck X pc ls r (rem.1 - 0, rem.2 - 0) nx)) False := (rfl)
theorem zeq_31_5 {a : Int} : mstep P rt sg C J X post (.ifCond .eq 5) 31 ls (mi a :: r) rem st nx = ((mcmp .eq a 0 → J 36 ls r rem st) ∧ (¬ mcmp .eq a 0 → nx ls r rem st)) := e_ifc rfl
theorem a_81_36 {C : mCall} {K : mK} : mat P_RX4 1 sg_ k_81 [] C K post 36 ls r rem st = mblk P_RX4 1 sg_ C (mjmp k_81 K) (mexc [] K post k_81) post [.inl (.iinc 2 1, 3), .inl (.goto (-37), 3)] 36 ls r rem st := (rfl)
theorem j_81_36 : mjmp k_81 K 36 ls r rem st = K 36 (mproj [0, 1, 2] ls) r rem st := (rfl)
theorem g_39_m37 : mstep P rt sg C J X post (.goto (-37)) 39 ls r rem st nx = J 2 ls r rem st := e_goto rfl
theorem a_81_42 {C : mCall} {K : mK} : mat P_RX4 1 sg_ k_81 [] C K post 42 ls r rem st = mblk P_RX4 1 sg_ C (mjmp k_81 K) (mexc [] K post k_81) post [.inl (.iconst 0, 1), .inl (.ireturn, 1)] 42 ls r rem st := (rfl)
theorem j_81_42 : mjmp k_81 K 42 ls r rem st = K 42 (mproj [] ls) r rem st := (rfl)
theorem a_82_0 {C : mCall} {K : mK} : mat P_RX5 0 sg_ k_82 [] C K post 0 ls r rem st = mblk P_RX5 0 sg_ C (mjmp k_82 K) (mexc [] K post k_82) post [.inl (.aload_n 0, 1), .inl (.getfield 15, 3), .inl (.ifCond .lt 35, 3), .inl (.aload_n 0, 1), .inl (.getfield 15, 3), .inl (.aload_n 0, 1), .inl (.getfield 9, 3), .inl (.arraylength, 1), .inl (.if_icmp .ge 23, 3), .inl (.aload_n 0, 1), .inl (.getfield 9, 3), .inl (.aload_n 0, 1), .inl (.getfield 15, 3), .inl (.iload_n 1, 1), .inl (.iastore, 1), .inl (.aload_n 0, 1), .inl (.dup, 1), .inl (.getfield 15, 3), .inl (.iconst 1, 1), .inl (.iadd, 1), .inl (.putfield 15, 3)] 0 ls r rem st := (rfl)
theorem j_82_0 : mjmp k_82 K 0 ls r rem st = K 0 (mproj [0, 1] ls) r rem st := (rfl)
theorem f_RX5_15_7 {i : Nat} {f : mV → Prop} : mGet P_RX5 15 7 i st f = f (mi (sI st 7 i 1)) := (rfl)
theorem zlt_4_35 {a : Int} : mstep P rt sg C J X post (.ifCond .lt 35) 4 ls (mi a :: r) rem st nx = ((mcmp .lt a 0 → J 39 ls r rem st) ∧ (¬ mcmp .lt a 0 → nx ls r rem st)) := e_ifc rfl
theorem f_RX5_9_7 {i : Nat} {f : mV → Prop} : mGet P_RX5 9 7 i st f = f (mr 8 i) := (rfl)
theorem cge_16_23 {a b : Int} : mstep P rt sg C J X post (.if_icmp .ge 23) 16 ls (mi b :: mi a :: r) rem st nx = ((mcmp .ge a b → J 39 ls r rem st) ∧ (¬ mcmp .ge a b → nx ls r rem st)) := e_icmp rfl
theorem p_RX5_15_7 {f : Nat → Prop} : mPut P_RX5 15 7 0 f = f 1 := (rfl)
theorem a_82_39 {C : mCall} {K : mK} : mat P_RX5 0 sg_ k_82 [] C K post 39 ls r rem st = mblk P_RX5 0 sg_ C (mjmp k_82 K) (mexc [] K post k_82) post [.inl (.return_, 1)] 39 ls r rem st := (rfl)
theorem j_82_39 : mjmp k_82 K 39 ls r rem st = K 39 (mproj [] ls) r rem st := (rfl)
theorem a_83_0 {C : mCall} {K : mK} : mat P_RX5 0 sg_ k_83 [] C K post 0 ls r rem st = mblk P_RX5 0 sg_ C (mjmp k_83 K) (mexc [] K post k_83) post [.inl (.iload_n 1, 1), .inl (.ifCond .lt 21, 3), .inl (.iload_n 1, 1), .inl (.aload_n 0, 1), .inl (.getfield 9, 3), .inl (.arraylength, 1), .inl (.if_icmp .ge 12, 3), .inl (.aload_n 0, 1), .inl (.getfield 9, 3), .inl (.iload_n 1, 1), .inl (.iaload, 1), .inl (.goto 4, 3)] 0 ls r rem st := (rfl)
theorem j_83_0 : mjmp k_83 K 0 ls r rem st = K 0 (mproj [0, 1] ls) r rem st := (rfl)
theorem a_83_22 {C : mCall} {K : mK} : mat P_RX5 0 sg_ k_83 [] C K post 22 ls r rem st = mblk P_RX5 0 sg_ C (mjmp k_83 K) (mexc [] K post k_83) post [.inl (.iconst (-1), 1)] 22 ls r rem st := (rfl)
theorem j_83_22 : mjmp k_83 K 22 ls r rem st = K 22 (mproj [] ls) r rem st := (rfl)
theorem a_83_23 {C : mCall} {K : mK} : mat P_RX5 0 sg_ k_83 [] C K post 23 ls r rem st = mblk P_RX5 0 sg_ C (mjmp k_83 K) (mexc [] K post k_83) post [.inl (.ireturn, 1)] 23 ls r rem st := (rfl)
theorem j_83_23 : mjmp k_83 K 23 ls r rem st = K 23 (mproj [] ls) r rem st := (rfl)
theorem a_84_0 {C : mCall} {K : mK} : mat P_RX0 0 sg_ k_84 [] C K post 0 ls r rem st = mblk P_RX0 0 sg_ C (mjmp k_84 K) (mexc [] K post k_84) post [.inl (.aload_n 0, 1), .inl (.aload_n 1, 1), .inl (.getfield 31, 3), .inl (.getfield 37, 3), .inl (.putfield 9, 3), .inl (.iconst 0, 1), .inl (.istore_n 2, 1)] 0 ls r rem st := (rfl)
theorem j_84_0 : mjmp k_84 K 0 ls r rem st = K 0 (mproj [0, 1] ls) r rem st := (rfl)
theorem f_RX0_31_9 {i : Nat} {f : mV → Prop} : mGet P_RX0 31 9 i st f = f (mr 7 (sR st i)) := (rfl)
theorem f_RX0_37_7 {i : Nat} {f : mV → Prop} : mGet P_RX0 37 7 i st f = f (mi (sI st 7 i 1)) := (rfl)
theorem p_RX0_9_12 {f : Nat → Prop} : mPut P_RX0 9 12 0 f = f 0 := (rfl)
theorem a_84_13 {C : mCall} {K : mK} : mat P_RX0 0 sg_ k_84 [] C K post 13 ls r rem st = mblk P_RX0 0 sg_ C (mjmp k_84 K) (mexc [] K post k_84) post [.inl (.iload_n 2, 1), .inl (.iconst 3, 1), .inl (.if_icmp .ge 27, 3), .inl (.aload_n 0, 1), .inl (.getfield 15, 3), .inl (.iload_n 2, 1), .inl (.aload_n 1, 1), .inl (.iload_n 2, 1), .inl (.invokevirtual 40, 3), .inl (.iastore, 1), .inl (.aload_n 0, 1), .inl (.getfield 19, 3), .inl (.iload_n 2, 1), .inl (.iconst 0, 1), .inl (.iastore, 1), .inl (.iinc 2 1, 3), .inl (.goto (-26), 3)] 13 ls r rem st := (rfl)
theorem j_84_13 : mjmp k_84 K 13 ls r rem st = K 13 (mproj [0, 1, 2] ls) r rem st := (rfl)
theorem cge_15_27 {a b : Int} : mstep P rt sg C J X post (.if_icmp .ge 27) 15 ls (mi b :: mi a :: r) rem st nx = ((mcmp .ge a b → J 42 ls r rem st) ∧ (¬ mcmp .ge a b → nx ls r rem st)) := e_icmp rfl
theorem f_RX0_15_12 {i : Nat} {f : mV → Prop} : mGet P_RX0 15 12 i st f = f (mr 13 i) := (rfl)
theorem v_RX0_40_9 {a1 : mV} {i : Nat} : mstep P_RX0 rt sg_ C J X post (.invokevirtual 40) pc ls (a1 :: mr 9 i :: r) rem st nx = cond (mroom r) (0 ≤ rem.1 ∧ 0 ≤ rem.2 ∧ C 75 [mr 9 i, a1] st (mck X pc ls r (rem.1 - 0, rem.2 - 0) nx)) False := (rfl)
theorem f_RX0_19_12 {i : Nat} {f : mV → Prop} : mGet P_RX0 19 12 i st f = f (mr 14 i) := (rfl)
theorem g_39_m26 : mstep P rt sg C J X post (.goto (-26)) 39 ls r rem st nx = J 13 ls r rem st := e_goto rfl
theorem a_84_42 {C : mCall} {K : mK} : mat P_RX0 0 sg_ k_84 [] C K post 42 ls r rem st = mblk P_RX0 0 sg_ C (mjmp k_84 K) (mexc [] K post k_84) post [.inl (.aload_n 0, 1), .inl (.aload_n 0, 1), .inl (.getfield 9, 3), .inl (.iconst 1, 1), .inl (.iadd, 1), .inl (.putfield 28, 3), .inl (.return_, 1)] 42 ls r rem st := (rfl)
theorem j_84_42 : mjmp k_84 K 42 ls r rem st = K 42 (mproj [0] ls) r rem st := (rfl)
theorem f_RX0_9_12 {i : Nat} {f : mV → Prop} : mGet P_RX0 9 12 i st f = f (mi (sI st 12 i 0)) := (rfl)
theorem p_RX0_28_12 {f : Nat → Prop} : mPut P_RX0 28 12 0 f = f 5 := (rfl)
theorem a_85_0 {C : mCall} {K : mK} : mat P_RX0 0 sg_ k_85 [] C K post 0 ls r rem st = mblk P_RX0 0 sg_ C (mjmp k_85 K) (mexc [] K post k_85) post [.inl (.iload_n 1, 1), .inl (.ifCond .lt 24, 3), .inl (.iload_n 1, 1), .inl (.aload_n 0, 1), .inl (.getfield 19, 3), .inl (.arraylength, 1), .inl (.if_icmp .ge 15, 3), .inl (.aload_n 0, 1), .inl (.getfield 19, 3), .inl (.iload_n 1, 1), .inl (.dup2, 1), .inl (.iaload, 1), .inl (.iconst 1, 1), .inl (.iload_n 2, 1), .inl (.ishl, 1), .inl (.ior, 1), .inl (.iastore, 1)] 0 ls r rem st := (rfl)
theorem j_85_0 : mjmp k_85 K 0 ls r rem st = K 0 (mproj [0, 1, 2] ls) r rem st := (rfl)
theorem zlt_1_24 {a : Int} : mstep P rt sg C J X post (.ifCond .lt 24) 1 ls (mi a :: r) rem st nx = ((mcmp .lt a 0 → J 25 ls r rem st) ∧ (¬ mcmp .lt a 0 → nx ls r rem st)) := e_ifc rfl
theorem cge_10_15 {a b : Int} : mstep P rt sg C J X post (.if_icmp .ge 15) 10 ls (mi b :: mi a :: r) rem st nx = ((mcmp .ge a b → J 25 ls r rem st) ∧ (¬ mcmp .ge a b → nx ls r rem st)) := e_icmp rfl
theorem a_85_25 {C : mCall} {K : mK} : mat P_RX0 0 sg_ k_85 [] C K post 25 ls r rem st = mblk P_RX0 0 sg_ C (mjmp k_85 K) (mexc [] K post k_85) post [.inl (.return_, 1)] 25 ls r rem st := (rfl)
theorem j_85_25 : mjmp k_85 K 25 ls r rem st = K 25 (mproj [] ls) r rem st := (rfl)
theorem a_86_0 {C : mCall} {K : mK} : mat P_RX0 1 sg_ k_86 [] C K post 0 ls r rem st = mblk P_RX0 1 sg_ C (mjmp k_86 K) (mexc [] K post k_86) post [.inl (.aload_n 0, 1), .inl (.iconst 0, 1), .inl (.iconst 0, 1), .inl (.iconst 0, 1), .inl (.invokestatic 44, 3), .inl (.aload_n 0, 1), .inl (.getfield 28, 3), .inl (.aload_n 0, 1), .inl (.getfield 9, 3), .inl (.if_icmp .gt 7, 3), .inl (.iconst 1, 1), .inl (.goto 4, 3)] 0 ls r rem st := (rfl)
theorem j_86_0 : mjmp k_86 K 0 ls r rem st = K 0 (mproj [0] ls) r rem st := (rfl)
theorem v_RX0_44 {a0 a1 a2 a3 : mV} : mstep P_RX0 rt sg_ C J X post (.invokestatic 44) pc ls (a3 :: a2 :: a1 :: a0 :: r) rem st nx = cond (mroom r) (0 ≤ rem.1 ∧ 0 ≤ rem.2 ∧ C 88 [a0, a1, a2, a3] st (mck X pc ls r (rem.1 - 0, rem.2 - 0) nx)) False := (rfl)
theorem f_RX0_28_12 {i : Nat} {f : mV → Prop} : mGet P_RX0 28 12 i st f = f (mi (sI st 12 i 5)) := (rfl)
theorem cgt_15_7 {a b : Int} : mstep P rt sg C J X post (.if_icmp .gt 7) 15 ls (mi b :: mi a :: r) rem st nx = ((mcmp .gt a b → J 22 ls r rem st) ∧ (¬ mcmp .gt a b → nx ls r rem st)) := e_icmp rfl
theorem a_86_22 {C : mCall} {K : mK} : mat P_RX0 1 sg_ k_86 [] C K post 22 ls r rem st = mblk P_RX0 1 sg_ C (mjmp k_86 K) (mexc [] K post k_86) post [.inl (.iconst 0, 1)] 22 ls r rem st := (rfl)
theorem j_86_22 : mjmp k_86 K 22 ls r rem st = K 22 (mproj [] ls) r rem st := (rfl)
theorem a_86_23 {C : mCall} {K : mK} : mat P_RX0 1 sg_ k_86 [] C K post 23 ls r rem st = mblk P_RX0 1 sg_ C (mjmp k_86 K) (mexc [] K post k_86) post [.inl (.ireturn, 1)] 23 ls r rem st := (rfl)
theorem j_86_23 : mjmp k_86 K 23 ls r rem st = K 23 (mproj [] ls) r rem st := (rfl)
theorem a_87_0 {C : mCall} {K : mK} : mat P_RX0 0 sg_ k_87 [] C K post 0 ls r rem st = mblk P_RX0 0 sg_ C (mjmp k_87 K) (mexc [] K post k_87) post [.inl (.iload_n 1, 1), .inl (.ifCond .lt 21, 3), .inl (.iload_n 1, 1), .inl (.aload_n 0, 1), .inl (.getfield 25, 3), .inl (.arraylength, 1), .inl (.if_icmp .ge 12, 3), .inl (.aload_n 0, 1), .inl (.getfield 25, 3), .inl (.iload_n 1, 1), .inl (.iaload, 1), .inl (.goto 4, 3)] 0 ls r rem st := (rfl)
theorem j_87_0 : mjmp k_87 K 0 ls r rem st = K 0 (mproj [0, 1] ls) r rem st := (rfl)
theorem f_RX0_25_12 {i : Nat} {f : mV → Prop} : mGet P_RX0 25 12 i st f = f (mr 16 i) := (rfl)
theorem a_87_22 {C : mCall} {K : mK} : mat P_RX0 0 sg_ k_87 [] C K post 22 ls r rem st = mblk P_RX0 0 sg_ C (mjmp k_87 K) (mexc [] K post k_87) post [.inl (.iconst (-1), 1)] 22 ls r rem st := (rfl)
theorem j_87_22 : mjmp k_87 K 22 ls r rem st = K 22 (mproj [] ls) r rem st := (rfl)
theorem a_87_23 {C : mCall} {K : mK} : mat P_RX0 0 sg_ k_87 [] C K post 23 ls r rem st = mblk P_RX0 0 sg_ C (mjmp k_87 K) (mexc [] K post k_87) post [.inl (.ireturn, 1)] 23 ls r rem st := (rfl)
theorem j_87_23 : mjmp k_87 K 23 ls r rem st = K 23 (mproj [] ls) r rem st := (rfl)
theorem a_88_0 {C : mCall} {K : mK} : mat P_RX0 0 sg_ k_88 [] C K post 0 ls r rem st = mblk P_RX0 0 sg_ C (mjmp k_88 K) (mexc [] K post k_88) post [.inl (.iload_n 3, 1), .inl (.aload_n 0, 1), .inl (.getfield 28, 3), .inl (.if_icmp .ge 7, 3), .inl (.iload_n 1, 1), .inl (.ifCond .ge 4, 3)] 0 ls r rem st := (rfl)
theorem j_88_0 : mjmp k_88 K 0 ls r rem st = K 0 (mproj [0, 1, 2, 3] ls) r rem st := (rfl)
theorem cge_5_7 {a b : Int} : mstep P rt sg C J X post (.if_icmp .ge 7) 5 ls (mi b :: mi a :: r) rem st nx = ((mcmp .ge a b → J 12 ls r rem st) ∧ (¬ mcmp .ge a b → nx ls r rem st)) := e_icmp rfl
theorem zge_9_4 {a : Int} : mstep P rt sg C J X post (.ifCond .ge 4) 9 ls (mi a :: r) rem st nx = ((mcmp .ge a 0 → J 13 ls r rem st) ∧ (¬ mcmp .ge a 0 → nx ls r rem st)) := e_ifc rfl
theorem a_88_12 {C : mCall} {K : mK} : mat P_RX0 0 sg_ k_88 [] C K post 12 ls r rem st = mblk P_RX0 0 sg_ C (mjmp k_88 K) (mexc [] K post k_88) post [.inl (.return_, 1)] 12 ls r rem st := (rfl)
theorem j_88_12 : mjmp k_88 K 12 ls r rem st = K 12 (mproj [] ls) r rem st := (rfl)
theorem a_88_13 {C : mCall} {K : mK} : mat P_RX0 0 sg_ k_88 [] C K post 13 ls r rem st = mblk P_RX0 0 sg_ C (mjmp k_88 K) (mexc [] K post k_88) post [.inl (.iload_n 1, 1), .inl (.aload_n 0, 1), .inl (.getfield 9, 3), .inl (.if_icmp .ge 8, 3), .inl (.iload_n 1, 1), .inl (.iconst 3, 1), .inl (.if_icmp .lt 9, 3)] 13 ls r rem st := (rfl)
theorem j_88_13 : mjmp k_88 K 13 ls r rem st = K 13 (mproj [0, 1, 2, 3] ls) r rem st := (rfl)
theorem cge_18_8 {a b : Int} : mstep P rt sg C J X post (.if_icmp .ge 8) 18 ls (mi b :: mi a :: r) rem st nx = ((mcmp .ge a b → J 26 ls r rem st) ∧ (¬ mcmp .ge a b → nx ls r rem st)) := e_icmp rfl
theorem clt_23_9 {a b : Int} : mstep P rt sg C J X post (.if_icmp .lt 9) 23 ls (mi b :: mi a :: r) rem st nx = ((mcmp .lt a b → J 32 ls r rem st) ∧ (¬ mcmp .lt a b → nx ls r rem st)) := e_icmp rfl
theorem a_88_26 {C : mCall} {K : mK} : mat P_RX0 0 sg_ k_88 [] C K post 26 ls r rem st = mblk P_RX0 0 sg_ C (mjmp k_88 K) (mexc [] K post k_88) post [.inl (.aload_n 0, 1), .inl (.iload_n 3, 1), .inl (.invokevirtual 48, 3), .inl (.return_, 1)] 26 ls r rem st := (rfl)
theorem j_88_26 : mjmp k_88 K 26 ls r rem st = K 26 (mproj [0, 3] ls) r rem st := (rfl)
theorem v_RX0_48_12 {a1 : mV} {i : Nat} : mstep P_RX0 rt sg_ C J X post (.invokevirtual 48) pc ls (a1 :: mr 12 i :: r) rem st nx = cond (mroom r) (0 ≤ rem.1 ∧ 0 ≤ rem.2 ∧ C 89 [mr 12 i, a1] st (mck X pc ls r (rem.1 - 0, rem.2 - 0) nx)) False := (rfl)
theorem a_88_32 {C : mCall} {K : mK} : mat P_RX0 0 sg_ k_88 [] C K post 32 ls r rem st = mblk P_RX0 0 sg_ C (mjmp k_88 K) (mexc [] K post k_88) post [.inl (.aload_n 0, 1), .inl (.getfield 19, 3), .inl (.iload_n 1, 1), .inl (.iaload, 1), .inl (.iload_n 2, 1), .inl (.iconst (-1), 1), .inl (.ixor, 1), .inl (.iand, 1), .inl (.istore 4, 2), .inl (.iconst 0, 1), .inl (.istore 5, 2)] 32 ls r rem st := (rfl)
theorem j_88_32 : mjmp k_88 K 32 ls r rem st = K 32 (mproj [0, 1, 2, 3] ls) r rem st := (rfl)
theorem a_88_47 {C : mCall} {K : mK} : mat P_RX0 0 sg_ k_88 [] C K post 47 ls r rem st = mblk P_RX0 0 sg_ C (mjmp k_88 K) (mexc [] K post k_88) post [.inl (.iload 5, 2), .inl (.bipush 8, 2), .inl (.if_icmp .ge 62, 3), .inl (.iload 4, 2), .inl (.iload 5, 2), .inl (.ishr, 1), .inl (.iconst 1, 1), .inl (.iand, 1), .inl (.ifCond .eq 46, 3), .inl (.aload_n 0, 1), .inl (.getfield 22, 3), .inl (.iload_n 1, 1), .inl (.iload 5, 2), .inl (.iastore, 1), .inl (.aload_n 0, 1), .inl (.getfield 15, 3), .inl (.iload_n 1, 1), .inl (.iaload, 1), .inl (.iload 5, 2), .inl (.if_icmp .ne 7, 3), .inl (.iconst 0, 1), .inl (.goto 4, 3)] 47 ls r rem st := (rfl)
theorem j_88_47 : mjmp k_88 K 47 ls r rem st = K 47 (mproj [0, 1, 2, 3, 4, 5] ls) r rem st := (rfl)
theorem cge_51_62 {a b : Int} : mstep P rt sg C J X post (.if_icmp .ge 62) 51 ls (mi b :: mi a :: r) rem st nx = ((mcmp .ge a b → J 113 ls r rem st) ∧ (¬ mcmp .ge a b → nx ls r rem st)) := e_icmp rfl
theorem zeq_61_46 {a : Int} : mstep P rt sg C J X post (.ifCond .eq 46) 61 ls (mi a :: r) rem st nx = ((mcmp .eq a 0 → J 107 ls r rem st) ∧ (¬ mcmp .eq a 0 → nx ls r rem st)) := e_ifc rfl
theorem f_RX0_22_12 {i : Nat} {f : mV → Prop} : mGet P_RX0 22 12 i st f = f (mr 15 i) := (rfl)
theorem cne_80_7 {a b : Int} : mstep P rt sg C J X post (.if_icmp .ne 7) 80 ls (mi b :: mi a :: r) rem st nx = ((mcmp .ne a b → J 87 ls r rem st) ∧ (¬ mcmp .ne a b → nx ls r rem st)) := e_icmp rfl
theorem g_84_4 : mstep P rt sg C J X post (.goto 4) 84 ls r rem st nx = J 88 ls r rem st := e_goto rfl
theorem a_88_87 {C : mCall} {K : mK} : mat P_RX0 0 sg_ k_88 [] C K post 87 ls r rem st = mblk P_RX0 0 sg_ C (mjmp k_88 K) (mexc [] K post k_88) post [.inl (.iconst 1, 1)] 87 ls r rem st := (rfl)
theorem j_88_87 : mjmp k_88 K 87 ls r rem st = K 87 (mproj [0, 1, 2, 3, 4, 5] ls) r rem st := (rfl)
theorem a_88_88 {C : mCall} {K : mK} : mat P_RX0 0 sg_ k_88 [] C K post 88 ls r rem st = mblk P_RX0 0 sg_ C (mjmp k_88 K) (mexc [] K post k_88) post [.inl (.istore 6, 2), .inl (.aload_n 0, 1), .inl (.iload_n 1, 1), .inl (.iconst 1, 1), .inl (.iadd, 1), .inl (.iload_n 2, 1), .inl (.iconst 1, 1), .inl (.iload 5, 2), .inl (.ishl, 1), .inl (.ior, 1), .inl (.iload_n 3, 1), .inl (.iload 6, 2), .inl (.iadd, 1), .inl (.invokestatic 44, 3)] 88 ls r rem st := (rfl)
theorem j_88_88 : mjmp k_88 K 88 ls r rem st = K 88 (mproj [0, 1, 2, 3, 4, 5] ls) r rem st := (rfl)
theorem a_88_107 {C : mCall} {K : mK} : mat P_RX0 0 sg_ k_88 [] C K post 107 ls r rem st = mblk P_RX0 0 sg_ C (mjmp k_88 K) (mexc [] K post k_88) post [.inl (.iinc 5 1, 3), .inl (.goto (-63), 3)] 107 ls r rem st := (rfl)
theorem j_88_107 : mjmp k_88 K 107 ls r rem st = K 107 (mproj [0, 1, 2, 3, 4, 5] ls) r rem st := (rfl)
theorem g_110_m63 : mstep P rt sg C J X post (.goto (-63)) 110 ls r rem st nx = J 47 ls r rem st := e_goto rfl
theorem a_88_113 {C : mCall} {K : mK} : mat P_RX0 0 sg_ k_88 [] C K post 113 ls r rem st = mblk P_RX0 0 sg_ C (mjmp k_88 K) (mexc [] K post k_88) post [.inl (.return_, 1)] 113 ls r rem st := (rfl)
theorem j_88_113 : mjmp k_88 K 113 ls r rem st = K 113 (mproj [] ls) r rem st := (rfl)
theorem a_89_0 {C : mCall} {K : mK} : mat P_RX0 0 sg_ k_89 [] C K post 0 ls r rem st = mblk P_RX0 0 sg_ C (mjmp k_89 K) (mexc [] K post k_89) post [.inl (.aload_n 0, 1), .inl (.iload_n 1, 1), .inl (.putfield 28, 3), .inl (.iconst 0, 1), .inl (.istore_n 2, 1)] 0 ls r rem st := (rfl)
theorem j_89_0 : mjmp k_89 K 0 ls r rem st = K 0 (mproj [0, 1] ls) r rem st := (rfl)
theorem a_89_7 {C : mCall} {K : mK} : mat P_RX0 0 sg_ k_89 [] C K post 7 ls r rem st = mblk P_RX0 0 sg_ C (mjmp k_89 K) (mexc [] K post k_89) post [.inl (.iload_n 2, 1), .inl (.iconst 3, 1), .inl (.if_icmp .ge 21, 3), .inl (.aload_n 0, 1), .inl (.getfield 25, 3), .inl (.iload_n 2, 1), .inl (.aload_n 0, 1), .inl (.getfield 22, 3), .inl (.iload_n 2, 1), .inl (.iaload, 1), .inl (.iastore, 1), .inl (.iinc 2 1, 3), .inl (.goto (-20), 3)] 7 ls r rem st := (rfl)
theorem j_89_7 : mjmp k_89 K 7 ls r rem st = K 7 (mproj [0, 2] ls) r rem st := (rfl)
theorem cge_9_21 {a b : Int} : mstep P rt sg C J X post (.if_icmp .ge 21) 9 ls (mi b :: mi a :: r) rem st nx = ((mcmp .ge a b → J 30 ls r rem st) ∧ (¬ mcmp .ge a b → nx ls r rem st)) := e_icmp rfl
theorem g_27_m20 : mstep P rt sg C J X post (.goto (-20)) 27 ls r rem st nx = J 7 ls r rem st := e_goto rfl
theorem a_89_30 {C : mCall} {K : mK} : mat P_RX0 0 sg_ k_89 [] C K post 30 ls r rem st = mblk P_RX0 0 sg_ C (mjmp k_89 K) (mexc [] K post k_89) post [.inl (.return_, 1)] 30 ls r rem st := (rfl)
theorem j_89_30 : mjmp k_89 K 30 ls r rem st = K 30 (mproj [] ls) r rem st := (rfl)
theorem a_90_0 {C : mCall} {K : mK} : mat P_RX2 0 sg_ k_90 [] C K post 0 ls r rem st = mblk P_RX2 0 sg_ C (mjmp k_90 K) (mexc [] K post k_90) post [.inl (.aload_n 0, 1), .inl (.getfield 12, 3), .inl (.invokeinterface 32 1, 5), .inl (.aload_n 0, 1), .inl (.iconst 5, 1), .inl (.putfield 25, 3), .inl (.aload_n 0, 1), .inl (.iconst 0, 1), .inl (.putfield 29, 3), .inl (.return_, 1)] 0 ls r rem st := (rfl)
theorem j_90_0 : mjmp k_90 K 0 ls r rem st = K 0 (mproj [0] ls) r rem st := (rfl)
theorem f_RX2_12_17 {i : Nat} {f : mV → Prop} : mGet P_RX2 12 17 i st f = f (mr 23 i) := (rfl)
theorem v_RX2_32 {a0 : mV} : mstep P_RX2 rt sg_ C J X post (.invokeinterface 32 1) pc ls (a0 :: r) rem st nx = cond (mroom r) (0 ≤ rem.1 ∧ 0 ≤ rem.2 ∧ C 506 [a0] st (mck X pc ls r (rem.1 - 0, rem.2 - 0) nx)) False := (rfl)
theorem p_RX2_25_17 {f : Nat → Prop} : mPut P_RX2 25 17 0 f = f 3 := (rfl)
theorem p_RX2_29_17 {f : Nat → Prop} : mPut P_RX2 29 17 0 f = f 4 := (rfl)
theorem a_91_0 {C : mCall} {K : mK} : mat P_RX2 0 sg_ k_91 [] C K post 0 ls r rem st = mblk P_RX2 0 sg_ C (mjmp k_91 K) (mexc [] K post k_91) post [.inl (.aload_n 0, 1), .inl (.getfield 12, 3), .inl (.invokeinterface 37 1, 5), .inl (.istore_n 2, 1)] 0 ls r rem st := (rfl)
theorem j_91_0 : mjmp k_91 K 0 ls r rem st = K 0 (mproj [0, 1] ls) r rem st := (rfl)
theorem v_RX2_37 {a0 : mV} : mstep P_RX2 rt sg_ C J X post (.invokeinterface 37 1) pc ls (a0 :: r) rem st nx = cond (mroom r) (0 ≤ rem.1 ∧ 0 ≤ rem.2 ∧ C 501 [a0] st (mck X pc ls r (rem.1 - 0, rem.2 - 0) nx)) False := (rfl)
theorem a_91_10 {C : mCall} {K : mK} : mat P_RX2 0 sg_ k_91 [] C K post 10 ls r rem st = mblk P_RX2 0 sg_ C (mjmp k_91 K) (mexc [] K post k_91) post [.inl (.iload_n 2, 1), .inl (.ifCond .le 34, 3), .inl (.aload_n 0, 1), .inl (.getfield 12, 3), .inl (.iload_n 2, 1), .inl (.iconst 1, 1), .inl (.isub, 1), .inl (.invokeinterface 41 2, 5), .inl (.checkcast 45, 3), .inl (.getfield 47, 3), .inl (.aload_n 1, 1), .inl (.getfield 47, 3), .inl (.if_icmp .le 9, 3), .inl (.iinc 2 (-1), 3), .inl (.goto (-32), 3)] 10 ls r rem st := (rfl)
theorem j_91_10 : mjmp k_91 K 10 ls r rem st = K 10 (mproj [0, 1, 2] ls) r rem st := (rfl)
theorem zle_11_34 {a : Int} : mstep P rt sg C J X post (.ifCond .le 34) 11 ls (mi a :: r) rem st nx = ((mcmp .le a 0 → J 45 ls r rem st) ∧ (¬ mcmp .le a 0 → nx ls r rem st)) := e_ifc rfl
theorem v_RX2_41 {a0 a1 : mV} : mstep P_RX2 rt sg_ C J X post (.invokeinterface 41 2) pc ls (a1 :: a0 :: r) rem st nx = cond (mroom r) (0 ≤ rem.1 ∧ 0 ≤ rem.2 ∧ C 502 [a0, a1] st (mck X pc ls r (rem.1 - 0, rem.2 - 0) nx)) False := (rfl)
theorem k_RX2_45 {f : Prop} : mCast P_RX2 45 9 f = f := (rfl)
theorem f_RX2_47_9 {i : Nat} {f : mV → Prop} : mGet P_RX2 47 9 i st f = f (mi (sI st 9 i 1)) := (rfl)
theorem cle_36_9 {a b : Int} : mstep P rt sg C J X post (.if_icmp .le 9) 36 ls (mi b :: mi a :: r) rem st nx = ((mcmp .le a b → J 45 ls r rem st) ∧ (¬ mcmp .le a b → nx ls r rem st)) := e_icmp rfl
theorem g_42_m32 : mstep P rt sg C J X post (.goto (-32)) 42 ls r rem st nx = J 10 ls r rem st := e_goto rfl
theorem a_91_45 {C : mCall} {K : mK} : mat P_RX2 0 sg_ k_91 [] C K post 45 ls r rem st = mblk P_RX2 0 sg_ C (mjmp k_91 K) (mexc [] K post k_91) post [.inl (.aload_n 0, 1), .inl (.getfield 12, 3), .inl (.iload_n 2, 1), .inl (.aload_n 1, 1), .inl (.invokeinterface 50 3, 5), .inl (.aload_n 0, 1), .inl (.getfield 12, 3), .inl (.invokeinterface 37 1, 5), .inl (.iconst 4, 1), .inl (.if_icmp .le 14, 3), .inl (.aload_n 0, 1), .inl (.getfield 12, 3), .inl (.iconst 4, 1), .inl (.invokeinterface 54 2, 5), .inl (.pop, 1)] 45 ls r rem st := (rfl)
theorem j_91_45 : mjmp k_91 K 45 ls r rem st = K 45 (mproj [0, 1, 2] ls) r rem st := (rfl)
theorem v_RX2_50 {a0 a1 a2 : mV} : mstep P_RX2 rt sg_ C J X post (.invokeinterface 50 3) pc ls (a2 :: a1 :: a0 :: r) rem st nx = cond (mroom r) (1 ≤ rem.1 ∧ 16 ≤ rem.2 ∧ C 504 [a0, a1, a2] st (mck X pc ls r (rem.1 - 1, rem.2 - 16) nx)) False := (rfl)
theorem cle_66_14 {a b : Int} : mstep P rt sg C J X post (.if_icmp .le 14) 66 ls (mi b :: mi a :: r) rem st nx = ((mcmp .le a b → J 80 ls r rem st) ∧ (¬ mcmp .le a b → nx ls r rem st)) := e_icmp rfl
theorem v_RX2_54 {a0 a1 : mV} : mstep P_RX2 rt sg_ C J X post (.invokeinterface 54 2) pc ls (a1 :: a0 :: r) rem st nx = cond (mroom r) (0 ≤ rem.1 ∧ 0 ≤ rem.2 ∧ C 505 [a0, a1] st (mck X pc ls r (rem.1 - 0, rem.2 - 0) nx)) False := (rfl)
theorem a_91_80 {C : mCall} {K : mK} : mat P_RX2 0 sg_ k_91 [] C K post 80 ls r rem st = mblk P_RX2 0 sg_ C (mjmp k_91 K) (mexc [] K post k_91) post [.inl (.return_, 1)] 80 ls r rem st := (rfl)
theorem j_91_80 : mjmp k_91 K 80 ls r rem st = K 80 (mproj [] ls) r rem st := (rfl)
theorem a_92_0 {C : mCall} {K : mK} : mat P_RX2 0 sg_ k_92 [] C K post 0 ls r rem st = mblk P_RX2 0 sg_ C (mjmp k_92 K) (mexc [] K post k_92) post [.inl (.iconst 0, 1), .inl (.istore_n 1, 1)] 0 ls r rem st := (rfl)
theorem j_92_0 : mjmp k_92 K 0 ls r rem st = K 0 (mproj [0] ls) r rem st := (rfl)
theorem a_92_2 {C : mCall} {K : mK} : mat P_RX2 0 sg_ k_92 [] C K post 2 ls r rem st = mblk P_RX2 0 sg_ C (mjmp k_92 K) (mexc [] K post k_92) post [.inl (.iload_n 1, 1), .inl (.aload_n 0, 1), .inl (.getfield 12, 3), .inl (.invokeinterface 37 1, 5), .inl (.if_icmp .ge 25, 3), .inl (.aload_n 0, 1), .inl (.getfield 12, 3), .inl (.iload_n 1, 1), .inl (.invokeinterface 41 2, 5), .inl (.checkcast 45, 3), .inl (.invokevirtual 57, 3), .inl (.iinc 1 1, 3), .inl (.goto (-32), 3)] 2 ls r rem st := (rfl)
theorem j_92_2 : mjmp k_92 K 2 ls r rem st = K 2 (mproj [0, 1] ls) r rem st := (rfl)
theorem cge_12_25 {a b : Int} : mstep P rt sg C J X post (.if_icmp .ge 25) 12 ls (mi b :: mi a :: r) rem st nx = ((mcmp .ge a b → J 37 ls r rem st) ∧ (¬ mcmp .ge a b → nx ls r rem st)) := e_icmp rfl
theorem v_RX2_57_9  {i : Nat} : mstep P_RX2 rt sg_ C J X post (.invokevirtual 57) pc ls (mr 9 i :: r) rem st nx = cond (mroom r) (0 ≤ rem.1 ∧ 0 ≤ rem.2 ∧ C 77 [mr 9 i] st (mck X pc ls r (rem.1 - 0, rem.2 - 0) nx)) False := (rfl)
theorem g_34_m32 : mstep P rt sg C J X post (.goto (-32)) 34 ls r rem st nx = J 2 ls r rem st := e_goto rfl
theorem a_92_37 {C : mCall} {K : mK} : mat P_RX2 0 sg_ k_92 [] C K post 37 ls r rem st = mblk P_RX2 0 sg_ C (mjmp k_92 K) (mexc [] K post k_92) post [.inl (.return_, 1)] 37 ls r rem st := (rfl)
theorem j_92_37 : mjmp k_92 K 37 ls r rem st = K 37 (mproj [] ls) r rem st := (rfl)
theorem a_93_0 {C : mCall} {K : mK} : mat P_RX2 0 sg_ k_93 [] C K post 0 ls r rem st = mblk P_RX2 0 sg_ C (mjmp k_93 K) (mexc [] K post k_93) post [.inl (.iload_n 1, 1), .inl (.ifCond .lt 19, 3), .inl (.iload_n 1, 1), .inl (.aload_n 0, 1), .inl (.getfield 18, 3), .inl (.arraylength, 1), .inl (.if_icmp .ge 10, 3), .inl (.aload_n 0, 1), .inl (.getfield 18, 3), .inl (.iload_n 1, 1), .inl (.iload_n 2, 1), .inl (.iastore, 1)] 0 ls r rem st := (rfl)
theorem j_93_0 : mjmp k_93 K 0 ls r rem st = K 0 (mproj [0, 1, 2] ls) r rem st := (rfl)
theorem f_RX2_18_17 {i : Nat} {f : mV → Prop} : mGet P_RX2 18 17 i st f = f (mr 18 i) := (rfl)
theorem a_93_20 {C : mCall} {K : mK} : mat P_RX2 0 sg_ k_93 [] C K post 20 ls r rem st = mblk P_RX2 0 sg_ C (mjmp k_93 K) (mexc [] K post k_93) post [.inl (.return_, 1)] 20 ls r rem st := (rfl)
theorem j_93_20 : mjmp k_93 K 20 ls r rem st = K 20 (mproj [] ls) r rem st := (rfl)
theorem a_94_0 {C : mCall} {K : mK} : mat P_RX2 0 sg_ k_94 [] C K post 0 ls r rem st = mblk P_RX2 0 sg_ C (mjmp k_94 K) (mexc [] K post k_94) post [.inl (.iload_n 1, 1), .inl (.ifCond .lt 21, 3), .inl (.iload_n 1, 1), .inl (.aload_n 0, 1), .inl (.getfield 22, 3), .inl (.arraylength, 1), .inl (.if_icmp .ge 12, 3), .inl (.aload_n 0, 1), .inl (.getfield 22, 3), .inl (.iload_n 1, 1), .inl (.iaload, 1), .inl (.goto 4, 3)] 0 ls r rem st := (rfl)
theorem j_94_0 : mjmp k_94 K 0 ls r rem st = K 0 (mproj [0, 1] ls) r rem st := (rfl)
theorem f_RX2_22_17 {i : Nat} {f : mV → Prop} : mGet P_RX2 22 17 i st f = f (mr 19 i) := (rfl)
theorem a_94_22 {C : mCall} {K : mK} : mat P_RX2 0 sg_ k_94 [] C K post 22 ls r rem st = mblk P_RX2 0 sg_ C (mjmp k_94 K) (mexc [] K post k_94) post [.inl (.iconst (-1), 1)] 22 ls r rem st := (rfl)
theorem j_94_22 : mjmp k_94 K 22 ls r rem st = K 22 (mproj [] ls) r rem st := (rfl)
theorem a_94_23 {C : mCall} {K : mK} : mat P_RX2 0 sg_ k_94 [] C K post 23 ls r rem st = mblk P_RX2 0 sg_ C (mjmp k_94 K) (mexc [] K post k_94) post [.inl (.ireturn, 1)] 23 ls r rem st := (rfl)
theorem j_94_23 : mjmp k_94 K 23 ls r rem st = K 23 (mproj [] ls) r rem st := (rfl)
theorem a_95_0 {C : mCall} {K : mK} : mat P_RX2 1 sg_ k_95 [] C K post 0 ls r rem st = mblk P_RX2 1 sg_ C (mjmp k_95 K) (mexc [] K post k_95) post [.inl (.iload_n 1, 1), .inl (.aload_n 0, 1), .inl (.getfield 25, 3), .inl (.if_icmp .lt 19, 3), .inl (.iload_n 1, 1), .inl (.aload_n 0, 1), .inl (.getfield 25, 3), .inl (.if_icmp .ne 15, 3), .inl (.iload_n 2, 1), .inl (.aload_n 0, 1), .inl (.getfield 29, 3), .inl (.if_icmp .ge 7, 3)] 0 ls r rem st := (rfl)
theorem j_95_0 : mjmp k_95 K 0 ls r rem st = K 0 (mproj [0, 1, 2] ls) r rem st := (rfl)
theorem f_RX2_25_17 {i : Nat} {f : mV → Prop} : mGet P_RX2 25 17 i st f = f (mi (sI st 17 i 3)) := (rfl)
theorem clt_5_19 {a b : Int} : mstep P rt sg C J X post (.if_icmp .lt 19) 5 ls (mi b :: mi a :: r) rem st nx = ((mcmp .lt a b → J 24 ls r rem st) ∧ (¬ mcmp .lt a b → nx ls r rem st)) := e_icmp rfl
theorem cne_13_15 {a b : Int} : mstep P rt sg C J X post (.if_icmp .ne 15) 13 ls (mi b :: mi a :: r) rem st nx = ((mcmp .ne a b → J 28 ls r rem st) ∧ (¬ mcmp .ne a b → nx ls r rem st)) := e_icmp rfl
theorem f_RX2_29_17 {i : Nat} {f : mV → Prop} : mGet P_RX2 29 17 i st f = f (mi (sI st 17 i 4)) := (rfl)
theorem cge_21_7 {a b : Int} : mstep P rt sg C J X post (.if_icmp .ge 7) 21 ls (mi b :: mi a :: r) rem st nx = ((mcmp .ge a b → J 28 ls r rem st) ∧ (¬ mcmp .ge a b → nx ls r rem st)) := e_icmp rfl
theorem a_95_24 {C : mCall} {K : mK} : mat P_RX2 1 sg_ k_95 [] C K post 24 ls r rem st = mblk P_RX2 1 sg_ C (mjmp k_95 K) (mexc [] K post k_95) post [.inl (.iconst 1, 1), .inl (.goto 4, 3)] 24 ls r rem st := (rfl)
theorem j_95_24 : mjmp k_95 K 24 ls r rem st = K 24 (mproj [] ls) r rem st := (rfl)
theorem a_95_28 {C : mCall} {K : mK} : mat P_RX2 1 sg_ k_95 [] C K post 28 ls r rem st = mblk P_RX2 1 sg_ C (mjmp k_95 K) (mexc [] K post k_95) post [.inl (.iconst 0, 1)] 28 ls r rem st := (rfl)
theorem j_95_28 : mjmp k_95 K 28 ls r rem st = K 28 (mproj [] ls) r rem st := (rfl)
theorem a_95_29 {C : mCall} {K : mK} : mat P_RX2 1 sg_ k_95 [] C K post 29 ls r rem st = mblk P_RX2 1 sg_ C (mjmp k_95 K) (mexc [] K post k_95) post [.inl (.ireturn, 1)] 29 ls r rem st := (rfl)
theorem j_95_29 : mjmp k_95 K 29 ls r rem st = K 29 (mproj [] ls) r rem st := (rfl)
theorem a_96_0 {C : mCall} {K : mK} : mat P_RX2 0 sg_ k_96 [] C K post 0 ls r rem st = mblk P_RX2 0 sg_ C (mjmp k_96 K) (mexc [] K post k_96) post [.inl (.aload_n 0, 1), .inl (.iload_n 1, 1), .inl (.putfield 25, 3), .inl (.aload_n 0, 1), .inl (.iload_n 2, 1), .inl (.putfield 29, 3), .inl (.iconst 0, 1), .inl (.istore_n 3, 1)] 0 ls r rem st := (rfl)
theorem j_96_0 : mjmp k_96 K 0 ls r rem st = K 0 (mproj [0, 1, 2] ls) r rem st := (rfl)
theorem a_96_12 {C : mCall} {K : mK} : mat P_RX2 0 sg_ k_96 [] C K post 12 ls r rem st = mblk P_RX2 0 sg_ C (mjmp k_96 K) (mexc [] K post k_96) post [.inl (.iload_n 3, 1), .inl (.iconst 4, 1), .inl (.if_icmp .ge 21, 3), .inl (.aload_n 0, 1), .inl (.getfield 22, 3), .inl (.iload_n 3, 1), .inl (.aload_n 0, 1), .inl (.getfield 18, 3), .inl (.iload_n 3, 1), .inl (.iaload, 1), .inl (.iastore, 1), .inl (.iinc 3 1, 3), .inl (.goto (-20), 3)] 12 ls r rem st := (rfl)
theorem j_96_12 : mjmp k_96 K 12 ls r rem st = K 12 (mproj [0, 3] ls) r rem st := (rfl)
theorem cge_14_21 {a b : Int} : mstep P rt sg C J X post (.if_icmp .ge 21) 14 ls (mi b :: mi a :: r) rem st nx = ((mcmp .ge a b → J 35 ls r rem st) ∧ (¬ mcmp .ge a b → nx ls r rem st)) := e_icmp rfl
theorem g_32_m20 : mstep P rt sg C J X post (.goto (-20)) 32 ls r rem st nx = J 12 ls r rem st := e_goto rfl
theorem a_96_35 {C : mCall} {K : mK} : mat P_RX2 0 sg_ k_96 [] C K post 35 ls r rem st = mblk P_RX2 0 sg_ C (mjmp k_96 K) (mexc [] K post k_96) post [.inl (.return_, 1)] 35 ls r rem st := (rfl)
theorem j_96_35 : mjmp k_96 K 35 ls r rem st = K 35 (mproj [] ls) r rem st := (rfl)
theorem a_97_0 {C : mCall} {K : mK} : mat P_RX3 1 sg_ k_97 [] C K post 0 ls r rem st = mblk P_RX3 1 sg_ C (mjmp k_97 K) (mexc [] K post k_97) post [.inl (.iload_n 0, 1), .inl (.ifCond .lt 12, 3), .inl (.iload_n 0, 1), .inl (.iconst 4, 1), .inl (.if_icmp .ge 7, 3), .inl (.iconst 1, 1), .inl (.goto 4, 3)] 0 ls r rem st := (rfl)
theorem j_97_0 : mjmp k_97 K 0 ls r rem st = K 0 (mproj [0] ls) r rem st := (rfl)
theorem zlt_1_12 {a : Int} : mstep P rt sg C J X post (.ifCond .lt 12) 1 ls (mi a :: r) rem st nx = ((mcmp .lt a 0 → J 13 ls r rem st) ∧ (¬ mcmp .lt a 0 → nx ls r rem st)) := e_ifc rfl
theorem cge_6_7 {a b : Int} : mstep P rt sg C J X post (.if_icmp .ge 7) 6 ls (mi b :: mi a :: r) rem st nx = ((mcmp .ge a b → J 13 ls r rem st) ∧ (¬ mcmp .ge a b → nx ls r rem st)) := e_icmp rfl
theorem a_97_13 {C : mCall} {K : mK} : mat P_RX3 1 sg_ k_97 [] C K post 13 ls r rem st = mblk P_RX3 1 sg_ C (mjmp k_97 K) (mexc [] K post k_97) post [.inl (.iconst 0, 1)] 13 ls r rem st := (rfl)
theorem j_97_13 : mjmp k_97 K 13 ls r rem st = K 13 (mproj [] ls) r rem st := (rfl)
theorem a_97_14 {C : mCall} {K : mK} : mat P_RX3 1 sg_ k_97 [] C K post 14 ls r rem st = mblk P_RX3 1 sg_ C (mjmp k_97 K) (mexc [] K post k_97) post [.inl (.ireturn, 1)] 14 ls r rem st := (rfl)
theorem j_97_14 : mjmp k_97 K 14 ls r rem st = K 14 (mproj [] ls) r rem st := (rfl)
theorem a_98_0 {C : mCall} {K : mK} : mat P_RX3 0 sg_ k_98 [] C K post 0 ls r rem st = mblk P_RX3 0 sg_ C (mjmp k_98 K) (mexc [] K post k_98) post [.inl (.iload_n 1, 1), .inl (.invokestatic 44, 3), .inl (.ifCond .eq 12, 3), .inl (.aload_n 0, 1), .inl (.getfield 25, 3), .inl (.iload_n 1, 1), .inl (.iaload, 1), .inl (.goto 4, 3)] 0 ls r rem st := (rfl)
theorem j_98_0 : mjmp k_98 K 0 ls r rem st = K 0 (mproj [0, 1] ls) r rem st := (rfl)
theorem v_RX3_44 {a0 : mV} : mstep P_RX3 rt sg_ C J X post (.invokestatic 44) pc ls (a0 :: r) rem st nx = cond (mroom r) (0 ≤ rem.1 ∧ 0 ≤ rem.2 ∧ C 97 [a0] st (mck X pc ls r (rem.1 - 0, rem.2 - 0) nx)) False := (rfl)
theorem zeq_4_12 {a : Int} : mstep P rt sg C J X post (.ifCond .eq 12) 4 ls (mi a :: r) rem st nx = ((mcmp .eq a 0 → J 16 ls r rem st) ∧ (¬ mcmp .eq a 0 → nx ls r rem st)) := e_ifc rfl
theorem f_RX3_25_3 {i : Nat} {f : mV → Prop} : mGet P_RX3 25 3 i st f = f (mr 5 i) := (rfl)
theorem a_98_16 {C : mCall} {K : mK} : mat P_RX3 0 sg_ k_98 [] C K post 16 ls r rem st = mblk P_RX3 0 sg_ C (mjmp k_98 K) (mexc [] K post k_98) post [.inl (.iconst (-1), 1)] 16 ls r rem st := (rfl)
theorem j_98_16 : mjmp k_98 K 16 ls r rem st = K 16 (mproj [] ls) r rem st := (rfl)
theorem a_98_17 {C : mCall} {K : mK} : mat P_RX3 0 sg_ k_98 [] C K post 17 ls r rem st = mblk P_RX3 0 sg_ C (mjmp k_98 K) (mexc [] K post k_98) post [.inl (.ireturn, 1)] 17 ls r rem st := (rfl)
theorem j_98_17 : mjmp k_98 K 17 ls r rem st = K 17 (mproj [] ls) r rem st := (rfl)
theorem a_99_0 {C : mCall} {K : mK} : mat P_RX3 0 sg_ k_99 [] C K post 0 ls r rem st = mblk P_RX3 0 sg_ C (mjmp k_99 K) (mexc [] K post k_99) post [.inl (.iload_n 1, 1), .inl (.invokestatic 44, 3), .inl (.ifCond .eq 17, 3), .inl (.aload_n 0, 1), .inl (.getfield 21, 3), .inl (.iload_n 1, 1), .inl (.iload_n 2, 1), .inl (.iastore, 1), .inl (.aload_n 0, 1), .inl (.getfield 25, 3), .inl (.iload_n 1, 1), .inl (.iload_n 3, 1), .inl (.iastore, 1)] 0 ls r rem st := (rfl)
theorem j_99_0 : mjmp k_99 K 0 ls r rem st = K 0 (mproj [0, 1, 2, 3] ls) r rem st := (rfl)
theorem zeq_4_17 {a : Int} : mstep P rt sg C J X post (.ifCond .eq 17) 4 ls (mi a :: r) rem st nx = ((mcmp .eq a 0 → J 21 ls r rem st) ∧ (¬ mcmp .eq a 0 → nx ls r rem st)) := e_ifc rfl
theorem f_RX3_21_3 {i : Nat} {f : mV → Prop} : mGet P_RX3 21 3 i st f = f (mr 4 i) := (rfl)
theorem a_99_21 {C : mCall} {K : mK} : mat P_RX3 0 sg_ k_99 [] C K post 21 ls r rem st = mblk P_RX3 0 sg_ C (mjmp k_99 K) (mexc [] K post k_99) post [.inl (.return_, 1)] 21 ls r rem st := (rfl)
theorem j_99_21 : mjmp k_99 K 21 ls r rem st = K 21 (mproj [] ls) r rem st := (rfl)
theorem a_100_0 {C : mCall} {K : mK} : mat P_RX3 0 sg_ k_100 [] C K post 0 ls r rem st = mblk P_RX3 0 sg_ C (mjmp k_100 K) (mexc [] K post k_100) post [.inl (.iload_n 1, 1), .inl (.invokestatic 44, 3), .inl (.ifCond .eq 13, 3), .inl (.aload_n 0, 1), .inl (.getfield 25, 3), .inl (.iload_n 1, 1), .inl (.dup2, 1), .inl (.iaload, 1), .inl (.iload_n 2, 1), .inl (.iadd, 1), .inl (.iastore, 1)] 0 ls r rem st := (rfl)
theorem j_100_0 : mjmp k_100 K 0 ls r rem st = K 0 (mproj [0, 1, 2] ls) r rem st := (rfl)
theorem zeq_4_13 {a : Int} : mstep P rt sg C J X post (.ifCond .eq 13) 4 ls (mi a :: r) rem st nx = ((mcmp .eq a 0 → J 17 ls r rem st) ∧ (¬ mcmp .eq a 0 → nx ls r rem st)) := e_ifc rfl
theorem a_100_17 {C : mCall} {K : mK} : mat P_RX3 0 sg_ k_100 [] C K post 17 ls r rem st = mblk P_RX3 0 sg_ C (mjmp k_100 K) (mexc [] K post k_100) post [.inl (.return_, 1)] 17 ls r rem st := (rfl)
theorem j_100_17 : mjmp k_100 K 17 ls r rem st = K 17 (mproj [] ls) r rem st := (rfl)
theorem a_101_0 {C : mCall} {K : mK} : mat P_RX3 1 sg_ k_101 [] C K post 0 ls r rem st = mblk P_RX3 1 sg_ C (mjmp k_101 K) (mexc [] K post k_101) post [.inl (.iload_n 1, 1), .inl (.invokestatic 44, 3), .inl (.ifCond .eq 37, 3), .inl (.aload_n 0, 1), .inl (.getfield 25, 3), .inl (.iload_n 1, 1), .inl (.iaload, 1), .inl (.iconst (-1), 1), .inl (.if_icmp .eq 27, 3), .inl (.aload_n 0, 1), .inl (.getfield 21, 3), .inl (.iload_n 1, 1), .inl (.iaload, 1), .inl (.iload_n 2, 1), .inl (.if_icmp .gt 17, 3), .inl (.aload_n 0, 1), .inl (.getfield 25, 3), .inl (.iload_n 1, 1), .inl (.iaload, 1), .inl (.iload_n 3, 1), .inl (.if_icmp .lt 7, 3), .inl (.iconst 1, 1), .inl (.goto 4, 3)] 0 ls r rem st := (rfl)
theorem j_101_0 : mjmp k_101 K 0 ls r rem st = K 0 (mproj [0, 1, 2, 3] ls) r rem st := (rfl)
theorem zeq_4_37 {a : Int} : mstep P rt sg C J X post (.ifCond .eq 37) 4 ls (mi a :: r) rem st nx = ((mcmp .eq a 0 → J 41 ls r rem st) ∧ (¬ mcmp .eq a 0 → nx ls r rem st)) := e_ifc rfl
theorem ceq_14_27 {a b : Int} : mstep P rt sg C J X post (.if_icmp .eq 27) 14 ls (mi b :: mi a :: r) rem st nx = ((mcmp .eq a b → J 41 ls r rem st) ∧ (¬ mcmp .eq a b → nx ls r rem st)) := e_icmp rfl
theorem cgt_24_17 {a b : Int} : mstep P rt sg C J X post (.if_icmp .gt 17) 24 ls (mi b :: mi a :: r) rem st nx = ((mcmp .gt a b → J 41 ls r rem st) ∧ (¬ mcmp .gt a b → nx ls r rem st)) := e_icmp rfl
theorem clt_34_7 {a b : Int} : mstep P rt sg C J X post (.if_icmp .lt 7) 34 ls (mi b :: mi a :: r) rem st nx = ((mcmp .lt a b → J 41 ls r rem st) ∧ (¬ mcmp .lt a b → nx ls r rem st)) := e_icmp rfl
theorem a_101_41 {C : mCall} {K : mK} : mat P_RX3 1 sg_ k_101 [] C K post 41 ls r rem st = mblk P_RX3 1 sg_ C (mjmp k_101 K) (mexc [] K post k_101) post [.inl (.iconst 0, 1)] 41 ls r rem st := (rfl)
theorem j_101_41 : mjmp k_101 K 41 ls r rem st = K 41 (mproj [] ls) r rem st := (rfl)
theorem a_101_42 {C : mCall} {K : mK} : mat P_RX3 1 sg_ k_101 [] C K post 42 ls r rem st = mblk P_RX3 1 sg_ C (mjmp k_101 K) (mexc [] K post k_101) post [.inl (.ireturn, 1)] 42 ls r rem st := (rfl)
theorem j_101_42 : mjmp k_101 K 42 ls r rem st = K 42 (mproj [] ls) r rem st := (rfl)
theorem a_102_0 {C : mCall} {K : mK} : mat P_RX3 1 sg_ k_102 [] C K post 0 ls r rem st = mblk P_RX3 1 sg_ C (mjmp k_102 K) (mexc [] K post k_102) post [.inl (.aload_n 0, 1), .inl (.getfield 32, 3), .inl (.iconst (-1), 1), .inl (.if_icmp .eq 7, 3), .inl (.iconst 1, 1), .inl (.goto 4, 3)] 0 ls r rem st := (rfl)
theorem j_102_0 : mjmp k_102 K 0 ls r rem st = K 0 (mproj [0] ls) r rem st := (rfl)
theorem f_RX3_32_3 {i : Nat} {f : mV → Prop} : mGet P_RX3 32 3 i st f = f (mi (sI st 3 i 6)) := (rfl)
theorem ceq_5_7 {a b : Int} : mstep P rt sg C J X post (.if_icmp .eq 7) 5 ls (mi b :: mi a :: r) rem st nx = ((mcmp .eq a b → J 12 ls r rem st) ∧ (¬ mcmp .eq a b → nx ls r rem st)) := e_icmp rfl
theorem g_9_4 : mstep P rt sg C J X post (.goto 4) 9 ls r rem st nx = J 13 ls r rem st := e_goto rfl
theorem a_102_12 {C : mCall} {K : mK} : mat P_RX3 1 sg_ k_102 [] C K post 12 ls r rem st = mblk P_RX3 1 sg_ C (mjmp k_102 K) (mexc [] K post k_102) post [.inl (.iconst 0, 1)] 12 ls r rem st := (rfl)
theorem j_102_12 : mjmp k_102 K 12 ls r rem st = K 12 (mproj [] ls) r rem st := (rfl)
theorem a_102_13 {C : mCall} {K : mK} : mat P_RX3 1 sg_ k_102 [] C K post 13 ls r rem st = mblk P_RX3 1 sg_ C (mjmp k_102 K) (mexc [] K post k_102) post [.inl (.ireturn, 1)] 13 ls r rem st := (rfl)
theorem j_102_13 : mjmp k_102 K 13 ls r rem st = K 13 (mproj [] ls) r rem st := (rfl)
theorem a_103_0 {C : mCall} {K : mK} : mat P_RX3 0 sg_ k_103 [] C K post 0 ls r rem st = mblk P_RX3 0 sg_ C (mjmp k_103 K) (mexc [] K post k_103) post [.inl (.aload_n 0, 1), .inl (.iload_n 1, 1), .inl (.putfield 28, 3), .inl (.aload_n 0, 1), .inl (.iload_n 3, 1), .inl (.putfield 32, 3), .inl (.aload_n 0, 1), .inl (.getfield 18, 3), .inl (.iload_n 2, 1), .inl (.iload_n 3, 1), .inl (.invokevirtual 48, 3), .inl (.return_, 1)] 0 ls r rem st := (rfl)
theorem j_103_0 : mjmp k_103 K 0 ls r rem st = K 0 (mproj [0, 1, 2, 3] ls) r rem st := (rfl)
theorem p_RX3_28_3 {f : Nat → Prop} : mPut P_RX3 28 3 0 f = f 5 := (rfl)
theorem p_RX3_32_3 {f : Nat → Prop} : mPut P_RX3 32 3 0 f = f 6 := (rfl)
theorem f_RX3_18_3 {i : Nat} {f : mV → Prop} : mGet P_RX3 18 3 i st f = f (mr 2 i) := (rfl)
theorem v_RX3_48_1 {a1 a2 : mV} {i : Nat} : mstep P_RX3 rt sg_ C J X post (.invokevirtual 48) pc ls (a2 :: a1 :: mr 1 i :: r) rem st nx = cond (mroom r) (0 ≤ rem.1 ∧ 0 ≤ rem.2 ∧ C 66 [mr 1 i, a1, a2] st (mck X pc ls r (rem.1 - 0, rem.2 - 0) nx)) False := (rfl)
theorem v_RX3_48_2 {a1 a2 : mV} {i : Nat} : mstep P_RX3 rt sg_ C J X post (.invokevirtual 48) pc ls (a2 :: a1 :: mr 2 i :: r) rem st nx = cond (mroom r) (0 ≤ rem.1 ∧ 0 ≤ rem.2 ∧ C 66 [mr 2 i, a1, a2] st (mck X pc ls r (rem.1 - 0, rem.2 - 0) nx)) False := (rfl)
theorem a_104_0 {C : mCall} {K : mK} : mat P_RX3 0 sg_ k_104 [] C K post 0 ls r rem st = mblk P_RX3 0 sg_ C (mjmp k_104 K) (mexc [] K post k_104) post [.inl (.aload_n 0, 1), .inl (.iconst (-1), 1), .inl (.putfield 32, 3), .inl (.aload_n 0, 1), .inl (.getfield 18, 3), .inl (.iload_n 1, 1), .inl (.invokevirtual 52, 3), .inl (.return_, 1)] 0 ls r rem st := (rfl)
theorem j_104_0 : mjmp k_104 K 0 ls r rem st = K 0 (mproj [0, 1] ls) r rem st := (rfl)
theorem v_RX3_52_1 {a1 : mV} {i : Nat} : mstep P_RX3 rt sg_ C J X post (.invokevirtual 52) pc ls (a1 :: mr 1 i :: r) rem st nx = cond (mroom r) (0 ≤ rem.1 ∧ 0 ≤ rem.2 ∧ C 67 [mr 1 i, a1] st (mck X pc ls r (rem.1 - 0, rem.2 - 0) nx)) False := (rfl)
theorem v_RX3_52_2 {a1 : mV} {i : Nat} : mstep P_RX3 rt sg_ C J X post (.invokevirtual 52) pc ls (a1 :: mr 2 i :: r) rem st nx = cond (mroom r) (0 ≤ rem.1 ∧ 0 ≤ rem.2 ∧ C 67 [mr 2 i, a1] st (mck X pc ls r (rem.1 - 0, rem.2 - 0) nx)) False := (rfl)
theorem a_105_0 {C : mCall} {K : mK} : mat P_RX3 0 sg_ k_105 [] C K post 0 ls r rem st = mblk P_RX3 0 sg_ C (mjmp k_105 K) (mexc [] K post k_105) post [.inl (.aload_n 0, 1), .inl (.invokevirtual 56, 3), .inl (.ifCond .eq 11, 3), .inl (.aload_n 0, 1), .inl (.getfield 32, 3), .inl (.iload_n 1, 1), .inl (.if_icmp .eq 4, 3)] 0 ls r rem st := (rfl)
theorem j_105_0 : mjmp k_105 K 0 ls r rem st = K 0 (mproj [0, 1] ls) r rem st := (rfl)
theorem v_RX3_56_3  {i : Nat} : mstep P_RX3 rt sg_ C J X post (.invokevirtual 56) pc ls (mr 3 i :: r) rem st nx = cond (mroom r) (0 ≤ rem.1 ∧ 0 ≤ rem.2 ∧ C 102 [mr 3 i] st (mck X pc ls r (rem.1 - 0, rem.2 - 0) nx)) False := (rfl)
theorem zeq_4_11 {a : Int} : mstep P rt sg C J X post (.ifCond .eq 11) 4 ls (mi a :: r) rem st nx = ((mcmp .eq a 0 → J 15 ls r rem st) ∧ (¬ mcmp .eq a 0 → nx ls r rem st)) := e_ifc rfl
theorem ceq_12_4 {a b : Int} : mstep P rt sg C J X post (.if_icmp .eq 4) 12 ls (mi b :: mi a :: r) rem st nx = ((mcmp .eq a b → J 16 ls r rem st) ∧ (¬ mcmp .eq a b → nx ls r rem st)) := e_icmp rfl
theorem a_105_15 {C : mCall} {K : mK} : mat P_RX3 0 sg_ k_105 [] C K post 15 ls r rem st = mblk P_RX3 0 sg_ C (mjmp k_105 K) (mexc [] K post k_105) post [.inl (.return_, 1)] 15 ls r rem st := (rfl)
theorem j_105_15 : mjmp k_105 K 15 ls r rem st = K 15 (mproj [] ls) r rem st := (rfl)
theorem a_105_16 {C : mCall} {K : mK} : mat P_RX3 0 sg_ k_105 [] C K post 16 ls r rem st = mblk P_RX3 0 sg_ C (mjmp k_105 K) (mexc [] K post k_105) post [.inl (.aload_n 0, 1), .inl (.iconst (-1), 1), .inl (.putfield 32, 3), .inl (.aload_n 0, 1), .inl (.aload_n 0, 1), .inl (.getfield 28, 3), .inl (.invokevirtual 60, 3), .inl (.iload_n 1, 1), .inl (.if_icmp .lt 16, 3), .inl (.aload_n 0, 1), .inl (.aload_n 0, 1), .inl (.getfield 28, 3), .inl (.bipush 30, 2), .inl (.invokevirtual 64, 3), .inl (.goto 18, 3)] 16 ls r rem st := (rfl)
theorem j_105_16 : mjmp k_105 K 16 ls r rem st = K 16 (mproj [0, 1] ls) r rem st := (rfl)
theorem f_RX3_28_3 {i : Nat} {f : mV → Prop} : mGet P_RX3 28 3 i st f = f (mi (sI st 3 i 5)) := (rfl)
theorem v_RX3_60_3 {a1 : mV} {i : Nat} : mstep P_RX3 rt sg_ C J X post (.invokevirtual 60) pc ls (a1 :: mr 3 i :: r) rem st nx = cond (mroom r) (0 ≤ rem.1 ∧ 0 ≤ rem.2 ∧ C 98 [mr 3 i, a1] st (mck X pc ls r (rem.1 - 0, rem.2 - 0) nx)) False := (rfl)
theorem clt_30_16 {a b : Int} : mstep P rt sg C J X post (.if_icmp .lt 16) 30 ls (mi b :: mi a :: r) rem st nx = ((mcmp .lt a b → J 46 ls r rem st) ∧ (¬ mcmp .lt a b → nx ls r rem st)) := e_icmp rfl
theorem v_RX3_64_3 {a1 a2 : mV} {i : Nat} : mstep P_RX3 rt sg_ C J X post (.invokevirtual 64) pc ls (a2 :: a1 :: mr 3 i :: r) rem st nx = cond (mroom r) (0 ≤ rem.1 ∧ 0 ≤ rem.2 ∧ C 100 [mr 3 i, a1, a2] st (mck X pc ls r (rem.1 - 0, rem.2 - 0) nx)) False := (rfl)
theorem g_43_18 : mstep P rt sg C J X post (.goto 18) 43 ls r rem st nx = J 61 ls r rem st := e_goto rfl
theorem a_105_46 {C : mCall} {K : mK} : mat P_RX3 0 sg_ k_105 [] C K post 46 ls r rem st = mblk P_RX3 0 sg_ C (mjmp k_105 K) (mexc [] K post k_105) post [.inl (.aload_n 0, 1), .inl (.aload_n 0, 1), .inl (.getfield 28, 3), .inl (.iload_n 1, 1), .inl (.iconst 1, 1), .inl (.iadd, 1), .inl (.iload_n 1, 1), .inl (.bipush 30, 2), .inl (.iadd, 1), .inl (.invokevirtual 67, 3)] 46 ls r rem st := (rfl)
theorem j_105_46 : mjmp k_105 K 46 ls r rem st = K 46 (mproj [0, 1] ls) r rem st := (rfl)
theorem v_RX3_67_3 {a1 a2 a3 : mV} {i : Nat} : mstep P_RX3 rt sg_ C J X post (.invokevirtual 67) pc ls (a3 :: a2 :: a1 :: mr 3 i :: r) rem st nx = cond (mroom r) (0 ≤ rem.1 ∧ 0 ≤ rem.2 ∧ C 99 [mr 3 i, a1, a2, a3] st (mck X pc ls r (rem.1 - 0, rem.2 - 0) nx)) False := (rfl)
theorem a_105_61 {C : mCall} {K : mK} : mat P_RX3 0 sg_ k_105 [] C K post 61 ls r rem st = mblk P_RX3 0 sg_ C (mjmp k_105 K) (mexc [] K post k_105) post [.inl (.return_, 1)] 61 ls r rem st := (rfl)
theorem j_105_61 : mjmp k_105 K 61 ls r rem st = K 61 (mproj [] ls) r rem st := (rfl)
theorem a_106_0 {C : mCall} {K : mK} : mat P_RX3 0 sg_ k_106 [] C K post 0 ls r rem st = mblk P_RX3 0 sg_ C (mjmp k_106 K) (mexc [] K post k_106) post [.inl (.iload_n 1, 1), .inl (.iconst 0, 1), .inl (.invokestatic 71, 3), .inl (.istore_n 3, 1)] 0 ls r rem st := (rfl)
theorem j_106_0 : mjmp k_106 K 0 ls r rem st = K 0 (mproj [0, 1, 2] ls) r rem st := (rfl)
theorem m_RX3_71 {a b : Int} (hr : mroom r = true) : mstep P_RX3 rt sg C J X post (.invokestatic 71) pc ls (mi b :: mi a :: r) rem st nx = nx ls (mi (max a b) :: r) rem st := e_max rfl hr
theorem a_106_6 {C : mCall} {K : mK} : mat P_RX3 0 sg_ k_106 [] C K post 6 ls r rem st = mblk P_RX3 0 sg_ C (mjmp k_106 K) (mexc [] K post k_106) post [.inl (.iload_n 3, 1), .inl (.iload_n 2, 1), .inl (.if_icmp .ge 38, 3), .inl (.iload_n 3, 1), .inl (.aload_n 0, 1), .inl (.getfield 35, 3), .inl (.arraylength, 1), .inl (.if_icmp .ge 29, 3), .inl (.aload_n 0, 1), .inl (.getfield 35, 3), .inl (.iload_n 3, 1), .inl (.dup2, 1), .inl (.iaload, 1), .inl (.iconst 1, 1), .inl (.iadd, 1), .inl (.iastore, 1), .inl (.aload_n 0, 1), .inl (.dup, 1), .inl (.getfield 38, 3), .inl (.iconst 1, 1), .inl (.iadd, 1), .inl (.putfield 38, 3), .inl (.iinc 3 1, 3), .inl (.goto (-37), 3)] 6 ls r rem st := (rfl)
theorem j_106_6 : mjmp k_106 K 6 ls r rem st = K 6 (mproj [0, 2, 3] ls) r rem st := (rfl)
theorem cge_8_38 {a b : Int} : mstep P rt sg C J X post (.if_icmp .ge 38) 8 ls (mi b :: mi a :: r) rem st nx = ((mcmp .ge a b → J 46 ls r rem st) ∧ (¬ mcmp .ge a b → nx ls r rem st)) := e_icmp rfl
theorem f_RX3_35_3 {i : Nat} {f : mV → Prop} : mGet P_RX3 35 3 i st f = f (mr 6 i) := (rfl)
theorem cge_17_29 {a b : Int} : mstep P rt sg C J X post (.if_icmp .ge 29) 17 ls (mi b :: mi a :: r) rem st nx = ((mcmp .ge a b → J 46 ls r rem st) ∧ (¬ mcmp .ge a b → nx ls r rem st)) := e_icmp rfl
theorem f_RX3_38_3 {i : Nat} {f : mV → Prop} : mGet P_RX3 38 3 i st f = f (mi (sI st 3 i 8)) := (rfl)
theorem p_RX3_38_3 {f : Nat → Prop} : mPut P_RX3 38 3 0 f = f 8 := (rfl)
theorem g_43_m37 : mstep P rt sg C J X post (.goto (-37)) 43 ls r rem st nx = J 6 ls r rem st := e_goto rfl
theorem a_106_46 {C : mCall} {K : mK} : mat P_RX3 0 sg_ k_106 [] C K post 46 ls r rem st = mblk P_RX3 0 sg_ C (mjmp k_106 K) (mexc [] K post k_106) post [.inl (.return_, 1)] 46 ls r rem st := (rfl)
theorem j_106_46 : mjmp k_106 K 46 ls r rem st = K 46 (mproj [] ls) r rem st := (rfl)
theorem a_107_0 {C : mCall} {K : mK} : mat P_RX3 0 sg_ k_107 [] C K post 0 ls r rem st = mblk P_RX3 0 sg_ C (mjmp k_107 K) (mexc [] K post k_107) post [.inl (.iload_n 1, 1), .inl (.iconst 0, 1), .inl (.invokestatic 71, 3), .inl (.istore_n 3, 1)] 0 ls r rem st := (rfl)
theorem j_107_0 : mjmp k_107 K 0 ls r rem st = K 0 (mproj [0, 1, 2] ls) r rem st := (rfl)
theorem a_107_6 {C : mCall} {K : mK} : mat P_RX3 0 sg_ k_107 [] C K post 6 ls r rem st = mblk P_RX3 0 sg_ C (mjmp k_107 K) (mexc [] K post k_107) post [.inl (.iload_n 3, 1), .inl (.iload_n 2, 1), .inl (.if_icmp .ge 38, 3), .inl (.iload_n 3, 1), .inl (.aload_n 0, 1), .inl (.getfield 35, 3), .inl (.arraylength, 1), .inl (.if_icmp .ge 29, 3), .inl (.aload_n 0, 1), .inl (.getfield 35, 3), .inl (.iload_n 3, 1), .inl (.dup2, 1), .inl (.iaload, 1), .inl (.iconst 1, 1), .inl (.isub, 1), .inl (.iastore, 1), .inl (.aload_n 0, 1), .inl (.dup, 1), .inl (.getfield 38, 3), .inl (.iconst 1, 1), .inl (.isub, 1), .inl (.putfield 38, 3), .inl (.iinc 3 1, 3), .inl (.goto (-37), 3)] 6 ls r rem st := (rfl)
theorem j_107_6 : mjmp k_107 K 6 ls r rem st = K 6 (mproj [0, 2, 3] ls) r rem st := (rfl)
theorem a_107_46 {C : mCall} {K : mK} : mat P_RX3 0 sg_ k_107 [] C K post 46 ls r rem st = mblk P_RX3 0 sg_ C (mjmp k_107 K) (mexc [] K post k_107) post [.inl (.return_, 1)] 46 ls r rem st := (rfl)
theorem j_107_46 : mjmp k_107 K 46 ls r rem st = K 46 (mproj [] ls) r rem st := (rfl)
theorem a_108_0 {C : mCall} {K : mK} : mat P_RX3 1 sg_ k_108 [] C K post 0 ls r rem st = mblk P_RX3 1 sg_ C (mjmp k_108 K) (mexc [] K post k_108) post [.inl (.iload_n 1, 1), .inl (.ifCond .lt 25, 3), .inl (.iload_n 1, 1), .inl (.aload_n 0, 1), .inl (.getfield 35, 3), .inl (.arraylength, 1), .inl (.if_icmp .ge 16, 3), .inl (.aload_n 0, 1), .inl (.getfield 35, 3), .inl (.iload_n 1, 1), .inl (.iaload, 1), .inl (.ifCond .le 7, 3), .inl (.iconst 1, 1), .inl (.goto 4, 3)] 0 ls r rem st := (rfl)
theorem j_108_0 : mjmp k_108 K 0 ls r rem st = K 0 (mproj [0, 1] ls) r rem st := (rfl)
theorem zlt_1_25 {a : Int} : mstep P rt sg C J X post (.ifCond .lt 25) 1 ls (mi a :: r) rem st nx = ((mcmp .lt a 0 → J 26 ls r rem st) ∧ (¬ mcmp .lt a 0 → nx ls r rem st)) := e_ifc rfl
theorem cge_10_16 {a b : Int} : mstep P rt sg C J X post (.if_icmp .ge 16) 10 ls (mi b :: mi a :: r) rem st nx = ((mcmp .ge a b → J 26 ls r rem st) ∧ (¬ mcmp .ge a b → nx ls r rem st)) := e_icmp rfl
theorem zle_19_7 {a : Int} : mstep P rt sg C J X post (.ifCond .le 7) 19 ls (mi a :: r) rem st nx = ((mcmp .le a 0 → J 26 ls r rem st) ∧ (¬ mcmp .le a 0 → nx ls r rem st)) := e_ifc rfl
theorem g_23_4 : mstep P rt sg C J X post (.goto 4) 23 ls r rem st nx = J 27 ls r rem st := e_goto rfl
theorem a_108_26 {C : mCall} {K : mK} : mat P_RX3 1 sg_ k_108 [] C K post 26 ls r rem st = mblk P_RX3 1 sg_ C (mjmp k_108 K) (mexc [] K post k_108) post [.inl (.iconst 0, 1)] 26 ls r rem st := (rfl)
theorem j_108_26 : mjmp k_108 K 26 ls r rem st = K 26 (mproj [] ls) r rem st := (rfl)
theorem a_108_27 {C : mCall} {K : mK} : mat P_RX3 1 sg_ k_108 [] C K post 27 ls r rem st = mblk P_RX3 1 sg_ C (mjmp k_108 K) (mexc [] K post k_108) post [.inl (.ireturn, 1)] 27 ls r rem st := (rfl)
theorem j_108_27 : mjmp k_108 K 27 ls r rem st = K 27 (mproj [] ls) r rem st := (rfl)
theorem a_109_0 {C : mCall} {K : mK} : mat P_RX3 0 sg_ k_109 [] C K post 0 ls r rem st = mblk P_RX3 0 sg_ C (mjmp k_109 K) (mexc [] K post k_109) post [.inl (.iconst 0, 1), .inl (.istore_n 3, 1), .inl (.iload_n 1, 1), .inl (.istore 4, 2)] 0 ls r rem st := (rfl)
theorem j_109_0 : mjmp k_109 K 0 ls r rem st = K 0 (mproj [0, 1, 2] ls) r rem st := (rfl)
theorem a_109_5 {C : mCall} {K : mK} : mat P_RX3 0 sg_ k_109 [] C K post 5 ls r rem st = mblk P_RX3 0 sg_ C (mjmp k_109 K) (mexc [] K post k_109) post [.inl (.iload 4, 2), .inl (.iload_n 2, 1), .inl (.if_icmp .ge 21, 3), .inl (.aload_n 0, 1), .inl (.iload 4, 2), .inl (.invokevirtual 77, 3), .inl (.ifCond .eq 6, 3), .inl (.iinc 3 1, 3)] 5 ls r rem st := (rfl)
theorem j_109_5 : mjmp k_109 K 5 ls r rem st = K 5 (mproj [0, 2, 3, 4] ls) r rem st := (rfl)
theorem v_RX3_77_3 {a1 : mV} {i : Nat} : mstep P_RX3 rt sg_ C J X post (.invokevirtual 77) pc ls (a1 :: mr 3 i :: r) rem st nx = cond (mroom r) (0 ≤ rem.1 ∧ 0 ≤ rem.2 ∧ C 108 [mr 3 i, a1] st (mck X pc ls r (rem.1 - 0, rem.2 - 0) nx)) False := (rfl)
theorem zeq_17_6 {a : Int} : mstep P rt sg C J X post (.ifCond .eq 6) 17 ls (mi a :: r) rem st nx = ((mcmp .eq a 0 → J 23 ls r rem st) ∧ (¬ mcmp .eq a 0 → nx ls r rem st)) := e_ifc rfl
theorem a_109_23 {C : mCall} {K : mK} : mat P_RX3 0 sg_ k_109 [] C K post 23 ls r rem st = mblk P_RX3 0 sg_ C (mjmp k_109 K) (mexc [] K post k_109) post [.inl (.iinc 4 1, 3), .inl (.goto (-21), 3)] 23 ls r rem st := (rfl)
theorem j_109_23 : mjmp k_109 K 23 ls r rem st = K 23 (mproj [0, 2, 3, 4] ls) r rem st := (rfl)
theorem g_26_m21 : mstep P rt sg C J X post (.goto (-21)) 26 ls r rem st nx = J 5 ls r rem st := e_goto rfl
theorem a_109_29 {C : mCall} {K : mK} : mat P_RX3 0 sg_ k_109 [] C K post 29 ls r rem st = mblk P_RX3 0 sg_ C (mjmp k_109 K) (mexc [] K post k_109) post [.inl (.iload_n 3, 1), .inl (.ireturn, 1)] 29 ls r rem st := (rfl)
theorem j_109_29 : mjmp k_109 K 29 ls r rem st = K 29 (mproj [3] ls) r rem st := (rfl)
theorem a_110_0 {C : mCall} {K : mK} : mat P_RX3 1 sg_ k_110 [] C K post 0 ls r rem st = mblk P_RX3 1 sg_ C (mjmp k_110 K) (mexc [] K post k_110) post [.inl (.iload_n 1, 1), .inl (.iconst 0, 1), .inl (.invokestatic 71, 3), .inl (.istore 4, 2)] 0 ls r rem st := (rfl)
theorem j_110_0 : mjmp k_110 K 0 ls r rem st = K 0 (mproj [0, 1, 2, 3] ls) r rem st := (rfl)
theorem a_110_7 {C : mCall} {K : mK} : mat P_RX3 1 sg_ k_110 [] C K post 7 ls r rem st = mblk P_RX3 1 sg_ C (mjmp k_110 K) (mexc [] K post k_110) post [.inl (.iload 4, 2), .inl (.iload_n 2, 1), .inl (.if_icmp .ge 32, 3), .inl (.iload 4, 2), .inl (.aload_n 0, 1), .inl (.getfield 35, 3), .inl (.arraylength, 1), .inl (.if_icmp .ge 22, 3), .inl (.aload_n 0, 1), .inl (.getfield 35, 3), .inl (.iload 4, 2), .inl (.iaload, 1), .inl (.iload_n 3, 1), .inl (.if_icmp .le 5, 3), .inl (.iconst 1, 1), .inl (.ireturn, 1)] 7 ls r rem st := (rfl)
theorem j_110_7 : mjmp k_110 K 7 ls r rem st = K 7 (mproj [0, 2, 3, 4] ls) r rem st := (rfl)
theorem cge_10_32 {a b : Int} : mstep P rt sg C J X post (.if_icmp .ge 32) 10 ls (mi b :: mi a :: r) rem st nx = ((mcmp .ge a b → J 42 ls r rem st) ∧ (¬ mcmp .ge a b → nx ls r rem st)) := e_icmp rfl
theorem cge_20_22 {a b : Int} : mstep P rt sg C J X post (.if_icmp .ge 22) 20 ls (mi b :: mi a :: r) rem st nx = ((mcmp .ge a b → J 42 ls r rem st) ∧ (¬ mcmp .ge a b → nx ls r rem st)) := e_icmp rfl
theorem cle_31_5 {a b : Int} : mstep P rt sg C J X post (.if_icmp .le 5) 31 ls (mi b :: mi a :: r) rem st nx = ((mcmp .le a b → J 36 ls r rem st) ∧ (¬ mcmp .le a b → nx ls r rem st)) := e_icmp rfl
theorem a_110_36 {C : mCall} {K : mK} : mat P_RX3 1 sg_ k_110 [] C K post 36 ls r rem st = mblk P_RX3 1 sg_ C (mjmp k_110 K) (mexc [] K post k_110) post [.inl (.iinc 4 1, 3), .inl (.goto (-32), 3)] 36 ls r rem st := (rfl)
theorem j_110_36 : mjmp k_110 K 36 ls r rem st = K 36 (mproj [0, 2, 3, 4] ls) r rem st := (rfl)
theorem g_39_m32 : mstep P rt sg C J X post (.goto (-32)) 39 ls r rem st nx = J 7 ls r rem st := e_goto rfl
theorem a_110_42 {C : mCall} {K : mK} : mat P_RX3 1 sg_ k_110 [] C K post 42 ls r rem st = mblk P_RX3 1 sg_ C (mjmp k_110 K) (mexc [] K post k_110) post [.inl (.iconst 0, 1), .inl (.ireturn, 1)] 42 ls r rem st := (rfl)
theorem j_110_42 : mjmp k_110 K 42 ls r rem st = K 42 (mproj [] ls) r rem st := (rfl)
theorem a_111_0 {C : mCall} {K : mK} : mat P_RX3 1 sg_ k_111 [] C K post 0 ls r rem st = mblk P_RX3 1 sg_ C (mjmp k_111 K) (mexc [] K post k_111) post [.inl (.aload_n 0, 1), .inl (.getfield 38, 3), .inl (.iload_n 2, 1), .inl (.iload_n 1, 1), .inl (.isub, 1), .inl (.iadd, 1), .inl (.iload 4, 2), .inl (.if_icmp .gt 5, 3), .inl (.iconst 0, 1), .inl (.ireturn, 1)] 0 ls r rem st := (rfl)
theorem j_111_0 : mjmp k_111 K 0 ls r rem st = K 0 (mproj [0, 1, 2, 3, 4] ls) r rem st := (rfl)
theorem cgt_10_5 {a b : Int} : mstep P rt sg C J X post (.if_icmp .gt 5) 10 ls (mi b :: mi a :: r) rem st nx = ((mcmp .gt a b → J 15 ls r rem st) ∧ (¬ mcmp .gt a b → nx ls r rem st)) := e_icmp rfl
theorem a_111_15 {C : mCall} {K : mK} : mat P_RX3 1 sg_ k_111 [] C K post 15 ls r rem st = mblk P_RX3 1 sg_ C (mjmp k_111 K) (mexc [] K post k_111) post [.inl (.iconst 0, 1), .inl (.istore 5, 2), .inl (.iload_n 1, 1), .inl (.iload_n 3, 1), .inl (.isub, 1), .inl (.iconst 1, 1), .inl (.iadd, 1), .inl (.istore 6, 2)] 15 ls r rem st := (rfl)
theorem j_111_15 : mjmp k_111 K 15 ls r rem st = K 15 (mproj [0, 1, 2, 3, 4] ls) r rem st := (rfl)
theorem a_111_25 {C : mCall} {K : mK} : mat P_RX3 1 sg_ k_111 [] C K post 25 ls r rem st = mblk P_RX3 1 sg_ C (mjmp k_111 K) (mexc [] K post k_111) post [.inl (.iload 6, 2), .inl (.iload_n 2, 1), .inl (.iload_n 3, 1), .inl (.iadd, 1), .inl (.iconst 1, 1), .inl (.isub, 1), .inl (.if_icmp .ge 80, 3), .inl (.iload 6, 2), .inl (.iload_n 1, 1), .inl (.if_icmp .lt 9, 3), .inl (.iload 6, 2), .inl (.iload_n 2, 1), .inl (.if_icmp .lt 12, 3)] 25 ls r rem st := (rfl)
theorem j_111_25 : mjmp k_111 K 25 ls r rem st = K 25 (mproj [0, 1, 2, 3, 4, 5, 6] ls) r rem st := (rfl)
theorem cge_32_80 {a b : Int} : mstep P rt sg C J X post (.if_icmp .ge 80) 32 ls (mi b :: mi a :: r) rem st nx = ((mcmp .ge a b → J 112 ls r rem st) ∧ (¬ mcmp .ge a b → nx ls r rem st)) := e_icmp rfl
theorem clt_38_9 {a b : Int} : mstep P rt sg C J X post (.if_icmp .lt 9) 38 ls (mi b :: mi a :: r) rem st nx = ((mcmp .lt a b → J 47 ls r rem st) ∧ (¬ mcmp .lt a b → nx ls r rem st)) := e_icmp rfl
theorem clt_44_12 {a b : Int} : mstep P rt sg C J X post (.if_icmp .lt 12) 44 ls (mi b :: mi a :: r) rem st nx = ((mcmp .lt a b → J 56 ls r rem st) ∧ (¬ mcmp .lt a b → nx ls r rem st)) := e_icmp rfl
theorem a_111_47 {C : mCall} {K : mK} : mat P_RX3 1 sg_ k_111 [] C K post 47 ls r rem st = mblk P_RX3 1 sg_ C (mjmp k_111 K) (mexc [] K post k_111) post [.inl (.aload_n 0, 1), .inl (.iload 6, 2), .inl (.invokevirtual 77, 3), .inl (.ifCond .eq 6, 3)] 47 ls r rem st := (rfl)
theorem j_111_47 : mjmp k_111 K 47 ls r rem st = K 47 (mproj [0, 1, 2, 3, 4, 5, 6] ls) r rem st := (rfl)
theorem zeq_53_6 {a : Int} : mstep P rt sg C J X post (.ifCond .eq 6) 53 ls (mi a :: r) rem st nx = ((mcmp .eq a 0 → J 59 ls r rem st) ∧ (¬ mcmp .eq a 0 → nx ls r rem st)) := e_ifc rfl
theorem a_111_56 {C : mCall} {K : mK} : mat P_RX3 1 sg_ k_111 [] C K post 56 ls r rem st = mblk P_RX3 1 sg_ C (mjmp k_111 K) (mexc [] K post k_111) post [.inl (.iinc 5 1, 3)] 56 ls r rem st := (rfl)
theorem j_111_56 : mjmp k_111 K 56 ls r rem st = K 56 (mproj [0, 1, 2, 3, 4, 5, 6] ls) r rem st := (rfl)
theorem a_111_59 {C : mCall} {K : mK} : mat P_RX3 1 sg_ k_111 [] C K post 59 ls r rem st = mblk P_RX3 1 sg_ C (mjmp k_111 K) (mexc [] K post k_111) post [.inl (.iload 6, 2), .inl (.iload_n 3, 1), .inl (.isub, 1), .inl (.istore 7, 2), .inl (.iload 7, 2), .inl (.iload_n 1, 1), .inl (.iload_n 3, 1), .inl (.isub, 1), .inl (.if_icmp .le 27, 3), .inl (.iload 7, 2), .inl (.iload_n 1, 1), .inl (.if_icmp .lt 9, 3), .inl (.iload 7, 2), .inl (.iload_n 2, 1), .inl (.if_icmp .lt 12, 3)] 59 ls r rem st := (rfl)
theorem j_111_59 : mjmp k_111 K 59 ls r rem st = K 59 (mproj [0, 1, 2, 3, 4, 5, 6] ls) r rem st := (rfl)
theorem cle_70_27 {a b : Int} : mstep P rt sg C J X post (.if_icmp .le 27) 70 ls (mi b :: mi a :: r) rem st nx = ((mcmp .le a b → J 97 ls r rem st) ∧ (¬ mcmp .le a b → nx ls r rem st)) := e_icmp rfl
theorem clt_76_9 {a b : Int} : mstep P rt sg C J X post (.if_icmp .lt 9) 76 ls (mi b :: mi a :: r) rem st nx = ((mcmp .lt a b → J 85 ls r rem st) ∧ (¬ mcmp .lt a b → nx ls r rem st)) := e_icmp rfl
theorem clt_82_12 {a b : Int} : mstep P rt sg C J X post (.if_icmp .lt 12) 82 ls (mi b :: mi a :: r) rem st nx = ((mcmp .lt a b → J 94 ls r rem st) ∧ (¬ mcmp .lt a b → nx ls r rem st)) := e_icmp rfl
theorem a_111_85 {C : mCall} {K : mK} : mat P_RX3 1 sg_ k_111 [] C K post 85 ls r rem st = mblk P_RX3 1 sg_ C (mjmp k_111 K) (mexc [] K post k_111) post [.inl (.aload_n 0, 1), .inl (.iload 7, 2), .inl (.invokevirtual 77, 3), .inl (.ifCond .eq 6, 3)] 85 ls r rem st := (rfl)
theorem j_111_85 : mjmp k_111 K 85 ls r rem st = K 85 (mproj [0, 1, 2, 3, 4, 5, 6, 7] ls) r rem st := (rfl)
theorem zeq_91_6 {a : Int} : mstep P rt sg C J X post (.ifCond .eq 6) 91 ls (mi a :: r) rem st nx = ((mcmp .eq a 0 → J 97 ls r rem st) ∧ (¬ mcmp .eq a 0 → nx ls r rem st)) := e_ifc rfl
theorem a_111_94 {C : mCall} {K : mK} : mat P_RX3 1 sg_ k_111 [] C K post 94 ls r rem st = mblk P_RX3 1 sg_ C (mjmp k_111 K) (mexc [] K post k_111) post [.inl (.iinc 5 (-1), 3)] 94 ls r rem st := (rfl)
theorem j_111_94 : mjmp k_111 K 94 ls r rem st = K 94 (mproj [0, 1, 2, 3, 4, 5, 6] ls) r rem st := (rfl)
theorem a_111_97 {C : mCall} {K : mK} : mat P_RX3 1 sg_ k_111 [] C K post 97 ls r rem st = mblk P_RX3 1 sg_ C (mjmp k_111 K) (mexc [] K post k_111) post [.inl (.iload 5, 2), .inl (.iload 4, 2), .inl (.if_icmp .le 5, 3), .inl (.iconst 1, 1), .inl (.ireturn, 1)] 97 ls r rem st := (rfl)
theorem j_111_97 : mjmp k_111 K 97 ls r rem st = K 97 (mproj [0, 1, 2, 3, 4, 5, 6] ls) r rem st := (rfl)
theorem cle_101_5 {a b : Int} : mstep P rt sg C J X post (.if_icmp .le 5) 101 ls (mi b :: mi a :: r) rem st nx = ((mcmp .le a b → J 106 ls r rem st) ∧ (¬ mcmp .le a b → nx ls r rem st)) := e_icmp rfl
theorem a_111_106 {C : mCall} {K : mK} : mat P_RX3 1 sg_ k_111 [] C K post 106 ls r rem st = mblk P_RX3 1 sg_ C (mjmp k_111 K) (mexc [] K post k_111) post [.inl (.iinc 6 1, 3), .inl (.goto (-84), 3)] 106 ls r rem st := (rfl)
theorem j_111_106 : mjmp k_111 K 106 ls r rem st = K 106 (mproj [0, 1, 2, 3, 4, 5, 6] ls) r rem st := (rfl)
theorem g_109_m84 : mstep P rt sg C J X post (.goto (-84)) 109 ls r rem st nx = J 25 ls r rem st := e_goto rfl
theorem a_111_112 {C : mCall} {K : mK} : mat P_RX3 1 sg_ k_111 [] C K post 112 ls r rem st = mblk P_RX3 1 sg_ C (mjmp k_111 K) (mexc [] K post k_111) post [.inl (.iconst 0, 1), .inl (.ireturn, 1)] 112 ls r rem st := (rfl)
theorem j_111_112 : mjmp k_111 K 112 ls r rem st = K 112 (mproj [] ls) r rem st := (rfl)
theorem a_112_0 {C : mCall} {K : mK} : mat P_RX3 0 sg_ k_112 [] C K post 0 ls r rem st = mblk P_RX3 0 sg_ C (mjmp k_112 K) (mexc [] K post k_112) post [.inl (.iconst 0, 1), .inl (.istore_n 2, 1), .inl (.iconst 0, 1), .inl (.istore_n 3, 1), .inl (.iconst 0, 1), .inl (.istore 4, 2)] 0 ls r rem st := (rfl)
theorem j_112_0 : mjmp k_112 K 0 ls r rem st = K 0 (mproj [0, 1] ls) r rem st := (rfl)
theorem a_112_7 {C : mCall} {K : mK} : mat P_RX3 0 sg_ k_112 [] C K post 7 ls r rem st = mblk P_RX3 0 sg_ C (mjmp k_112 K) (mexc [] K post k_112) post [.inl (.iload 4, 2), .inl (.aload_n 0, 1), .inl (.getfield 35, 3), .inl (.arraylength, 1), .inl (.if_icmp .ge 41, 3), .inl (.aload_n 0, 1), .inl (.iload 4, 2), .inl (.invokevirtual 77, 3), .inl (.ifCond .eq 6, 3), .inl (.iinc 2 1, 3)] 7 ls r rem st := (rfl)
theorem j_112_7 : mjmp k_112 K 7 ls r rem st = K 7 (mproj [0, 1, 2, 3, 4] ls) r rem st := (rfl)
theorem cge_14_41 {a b : Int} : mstep P rt sg C J X post (.if_icmp .ge 41) 14 ls (mi b :: mi a :: r) rem st nx = ((mcmp .ge a b → J 55 ls r rem st) ∧ (¬ mcmp .ge a b → nx ls r rem st)) := e_icmp rfl
theorem zeq_23_6 {a : Int} : mstep P rt sg C J X post (.ifCond .eq 6) 23 ls (mi a :: r) rem st nx = ((mcmp .eq a 0 → J 29 ls r rem st) ∧ (¬ mcmp .eq a 0 → nx ls r rem st)) := e_ifc rfl
theorem a_112_29 {C : mCall} {K : mK} : mat P_RX3 0 sg_ k_112 [] C K post 29 ls r rem st = mblk P_RX3 0 sg_ C (mjmp k_112 K) (mexc [] K post k_112) post [.inl (.aload_n 0, 1), .inl (.iload 4, 2), .inl (.iload_n 1, 1), .inl (.isub, 1), .inl (.invokevirtual 77, 3), .inl (.ifCond .eq 6, 3), .inl (.iinc 2 (-1), 3)] 29 ls r rem st := (rfl)
theorem j_112_29 : mjmp k_112 K 29 ls r rem st = K 29 (mproj [0, 1, 2, 3, 4] ls) r rem st := (rfl)
theorem zeq_37_6 {a : Int} : mstep P rt sg C J X post (.ifCond .eq 6) 37 ls (mi a :: r) rem st nx = ((mcmp .eq a 0 → J 43 ls r rem st) ∧ (¬ mcmp .eq a 0 → nx ls r rem st)) := e_ifc rfl
theorem a_112_43 {C : mCall} {K : mK} : mat P_RX3 0 sg_ k_112 [] C K post 43 ls r rem st = mblk P_RX3 0 sg_ C (mjmp k_112 K) (mexc [] K post k_112) post [.inl (.iload_n 3, 1), .inl (.iload_n 2, 1), .inl (.invokestatic 71, 3), .inl (.istore_n 3, 1), .inl (.iinc 4 1, 3), .inl (.goto (-45), 3)] 43 ls r rem st := (rfl)
theorem j_112_43 : mjmp k_112 K 43 ls r rem st = K 43 (mproj [0, 1, 2, 3, 4] ls) r rem st := (rfl)
theorem g_52_m45 : mstep P rt sg C J X post (.goto (-45)) 52 ls r rem st nx = J 7 ls r rem st := e_goto rfl
theorem a_112_55 {C : mCall} {K : mK} : mat P_RX3 0 sg_ k_112 [] C K post 55 ls r rem st = mblk P_RX3 0 sg_ C (mjmp k_112 K) (mexc [] K post k_112) post [.inl (.iload_n 3, 1), .inl (.ireturn, 1)] 55 ls r rem st := (rfl)
theorem j_112_55 : mjmp k_112 K 55 ls r rem st = K 55 (mproj [3] ls) r rem st := (rfl)
theorem a_113_0 {C : mCall} {K : mK} : mat P_RX6 0 sg_ k_113 [] C K post 0 ls r rem st = mblk P_RX6 0 sg_ C (mjmp k_113 K) (mexc [] K post k_113) post [.inl (.iload_n 1, 1), .inl (.iconst 1, 1), .inl (.if_icmp .lt 9, 3), .inl (.iload_n 1, 1), .inl (.bipush 48, 2), .inl (.if_icmp .le 13, 3)] 0 ls r rem st := (rfl)
theorem j_113_0 : mjmp k_113 K 0 ls r rem st = K 0 (mproj [0, 1] ls) r rem st := (rfl)
theorem clt_2_9 {a b : Int} : mstep P rt sg C J X post (.if_icmp .lt 9) 2 ls (mi b :: mi a :: r) rem st nx = ((mcmp .lt a b → J 11 ls r rem st) ∧ (¬ mcmp .lt a b → nx ls r rem st)) := e_icmp rfl
theorem cle_8_13 {a b : Int} : mstep P rt sg C J X post (.if_icmp .le 13) 8 ls (mi b :: mi a :: r) rem st nx = ((mcmp .le a b → J 21 ls r rem st) ∧ (¬ mcmp .le a b → nx ls r rem st)) := e_icmp rfl
theorem a_113_11 {C : mCall} {K : mK} : mat P_RX6 0 sg_ k_113 [] C K post 11 ls r rem st = mblk P_RX6 0 sg_ C (mjmp k_113 K) (mexc [] K post k_113) post [.inr (0, 46, 48, 50, [])] 11 ls r rem st := (rfl)
theorem j_113_11 : mjmp k_113 K 11 ls r rem st = K 11 (mproj [] ls) r rem st := (rfl)
theorem th_RX6_46_0 {is ic : Nat} {lo : List (Instr × Nat)} : mblk P_RX6 rt sg C J X post (.inr (0, 46, is, ic, lo) :: l) pc ls [] rem st = ((1 ≤ rem.1 ∧ 6 ≤ rem.2) ∧ post (.inr 1) st) := (rfl)
theorem a_113_21 {C : mCall} {K : mK} : mat P_RX6 0 sg_ k_113 [] C K post 21 ls r rem st = mblk P_RX6 0 sg_ C (mjmp k_113 K) (mexc [] K post k_113) post [.inl (.aload_n 0, 1), .inl (.getfield 36, 3), .inl (.iload_n 1, 1), .inl (.iadd, 1), .inl (.sipush 999, 3), .inl (.if_icmp .le 13, 3), .inr (0, 53, 55, 57, [])] 21 ls r rem st := (rfl)
theorem j_113_21 : mjmp k_113 K 21 ls r rem st = K 21 (mproj [0, 1] ls) r rem st := (rfl)
theorem f_RX6_36_0 {i : Nat} {f : mV → Prop} : mGet P_RX6 36 0 i st f = f (mi (sI st 0 i 5)) := (rfl)
theorem cle_30_13 {a b : Int} : mstep P rt sg C J X post (.if_icmp .le 13) 30 ls (mi b :: mi a :: r) rem st nx = ((mcmp .le a b → J 43 ls r rem st) ∧ (¬ mcmp .le a b → nx ls r rem st)) := e_icmp rfl
theorem th_RX6_53_0 {is ic : Nat} {lo : List (Instr × Nat)} : mblk P_RX6 rt sg C J X post (.inr (0, 53, is, ic, lo) :: l) pc ls [] rem st = ((1 ≤ rem.1 ∧ 6 ≤ rem.2) ∧ post (.inr 2) st) := (rfl)
theorem a_113_43 {C : mCall} {K : mK} : mat P_RX6 0 sg_ k_113 [] C K post 43 ls r rem st = mblk P_RX6 0 sg_ C (mjmp k_113 K) (mexc [] K post k_113) post [.inl (.iconst 0, 1), .inl (.istore_n 2, 1), .inl (.iconst 0, 1), .inl (.istore_n 3, 1)] 43 ls r rem st := (rfl)
theorem j_113_43 : mjmp k_113 K 43 ls r rem st = K 43 (mproj [0, 1] ls) r rem st := (rfl)
theorem a_113_47 {C : mCall} {K : mK} : mat P_RX6 0 sg_ k_113 [] C K post 47 ls r rem st = mblk P_RX6 0 sg_ C (mjmp k_113 K) (mexc [] K post k_113) post [.inl (.iload_n 3, 1), .inl (.iload_n 1, 1), .inl (.if_icmp .ge 16, 3), .inl (.iload_n 2, 1), .inl (.aload_n 0, 1), .inl (.invokevirtual 58, 3), .inl (.iadd, 1), .inl (.istore_n 2, 1), .inl (.iinc 3 1, 3), .inl (.goto (-15), 3)] 47 ls r rem st := (rfl)
theorem j_113_47 : mjmp k_113 K 47 ls r rem st = K 47 (mproj [0, 1, 2, 3] ls) r rem st := (rfl)
theorem cge_49_16 {a b : Int} : mstep P rt sg C J X post (.if_icmp .ge 16) 49 ls (mi b :: mi a :: r) rem st nx = ((mcmp .ge a b → J 65 ls r rem st) ∧ (¬ mcmp .ge a b → nx ls r rem st)) := e_icmp rfl
theorem v_RX6_58_0  {i : Nat} : mstep P_RX6 rt sg_ C J X post (.invokevirtual 58) pc ls (mr 0 i :: r) rem st nx = cond (mroom r) (0 ≤ rem.1 ∧ 0 ≤ rem.2 ∧ C 118 [mr 0 i] st (mck X pc ls r (rem.1 - 0, rem.2 - 0) nx)) False := (rfl)
theorem g_62_m15 : mstep P rt sg C J X post (.goto (-15)) 62 ls r rem st nx = J 47 ls r rem st := e_goto rfl
theorem a_113_65 {C : mCall} {K : mK} : mat P_RX6 0 sg_ k_113 [] C K post 65 ls r rem st = mblk P_RX6 0 sg_ C (mjmp k_113 K) (mexc [] K post k_113) post [.inl (.iload_n 2, 1), .inl (.ireturn, 1)] 65 ls r rem st := (rfl)
theorem j_113_65 : mjmp k_113 K 65 ls r rem st = K 65 (mproj [2] ls) r rem st := (rfl)
theorem a_114_0 {C : mCall} {K : mK} : mat P_RX6 0 sg_ k_114 [] C K post 0 ls r rem st = mblk P_RX6 0 sg_ C (mjmp k_114 K) (mexc [] K post k_114) post [.inl (.aload_n 0, 1), .inl (.getfield 36, 3), .inl (.ireturn, 1)] 0 ls r rem st := (rfl)
theorem j_114_0 : mjmp k_114 K 0 ls r rem st = K 0 (mproj [0] ls) r rem st := (rfl)
theorem a_115_0 {C : mCall} {K : mK} : mat P_RX6 0 sg_ k_115 [] C K post 0 ls r rem st = mblk P_RX6 0 sg_ C (mjmp k_115 K) (mexc [] K post k_115) post [.inl (.iload_n 1, 1), .inl (.iconst 1, 1), .inl (.if_icmp .lt 9, 3), .inl (.iload_n 1, 1), .inl (.bipush 24, 2), .inl (.if_icmp .le 13, 3)] 0 ls r rem st := (rfl)
theorem j_115_0 : mjmp k_115 K 0 ls r rem st = K 0 (mproj [0, 1] ls) r rem st := (rfl)
theorem a_115_11 {C : mCall} {K : mK} : mat P_RX6 0 sg_ k_115 [] C K post 11 ls r rem st = mblk P_RX6 0 sg_ C (mjmp k_115 K) (mexc [] K post k_115) post [.inr (0, 46, 62, 50, [])] 11 ls r rem st := (rfl)
theorem j_115_11 : mjmp k_115 K 11 ls r rem st = K 11 (mproj [] ls) r rem st := (rfl)
theorem a_115_21 {C : mCall} {K : mK} : mat P_RX6 0 sg_ k_115 [] C K post 21 ls r rem st = mblk P_RX6 0 sg_ C (mjmp k_115 K) (mexc [] K post k_115) post [.inl (.aload_n 0, 1), .inl (.getfield 40, 3), .inl (.istore_n 2, 1), .inl (.aload_n 0, 1), .inl (.iload_n 1, 1), .inl (.putfield 40, 3), .inl (.iload_n 2, 1), .inl (.ireturn, 1)] 21 ls r rem st := (rfl)
theorem j_115_21 : mjmp k_115 K 21 ls r rem st = K 21 (mproj [0, 1] ls) r rem st := (rfl)
theorem f_RX6_40_0 {i : Nat} {f : mV → Prop} : mGet P_RX6 40 0 i st f = f (mi (sI st 0 i 6)) := (rfl)
theorem p_RX6_40_0 {f : Nat → Prop} : mPut P_RX6 40 0 0 f = f 6 := (rfl)
theorem a_116_0 {C : mCall} {K : mK} : mat P_RX6 0 sg_ k_116 [] C K post 0 ls r rem st = mblk P_RX6 0 sg_ C (mjmp k_116 K) (mexc [] K post k_116) post [.inl (.iload_n 1, 1), .inl (.iconst 1, 1), .inl (.if_icmp .lt 10, 3), .inl (.iload_n 1, 1), .inl (.sipush 168, 3), .inl (.if_icmp .le 13, 3)] 0 ls r rem st := (rfl)
theorem j_116_0 : mjmp k_116 K 0 ls r rem st = K 0 (mproj [0, 1] ls) r rem st := (rfl)
theorem clt_2_10 {a b : Int} : mstep P rt sg C J X post (.if_icmp .lt 10) 2 ls (mi b :: mi a :: r) rem st nx = ((mcmp .lt a b → J 12 ls r rem st) ∧ (¬ mcmp .lt a b → nx ls r rem st)) := e_icmp rfl
theorem cle_9_13 {a b : Int} : mstep P rt sg C J X post (.if_icmp .le 13) 9 ls (mi b :: mi a :: r) rem st nx = ((mcmp .le a b → J 22 ls r rem st) ∧ (¬ mcmp .le a b → nx ls r rem st)) := e_icmp rfl
theorem a_116_12 {C : mCall} {K : mK} : mat P_RX6 0 sg_ k_116 [] C K post 12 ls r rem st = mblk P_RX6 0 sg_ C (mjmp k_116 K) (mexc [] K post k_116) post [.inr (0, 46, 64, 50, [])] 12 ls r rem st := (rfl)
theorem j_116_12 : mjmp k_116 K 12 ls r rem st = K 12 (mproj [] ls) r rem st := (rfl)
theorem a_116_22 {C : mCall} {K : mK} : mat P_RX6 0 sg_ k_116 [] C K post 22 ls r rem st = mblk P_RX6 0 sg_ C (mjmp k_116 K) (mexc [] K post k_116) post [.inl (.aload_n 0, 1), .inl (.getfield 43, 3), .inl (.istore_n 2, 1), .inl (.aload_n 0, 1), .inl (.iload_n 1, 1), .inl (.putfield 43, 3), .inl (.iload_n 2, 1), .inl (.ireturn, 1)] 22 ls r rem st := (rfl)
theorem j_116_22 : mjmp k_116 K 22 ls r rem st = K 22 (mproj [0, 1] ls) r rem st := (rfl)
theorem f_RX6_43_0 {i : Nat} {f : mV → Prop} : mGet P_RX6 43 0 i st f = f (mi (sI st 0 i 7)) := (rfl)
theorem p_RX6_43_0 {f : Nat → Prop} : mPut P_RX6 43 0 0 f = f 7 := (rfl)
theorem a_117_0 {C : mCall} {K : mK} : mat P_RX6 0 sg_ k_117 [] C K post 0 ls r rem st = mblk P_RX6 0 sg_ C (mjmp k_117 K) (mexc [] K post k_117) post [.inl (.aload_n 0, 1), .inl (.getfield 36, 3), .inl (.bipush 24, 2), .inl (.idiv, 1), .inl (.ireturn, 1)] 0 ls r rem st := (rfl)
theorem j_117_0 : mjmp k_117 K 0 ls r rem st = K 0 (mproj [0] ls) r rem st := (rfl)
theorem a_118_0 {C : mCall} {K : mK} : mat P_RX6 0 sg_ k_118 [] C K post 0 ls r rem st = mblk P_RX6 0 sg_ C (mjmp k_118 K) (mexc [] K post k_118) post [.inl (.aload_n 0, 1), .inl (.dup, 1), .inl (.getfield 36, 3), .inl (.iconst 1, 1), .inl (.iadd, 1), .inl (.putfield 36, 3), .inl (.aload_n 0, 1), .inl (.getfield 36, 3), .inl (.bipush 24, 2), .inl (.irem, 1), .inl (.ifCond .ne 13, 3), .inl (.aload_n 0, 1), .inl (.aload_n 0, 1), .inl (.invokevirtual 66, 3), .inl (.iconst 1, 1), .inl (.isub, 1), .inl (.invokevirtual 69, 3)] 0 ls r rem st := (rfl)
theorem j_118_0 : mjmp k_118 K 0 ls r rem st = K 0 (mproj [0] ls) r rem st := (rfl)
theorem p_RX6_36_0 {f : Nat → Prop} : mPut P_RX6 36 0 0 f = f 5 := (rfl)
theorem zne_17_13 {a : Int} : mstep P rt sg C J X post (.ifCond .ne 13) 17 ls (mi a :: r) rem st nx = ((mcmp .ne a 0 → J 30 ls r rem st) ∧ (¬ mcmp .ne a 0 → nx ls r rem st)) := e_ifc rfl
theorem v_RX6_66_0  {i : Nat} : mstep P_RX6 rt sg_ C J X post (.invokevirtual 66) pc ls (mr 0 i :: r) rem st nx = cond (mroom r) (0 ≤ rem.1 ∧ 0 ≤ rem.2 ∧ C 117 [mr 0 i] st (mck X pc ls r (rem.1 - 0, rem.2 - 0) nx)) False := (rfl)
theorem v_RX6_69_0 {a1 : mV} {i : Nat} : mstep P_RX6 rt sg_ C J X post (.invokevirtual 69) pc ls (a1 :: mr 0 i :: r) rem st nx = cond (mroom r) (0 ≤ rem.1 ∧ 0 ≤ rem.2 ∧ C 119 [mr 0 i, a1] st (mck X pc ls r (rem.1 - 0, rem.2 - 0) nx)) False := (rfl)
theorem a_118_30 {C : mCall} {K : mK} : mat P_RX6 0 sg_ k_118 [] C K post 30 ls r rem st = mblk P_RX6 0 sg_ C (mjmp k_118 K) (mexc [] K post k_118) post [.inl (.iconst 0, 1), .inl (.istore_n 1, 1), .inl (.iconst 0, 1), .inl (.istore_n 2, 1)] 30 ls r rem st := (rfl)
theorem j_118_30 : mjmp k_118 K 30 ls r rem st = K 30 (mproj [0] ls) r rem st := (rfl)
theorem a_118_34 {C : mCall} {K : mK} : mat P_RX6 0 sg_ k_118 [] C K post 34 ls r rem st = mblk P_RX6 0 sg_ C (mjmp k_118 K) (mexc [] K post k_118) post [.inl (.iload_n 2, 1), .inl (.aload_n 0, 1), .inl (.getfield 19, 3), .inl (.invokeinterface 73 1, 5), .inl (.if_icmp .ge 66, 3), .inl (.aload_n 0, 1), .inl (.getfield 19, 3), .inl (.iload_n 2, 1), .inl (.invokeinterface 78 2, 5), .inl (.checkcast 82, 3), .inl (.astore_n 3, 1), .inl (.aload_n 3, 1), .inl (.invokevirtual 84, 3), .inl (.ifCond .eq 39, 3), .inl (.aload_n 3, 1), .inl (.getfield 88, 3), .inl (.aload_n 0, 1), .inl (.getfield 36, 3), .inl (.if_icmp .ne 28, 3), .inl (.aload_n 0, 1), .inl (.aload_n 3, 1), .inl (.invokevirtual 91, 3), .inl (.ifCond .eq 12, 3), .inl (.aload_n 3, 1), .inl (.bipush 115, 2), .inl (.putfield 95, 3), .inl (.goto 11, 3)] 34 ls r rem st := (rfl)
theorem j_118_34 : mjmp k_118 K 34 ls r rem st = K 34 (mproj [0, 1, 2] ls) r rem st := (rfl)
theorem f_RX6_19_0 {i : Nat} {f : mV → Prop} : mGet P_RX6 19 0 i st f = f (mr 22 i) := (rfl)
theorem v_RX6_73 {a0 : mV} : mstep P_RX6 rt sg_ C J X post (.invokeinterface 73 1) pc ls (a0 :: r) rem st nx = cond (mroom r) (0 ≤ rem.1 ∧ 0 ≤ rem.2 ∧ C 501 [a0] st (mck X pc ls r (rem.1 - 0, rem.2 - 0) nx)) False := (rfl)
theorem cge_44_66 {a b : Int} : mstep P rt sg C J X post (.if_icmp .ge 66) 44 ls (mi b :: mi a :: r) rem st nx = ((mcmp .ge a b → J 110 ls r rem st) ∧ (¬ mcmp .ge a b → nx ls r rem st)) := e_icmp rfl
theorem v_RX6_78 {a0 a1 : mV} : mstep P_RX6 rt sg_ C J X post (.invokeinterface 78 2) pc ls (a1 :: a0 :: r) rem st nx = cond (mroom r) (0 ≤ rem.1 ∧ 0 ≤ rem.2 ∧ C 502 [a0, a1] st (mck X pc ls r (rem.1 - 0, rem.2 - 0) nx)) False := (rfl)
theorem k_RX6_82 {f : Prop} : mCast P_RX6 82 9 f = f := (rfl)
theorem v_RX6_84_9  {i : Nat} : mstep P_RX6 rt sg_ C J X post (.invokevirtual 84) pc ls (mr 9 i :: r) rem st nx = cond (mroom r) (0 ≤ rem.1 ∧ 0 ≤ rem.2 ∧ C 71 [mr 9 i] st (mck X pc ls r (rem.1 - 0, rem.2 - 0) nx)) False := (rfl)
theorem zeq_65_39 {a : Int} : mstep P rt sg C J X post (.ifCond .eq 39) 65 ls (mi a :: r) rem st nx = ((mcmp .eq a 0 → J 104 ls r rem st) ∧ (¬ mcmp .eq a 0 → nx ls r rem st)) := e_ifc rfl
theorem f_RX6_88_9 {i : Nat} {f : mV → Prop} : mGet P_RX6 88 9 i st f = f (mi (sI st 9 i 1)) := (rfl)
theorem cne_76_28 {a b : Int} : mstep P rt sg C J X post (.if_icmp .ne 28) 76 ls (mi b :: mi a :: r) rem st nx = ((mcmp .ne a b → J 104 ls r rem st) ∧ (¬ mcmp .ne a b → nx ls r rem st)) := e_icmp rfl
theorem v_RX6_91_0 {a1 : mV} {i : Nat} : mstep P_RX6 rt sg_ C J X post (.invokevirtual 91) pc ls (a1 :: mr 0 i :: r) rem st nx = cond (mroom r) (0 ≤ rem.1 ∧ 0 ≤ rem.2 ∧ C 160 [mr 0 i, a1] st (mck X pc ls r (rem.1 - 0, rem.2 - 0) nx)) False := (rfl)
theorem zeq_84_12 {a : Int} : mstep P rt sg C J X post (.ifCond .eq 12) 84 ls (mi a :: r) rem st nx = ((mcmp .eq a 0 → J 96 ls r rem st) ∧ (¬ mcmp .eq a 0 → nx ls r rem st)) := e_ifc rfl
theorem p_RX6_95_9 {f : Nat → Prop} : mPut P_RX6 95 9 0 f = f 3 := (rfl)
theorem g_93_11 : mstep P rt sg C J X post (.goto 11) 93 ls r rem st nx = J 104 ls r rem st := e_goto rfl
theorem a_118_96 {C : mCall} {K : mK} : mat P_RX6 0 sg_ k_118 [] C K post 96 ls r rem st = mblk P_RX6 0 sg_ C (mjmp k_118 K) (mexc [] K post k_118) post [.inl (.aload_n 0, 1), .inl (.aload_n 3, 1), .inl (.invokevirtual 99, 3), .inl (.iinc 1 1, 3)] 96 ls r rem st := (rfl)
theorem j_118_96 : mjmp k_118 K 96 ls r rem st = K 96 (mproj [0, 1, 2, 3] ls) r rem st := (rfl)
theorem v_RX6_99_0 {a1 : mV} {i : Nat} : mstep P_RX6 rt sg_ C J X post (.invokevirtual 99) pc ls (a1 :: mr 0 i :: r) rem st nx = cond (mroom r) (0 ≤ rem.1 ∧ 0 ≤ rem.2 ∧ C 158 [mr 0 i, a1] st (mck X pc ls r (rem.1 - 0, rem.2 - 0) nx)) False := (rfl)
theorem a_118_104 {C : mCall} {K : mK} : mat P_RX6 0 sg_ k_118 [] C K post 104 ls r rem st = mblk P_RX6 0 sg_ C (mjmp k_118 K) (mexc [] K post k_118) post [.inl (.iinc 2 1, 3), .inl (.goto (-73), 3)] 104 ls r rem st := (rfl)
theorem j_118_104 : mjmp k_118 K 104 ls r rem st = K 104 (mproj [0, 1, 2] ls) r rem st := (rfl)
theorem g_107_m73 : mstep P rt sg C J X post (.goto (-73)) 107 ls r rem st nx = J 34 ls r rem st := e_goto rfl
theorem a_118_110 {C : mCall} {K : mK} : mat P_RX6 0 sg_ k_118 [] C K post 110 ls r rem st = mblk P_RX6 0 sg_ C (mjmp k_118 K) (mexc [] K post k_118) post [.inl (.iload_n 1, 1), .inl (.ireturn, 1)] 110 ls r rem st := (rfl)
theorem j_118_110 : mjmp k_118 K 110 ls r rem st = K 110 (mproj [1] ls) r rem st := (rfl)
theorem a_119_0 {C : mCall} {K : mK} : mat P_RX6 0 sg_ k_119 [] C K post 0 ls r rem st = mblk P_RX6 0 sg_ C (mjmp k_119 K) (mexc [] K post k_119) post [.inl (.iconst 0, 1), .inl (.istore_n 2, 1)] 0 ls r rem st := (rfl)
theorem j_119_0 : mjmp k_119 K 0 ls r rem st = K 0 (mproj [0, 1] ls) r rem st := (rfl)
theorem a_119_2 {C : mCall} {K : mK} : mat P_RX6 0 sg_ k_119 [] C K post 2 ls r rem st = mblk P_RX6 0 sg_ C (mjmp k_119 K) (mexc [] K post k_119) post [.inl (.iload_n 2, 1), .inl (.aload_n 0, 1), .inl (.getfield 10, 3), .inl (.invokeinterface 73 1, 5), .inl (.if_icmp .ge 26, 3), .inl (.aload_n 0, 1), .inl (.getfield 10, 3), .inl (.iload_n 2, 1), .inl (.invokeinterface 78 2, 5), .inl (.checkcast 103, 3), .inl (.iload_n 1, 1), .inl (.invokevirtual 105, 3), .inl (.iinc 2 1, 3), .inl (.goto (-33), 3)] 2 ls r rem st := (rfl)
theorem j_119_2 : mjmp k_119 K 2 ls r rem st = K 2 (mproj [0, 1, 2] ls) r rem st := (rfl)
theorem f_RX6_10_0 {i : Nat} {f : mV → Prop} : mGet P_RX6 10 0 i st f = f (mr 20 i) := (rfl)
theorem cge_12_26 {a b : Int} : mstep P rt sg C J X post (.if_icmp .ge 26) 12 ls (mi b :: mi a :: r) rem st nx = ((mcmp .ge a b → J 38 ls r rem st) ∧ (¬ mcmp .ge a b → nx ls r rem st)) := e_icmp rfl
theorem k_RX6_103 {f : Prop} : mCast P_RX6 103 3 f = f := (rfl)
theorem v_RX6_105_3 {a1 : mV} {i : Nat} : mstep P_RX6 rt sg_ C J X post (.invokevirtual 105) pc ls (a1 :: mr 3 i :: r) rem st nx = cond (mroom r) (0 ≤ rem.1 ∧ 0 ≤ rem.2 ∧ C 105 [mr 3 i, a1] st (mck X pc ls r (rem.1 - 0, rem.2 - 0) nx)) False := (rfl)
theorem a_119_38 {C : mCall} {K : mK} : mat P_RX6 0 sg_ k_119 [] C K post 38 ls r rem st = mblk P_RX6 0 sg_ C (mjmp k_119 K) (mexc [] K post k_119) post [.inl (.return_, 1)] 38 ls r rem st := (rfl)
theorem j_119_38 : mjmp k_119 K 38 ls r rem st = K 38 (mproj [] ls) r rem st := (rfl)
theorem a_120_0 {C : mCall} {K : mK} : mat P_RX6 0 sg_ k_120 [] C K post 0 ls r rem st = mblk P_RX6 0 sg_ C (mjmp k_120 K) (mexc [] K post k_120) post [.inl (.aload_n 0, 1), .inl (.getfield 10, 3), .inl (.invokeinterface 73 1, 5), .inl (.istore_n 1, 1), .inl (.iload_n 1, 1), .inl (.bipush 8, 2), .inl (.if_icmp .lt 13, 3), .inr (0, 53, 108, 57, [])] 0 ls r rem st := (rfl)
theorem j_120_0 : mjmp k_120 K 0 ls r rem st = K 0 (mproj [0] ls) r rem st := (rfl)
theorem clt_13_13 {a b : Int} : mstep P rt sg C J X post (.if_icmp .lt 13) 13 ls (mi b :: mi a :: r) rem st nx = ((mcmp .lt a b → J 26 ls r rem st) ∧ (¬ mcmp .lt a b → nx ls r rem st)) := e_icmp rfl
theorem a_120_26 {C : mCall} {K : mK} : mat P_RX6 0 sg_ k_120 [] C K post 26 ls r rem st = mblk P_RX6 0 sg_ C (mjmp k_120 K) (mexc [] K post k_120) post [.inl (.aload_n 0, 1), .inl (.getfield 10, 3), .inr (2, 103, 0, 110, [(.iload_n 1, 1)]), .inl (.invokeinterface 112 2, 5), .inl (.pop, 1), .inl (.iload_n 1, 1), .inl (.ireturn, 1)] 26 ls r rem st := (rfl)
theorem j_120_26 : mjmp k_120 K 26 ls r rem st = K 26 (mproj [0, 1] ls) r rem st := (rfl)
theorem v_RX6_112 {a0 a1 : mV} : mstep P_RX6 rt sg_ C J X post (.invokeinterface 112 2) pc ls (a1 :: a0 :: r) rem st nx = cond (mroom r) (1 ≤ rem.1 ∧ 64 ≤ rem.2 ∧ C 503 [a0, a1] st (mck X pc ls r (rem.1 - 1, rem.2 - 64) nx)) False := (rfl)
theorem a_121_0 {C : mCall} {K : mK} : mat P_RX6 0 sg_ k_121 [] C K post 0 ls r rem st = mblk P_RX6 0 sg_ C (mjmp k_121 K) (mexc [] K post k_121) post [.inl (.aload_n 0, 1), .inl (.iload_n 1, 1), .inl (.invokevirtual 116, 3), .inl (.astore 4, 2), .inl (.iload_n 2, 1), .inl (.invokestatic 120, 3), .inl (.iload_n 3, 1), .inl (.invokestatic 123, 3), .inl (.aload 4, 2), .inl (.iload_n 2, 1), .inl (.invokevirtual 126, 3), .inl (.aload_n 0, 1), .inl (.invokevirtual 66, 3), .inl (.if_icmp .lt 13, 3), .inr (0, 53, 130, 57, [])] 0 ls r rem st := (rfl)
theorem j_121_0 : mjmp k_121 K 0 ls r rem st = K 0 (mproj [0, 1, 2, 3] ls) r rem st := (rfl)
theorem v_RX6_116_0 {a1 : mV} {i : Nat} : mstep P_RX6 rt sg_ C J X post (.invokevirtual 116) pc ls (a1 :: mr 0 i :: r) rem st nx = cond (mroom r) (1 ≤ rem.1 ∧ 6 ≤ rem.2 ∧ C 130 [mr 0 i, a1] st (mck X pc ls r (rem.1 - 1, rem.2 - 6) nx)) False := (rfl)
theorem v_RX6_120 {a0 : mV} : mstep P_RX6 rt sg_ C J X post (.invokestatic 120) pc ls (a0 :: r) rem st nx = cond (mroom r) (1 ≤ rem.1 ∧ 6 ≤ rem.2 ∧ C 131 [a0] st (mck X pc ls r (rem.1 - 1, rem.2 - 6) nx)) False := (rfl)
theorem v_RX6_123 {a0 : mV} : mstep P_RX6 rt sg_ C J X post (.invokestatic 123) pc ls (a0 :: r) rem st nx = cond (mroom r) (1 ≤ rem.1 ∧ 6 ≤ rem.2 ∧ C 132 [a0] st (mck X pc ls r (rem.1 - 1, rem.2 - 6) nx)) False := (rfl)
theorem v_RX6_126_3 {a1 : mV} {i : Nat} : mstep P_RX6 rt sg_ C J X post (.invokevirtual 126) pc ls (a1 :: mr 3 i :: r) rem st nx = cond (mroom r) (0 ≤ rem.1 ∧ 0 ≤ rem.2 ∧ C 98 [mr 3 i, a1] st (mck X pc ls r (rem.1 - 0, rem.2 - 0) nx)) False := (rfl)
theorem clt_25_13 {a b : Int} : mstep P rt sg C J X post (.if_icmp .lt 13) 25 ls (mi b :: mi a :: r) rem st nx = ((mcmp .lt a b → J 38 ls r rem st) ∧ (¬ mcmp .lt a b → nx ls r rem st)) := e_icmp rfl
theorem a_121_38 {C : mCall} {K : mK} : mat P_RX6 0 sg_ k_121 [] C K post 38 ls r rem st = mblk P_RX6 0 sg_ C (mjmp k_121 K) (mexc [] K post k_121) post [.inl (.aload_n 0, 1), .inl (.invokevirtual 66, 3), .inl (.iload_n 3, 1), .inl (.iadd, 1), .inl (.iconst 1, 1), .inl (.isub, 1), .inl (.istore 5, 2), .inl (.aload 4, 2), .inl (.iload_n 2, 1), .inl (.aload_n 0, 1), .inl (.invokevirtual 66, 3), .inl (.iload 5, 2), .inl (.invokevirtual 132, 3), .inl (.iload 5, 2), .inl (.ireturn, 1)] 38 ls r rem st := (rfl)
theorem j_121_38 : mjmp k_121 K 38 ls r rem st = K 38 (mproj [0, 2, 3, 4] ls) r rem st := (rfl)
theorem v_RX6_132_3 {a1 a2 a3 : mV} {i : Nat} : mstep P_RX6 rt sg_ C J X post (.invokevirtual 132) pc ls (a3 :: a2 :: a1 :: mr 3 i :: r) rem st nx = cond (mroom r) (0 ≤ rem.1 ∧ 0 ≤ rem.2 ∧ C 99 [mr 3 i, a1, a2, a3] st (mck X pc ls r (rem.1 - 0, rem.2 - 0) nx)) False := (rfl)
theorem a_122_0 {C : mCall} {K : mK} : mat P_RX6 0 sg_ k_122 [] C K post 0 ls r rem st = mblk P_RX6 0 sg_ C (mjmp k_122 K) (mexc [] K post k_122) post [.inl (.aload_n 0, 1), .inl (.iload_n 1, 1), .inl (.invokevirtual 116, 3), .inl (.astore 4, 2), .inl (.iload_n 2, 1), .inl (.invokestatic 120, 3), .inl (.iload_n 3, 1), .inl (.invokestatic 123, 3), .inl (.aload 4, 2), .inl (.iload_n 2, 1), .inl (.invokestatic 136, 3), .inl (.istore 5, 2), .inl (.aload_n 0, 1), .inl (.invokevirtual 66, 3), .inl (.iload 5, 2), .inl (.if_icmp .gt 15, 3), .inl (.aload_n 0, 1), .inl (.invokevirtual 66, 3), .inl (.iload 5, 2), .inl (.bipush 9, 2), .inl (.isub, 1), .inl (.if_icmp .ge 13, 3)] 0 ls r rem st := (rfl)
theorem j_122_0 : mjmp k_122 K 0 ls r rem st = K 0 (mproj [0, 1, 2, 3] ls) r rem st := (rfl)
theorem v_RX6_136 {a0 a1 : mV} : mstep P_RX6 rt sg_ C J X post (.invokestatic 136) pc ls (a1 :: a0 :: r) rem st nx = cond (mroom r) (1 ≤ rem.1 ∧ 6 ≤ rem.2 ∧ C 133 [a0, a1] st (mck X pc ls r (rem.1 - 1, rem.2 - 6) nx)) False := (rfl)
theorem cgt_29_15 {a b : Int} : mstep P rt sg C J X post (.if_icmp .gt 15) 29 ls (mi b :: mi a :: r) rem st nx = ((mcmp .gt a b → J 44 ls r rem st) ∧ (¬ mcmp .gt a b → nx ls r rem st)) := e_icmp rfl
theorem cge_41_13 {a b : Int} : mstep P rt sg C J X post (.if_icmp .ge 13) 41 ls (mi b :: mi a :: r) rem st nx = ((mcmp .ge a b → J 54 ls r rem st) ∧ (¬ mcmp .ge a b → nx ls r rem st)) := e_icmp rfl
theorem a_122_44 {C : mCall} {K : mK} : mat P_RX6 0 sg_ k_122 [] C K post 44 ls r rem st = mblk P_RX6 0 sg_ C (mjmp k_122 K) (mexc [] K post k_122) post [.inr (0, 53, 140, 57, [])] 44 ls r rem st := (rfl)
theorem j_122_44 : mjmp k_122 K 44 ls r rem st = K 44 (mproj [] ls) r rem st := (rfl)
theorem a_122_54 {C : mCall} {K : mK} : mat P_RX6 0 sg_ k_122 [] C K post 54 ls r rem st = mblk P_RX6 0 sg_ C (mjmp k_122 K) (mexc [] K post k_122) post [.inl (.aload 4, 2), .inl (.iload_n 2, 1), .inl (.iload_n 3, 1), .inl (.invokevirtual 142, 3), .inl (.iload 5, 2), .inl (.iload_n 3, 1), .inl (.iadd, 1), .inl (.ireturn, 1)] 54 ls r rem st := (rfl)
theorem j_122_54 : mjmp k_122 K 54 ls r rem st = K 54 (mproj [2, 3, 4, 5] ls) r rem st := (rfl)
theorem v_RX6_142_3 {a1 a2 : mV} {i : Nat} : mstep P_RX6 rt sg_ C J X post (.invokevirtual 142) pc ls (a2 :: a1 :: mr 3 i :: r) rem st nx = cond (mroom r) (0 ≤ rem.1 ∧ 0 ≤ rem.2 ∧ C 100 [mr 3 i, a1, a2] st (mck X pc ls r (rem.1 - 0, rem.2 - 0) nx)) False := (rfl)
theorem a_123_0 {C : mCall} {K : mK} : mat P_RX6 0 sg_ k_123 [] C K post 0 ls r rem st = mblk P_RX6 0 sg_ C (mjmp k_123 K) (mexc [] K post k_123) post [.inl (.aload_n 0, 1), .inl (.iload_n 1, 1), .inl (.invokevirtual 116, 3), .inl (.astore_n 3, 1), .inl (.iload_n 2, 1), .inl (.invokestatic 120, 3), .inl (.aload_n 3, 1), .inl (.iload_n 2, 1), .inl (.invokestatic 136, 3), .inl (.ireturn, 1)] 0 ls r rem st := (rfl)
theorem j_123_0 : mjmp k_123 K 0 ls r rem st = K 0 (mproj [0, 1, 2] ls) r rem st := (rfl)
theorem a_124_0 {C : mCall} {K : mK} : mat P_RX6 0 sg_ k_124 [] C K post 0 ls r rem st = mblk P_RX6 0 sg_ C (mjmp k_124 K) (mexc [] K post k_124) post [.inl (.aload_n 0, 1), .inl (.iload_n 1, 1), .inl (.invokevirtual 116, 3), .inl (.astore_n 3, 1), .inl (.iload_n 2, 1), .inl (.iconst 1, 1), .inl (.if_icmp .lt 9, 3), .inl (.iload_n 2, 1), .inl (.bipush 20, 2), .inl (.if_icmp .le 13, 3)] 0 ls r rem st := (rfl)
theorem j_124_0 : mjmp k_124 K 0 ls r rem st = K 0 (mproj [0, 1, 2] ls) r rem st := (rfl)
theorem clt_8_9 {a b : Int} : mstep P rt sg C J X post (.if_icmp .lt 9) 8 ls (mi b :: mi a :: r) rem st nx = ((mcmp .lt a b → J 17 ls r rem st) ∧ (¬ mcmp .lt a b → nx ls r rem st)) := e_icmp rfl
theorem cle_14_13 {a b : Int} : mstep P rt sg C J X post (.if_icmp .le 13) 14 ls (mi b :: mi a :: r) rem st nx = ((mcmp .le a b → J 27 ls r rem st) ∧ (¬ mcmp .le a b → nx ls r rem st)) := e_icmp rfl
theorem a_124_17 {C : mCall} {K : mK} : mat P_RX6 0 sg_ k_124 [] C K post 17 ls r rem st = mblk P_RX6 0 sg_ C (mjmp k_124 K) (mexc [] K post k_124) post [.inr (0, 46, 146, 50, [])] 17 ls r rem st := (rfl)
theorem j_124_17 : mjmp k_124 K 17 ls r rem st = K 17 (mproj [] ls) r rem st := (rfl)
theorem a_124_27 {C : mCall} {K : mK} : mat P_RX6 0 sg_ k_124 [] C K post 27 ls r rem st = mblk P_RX6 0 sg_ C (mjmp k_124 K) (mexc [] K post k_124) post [.inl (.aload_n 0, 1), .inl (.invokevirtual 66, 3), .inl (.iload_n 2, 1), .inl (.iadd, 1), .inl (.iconst 1, 1), .inl (.isub, 1), .inl (.istore 4, 2), .inl (.aload_n 3, 1), .inl (.getfield 148, 3), .inl (.aload_n 0, 1), .inl (.invokevirtual 66, 3), .inl (.iload 4, 2), .inl (.invokevirtual 152, 3), .inl (.iconst 0, 1), .inl (.istore 5, 2), .inl (.iconst 0, 1), .inl (.istore 6, 2)] 27 ls r rem st := (rfl)
theorem j_124_27 : mjmp k_124 K 27 ls r rem st = K 27 (mproj [0, 1, 2, 3] ls) r rem st := (rfl)
theorem f_RX6_148_3 {i : Nat} {f : mV → Prop} : mGet P_RX6 148 3 i st f = f (mr 1 i) := (rfl)
theorem v_RX6_152_1 {a1 a2 : mV} {i : Nat} : mstep P_RX6 rt sg_ C J X post (.invokevirtual 152) pc ls (a2 :: a1 :: mr 1 i :: r) rem st nx = cond (mroom r) (0 ≤ rem.1 ∧ 0 ≤ rem.2 ∧ C 66 [mr 1 i, a1, a2] st (mck X pc ls r (rem.1 - 0, rem.2 - 0) nx)) False := (rfl)
theorem v_RX6_152_2 {a1 a2 : mV} {i : Nat} : mstep P_RX6 rt sg_ C J X post (.invokevirtual 152) pc ls (a2 :: a1 :: mr 2 i :: r) rem st nx = cond (mroom r) (0 ≤ rem.1 ∧ 0 ≤ rem.2 ∧ C 66 [mr 2 i, a1, a2] st (mck X pc ls r (rem.1 - 0, rem.2 - 0) nx)) False := (rfl)
theorem a_124_56 {C : mCall} {K : mK} : mat P_RX6 0 sg_ k_124 [] C K post 56 ls r rem st = mblk P_RX6 0 sg_ C (mjmp k_124 K) (mexc [] K post k_124) post [.inl (.iload 6, 2), .inl (.aload_n 0, 1), .inl (.getfield 19, 3), .inl (.invokeinterface 73 1, 5), .inl (.if_icmp .ge 67, 3), .inl (.aload_n 0, 1), .inl (.getfield 19, 3), .inl (.iload 6, 2), .inl (.invokeinterface 78 2, 5), .inl (.checkcast 82, 3), .inl (.astore 7, 2), .inl (.aload 7, 2), .inl (.invokevirtual 84, 3), .inl (.ifCond .eq 37, 3), .inl (.aload 7, 2), .inl (.iload_n 1, 1), .inl (.invokevirtual 156, 3), .inl (.ifCond .eq 28, 3), .inl (.aload 7, 2), .inl (.invokevirtual 160, 3), .inl (.iload 4, 2), .inl (.if_icmp .gt 18, 3), .inl (.aload 7, 2), .inl (.invokevirtual 163, 3), .inl (.aload_n 0, 1), .inl (.invokevirtual 66, 3), .inl (.if_icmp .lt 6, 3), .inl (.iinc 5 1, 3)] 56 ls r rem st := (rfl)
theorem j_124_56 : mjmp k_124 K 56 ls r rem st = K 56 (mproj [0, 1, 4, 5, 6] ls) r rem st := (rfl)
theorem cge_67_67 {a b : Int} : mstep P rt sg C J X post (.if_icmp .ge 67) 67 ls (mi b :: mi a :: r) rem st nx = ((mcmp .ge a b → J 134 ls r rem st) ∧ (¬ mcmp .ge a b → nx ls r rem st)) := e_icmp rfl
theorem zeq_91_37 {a : Int} : mstep P rt sg C J X post (.ifCond .eq 37) 91 ls (mi a :: r) rem st nx = ((mcmp .eq a 0 → J 128 ls r rem st) ∧ (¬ mcmp .eq a 0 → nx ls r rem st)) := e_ifc rfl
theorem v_RX6_156_9 {a1 : mV} {i : Nat} : mstep P_RX6 rt sg_ C J X post (.invokevirtual 156) pc ls (a1 :: mr 9 i :: r) rem st nx = cond (mroom r) (0 ≤ rem.1 ∧ 0 ≤ rem.2 ∧ C 79 [mr 9 i, a1] st (mck X pc ls r (rem.1 - 0, rem.2 - 0) nx)) False := (rfl)
theorem zeq_100_28 {a : Int} : mstep P rt sg C J X post (.ifCond .eq 28) 100 ls (mi a :: r) rem st nx = ((mcmp .eq a 0 → J 128 ls r rem st) ∧ (¬ mcmp .eq a 0 → nx ls r rem st)) := e_ifc rfl
theorem v_RX6_160_9  {i : Nat} : mstep P_RX6 rt sg_ C J X post (.invokevirtual 160) pc ls (mr 9 i :: r) rem st nx = cond (mroom r) (0 ≤ rem.1 ∧ 0 ≤ rem.2 ∧ C 72 [mr 9 i] st (mck X pc ls r (rem.1 - 0, rem.2 - 0) nx)) False := (rfl)
theorem cgt_110_18 {a b : Int} : mstep P rt sg C J X post (.if_icmp .gt 18) 110 ls (mi b :: mi a :: r) rem st nx = ((mcmp .gt a b → J 128 ls r rem st) ∧ (¬ mcmp .gt a b → nx ls r rem st)) := e_icmp rfl
theorem v_RX6_163_9  {i : Nat} : mstep P_RX6 rt sg_ C J X post (.invokevirtual 163) pc ls (mr 9 i :: r) rem st nx = cond (mroom r) (0 ≤ rem.1 ∧ 0 ≤ rem.2 ∧ C 73 [mr 9 i] st (mck X pc ls r (rem.1 - 0, rem.2 - 0) nx)) False := (rfl)
theorem clt_122_6 {a b : Int} : mstep P rt sg C J X post (.if_icmp .lt 6) 122 ls (mi b :: mi a :: r) rem st nx = ((mcmp .lt a b → J 128 ls r rem st) ∧ (¬ mcmp .lt a b → nx ls r rem st)) := e_icmp rfl
theorem a_124_128 {C : mCall} {K : mK} : mat P_RX6 0 sg_ k_124 [] C K post 128 ls r rem st = mblk P_RX6 0 sg_ C (mjmp k_124 K) (mexc [] K post k_124) post [.inl (.iinc 6 1, 3), .inl (.goto (-75), 3)] 128 ls r rem st := (rfl)
theorem j_124_128 : mjmp k_124 K 128 ls r rem st = K 128 (mproj [0, 1, 4, 5, 6] ls) r rem st := (rfl)
theorem g_131_m75 : mstep P rt sg C J X post (.goto (-75)) 131 ls r rem st nx = J 56 ls r rem st := e_goto rfl
theorem a_124_134 {C : mCall} {K : mK} : mat P_RX6 0 sg_ k_124 [] C K post 134 ls r rem st = mblk P_RX6 0 sg_ C (mjmp k_124 K) (mexc [] K post k_124) post [.inl (.iload 5, 2), .inl (.ireturn, 1)] 134 ls r rem st := (rfl)
theorem j_124_134 : mjmp k_124 K 134 ls r rem st = K 134 (mproj [5] ls) r rem st := (rfl)
theorem a_125_0 {C : mCall} {K : mK} : mat P_RX6 0 sg_ k_125 [] C K post 0 ls r rem st = mblk P_RX6 0 sg_ C (mjmp k_125 K) (mexc [] K post k_125) post [.inl (.aload_n 0, 1), .inl (.iload_n 1, 1), .inl (.invokevirtual 116, 3), .inl (.astore_n 2, 1), .inl (.aload_n 2, 1), .inl (.getfield 148, 3), .inl (.aload_n 0, 1), .inl (.invokevirtual 66, 3), .inl (.invokevirtual 166, 3), .inl (.istore_n 3, 1), .inl (.iload_n 3, 1), .inl (.ifCond .ne 13, 3), .inr (0, 53, 169, 57, [])] 0 ls r rem st := (rfl)
theorem j_125_0 : mjmp k_125 K 0 ls r rem st = K 0 (mproj [0, 1] ls) r rem st := (rfl)
theorem v_RX6_166_1 {a1 : mV} {i : Nat} : mstep P_RX6 rt sg_ C J X post (.invokevirtual 166) pc ls (a1 :: mr 1 i :: r) rem st nx = cond (mroom r) (0 ≤ rem.1 ∧ 0 ≤ rem.2 ∧ C 68 [mr 1 i, a1] st (mck X pc ls r (rem.1 - 0, rem.2 - 0) nx)) False := (rfl)
theorem v_RX6_166_2 {a1 : mV} {i : Nat} : mstep P_RX6 rt sg_ C J X post (.invokevirtual 166) pc ls (a1 :: mr 2 i :: r) rem st nx = cond (mroom r) (0 ≤ rem.1 ∧ 0 ≤ rem.2 ∧ C 68 [mr 2 i, a1] st (mck X pc ls r (rem.1 - 0, rem.2 - 0) nx)) False := (rfl)
theorem zne_19_13 {a : Int} : mstep P rt sg C J X post (.ifCond .ne 13) 19 ls (mi a :: r) rem st nx = ((mcmp .ne a 0 → J 32 ls r rem st) ∧ (¬ mcmp .ne a 0 → nx ls r rem st)) := e_ifc rfl
theorem a_125_32 {C : mCall} {K : mK} : mat P_RX6 0 sg_ k_125 [] C K post 32 ls r rem st = mblk P_RX6 0 sg_ C (mjmp k_125 K) (mexc [] K post k_125) post [.inl (.aload_n 2, 1), .inl (.getfield 148, 3), .inl (.aload_n 0, 1), .inl (.invokevirtual 66, 3), .inl (.invokevirtual 171, 3), .inl (.iload_n 3, 1), .inl (.ireturn, 1)] 32 ls r rem st := (rfl)
theorem j_125_32 : mjmp k_125 K 32 ls r rem st = K 32 (mproj [0, 2, 3] ls) r rem st := (rfl)
theorem v_RX6_171_1 {a1 : mV} {i : Nat} : mstep P_RX6 rt sg_ C J X post (.invokevirtual 171) pc ls (a1 :: mr 1 i :: r) rem st nx = cond (mroom r) (0 ≤ rem.1 ∧ 0 ≤ rem.2 ∧ C 67 [mr 1 i, a1] st (mck X pc ls r (rem.1 - 0, rem.2 - 0) nx)) False := (rfl)
theorem v_RX6_171_2 {a1 : mV} {i : Nat} : mstep P_RX6 rt sg_ C J X post (.invokevirtual 171) pc ls (a1 :: mr 2 i :: r) rem st nx = cond (mroom r) (0 ≤ rem.1 ∧ 0 ≤ rem.2 ∧ C 67 [mr 2 i, a1] st (mck X pc ls r (rem.1 - 0, rem.2 - 0) nx)) False := (rfl)
theorem a_126_0 {C : mCall} {K : mK} : mat P_RX6 0 sg_ k_126 [] C K post 0 ls r rem st = mblk P_RX6 0 sg_ C (mjmp k_126 K) (mexc [] K post k_126) post [.inl (.aload_n 0, 1), .inl (.iload_n 1, 1), .inl (.invokevirtual 116, 3), .inl (.astore 5, 2), .inl (.iload_n 2, 1), .inl (.invokestatic 120, 3), .inl (.iload_n 3, 1), .inl (.aload_n 0, 1), .inl (.invokevirtual 66, 3), .inl (.if_icmp .le 9, 3), .inl (.iload_n 3, 1), .inl (.bipush 41, 2), .inl (.if_icmp .le 13, 3)] 0 ls r rem st := (rfl)
theorem j_126_0 : mjmp k_126 K 0 ls r rem st = K 0 (mproj [0, 1, 2, 3, 4] ls) r rem st := (rfl)
theorem cle_16_9 {a b : Int} : mstep P rt sg C J X post (.if_icmp .le 9) 16 ls (mi b :: mi a :: r) rem st nx = ((mcmp .le a b → J 25 ls r rem st) ∧ (¬ mcmp .le a b → nx ls r rem st)) := e_icmp rfl
theorem cle_22_13 {a b : Int} : mstep P rt sg C J X post (.if_icmp .le 13) 22 ls (mi b :: mi a :: r) rem st nx = ((mcmp .le a b → J 35 ls r rem st) ∧ (¬ mcmp .le a b → nx ls r rem st)) := e_icmp rfl
theorem a_126_25 {C : mCall} {K : mK} : mat P_RX6 0 sg_ k_126 [] C K post 25 ls r rem st = mblk P_RX6 0 sg_ C (mjmp k_126 K) (mexc [] K post k_126) post [.inr (0, 46, 174, 50, [])] 25 ls r rem st := (rfl)
theorem j_126_25 : mjmp k_126 K 25 ls r rem st = K 25 (mproj [] ls) r rem st := (rfl)
theorem a_126_35 {C : mCall} {K : mK} : mat P_RX6 0 sg_ k_126 [] C K post 35 ls r rem st = mblk P_RX6 0 sg_ C (mjmp k_126 K) (mexc [] K post k_126) post [.inl (.iload 4, 2), .inl (.iconst 1, 1), .inl (.if_icmp .lt 10, 3), .inl (.iload 4, 2), .inl (.bipush 10, 2), .inl (.if_icmp .le 13, 3)] 35 ls r rem st := (rfl)
theorem j_126_35 : mjmp k_126 K 35 ls r rem st = K 35 (mproj [2, 3, 4, 5] ls) r rem st := (rfl)
theorem clt_38_10 {a b : Int} : mstep P rt sg C J X post (.if_icmp .lt 10) 38 ls (mi b :: mi a :: r) rem st nx = ((mcmp .lt a b → J 48 ls r rem st) ∧ (¬ mcmp .lt a b → nx ls r rem st)) := e_icmp rfl
theorem cle_45_13 {a b : Int} : mstep P rt sg C J X post (.if_icmp .le 13) 45 ls (mi b :: mi a :: r) rem st nx = ((mcmp .le a b → J 58 ls r rem st) ∧ (¬ mcmp .le a b → nx ls r rem st)) := e_icmp rfl
theorem a_126_48 {C : mCall} {K : mK} : mat P_RX6 0 sg_ k_126 [] C K post 48 ls r rem st = mblk P_RX6 0 sg_ C (mjmp k_126 K) (mexc [] K post k_126) post [.inr (0, 46, 176, 50, [])] 48 ls r rem st := (rfl)
theorem j_126_48 : mjmp k_126 K 48 ls r rem st = K 48 (mproj [] ls) r rem st := (rfl)
theorem a_126_58 {C : mCall} {K : mK} : mat P_RX6 0 sg_ k_126 [] C K post 58 ls r rem st = mblk P_RX6 0 sg_ C (mjmp k_126 K) (mexc [] K post k_126) post [.inl (.iload_n 3, 1), .inl (.iload 4, 2), .inl (.iadd, 1), .inl (.iconst 1, 1), .inl (.isub, 1), .inl (.istore 6, 2), .inl (.iload 6, 2), .inl (.bipush 41, 2), .inl (.if_icmp .le 13, 3), .inr (0, 46, 178, 50, [])] 58 ls r rem st := (rfl)
theorem j_126_58 : mjmp k_126 K 58 ls r rem st = K 58 (mproj [2, 3, 4, 5] ls) r rem st := (rfl)
theorem cle_70_13 {a b : Int} : mstep P rt sg C J X post (.if_icmp .le 13) 70 ls (mi b :: mi a :: r) rem st nx = ((mcmp .le a b → J 83 ls r rem st) ∧ (¬ mcmp .le a b → nx ls r rem st)) := e_icmp rfl
theorem a_126_83 {C : mCall} {K : mK} : mat P_RX6 0 sg_ k_126 [] C K post 83 ls r rem st = mblk P_RX6 0 sg_ C (mjmp k_126 K) (mexc [] K post k_126) post [.inl (.aload 5, 2), .inl (.invokevirtual 180, 3), .inl (.ifCond .eq 13, 3), .inr (0, 53, 183, 57, [])] 83 ls r rem st := (rfl)
theorem j_126_83 : mjmp k_126 K 83 ls r rem st = K 83 (mproj [2, 3, 5, 6] ls) r rem st := (rfl)
theorem v_RX6_180_3  {i : Nat} : mstep P_RX6 rt sg_ C J X post (.invokevirtual 180) pc ls (mr 3 i :: r) rem st nx = cond (mroom r) (0 ≤ rem.1 ∧ 0 ≤ rem.2 ∧ C 102 [mr 3 i] st (mck X pc ls r (rem.1 - 0, rem.2 - 0) nx)) False := (rfl)
theorem zeq_88_13 {a : Int} : mstep P rt sg C J X post (.ifCond .eq 13) 88 ls (mi a :: r) rem st nx = ((mcmp .eq a 0 → J 101 ls r rem st) ∧ (¬ mcmp .eq a 0 → nx ls r rem st)) := e_ifc rfl
theorem a_126_101 {C : mCall} {K : mK} : mat P_RX6 0 sg_ k_126 [] C K post 101 ls r rem st = mblk P_RX6 0 sg_ C (mjmp k_126 K) (mexc [] K post k_126) post [.inl (.aload 5, 2), .inl (.iload_n 2, 1), .inl (.iload_n 3, 1), .inl (.iload 6, 2), .inl (.invokevirtual 185, 3), .inl (.iload 6, 2), .inl (.ireturn, 1)] 101 ls r rem st := (rfl)
theorem j_126_101 : mjmp k_126 K 101 ls r rem st = K 101 (mproj [2, 3, 5, 6] ls) r rem st := (rfl)
theorem v_RX6_185_3 {a1 a2 a3 : mV} {i : Nat} : mstep P_RX6 rt sg_ C J X post (.invokevirtual 185) pc ls (a3 :: a2 :: a1 :: mr 3 i :: r) rem st nx = cond (mroom r) (0 ≤ rem.1 ∧ 0 ≤ rem.2 ∧ C 103 [mr 3 i, a1, a2, a3] st (mck X pc ls r (rem.1 - 0, rem.2 - 0) nx)) False := (rfl)
theorem a_127_0 {C : mCall} {K : mK} : mat P_RX6 0 sg_ k_127 [] C K post 0 ls r rem st = mblk P_RX6 0 sg_ C (mjmp k_127 K) (mexc [] K post k_127) post [.inl (.aload_n 0, 1), .inl (.iload_n 1, 1), .inl (.invokevirtual 116, 3), .inl (.astore_n 2, 1), .inl (.aload_n 2, 1), .inl (.invokevirtual 180, 3), .inl (.ifCond .ne 13, 3), .inr (0, 53, 188, 57, [])] 0 ls r rem st := (rfl)
theorem j_127_0 : mjmp k_127 K 0 ls r rem st = K 0 (mproj [0, 1] ls) r rem st := (rfl)
theorem zne_10_13 {a : Int} : mstep P rt sg C J X post (.ifCond .ne 13) 10 ls (mi a :: r) rem st nx = ((mcmp .ne a 0 → J 23 ls r rem st) ∧ (¬ mcmp .ne a 0 → nx ls r rem st)) := e_ifc rfl
theorem a_127_23 {C : mCall} {K : mK} : mat P_RX6 0 sg_ k_127 [] C K post 23 ls r rem st = mblk P_RX6 0 sg_ C (mjmp k_127 K) (mexc [] K post k_127) post [.inl (.aload_n 2, 1), .inl (.getfield 190, 3), .inl (.aload_n 0, 1), .inl (.invokevirtual 66, 3), .inl (.invokevirtual 166, 3), .inl (.istore_n 3, 1), .inl (.aload_n 2, 1), .inl (.aload_n 0, 1), .inl (.invokevirtual 66, 3), .inl (.invokevirtual 193, 3), .inl (.iload_n 3, 1), .inl (.ireturn, 1)] 23 ls r rem st := (rfl)
theorem j_127_23 : mjmp k_127 K 23 ls r rem st = K 23 (mproj [0, 2] ls) r rem st := (rfl)
theorem f_RX6_190_3 {i : Nat} {f : mV → Prop} : mGet P_RX6 190 3 i st f = f (mr 2 i) := (rfl)
theorem v_RX6_193_3 {a1 : mV} {i : Nat} : mstep P_RX6 rt sg_ C J X post (.invokevirtual 193) pc ls (a1 :: mr 3 i :: r) rem st nx = cond (mroom r) (0 ≤ rem.1 ∧ 0 ≤ rem.2 ∧ C 104 [mr 3 i, a1] st (mck X pc ls r (rem.1 - 0, rem.2 - 0) nx)) False := (rfl)
theorem a_128_0 {C : mCall} {K : mK} : mat P_RX6 1 sg_ k_128 [] C K post 0 ls r rem st = mblk P_RX6 1 sg_ C (mjmp k_128 K) (mexc [] K post k_128) post [.inl (.aload_n 0, 1), .inl (.iload_n 1, 1), .inl (.invokevirtual 116, 3), .inl (.astore_n 3, 1), .inl (.iload_n 2, 1), .inl (.ifCond .lt 9, 3), .inl (.iload_n 2, 1), .inl (.bipush 41, 2), .inl (.if_icmp .le 13, 3)] 0 ls r rem st := (rfl)
theorem j_128_0 : mjmp k_128 K 0 ls r rem st = K 0 (mproj [0, 1, 2] ls) r rem st := (rfl)
theorem zlt_7_9 {a : Int} : mstep P rt sg C J X post (.ifCond .lt 9) 7 ls (mi a :: r) rem st nx = ((mcmp .lt a 0 → J 16 ls r rem st) ∧ (¬ mcmp .lt a 0 → nx ls r rem st)) := e_ifc rfl
theorem cle_13_13 {a b : Int} : mstep P rt sg C J X post (.if_icmp .le 13) 13 ls (mi b :: mi a :: r) rem st nx = ((mcmp .le a b → J 26 ls r rem st) ∧ (¬ mcmp .le a b → nx ls r rem st)) := e_icmp rfl
theorem a_128_16 {C : mCall} {K : mK} : mat P_RX6 1 sg_ k_128 [] C K post 16 ls r rem st = mblk P_RX6 1 sg_ C (mjmp k_128 K) (mexc [] K post k_128) post [.inr (0, 46, 196, 50, [])] 16 ls r rem st := (rfl)
theorem j_128_16 : mjmp k_128 K 16 ls r rem st = K 16 (mproj [] ls) r rem st := (rfl)
theorem a_128_26 {C : mCall} {K : mK} : mat P_RX6 1 sg_ k_128 [] C K post 26 ls r rem st = mblk P_RX6 1 sg_ C (mjmp k_128 K) (mexc [] K post k_128) post [.inl (.aload_n 3, 1), .inl (.getfield 148, 3), .inl (.iload_n 2, 1), .inl (.invokevirtual 198, 3), .inl (.ifCond .ne 14, 3), .inl (.aload_n 3, 1), .inl (.getfield 190, 3), .inl (.iload_n 2, 1), .inl (.invokevirtual 198, 3), .inl (.ifCond .eq 7, 3)] 26 ls r rem st := (rfl)
theorem j_128_26 : mjmp k_128 K 26 ls r rem st = K 26 (mproj [2, 3] ls) r rem st := (rfl)
theorem v_RX6_198_1 {a1 : mV} {i : Nat} : mstep P_RX6 rt sg_ C J X post (.invokevirtual 198) pc ls (a1 :: mr 1 i :: r) rem st nx = cond (mroom r) (0 ≤ rem.1 ∧ 0 ≤ rem.2 ∧ C 69 [mr 1 i, a1] st (mck X pc ls r (rem.1 - 0, rem.2 - 0) nx)) False := (rfl)
theorem v_RX6_198_2 {a1 : mV} {i : Nat} : mstep P_RX6 rt sg_ C J X post (.invokevirtual 198) pc ls (a1 :: mr 2 i :: r) rem st nx = cond (mroom r) (0 ≤ rem.1 ∧ 0 ≤ rem.2 ∧ C 69 [mr 2 i, a1] st (mck X pc ls r (rem.1 - 0, rem.2 - 0) nx)) False := (rfl)
theorem zne_34_14 {a : Int} : mstep P rt sg C J X post (.ifCond .ne 14) 34 ls (mi a :: r) rem st nx = ((mcmp .ne a 0 → J 48 ls r rem st) ∧ (¬ mcmp .ne a 0 → nx ls r rem st)) := e_ifc rfl
theorem zeq_45_7 {a : Int} : mstep P rt sg C J X post (.ifCond .eq 7) 45 ls (mi a :: r) rem st nx = ((mcmp .eq a 0 → J 52 ls r rem st) ∧ (¬ mcmp .eq a 0 → nx ls r rem st)) := e_ifc rfl
theorem a_128_48 {C : mCall} {K : mK} : mat P_RX6 1 sg_ k_128 [] C K post 48 ls r rem st = mblk P_RX6 1 sg_ C (mjmp k_128 K) (mexc [] K post k_128) post [.inl (.iconst 1, 1), .inl (.goto 4, 3)] 48 ls r rem st := (rfl)
theorem j_128_48 : mjmp k_128 K 48 ls r rem st = K 48 (mproj [] ls) r rem st := (rfl)
theorem g_49_4 : mstep P rt sg C J X post (.goto 4) 49 ls r rem st nx = J 53 ls r rem st := e_goto rfl
theorem a_128_52 {C : mCall} {K : mK} : mat P_RX6 1 sg_ k_128 [] C K post 52 ls r rem st = mblk P_RX6 1 sg_ C (mjmp k_128 K) (mexc [] K post k_128) post [.inl (.iconst 0, 1)] 52 ls r rem st := (rfl)
theorem j_128_52 : mjmp k_128 K 52 ls r rem st = K 52 (mproj [] ls) r rem st := (rfl)
theorem a_128_53 {C : mCall} {K : mK} : mat P_RX6 1 sg_ k_128 [] C K post 53 ls r rem st = mblk P_RX6 1 sg_ C (mjmp k_128 K) (mexc [] K post k_128) post [.inl (.ireturn, 1)] 53 ls r rem st := (rfl)
theorem j_128_53 : mjmp k_128 K 53 ls r rem st = K 53 (mproj [] ls) r rem st := (rfl)
theorem a_129_0 {C : mCall} {K : mK} : mat P_RX6 1 sg_ k_129 [] C K post 0 ls r rem st = mblk P_RX6 1 sg_ C (mjmp k_129 K) (mexc [] K post k_129) post [.inl (.iload_n 1, 1), .inl (.ifCond .lt 20, 3), .inl (.iload_n 1, 1), .inl (.aload_n 0, 1), .inl (.getfield 10, 3), .inl (.invokeinterface 73 1, 5), .inl (.if_icmp .ge 7, 3), .inl (.iconst 1, 1), .inl (.goto 4, 3)] 0 ls r rem st := (rfl)
theorem j_129_0 : mjmp k_129 K 0 ls r rem st = K 0 (mproj [0, 1] ls) r rem st := (rfl)
theorem zlt_1_20 {a : Int} : mstep P rt sg C J X post (.ifCond .lt 20) 1 ls (mi a :: r) rem st nx = ((mcmp .lt a 0 → J 21 ls r rem st) ∧ (¬ mcmp .lt a 0 → nx ls r rem st)) := e_ifc rfl
theorem a_129_21 {C : mCall} {K : mK} : mat P_RX6 1 sg_ k_129 [] C K post 21 ls r rem st = mblk P_RX6 1 sg_ C (mjmp k_129 K) (mexc [] K post k_129) post [.inl (.iconst 0, 1)] 21 ls r rem st := (rfl)
theorem j_129_21 : mjmp k_129 K 21 ls r rem st = K 21 (mproj [] ls) r rem st := (rfl)
theorem a_129_22 {C : mCall} {K : mK} : mat P_RX6 1 sg_ k_129 [] C K post 22 ls r rem st = mblk P_RX6 1 sg_ C (mjmp k_129 K) (mexc [] K post k_129) post [.inl (.ireturn, 1)] 22 ls r rem st := (rfl)
theorem j_129_22 : mjmp k_129 K 22 ls r rem st = K 22 (mproj [] ls) r rem st := (rfl)
theorem a_130_0 {C : mCall} {K : mK} : mat P_RX6 0 sg_ k_130 [] C K post 0 ls r rem st = mblk P_RX6 0 sg_ C (mjmp k_130 K) (mexc [] K post k_130) post [.inl (.aload_n 0, 1), .inl (.iload_n 1, 1), .inl (.invokevirtual 199, 3), .inl (.ifCond .ne 13, 3), .inr (0, 202, 204, 206, [])] 0 ls r rem st := (rfl)
theorem j_130_0 : mjmp k_130 K 0 ls r rem st = K 0 (mproj [0, 1] ls) r rem st := (rfl)
theorem v_RX6_199_0 {a1 : mV} {i : Nat} : mstep P_RX6 rt sg_ C J X post (.invokevirtual 199) pc ls (a1 :: mr 0 i :: r) rem st nx = cond (mroom r) (0 ≤ rem.1 ∧ 0 ≤ rem.2 ∧ C 129 [mr 0 i, a1] st (mck X pc ls r (rem.1 - 0, rem.2 - 0) nx)) False := (rfl)
theorem zne_5_13 {a : Int} : mstep P rt sg C J X post (.ifCond .ne 13) 5 ls (mi a :: r) rem st nx = ((mcmp .ne a 0 → J 18 ls r rem st) ∧ (¬ mcmp .ne a 0 → nx ls r rem st)) := e_ifc rfl
theorem th_RX6_202_0 {is ic : Nat} {lo : List (Instr × Nat)} : mblk P_RX6 rt sg C J X post (.inr (0, 202, is, ic, lo) :: l) pc ls [] rem st = ((1 ≤ rem.1 ∧ 6 ≤ rem.2) ∧ post (.inr 3) st) := (rfl)
theorem a_130_18 {C : mCall} {K : mK} : mat P_RX6 0 sg_ k_130 [] C K post 18 ls r rem st = mblk P_RX6 0 sg_ C (mjmp k_130 K) (mexc [] K post k_130) post [.inl (.aload_n 0, 1), .inl (.getfield 10, 3), .inl (.iload_n 1, 1), .inl (.invokeinterface 78 2, 5), .inl (.checkcast 103, 3), .inl (.areturn, 1)] 18 ls r rem st := (rfl)
theorem j_130_18 : mjmp k_130 K 18 ls r rem st = K 18 (mproj [0, 1] ls) r rem st := (rfl)
theorem a_131_0 {C : mCall} {K : mK} : mat P_RX6 0 sg_ k_131 [] C K post 0 ls r rem st = mblk P_RX6 0 sg_ C (mjmp k_131 K) (mexc [] K post k_131) post [.inl (.iload_n 0, 1), .inl (.ifCond .lt 8, 3), .inl (.iload_n 0, 1), .inl (.iconst 4, 1), .inl (.if_icmp .lt 13, 3)] 0 ls r rem st := (rfl)
theorem j_131_0 : mjmp k_131 K 0 ls r rem st = K 0 (mproj [0] ls) r rem st := (rfl)
theorem zlt_1_8 {a : Int} : mstep P rt sg C J X post (.ifCond .lt 8) 1 ls (mi a :: r) rem st nx = ((mcmp .lt a 0 → J 9 ls r rem st) ∧ (¬ mcmp .lt a 0 → nx ls r rem st)) := e_ifc rfl
theorem clt_6_13 {a b : Int} : mstep P rt sg C J X post (.if_icmp .lt 13) 6 ls (mi b :: mi a :: r) rem st nx = ((mcmp .lt a b → J 19 ls r rem st) ∧ (¬ mcmp .lt a b → nx ls r rem st)) := e_icmp rfl
theorem a_131_9 {C : mCall} {K : mK} : mat P_RX6 0 sg_ k_131 [] C K post 9 ls r rem st = mblk P_RX6 0 sg_ C (mjmp k_131 K) (mexc [] K post k_131) post [.inr (0, 46, 207, 50, [])] 9 ls r rem st := (rfl)
theorem j_131_9 : mjmp k_131 K 9 ls r rem st = K 9 (mproj [] ls) r rem st := (rfl)
theorem a_131_19 {C : mCall} {K : mK} : mat P_RX6 0 sg_ k_131 [] C K post 19 ls r rem st = mblk P_RX6 0 sg_ C (mjmp k_131 K) (mexc [] K post k_131) post [.inl (.return_, 1)] 19 ls r rem st := (rfl)
theorem j_131_19 : mjmp k_131 K 19 ls r rem st = K 19 (mproj [] ls) r rem st := (rfl)
theorem a_132_0 {C : mCall} {K : mK} : mat P_RX6 0 sg_ k_132 [] C K post 0 ls r rem st = mblk P_RX6 0 sg_ C (mjmp k_132 K) (mexc [] K post k_132) post [.inl (.iload_n 0, 1), .inl (.iconst 1, 1), .inl (.if_icmp .lt 9, 3), .inl (.iload_n 0, 1), .inl (.bipush 60, 2), .inl (.if_icmp .le 13, 3)] 0 ls r rem st := (rfl)
theorem j_132_0 : mjmp k_132 K 0 ls r rem st = K 0 (mproj [0] ls) r rem st := (rfl)
theorem a_132_11 {C : mCall} {K : mK} : mat P_RX6 0 sg_ k_132 [] C K post 11 ls r rem st = mblk P_RX6 0 sg_ C (mjmp k_132 K) (mexc [] K post k_132) post [.inr (0, 46, 209, 50, [])] 11 ls r rem st := (rfl)
theorem j_132_11 : mjmp k_132 K 11 ls r rem st = K 11 (mproj [] ls) r rem st := (rfl)
theorem a_132_21 {C : mCall} {K : mK} : mat P_RX6 0 sg_ k_132 [] C K post 21 ls r rem st = mblk P_RX6 0 sg_ C (mjmp k_132 K) (mexc [] K post k_132) post [.inl (.return_, 1)] 21 ls r rem st := (rfl)
theorem j_132_21 : mjmp k_132 K 21 ls r rem st = K 21 (mproj [] ls) r rem st := (rfl)
theorem a_133_0 {C : mCall} {K : mK} : mat P_RX6 0 sg_ k_133 [] C K post 0 ls r rem st = mblk P_RX6 0 sg_ C (mjmp k_133 K) (mexc [] K post k_133) post [.inl (.aload_n 0, 1), .inl (.iload_n 1, 1), .inl (.invokevirtual 126, 3), .inl (.istore_n 2, 1), .inl (.iload_n 2, 1), .inl (.iconst (-1), 1), .inl (.if_icmp .ne 13, 3), .inr (0, 211, 213, 215, [])] 0 ls r rem st := (rfl)
theorem j_133_0 : mjmp k_133 K 0 ls r rem st = K 0 (mproj [0, 1] ls) r rem st := (rfl)
theorem cne_8_13 {a b : Int} : mstep P rt sg C J X post (.if_icmp .ne 13) 8 ls (mi b :: mi a :: r) rem st nx = ((mcmp .ne a b → J 21 ls r rem st) ∧ (¬ mcmp .ne a b → nx ls r rem st)) := e_icmp rfl
theorem th_RX6_211_0 {is ic : Nat} {lo : List (Instr × Nat)} : mblk P_RX6 rt sg C J X post (.inr (0, 211, is, ic, lo) :: l) pc ls [] rem st = ((1 ≤ rem.1 ∧ 6 ≤ rem.2) ∧ post (.inr 4) st) := (rfl)
theorem a_133_21 {C : mCall} {K : mK} : mat P_RX6 0 sg_ k_133 [] C K post 21 ls r rem st = mblk P_RX6 0 sg_ C (mjmp k_133 K) (mexc [] K post k_133) post [.inl (.iload_n 2, 1), .inl (.ireturn, 1)] 21 ls r rem st := (rfl)
theorem j_133_21 : mjmp k_133 K 21 ls r rem st = K 21 (mproj [2] ls) r rem st := (rfl)
theorem a_134_0 {C : mCall} {K : mK} : mat P_RX6 0 sg_ k_134 [] C K post 0 ls r rem st = mblk P_RX6 0 sg_ C (mjmp k_134 K) (mexc [] K post k_134) post [.inl (.iload_n 1, 1), .inl (.invokestatic 120, 3), .inl (.aload_n 0, 1), .inl (.getfield 16, 3), .inl (.invokeinterface 73 1, 5), .inl (.istore_n 2, 1), .inl (.iload_n 2, 1), .inl (.iconst 4, 1), .inl (.if_icmp .lt 13, 3), .inr (0, 53, 216, 57, [])] 0 ls r rem st := (rfl)
theorem j_134_0 : mjmp k_134 K 0 ls r rem st = K 0 (mproj [0, 1] ls) r rem st := (rfl)
theorem f_RX6_16_0 {i : Nat} {f : mV → Prop} : mGet P_RX6 16 0 i st f = f (mr 21 i) := (rfl)
theorem clt_16_13 {a b : Int} : mstep P rt sg C J X post (.if_icmp .lt 13) 16 ls (mi b :: mi a :: r) rem st nx = ((mcmp .lt a b → J 29 ls r rem st) ∧ (¬ mcmp .lt a b → nx ls r rem st)) := e_icmp rfl
theorem a_134_29 {C : mCall} {K : mK} : mat P_RX6 0 sg_ k_134 [] C K post 29 ls r rem st = mblk P_RX6 0 sg_ C (mjmp k_134 K) (mexc [] K post k_134) post [.inl (.aload_n 0, 1), .inl (.getfield 16, 3), .inr (2, 218, 0, 220, [(.iload_n 1, 1)]), .inl (.invokeinterface 112 2, 5), .inl (.pop, 1), .inl (.iload_n 2, 1), .inl (.ireturn, 1)] 29 ls r rem st := (rfl)
theorem j_134_29 : mjmp k_134 K 29 ls r rem st = K 29 (mproj [0, 1, 2] ls) r rem st := (rfl)
theorem a_135_0 {C : mCall} {K : mK} : mat P_RX6 0 sg_ k_135 [] C K post 0 ls r rem st = mblk P_RX6 0 sg_ C (mjmp k_135 K) (mexc [] K post k_135) post [.inl (.aload_n 0, 1), .inl (.iload_n 1, 1), .inl (.invokevirtual 221, 3), .inl (.astore_n 3, 1), .inl (.iload_n 2, 1), .inl (.invokestatic 120, 3), .inl (.aload_n 3, 1), .inl (.getfield 225, 3), .inl (.iconst 3, 1), .inl (.if_icmp .ge 10, 3), .inl (.aload_n 3, 1), .inl (.getfield 228, 3), .inl (.ifCond .eq 13, 3)] 0 ls r rem st := (rfl)
theorem j_135_0 : mjmp k_135 K 0 ls r rem st = K 0 (mproj [0, 1, 2] ls) r rem st := (rfl)
theorem v_RX6_221_0 {a1 : mV} {i : Nat} : mstep P_RX6 rt sg_ C J X post (.invokevirtual 221) pc ls (a1 :: mr 0 i :: r) rem st nx = cond (mroom r) (1 ≤ rem.1 ∧ 6 ≤ rem.2 ∧ C 149 [mr 0 i, a1] st (mck X pc ls r (rem.1 - 1, rem.2 - 6) nx)) False := (rfl)
theorem f_RX6_225_7 {i : Nat} {f : mV → Prop} : mGet P_RX6 225 7 i st f = f (mi (sI st 7 i 1)) := (rfl)
theorem cge_15_10 {a b : Int} : mstep P rt sg C J X post (.if_icmp .ge 10) 15 ls (mi b :: mi a :: r) rem st nx = ((mcmp .ge a b → J 25 ls r rem st) ∧ (¬ mcmp .ge a b → nx ls r rem st)) := e_icmp rfl
theorem f_RX6_228_7 {i : Nat} {f : mV → Prop} : mGet P_RX6 228 7 i st f = f (mi (sI st 7 i 2)) := (rfl)
theorem zeq_22_13 {a : Int} : mstep P rt sg C J X post (.ifCond .eq 13) 22 ls (mi a :: r) rem st nx = ((mcmp .eq a 0 → J 35 ls r rem st) ∧ (¬ mcmp .eq a 0 → nx ls r rem st)) := e_ifc rfl
theorem a_135_25 {C : mCall} {K : mK} : mat P_RX6 0 sg_ k_135 [] C K post 25 ls r rem st = mblk P_RX6 0 sg_ C (mjmp k_135 K) (mexc [] K post k_135) post [.inr (0, 53, 232, 57, [])] 25 ls r rem st := (rfl)
theorem j_135_25 : mjmp k_135 K 25 ls r rem st = K 25 (mproj [] ls) r rem st := (rfl)
theorem a_135_35 {C : mCall} {K : mK} : mat P_RX6 0 sg_ k_135 [] C K post 35 ls r rem st = mblk P_RX6 0 sg_ C (mjmp k_135 K) (mexc [] K post k_135) post [.inl (.aload_n 3, 1), .inl (.iload_n 2, 1), .inl (.invokevirtual 234, 3), .inl (.aload_n 3, 1), .inl (.getfield 225, 3), .inl (.ireturn, 1)] 35 ls r rem st := (rfl)
theorem j_135_35 : mjmp k_135 K 35 ls r rem st = K 35 (mproj [2, 3] ls) r rem st := (rfl)
theorem v_RX6_234_7 {a1 : mV} {i : Nat} : mstep P_RX6 rt sg_ C J X post (.invokevirtual 234) pc ls (a1 :: mr 7 i :: r) rem st nx = cond (mroom r) (0 ≤ rem.1 ∧ 0 ≤ rem.2 ∧ C 82 [mr 7 i, a1] st (mck X pc ls r (rem.1 - 0, rem.2 - 0) nx)) False := (rfl)
theorem a_136_0 {C : mCall} {K : mK} : mat P_RX6 0 sg_ k_136 [] C K post 0 ls r rem st = mblk P_RX6 0 sg_ C (mjmp k_136 K) (mexc [] K post k_136) post [.inl (.aload_n 0, 1), .inl (.iload_n 1, 1), .inl (.invokevirtual 221, 3), .inl (.astore 4, 2), .inl (.iload_n 2, 1), .inl (.aload_n 0, 1), .inl (.getfield 36, 3), .inl (.if_icmp .le 10, 3), .inl (.iload_n 2, 1), .inl (.sipush 999, 3), .inl (.if_icmp .le 13, 3)] 0 ls r rem st := (rfl)
theorem j_136_0 : mjmp k_136 K 0 ls r rem st = K 0 (mproj [0, 1, 2, 3] ls) r rem st := (rfl)
theorem cle_12_10 {a b : Int} : mstep P rt sg C J X post (.if_icmp .le 10) 12 ls (mi b :: mi a :: r) rem st nx = ((mcmp .le a b → J 22 ls r rem st) ∧ (¬ mcmp .le a b → nx ls r rem st)) := e_icmp rfl
theorem cle_19_13 {a b : Int} : mstep P rt sg C J X post (.if_icmp .le 13) 19 ls (mi b :: mi a :: r) rem st nx = ((mcmp .le a b → J 32 ls r rem st) ∧ (¬ mcmp .le a b → nx ls r rem st)) := e_icmp rfl
theorem a_136_22 {C : mCall} {K : mK} : mat P_RX6 0 sg_ k_136 [] C K post 22 ls r rem st = mblk P_RX6 0 sg_ C (mjmp k_136 K) (mexc [] K post k_136) post [.inr (0, 46, 237, 50, [])] 22 ls r rem st := (rfl)
theorem j_136_22 : mjmp k_136 K 22 ls r rem st = K 22 (mproj [] ls) r rem st := (rfl)
theorem a_136_32 {C : mCall} {K : mK} : mat P_RX6 0 sg_ k_136 [] C K post 32 ls r rem st = mblk P_RX6 0 sg_ C (mjmp k_136 K) (mexc [] K post k_136) post [.inl (.iload_n 3, 1), .inl (.invokestatic 239, 3), .inl (.iload_n 2, 1), .inl (.iload_n 3, 1), .inl (.iadd, 1), .inl (.istore 5, 2), .inl (.iload 5, 2), .inl (.sipush 999, 3), .inl (.if_icmp .le 13, 3), .inr (0, 46, 242, 50, [])] 32 ls r rem st := (rfl)
theorem j_136_32 : mjmp k_136 K 32 ls r rem st = K 32 (mproj [0, 2, 3, 4] ls) r rem st := (rfl)
theorem v_RX6_239 {a0 : mV} : mstep P_RX6 rt sg_ C J X post (.invokestatic 239) pc ls (a0 :: r) rem st nx = cond (mroom r) (1 ≤ rem.1 ∧ 6 ≤ rem.2 ∧ C 153 [a0] st (mck X pc ls r (rem.1 - 1, rem.2 - 6) nx)) False := (rfl)
theorem cle_46_13 {a b : Int} : mstep P rt sg C J X post (.if_icmp .le 13) 46 ls (mi b :: mi a :: r) rem st nx = ((mcmp .le a b → J 59 ls r rem st) ∧ (¬ mcmp .le a b → nx ls r rem st)) := e_icmp rfl
theorem a_136_59 {C : mCall} {K : mK} : mat P_RX6 0 sg_ k_136 [] C K post 59 ls r rem st = mblk P_RX6 0 sg_ C (mjmp k_136 K) (mexc [] K post k_136) post [.inl (.aload_n 0, 1), .inl (.getfield 19, 3), .inl (.invokeinterface 73 1, 5), .inl (.istore 6, 2), .inl (.iload 6, 2), .inl (.bipush 24, 2), .inl (.if_icmp .ge 15, 3), .inl (.aload_n 0, 1), .inl (.aload 4, 2), .inl (.iload_n 2, 1), .inl (.iload 5, 2), .inl (.invokevirtual 244, 3), .inl (.ifCond .eq 13, 3)] 59 ls r rem st := (rfl)
theorem j_136_59 : mjmp k_136 K 59 ls r rem st = K 59 (mproj [0, 2, 4, 5] ls) r rem st := (rfl)
theorem cge_74_15 {a b : Int} : mstep P rt sg C J X post (.if_icmp .ge 15) 74 ls (mi b :: mi a :: r) rem st nx = ((mcmp .ge a b → J 89 ls r rem st) ∧ (¬ mcmp .ge a b → nx ls r rem st)) := e_icmp rfl
theorem v_RX6_244_0 {a1 a2 a3 : mV} {i : Nat} : mstep P_RX6 rt sg_ C J X post (.invokevirtual 244) pc ls (a3 :: a2 :: a1 :: mr 0 i :: r) rem st nx = cond (mroom r) (0 ≤ rem.1 ∧ 0 ≤ rem.2 ∧ C 154 [mr 0 i, a1, a2, a3] st (mck X pc ls r (rem.1 - 0, rem.2 - 0) nx)) False := (rfl)
theorem zeq_86_13 {a : Int} : mstep P rt sg C J X post (.ifCond .eq 13) 86 ls (mi a :: r) rem st nx = ((mcmp .eq a 0 → J 99 ls r rem st) ∧ (¬ mcmp .eq a 0 → nx ls r rem st)) := e_ifc rfl
theorem a_136_89 {C : mCall} {K : mK} : mat P_RX6 0 sg_ k_136 [] C K post 89 ls r rem st = mblk P_RX6 0 sg_ C (mjmp k_136 K) (mexc [] K post k_136) post [.inr (0, 53, 248, 57, [])] 89 ls r rem st := (rfl)
theorem j_136_89 : mjmp k_136 K 89 ls r rem st = K 89 (mproj [] ls) r rem st := (rfl)
theorem a_136_99 {C : mCall} {K : mK} : mat P_RX6 0 sg_ k_136 [] C K post 99 ls r rem st = mblk P_RX6 0 sg_ C (mjmp k_136 K) (mexc [] K post k_136) post [.inl (.aload_n 0, 1), .inl (.getfield 19, 3), .inr (2, 82, 0, 250, [(.aload 4, 2), (.iload_n 2, 1), (.iload 5, 2)]), .inl (.invokeinterface 112 2, 5), .inl (.pop, 1), .inl (.aload 4, 2), .inl (.iconst 1, 1), .inl (.putfield 228, 3), .inl (.iload 6, 2), .inl (.ireturn, 1)] 99 ls r rem st := (rfl)
theorem j_136_99 : mjmp k_136 K 99 ls r rem st = K 99 (mproj [0, 2, 4, 5, 6] ls) r rem st := (rfl)
theorem p_RX6_228_7 {f : Nat → Prop} : mPut P_RX6 228 7 0 f = f 2 := (rfl)
theorem a_137_0 {C : mCall} {K : mK} : mat P_RX6 0 sg_ k_137 [] C K post 0 ls r rem st = mblk P_RX6 0 sg_ C (mjmp k_137 K) (mexc [] K post k_137) post [.inl (.aload_n 0, 1), .inl (.iload_n 1, 1), .inl (.invokevirtual 253, 3), .inl (.astore 4, 2), .inl (.aload 4, 2), .inl (.iload_n 2, 1), .inl (.invokestatic 257, 3), .inl (.aload_n 0, 1), .inl (.iload_n 3, 1), .inl (.invokevirtual 116, 3), .inl (.astore 5, 2), .inl (.aload 4, 2), .inl (.invokestatic 261, 3), .inl (.aload 4, 2), .inl (.iload_n 3, 1), .inl (.invokevirtual 156, 3), .inl (.ifCond .eq 14, 3), .inr (1, 46, 264, 50, [])] 0 ls r rem st := (rfl)
theorem j_137_0 : mjmp k_137 K 0 ls r rem st = K 0 (mproj [0, 1, 2, 3] ls) r rem st := (rfl)
theorem v_RX6_253_0 {a1 : mV} {i : Nat} : mstep P_RX6 rt sg_ C J X post (.invokevirtual 253) pc ls (a1 :: mr 0 i :: r) rem st nx = cond (mroom r) (1 ≤ rem.1 ∧ 6 ≤ rem.2 ∧ C 150 [mr 0 i, a1] st (mck X pc ls r (rem.1 - 1, rem.2 - 6) nx)) False := (rfl)
theorem v_RX6_257 {a0 a1 : mV} : mstep P_RX6 rt sg_ C J X post (.invokestatic 257) pc ls (a1 :: a0 :: r) rem st nx = cond (mroom r) (1 ≤ rem.1 ∧ 6 ≤ rem.2 ∧ C 151 [a0, a1] st (mck X pc ls r (rem.1 - 1, rem.2 - 6) nx)) False := (rfl)
theorem v_RX6_261 {a0 : mV} : mstep P_RX6 rt sg_ C J X post (.invokestatic 261) pc ls (a0 :: r) rem st nx = cond (mroom r) (1 ≤ rem.1 ∧ 6 ≤ rem.2 ∧ C 152 [a0] st (mck X pc ls r (rem.1 - 1, rem.2 - 6) nx)) False := (rfl)
theorem zeq_31_14 {a : Int} : mstep P rt sg C J X post (.ifCond .eq 14) 31 ls (mi a :: r) rem st nx = ((mcmp .eq a 0 → J 45 ls r rem st) ∧ (¬ mcmp .eq a 0 → nx ls r rem st)) := e_ifc rfl
theorem th_RX6_46_1 {is ic : Nat} {lo : List (Instr × Nat)} : mblk P_RX6 rt sg C J X post (.inr (1, 46, is, ic, lo) :: l) pc ls [] rem st = ((1 ≤ rem.1 ∧ 6 ≤ rem.2) ∧ post (.inr 1) st) := (rfl)
theorem a_137_45 {C : mCall} {K : mK} : mat P_RX6 0 sg_ k_137 [] C K post 45 ls r rem st = mblk P_RX6 0 sg_ C (mjmp k_137 K) (mexc [] K post k_137) post [.inl (.aload_n 0, 1), .inl (.aload 4, 2), .inl (.iload_n 2, 1), .inl (.aload 5, 2), .inl (.invokevirtual 266, 3), .inl (.ifCond .eq 14, 3), .inr (1, 270, 272, 274, [])] 45 ls r rem st := (rfl)
theorem j_137_45 : mjmp k_137 K 45 ls r rem st = K 45 (mproj [0, 2, 3, 4, 5] ls) r rem st := (rfl)
theorem v_RX6_266_0 {a1 a2 a3 : mV} {i : Nat} : mstep P_RX6 rt sg_ C J X post (.invokevirtual 266) pc ls (a3 :: a2 :: a1 :: mr 0 i :: r) rem st nx = cond (mroom r) (0 ≤ rem.1 ∧ 0 ≤ rem.2 ∧ C 161 [mr 0 i, a1, a2, a3] st (mck X pc ls r (rem.1 - 0, rem.2 - 0) nx)) False := (rfl)
theorem zeq_54_14 {a : Int} : mstep P rt sg C J X post (.ifCond .eq 14) 54 ls (mi a :: r) rem st nx = ((mcmp .eq a 0 → J 68 ls r rem st) ∧ (¬ mcmp .eq a 0 → nx ls r rem st)) := e_ifc rfl
theorem th_RX6_270_1 {is ic : Nat} {lo : List (Instr × Nat)} : mblk P_RX6 rt sg C J X post (.inr (1, 270, is, ic, lo) :: l) pc ls [] rem st = ((1 ≤ rem.1 ∧ 6 ≤ rem.2) ∧ post (.inr 5) st) := (rfl)
theorem a_137_68 {C : mCall} {K : mK} : mat P_RX6 0 sg_ k_137 [] C K post 68 ls r rem st = mblk P_RX6 0 sg_ C (mjmp k_137 K) (mexc [] K post k_137) post [.inl (.aload 4, 2), .inl (.iload_n 2, 1), .inl (.invokevirtual 275, 3), .inl (.istore 6, 2), .inl (.aload_n 0, 1), .inl (.aload 4, 2), .inl (.iload_n 2, 1), .inl (.invokevirtual 278, 3), .inl (.aload_n 0, 1), .inl (.aload 4, 2), .inl (.iload_n 2, 1), .inl (.iload_n 3, 1), .inl (.invokevirtual 281, 3), .inl (.iload 6, 2), .inl (.ireturn, 1)] 68 ls r rem st := (rfl)
theorem j_137_68 : mjmp k_137 K 68 ls r rem st = K 68 (mproj [0, 2, 3, 4] ls) r rem st := (rfl)
theorem v_RX6_275_9 {a1 : mV} {i : Nat} : mstep P_RX6 rt sg_ C J X post (.invokevirtual 275) pc ls (a1 :: mr 9 i :: r) rem st nx = cond (mroom r) (0 ≤ rem.1 ∧ 0 ≤ rem.2 ∧ C 75 [mr 9 i, a1] st (mck X pc ls r (rem.1 - 0, rem.2 - 0) nx)) False := (rfl)
theorem v_RX6_278_0 {a1 a2 : mV} {i : Nat} : mstep P_RX6 rt sg_ C J X post (.invokevirtual 278) pc ls (a2 :: a1 :: mr 0 i :: r) rem st nx = cond (mroom r) (0 ≤ rem.1 ∧ 0 ≤ rem.2 ∧ C 156 [mr 0 i, a1, a2] st (mck X pc ls r (rem.1 - 0, rem.2 - 0) nx)) False := (rfl)
theorem v_RX6_281_0 {a1 a2 a3 : mV} {i : Nat} : mstep P_RX6 rt sg_ C J X post (.invokevirtual 281) pc ls (a3 :: a2 :: a1 :: mr 0 i :: r) rem st nx = cond (mroom r) (0 ≤ rem.1 ∧ 0 ≤ rem.2 ∧ C 155 [mr 0 i, a1, a2, a3] st (mck X pc ls r (rem.1 - 0, rem.2 - 0) nx)) False := (rfl)
theorem a_138_0 {C : mCall} {K : mK} : mat P_RX6 0 sg_ k_138 [] C K post 0 ls r rem st = mblk P_RX6 0 sg_ C (mjmp k_138 K) (mexc [] K post k_138) post [.inl (.aload_n 0, 1), .inl (.iload_n 1, 1), .inl (.invokevirtual 253, 3), .inl (.astore_n 3, 1), .inl (.aload_n 3, 1), .inl (.iload_n 2, 1), .inl (.invokestatic 257, 3), .inl (.aload_n 3, 1), .inl (.invokestatic 261, 3), .inl (.aload_n 3, 1), .inl (.iload_n 2, 1), .inl (.invokevirtual 275, 3), .inl (.istore 4, 2), .inl (.iload 4, 2), .inl (.iconst (-1), 1), .inl (.if_icmp .ne 14, 3), .inr (1, 53, 285, 57, [])] 0 ls r rem st := (rfl)
theorem j_138_0 : mjmp k_138 K 0 ls r rem st = K 0 (mproj [0, 1, 2] ls) r rem st := (rfl)
theorem cne_25_14 {a b : Int} : mstep P rt sg C J X post (.if_icmp .ne 14) 25 ls (mi b :: mi a :: r) rem st nx = ((mcmp .ne a b → J 39 ls r rem st) ∧ (¬ mcmp .ne a b → nx ls r rem st)) := e_icmp rfl
theorem th_RX6_53_1 {is ic : Nat} {lo : List (Instr × Nat)} : mblk P_RX6 rt sg C J X post (.inr (1, 53, is, ic, lo) :: l) pc ls [] rem st = ((1 ≤ rem.1 ∧ 6 ≤ rem.2) ∧ post (.inr 2) st) := (rfl)
theorem a_138_39 {C : mCall} {K : mK} : mat P_RX6 0 sg_ k_138 [] C K post 39 ls r rem st = mblk P_RX6 0 sg_ C (mjmp k_138 K) (mexc [] K post k_138) post [.inl (.aload_n 0, 1), .inl (.aload_n 3, 1), .inl (.iload_n 2, 1), .inl (.invokevirtual 278, 3), .inl (.iload 4, 2), .inl (.ireturn, 1)] 39 ls r rem st := (rfl)
theorem j_138_39 : mjmp k_138 K 39 ls r rem st = K 39 (mproj [0, 2, 3, 4] ls) r rem st := (rfl)
theorem a_139_0 {C : mCall} {K : mK} : mat P_RX6 0 sg_ k_139 [] C K post 0 ls r rem st = mblk P_RX6 0 sg_ C (mjmp k_139 K) (mexc [] K post k_139) post [.inl (.aload_n 0, 1), .inl (.iload_n 1, 1), .inl (.invokevirtual 253, 3), .inl (.astore_n 2, 1), .inl (.aload_n 2, 1), .inl (.invokestatic 261, 3), .inl (.aload_n 2, 1), .inl (.invokevirtual 287, 3), .inl (.istore_n 3, 1), .inl (.aload_n 0, 1), .inl (.aload_n 2, 1), .inl (.invokevirtual 99, 3), .inl (.iload_n 3, 1), .inl (.ireturn, 1)] 0 ls r rem st := (rfl)
theorem j_139_0 : mjmp k_139 K 0 ls r rem st = K 0 (mproj [0, 1] ls) r rem st := (rfl)
theorem v_RX6_287_9  {i : Nat} : mstep P_RX6 rt sg_ C J X post (.invokevirtual 287) pc ls (mr 9 i :: r) rem st nx = cond (mroom r) (0 ≤ rem.1 ∧ 0 ≤ rem.2 ∧ C 80 [mr 9 i] st (mck X pc ls r (rem.1 - 0, rem.2 - 0) nx)) False := (rfl)
theorem a_140_0 {C : mCall} {K : mK} : mat P_RX6 0 sg_ k_140 [] C K post 0 ls r rem st = mblk P_RX6 0 sg_ C (mjmp k_140 K) (mexc [] K post k_140) post [.inl (.aload_n 0, 1), .inl (.iload_n 1, 1), .inl (.invokevirtual 253, 3), .inl (.astore_n 2, 1), .inl (.aload_n 2, 1), .inl (.invokestatic 261, 3), .inl (.aload_n 0, 1), .inl (.aload_n 2, 1), .inl (.invokevirtual 290, 3), .inl (.istore_n 3, 1), .inl (.iload_n 3, 1), .inl (.iconst (-1), 1), .inl (.if_icmp .ne 14, 3), .inr (1, 270, 294, 274, [])] 0 ls r rem st := (rfl)
theorem j_140_0 : mjmp k_140 K 0 ls r rem st = K 0 (mproj [0, 1] ls) r rem st := (rfl)
theorem v_RX6_290_0 {a1 : mV} {i : Nat} : mstep P_RX6 rt sg_ C J X post (.invokevirtual 290) pc ls (a1 :: mr 0 i :: r) rem st nx = cond (mroom r) (0 ≤ rem.1 ∧ 0 ≤ rem.2 ∧ C 163 [mr 0 i, a1] st (mck X pc ls r (rem.1 - 0, rem.2 - 0) nx)) False := (rfl)
theorem cne_18_14 {a b : Int} : mstep P rt sg C J X post (.if_icmp .ne 14) 18 ls (mi b :: mi a :: r) rem st nx = ((mcmp .ne a b → J 32 ls r rem st) ∧ (¬ mcmp .ne a b → nx ls r rem st)) := e_icmp rfl
theorem a_140_32 {C : mCall} {K : mK} : mat P_RX6 0 sg_ k_140 [] C K post 32 ls r rem st = mblk P_RX6 0 sg_ C (mjmp k_140 K) (mexc [] K post k_140) post [.inl (.iload_n 3, 1), .inl (.ireturn, 1)] 32 ls r rem st := (rfl)
theorem j_140_32 : mjmp k_140 K 32 ls r rem st = K 32 (mproj [3] ls) r rem st := (rfl)
theorem a_141_0 {C : mCall} {K : mK} : mat P_RX6 0 sg_ k_141 [] C K post 0 ls r rem st = mblk P_RX6 0 sg_ C (mjmp k_141 K) (mexc [] K post k_141) post [.inl (.aload_n 0, 1), .inl (.getfield 32, 3), .inl (.invokevirtual 296, 3), .inl (.iconst 0, 1), .inl (.istore_n 1, 1)] 0 ls r rem st := (rfl)
theorem j_141_0 : mjmp k_141 K 0 ls r rem st = K 0 (mproj [0] ls) r rem st := (rfl)
theorem f_RX6_32_0 {i : Nat} {f : mV → Prop} : mGet P_RX6 32 0 i st f = f (mr 17 i) := (rfl)
theorem v_RX6_296_17  {i : Nat} : mstep P_RX6 rt sg_ C J X post (.invokevirtual 296) pc ls (mr 17 i :: r) rem st nx = cond (mroom r) (0 ≤ rem.1 ∧ 0 ≤ rem.2 ∧ C 90 [mr 17 i] st (mck X pc ls r (rem.1 - 0, rem.2 - 0) nx)) False := (rfl)
theorem a_141_9 {C : mCall} {K : mK} : mat P_RX6 0 sg_ k_141 [] C K post 9 ls r rem st = mblk P_RX6 0 sg_ C (mjmp k_141 K) (mexc [] K post k_141) post [.inl (.iload_n 1, 1), .inl (.aload_n 0, 1), .inl (.getfield 19, 3), .inl (.invokeinterface 73 1, 5), .inl (.if_icmp .ge 39, 3), .inl (.aload_n 0, 1), .inl (.getfield 19, 3), .inl (.iload_n 1, 1), .inl (.invokeinterface 78 2, 5), .inl (.checkcast 82, 3), .inl (.astore_n 2, 1), .inl (.aload_n 0, 1), .inl (.aload_n 2, 1), .inl (.invokevirtual 299, 3), .inl (.ifCond .eq 11, 3), .inl (.aload_n 0, 1), .inl (.getfield 32, 3), .inl (.aload_n 2, 1), .inl (.invokevirtual 302, 3)] 9 ls r rem st := (rfl)
theorem j_141_9 : mjmp k_141 K 9 ls r rem st = K 9 (mproj [0, 1] ls) r rem st := (rfl)
theorem cge_19_39 {a b : Int} : mstep P rt sg C J X post (.if_icmp .ge 39) 19 ls (mi b :: mi a :: r) rem st nx = ((mcmp .ge a b → J 58 ls r rem st) ∧ (¬ mcmp .ge a b → nx ls r rem st)) := e_icmp rfl
theorem v_RX6_299_0 {a1 : mV} {i : Nat} : mstep P_RX6 rt sg_ C J X post (.invokevirtual 299) pc ls (a1 :: mr 0 i :: r) rem st nx = cond (mroom r) (0 ≤ rem.1 ∧ 0 ≤ rem.2 ∧ C 159 [mr 0 i, a1] st (mck X pc ls r (rem.1 - 0, rem.2 - 0) nx)) False := (rfl)
theorem zeq_41_11 {a : Int} : mstep P rt sg C J X post (.ifCond .eq 11) 41 ls (mi a :: r) rem st nx = ((mcmp .eq a 0 → J 52 ls r rem st) ∧ (¬ mcmp .eq a 0 → nx ls r rem st)) := e_ifc rfl
theorem v_RX6_302_17 {a1 : mV} {i : Nat} : mstep P_RX6 rt sg_ C J X post (.invokevirtual 302) pc ls (a1 :: mr 17 i :: r) rem st nx = cond (mroom r) (1 ≤ rem.1 ∧ 16 ≤ rem.2 ∧ C 91 [mr 17 i, a1] st (mck X pc ls r (rem.1 - 1, rem.2 - 16) nx)) False := (rfl)
theorem a_141_52 {C : mCall} {K : mK} : mat P_RX6 0 sg_ k_141 [] C K post 52 ls r rem st = mblk P_RX6 0 sg_ C (mjmp k_141 K) (mexc [] K post k_141) post [.inl (.iinc 1 1, 3), .inl (.goto (-46), 3)] 52 ls r rem st := (rfl)
theorem j_141_52 : mjmp k_141 K 52 ls r rem st = K 52 (mproj [0, 1] ls) r rem st := (rfl)
theorem g_55_m46 : mstep P rt sg C J X post (.goto (-46)) 55 ls r rem st nx = J 9 ls r rem st := e_goto rfl
theorem a_141_58 {C : mCall} {K : mK} : mat P_RX6 0 sg_ k_141 [] C K post 58 ls r rem st = mblk P_RX6 0 sg_ C (mjmp k_141 K) (mexc [] K post k_141) post [.inl (.aload_n 0, 1), .inl (.getfield 32, 3), .inl (.invokevirtual 305, 3), .inl (.aload_n 0, 1), .inl (.iconst 0, 1), .inl (.iconst 0, 1), .inl (.iconst 0, 1), .inl (.iconst 0, 1), .inl (.invokestatic 308, 3), .inl (.aload_n 0, 1), .inl (.invokevirtual 312, 3), .inl (.ireturn, 1)] 58 ls r rem st := (rfl)
theorem j_141_58 : mjmp k_141 K 58 ls r rem st = K 58 (mproj [0] ls) r rem st := (rfl)
theorem v_RX6_305_17  {i : Nat} : mstep P_RX6 rt sg_ C J X post (.invokevirtual 305) pc ls (mr 17 i :: r) rem st nx = cond (mroom r) (0 ≤ rem.1 ∧ 0 ≤ rem.2 ∧ C 92 [mr 17 i] st (mck X pc ls r (rem.1 - 0, rem.2 - 0) nx)) False := (rfl)
theorem v_RX6_308 {a0 a1 a2 a3 a4 : mV} : mstep P_RX6 rt sg_ C J X post (.invokestatic 308) pc ls (a4 :: a3 :: a2 :: a1 :: a0 :: r) rem st nx = cond (mroom r) (0 ≤ rem.1 ∧ 0 ≤ rem.2 ∧ C 164 [a0, a1, a2, a3, a4] st (mck X pc ls r (rem.1 - 0, rem.2 - 0) nx)) False := (rfl)
theorem v_RX6_312_0  {i : Nat} : mstep P_RX6 rt sg_ C J X post (.invokevirtual 312) pc ls (mr 0 i :: r) rem st nx = cond (mroom r) (0 ≤ rem.1 ∧ 0 ≤ rem.2 ∧ C 166 [mr 0 i] st (mck X pc ls r (rem.1 - 0, rem.2 - 0) nx)) False := (rfl)
theorem a_142_0 {C : mCall} {K : mK} : mat P_RX6 2 sg_ k_142 [] C K post 0 ls r rem st = mblk P_RX6 2 sg_ C (mjmp k_142 K) (mexc [] K post k_142) post [.inl (.aload_n 0, 1), .inl (.iload_n 1, 1), .inl (.invokevirtual 253, 3), .inl (.getfield 95, 3), .inl (.ireturn, 1)] 0 ls r rem st := (rfl)
theorem j_142_0 : mjmp k_142 K 0 ls r rem st = K 0 (mproj [0, 1] ls) r rem st := (rfl)
theorem f_RX6_95_9 {i : Nat} {f : mV → Prop} : mGet P_RX6 95 9 i st f = f (mi (sI st 9 i 3)) := (rfl)
theorem a_143_0 {C : mCall} {K : mK} : mat P_RX6 0 sg_ k_143 [] C K post 0 ls r rem st = mblk P_RX6 0 sg_ C (mjmp k_143 K) (mexc [] K post k_143) post [.inl (.aload_n 0, 1), .inl (.iload_n 1, 1), .inl (.invokevirtual 253, 3), .inl (.astore_n 3, 1), .inl (.aload_n 3, 1), .inl (.iload_n 2, 1), .inl (.invokestatic 257, 3), .inl (.aload_n 3, 1), .inl (.iload_n 2, 1), .inl (.invokevirtual 275, 3), .inl (.ireturn, 1)] 0 ls r rem st := (rfl)
theorem j_143_0 : mjmp k_143 K 0 ls r rem st = K 0 (mproj [0, 1, 2] ls) r rem st := (rfl)
theorem a_144_0 {C : mCall} {K : mK} : mat P_RX6 1 sg_ k_144 [] C K post 0 ls r rem st = mblk P_RX6 1 sg_ C (mjmp k_144 K) (mexc [] K post k_144) post [.inl (.aload_n 0, 1), .inl (.iload_n 1, 1), .inl (.invokevirtual 253, 3), .inl (.astore_n 2, 1), .inl (.aload_n 2, 1), .inl (.invokestatic 261, 3), .inl (.aload_n 0, 1), .inl (.aload_n 2, 1), .inl (.invokevirtual 91, 3), .inl (.ireturn, 1)] 0 ls r rem st := (rfl)
theorem j_144_0 : mjmp k_144 K 0 ls r rem st = K 0 (mproj [0, 1] ls) r rem st := (rfl)
theorem a_145_0 {C : mCall} {K : mK} : mat P_RX6 0 sg_ k_145 [] C K post 0 ls r rem st = mblk P_RX6 0 sg_ C (mjmp k_145 K) (mexc [] K post k_145) post [.inl (.aload_n 0, 1), .inl (.iload_n 1, 1), .inl (.invokevirtual 253, 3), .inl (.astore 4, 2), .inl (.aload 4, 2), .inl (.iload_n 2, 1), .inl (.invokestatic 257, 3), .inl (.aload_n 0, 1), .inl (.iload_n 3, 1), .inl (.invokevirtual 116, 3), .inl (.astore 5, 2), .inl (.aload 4, 2), .inl (.invokestatic 261, 3), .inl (.aload_n 0, 1), .inl (.aload 4, 2), .inl (.iload_n 2, 1), .inl (.aload 5, 2), .inl (.invokevirtual 266, 3), .inl (.ireturn, 1)] 0 ls r rem st := (rfl)
theorem j_145_0 : mjmp k_145 K 0 ls r rem st = K 0 (mproj [0, 1, 2, 3] ls) r rem st := (rfl)
theorem a_146_0 {C : mCall} {K : mK} : mat P_RX6 0 sg_ k_146 [] C K post 0 ls r rem st = mblk P_RX6 0 sg_ C (mjmp k_146 K) (mexc [] K post k_146) post [.inl (.aload_n 0, 1), .inl (.iload_n 1, 1), .inl (.invokevirtual 253, 3), .inl (.astore_n 3, 1), .inl (.aload_n 3, 1), .inl (.iload_n 2, 1), .inl (.invokestatic 257, 3), .inl (.aload_n 3, 1), .inl (.invokestatic 261, 3), .inl (.iconst 0, 1), .inl (.istore 4, 2), .inl (.iconst 0, 1), .inl (.istore 5, 2)] 0 ls r rem st := (rfl)
theorem j_146_0 : mjmp k_146 K 0 ls r rem st = K 0 (mproj [0, 1, 2] ls) r rem st := (rfl)
theorem a_146_21 {C : mCall} {K : mK} : mat P_RX6 0 sg_ k_146 [] C K post 21 ls r rem st = mblk P_RX6 0 sg_ C (mjmp k_146 K) (mexc [] K post k_146) post [.inl (.iload 5, 2), .inl (.aload_n 0, 1), .inl (.getfield 10, 3), .inl (.invokeinterface 73 1, 5), .inl (.if_icmp .ge 35, 3), .inl (.aload_n 0, 1), .inl (.aload_n 3, 1), .inl (.iload_n 2, 1), .inl (.aload_n 0, 1), .inl (.getfield 10, 3), .inl (.iload 5, 2), .inl (.invokeinterface 78 2, 5), .inl (.checkcast 103, 3), .inl (.invokevirtual 266, 3), .inl (.ifCond .ne 6, 3), .inl (.iinc 4 1, 3)] 21 ls r rem st := (rfl)
theorem j_146_21 : mjmp k_146 K 21 ls r rem st = K 21 (mproj [0, 2, 3, 4, 5] ls) r rem st := (rfl)
theorem cge_32_35 {a b : Int} : mstep P rt sg C J X post (.if_icmp .ge 35) 32 ls (mi b :: mi a :: r) rem st nx = ((mcmp .ge a b → J 67 ls r rem st) ∧ (¬ mcmp .ge a b → nx ls r rem st)) := e_icmp rfl
theorem zne_55_6 {a : Int} : mstep P rt sg C J X post (.ifCond .ne 6) 55 ls (mi a :: r) rem st nx = ((mcmp .ne a 0 → J 61 ls r rem st) ∧ (¬ mcmp .ne a 0 → nx ls r rem st)) := e_ifc rfl
theorem a_146_61 {C : mCall} {K : mK} : mat P_RX6 0 sg_ k_146 [] C K post 61 ls r rem st = mblk P_RX6 0 sg_ C (mjmp k_146 K) (mexc [] K post k_146) post [.inl (.iinc 5 1, 3), .inl (.goto (-43), 3)] 61 ls r rem st := (rfl)
theorem j_146_61 : mjmp k_146 K 61 ls r rem st = K 61 (mproj [0, 2, 3, 4, 5] ls) r rem st := (rfl)
theorem g_64_m43 : mstep P rt sg C J X post (.goto (-43)) 64 ls r rem st nx = J 21 ls r rem st := e_goto rfl
theorem a_146_67 {C : mCall} {K : mK} : mat P_RX6 0 sg_ k_146 [] C K post 67 ls r rem st = mblk P_RX6 0 sg_ C (mjmp k_146 K) (mexc [] K post k_146) post [.inl (.iload 4, 2), .inl (.ireturn, 1)] 67 ls r rem st := (rfl)
theorem j_146_67 : mjmp k_146 K 67 ls r rem st = K 67 (mproj [4] ls) r rem st := (rfl)
theorem a_147_0 {C : mCall} {K : mK} : mat P_RX6 0 sg_ k_147 [] C K post 0 ls r rem st = mblk P_RX6 0 sg_ C (mjmp k_147 K) (mexc [] K post k_147) post [.inl (.iconst 0, 1), .inl (.istore_n 1, 1), .inl (.iconst 0, 1), .inl (.istore_n 2, 1)] 0 ls r rem st := (rfl)
theorem j_147_0 : mjmp k_147 K 0 ls r rem st = K 0 (mproj [0] ls) r rem st := (rfl)
theorem a_147_4 {C : mCall} {K : mK} : mat P_RX6 0 sg_ k_147 [] C K post 4 ls r rem st = mblk P_RX6 0 sg_ C (mjmp k_147 K) (mexc [] K post k_147) post [.inl (.iload_n 2, 1), .inl (.aload_n 0, 1), .inl (.getfield 19, 3), .inl (.invokeinterface 73 1, 5), .inl (.if_icmp .ge 32, 3), .inl (.aload_n 0, 1), .inl (.aload_n 0, 1), .inl (.getfield 19, 3), .inl (.iload_n 2, 1), .inl (.invokeinterface 78 2, 5), .inl (.checkcast 82, 3), .inl (.invokevirtual 299, 3), .inl (.ifCond .eq 6, 3), .inl (.iinc 1 1, 3)] 4 ls r rem st := (rfl)
theorem j_147_4 : mjmp k_147 K 4 ls r rem st = K 4 (mproj [0, 1, 2] ls) r rem st := (rfl)
theorem cge_14_32 {a b : Int} : mstep P rt sg C J X post (.if_icmp .ge 32) 14 ls (mi b :: mi a :: r) rem st nx = ((mcmp .ge a b → J 46 ls r rem st) ∧ (¬ mcmp .ge a b → nx ls r rem st)) := e_icmp rfl
theorem zeq_34_6 {a : Int} : mstep P rt sg C J X post (.ifCond .eq 6) 34 ls (mi a :: r) rem st nx = ((mcmp .eq a 0 → J 40 ls r rem st) ∧ (¬ mcmp .eq a 0 → nx ls r rem st)) := e_ifc rfl
theorem a_147_40 {C : mCall} {K : mK} : mat P_RX6 0 sg_ k_147 [] C K post 40 ls r rem st = mblk P_RX6 0 sg_ C (mjmp k_147 K) (mexc [] K post k_147) post [.inl (.iinc 2 1, 3), .inl (.goto (-39), 3)] 40 ls r rem st := (rfl)
theorem j_147_40 : mjmp k_147 K 40 ls r rem st = K 40 (mproj [0, 1, 2] ls) r rem st := (rfl)
theorem g_43_m39 : mstep P rt sg C J X post (.goto (-39)) 43 ls r rem st nx = J 4 ls r rem st := e_goto rfl
theorem a_147_46 {C : mCall} {K : mK} : mat P_RX6 0 sg_ k_147 [] C K post 46 ls r rem st = mblk P_RX6 0 sg_ C (mjmp k_147 K) (mexc [] K post k_147) post [.inl (.iload_n 1, 1), .inl (.ireturn, 1)] 46 ls r rem st := (rfl)
theorem j_147_46 : mjmp k_147 K 46 ls r rem st = K 46 (mproj [1] ls) r rem st := (rfl)
theorem a_148_0 {C : mCall} {K : mK} : mat P_RX6 0 sg_ k_148 [] C K post 0 ls r rem st = mblk P_RX6 0 sg_ C (mjmp k_148 K) (mexc [] K post k_148) post [.inl (.iload_n 1, 1), .inl (.bipush 112, 2), .inl (.if_icmp .eq 26, 3), .inl (.iload_n 1, 1), .inl (.bipush 115, 2), .inl (.if_icmp .eq 20, 3), .inl (.iload_n 1, 1), .inl (.bipush 99, 2), .inl (.if_icmp .eq 14, 3), .inr (1, 46, 315, 50, [])] 0 ls r rem st := (rfl)
theorem j_148_0 : mjmp k_148 K 0 ls r rem st = K 0 (mproj [0, 1] ls) r rem st := (rfl)
theorem ceq_3_26 {a b : Int} : mstep P rt sg C J X post (.if_icmp .eq 26) 3 ls (mi b :: mi a :: r) rem st nx = ((mcmp .eq a b → J 29 ls r rem st) ∧ (¬ mcmp .eq a b → nx ls r rem st)) := e_icmp rfl
theorem ceq_9_20 {a b : Int} : mstep P rt sg C J X post (.if_icmp .eq 20) 9 ls (mi b :: mi a :: r) rem st nx = ((mcmp .eq a b → J 29 ls r rem st) ∧ (¬ mcmp .eq a b → nx ls r rem st)) := e_icmp rfl
theorem ceq_15_14 {a b : Int} : mstep P rt sg C J X post (.if_icmp .eq 14) 15 ls (mi b :: mi a :: r) rem st nx = ((mcmp .eq a b → J 29 ls r rem st) ∧ (¬ mcmp .eq a b → nx ls r rem st)) := e_icmp rfl
theorem a_148_29 {C : mCall} {K : mK} : mat P_RX6 0 sg_ k_148 [] C K post 29 ls r rem st = mblk P_RX6 0 sg_ C (mjmp k_148 K) (mexc [] K post k_148) post [.inl (.iconst 0, 1), .inl (.istore_n 2, 1), .inl (.iconst 0, 1), .inl (.istore_n 3, 1)] 29 ls r rem st := (rfl)
theorem j_148_29 : mjmp k_148 K 29 ls r rem st = K 29 (mproj [0, 1] ls) r rem st := (rfl)
theorem a_148_33 {C : mCall} {K : mK} : mat P_RX6 0 sg_ k_148 [] C K post 33 ls r rem st = mblk P_RX6 0 sg_ C (mjmp k_148 K) (mexc [] K post k_148) post [.inl (.iload_n 3, 1), .inl (.aload_n 0, 1), .inl (.getfield 19, 3), .inl (.invokeinterface 73 1, 5), .inl (.if_icmp .ge 32, 3), .inl (.aload_n 0, 1), .inl (.getfield 19, 3), .inl (.iload_n 3, 1), .inl (.invokeinterface 78 2, 5), .inl (.checkcast 82, 3), .inl (.getfield 95, 3), .inl (.iload_n 1, 1), .inl (.if_icmp .ne 6, 3), .inl (.iinc 2 1, 3)] 33 ls r rem st := (rfl)
theorem j_148_33 : mjmp k_148 K 33 ls r rem st = K 33 (mproj [0, 1, 2, 3] ls) r rem st := (rfl)
theorem cge_43_32 {a b : Int} : mstep P rt sg C J X post (.if_icmp .ge 32) 43 ls (mi b :: mi a :: r) rem st nx = ((mcmp .ge a b → J 75 ls r rem st) ∧ (¬ mcmp .ge a b → nx ls r rem st)) := e_icmp rfl
theorem cne_63_6 {a b : Int} : mstep P rt sg C J X post (.if_icmp .ne 6) 63 ls (mi b :: mi a :: r) rem st nx = ((mcmp .ne a b → J 69 ls r rem st) ∧ (¬ mcmp .ne a b → nx ls r rem st)) := e_icmp rfl
theorem a_148_69 {C : mCall} {K : mK} : mat P_RX6 0 sg_ k_148 [] C K post 69 ls r rem st = mblk P_RX6 0 sg_ C (mjmp k_148 K) (mexc [] K post k_148) post [.inl (.iinc 3 1, 3), .inl (.goto (-39), 3)] 69 ls r rem st := (rfl)
theorem j_148_69 : mjmp k_148 K 69 ls r rem st = K 69 (mproj [0, 1, 2, 3] ls) r rem st := (rfl)
theorem g_72_m39 : mstep P rt sg C J X post (.goto (-39)) 72 ls r rem st nx = J 33 ls r rem st := e_goto rfl
theorem a_148_75 {C : mCall} {K : mK} : mat P_RX6 0 sg_ k_148 [] C K post 75 ls r rem st = mblk P_RX6 0 sg_ C (mjmp k_148 K) (mexc [] K post k_148) post [.inl (.iload_n 2, 1), .inl (.ireturn, 1)] 75 ls r rem st := (rfl)
theorem j_148_75 : mjmp k_148 K 75 ls r rem st = K 75 (mproj [2] ls) r rem st := (rfl)
theorem a_149_0 {C : mCall} {K : mK} : mat P_RX6 0 sg_ k_149 [] C K post 0 ls r rem st = mblk P_RX6 0 sg_ C (mjmp k_149 K) (mexc [] K post k_149) post [.inl (.iload_n 1, 1), .inl (.ifCond .lt 16, 3), .inl (.iload_n 1, 1), .inl (.aload_n 0, 1), .inl (.getfield 16, 3), .inl (.invokeinterface 73 1, 5), .inl (.if_icmp .lt 14, 3)] 0 ls r rem st := (rfl)
theorem j_149_0 : mjmp k_149 K 0 ls r rem st = K 0 (mproj [0, 1] ls) r rem st := (rfl)
theorem zlt_1_16 {a : Int} : mstep P rt sg C J X post (.ifCond .lt 16) 1 ls (mi a :: r) rem st nx = ((mcmp .lt a 0 → J 17 ls r rem st) ∧ (¬ mcmp .lt a 0 → nx ls r rem st)) := e_ifc rfl
theorem clt_14_14 {a b : Int} : mstep P rt sg C J X post (.if_icmp .lt 14) 14 ls (mi b :: mi a :: r) rem st nx = ((mcmp .lt a b → J 28 ls r rem st) ∧ (¬ mcmp .lt a b → nx ls r rem st)) := e_icmp rfl
theorem a_149_17 {C : mCall} {K : mK} : mat P_RX6 0 sg_ k_149 [] C K post 17 ls r rem st = mblk P_RX6 0 sg_ C (mjmp k_149 K) (mexc [] K post k_149) post [.inr (1, 202, 317, 206, [])] 17 ls r rem st := (rfl)
theorem j_149_17 : mjmp k_149 K 17 ls r rem st = K 17 (mproj [] ls) r rem st := (rfl)
theorem th_RX6_202_1 {is ic : Nat} {lo : List (Instr × Nat)} : mblk P_RX6 rt sg C J X post (.inr (1, 202, is, ic, lo) :: l) pc ls [] rem st = ((1 ≤ rem.1 ∧ 6 ≤ rem.2) ∧ post (.inr 3) st) := (rfl)
theorem a_149_28 {C : mCall} {K : mK} : mat P_RX6 0 sg_ k_149 [] C K post 28 ls r rem st = mblk P_RX6 0 sg_ C (mjmp k_149 K) (mexc [] K post k_149) post [.inl (.aload_n 0, 1), .inl (.getfield 16, 3), .inl (.iload_n 1, 1), .inl (.invokeinterface 78 2, 5), .inl (.checkcast 218, 3), .inl (.areturn, 1)] 28 ls r rem st := (rfl)
theorem j_149_28 : mjmp k_149 K 28 ls r rem st = K 28 (mproj [0, 1] ls) r rem st := (rfl)
theorem k_RX6_218 {f : Prop} : mCast P_RX6 218 7 f = f := (rfl)
theorem a_150_0 {C : mCall} {K : mK} : mat P_RX6 0 sg_ k_150 [] C K post 0 ls r rem st = mblk P_RX6 0 sg_ C (mjmp k_150 K) (mexc [] K post k_150) post [.inl (.iload_n 1, 1), .inl (.ifCond .lt 16, 3), .inl (.iload_n 1, 1), .inl (.aload_n 0, 1), .inl (.getfield 19, 3), .inl (.invokeinterface 73 1, 5), .inl (.if_icmp .lt 14, 3)] 0 ls r rem st := (rfl)
theorem j_150_0 : mjmp k_150 K 0 ls r rem st = K 0 (mproj [0, 1] ls) r rem st := (rfl)
theorem a_150_17 {C : mCall} {K : mK} : mat P_RX6 0 sg_ k_150 [] C K post 17 ls r rem st = mblk P_RX6 0 sg_ C (mjmp k_150 K) (mexc [] K post k_150) post [.inr (1, 211, 319, 215, [])] 17 ls r rem st := (rfl)
theorem j_150_17 : mjmp k_150 K 17 ls r rem st = K 17 (mproj [] ls) r rem st := (rfl)
theorem th_RX6_211_1 {is ic : Nat} {lo : List (Instr × Nat)} : mblk P_RX6 rt sg C J X post (.inr (1, 211, is, ic, lo) :: l) pc ls [] rem st = ((1 ≤ rem.1 ∧ 6 ≤ rem.2) ∧ post (.inr 4) st) := (rfl)
theorem a_150_28 {C : mCall} {K : mK} : mat P_RX6 0 sg_ k_150 [] C K post 28 ls r rem st = mblk P_RX6 0 sg_ C (mjmp k_150 K) (mexc [] K post k_150) post [.inl (.aload_n 0, 1), .inl (.getfield 19, 3), .inl (.iload_n 1, 1), .inl (.invokeinterface 78 2, 5), .inl (.checkcast 82, 3), .inl (.areturn, 1)] 28 ls r rem st := (rfl)
theorem j_150_28 : mjmp k_150 K 28 ls r rem st = K 28 (mproj [0, 1] ls) r rem st := (rfl)
theorem a_151_0 {C : mCall} {K : mK} : mat P_RX6 0 sg_ k_151 [] C K post 0 ls r rem st = mblk P_RX6 0 sg_ C (mjmp k_151 K) (mexc [] K post k_151) post [.inl (.iload_n 1, 1), .inl (.ifCond .lt 14, 3), .inl (.iload_n 1, 1), .inl (.aload_n 0, 1), .inl (.getfield 321, 3), .inl (.getfield 225, 3), .inl (.if_icmp .lt 14, 3)] 0 ls r rem st := (rfl)
theorem j_151_0 : mjmp k_151 K 0 ls r rem st = K 0 (mproj [0, 1] ls) r rem st := (rfl)
theorem zlt_1_14 {a : Int} : mstep P rt sg C J X post (.ifCond .lt 14) 1 ls (mi a :: r) rem st nx = ((mcmp .lt a 0 → J 15 ls r rem st) ∧ (¬ mcmp .lt a 0 → nx ls r rem st)) := e_ifc rfl
theorem f_RX6_321_9 {i : Nat} {f : mV → Prop} : mGet P_RX6 321 9 i st f = f (mr 7 (sR st i)) := (rfl)
theorem clt_12_14 {a b : Int} : mstep P rt sg C J X post (.if_icmp .lt 14) 12 ls (mi b :: mi a :: r) rem st nx = ((mcmp .lt a b → J 26 ls r rem st) ∧ (¬ mcmp .lt a b → nx ls r rem st)) := e_icmp rfl
theorem a_151_15 {C : mCall} {K : mK} : mat P_RX6 0 sg_ k_151 [] C K post 15 ls r rem st = mblk P_RX6 0 sg_ C (mjmp k_151 K) (mexc [] K post k_151) post [.inr (1, 202, 325, 206, [])] 15 ls r rem st := (rfl)
theorem j_151_15 : mjmp k_151 K 15 ls r rem st = K 15 (mproj [] ls) r rem st := (rfl)
theorem a_151_26 {C : mCall} {K : mK} : mat P_RX6 0 sg_ k_151 [] C K post 26 ls r rem st = mblk P_RX6 0 sg_ C (mjmp k_151 K) (mexc [] K post k_151) post [.inl (.return_, 1)] 26 ls r rem st := (rfl)
theorem j_151_26 : mjmp k_151 K 26 ls r rem st = K 26 (mproj [] ls) r rem st := (rfl)
theorem a_152_0 {C : mCall} {K : mK} : mat P_RX6 0 sg_ k_152 [] C K post 0 ls r rem st = mblk P_RX6 0 sg_ C (mjmp k_152 K) (mexc [] K post k_152) post [.inl (.aload_n 0, 1), .inl (.invokevirtual 84, 3), .inl (.ifCond .ne 14, 3), .inr (1, 53, 327, 57, [])] 0 ls r rem st := (rfl)
theorem j_152_0 : mjmp k_152 K 0 ls r rem st = K 0 (mproj [0] ls) r rem st := (rfl)
theorem zne_4_14 {a : Int} : mstep P rt sg C J X post (.ifCond .ne 14) 4 ls (mi a :: r) rem st nx = ((mcmp .ne a 0 → J 18 ls r rem st) ∧ (¬ mcmp .ne a 0 → nx ls r rem st)) := e_ifc rfl
theorem a_152_18 {C : mCall} {K : mK} : mat P_RX6 0 sg_ k_152 [] C K post 18 ls r rem st = mblk P_RX6 0 sg_ C (mjmp k_152 K) (mexc [] K post k_152) post [.inl (.return_, 1)] 18 ls r rem st := (rfl)
theorem j_152_18 : mjmp k_152 K 18 ls r rem st = K 18 (mproj [] ls) r rem st := (rfl)
theorem a_153_0 {C : mCall} {K : mK} : mat P_RX6 0 sg_ k_153 [] C K post 0 ls r rem st = mblk P_RX6 0 sg_ C (mjmp k_153 K) (mexc [] K post k_153) post [.inl (.iload_n 0, 1), .inl (.iconst 1, 1), .inl (.if_icmp .lt 9, 3), .inl (.iload_n 0, 1), .inl (.bipush 12, 2), .inl (.if_icmp .le 14, 3)] 0 ls r rem st := (rfl)
theorem j_153_0 : mjmp k_153 K 0 ls r rem st = K 0 (mproj [0] ls) r rem st := (rfl)
theorem cle_8_14 {a b : Int} : mstep P rt sg C J X post (.if_icmp .le 14) 8 ls (mi b :: mi a :: r) rem st nx = ((mcmp .le a b → J 22 ls r rem st) ∧ (¬ mcmp .le a b → nx ls r rem st)) := e_icmp rfl
theorem a_153_11 {C : mCall} {K : mK} : mat P_RX6 0 sg_ k_153 [] C K post 11 ls r rem st = mblk P_RX6 0 sg_ C (mjmp k_153 K) (mexc [] K post k_153) post [.inr (1, 46, 329, 50, [])] 11 ls r rem st := (rfl)
theorem j_153_11 : mjmp k_153 K 11 ls r rem st = K 11 (mproj [] ls) r rem st := (rfl)
theorem a_153_22 {C : mCall} {K : mK} : mat P_RX6 0 sg_ k_153 [] C K post 22 ls r rem st = mblk P_RX6 0 sg_ C (mjmp k_153 K) (mexc [] K post k_153) post [.inl (.return_, 1)] 22 ls r rem st := (rfl)
theorem j_153_22 : mjmp k_153 K 22 ls r rem st = K 22 (mproj [] ls) r rem st := (rfl)
theorem a_154_0 {C : mCall} {K : mK} : mat P_RX6 1 sg_ k_154 [] C K post 0 ls r rem st = mblk P_RX6 1 sg_ C (mjmp k_154 K) (mexc [] K post k_154) post [.inl (.iconst 0, 1), .inl (.istore 4, 2)] 0 ls r rem st := (rfl)
theorem j_154_0 : mjmp k_154 K 0 ls r rem st = K 0 (mproj [0, 1, 2, 3] ls) r rem st := (rfl)
theorem a_154_3 {C : mCall} {K : mK} : mat P_RX6 1 sg_ k_154 [] C K post 3 ls r rem st = mblk P_RX6 1 sg_ C (mjmp k_154 K) (mexc [] K post k_154) post [.inl (.iload 4, 2), .inl (.aload_n 0, 1), .inl (.getfield 19, 3), .inl (.invokeinterface 73 1, 5), .inl (.if_icmp .ge 56, 3), .inl (.aload_n 0, 1), .inl (.getfield 19, 3), .inl (.iload 4, 2), .inl (.invokeinterface 78 2, 5), .inl (.checkcast 82, 3), .inl (.astore 5, 2), .inl (.aload 5, 2), .inl (.getfield 321, 3), .inl (.aload_n 1, 1), .inl (.if_acmp .ne 25, 3), .inl (.aload 5, 2), .inl (.getfield 95, 3), .inl (.bipush 99, 2), .inl (.if_icmp .eq 15, 3), .inl (.aload 5, 2), .inl (.iload_n 2, 1), .inl (.iload_n 3, 1), .inl (.invokevirtual 331, 3), .inl (.ifCond .le 5, 3), .inl (.iconst 1, 1), .inl (.ireturn, 1)] 3 ls r rem st := (rfl)
theorem j_154_3 : mjmp k_154 K 3 ls r rem st = K 3 (mproj [0, 1, 2, 3, 4] ls) r rem st := (rfl)
theorem cge_14_56 {a b : Int} : mstep P rt sg C J X post (.if_icmp .ge 56) 14 ls (mi b :: mi a :: r) rem st nx = ((mcmp .ge a b → J 70 ls r rem st) ∧ (¬ mcmp .ge a b → nx ls r rem st)) := e_icmp rfl
theorem ac_39_25 {i i2 : Nat} : mstep P rt sg C J X post (.if_acmp .ne 25) 39 ls (mr 7 i2 :: mr 7 i :: r) rem st nx = ((¬ (7, i) = (7, i2) → J 64 ls r rem st) ∧ (¬ ¬ (7, i) = (7, i2) → nx ls r rem st)) := e_ifacmp rfl rfl
theorem ceq_49_15 {a b : Int} : mstep P rt sg C J X post (.if_icmp .eq 15) 49 ls (mi b :: mi a :: r) rem st nx = ((mcmp .eq a b → J 64 ls r rem st) ∧ (¬ mcmp .eq a b → nx ls r rem st)) := e_icmp rfl
theorem v_RX6_331_9 {a1 a2 : mV} {i : Nat} : mstep P_RX6 rt sg_ C J X post (.invokevirtual 331) pc ls (a2 :: a1 :: mr 9 i :: r) rem st nx = cond (mroom r) (0 ≤ rem.1 ∧ 0 ≤ rem.2 ∧ C 74 [mr 9 i, a1, a2] st (mck X pc ls r (rem.1 - 0, rem.2 - 0) nx)) False := (rfl)
theorem zle_59_5 {a : Int} : mstep P rt sg C J X post (.ifCond .le 5) 59 ls (mi a :: r) rem st nx = ((mcmp .le a 0 → J 64 ls r rem st) ∧ (¬ mcmp .le a 0 → nx ls r rem st)) := e_ifc rfl
theorem a_154_64 {C : mCall} {K : mK} : mat P_RX6 1 sg_ k_154 [] C K post 64 ls r rem st = mblk P_RX6 1 sg_ C (mjmp k_154 K) (mexc [] K post k_154) post [.inl (.iinc 4 1, 3), .inl (.goto (-64), 3)] 64 ls r rem st := (rfl)
theorem j_154_64 : mjmp k_154 K 64 ls r rem st = K 64 (mproj [0, 1, 2, 3, 4] ls) r rem st := (rfl)
theorem g_67_m64 : mstep P rt sg C J X post (.goto (-64)) 67 ls r rem st nx = J 3 ls r rem st := e_goto rfl
theorem a_154_70 {C : mCall} {K : mK} : mat P_RX6 1 sg_ k_154 [] C K post 70 ls r rem st = mblk P_RX6 1 sg_ C (mjmp k_154 K) (mexc [] K post k_154) post [.inl (.iconst 0, 1), .inl (.ireturn, 1)] 70 ls r rem st := (rfl)
theorem j_154_70 : mjmp k_154 K 70 ls r rem st = K 70 (mproj [] ls) r rem st := (rfl)
theorem a_155_0 {C : mCall} {K : mK} : mat P_RX6 0 sg_ k_155 [] C K post 0 ls r rem st = mblk P_RX6 0 sg_ C (mjmp k_155 K) (mexc [] K post k_155) post [.inl (.aload_n 0, 1), .inl (.iload_n 3, 1), .inl (.invokevirtual 199, 3), .inl (.ifCond .eq 33, 3), .inl (.aload_n 1, 1), .inl (.iload_n 2, 1), .inl (.iload_n 3, 1), .inl (.invokevirtual 335, 3), .inl (.aload_n 0, 1), .inl (.getfield 10, 3), .inl (.iload_n 3, 1), .inl (.invokeinterface 78 2, 5), .inl (.checkcast 103, 3), .inl (.aload_n 1, 1), .inl (.getfield 88, 3), .inl (.aload_n 1, 1), .inl (.getfield 338, 3), .inl (.invokevirtual 341, 3)] 0 ls r rem st := (rfl)
theorem j_155_0 : mjmp k_155 K 0 ls r rem st = K 0 (mproj [0, 1, 2, 3] ls) r rem st := (rfl)
theorem zeq_5_33 {a : Int} : mstep P rt sg C J X post (.ifCond .eq 33) 5 ls (mi a :: r) rem st nx = ((mcmp .eq a 0 → J 38 ls r rem st) ∧ (¬ mcmp .eq a 0 → nx ls r rem st)) := e_ifc rfl
theorem v_RX6_335_9 {a1 a2 : mV} {i : Nat} : mstep P_RX6 rt sg_ C J X post (.invokevirtual 335) pc ls (a2 :: a1 :: mr 9 i :: r) rem st nx = cond (mroom r) (0 ≤ rem.1 ∧ 0 ≤ rem.2 ∧ C 76 [mr 9 i, a1, a2] st (mck X pc ls r (rem.1 - 0, rem.2 - 0) nx)) False := (rfl)
theorem f_RX6_338_9 {i : Nat} {f : mV → Prop} : mGet P_RX6 338 9 i st f = f (mi (sI st 9 i 2)) := (rfl)
theorem v_RX6_341_3 {a1 a2 : mV} {i : Nat} : mstep P_RX6 rt sg_ C J X post (.invokevirtual 341) pc ls (a2 :: a1 :: mr 3 i :: r) rem st nx = cond (mroom r) (0 ≤ rem.1 ∧ 0 ≤ rem.2 ∧ C 106 [mr 3 i, a1, a2] st (mck X pc ls r (rem.1 - 0, rem.2 - 0) nx)) False := (rfl)
theorem a_155_38 {C : mCall} {K : mK} : mat P_RX6 0 sg_ k_155 [] C K post 38 ls r rem st = mblk P_RX6 0 sg_ C (mjmp k_155 K) (mexc [] K post k_155) post [.inl (.return_, 1)] 38 ls r rem st := (rfl)
theorem j_155_38 : mjmp k_155 K 38 ls r rem st = K 38 (mproj [] ls) r rem st := (rfl)
theorem a_156_0 {C : mCall} {K : mK} : mat P_RX6 0 sg_ k_156 [] C K post 0 ls r rem st = mblk P_RX6 0 sg_ C (mjmp k_156 K) (mexc [] K post k_156) post [.inl (.aload_n 1, 1), .inl (.iload_n 2, 1), .inl (.invokevirtual 275, 3), .inl (.istore_n 3, 1), .inl (.aload_n 0, 1), .inl (.iload_n 3, 1), .inl (.invokevirtual 199, 3), .inl (.ifCond .eq 33, 3), .inl (.aload_n 1, 1), .inl (.iload_n 2, 1), .inl (.iconst (-1), 1), .inl (.invokevirtual 335, 3), .inl (.aload_n 0, 1), .inl (.getfield 10, 3), .inl (.iload_n 3, 1), .inl (.invokeinterface 78 2, 5), .inl (.checkcast 103, 3), .inl (.aload_n 1, 1), .inl (.getfield 88, 3), .inl (.aload_n 1, 1), .inl (.getfield 338, 3), .inl (.invokevirtual 344, 3)] 0 ls r rem st := (rfl)
theorem j_156_0 : mjmp k_156 K 0 ls r rem st = K 0 (mproj [0, 1, 2] ls) r rem st := (rfl)
theorem zeq_11_33 {a : Int} : mstep P rt sg C J X post (.ifCond .eq 33) 11 ls (mi a :: r) rem st nx = ((mcmp .eq a 0 → J 44 ls r rem st) ∧ (¬ mcmp .eq a 0 → nx ls r rem st)) := e_ifc rfl
theorem v_RX6_344_3 {a1 a2 : mV} {i : Nat} : mstep P_RX6 rt sg_ C J X post (.invokevirtual 344) pc ls (a2 :: a1 :: mr 3 i :: r) rem st nx = cond (mroom r) (0 ≤ rem.1 ∧ 0 ≤ rem.2 ∧ C 107 [mr 3 i, a1, a2] st (mck X pc ls r (rem.1 - 0, rem.2 - 0) nx)) False := (rfl)
theorem a_156_44 {C : mCall} {K : mK} : mat P_RX6 0 sg_ k_156 [] C K post 44 ls r rem st = mblk P_RX6 0 sg_ C (mjmp k_156 K) (mexc [] K post k_156) post [.inl (.return_, 1)] 44 ls r rem st := (rfl)
theorem j_156_44 : mjmp k_156 K 44 ls r rem st = K 44 (mproj [] ls) r rem st := (rfl)
theorem a_157_0 {C : mCall} {K : mK} : mat P_RX6 0 sg_ k_157 [] C K post 0 ls r rem st = mblk P_RX6 0 sg_ C (mjmp k_157 K) (mexc [] K post k_157) post [.inl (.iconst 0, 1), .inl (.istore_n 2, 1)] 0 ls r rem st := (rfl)
theorem j_157_0 : mjmp k_157 K 0 ls r rem st = K 0 (mproj [0, 1] ls) r rem st := (rfl)
theorem a_157_2 {C : mCall} {K : mK} : mat P_RX6 0 sg_ k_157 [] C K post 2 ls r rem st = mblk P_RX6 0 sg_ C (mjmp k_157 K) (mexc [] K post k_157) post [.inl (.iload_n 2, 1), .inl (.aload_n 1, 1), .inl (.getfield 321, 3), .inl (.getfield 225, 3), .inl (.if_icmp .ge 15, 3), .inl (.aload_n 0, 1), .inl (.aload_n 1, 1), .inl (.iload_n 2, 1), .inl (.invokevirtual 278, 3), .inl (.iinc 2 1, 3), .inl (.goto (-20), 3)] 2 ls r rem st := (rfl)
theorem j_157_2 : mjmp k_157 K 2 ls r rem st = K 2 (mproj [0, 1, 2] ls) r rem st := (rfl)
theorem g_22_m20 : mstep P rt sg C J X post (.goto (-20)) 22 ls r rem st nx = J 2 ls r rem st := e_goto rfl
theorem a_157_25 {C : mCall} {K : mK} : mat P_RX6 0 sg_ k_157 [] C K post 25 ls r rem st = mblk P_RX6 0 sg_ C (mjmp k_157 K) (mexc [] K post k_157) post [.inl (.return_, 1)] 25 ls r rem st := (rfl)
theorem j_157_25 : mjmp k_157 K 25 ls r rem st = K 25 (mproj [] ls) r rem st := (rfl)
theorem a_158_0 {C : mCall} {K : mK} : mat P_RX6 0 sg_ k_158 [] C K post 0 ls r rem st = mblk P_RX6 0 sg_ C (mjmp k_158 K) (mexc [] K post k_158) post [.inl (.aload_n 0, 1), .inl (.aload_n 1, 1), .inl (.invokevirtual 347, 3), .inl (.aload_n 1, 1), .inl (.bipush 99, 2), .inl (.putfield 95, 3), .inl (.return_, 1)] 0 ls r rem st := (rfl)
theorem j_158_0 : mjmp k_158 K 0 ls r rem st = K 0 (mproj [0, 1] ls) r rem st := (rfl)
theorem v_RX6_347_0 {a1 : mV} {i : Nat} : mstep P_RX6 rt sg_ C J X post (.invokevirtual 347) pc ls (a1 :: mr 0 i :: r) rem st nx = cond (mroom r) (0 ≤ rem.1 ∧ 0 ≤ rem.2 ∧ C 157 [mr 0 i, a1] st (mck X pc ls r (rem.1 - 0, rem.2 - 0) nx)) False := (rfl)
theorem a_159_0 {C : mCall} {K : mK} : mat P_RX6 1 sg_ k_159 [] C K post 0 ls r rem st = mblk P_RX6 1 sg_ C (mjmp k_159 K) (mexc [] K post k_159) post [.inl (.aload_n 1, 1), .inl (.invokevirtual 84, 3), .inl (.ifCond .eq 15, 3), .inl (.aload_n 0, 1), .inl (.aload_n 1, 1), .inl (.invokevirtual 91, 3), .inl (.ifCond .ne 7, 3), .inl (.iconst 1, 1), .inl (.goto 4, 3)] 0 ls r rem st := (rfl)
theorem j_159_0 : mjmp k_159 K 0 ls r rem st = K 0 (mproj [0, 1] ls) r rem st := (rfl)
theorem zeq_4_15 {a : Int} : mstep P rt sg C J X post (.ifCond .eq 15) 4 ls (mi a :: r) rem st nx = ((mcmp .eq a 0 → J 19 ls r rem st) ∧ (¬ mcmp .eq a 0 → nx ls r rem st)) := e_ifc rfl
theorem zne_12_7 {a : Int} : mstep P rt sg C J X post (.ifCond .ne 7) 12 ls (mi a :: r) rem st nx = ((mcmp .ne a 0 → J 19 ls r rem st) ∧ (¬ mcmp .ne a 0 → nx ls r rem st)) := e_ifc rfl
theorem g_16_4 : mstep P rt sg C J X post (.goto 4) 16 ls r rem st nx = J 20 ls r rem st := e_goto rfl
theorem a_159_19 {C : mCall} {K : mK} : mat P_RX6 1 sg_ k_159 [] C K post 19 ls r rem st = mblk P_RX6 1 sg_ C (mjmp k_159 K) (mexc [] K post k_159) post [.inl (.iconst 0, 1)] 19 ls r rem st := (rfl)
theorem j_159_19 : mjmp k_159 K 19 ls r rem st = K 19 (mproj [] ls) r rem st := (rfl)
theorem a_159_20 {C : mCall} {K : mK} : mat P_RX6 1 sg_ k_159 [] C K post 20 ls r rem st = mblk P_RX6 1 sg_ C (mjmp k_159 K) (mexc [] K post k_159) post [.inl (.ireturn, 1)] 20 ls r rem st := (rfl)
theorem j_159_20 : mjmp k_159 K 20 ls r rem st = K 20 (mproj [] ls) r rem st := (rfl)
theorem a_160_0 {C : mCall} {K : mK} : mat P_RX6 1 sg_ k_160 [] C K post 0 ls r rem st = mblk P_RX6 1 sg_ C (mjmp k_160 K) (mexc [] K post k_160) post [.inl (.iconst 0, 1), .inl (.istore_n 2, 1)] 0 ls r rem st := (rfl)
theorem j_160_0 : mjmp k_160 K 0 ls r rem st = K 0 (mproj [0, 1] ls) r rem st := (rfl)
theorem a_160_2 {C : mCall} {K : mK} : mat P_RX6 1 sg_ k_160 [] C K post 2 ls r rem st = mblk P_RX6 1 sg_ C (mjmp k_160 K) (mexc [] K post k_160) post [.inl (.iload_n 2, 1), .inl (.aload_n 1, 1), .inl (.getfield 321, 3), .inl (.getfield 225, 3), .inl (.if_icmp .ge 47, 3), .inl (.aload_n 1, 1), .inl (.iload_n 2, 1), .inl (.invokevirtual 275, 3), .inl (.istore_n 3, 1), .inl (.aload_n 0, 1), .inl (.iload_n 3, 1), .inl (.invokevirtual 199, 3), .inl (.ifCond .eq 25, 3), .inl (.aload_n 0, 1), .inl (.aload_n 1, 1), .inl (.iload_n 2, 1), .inl (.aload_n 0, 1), .inl (.getfield 10, 3), .inl (.iload_n 3, 1), .inl (.invokeinterface 78 2, 5), .inl (.checkcast 103, 3), .inl (.invokevirtual 266, 3), .inl (.ifCond .eq 5, 3)] 2 ls r rem st := (rfl)
theorem j_160_2 : mjmp k_160 K 2 ls r rem st = K 2 (mproj [0, 1, 2] ls) r rem st := (rfl)
theorem cge_10_47 {a b : Int} : mstep P rt sg C J X post (.if_icmp .ge 47) 10 ls (mi b :: mi a :: r) rem st nx = ((mcmp .ge a b → J 57 ls r rem st) ∧ (¬ mcmp .ge a b → nx ls r rem st)) := e_icmp rfl
theorem zeq_24_25 {a : Int} : mstep P rt sg C J X post (.ifCond .eq 25) 24 ls (mi a :: r) rem st nx = ((mcmp .eq a 0 → J 49 ls r rem st) ∧ (¬ mcmp .eq a 0 → nx ls r rem st)) := e_ifc rfl
theorem zeq_46_5 {a : Int} : mstep P rt sg C J X post (.ifCond .eq 5) 46 ls (mi a :: r) rem st nx = ((mcmp .eq a 0 → J 51 ls r rem st) ∧ (¬ mcmp .eq a 0 → nx ls r rem st)) := e_ifc rfl
theorem a_160_49 {C : mCall} {K : mK} : mat P_RX6 1 sg_ k_160 [] C K post 49 ls r rem st = mblk P_RX6 1 sg_ C (mjmp k_160 K) (mexc [] K post k_160) post [.inl (.iconst 0, 1), .inl (.ireturn, 1)] 49 ls r rem st := (rfl)
theorem j_160_49 : mjmp k_160 K 49 ls r rem st = K 49 (mproj [] ls) r rem st := (rfl)
theorem a_160_51 {C : mCall} {K : mK} : mat P_RX6 1 sg_ k_160 [] C K post 51 ls r rem st = mblk P_RX6 1 sg_ C (mjmp k_160 K) (mexc [] K post k_160) post [.inl (.iinc 2 1, 3), .inl (.goto (-52), 3)] 51 ls r rem st := (rfl)
theorem j_160_51 : mjmp k_160 K 51 ls r rem st = K 51 (mproj [0, 1, 2] ls) r rem st := (rfl)
theorem g_54_m52 : mstep P rt sg C J X post (.goto (-52)) 54 ls r rem st nx = J 2 ls r rem st := e_goto rfl
theorem a_160_57 {C : mCall} {K : mK} : mat P_RX6 1 sg_ k_160 [] C K post 57 ls r rem st = mblk P_RX6 1 sg_ C (mjmp k_160 K) (mexc [] K post k_160) post [.inl (.iconst 1, 1), .inl (.ireturn, 1)] 57 ls r rem st := (rfl)
theorem j_160_57 : mjmp k_160 K 57 ls r rem st = K 57 (mproj [] ls) r rem st := (rfl)
theorem a_161_0 {C : mCall} {K : mK} : mat P_RX6 0 sg_ k_161 [] C K post 0 ls r rem st = mblk P_RX6 0 sg_ C (mjmp k_161 K) (mexc [] K post k_161) post [.inl (.aload_n 3, 1), .inl (.aload_n 1, 1), .inl (.getfield 321, 3), .inl (.iload_n 2, 1), .inl (.invokevirtual 350, 3), .inl (.aload_n 1, 1), .inl (.invokevirtual 160, 3), .inl (.aload_n 1, 1), .inl (.invokevirtual 163, 3), .inl (.invokevirtual 353, 3), .inl (.ifCond .ne 5, 3), .inl (.iconst 1, 1), .inl (.ireturn, 1)] 0 ls r rem st := (rfl)
theorem j_161_0 : mjmp k_161 K 0 ls r rem st = K 0 (mproj [0, 1, 2, 3] ls) r rem st := (rfl)
theorem v_RX6_350_7 {a1 : mV} {i : Nat} : mstep P_RX6 rt sg_ C J X post (.invokevirtual 350) pc ls (a1 :: mr 7 i :: r) rem st nx = cond (mroom r) (0 ≤ rem.1 ∧ 0 ≤ rem.2 ∧ C 83 [mr 7 i, a1] st (mck X pc ls r (rem.1 - 0, rem.2 - 0) nx)) False := (rfl)
theorem v_RX6_353_3 {a1 a2 a3 : mV} {i : Nat} : mstep P_RX6 rt sg_ C J X post (.invokevirtual 353) pc ls (a3 :: a2 :: a1 :: mr 3 i :: r) rem st nx = cond (mroom r) (0 ≤ rem.1 ∧ 0 ≤ rem.2 ∧ C 101 [mr 3 i, a1, a2, a3] st (mck X pc ls r (rem.1 - 0, rem.2 - 0) nx)) False := (rfl)
theorem zne_20_5 {a : Int} : mstep P rt sg C J X post (.ifCond .ne 5) 20 ls (mi a :: r) rem st nx = ((mcmp .ne a 0 → J 25 ls r rem st) ∧ (¬ mcmp .ne a 0 → nx ls r rem st)) := e_ifc rfl
theorem a_161_25 {C : mCall} {K : mK} : mat P_RX6 0 sg_ k_161 [] C K post 25 ls r rem st = mblk P_RX6 0 sg_ C (mjmp k_161 K) (mexc [] K post k_161) post [.inl (.aload_n 3, 1), .inl (.getfield 148, 3), .inl (.aload_n 1, 1), .inl (.invokevirtual 160, 3), .inl (.aload_n 1, 1), .inl (.invokevirtual 163, 3), .inl (.invokevirtual 357, 3), .inl (.ifCond .eq 5, 3), .inl (.iconst 2, 1), .inl (.ireturn, 1)] 25 ls r rem st := (rfl)
theorem j_161_25 : mjmp k_161 K 25 ls r rem st = K 25 (mproj [0, 1, 3] ls) r rem st := (rfl)
theorem v_RX6_357_1 {a1 a2 : mV} {i : Nat} : mstep P_RX6 rt sg_ C J X post (.invokevirtual 357) pc ls (a2 :: a1 :: mr 1 i :: r) rem st nx = cond (mroom r) (0 ≤ rem.1 ∧ 0 ≤ rem.2 ∧ C 70 [mr 1 i, a1, a2] st (mck X pc ls r (rem.1 - 0, rem.2 - 0) nx)) False := (rfl)
theorem v_RX6_357_2 {a1 a2 : mV} {i : Nat} : mstep P_RX6 rt sg_ C J X post (.invokevirtual 357) pc ls (a2 :: a1 :: mr 2 i :: r) rem st nx = cond (mroom r) (0 ≤ rem.1 ∧ 0 ≤ rem.2 ∧ C 70 [mr 2 i, a1, a2] st (mck X pc ls r (rem.1 - 0, rem.2 - 0) nx)) False := (rfl)
theorem a_161_45 {C : mCall} {K : mK} : mat P_RX6 0 sg_ k_161 [] C K post 45 ls r rem st = mblk P_RX6 0 sg_ C (mjmp k_161 K) (mexc [] K post k_161) post [.inl (.aload_n 3, 1), .inl (.getfield 190, 3), .inl (.aload_n 1, 1), .inl (.invokevirtual 160, 3), .inl (.aload_n 1, 1), .inl (.invokevirtual 163, 3), .inl (.invokevirtual 357, 3), .inl (.ifCond .eq 5, 3), .inl (.iconst 3, 1), .inl (.ireturn, 1)] 45 ls r rem st := (rfl)
theorem j_161_45 : mjmp k_161 K 45 ls r rem st = K 45 (mproj [0, 1, 3] ls) r rem st := (rfl)
theorem zeq_60_5 {a : Int} : mstep P rt sg C J X post (.ifCond .eq 5) 60 ls (mi a :: r) rem st nx = ((mcmp .eq a 0 → J 65 ls r rem st) ∧ (¬ mcmp .eq a 0 → nx ls r rem st)) := e_ifc rfl
theorem a_161_65 {C : mCall} {K : mK} : mat P_RX6 0 sg_ k_161 [] C K post 65 ls r rem st = mblk P_RX6 0 sg_ C (mjmp k_161 K) (mexc [] K post k_161) post [.inl (.aload_n 1, 1), .inl (.aload_n 3, 1), .inl (.getfield 361, 3), .inl (.invokevirtual 156, 3), .inl (.ifCond .eq 7, 3), .inl (.iconst 1, 1), .inl (.goto 4, 3)] 65 ls r rem st := (rfl)
theorem j_161_65 : mjmp k_161 K 65 ls r rem st = K 65 (mproj [0, 1, 3] ls) r rem st := (rfl)
theorem f_RX6_361_3 {i : Nat} {f : mV → Prop} : mGet P_RX6 361 3 i st f = f (mi (sI st 3 i 0)) := (rfl)
theorem zeq_73_7 {a : Int} : mstep P rt sg C J X post (.ifCond .eq 7) 73 ls (mi a :: r) rem st nx = ((mcmp .eq a 0 → J 80 ls r rem st) ∧ (¬ mcmp .eq a 0 → nx ls r rem st)) := e_ifc rfl
theorem g_77_4 : mstep P rt sg C J X post (.goto 4) 77 ls r rem st nx = J 81 ls r rem st := e_goto rfl
theorem a_161_80 {C : mCall} {K : mK} : mat P_RX6 0 sg_ k_161 [] C K post 80 ls r rem st = mblk P_RX6 0 sg_ C (mjmp k_161 K) (mexc [] K post k_161) post [.inl (.iconst 0, 1)] 80 ls r rem st := (rfl)
theorem j_161_80 : mjmp k_161 K 80 ls r rem st = K 80 (mproj [0, 1, 3] ls) r rem st := (rfl)
theorem a_161_81 {C : mCall} {K : mK} : mat P_RX6 0 sg_ k_161 [] C K post 81 ls r rem st = mblk P_RX6 0 sg_ C (mjmp k_161 K) (mexc [] K post k_161) post [.inl (.istore 4, 2), .inl (.aload_n 0, 1), .inl (.aload_n 3, 1), .inl (.aload_n 1, 1), .inl (.getfield 88, 3), .inl (.aload_n 1, 1), .inl (.getfield 338, 3), .inl (.iload 4, 2), .inl (.invokevirtual 364, 3), .inl (.ireturn, 1)] 81 ls r rem st := (rfl)
theorem j_161_81 : mjmp k_161 K 81 ls r rem st = K 81 (mproj [0, 1, 3] ls) r rem st := (rfl)
theorem v_RX6_364_0 {a1 a2 a3 a4 : mV} {i : Nat} : mstep P_RX6 rt sg_ C J X post (.invokevirtual 364) pc ls (a4 :: a3 :: a2 :: a1 :: mr 0 i :: r) rem st nx = cond (mroom r) (0 ≤ rem.1 ∧ 0 ≤ rem.2 ∧ C 162 [mr 0 i, a1, a2, a3, a4] st (mck X pc ls r (rem.1 - 0, rem.2 - 0) nx)) False := (rfl)
theorem a_162_0 {C : mCall} {K : mK} : mat P_RX6 0 sg_ k_162 [] C K post 0 ls r rem st = mblk P_RX6 0 sg_ C (mjmp k_162 K) (mexc [] K post k_162) post [.inl (.aload_n 1, 1), .inl (.iload_n 2, 1), .inl (.iload_n 3, 1), .inl (.iload 4, 2), .inl (.invokevirtual 368, 3), .inl (.ifCond .eq 5, 3), .inl (.iconst 4, 1), .inl (.ireturn, 1)] 0 ls r rem st := (rfl)
theorem j_162_0 : mjmp k_162 K 0 ls r rem st = K 0 (mproj [0, 1, 2, 3, 4] ls) r rem st := (rfl)
theorem v_RX6_368_3 {a1 a2 a3 : mV} {i : Nat} : mstep P_RX6 rt sg_ C J X post (.invokevirtual 368) pc ls (a3 :: a2 :: a1 :: mr 3 i :: r) rem st nx = cond (mroom r) (0 ≤ rem.1 ∧ 0 ≤ rem.2 ∧ C 110 [mr 3 i, a1, a2, a3] st (mck X pc ls r (rem.1 - 0, rem.2 - 0) nx)) False := (rfl)
theorem zeq_8_5 {a : Int} : mstep P rt sg C J X post (.ifCond .eq 5) 8 ls (mi a :: r) rem st nx = ((mcmp .eq a 0 → J 13 ls r rem st) ∧ (¬ mcmp .eq a 0 → nx ls r rem st)) := e_ifc rfl
theorem a_162_13 {C : mCall} {K : mK} : mat P_RX6 0 sg_ k_162 [] C K post 13 ls r rem st = mblk P_RX6 0 sg_ C (mjmp k_162 K) (mexc [] K post k_162) post [.inl (.aload_n 1, 1), .inl (.iload_n 2, 1), .inl (.iload_n 3, 1), .inl (.bipush 24, 2), .inl (.aload_n 0, 1), .inl (.getfield 40, 3), .inl (.invokevirtual 371, 3), .inl (.ifCond .eq 5, 3), .inl (.iconst 5, 1), .inl (.ireturn, 1)] 13 ls r rem st := (rfl)
theorem j_162_13 : mjmp k_162 K 13 ls r rem st = K 13 (mproj [0, 1, 2, 3] ls) r rem st := (rfl)
theorem v_RX6_371_3 {a1 a2 a3 a4 : mV} {i : Nat} : mstep P_RX6 rt sg_ C J X post (.invokevirtual 371) pc ls (a4 :: a3 :: a2 :: a1 :: mr 3 i :: r) rem st nx = cond (mroom r) (0 ≤ rem.1 ∧ 0 ≤ rem.2 ∧ C 111 [mr 3 i, a1, a2, a3, a4] st (mck X pc ls r (rem.1 - 0, rem.2 - 0) nx)) False := (rfl)
theorem a_162_30 {C : mCall} {K : mK} : mat P_RX6 0 sg_ k_162 [] C K post 30 ls r rem st = mblk P_RX6 0 sg_ C (mjmp k_162 K) (mexc [] K post k_162) post [.inl (.aload_n 1, 1), .inl (.iload_n 2, 1), .inl (.iload_n 3, 1), .inl (.sipush 168, 3), .inl (.aload_n 0, 1), .inl (.getfield 43, 3), .inl (.invokevirtual 371, 3), .inl (.ifCond .eq 6, 3), .inl (.bipush 6, 2), .inl (.ireturn, 1)] 30 ls r rem st := (rfl)
theorem j_162_30 : mjmp k_162 K 30 ls r rem st = K 30 (mproj [0, 1, 2, 3] ls) r rem st := (rfl)
theorem zeq_43_6 {a : Int} : mstep P rt sg C J X post (.ifCond .eq 6) 43 ls (mi a :: r) rem st nx = ((mcmp .eq a 0 → J 49 ls r rem st) ∧ (¬ mcmp .eq a 0 → nx ls r rem st)) := e_ifc rfl
theorem a_162_49 {C : mCall} {K : mK} : mat P_RX6 0 sg_ k_162 [] C K post 49 ls r rem st = mblk P_RX6 0 sg_ C (mjmp k_162 K) (mexc [] K post k_162) post [.inl (.iconst 0, 1), .inl (.ireturn, 1)] 49 ls r rem st := (rfl)
theorem j_162_49 : mjmp k_162 K 49 ls r rem st = K 49 (mproj [] ls) r rem st := (rfl)
theorem a_163_0 {C : mCall} {K : mK} : mat P_RX6 0 sg_ k_163 [] C K post 0 ls r rem st = mblk P_RX6 0 sg_ C (mjmp k_163 K) (mexc [] K post k_163) post [.inl (.aload_n 0, 1), .inl (.getfield 25, 3), .inl (.aload_n 1, 1), .inl (.invokevirtual 375, 3), .inl (.iconst 0, 1), .inl (.istore_n 2, 1)] 0 ls r rem st := (rfl)
theorem j_163_0 : mjmp k_163 K 0 ls r rem st = K 0 (mproj [0, 1] ls) r rem st := (rfl)
theorem f_RX6_25_0 {i : Nat} {f : mV → Prop} : mGet P_RX6 25 0 i st f = f (mr 12 i) := (rfl)
theorem v_RX6_375_12 {a1 : mV} {i : Nat} : mstep P_RX6 rt sg_ C J X post (.invokevirtual 375) pc ls (a1 :: mr 12 i :: r) rem st nx = cond (mroom r) (0 ≤ rem.1 ∧ 0 ≤ rem.2 ∧ C 84 [mr 12 i, a1] st (mck X pc ls r (rem.1 - 0, rem.2 - 0) nx)) False := (rfl)
theorem a_163_10 {C : mCall} {K : mK} : mat P_RX6 0 sg_ k_163 [] C K post 10 ls r rem st = mblk P_RX6 0 sg_ C (mjmp k_163 K) (mexc [] K post k_163) post [.inl (.iload_n 2, 1), .inl (.aload_n 1, 1), .inl (.getfield 321, 3), .inl (.getfield 225, 3), .inl (.if_icmp .ge 61, 3), .inl (.iconst 0, 1), .inl (.istore_n 3, 1)] 10 ls r rem st := (rfl)
theorem j_163_10 : mjmp k_163 K 10 ls r rem st = K 10 (mproj [0, 1, 2] ls) r rem st := (rfl)
theorem cge_18_61 {a b : Int} : mstep P rt sg C J X post (.if_icmp .ge 61) 18 ls (mi b :: mi a :: r) rem st nx = ((mcmp .ge a b → J 79 ls r rem st) ∧ (¬ mcmp .ge a b → nx ls r rem st)) := e_icmp rfl
theorem a_163_23 {C : mCall} {K : mK} : mat P_RX6 0 sg_ k_163 [] C K post 23 ls r rem st = mblk P_RX6 0 sg_ C (mjmp k_163 K) (mexc [] K post k_163) post [.inl (.iload_n 3, 1), .inl (.aload_n 0, 1), .inl (.getfield 10, 3), .inl (.invokeinterface 73 1, 5), .inl (.if_icmp .ge 40, 3), .inl (.aload_n 0, 1), .inl (.aload_n 1, 1), .inl (.iload_n 2, 1), .inl (.aload_n 0, 1), .inl (.getfield 10, 3), .inl (.iload_n 3, 1), .inl (.invokeinterface 78 2, 5), .inl (.checkcast 103, 3), .inl (.invokevirtual 266, 3), .inl (.ifCond .ne 12, 3), .inl (.aload_n 0, 1), .inl (.getfield 25, 3), .inl (.iload_n 2, 1), .inl (.iload_n 3, 1), .inl (.invokevirtual 378, 3)] 23 ls r rem st := (rfl)
theorem j_163_23 : mjmp k_163 K 23 ls r rem st = K 23 (mproj [0, 1, 2, 3] ls) r rem st := (rfl)
theorem cge_33_40 {a b : Int} : mstep P rt sg C J X post (.if_icmp .ge 40) 33 ls (mi b :: mi a :: r) rem st nx = ((mcmp .ge a b → J 73 ls r rem st) ∧ (¬ mcmp .ge a b → nx ls r rem st)) := e_icmp rfl
theorem zne_55_12 {a : Int} : mstep P rt sg C J X post (.ifCond .ne 12) 55 ls (mi a :: r) rem st nx = ((mcmp .ne a 0 → J 67 ls r rem st) ∧ (¬ mcmp .ne a 0 → nx ls r rem st)) := e_ifc rfl
theorem v_RX6_378_12 {a1 a2 : mV} {i : Nat} : mstep P_RX6 rt sg_ C J X post (.invokevirtual 378) pc ls (a2 :: a1 :: mr 12 i :: r) rem st nx = cond (mroom r) (0 ≤ rem.1 ∧ 0 ≤ rem.2 ∧ C 85 [mr 12 i, a1, a2] st (mck X pc ls r (rem.1 - 0, rem.2 - 0) nx)) False := (rfl)
theorem a_163_67 {C : mCall} {K : mK} : mat P_RX6 0 sg_ k_163 [] C K post 67 ls r rem st = mblk P_RX6 0 sg_ C (mjmp k_163 K) (mexc [] K post k_163) post [.inl (.iinc 3 1, 3), .inl (.goto (-47), 3)] 67 ls r rem st := (rfl)
theorem j_163_67 : mjmp k_163 K 67 ls r rem st = K 67 (mproj [0, 1, 2, 3] ls) r rem st := (rfl)
theorem g_70_m47 : mstep P rt sg C J X post (.goto (-47)) 70 ls r rem st nx = J 23 ls r rem st := e_goto rfl
theorem a_163_73 {C : mCall} {K : mK} : mat P_RX6 0 sg_ k_163 [] C K post 73 ls r rem st = mblk P_RX6 0 sg_ C (mjmp k_163 K) (mexc [] K post k_163) post [.inl (.iinc 2 1, 3), .inl (.goto (-66), 3)] 73 ls r rem st := (rfl)
theorem j_163_73 : mjmp k_163 K 73 ls r rem st = K 73 (mproj [0, 1, 2] ls) r rem st := (rfl)
theorem g_76_m66 : mstep P rt sg C J X post (.goto (-66)) 76 ls r rem st nx = J 10 ls r rem st := e_goto rfl
theorem a_163_79 {C : mCall} {K : mK} : mat P_RX6 0 sg_ k_163 [] C K post 79 ls r rem st = mblk P_RX6 0 sg_ C (mjmp k_163 K) (mexc [] K post k_163) post [.inl (.aload_n 0, 1), .inl (.getfield 25, 3), .inl (.invokevirtual 381, 3), .inl (.ifCond .ne 5, 3), .inl (.iconst (-1), 1), .inl (.ireturn, 1)] 79 ls r rem st := (rfl)
theorem j_163_79 : mjmp k_163 K 79 ls r rem st = K 79 (mproj [0, 1] ls) r rem st := (rfl)
theorem v_RX6_381_12  {i : Nat} : mstep P_RX6 rt sg_ C J X post (.invokevirtual 381) pc ls (mr 12 i :: r) rem st nx = cond (mroom r) (0 ≤ rem.1 ∧ 0 ≤ rem.2 ∧ C 86 [mr 12 i] st (mck X pc ls r (rem.1 - 0, rem.2 - 0) nx)) False := (rfl)
theorem zne_86_5 {a : Int} : mstep P rt sg C J X post (.ifCond .ne 5) 86 ls (mi a :: r) rem st nx = ((mcmp .ne a 0 → J 91 ls r rem st) ∧ (¬ mcmp .ne a 0 → nx ls r rem st)) := e_ifc rfl
theorem a_163_91 {C : mCall} {K : mK} : mat P_RX6 0 sg_ k_163 [] C K post 91 ls r rem st = mblk P_RX6 0 sg_ C (mjmp k_163 K) (mexc [] K post k_163) post [.inl (.aload_n 0, 1), .inl (.aload_n 1, 1), .inl (.invokevirtual 347, 3), .inl (.iconst 0, 1), .inl (.istore_n 2, 1)] 91 ls r rem st := (rfl)
theorem j_163_91 : mjmp k_163 K 91 ls r rem st = K 91 (mproj [0, 1] ls) r rem st := (rfl)
theorem a_163_98 {C : mCall} {K : mK} : mat P_RX6 0 sg_ k_163 [] C K post 98 ls r rem st = mblk P_RX6 0 sg_ C (mjmp k_163 K) (mexc [] K post k_163) post [.inl (.iload_n 2, 1), .inl (.aload_n 1, 1), .inl (.getfield 321, 3), .inl (.getfield 225, 3), .inl (.if_icmp .ge 23, 3), .inl (.aload_n 0, 1), .inl (.aload_n 1, 1), .inl (.iload_n 2, 1), .inl (.aload_n 0, 1), .inl (.getfield 25, 3), .inl (.iload_n 2, 1), .inl (.invokevirtual 384, 3), .inl (.invokevirtual 281, 3), .inl (.iinc 2 1, 3), .inl (.goto (-28), 3)] 98 ls r rem st := (rfl)
theorem j_163_98 : mjmp k_163 K 98 ls r rem st = K 98 (mproj [0, 1, 2] ls) r rem st := (rfl)
theorem cge_106_23 {a b : Int} : mstep P rt sg C J X post (.if_icmp .ge 23) 106 ls (mi b :: mi a :: r) rem st nx = ((mcmp .ge a b → J 129 ls r rem st) ∧ (¬ mcmp .ge a b → nx ls r rem st)) := e_icmp rfl
theorem v_RX6_384_12 {a1 : mV} {i : Nat} : mstep P_RX6 rt sg_ C J X post (.invokevirtual 384) pc ls (a1 :: mr 12 i :: r) rem st nx = cond (mroom r) (0 ≤ rem.1 ∧ 0 ≤ rem.2 ∧ C 87 [mr 12 i, a1] st (mck X pc ls r (rem.1 - 0, rem.2 - 0) nx)) False := (rfl)
theorem g_126_m28 : mstep P rt sg C J X post (.goto (-28)) 126 ls r rem st nx = J 98 ls r rem st := e_goto rfl
theorem a_163_129 {C : mCall} {K : mK} : mat P_RX6 0 sg_ k_163 [] C K post 129 ls r rem st = mblk P_RX6 0 sg_ C (mjmp k_163 K) (mexc [] K post k_163) post [.inl (.aload_n 0, 1), .inl (.getfield 25, 3), .inl (.getfield 387, 3), .inl (.ireturn, 1)] 129 ls r rem st := (rfl)
theorem j_163_129 : mjmp k_163 K 129 ls r rem st = K 129 (mproj [0] ls) r rem st := (rfl)
theorem f_RX6_387_12 {i : Nat} {f : mV → Prop} : mGet P_RX6 387 12 i st f = f (mi (sI st 12 i 5)) := (rfl)
theorem a_164_0 {C : mCall} {K : mK} : mat P_RX6 0 sg_ k_164 [] C K post 0 ls r rem st = mblk P_RX6 0 sg_ C (mjmp k_164 K) (mexc [] K post k_164) post [.inl (.aload_n 0, 1), .inl (.getfield 32, 3), .inl (.astore 5, 2), .inl (.aload 5, 2), .inl (.iload_n 3, 1), .inl (.iload 4, 2), .inl (.invokevirtual 390, 3), .inl (.ifCond .ne 4, 3), .inl (.return_, 1)] 0 ls r rem st := (rfl)
theorem j_164_0 : mjmp k_164 K 0 ls r rem st = K 0 (mproj [0, 1, 2, 3, 4] ls) r rem st := (rfl)
theorem v_RX6_390_17 {a1 a2 : mV} {i : Nat} : mstep P_RX6 rt sg_ C J X post (.invokevirtual 390) pc ls (a2 :: a1 :: mr 17 i :: r) rem st nx = cond (mroom r) (0 ≤ rem.1 ∧ 0 ≤ rem.2 ∧ C 95 [mr 17 i, a1, a2] st (mck X pc ls r (rem.1 - 0, rem.2 - 0) nx)) False := (rfl)
theorem zne_14_4 {a : Int} : mstep P rt sg C J X post (.ifCond .ne 4) 14 ls (mi a :: r) rem st nx = ((mcmp .ne a 0 → J 18 ls r rem st) ∧ (¬ mcmp .ne a 0 → nx ls r rem st)) := e_ifc rfl
theorem a_164_18 {C : mCall} {K : mK} : mat P_RX6 0 sg_ k_164 [] C K post 18 ls r rem st = mblk P_RX6 0 sg_ C (mjmp k_164 K) (mexc [] K post k_164) post [.inl (.iload_n 1, 1), .inl (.aload 5, 2), .inl (.getfield 393, 3), .inl (.invokeinterface 73 1, 5), .inl (.if_icmp .lt 12, 3), .inl (.aload 5, 2), .inl (.iload_n 3, 1), .inl (.iload 4, 2), .inl (.invokevirtual 396, 3), .inl (.return_, 1)] 18 ls r rem st := (rfl)
theorem j_164_18 : mjmp k_164 K 18 ls r rem st = K 18 (mproj [0, 1, 2, 3, 4, 5] ls) r rem st := (rfl)
theorem f_RX6_393_17 {i : Nat} {f : mV → Prop} : mGet P_RX6 393 17 i st f = f (mr 23 i) := (rfl)
theorem clt_29_12 {a b : Int} : mstep P rt sg C J X post (.if_icmp .lt 12) 29 ls (mi b :: mi a :: r) rem st nx = ((mcmp .lt a b → J 41 ls r rem st) ∧ (¬ mcmp .lt a b → nx ls r rem st)) := e_icmp rfl
theorem v_RX6_396_17 {a1 a2 : mV} {i : Nat} : mstep P_RX6 rt sg_ C J X post (.invokevirtual 396) pc ls (a2 :: a1 :: mr 17 i :: r) rem st nx = cond (mroom r) (0 ≤ rem.1 ∧ 0 ≤ rem.2 ∧ C 96 [mr 17 i, a1, a2] st (mck X pc ls r (rem.1 - 0, rem.2 - 0) nx)) False := (rfl)
theorem a_164_41 {C : mCall} {K : mK} : mat P_RX6 0 sg_ k_164 [] C K post 41 ls r rem st = mblk P_RX6 0 sg_ C (mjmp k_164 K) (mexc [] K post k_164) post [.inl (.iconst 0, 1), .inl (.istore 6, 2)] 41 ls r rem st := (rfl)
theorem j_164_41 : mjmp k_164 K 41 ls r rem st = K 41 (mproj [0, 1, 2, 3, 4, 5] ls) r rem st := (rfl)
theorem a_164_44 {C : mCall} {K : mK} : mat P_RX6 0 sg_ k_164 [] C K post 44 ls r rem st = mblk P_RX6 0 sg_ C (mjmp k_164 K) (mexc [] K post k_164) post [.inl (.iload 6, 2), .inl (.aload 5, 2), .inl (.getfield 393, 3), .inl (.invokeinterface 73 1, 5), .inl (.if_icmp .ge 109, 3), .inl (.iload_n 2, 1), .inl (.iload 6, 2), .inl (.ishr, 1), .inl (.iconst 1, 1), .inl (.iand, 1), .inl (.ifCond .ne 94, 3), .inl (.aload 5, 2), .inl (.getfield 393, 3), .inl (.iload 6, 2), .inl (.invokeinterface 78 2, 5), .inl (.checkcast 82, 3), .inl (.astore 7, 2), .inl (.aload 5, 2), .inl (.iload_n 1, 1), .inl (.iload 6, 2), .inl (.invokevirtual 399, 3), .inl (.aload_n 0, 1), .inl (.aload 7, 2), .inl (.invokevirtual 290, 3), .inl (.istore 8, 2), .inl (.iload 8, 2), .inl (.iconst (-1), 1), .inl (.if_icmp .ne 30, 3), .inl (.aload_n 0, 1), .inl (.aload 7, 2), .inl (.invokevirtual 99, 3), .inl (.aload_n 0, 1), .inl (.iload_n 1, 1), .inl (.iconst 1, 1), .inl (.iadd, 1), .inl (.iload_n 2, 1), .inl (.iconst 1, 1), .inl (.iload 6, 2), .inl (.ishl, 1), .inl (.ior, 1), .inl (.iload_n 3, 1), .inl (.iconst 1, 1), .inl (.iadd, 1), .inl (.iload 4, 2), .inl (.invokestatic 308, 3), .inl (.goto 22, 3)] 44 ls r rem st := (rfl)
theorem j_164_44 : mjmp k_164 K 44 ls r rem st = K 44 (mproj [0, 1, 2, 3, 4, 5, 6] ls) r rem st := (rfl)
theorem cge_56_109 {a b : Int} : mstep P rt sg C J X post (.if_icmp .ge 109) 56 ls (mi b :: mi a :: r) rem st nx = ((mcmp .ge a b → J 165 ls r rem st) ∧ (¬ mcmp .ge a b → nx ls r rem st)) := e_icmp rfl
theorem zne_65_94 {a : Int} : mstep P rt sg C J X post (.ifCond .ne 94) 65 ls (mi a :: r) rem st nx = ((mcmp .ne a 0 → J 159 ls r rem st) ∧ (¬ mcmp .ne a 0 → nx ls r rem st)) := e_ifc rfl
theorem v_RX6_399_17 {a1 a2 : mV} {i : Nat} : mstep P_RX6 rt sg_ C J X post (.invokevirtual 399) pc ls (a2 :: a1 :: mr 17 i :: r) rem st nx = cond (mroom r) (0 ≤ rem.1 ∧ 0 ≤ rem.2 ∧ C 93 [mr 17 i, a1, a2] st (mck X pc ls r (rem.1 - 0, rem.2 - 0) nx)) False := (rfl)
theorem cne_104_30 {a b : Int} : mstep P rt sg C J X post (.if_icmp .ne 30) 104 ls (mi b :: mi a :: r) rem st nx = ((mcmp .ne a b → J 134 ls r rem st) ∧ (¬ mcmp .ne a b → nx ls r rem st)) := e_icmp rfl
theorem g_131_22 : mstep P rt sg C J X post (.goto 22) 131 ls r rem st nx = J 153 ls r rem st := e_goto rfl
theorem a_164_134 {C : mCall} {K : mK} : mat P_RX6 0 sg_ k_164 [] C K post 134 ls r rem st = mblk P_RX6 0 sg_ C (mjmp k_164 K) (mexc [] K post k_164) post [.inl (.aload_n 0, 1), .inl (.iload_n 1, 1), .inl (.iconst 1, 1), .inl (.iadd, 1), .inl (.iload_n 2, 1), .inl (.iconst 1, 1), .inl (.iload 6, 2), .inl (.ishl, 1), .inl (.ior, 1), .inl (.iload_n 3, 1), .inl (.iload 4, 2), .inl (.iload 8, 2), .inl (.iadd, 1), .inl (.invokestatic 308, 3)] 134 ls r rem st := (rfl)
theorem j_164_134 : mjmp k_164 K 134 ls r rem st = K 134 (mproj [0, 1, 2, 3, 4, 5, 6, 7, 8] ls) r rem st := (rfl)
theorem a_164_153 {C : mCall} {K : mK} : mat P_RX6 0 sg_ k_164 [] C K post 153 ls r rem st = mblk P_RX6 0 sg_ C (mjmp k_164 K) (mexc [] K post k_164) post [.inl (.aload_n 0, 1), .inl (.aload 7, 2), .inl (.invokevirtual 402, 3)] 153 ls r rem st := (rfl)
theorem j_164_153 : mjmp k_164 K 153 ls r rem st = K 153 (mproj [0, 1, 2, 3, 4, 5, 6, 7] ls) r rem st := (rfl)
theorem v_RX6_402_0 {a1 : mV} {i : Nat} : mstep P_RX6 rt sg_ C J X post (.invokevirtual 402) pc ls (a1 :: mr 0 i :: r) rem st nx = cond (mroom r) (0 ≤ rem.1 ∧ 0 ≤ rem.2 ∧ C 165 [mr 0 i, a1] st (mck X pc ls r (rem.1 - 0, rem.2 - 0) nx)) False := (rfl)
theorem a_164_159 {C : mCall} {K : mK} : mat P_RX6 0 sg_ k_164 [] C K post 159 ls r rem st = mblk P_RX6 0 sg_ C (mjmp k_164 K) (mexc [] K post k_164) post [.inl (.iinc 6 1, 3), .inl (.goto (-118), 3)] 159 ls r rem st := (rfl)
theorem j_164_159 : mjmp k_164 K 159 ls r rem st = K 159 (mproj [0, 1, 2, 3, 4, 5, 6] ls) r rem st := (rfl)
theorem g_162_m118 : mstep P rt sg C J X post (.goto (-118)) 162 ls r rem st nx = J 44 ls r rem st := e_goto rfl
theorem a_164_165 {C : mCall} {K : mK} : mat P_RX6 0 sg_ k_164 [] C K post 165 ls r rem st = mblk P_RX6 0 sg_ C (mjmp k_164 K) (mexc [] K post k_164) post [.inl (.return_, 1)] 165 ls r rem st := (rfl)
theorem j_164_165 : mjmp k_164 K 165 ls r rem st = K 165 (mproj [] ls) r rem st := (rfl)
theorem a_165_0 {C : mCall} {K : mK} : mat P_RX6 0 sg_ k_165 [] C K post 0 ls r rem st = mblk P_RX6 0 sg_ C (mjmp k_165 K) (mexc [] K post k_165) post [.inl (.aload_n 0, 1), .inl (.aload_n 1, 1), .inl (.invokevirtual 347, 3), .inl (.aload_n 1, 1), .inl (.bipush 112, 2), .inl (.putfield 95, 3), .inl (.iconst 0, 1), .inl (.istore_n 2, 1)] 0 ls r rem st := (rfl)
theorem j_165_0 : mjmp k_165 K 0 ls r rem st = K 0 (mproj [0, 1] ls) r rem st := (rfl)
theorem a_165_13 {C : mCall} {K : mK} : mat P_RX6 0 sg_ k_165 [] C K post 13 ls r rem st = mblk P_RX6 0 sg_ C (mjmp k_165 K) (mexc [] K post k_165) post [.inl (.iload_n 2, 1), .inl (.aload_n 1, 1), .inl (.getfield 321, 3), .inl (.getfield 225, 3), .inl (.if_icmp .ge 20, 3), .inl (.aload_n 0, 1), .inl (.aload_n 1, 1), .inl (.iload_n 2, 1), .inl (.aload_n 1, 1), .inl (.iload_n 2, 1), .inl (.invokevirtual 405, 3), .inl (.invokevirtual 281, 3), .inl (.iinc 2 1, 3), .inl (.goto (-25), 3)] 13 ls r rem st := (rfl)
theorem j_165_13 : mjmp k_165 K 13 ls r rem st = K 13 (mproj [0, 1, 2] ls) r rem st := (rfl)
theorem cge_21_20 {a b : Int} : mstep P rt sg C J X post (.if_icmp .ge 20) 21 ls (mi b :: mi a :: r) rem st nx = ((mcmp .ge a b → J 41 ls r rem st) ∧ (¬ mcmp .ge a b → nx ls r rem st)) := e_icmp rfl
theorem v_RX6_405_9 {a1 : mV} {i : Nat} : mstep P_RX6 rt sg_ C J X post (.invokevirtual 405) pc ls (a1 :: mr 9 i :: r) rem st nx = cond (mroom r) (0 ≤ rem.1 ∧ 0 ≤ rem.2 ∧ C 78 [mr 9 i, a1] st (mck X pc ls r (rem.1 - 0, rem.2 - 0) nx)) False := (rfl)
theorem g_38_m25 : mstep P rt sg C J X post (.goto (-25)) 38 ls r rem st nx = J 13 ls r rem st := e_goto rfl
theorem a_165_41 {C : mCall} {K : mK} : mat P_RX6 0 sg_ k_165 [] C K post 41 ls r rem st = mblk P_RX6 0 sg_ C (mjmp k_165 K) (mexc [] K post k_165) post [.inl (.return_, 1)] 41 ls r rem st := (rfl)
theorem j_165_41 : mjmp k_165 K 41 ls r rem st = K 41 (mproj [] ls) r rem st := (rfl)
theorem a_166_0 {C : mCall} {K : mK} : mat P_RX6 0 sg_ k_166 [] C K post 0 ls r rem st = mblk P_RX6 0 sg_ C (mjmp k_166 K) (mexc [] K post k_166) post [.inl (.iconst 0, 1), .inl (.istore_n 1, 1), .inl (.iconst 0, 1), .inl (.istore_n 2, 1)] 0 ls r rem st := (rfl)
theorem j_166_0 : mjmp k_166 K 0 ls r rem st = K 0 (mproj [0] ls) r rem st := (rfl)
theorem a_166_4 {C : mCall} {K : mK} : mat P_RX6 0 sg_ k_166 [] C K post 4 ls r rem st = mblk P_RX6 0 sg_ C (mjmp k_166 K) (mexc [] K post k_166) post [.inl (.iload_n 2, 1), .inl (.aload_n 0, 1), .inl (.getfield 32, 3), .inl (.getfield 393, 3), .inl (.invokeinterface 73 1, 5), .inl (.if_icmp .ge 75, 3), .inl (.aload_n 0, 1), .inl (.getfield 32, 3), .inl (.iload_n 2, 1), .inl (.invokevirtual 408, 3), .inl (.istore_n 3, 1), .inl (.iload_n 3, 1), .inl (.ifCond .lt 56, 3), .inl (.iload_n 3, 1), .inl (.aload_n 0, 1), .inl (.getfield 32, 3), .inl (.getfield 393, 3), .inl (.invokeinterface 73 1, 5), .inl (.if_icmp .ge 40, 3), .inl (.aload_n 0, 1), .inl (.getfield 32, 3), .inl (.getfield 393, 3), .inl (.iload_n 3, 1), .inl (.invokeinterface 78 2, 5), .inl (.checkcast 82, 3), .inl (.astore 4, 2), .inl (.aload_n 0, 1), .inl (.aload 4, 2), .inl (.invokevirtual 290, 3), .inl (.iconst (-1), 1), .inl (.if_icmp .ne 12, 3), .inl (.aload_n 0, 1), .inl (.aload 4, 2), .inl (.invokevirtual 99, 3), .inl (.iinc 1 1, 3)] 4 ls r rem st := (rfl)
theorem j_166_4 : mjmp k_166 K 4 ls r rem st = K 4 (mproj [0, 1, 2] ls) r rem st := (rfl)
theorem cge_17_75 {a b : Int} : mstep P rt sg C J X post (.if_icmp .ge 75) 17 ls (mi b :: mi a :: r) rem st nx = ((mcmp .ge a b → J 92 ls r rem st) ∧ (¬ mcmp .ge a b → nx ls r rem st)) := e_icmp rfl
theorem v_RX6_408_17 {a1 : mV} {i : Nat} : mstep P_RX6 rt sg_ C J X post (.invokevirtual 408) pc ls (a1 :: mr 17 i :: r) rem st nx = cond (mroom r) (0 ≤ rem.1 ∧ 0 ≤ rem.2 ∧ C 94 [mr 17 i, a1] st (mck X pc ls r (rem.1 - 0, rem.2 - 0) nx)) False := (rfl)
theorem zlt_30_56 {a : Int} : mstep P rt sg C J X post (.ifCond .lt 56) 30 ls (mi a :: r) rem st nx = ((mcmp .lt a 0 → J 86 ls r rem st) ∧ (¬ mcmp .lt a 0 → nx ls r rem st)) := e_ifc rfl
theorem cge_46_40 {a b : Int} : mstep P rt sg C J X post (.if_icmp .ge 40) 46 ls (mi b :: mi a :: r) rem st nx = ((mcmp .ge a b → J 86 ls r rem st) ∧ (¬ mcmp .ge a b → nx ls r rem st)) := e_icmp rfl
theorem cne_74_12 {a b : Int} : mstep P rt sg C J X post (.if_icmp .ne 12) 74 ls (mi b :: mi a :: r) rem st nx = ((mcmp .ne a b → J 86 ls r rem st) ∧ (¬ mcmp .ne a b → nx ls r rem st)) := e_icmp rfl
theorem a_166_86 {C : mCall} {K : mK} : mat P_RX6 0 sg_ k_166 [] C K post 86 ls r rem st = mblk P_RX6 0 sg_ C (mjmp k_166 K) (mexc [] K post k_166) post [.inl (.iinc 2 1, 3), .inl (.goto (-85), 3)] 86 ls r rem st := (rfl)
theorem j_166_86 : mjmp k_166 K 86 ls r rem st = K 86 (mproj [0, 1, 2] ls) r rem st := (rfl)
theorem g_89_m85 : mstep P rt sg C J X post (.goto (-85)) 89 ls r rem st nx = J 4 ls r rem st := e_goto rfl
theorem a_166_92 {C : mCall} {K : mK} : mat P_RX6 0 sg_ k_166 [] C K post 92 ls r rem st = mblk P_RX6 0 sg_ C (mjmp k_166 K) (mexc [] K post k_166) post [.inl (.iload_n 1, 1), .inl (.ireturn, 1)] 92 ls r rem st := (rfl)
theorem j_166_92 : mjmp k_166 K 92 ls r rem st = K 92 (mproj [1] ls) r rem st := (rfl)
theorem a_167_0 {C : mCall} {K : mK} : mat P_RX6 0 sg_ k_167 [] C K post 0 ls r rem st = mblk P_RX6 0 sg_ C (mjmp k_167 K) (mexc [] K post k_167) post [.inl (.aload_n 0, 1), .inl (.iload_n 1, 1), .inl (.invokevirtual 116, 3), .inl (.astore 4, 2), .inl (.iload_n 2, 1), .inl (.ifCond .lt 15, 3), .inl (.iload_n 3, 1), .inl (.iload_n 2, 1), .inl (.if_icmp .le 10, 3), .inl (.iload_n 3, 1), .inl (.sipush 999, 3), .inl (.if_icmp .le 14, 3)] 0 ls r rem st := (rfl)
theorem j_167_0 : mjmp k_167 K 0 ls r rem st = K 0 (mproj [0, 1, 2, 3] ls) r rem st := (rfl)
theorem zlt_8_15 {a : Int} : mstep P rt sg C J X post (.ifCond .lt 15) 8 ls (mi a :: r) rem st nx = ((mcmp .lt a 0 → J 23 ls r rem st) ∧ (¬ mcmp .lt a 0 → nx ls r rem st)) := e_ifc rfl
theorem cle_13_10 {a b : Int} : mstep P rt sg C J X post (.if_icmp .le 10) 13 ls (mi b :: mi a :: r) rem st nx = ((mcmp .le a b → J 23 ls r rem st) ∧ (¬ mcmp .le a b → nx ls r rem st)) := e_icmp rfl
theorem cle_20_14 {a b : Int} : mstep P rt sg C J X post (.if_icmp .le 14) 20 ls (mi b :: mi a :: r) rem st nx = ((mcmp .le a b → J 34 ls r rem st) ∧ (¬ mcmp .le a b → nx ls r rem st)) := e_icmp rfl
theorem a_167_23 {C : mCall} {K : mK} : mat P_RX6 0 sg_ k_167 [] C K post 23 ls r rem st = mblk P_RX6 0 sg_ C (mjmp k_167 K) (mexc [] K post k_167) post [.inr (1, 46, 411, 50, [])] 23 ls r rem st := (rfl)
theorem j_167_23 : mjmp k_167 K 23 ls r rem st = K 23 (mproj [] ls) r rem st := (rfl)
theorem a_167_34 {C : mCall} {K : mK} : mat P_RX6 0 sg_ k_167 [] C K post 34 ls r rem st = mblk P_RX6 0 sg_ C (mjmp k_167 K) (mexc [] K post k_167) post [.inl (.aload 4, 2), .inl (.iload_n 2, 1), .inl (.iload_n 3, 1), .inl (.invokevirtual 413, 3), .inl (.ireturn, 1)] 34 ls r rem st := (rfl)
theorem j_167_34 : mjmp k_167 K 34 ls r rem st = K 34 (mproj [2, 3, 4] ls) r rem st := (rfl)
theorem v_RX6_413_3 {a1 a2 : mV} {i : Nat} : mstep P_RX6 rt sg_ C J X post (.invokevirtual 413) pc ls (a2 :: a1 :: mr 3 i :: r) rem st nx = cond (mroom r) (0 ≤ rem.1 ∧ 0 ≤ rem.2 ∧ C 109 [mr 3 i, a1, a2] st (mck X pc ls r (rem.1 - 0, rem.2 - 0) nx)) False := (rfl)
theorem a_168_0 {C : mCall} {K : mK} : mat P_RX6 0 sg_ k_168 [] C K post 0 ls r rem st = mblk P_RX6 0 sg_ C (mjmp k_168 K) (mexc [] K post k_168) post [.inl (.aload_n 0, 1), .inl (.aload_n 0, 1), .inl (.iload_n 1, 1), .inl (.invokevirtual 116, 3), .inl (.bipush 24, 2), .inl (.invokevirtual 416, 3), .inl (.ireturn, 1)] 0 ls r rem st := (rfl)
theorem j_168_0 : mjmp k_168 K 0 ls r rem st = K 0 (mproj [0, 1] ls) r rem st := (rfl)
theorem v_RX6_416_0 {a1 a2 : mV} {i : Nat} : mstep P_RX6 rt sg_ C J X post (.invokevirtual 416) pc ls (a2 :: a1 :: mr 0 i :: r) rem st nx = cond (mroom r) (0 ≤ rem.1 ∧ 0 ≤ rem.2 ∧ C 178 [mr 0 i, a1, a2] st (mck X pc ls r (rem.1 - 0, rem.2 - 0) nx)) False := (rfl)
theorem a_169_0 {C : mCall} {K : mK} : mat P_RX6 0 sg_ k_169 [] C K post 0 ls r rem st = mblk P_RX6 0 sg_ C (mjmp k_169 K) (mexc [] K post k_169) post [.inl (.aload_n 0, 1), .inl (.iload_n 1, 1), .inl (.invokevirtual 116, 3), .inl (.bipush 24, 2), .inl (.invokevirtual 419, 3), .inl (.ireturn, 1)] 0 ls r rem st := (rfl)
theorem j_169_0 : mjmp k_169 K 0 ls r rem st = K 0 (mproj [0, 1] ls) r rem st := (rfl)
theorem v_RX6_419_3 {a1 : mV} {i : Nat} : mstep P_RX6 rt sg_ C J X post (.invokevirtual 419) pc ls (a1 :: mr 3 i :: r) rem st nx = cond (mroom r) (0 ≤ rem.1 ∧ 0 ≤ rem.2 ∧ C 112 [mr 3 i, a1] st (mck X pc ls r (rem.1 - 0, rem.2 - 0) nx)) False := (rfl)
theorem a_170_0 {C : mCall} {K : mK} : mat P_RX6 0 sg_ k_170 [] C K post 0 ls r rem st = mblk P_RX6 0 sg_ C (mjmp k_170 K) (mexc [] K post k_170) post [.inl (.aload_n 0, 1), .inl (.aload_n 0, 1), .inl (.iload_n 1, 1), .inl (.invokevirtual 116, 3), .inl (.sipush 168, 3), .inl (.invokevirtual 416, 3), .inl (.ireturn, 1)] 0 ls r rem st := (rfl)
theorem j_170_0 : mjmp k_170 K 0 ls r rem st = K 0 (mproj [0, 1] ls) r rem st := (rfl)
theorem a_171_0 {C : mCall} {K : mK} : mat P_RX6 0 sg_ k_171 [] C K post 0 ls r rem st = mblk P_RX6 0 sg_ C (mjmp k_171 K) (mexc [] K post k_171) post [.inl (.aload_n 0, 1), .inl (.iload_n 1, 1), .inl (.invokevirtual 116, 3), .inl (.sipush 168, 3), .inl (.invokevirtual 419, 3), .inl (.ireturn, 1)] 0 ls r rem st := (rfl)
theorem j_171_0 : mjmp k_171 K 0 ls r rem st = K 0 (mproj [0, 1] ls) r rem st := (rfl)
theorem a_172_0 {C : mCall} {K : mK} : mat P_RX6 0 sg_ k_172 [] C K post 0 ls r rem st = mblk P_RX6 0 sg_ C (mjmp k_172 K) (mexc [] K post k_172) post [.inl (.aload_n 0, 1), .inl (.iload_n 1, 1), .inl (.invokevirtual 116, 3), .inl (.astore_n 3, 1), .inl (.iload_n 2, 1), .inl (.invokestatic 239, 3), .inl (.aload_n 0, 1), .inl (.getfield 36, 3), .inl (.iconst 1, 1), .inl (.iadd, 1), .inl (.istore 4, 2)] 0 ls r rem st := (rfl)
theorem j_172_0 : mjmp k_172 K 0 ls r rem st = K 0 (mproj [0, 1, 2] ls) r rem st := (rfl)
theorem a_172_18 {C : mCall} {K : mK} : mat P_RX6 0 sg_ k_172 [] C K post 18 ls r rem st = mblk P_RX6 0 sg_ C (mjmp k_172 K) (mexc [] K post k_172) post [.inl (.iload 4, 2), .inl (.iload_n 2, 1), .inl (.iadd, 1), .inl (.sipush 999, 3), .inl (.if_icmp .gt 27, 3), .inl (.aload_n 0, 1), .inl (.aload_n 3, 1), .inl (.iload 4, 2), .inl (.iload 4, 2), .inl (.iload_n 2, 1), .inl (.iadd, 1), .inl (.iconst 0, 1), .inl (.invokevirtual 364, 3), .inl (.ifCond .ne 6, 3), .inl (.iload 4, 2), .inl (.ireturn, 1)] 18 ls r rem st := (rfl)
theorem j_172_18 : mjmp k_172 K 18 ls r rem st = K 18 (mproj [0, 2, 3, 4] ls) r rem st := (rfl)
theorem cgt_25_27 {a b : Int} : mstep P rt sg C J X post (.if_icmp .gt 27) 25 ls (mi b :: mi a :: r) rem st nx = ((mcmp .gt a b → J 52 ls r rem st) ∧ (¬ mcmp .gt a b → nx ls r rem st)) := e_icmp rfl
theorem zne_40_6 {a : Int} : mstep P rt sg C J X post (.ifCond .ne 6) 40 ls (mi a :: r) rem st nx = ((mcmp .ne a 0 → J 46 ls r rem st) ∧ (¬ mcmp .ne a 0 → nx ls r rem st)) := e_ifc rfl
theorem a_172_46 {C : mCall} {K : mK} : mat P_RX6 0 sg_ k_172 [] C K post 46 ls r rem st = mblk P_RX6 0 sg_ C (mjmp k_172 K) (mexc [] K post k_172) post [.inl (.iinc 4 1, 3), .inl (.goto (-31), 3)] 46 ls r rem st := (rfl)
theorem j_172_46 : mjmp k_172 K 46 ls r rem st = K 46 (mproj [0, 2, 3, 4] ls) r rem st := (rfl)
theorem g_49_m31 : mstep P rt sg C J X post (.goto (-31)) 49 ls r rem st nx = J 18 ls r rem st := e_goto rfl
theorem a_172_52 {C : mCall} {K : mK} : mat P_RX6 0 sg_ k_172 [] C K post 52 ls r rem st = mblk P_RX6 0 sg_ C (mjmp k_172 K) (mexc [] K post k_172) post [.inr (1, 211, 422, 215, [])] 52 ls r rem st := (rfl)
theorem j_172_52 : mjmp k_172 K 52 ls r rem st = K 52 (mproj [] ls) r rem st := (rfl)
theorem a_173_0 {C : mCall} {K : mK} : mat P_RX6 0 sg_ k_173 [] C K post 0 ls r rem st = mblk P_RX6 0 sg_ C (mjmp k_173 K) (mexc [] K post k_173) post [.inl (.aload_n 0, 1), .inl (.iload_n 1, 1), .inl (.invokevirtual 116, 3), .inl (.astore_n 2, 1), .inl (.aload_n 0, 1), .inl (.getfield 36, 3), .inl (.ifCond .ne 14, 3), .inr (1, 424, 426, 428, [])] 0 ls r rem st := (rfl)
theorem j_173_0 : mjmp k_173 K 0 ls r rem st = K 0 (mproj [0, 1] ls) r rem st := (rfl)
theorem zne_10_14 {a : Int} : mstep P rt sg C J X post (.ifCond .ne 14) 10 ls (mi a :: r) rem st nx = ((mcmp .ne a 0 → J 24 ls r rem st) ∧ (¬ mcmp .ne a 0 → nx ls r rem st)) := e_ifc rfl
theorem th_RX6_424_1 {is ic : Nat} {lo : List (Instr × Nat)} : mblk P_RX6 rt sg C J X post (.inr (1, 424, is, ic, lo) :: l) pc ls [] rem st = ((1 ≤ rem.1 ∧ 6 ≤ rem.2) ∧ post (.inr 6) st) := (rfl)
theorem a_173_24 {C : mCall} {K : mK} : mat P_RX6 0 sg_ k_173 [] C K post 24 ls r rem st = mblk P_RX6 0 sg_ C (mjmp k_173 K) (mexc [] K post k_173) post [.inl (.aload_n 2, 1), .inl (.iconst 0, 1), .inl (.aload_n 0, 1), .inl (.getfield 36, 3), .inl (.invokevirtual 413, 3), .inl (.i2f, 1), .inl (.aload_n 0, 1), .inl (.getfield 36, 3), .inl (.i2f, 1), .inl (.fdiv, 1), .inl (.freturn, 1)] 24 ls r rem st := (rfl)
theorem j_173_24 : mjmp k_173 K 24 ls r rem st = K 24 (mproj [0, 2] ls) r rem st := (rfl)
theorem a_174_0 {C : mCall} {K : mK} : mat P_RX6 0 sg_ k_174 [] C K post 0 ls r rem st = mblk P_RX6 0 sg_ C (mjmp k_174 K) (mexc [] K post k_174) post [.inl (.aload_n 0, 1), .inl (.getfield 10, 3), .inl (.invokeinterface 73 1, 5), .inl (.istore_n 1, 1), .inl (.iload_n 1, 1), .inl (.ifCond .ne 14, 3), .inr (1, 424, 429, 428, [])] 0 ls r rem st := (rfl)
theorem j_174_0 : mjmp k_174 K 0 ls r rem st = K 0 (mproj [0] ls) r rem st := (rfl)
theorem zne_11_14 {a : Int} : mstep P rt sg C J X post (.ifCond .ne 14) 11 ls (mi a :: r) rem st nx = ((mcmp .ne a 0 → J 25 ls r rem st) ∧ (¬ mcmp .ne a 0 → nx ls r rem st)) := e_ifc rfl
theorem a_174_25 {C : mCall} {K : mK} : mat P_RX6 0 sg_ k_174 [] C K post 25 ls r rem st = mblk P_RX6 0 sg_ C (mjmp k_174 K) (mexc [] K post k_174) post [.inl (.iconst 0, 1), .inl (.istore_n 2, 1), .inl (.iconst 0, 1), .inl (.istore_n 3, 1)] 25 ls r rem st := (rfl)
theorem j_174_25 : mjmp k_174 K 25 ls r rem st = K 25 (mproj [0, 1] ls) r rem st := (rfl)
theorem a_174_29 {C : mCall} {K : mK} : mat P_RX6 0 sg_ k_174 [] C K post 29 ls r rem st = mblk P_RX6 0 sg_ C (mjmp k_174 K) (mexc [] K post k_174) post [.inl (.iload_n 3, 1), .inl (.aload_n 0, 1), .inl (.getfield 10, 3), .inl (.invokeinterface 73 1, 5), .inl (.if_icmp .ge 32, 3), .inl (.iload_n 2, 1), .inl (.aload_n 0, 1), .inl (.getfield 10, 3), .inl (.iload_n 3, 1), .inl (.invokeinterface 78 2, 5), .inl (.checkcast 103, 3), .inl (.iconst 0, 1), .inl (.sipush 1000, 3), .inl (.invokevirtual 413, 3), .inl (.iadd, 1), .inl (.istore_n 2, 1), .inl (.iinc 3 1, 3), .inl (.goto (-39), 3)] 29 ls r rem st := (rfl)
theorem j_174_29 : mjmp k_174 K 29 ls r rem st = K 29 (mproj [0, 1, 2, 3] ls) r rem st := (rfl)
theorem cge_39_32 {a b : Int} : mstep P rt sg C J X post (.if_icmp .ge 32) 39 ls (mi b :: mi a :: r) rem st nx = ((mcmp .ge a b → J 71 ls r rem st) ∧ (¬ mcmp .ge a b → nx ls r rem st)) := e_icmp rfl
theorem g_68_m39 : mstep P rt sg C J X post (.goto (-39)) 68 ls r rem st nx = J 29 ls r rem st := e_goto rfl
theorem a_174_71 {C : mCall} {K : mK} : mat P_RX6 0 sg_ k_174 [] C K post 71 ls r rem st = mblk P_RX6 0 sg_ C (mjmp k_174 K) (mexc [] K post k_174) post [.inl (.iload_n 2, 1), .inl (.i2d, 1), .inl (.iload_n 1, 1), .inl (.i2d, 1), .inl (.ddiv, 1), .inl (.dreturn, 1)] 71 ls r rem st := (rfl)
theorem j_174_71 : mjmp k_174 K 71 ls r rem st = K 71 (mproj [1, 2] ls) r rem st := (rfl)
theorem a_175_0 {C : mCall} {K : mK} : mat P_RX6 1 sg_ k_175 [] C K post 0 ls r rem st = mblk P_RX6 1 sg_ C (mjmp k_175 K) (mexc [] K post k_175) post [.inl (.iconst 0, 1), .inl (.istore_n 1, 1)] 0 ls r rem st := (rfl)
theorem j_175_0 : mjmp k_175 K 0 ls r rem st = K 0 (mproj [0] ls) r rem st := (rfl)
theorem a_175_2 {C : mCall} {K : mK} : mat P_RX6 1 sg_ k_175 [] C K post 2 ls r rem st = mblk P_RX6 1 sg_ C (mjmp k_175 K) (mexc [] K post k_175) post [.inl (.iload_n 1, 1), .inl (.aload_n 0, 1), .inl (.getfield 19, 3), .inl (.invokeinterface 73 1, 5), .inl (.if_icmp .ge 59, 3), .inl (.aload_n 0, 1), .inl (.getfield 19, 3), .inl (.iload_n 1, 1), .inl (.invokeinterface 78 2, 5), .inl (.checkcast 82, 3), .inl (.astore_n 2, 1), .inl (.aload_n 2, 1), .inl (.getfield 95, 3), .inl (.bipush 115, 2), .inl (.if_icmp .ne 19, 3), .inl (.aload_n 2, 1), .inl (.invokevirtual 287, 3), .inl (.aload_n 2, 1), .inl (.getfield 321, 3), .inl (.getfield 225, 3), .inl (.if_icmp .ge 5, 3), .inl (.iconst 0, 1), .inl (.ireturn, 1)] 2 ls r rem st := (rfl)
theorem j_175_2 : mjmp k_175 K 2 ls r rem st = K 2 (mproj [0, 1] ls) r rem st := (rfl)
theorem cge_12_59 {a b : Int} : mstep P rt sg C J X post (.if_icmp .ge 59) 12 ls (mi b :: mi a :: r) rem st nx = ((mcmp .ge a b → J 71 ls r rem st) ∧ (¬ mcmp .ge a b → nx ls r rem st)) := e_icmp rfl
theorem cne_35_19 {a b : Int} : mstep P rt sg C J X post (.if_icmp .ne 19) 35 ls (mi b :: mi a :: r) rem st nx = ((mcmp .ne a b → J 54 ls r rem st) ∧ (¬ mcmp .ne a b → nx ls r rem st)) := e_icmp rfl
theorem cge_49_5 {a b : Int} : mstep P rt sg C J X post (.if_icmp .ge 5) 49 ls (mi b :: mi a :: r) rem st nx = ((mcmp .ge a b → J 54 ls r rem st) ∧ (¬ mcmp .ge a b → nx ls r rem st)) := e_icmp rfl
theorem a_175_54 {C : mCall} {K : mK} : mat P_RX6 1 sg_ k_175 [] C K post 54 ls r rem st = mblk P_RX6 1 sg_ C (mjmp k_175 K) (mexc [] K post k_175) post [.inl (.aload_n 0, 1), .inl (.iload_n 1, 1), .inl (.aload_n 2, 1), .inl (.invokevirtual 431, 3), .inl (.ifCond .eq 5, 3), .inl (.iconst 0, 1), .inl (.ireturn, 1)] 54 ls r rem st := (rfl)
theorem j_175_54 : mjmp k_175 K 54 ls r rem st = K 54 (mproj [0, 1, 2] ls) r rem st := (rfl)
theorem v_RX6_431_0 {a1 a2 : mV} {i : Nat} : mstep P_RX6 rt sg_ C J X post (.invokevirtual 431) pc ls (a2 :: a1 :: mr 0 i :: r) rem st nx = cond (mroom r) (0 ≤ rem.1 ∧ 0 ≤ rem.2 ∧ C 176 [mr 0 i, a1, a2] st (mck X pc ls r (rem.1 - 0, rem.2 - 0) nx)) False := (rfl)
theorem a_175_65 {C : mCall} {K : mK} : mat P_RX6 1 sg_ k_175 [] C K post 65 ls r rem st = mblk P_RX6 1 sg_ C (mjmp k_175 K) (mexc [] K post k_175) post [.inl (.iinc 1 1, 3), .inl (.goto (-66), 3)] 65 ls r rem st := (rfl)
theorem j_175_65 : mjmp k_175 K 65 ls r rem st = K 65 (mproj [0, 1] ls) r rem st := (rfl)
theorem g_68_m66 : mstep P rt sg C J X post (.goto (-66)) 68 ls r rem st nx = J 2 ls r rem st := e_goto rfl
theorem a_175_71 {C : mCall} {K : mK} : mat P_RX6 1 sg_ k_175 [] C K post 71 ls r rem st = mblk P_RX6 1 sg_ C (mjmp k_175 K) (mexc [] K post k_175) post [.inl (.aload_n 0, 1), .inl (.invokevirtual 435, 3), .inl (.ireturn, 1)] 71 ls r rem st := (rfl)
theorem j_175_71 : mjmp k_175 K 71 ls r rem st = K 71 (mproj [0] ls) r rem st := (rfl)
theorem v_RX6_435_0  {i : Nat} : mstep P_RX6 rt sg_ C J X post (.invokevirtual 435) pc ls (mr 0 i :: r) rem st nx = cond (mroom r) (0 ≤ rem.1 ∧ 0 ≤ rem.2 ∧ C 177 [mr 0 i] st (mck X pc ls r (rem.1 - 0, rem.2 - 0) nx)) False := (rfl)
theorem a_176_0 {C : mCall} {K : mK} : mat P_RX6 1 sg_ k_176 [] C K post 0 ls r rem st = mblk P_RX6 1 sg_ C (mjmp k_176 K) (mexc [] K post k_176) post [.inl (.iload_n 1, 1), .inl (.iconst 1, 1), .inl (.iadd, 1), .inl (.istore_n 3, 1)] 0 ls r rem st := (rfl)
theorem j_176_0 : mjmp k_176 K 0 ls r rem st = K 0 (mproj [0, 1, 2] ls) r rem st := (rfl)
theorem a_176_4 {C : mCall} {K : mK} : mat P_RX6 1 sg_ k_176 [] C K post 4 ls r rem st = mblk P_RX6 1 sg_ C (mjmp k_176 K) (mexc [] K post k_176) post [.inl (.iload_n 3, 1), .inl (.aload_n 0, 1), .inl (.getfield 19, 3), .inl (.invokeinterface 73 1, 5), .inl (.if_icmp .ge 52, 3), .inl (.aload_n 0, 1), .inl (.getfield 19, 3), .inl (.iload_n 3, 1), .inl (.invokeinterface 78 2, 5), .inl (.checkcast 82, 3), .inl (.astore 4, 2), .inl (.aload_n 2, 1), .inl (.aload 4, 2), .inl (.getfield 88, 3), .inl (.aload 4, 2), .inl (.getfield 338, 3), .inl (.invokevirtual 331, 3), .inl (.ifCond .le 14, 3), .inl (.aload_n 2, 1), .inl (.aload 4, 2), .inl (.invokevirtual 438, 3), .inl (.ifCond .eq 5, 3), .inl (.iconst 1, 1), .inl (.ireturn, 1)] 4 ls r rem st := (rfl)
theorem j_176_4 : mjmp k_176 K 4 ls r rem st = K 4 (mproj [0, 2, 3] ls) r rem st := (rfl)
theorem cge_14_52 {a b : Int} : mstep P rt sg C J X post (.if_icmp .ge 52) 14 ls (mi b :: mi a :: r) rem st nx = ((mcmp .ge a b → J 66 ls r rem st) ∧ (¬ mcmp .ge a b → nx ls r rem st)) := e_icmp rfl
theorem zle_46_14 {a : Int} : mstep P rt sg C J X post (.ifCond .le 14) 46 ls (mi a :: r) rem st nx = ((mcmp .le a 0 → J 60 ls r rem st) ∧ (¬ mcmp .le a 0 → nx ls r rem st)) := e_ifc rfl
theorem v_RX6_438_9 {a1 : mV} {i : Nat} : mstep P_RX6 rt sg_ C J X post (.invokevirtual 438) pc ls (a1 :: mr 9 i :: r) rem st nx = cond (mroom r) (0 ≤ rem.1 ∧ 0 ≤ rem.2 ∧ C 81 [mr 9 i, a1] st (mck X pc ls r (rem.1 - 0, rem.2 - 0) nx)) False := (rfl)
theorem zeq_55_5 {a : Int} : mstep P rt sg C J X post (.ifCond .eq 5) 55 ls (mi a :: r) rem st nx = ((mcmp .eq a 0 → J 60 ls r rem st) ∧ (¬ mcmp .eq a 0 → nx ls r rem st)) := e_ifc rfl
theorem a_176_60 {C : mCall} {K : mK} : mat P_RX6 1 sg_ k_176 [] C K post 60 ls r rem st = mblk P_RX6 1 sg_ C (mjmp k_176 K) (mexc [] K post k_176) post [.inl (.iinc 3 1, 3), .inl (.goto (-59), 3)] 60 ls r rem st := (rfl)
theorem j_176_60 : mjmp k_176 K 60 ls r rem st = K 60 (mproj [0, 2, 3] ls) r rem st := (rfl)
theorem g_63_m59 : mstep P rt sg C J X post (.goto (-59)) 63 ls r rem st nx = J 4 ls r rem st := e_goto rfl
theorem a_176_66 {C : mCall} {K : mK} : mat P_RX6 1 sg_ k_176 [] C K post 66 ls r rem st = mblk P_RX6 1 sg_ C (mjmp k_176 K) (mexc [] K post k_176) post [.inl (.iconst 0, 1), .inl (.ireturn, 1)] 66 ls r rem st := (rfl)
theorem j_176_66 : mjmp k_176 K 66 ls r rem st = K 66 (mproj [] ls) r rem st := (rfl)
theorem a_177_0 {C : mCall} {K : mK} : mat P_RX6 1 sg_ k_177 [] C K post 0 ls r rem st = mblk P_RX6 1 sg_ C (mjmp k_177 K) (mexc [] K post k_177) post [.inl (.iconst 0, 1), .inl (.istore_n 1, 1)] 0 ls r rem st := (rfl)
theorem j_177_0 : mjmp k_177 K 0 ls r rem st = K 0 (mproj [0] ls) r rem st := (rfl)
theorem a_177_2 {C : mCall} {K : mK} : mat P_RX6 1 sg_ k_177 [] C K post 2 ls r rem st = mblk P_RX6 1 sg_ C (mjmp k_177 K) (mexc [] K post k_177) post [.inl (.iload_n 1, 1), .inl (.aload_n 0, 1), .inl (.getfield 10, 3), .inl (.invokeinterface 73 1, 5), .inl (.if_icmp .ge 59, 3), .inl (.aload_n 0, 1), .inl (.getfield 10, 3), .inl (.iload_n 1, 1), .inl (.invokeinterface 78 2, 5), .inl (.checkcast 103, 3), .inl (.astore_n 2, 1), .inl (.aload_n 0, 1), .inl (.aload_n 2, 1), .inl (.bipush 24, 2), .inl (.invokevirtual 416, 3), .inl (.aload_n 2, 1), .inl (.bipush 24, 2), .inl (.invokevirtual 419, 3), .inl (.if_icmp .ne 21, 3), .inl (.aload_n 0, 1), .inl (.aload_n 2, 1), .inl (.sipush 168, 3), .inl (.invokevirtual 416, 3), .inl (.aload_n 2, 1), .inl (.sipush 168, 3), .inl (.invokevirtual 419, 3), .inl (.if_icmp .eq 5, 3)] 2 ls r rem st := (rfl)
theorem j_177_2 : mjmp k_177 K 2 ls r rem st = K 2 (mproj [0, 1] ls) r rem st := (rfl)
theorem cne_42_21 {a b : Int} : mstep P rt sg C J X post (.if_icmp .ne 21) 42 ls (mi b :: mi a :: r) rem st nx = ((mcmp .ne a b → J 63 ls r rem st) ∧ (¬ mcmp .ne a b → nx ls r rem st)) := e_icmp rfl
theorem ceq_60_5 {a b : Int} : mstep P rt sg C J X post (.if_icmp .eq 5) 60 ls (mi b :: mi a :: r) rem st nx = ((mcmp .eq a b → J 65 ls r rem st) ∧ (¬ mcmp .eq a b → nx ls r rem st)) := e_icmp rfl
theorem a_177_63 {C : mCall} {K : mK} : mat P_RX6 1 sg_ k_177 [] C K post 63 ls r rem st = mblk P_RX6 1 sg_ C (mjmp k_177 K) (mexc [] K post k_177) post [.inl (.iconst 0, 1), .inl (.ireturn, 1)] 63 ls r rem st := (rfl)
theorem j_177_63 : mjmp k_177 K 63 ls r rem st = K 63 (mproj [] ls) r rem st := (rfl)
theorem a_177_65 {C : mCall} {K : mK} : mat P_RX6 1 sg_ k_177 [] C K post 65 ls r rem st = mblk P_RX6 1 sg_ C (mjmp k_177 K) (mexc [] K post k_177) post [.inl (.iinc 1 1, 3), .inl (.goto (-66), 3)] 65 ls r rem st := (rfl)
theorem j_177_65 : mjmp k_177 K 65 ls r rem st = K 65 (mproj [0, 1] ls) r rem st := (rfl)
theorem a_177_71 {C : mCall} {K : mK} : mat P_RX6 1 sg_ k_177 [] C K post 71 ls r rem st = mblk P_RX6 1 sg_ C (mjmp k_177 K) (mexc [] K post k_177) post [.inl (.iconst 1, 1), .inl (.ireturn, 1)] 71 ls r rem st := (rfl)
theorem j_177_71 : mjmp k_177 K 71 ls r rem st = K 71 (mproj [] ls) r rem st := (rfl)
theorem a_178_0 {C : mCall} {K : mK} : mat P_RX6 0 sg_ k_178 [] C K post 0 ls r rem st = mblk P_RX6 0 sg_ C (mjmp k_178 K) (mexc [] K post k_178) post [.inl (.iconst 0, 1), .inl (.istore_n 3, 1), .inl (.iconst 0, 1), .inl (.istore 4, 2)] 0 ls r rem st := (rfl)
theorem j_178_0 : mjmp k_178 K 0 ls r rem st = K 0 (mproj [0, 1, 2] ls) r rem st := (rfl)
theorem a_178_5 {C : mCall} {K : mK} : mat P_RX6 0 sg_ k_178 [] C K post 5 ls r rem st = mblk P_RX6 0 sg_ C (mjmp k_178 K) (mexc [] K post k_178) post [.inl (.iload 4, 2), .inl (.aload_n 0, 1), .inl (.getfield 19, 3), .inl (.invokeinterface 73 1, 5), .inl (.if_icmp .ge 87, 3), .inl (.aload_n 0, 1), .inl (.getfield 19, 3), .inl (.iload 4, 2), .inl (.invokeinterface 78 2, 5), .inl (.checkcast 82, 3), .inl (.astore 5, 2), .inl (.aload 5, 2), .inl (.aload_n 1, 1), .inl (.getfield 361, 3), .inl (.invokevirtual 156, 3), .inl (.ifCond .eq 53, 3), .inl (.aload_n 0, 1), .inl (.aload_n 1, 1), .inl (.aload 5, 2), .inl (.getfield 88, 3), .inl (.aload 5, 2), .inl (.getfield 88, 3), .inl (.iload_n 2, 1), .inl (.iadd, 1), .inl (.invokevirtual 441, 3), .inl (.istore 6, 2), .inl (.aload_n 0, 1), .inl (.aload_n 1, 1), .inl (.aload 5, 2), .inl (.getfield 338, 3), .inl (.iload_n 2, 1), .inl (.isub, 1), .inl (.aload 5, 2), .inl (.getfield 338, 3), .inl (.invokevirtual 441, 3), .inl (.istore 7, 2), .inl (.iload_n 3, 1), .inl (.iload 6, 2), .inl (.iload 7, 2), .inl (.invokestatic 445, 3), .inl (.invokestatic 445, 3), .inl (.istore_n 3, 1)] 5 ls r rem st := (rfl)
theorem j_178_5 : mjmp k_178 K 5 ls r rem st = K 5 (mproj [0, 1, 2, 3, 4] ls) r rem st := (rfl)
theorem cge_16_87 {a b : Int} : mstep P rt sg C J X post (.if_icmp .ge 87) 16 ls (mi b :: mi a :: r) rem st nx = ((mcmp .ge a b → J 103 ls r rem st) ∧ (¬ mcmp .ge a b → nx ls r rem st)) := e_icmp rfl
theorem zeq_44_53 {a : Int} : mstep P rt sg C J X post (.ifCond .eq 53) 44 ls (mi a :: r) rem st nx = ((mcmp .eq a 0 → J 97 ls r rem st) ∧ (¬ mcmp .eq a 0 → nx ls r rem st)) := e_ifc rfl
theorem v_RX6_441_0 {a1 a2 a3 : mV} {i : Nat} : mstep P_RX6 rt sg_ C J X post (.invokevirtual 441) pc ls (a3 :: a2 :: a1 :: mr 0 i :: r) rem st nx = cond (mroom r) (0 ≤ rem.1 ∧ 0 ≤ rem.2 ∧ C 179 [mr 0 i, a1, a2, a3] st (mck X pc ls r (rem.1 - 0, rem.2 - 0) nx)) False := (rfl)
theorem m_RX6_445 {a b : Int} (hr : mroom r = true) : mstep P_RX6 rt sg C J X post (.invokestatic 445) pc ls (mi b :: mi a :: r) rem st nx = nx ls (mi (max a b) :: r) rem st := e_max rfl hr
theorem a_178_97 {C : mCall} {K : mK} : mat P_RX6 0 sg_ k_178 [] C K post 97 ls r rem st = mblk P_RX6 0 sg_ C (mjmp k_178 K) (mexc [] K post k_178) post [.inl (.iinc 4 1, 3), .inl (.goto (-95), 3)] 97 ls r rem st := (rfl)
theorem j_178_97 : mjmp k_178 K 97 ls r rem st = K 97 (mproj [0, 1, 2, 3, 4] ls) r rem st := (rfl)
theorem g_100_m95 : mstep P rt sg C J X post (.goto (-95)) 100 ls r rem st nx = J 5 ls r rem st := e_goto rfl
theorem a_178_103 {C : mCall} {K : mK} : mat P_RX6 0 sg_ k_178 [] C K post 103 ls r rem st = mblk P_RX6 0 sg_ C (mjmp k_178 K) (mexc [] K post k_178) post [.inl (.iload_n 3, 1), .inl (.ireturn, 1)] 103 ls r rem st := (rfl)
theorem j_178_103 : mjmp k_178 K 103 ls r rem st = K 103 (mproj [3] ls) r rem st := (rfl)
theorem a_179_0 {C : mCall} {K : mK} : mat P_RX6 0 sg_ k_179 [] C K post 0 ls r rem st = mblk P_RX6 0 sg_ C (mjmp k_179 K) (mexc [] K post k_179) post [.inl (.iconst 0, 1), .inl (.istore 4, 2), .inl (.iconst 0, 1), .inl (.istore 5, 2)] 0 ls r rem st := (rfl)
theorem j_179_0 : mjmp k_179 K 0 ls r rem st = K 0 (mproj [0, 1, 2, 3] ls) r rem st := (rfl)
theorem a_179_6 {C : mCall} {K : mK} : mat P_RX6 0 sg_ k_179 [] C K post 6 ls r rem st = mblk P_RX6 0 sg_ C (mjmp k_179 K) (mexc [] K post k_179) post [.inl (.iload 5, 2), .inl (.aload_n 0, 1), .inl (.getfield 19, 3), .inl (.invokeinterface 73 1, 5), .inl (.if_icmp .ge 49, 3), .inl (.aload_n 0, 1), .inl (.getfield 19, 3), .inl (.iload 5, 2), .inl (.invokeinterface 78 2, 5), .inl (.checkcast 82, 3), .inl (.astore 6, 2), .inl (.aload 6, 2), .inl (.aload_n 1, 1), .inl (.getfield 361, 3), .inl (.invokevirtual 156, 3), .inl (.ifCond .eq 15, 3), .inl (.iload 4, 2), .inl (.aload 6, 2), .inl (.iload_n 2, 1), .inl (.iload_n 3, 1), .inl (.invokevirtual 331, 3), .inl (.iadd, 1), .inl (.istore 4, 2)] 6 ls r rem st := (rfl)
theorem j_179_6 : mjmp k_179 K 6 ls r rem st = K 6 (mproj [0, 1, 2, 3, 4, 5] ls) r rem st := (rfl)
theorem cge_17_49 {a b : Int} : mstep P rt sg C J X post (.if_icmp .ge 49) 17 ls (mi b :: mi a :: r) rem st nx = ((mcmp .ge a b → J 66 ls r rem st) ∧ (¬ mcmp .ge a b → nx ls r rem st)) := e_icmp rfl
theorem zeq_45_15 {a : Int} : mstep P rt sg C J X post (.ifCond .eq 15) 45 ls (mi a :: r) rem st nx = ((mcmp .eq a 0 → J 60 ls r rem st) ∧ (¬ mcmp .eq a 0 → nx ls r rem st)) := e_ifc rfl
theorem a_179_60 {C : mCall} {K : mK} : mat P_RX6 0 sg_ k_179 [] C K post 60 ls r rem st = mblk P_RX6 0 sg_ C (mjmp k_179 K) (mexc [] K post k_179) post [.inl (.iinc 5 1, 3), .inl (.goto (-57), 3)] 60 ls r rem st := (rfl)
theorem j_179_60 : mjmp k_179 K 60 ls r rem st = K 60 (mproj [0, 1, 2, 3, 4, 5] ls) r rem st := (rfl)
theorem g_63_m57 : mstep P rt sg C J X post (.goto (-57)) 63 ls r rem st nx = J 6 ls r rem st := e_goto rfl
theorem a_179_66 {C : mCall} {K : mK} : mat P_RX6 0 sg_ k_179 [] C K post 66 ls r rem st = mblk P_RX6 0 sg_ C (mjmp k_179 K) (mexc [] K post k_179) post [.inl (.iload 4, 2), .inl (.ireturn, 1)] 66 ls r rem st := (rfl)
theorem j_179_66 : mjmp k_179 K 66 ls r rem st = K 66 (mproj [4] ls) r rem st := (rfl)
theorem a_180_0 {C : mCall} {K : mK} : mat P_RJ13 0 sg_ k_180 [] C K post 0 ls r rem st = mblk P_RJ13 0 sg_ C (mjmp k_180 K) (mexc [] K post k_180) post [.inl (.lload_n 0, 1), .inl (.lload_n 0, 1), .inl (.iconst 1, 1), .inl (.lushr, 1), .inl (.ldc2_w 314, 3), .inl (.land, 1), .inl (.lsub, 1), .inl (.lstore_n 0, 1), .inl (.lload_n 0, 1), .inl (.ldc2_w 316, 3), .inl (.land, 1), .inl (.lload_n 0, 1), .inl (.iconst 2, 1), .inl (.lushr, 1), .inl (.ldc2_w 316, 3), .inl (.land, 1), .inl (.ladd, 1), .inl (.lstore_n 0, 1), .inl (.lload_n 0, 1), .inl (.lload_n 0, 1), .inl (.iconst 4, 1), .inl (.lushr, 1), .inl (.ladd, 1), .inl (.ldc2_w 318, 3), .inl (.land, 1), .inl (.lstore_n 0, 1), .inl (.lload_n 0, 1), .inl (.lload_n 0, 1), .inl (.bipush 8, 2), .inl (.lushr, 1), .inl (.ladd, 1), .inl (.lstore_n 0, 1), .inl (.lload_n 0, 1), .inl (.lload_n 0, 1), .inl (.bipush 16, 2), .inl (.lushr, 1), .inl (.ladd, 1), .inl (.lstore_n 0, 1), .inl (.lload_n 0, 1), .inl (.lload_n 0, 1), .inl (.bipush 32, 2), .inl (.lushr, 1), .inl (.ladd, 1), .inl (.lstore_n 0, 1), .inl (.lload_n 0, 1), .inl (.l2i, 1), .inl (.bipush 127, 2), .inl (.iand, 1), .inl (.ireturn, 1)] 0 ls r rem st := (rfl)
theorem j_180_0 : mjmp k_180 K 0 ls r rem st = K 0 (mproj [0] ls) r rem st := (rfl)
end Runs_
