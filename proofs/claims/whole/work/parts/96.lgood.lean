/-! THE LAW: its calls, all together -/
def hhL_ : List (Nat × List (Nat × Nat × Nat × Nat)) := [(201, hh_201), (202, hh_202), (203, hh_203), (204, hh_204), (205, hh_205), (206, hh_206), (207, hh_207), (208, hh_208), (209, hh_209), (210, hh_210), (211, hh_211), (212, hh_212), (213, hh_213), (214, hh_214), (215, hh_215), (216, hh_216), (217, hh_217), (218, hh_218), (219, hh_219), (220, hh_220), (221, hh_221), (222, hh_222), (223, hh_223), (224, hh_224), (225, hh_225), (226, hh_226), (227, hh_227), (228, hh_228), (229, hh_229), (230, hh_230), (231, hh_231), (232, hh_232), (233, hh_233)]
def hhL (y : Nat) : List (Nat × Nat × Nat × Nat) := match lookC hhL_ y with
  | some h => h
  | none => []
def CLm (E : mEnv) (l : Launch) : mCall := fun y vs st post => match lookC wL_ y with
  | some z => mMetH E mS_ l z.1 (hhL y) 31 vs st post
  | none => CCm E mS_ l M_ 31 y vs st post
theorem wL_201 {y : Nat} {z : mMeth × mCode × mHd} (h : lookC wL_ y = some z) : 201 ≤ y ∧ y < 400 ∧ sgL_ y = (qN z.1, qC z.1, qT z.1, qI z.1) := by
  have k := List.all_eq_true.mp ws_RL _ (lookC_mem h)
  simp only [Bool.and_eq_true] at k
  exact ⟨Nat.le_of_ble_eq_true k.1.1, blt1 k.1.2, of_decide_eq_true k.2⟩
theorem wL_no {y : Nat} (h : y < 201) : lookC wL_ y = none := by
  cases e : lookC wL_ y with
  | none => rfl
  | some z => have := (wL_201 e).1; omega
theorem M_200 {y : Nat} {q : mMeth} (h : M_ y = some q) : y < 201 := blt1 (List.all_eq_true.mp mz_RL _ (lookC_mem h))
theorem sgL_no {y : Nat} (h : y < 201) : sgL_ y = sg_ y := by
  unfold sgL_
  cases e : lookC sLL_ y with
  | none => rfl
  | some z =>
    have := Nat.le_of_ble_eq_true (List.all_eq_true.mp sz_RL _ (lookC_mem e))
    dsimp only at this
    omega
theorem lk_mem {y : Nat} {z : mMeth × mCode × mHd} (h : lookC wL_ y = some z) : (y = 201 ∧ z = (q_201, k_201, hd_201)) ∨ (y = 202 ∧ z = (q_202, k_202, hd_202)) ∨ (y = 203 ∧ z = (q_203, k_203, hd_203)) ∨ (y = 204 ∧ z = (q_204, k_204, hd_204)) ∨ (y = 205 ∧ z = (q_205, k_205, hd_205)) ∨ (y = 206 ∧ z = (q_206, k_206, hd_206)) ∨ (y = 207 ∧ z = (q_207, k_207, hd_207)) ∨ (y = 208 ∧ z = (q_208, k_208, hd_208)) ∨ (y = 209 ∧ z = (q_209, k_209, hd_209)) ∨ (y = 210 ∧ z = (q_210, k_210, hd_210)) ∨ (y = 211 ∧ z = (q_211, k_211, hd_211)) ∨ (y = 212 ∧ z = (q_212, k_212, hd_212)) ∨ (y = 213 ∧ z = (q_213, k_213, hd_213)) ∨ (y = 214 ∧ z = (q_214, k_214, hd_214)) ∨ (y = 215 ∧ z = (q_215, k_215, hd_215)) ∨ (y = 216 ∧ z = (q_216, k_216, hd_216)) ∨ (y = 217 ∧ z = (q_217, k_217, hd_217)) ∨ (y = 218 ∧ z = (q_218, k_218, hd_218)) ∨ (y = 219 ∧ z = (q_219, k_219, hd_219)) ∨ (y = 220 ∧ z = (q_220, k_220, hd_220)) ∨ (y = 221 ∧ z = (q_221, k_221, hd_221)) ∨ (y = 222 ∧ z = (q_222, k_222, hd_222)) ∨ (y = 223 ∧ z = (q_223, k_223, hd_223)) ∨ (y = 224 ∧ z = (q_224, k_224, hd_224)) ∨ (y = 225 ∧ z = (q_225, k_225, hd_225)) ∨ (y = 226 ∧ z = (q_226, k_226, hd_226)) ∨ (y = 227 ∧ z = (q_227, k_227, hd_227)) ∨ (y = 228 ∧ z = (q_228, k_228, hd_228)) ∨ (y = 229 ∧ z = (q_229, k_229, hd_229)) ∨ (y = 230 ∧ z = (q_230, k_230, hd_230)) ∨ (y = 231 ∧ z = (q_231, k_231, hd_231)) ∨ (y = 232 ∧ z = (q_232, k_232, hd_232)) ∨ (y = 233 ∧ z = (q_233, k_233, hd_233)) := by
  have := lookC_mem h
  unfold wL_ at this
  simp only [List.mem_cons, List.not_mem_nil, or_false, Prod.mk.injEq] at this
  rcases this with h1 | h1 | h1 | h1 | h1 | h1 | h1 | h1 | h1 | h1 | h1 | h1 | h1 | h1 | h1 | h1 | h1 | h1 | h1 | h1 | h1 | h1 | h1 | h1 | h1 | h1 | h1 | h1 | h1 | h1 | h1 | h1 | h1 <;> obtain ⟨rfl, rfl⟩ := h1 <;> simp
theorem good_l {E : mEnv} {l : Launch} (hl : l.stackTraces = false) (hI : primI E mS_ sg_ l) : mGoodL (CCm E mS_ l M_) (CLm E l) := by
  refine ⟨fun y q k hd h vs st post hn hb => ?_, fun y vs st post hy h => ?_⟩
  · show match lookC wL_ y with
      | some z => mMetH E mS_ l z.1 (hhL y) 31 vs st post
      | none => CCm E mS_ l M_ 31 y vs st post
    rw [h]
    dsimp only
    obtain ⟨p1, p2, p3, p4⟩ := poolB_ok pk_RL
    rcases lk_mem h with ⟨rfl, e⟩ | ⟨rfl, e⟩ | ⟨rfl, e⟩ | ⟨rfl, e⟩ | ⟨rfl, e⟩ | ⟨rfl, e⟩ | ⟨rfl, e⟩ | ⟨rfl, e⟩ | ⟨rfl, e⟩ | ⟨rfl, e⟩ | ⟨rfl, e⟩ | ⟨rfl, e⟩ | ⟨rfl, e⟩ | ⟨rfl, e⟩ | ⟨rfl, e⟩ | ⟨rfl, e⟩ | ⟨rfl, e⟩ | ⟨rfl, e⟩ | ⟨rfl, e⟩ | ⟨rfl, e⟩ | ⟨rfl, e⟩ | ⟨rfl, e⟩ | ⟨rfl, e⟩ | ⟨rfl, e⟩ | ⟨rfl, e⟩ | ⟨rfl, e⟩ | ⟨rfl, e⟩ | ⟨rfl, e⟩ | ⟨rfl, e⟩ | ⟨rfl, e⟩ | ⟨rfl, e⟩ | ⟨rfl, e⟩ | ⟨rfl, e⟩
    · obtain ⟨rfl, rfl, rfl⟩ : q = q_201 ∧ k = k_201 ∧ hd = hd_201 := ⟨congrArg (fun z => z.1) e, congrArg (fun z => z.2.1) e, congrArg (fun z => z.2.2) e⟩
      exact metH_of (P := P_RL) (hh := hh_201) prog_ hl hI (methHB_ok hk_201) (hdB_ok _ _ _ hx_201) ⟨p1, p2, p3, p4⟩ rfl hcn_RL ck_201 hn hb
    · obtain ⟨rfl, rfl, rfl⟩ : q = q_202 ∧ k = k_202 ∧ hd = hd_202 := ⟨congrArg (fun z => z.1) e, congrArg (fun z => z.2.1) e, congrArg (fun z => z.2.2) e⟩
      exact metH_of (P := P_RL) (hh := hh_202) prog_ hl hI (methHB_ok hk_202) (hdB_ok _ _ _ hx_202) ⟨p1, p2, p3, p4⟩ rfl hcn_RL ck_202 hn hb
    · obtain ⟨rfl, rfl, rfl⟩ : q = q_203 ∧ k = k_203 ∧ hd = hd_203 := ⟨congrArg (fun z => z.1) e, congrArg (fun z => z.2.1) e, congrArg (fun z => z.2.2) e⟩
      exact metH_of (P := P_RL) (hh := hh_203) prog_ hl hI (methHB_ok hk_203) (hdB_ok _ _ _ hx_203) ⟨p1, p2, p3, p4⟩ rfl hcn_RL ck_203 hn hb
    · obtain ⟨rfl, rfl, rfl⟩ : q = q_204 ∧ k = k_204 ∧ hd = hd_204 := ⟨congrArg (fun z => z.1) e, congrArg (fun z => z.2.1) e, congrArg (fun z => z.2.2) e⟩
      exact metH_of (P := P_RL) (hh := hh_204) prog_ hl hI (methHB_ok hk_204) (hdB_ok _ _ _ hx_204) ⟨p1, p2, p3, p4⟩ rfl hcn_RL ck_204 hn hb
    · obtain ⟨rfl, rfl, rfl⟩ : q = q_205 ∧ k = k_205 ∧ hd = hd_205 := ⟨congrArg (fun z => z.1) e, congrArg (fun z => z.2.1) e, congrArg (fun z => z.2.2) e⟩
      exact metH_of (P := P_RL) (hh := hh_205) prog_ hl hI (methHB_ok hk_205) (hdB_ok _ _ _ hx_205) ⟨p1, p2, p3, p4⟩ rfl hcn_RL ck_205 hn hb
    · obtain ⟨rfl, rfl, rfl⟩ : q = q_206 ∧ k = k_206 ∧ hd = hd_206 := ⟨congrArg (fun z => z.1) e, congrArg (fun z => z.2.1) e, congrArg (fun z => z.2.2) e⟩
      exact metH_of (P := P_RL) (hh := hh_206) prog_ hl hI (methHB_ok hk_206) (hdB_ok _ _ _ hx_206) ⟨p1, p2, p3, p4⟩ rfl hcn_RL ck_206 hn hb
    · obtain ⟨rfl, rfl, rfl⟩ : q = q_207 ∧ k = k_207 ∧ hd = hd_207 := ⟨congrArg (fun z => z.1) e, congrArg (fun z => z.2.1) e, congrArg (fun z => z.2.2) e⟩
      exact metH_of (P := P_RL) (hh := hh_207) prog_ hl hI (methHB_ok hk_207) (hdB_ok _ _ _ hx_207) ⟨p1, p2, p3, p4⟩ rfl hcn_RL ck_207 hn hb
    · obtain ⟨rfl, rfl, rfl⟩ : q = q_208 ∧ k = k_208 ∧ hd = hd_208 := ⟨congrArg (fun z => z.1) e, congrArg (fun z => z.2.1) e, congrArg (fun z => z.2.2) e⟩
      exact metH_of (P := P_RL) (hh := hh_208) prog_ hl hI (methHB_ok hk_208) (hdB_ok _ _ _ hx_208) ⟨p1, p2, p3, p4⟩ rfl hcn_RL ck_208 hn hb
    · obtain ⟨rfl, rfl, rfl⟩ : q = q_209 ∧ k = k_209 ∧ hd = hd_209 := ⟨congrArg (fun z => z.1) e, congrArg (fun z => z.2.1) e, congrArg (fun z => z.2.2) e⟩
      exact metH_of (P := P_RL) (hh := hh_209) prog_ hl hI (methHB_ok hk_209) (hdB_ok _ _ _ hx_209) ⟨p1, p2, p3, p4⟩ rfl hcn_RL ck_209 hn hb
    · obtain ⟨rfl, rfl, rfl⟩ : q = q_210 ∧ k = k_210 ∧ hd = hd_210 := ⟨congrArg (fun z => z.1) e, congrArg (fun z => z.2.1) e, congrArg (fun z => z.2.2) e⟩
      exact metH_of (P := P_RL) (hh := hh_210) prog_ hl hI (methHB_ok hk_210) (hdB_ok _ _ _ hx_210) ⟨p1, p2, p3, p4⟩ rfl hcn_RL ck_210 hn hb
    · obtain ⟨rfl, rfl, rfl⟩ : q = q_211 ∧ k = k_211 ∧ hd = hd_211 := ⟨congrArg (fun z => z.1) e, congrArg (fun z => z.2.1) e, congrArg (fun z => z.2.2) e⟩
      exact metH_of (P := P_RL) (hh := hh_211) prog_ hl hI (methHB_ok hk_211) (hdB_ok _ _ _ hx_211) ⟨p1, p2, p3, p4⟩ rfl hcn_RL ck_211 hn hb
    · obtain ⟨rfl, rfl, rfl⟩ : q = q_212 ∧ k = k_212 ∧ hd = hd_212 := ⟨congrArg (fun z => z.1) e, congrArg (fun z => z.2.1) e, congrArg (fun z => z.2.2) e⟩
      exact metH_of (P := P_RL) (hh := hh_212) prog_ hl hI (methHB_ok hk_212) (hdB_ok _ _ _ hx_212) ⟨p1, p2, p3, p4⟩ rfl hcn_RL ck_212 hn hb
    · obtain ⟨rfl, rfl, rfl⟩ : q = q_213 ∧ k = k_213 ∧ hd = hd_213 := ⟨congrArg (fun z => z.1) e, congrArg (fun z => z.2.1) e, congrArg (fun z => z.2.2) e⟩
      exact metH_of (P := P_RL) (hh := hh_213) prog_ hl hI (methHB_ok hk_213) (hdB_ok _ _ _ hx_213) ⟨p1, p2, p3, p4⟩ rfl hcn_RL ck_213 hn hb
    · obtain ⟨rfl, rfl, rfl⟩ : q = q_214 ∧ k = k_214 ∧ hd = hd_214 := ⟨congrArg (fun z => z.1) e, congrArg (fun z => z.2.1) e, congrArg (fun z => z.2.2) e⟩
      exact metH_of (P := P_RL) (hh := hh_214) prog_ hl hI (methHB_ok hk_214) (hdB_ok _ _ _ hx_214) ⟨p1, p2, p3, p4⟩ rfl hcn_RL ck_214 hn hb
    · obtain ⟨rfl, rfl, rfl⟩ : q = q_215 ∧ k = k_215 ∧ hd = hd_215 := ⟨congrArg (fun z => z.1) e, congrArg (fun z => z.2.1) e, congrArg (fun z => z.2.2) e⟩
      exact metH_of (P := P_RL) (hh := hh_215) prog_ hl hI (methHB_ok hk_215) (hdB_ok _ _ _ hx_215) ⟨p1, p2, p3, p4⟩ rfl hcn_RL ck_215 hn hb
    · obtain ⟨rfl, rfl, rfl⟩ : q = q_216 ∧ k = k_216 ∧ hd = hd_216 := ⟨congrArg (fun z => z.1) e, congrArg (fun z => z.2.1) e, congrArg (fun z => z.2.2) e⟩
      exact metH_of (P := P_RL) (hh := hh_216) prog_ hl hI (methHB_ok hk_216) (hdB_ok _ _ _ hx_216) ⟨p1, p2, p3, p4⟩ rfl hcn_RL ck_216 hn hb
    · obtain ⟨rfl, rfl, rfl⟩ : q = q_217 ∧ k = k_217 ∧ hd = hd_217 := ⟨congrArg (fun z => z.1) e, congrArg (fun z => z.2.1) e, congrArg (fun z => z.2.2) e⟩
      exact metH_of (P := P_RL) (hh := hh_217) prog_ hl hI (methHB_ok hk_217) (hdB_ok _ _ _ hx_217) ⟨p1, p2, p3, p4⟩ rfl hcn_RL ck_217 hn hb
    · obtain ⟨rfl, rfl, rfl⟩ : q = q_218 ∧ k = k_218 ∧ hd = hd_218 := ⟨congrArg (fun z => z.1) e, congrArg (fun z => z.2.1) e, congrArg (fun z => z.2.2) e⟩
      exact metH_of (P := P_RL) (hh := hh_218) prog_ hl hI (methHB_ok hk_218) (hdB_ok _ _ _ hx_218) ⟨p1, p2, p3, p4⟩ rfl hcn_RL ck_218 hn hb
    · obtain ⟨rfl, rfl, rfl⟩ : q = q_219 ∧ k = k_219 ∧ hd = hd_219 := ⟨congrArg (fun z => z.1) e, congrArg (fun z => z.2.1) e, congrArg (fun z => z.2.2) e⟩
      exact metH_of (P := P_RL) (hh := hh_219) prog_ hl hI (methHB_ok hk_219) (hdB_ok _ _ _ hx_219) ⟨p1, p2, p3, p4⟩ rfl hcn_RL ck_219 hn hb
    · obtain ⟨rfl, rfl, rfl⟩ : q = q_220 ∧ k = k_220 ∧ hd = hd_220 := ⟨congrArg (fun z => z.1) e, congrArg (fun z => z.2.1) e, congrArg (fun z => z.2.2) e⟩
      exact metH_of (P := P_RL) (hh := hh_220) prog_ hl hI (methHB_ok hk_220) (hdB_ok _ _ _ hx_220) ⟨p1, p2, p3, p4⟩ rfl hcn_RL ck_220 hn hb
    · obtain ⟨rfl, rfl, rfl⟩ : q = q_221 ∧ k = k_221 ∧ hd = hd_221 := ⟨congrArg (fun z => z.1) e, congrArg (fun z => z.2.1) e, congrArg (fun z => z.2.2) e⟩
      exact metH_of (P := P_RL) (hh := hh_221) prog_ hl hI (methHB_ok hk_221) (hdB_ok _ _ _ hx_221) ⟨p1, p2, p3, p4⟩ rfl hcn_RL ck_221 hn hb
    · obtain ⟨rfl, rfl, rfl⟩ : q = q_222 ∧ k = k_222 ∧ hd = hd_222 := ⟨congrArg (fun z => z.1) e, congrArg (fun z => z.2.1) e, congrArg (fun z => z.2.2) e⟩
      exact metH_of (P := P_RL) (hh := hh_222) prog_ hl hI (methHB_ok hk_222) (hdB_ok _ _ _ hx_222) ⟨p1, p2, p3, p4⟩ rfl hcn_RL ck_222 hn hb
    · obtain ⟨rfl, rfl, rfl⟩ : q = q_223 ∧ k = k_223 ∧ hd = hd_223 := ⟨congrArg (fun z => z.1) e, congrArg (fun z => z.2.1) e, congrArg (fun z => z.2.2) e⟩
      exact metH_of (P := P_RL) (hh := hh_223) prog_ hl hI (methHB_ok hk_223) (hdB_ok _ _ _ hx_223) ⟨p1, p2, p3, p4⟩ rfl hcn_RL ck_223 hn hb
    · obtain ⟨rfl, rfl, rfl⟩ : q = q_224 ∧ k = k_224 ∧ hd = hd_224 := ⟨congrArg (fun z => z.1) e, congrArg (fun z => z.2.1) e, congrArg (fun z => z.2.2) e⟩
      exact metH_of (P := P_RL) (hh := hh_224) prog_ hl hI (methHB_ok hk_224) (hdB_ok _ _ _ hx_224) ⟨p1, p2, p3, p4⟩ rfl hcn_RL ck_224 hn hb
    · obtain ⟨rfl, rfl, rfl⟩ : q = q_225 ∧ k = k_225 ∧ hd = hd_225 := ⟨congrArg (fun z => z.1) e, congrArg (fun z => z.2.1) e, congrArg (fun z => z.2.2) e⟩
      exact metH_of (P := P_RL) (hh := hh_225) prog_ hl hI (methHB_ok hk_225) (hdB_ok _ _ _ hx_225) ⟨p1, p2, p3, p4⟩ rfl hcn_RL ck_225 hn hb
    · obtain ⟨rfl, rfl, rfl⟩ : q = q_226 ∧ k = k_226 ∧ hd = hd_226 := ⟨congrArg (fun z => z.1) e, congrArg (fun z => z.2.1) e, congrArg (fun z => z.2.2) e⟩
      exact metH_of (P := P_RL) (hh := hh_226) prog_ hl hI (methHB_ok hk_226) (hdB_ok _ _ _ hx_226) ⟨p1, p2, p3, p4⟩ rfl hcn_RL ck_226 hn hb
    · obtain ⟨rfl, rfl, rfl⟩ : q = q_227 ∧ k = k_227 ∧ hd = hd_227 := ⟨congrArg (fun z => z.1) e, congrArg (fun z => z.2.1) e, congrArg (fun z => z.2.2) e⟩
      exact metH_of (P := P_RL) (hh := hh_227) prog_ hl hI (methHB_ok hk_227) (hdB_ok _ _ _ hx_227) ⟨p1, p2, p3, p4⟩ rfl hcn_RL ck_227 hn hb
    · obtain ⟨rfl, rfl, rfl⟩ : q = q_228 ∧ k = k_228 ∧ hd = hd_228 := ⟨congrArg (fun z => z.1) e, congrArg (fun z => z.2.1) e, congrArg (fun z => z.2.2) e⟩
      exact metH_of (P := P_RL) (hh := hh_228) prog_ hl hI (methHB_ok hk_228) (hdB_ok _ _ _ hx_228) ⟨p1, p2, p3, p4⟩ rfl hcn_RL ck_228 hn hb
    · obtain ⟨rfl, rfl, rfl⟩ : q = q_229 ∧ k = k_229 ∧ hd = hd_229 := ⟨congrArg (fun z => z.1) e, congrArg (fun z => z.2.1) e, congrArg (fun z => z.2.2) e⟩
      exact metH_of (P := P_RL) (hh := hh_229) prog_ hl hI (methHB_ok hk_229) (hdB_ok _ _ _ hx_229) ⟨p1, p2, p3, p4⟩ rfl hcn_RL ck_229 hn hb
    · obtain ⟨rfl, rfl, rfl⟩ : q = q_230 ∧ k = k_230 ∧ hd = hd_230 := ⟨congrArg (fun z => z.1) e, congrArg (fun z => z.2.1) e, congrArg (fun z => z.2.2) e⟩
      exact metH_of (P := P_RL) (hh := hh_230) prog_ hl hI (methHB_ok hk_230) (hdB_ok _ _ _ hx_230) ⟨p1, p2, p3, p4⟩ rfl hcn_RL ck_230 hn hb
    · obtain ⟨rfl, rfl, rfl⟩ : q = q_231 ∧ k = k_231 ∧ hd = hd_231 := ⟨congrArg (fun z => z.1) e, congrArg (fun z => z.2.1) e, congrArg (fun z => z.2.2) e⟩
      exact metH_of (P := P_RL) (hh := hh_231) prog_ hl hI (methHB_ok hk_231) (hdB_ok _ _ _ hx_231) ⟨p1, p2, p3, p4⟩ rfl hcn_RL ck_231 hn hb
    · obtain ⟨rfl, rfl, rfl⟩ : q = q_232 ∧ k = k_232 ∧ hd = hd_232 := ⟨congrArg (fun z => z.1) e, congrArg (fun z => z.2.1) e, congrArg (fun z => z.2.2) e⟩
      exact metH_of (P := P_RL) (hh := hh_232) prog_ hl hI (methHB_ok hk_232) (hdB_ok _ _ _ hx_232) ⟨p1, p2, p3, p4⟩ rfl hcn_RL ck_232 hn hb
    · obtain ⟨rfl, rfl, rfl⟩ : q = q_233 ∧ k = k_233 ∧ hd = hd_233 := ⟨congrArg (fun z => z.1) e, congrArg (fun z => z.2.1) e, congrArg (fun z => z.2.2) e⟩
      exact metH_of (P := P_RL) (hh := hh_233) prog_ hl hI (methHB_ok hk_233) (hdB_ok _ _ _ hx_233) ⟨p1, p2, p3, p4⟩ rfl hcn_RL ck_233 hn hb
  · show match lookC wL_ y with
      | some z => mMetH E mS_ l z.1 (hhL y) 31 vs st post
      | none => CCm E mS_ l M_ 31 y vs st post
    rw [wL_no hy]
    exact h
theorem law_mOK {E : mEnv} {F : mFr} (hFl : F.2.1.stackTraces = false) : mOK E mS_ F RL P_RL M_ sgL_ (CLm E F.2.1) 31 := by
  obtain ⟨p1, p2, p3, p4⟩ := poolB_ok pk_RL
  refine ⟨p1, p2, fun y q hm => (prog_.1 y q hm).2.1, fun y q h4 hm => ?_, fun y q h4 hm vs st post h => ?_, p3, p4⟩
  · rw [sgL_no (M_200 hm)]; exact (prog_.1 y q hm).2.2.1
  · have h0 : (match lookC wL_ y with
      | some z => mMetH E mS_ F.2.1 z.1 (hhL y) 31 vs st post
      | none => CCm E mS_ F.2.1 M_ 31 y vs st post) := h
    rw [wL_no (M_200 hm)] at h0
    have h0 : CCm E mS_ F.2.1 M_ 31 y vs st post := h0
    unfold CCm at h0
    rw [if_neg (by omega), hm] at h0
    exact h0
theorem law_mWr {E : mEnv} {F : mFr} : mWr E mS_ F RL P_RL sgL_ (CLm E F.2.1) 31 := by
  intro x y z hx hz
  obtain ⟨w1, w2, w3⟩ := wL_201 hz
  have k := List.all_eq_true.mp wk_RL _ (look2_mem hx)
  dsimp only at k
  rw [hz] at k
  refine ⟨hhL y, ?_, atT_ok k, w2, w3, fun vs st post h => ?_⟩
  · rcases lk_mem hz with ⟨rfl, rfl⟩ | ⟨rfl, rfl⟩ | ⟨rfl, rfl⟩ | ⟨rfl, rfl⟩ | ⟨rfl, rfl⟩ | ⟨rfl, rfl⟩ | ⟨rfl, rfl⟩ | ⟨rfl, rfl⟩ | ⟨rfl, rfl⟩ | ⟨rfl, rfl⟩ | ⟨rfl, rfl⟩ | ⟨rfl, rfl⟩ | ⟨rfl, rfl⟩ | ⟨rfl, rfl⟩ | ⟨rfl, rfl⟩ | ⟨rfl, rfl⟩ | ⟨rfl, rfl⟩ | ⟨rfl, rfl⟩ | ⟨rfl, rfl⟩ | ⟨rfl, rfl⟩ | ⟨rfl, rfl⟩ | ⟨rfl, rfl⟩ | ⟨rfl, rfl⟩ | ⟨rfl, rfl⟩ | ⟨rfl, rfl⟩ | ⟨rfl, rfl⟩ | ⟨rfl, rfl⟩ | ⟨rfl, rfl⟩ | ⟨rfl, rfl⟩ | ⟨rfl, rfl⟩ | ⟨rfl, rfl⟩ | ⟨rfl, rfl⟩ | ⟨rfl, rfl⟩
    · exact methHB_ok hk_201
    · exact methHB_ok hk_202
    · exact methHB_ok hk_203
    · exact methHB_ok hk_204
    · exact methHB_ok hk_205
    · exact methHB_ok hk_206
    · exact methHB_ok hk_207
    · exact methHB_ok hk_208
    · exact methHB_ok hk_209
    · exact methHB_ok hk_210
    · exact methHB_ok hk_211
    · exact methHB_ok hk_212
    · exact methHB_ok hk_213
    · exact methHB_ok hk_214
    · exact methHB_ok hk_215
    · exact methHB_ok hk_216
    · exact methHB_ok hk_217
    · exact methHB_ok hk_218
    · exact methHB_ok hk_219
    · exact methHB_ok hk_220
    · exact methHB_ok hk_221
    · exact methHB_ok hk_222
    · exact methHB_ok hk_223
    · exact methHB_ok hk_224
    · exact methHB_ok hk_225
    · exact methHB_ok hk_226
    · exact methHB_ok hk_227
    · exact methHB_ok hk_228
    · exact methHB_ok hk_229
    · exact methHB_ok hk_230
    · exact methHB_ok hk_231
    · exact methHB_ok hk_232
    · exact methHB_ok hk_233
  · have h0 : (match lookC wL_ y with
      | some z => mMetH E mS_ F.2.1 z.1 (hhL y) 31 vs st post
      | none => CCm E mS_ F.2.1 M_ 31 y vs st post) := h
    rw [hz] at h0
    exact h0
