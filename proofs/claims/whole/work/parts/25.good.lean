/-! WHAT THE PURE SIDE STANDS ON: calls by numbers -/
def mGood (CC : Nat → mCall) : Prop := (∀ d y vs st post, 500 ≤ y → mPrim y vs st post → CC d y vs st post) ∧
  ∀ d y q vs st post, M_ y = some q → (vs.map mcat).sum ≤ qL q → mBody (Pl_ (qY q).cls) sg_ (cd_ y) (CC d) q vs st post → CC (d + 1) y vs st post
theorem good_m {E : mEnv} {l : Launch} (hl : l.stackTraces = false) (hI : primI E mS_ sg_ l) (hC : primC E mS_ sg_ l TH_) : mGood (CCm E mS_ l M_) := by
  refine ⟨fun d y vs st post h5 h => ?_, fun d y q vs st post hy hn hb => ?_⟩
  · unfold CCm
    rw [if_pos h5]
    exact h
  · have h4 := (prog_.1 y q hy).1
    unfold CCm
    rw [if_neg (by omega), hy]
    exact met_of prog_ hl hI hC hy hn hb
set_option maxRecDepth 20000 in
/-- FerryrosterModel.thrown()I -/
theorem go_1 {CC : Nat → mCall} (G : mGood CC) {d : Nat} {vs : List mV} {st : mS} {post : mO → mS → Prop} (hn : (vs.map mcat).sum ≤ 1) (h : ∀ WW : mK, (∀ t ls stk rem st, mat P_RX7 0 sg_ k_1 [] (CC d) WW post t ls stk rem st → WW t ls stk rem st) → WW 0 (margs 0 vs) [] (0, 0) st) : CC (d + 1) 1 vs st post :=
  G.2 d 1 q_1 vs st post rfl hn (by rw [show Pl_ (qY q_1).cls = P_RX7 from Pl_RX7]; exact h)
set_option maxRecDepth 20000 in
/-- FerryrosterModel.fails(I)I -/
theorem go_2 {CC : Nat → mCall} (G : mGood CC) {d : Nat} {vs : List mV} {st : mS} {post : mO → mS → Prop} (hn : (vs.map mcat).sum ≤ 2) (h : ∀ WW : mK, (∀ t ls stk rem st, mat P_RX7 0 sg_ k_2 [] (CC d) WW post t ls stk rem st → WW t ls stk rem st) → WW 0 (margs 0 vs) [] (0, 0) st) : CC (d + 1) 2 vs st post :=
  G.2 d 2 q_2 vs st post rfl hn (by rw [show Pl_ (qY q_2).cls = P_RX7 from Pl_RX7]; exact h)
set_option maxRecDepth 20000 in
/-- FerryrosterModel.in(III)Z -/
theorem go_3 {CC : Nat → mCall} (G : mGood CC) {d : Nat} {vs : List mV} {st : mS} {post : mO → mS → Prop} (hn : (vs.map mcat).sum ≤ 3) (h : ∀ WW : mK, (∀ t ls stk rem st, mat P_RX7 1 sg_ k_3 [] (CC d) WW post t ls stk rem st → WW t ls stk rem st) → WW 0 (margs 0 vs) [] (0, 0) st) : CC (d + 1) 3 vs st post :=
  G.2 d 3 q_3 vs st post rfl hn (by rw [show Pl_ (qY q_3).cls = P_RX7 from Pl_RX7]; exact h)
set_option maxRecDepth 20000 in
/-- FerryrosterModel.isPerson(I)Z -/
theorem go_4 {CC : Nat → mCall} (G : mGood CC) {d : Nat} {vs : List mV} {st : mS} {post : mO → mS → Prop} (hn : (vs.map mcat).sum ≤ 2) (h : ∀ WW : mK, (∀ t ls stk rem st, mat P_RX7 1 sg_ k_4 [] (CC d) WW post t ls stk rem st → WW t ls stk rem st) → WW 0 (margs 0 vs) [] (0, 0) st) : CC (d + 1) 4 vs st post :=
  G.2 d 4 q_4 vs st post rfl hn (by rw [show Pl_ (qY q_4).cls = P_RX7 from Pl_RX7]; exact h)
set_option maxRecDepth 20000 in
/-- FerryrosterModel.isSailing(I)Z -/
theorem go_5 {CC : Nat → mCall} (G : mGood CC) {d : Nat} {vs : List mV} {st : mS} {post : mO → mS → Prop} (hn : (vs.map mcat).sum ≤ 2) (h : ∀ WW : mK, (∀ t ls stk rem st, mat P_RX7 1 sg_ k_5 [] (CC d) WW post t ls stk rem st → WW t ls stk rem st) → WW 0 (margs 0 vs) [] (0, 0) st) : CC (d + 1) 5 vs st post :=
  G.2 d 5 q_5 vs st post rfl hn (by rw [show Pl_ (qY q_5).cls = P_RX7 from Pl_RX7]; exact h)
set_option maxRecDepth 20000 in
/-- FerryrosterModel.today()I -/
theorem go_6 {CC : Nat → mCall} (G : mGood CC) {d : Nat} {vs : List mV} {st : mS} {post : mO → mS → Prop} (hn : (vs.map mcat).sum ≤ 1) (h : ∀ WW : mK, (∀ t ls stk rem st, mat P_RX7 0 sg_ k_6 [] (CC d) WW post t ls stk rem st → WW t ls stk rem st) → WW 0 (margs 0 vs) [] (0, 0) st) : CC (d + 1) 6 vs st post :=
  G.2 d 6 q_6 vs st post rfl hn (by rw [show Pl_ (qY q_6).cls = P_RX7 from Pl_RX7]; exact h)
set_option maxRecDepth 20000 in
/-- FerryrosterModel.endsCourses(I)V -/
theorem go_7 {CC : Nat → mCall} (G : mGood CC) {d : Nat} {vs : List mV} {st : mS} {post : mO → mS → Prop} (hn : (vs.map mcat).sum ≤ 4) (h : ∀ WW : mK, (∀ t ls stk rem st, mat P_RX7 0 sg_ k_7 [] (CC d) WW post t ls stk rem st → WW t ls stk rem st) → WW 0 (margs 0 vs) [] (0, 0) st) : CC (d + 1) 7 vs st post :=
  G.2 d 7 q_7 vs st post rfl hn (by rw [show Pl_ (qY q_7).cls = P_RX7 from Pl_RX7]; exact h)
set_option maxRecDepth 20000 in
/-- FerryrosterModel.pass(I)I -/
theorem go_8 {CC : Nat → mCall} (G : mGood CC) {d : Nat} {vs : List mV} {st : mS} {post : mO → mS → Prop} (hn : (vs.map mcat).sum ≤ 5) (h : ∀ WW : mK, (∀ t ls stk rem st, mat P_RX7 0 sg_ k_8 [] (CC d) WW post t ls stk rem st → WW t ls stk rem st) → WW 0 (margs 0 vs) [] (0, 0) st) : CC (d + 1) 8 vs st post :=
  G.2 d 8 q_8 vs st post rfl hn (by rw [show Pl_ (qY q_8).cls = P_RX7 from Pl_RX7]; exact h)
set_option maxRecDepth 20000 in
/-- FerryrosterModel.now()I -/
theorem go_9 {CC : Nat → mCall} (G : mGood CC) {d : Nat} {vs : List mV} {st : mS} {post : mO → mS → Prop} (hn : (vs.map mcat).sum ≤ 1) (h : ∀ WW : mK, (∀ t ls stk rem st, mat P_RX7 0 sg_ k_9 [] (CC d) WW post t ls stk rem st → WW t ls stk rem st) → WW 0 (margs 0 vs) [] (0, 0) st) : CC (d + 1) 9 vs st post :=
  G.2 d 9 q_9 vs st post rfl hn (by rw [show Pl_ (qY q_9).cls = P_RX7 from Pl_RX7]; exact h)
set_option maxRecDepth 20000 in
/-- FerryrosterModel.setDayRule(I)I -/
theorem go_10 {CC : Nat → mCall} (G : mGood CC) {d : Nat} {vs : List mV} {st : mS} {post : mO → mS → Prop} (hn : (vs.map mcat).sum ≤ 3) (h : ∀ WW : mK, (∀ t ls stk rem st, mat P_RX7 0 sg_ k_10 [] (CC d) WW post t ls stk rem st → WW t ls stk rem st) → WW 0 (margs 0 vs) [] (0, 0) st) : CC (d + 1) 10 vs st post :=
  G.2 d 10 q_10 vs st post rfl hn (by rw [show Pl_ (qY q_10).cls = P_RX7 from Pl_RX7]; exact h)
set_option maxRecDepth 20000 in
/-- FerryrosterModel.setWeekRule(I)I -/
theorem go_11 {CC : Nat → mCall} (G : mGood CC) {d : Nat} {vs : List mV} {st : mS} {post : mO → mS → Prop} (hn : (vs.map mcat).sum ≤ 3) (h : ∀ WW : mK, (∀ t ls stk rem st, mat P_RX7 0 sg_ k_11 [] (CC d) WW post t ls stk rem st → WW t ls stk rem st) → WW 0 (margs 0 vs) [] (0, 0) st) : CC (d + 1) 11 vs st post :=
  G.2 d 11 q_11 vs st post rfl hn (by rw [show Pl_ (qY q_11).cls = P_RX7 from Pl_RX7]; exact h)
set_option maxRecDepth 20000 in
/-- FerryrosterModel.addPerson()I -/
theorem go_12 {CC : Nat → mCall} (G : mGood CC) {d : Nat} {vs : List mV} {st : mS} {post : mO → mS → Prop} (hn : (vs.map mcat).sum ≤ 1) (h : ∀ WW : mK, (∀ t ls stk rem st, mat P_RX7 0 sg_ k_12 [] (CC d) WW post t ls stk rem st → WW t ls stk rem st) → WW 0 (margs 0 vs) [] (0, 0) st) : CC (d + 1) 12 vs st post :=
  G.2 d 12 q_12 vs st post rfl hn (by rw [show Pl_ (qY q_12).cls = P_RX7 from Pl_RX7]; exact h)
set_option maxRecDepth 20000 in
/-- FerryrosterModel.grant(III)I -/
theorem go_13 {CC : Nat → mCall} (G : mGood CC) {d : Nat} {vs : List mV} {st : mS} {post : mO → mS → Prop} (hn : (vs.map mcat).sum ≤ 5) (h : ∀ WW : mK, (∀ t ls stk rem st, mat P_RX7 0 sg_ k_13 [] (CC d) WW post t ls stk rem st → WW t ls stk rem st) → WW 0 (margs 0 vs) [] (0, 0) st) : CC (d + 1) 13 vs st post :=
  G.2 d 13 q_13 vs st post rfl hn (by rw [show Pl_ (qY q_13).cls = P_RX7 from Pl_RX7]; exact h)
set_option maxRecDepth 20000 in
/-- FerryrosterModel.renew(III)I -/
theorem go_14 {CC : Nat → mCall} (G : mGood CC) {d : Nat} {vs : List mV} {st : mS} {post : mO → mS → Prop} (hn : (vs.map mcat).sum ≤ 5) (h : ∀ WW : mK, (∀ t ls stk rem st, mat P_RX7 0 sg_ k_14 [] (CC d) WW post t ls stk rem st → WW t ls stk rem st) → WW 0 (margs 0 vs) [] (0, 0) st) : CC (d + 1) 14 vs st post :=
  G.2 d 14 q_14 vs st post rfl hn (by rw [show Pl_ (qY q_14).cls = P_RX7 from Pl_RX7]; exact h)
set_option maxRecDepth 20000 in
/-- FerryrosterModel.lastDay(II)I -/
theorem go_15 {CC : Nat → mCall} (G : mGood CC) {d : Nat} {vs : List mV} {st : mS} {post : mO → mS → Prop} (hn : (vs.map mcat).sum ≤ 3) (h : ∀ WW : mK, (∀ t ls stk rem st, mat P_RX7 0 sg_ k_15 [] (CC d) WW post t ls stk rem st → WW t ls stk rem st) → WW 0 (margs 0 vs) [] (0, 0) st) : CC (d + 1) 15 vs st post :=
  G.2 d 15 q_15 vs st post rfl hn (by rw [show Pl_ (qY q_15).cls = P_RX7 from Pl_RX7]; exact h)
set_option maxRecDepth 20000 in
/-- FerryrosterModel.hasPost(II)Z -/
theorem go_16 {CC : Nat → mCall} (G : mGood CC) {d : Nat} {vs : List mV} {st : mS} {post : mO → mS → Prop} (hn : (vs.map mcat).sum ≤ 4) (h : ∀ WW : mK, (∀ t ls stk rem st, mat P_RX7 1 sg_ k_16 [] (CC d) WW post t ls stk rem st → WW t ls stk rem st) → WW 0 (margs 0 vs) [] (0, 0) st) : CC (d + 1) 16 vs st post :=
  G.2 d 16 q_16 vs st post rfl hn (by rw [show Pl_ (qY q_16).cls = P_RX7 from Pl_RX7]; exact h)
set_option maxRecDepth 20000 in
/-- FerryrosterModel.firstOf(I)I -/
theorem go_17 {CC : Nat → mCall} (G : mGood CC) {d : Nat} {vs : List mV} {st : mS} {post : mO → mS → Prop} (hn : (vs.map mcat).sum ≤ 2) (h : ∀ WW : mK, (∀ t ls stk rem st, mat P_RX7 0 sg_ k_17 [] (CC d) WW post t ls stk rem st → WW t ls stk rem st) → WW 0 (margs 0 vs) [] (0, 0) st) : CC (d + 1) 17 vs st post :=
  G.2 d 17 q_17 vs st post rfl hn (by rw [show Pl_ (qY q_17).cls = P_RX7 from Pl_RX7]; exact h)
set_option maxRecDepth 20000 in
/-- FerryrosterModel.lastOf(I)I -/
theorem go_18 {CC : Nat → mCall} (G : mGood CC) {d : Nat} {vs : List mV} {st : mS} {post : mO → mS → Prop} (hn : (vs.map mcat).sum ≤ 2) (h : ∀ WW : mK, (∀ t ls stk rem st, mat P_RX7 0 sg_ k_18 [] (CC d) WW post t ls stk rem st → WW t ls stk rem st) → WW 0 (margs 0 vs) [] (0, 0) st) : CC (d + 1) 18 vs st post :=
  G.2 d 18 q_18 vs st post rfl hn (by rw [show Pl_ (qY q_18).cls = P_RX7 from Pl_RX7]; exact h)
set_option maxRecDepth 20000 in
/-- FerryrosterModel.callSick(II)I -/
theorem go_19 {CC : Nat → mCall} (G : mGood CC) {d : Nat} {vs : List mV} {st : mS} {post : mO → mS → Prop} (hn : (vs.map mcat).sum ≤ 6) (h : ∀ WW : mK, (∀ t ls stk rem st, mat P_RX7 0 sg_ k_19 [] (CC d) WW post t ls stk rem st → WW t ls stk rem st) → WW 0 (margs 0 vs) [] (0, 0) st) : CC (d + 1) 19 vs st post :=
  G.2 d 19 q_19 vs st post rfl hn (by rw [show Pl_ (qY q_19).cls = P_RX7 from Pl_RX7]; exact h)
set_option maxRecDepth 20000 in
/-- FerryrosterModel.recover(I)I -/
theorem go_20 {CC : Nat → mCall} (G : mGood CC) {d : Nat} {vs : List mV} {st : mS} {post : mO → mS → Prop} (hn : (vs.map mcat).sum ≤ 4) (h : ∀ WW : mK, (∀ t ls stk rem st, mat P_RX7 0 sg_ k_20 [] (CC d) WW post t ls stk rem st → WW t ls stk rem st) → WW 0 (margs 0 vs) [] (0, 0) st) : CC (d + 1) 20 vs st post :=
  G.2 d 20 q_20 vs st post rfl hn (by rw [show Pl_ (qY q_20).cls = P_RX7 from Pl_RX7]; exact h)
set_option maxRecDepth 20000 in
/-- FerryrosterModel.enroll(IIII)I -/
theorem go_21 {CC : Nat → mCall} (G : mGood CC) {d : Nat} {vs : List mV} {st : mS} {post : mO → mS → Prop} (hn : (vs.map mcat).sum ≤ 6) (h : ∀ WW : mK, (∀ t ls stk rem st, mat P_RX7 0 sg_ k_21 [] (CC d) WW post t ls stk rem st → WW t ls stk rem st) → WW 0 (margs 0 vs) [] (0, 0) st) : CC (d + 1) 21 vs st post :=
  G.2 d 21 q_21 vs st post rfl hn (by rw [show Pl_ (qY q_21).cls = P_RX7 from Pl_RX7]; exact h)
set_option maxRecDepth 20000 in
/-- FerryrosterModel.leaveCourse(I)I -/
theorem go_22 {CC : Nat → mCall} (G : mGood CC) {d : Nat} {vs : List mV} {st : mS} {post : mO → mS → Prop} (hn : (vs.map mcat).sum ≤ 4) (h : ∀ WW : mK, (∀ t ls stk rem st, mat P_RX7 0 sg_ k_22 [] (CC d) WW post t ls stk rem st → WW t ls stk rem st) → WW 0 (margs 0 vs) [] (0, 0) st) : CC (d + 1) 22 vs st post :=
  G.2 d 22 q_22 vs st post rfl hn (by rw [show Pl_ (qY q_22).cls = P_RX7 from Pl_RX7]; exact h)
set_option maxRecDepth 20000 in
/-- FerryrosterModel.isAway(II)Z -/
theorem go_23 {CC : Nat → mCall} (G : mGood CC) {d : Nat} {vs : List mV} {st : mS} {post : mO → mS → Prop} (hn : (vs.map mcat).sum ≤ 3) (h : ∀ WW : mK, (∀ t ls stk rem st, mat P_RX7 1 sg_ k_23 [] (CC d) WW post t ls stk rem st → WW t ls stk rem st) → WW 0 (margs 0 vs) [] (0, 0) st) : CC (d + 1) 23 vs st post :=
  G.2 d 23 q_23 vs st post rfl hn (by rw [show Pl_ (qY q_23).cls = P_RX7 from Pl_RX7]; exact h)
set_option maxRecDepth 20000 in
/-- FerryrosterModel.addShip(I)I -/
theorem go_24 {CC : Nat → mCall} (G : mGood CC) {d : Nat} {vs : List mV} {st : mS} {post : mO → mS → Prop} (hn : (vs.map mcat).sum ≤ 2) (h : ∀ WW : mK, (∀ t ls stk rem st, mat P_RX7 0 sg_ k_24 [] (CC d) WW post t ls stk rem st → WW t ls stk rem st) → WW 0 (margs 0 vs) [] (0, 0) st) : CC (d + 1) 24 vs st post :=
  G.2 d 24 q_24 vs st post rfl hn (by rw [show Pl_ (qY q_24).cls = P_RX7 from Pl_RX7]; exact h)
set_option maxRecDepth 20000 in
/-- FerryrosterModel.isUsed(I)Z -/
theorem go_25 {CC : Nat → mCall} (G : mGood CC) {d : Nat} {vs : List mV} {st : mS} {post : mO → mS → Prop} (hn : (vs.map mcat).sum ≤ 3) (h : ∀ WW : mK, (∀ t ls stk rem st, mat P_RX7 1 sg_ k_25 [] (CC d) WW post t ls stk rem st → WW t ls stk rem st) → WW 0 (margs 0 vs) [] (0, 0) st) : CC (d + 1) 25 vs st post :=
  G.2 d 25 q_25 vs st post rfl hn (by rw [show Pl_ (qY q_25).cls = P_RX7 from Pl_RX7]; exact h)
set_option maxRecDepth 20000 in
/-- FerryrosterModel.addPost(II)I -/
theorem go_26 {CC : Nat → mCall} (G : mGood CC) {d : Nat} {vs : List mV} {st : mS} {post : mO → mS → Prop} (hn : (vs.map mcat).sum ≤ 3) (h : ∀ WW : mK, (∀ t ls stk rem st, mat P_RX7 0 sg_ k_26 [] (CC d) WW post t ls stk rem st → WW t ls stk rem st) → WW 0 (margs 0 vs) [] (0, 0) st) : CC (d + 1) 26 vs st post :=
  G.2 d 26 q_26 vs st post rfl hn (by rw [show Pl_ (qY q_26).cls = P_RX7 from Pl_RX7]; exact h)
set_option maxRecDepth 20000 in
/-- FerryrosterModel.plan(III)I -/
theorem go_27 {CC : Nat → mCall} (G : mGood CC) {d : Nat} {vs : List mV} {st : mS} {post : mO → mS → Prop} (hn : (vs.map mcat).sum ≤ 6) (h : ∀ WW : mK, (∀ t ls stk rem st, mat P_RX7 0 sg_ k_27 [] (CC d) WW post t ls stk rem st → WW t ls stk rem st) → WW 0 (margs 0 vs) [] (0, 0) st) : CC (d + 1) 27 vs st post :=
  G.2 d 27 q_27 vs st post rfl hn (by rw [show Pl_ (qY q_27).cls = P_RX7 from Pl_RX7]; exact h)
set_option maxRecDepth 20000 in
/-- FerryrosterModel.sums(II)V -/
theorem go_28 {CC : Nat → mCall} (G : mGood CC) {d : Nat} {vs : List mV} {st : mS} {post : mO → mS → Prop} (hn : (vs.map mcat).sum ≤ 5) (h : ∀ WW : mK, (∀ t ls stk rem st, mat P_RX7 0 sg_ k_28 [] (CC d) WW post t ls stk rem st → WW t ls stk rem st) → WW 0 (margs 0 vs) [] (0, 0) st) : CC (d + 1) 28 vs st post :=
  G.2 d 28 q_28 vs st post rfl hn (by rw [show Pl_ (qY q_28).cls = P_RX7 from Pl_RX7]; exact h)
set_option maxRecDepth 20000 in
/-- FerryrosterModel.worked(II)I -/
theorem go_29 {CC : Nat → mCall} (G : mGood CC) {d : Nat} {vs : List mV} {st : mS} {post : mO → mS → Prop} (hn : (vs.map mcat).sum ≤ 5) (h : ∀ WW : mK, (∀ t ls stk rem st, mat P_RX7 0 sg_ k_29 [] (CC d) WW post t ls stk rem st → WW t ls stk rem st) → WW 0 (margs 0 vs) [] (0, 0) st) : CC (d + 1) 29 vs st post :=
  G.2 d 29 q_29 vs st post rfl hn (by rw [show Pl_ (qY q_29).cls = P_RX7 from Pl_RX7]; exact h)
set_option maxRecDepth 20000 in
/-- FerryrosterModel.both(IIII)I -/
theorem go_30 {CC : Nat → mCall} (G : mGood CC) {d : Nat} {vs : List mV} {st : mS} {post : mO → mS → Prop} (hn : (vs.map mcat).sum ≤ 6) (h : ∀ WW : mK, (∀ t ls stk rem st, mat P_RX7 0 sg_ k_30 [] (CC d) WW post t ls stk rem st → WW t ls stk rem st) → WW 0 (margs 0 vs) [] (0, 0) st) : CC (d + 1) 30 vs st post :=
  G.2 d 30 q_30 vs st post rfl hn (by rw [show Pl_ (qY q_30).cls = P_RX7 from Pl_RX7]; exact h)
set_option maxRecDepth 20000 in
/-- FerryrosterModel.isTooMuch(IIII)Z -/
theorem go_31 {CC : Nat → mCall} (G : mGood CC) {d : Nat} {vs : List mV} {st : mS} {post : mO → mS → Prop} (hn : (vs.map mcat).sum ≤ 6) (h : ∀ WW : mK, (∀ t ls stk rem st, mat P_RX7 1 sg_ k_31 [] (CC d) WW post t ls stk rem st → WW t ls stk rem st) → WW 0 (margs 0 vs) [] (0, 0) st) : CC (d + 1) 31 vs st post :=
  G.2 d 31 q_31 vs st post rfl hn (by rw [show Pl_ (qY q_31).cls = P_RX7 from Pl_RX7]; exact h)
set_option maxRecDepth 20000 in
/-- FerryrosterModel.against(II)I -/
theorem go_32 {CC : Nat → mCall} (G : mGood CC) {d : Nat} {vs : List mV} {st : mS} {post : mO → mS → Prop} (hn : (vs.map mcat).sum ≤ 3) (h : ∀ WW : mK, (∀ t ls stk rem st, mat P_RX7 0 sg_ k_32 [] (CC d) WW post t ls stk rem st → WW t ls stk rem st) → WW 0 (margs 0 vs) [] (0, 0) st) : CC (d + 1) 32 vs st post :=
  G.2 d 32 q_32 vs st post rfl hn (by rw [show Pl_ (qY q_32).cls = P_RX7 from Pl_RX7]; exact h)
set_option maxRecDepth 20000 in
/-- FerryrosterModel.reasonFor(III)I -/
theorem go_33 {CC : Nat → mCall} (G : mGood CC) {d : Nat} {vs : List mV} {st : mS} {post : mO → mS → Prop} (hn : (vs.map mcat).sum ≤ 6) (h : ∀ WW : mK, (∀ t ls stk rem st, mat P_RX7 0 sg_ k_33 [] (CC d) WW post t ls stk rem st → WW t ls stk rem st) → WW 0 (margs 0 vs) [] (0, 0) st) : CC (d + 1) 33 vs st post :=
  G.2 d 33 q_33 vs st post rfl hn (by rw [show Pl_ (qY q_33).cls = P_RX7 from Pl_RX7]; exact h)
set_option maxRecDepth 20000 in
/-- FerryrosterModel.complete(I)Z -/
theorem go_34 {CC : Nat → mCall} (G : mGood CC) {d : Nat} {vs : List mV} {st : mS} {post : mO → mS → Prop} (hn : (vs.map mcat).sum ≤ 4) (h : ∀ WW : mK, (∀ t ls stk rem st, mat P_RX7 1 sg_ k_34 [] (CC d) WW post t ls stk rem st → WW t ls stk rem st) → WW 0 (margs 0 vs) [] (0, 0) st) : CC (d + 1) 34 vs st post :=
  G.2 d 34 q_34 vs st post rfl hn (by rw [show Pl_ (qY q_34).cls = P_RX7 from Pl_RX7]; exact h)
set_option maxRecDepth 20000 in
/-- FerryrosterModel.drops(I)I -/
theorem go_35 {CC : Nat → mCall} (G : mGood CC) {d : Nat} {vs : List mV} {st : mS} {post : mO → mS → Prop} (hn : (vs.map mcat).sum ≤ 4) (h : ∀ WW : mK, (∀ t ls stk rem st, mat P_RX7 0 sg_ k_35 [] (CC d) WW post t ls stk rem st → WW t ls stk rem st) → WW 0 (margs 0 vs) [] (0, 0) st) : CC (d + 1) 35 vs st post :=
  G.2 d 35 q_35 vs st post rfl hn (by rw [show Pl_ (qY q_35).cls = P_RX7 from Pl_RX7]; exact h)
set_option maxRecDepth 20000 in
/-- FerryrosterModel.isPost(II)Z -/
theorem go_36 {CC : Nat → mCall} (G : mGood CC) {d : Nat} {vs : List mV} {st : mS} {post : mO → mS → Prop} (hn : (vs.map mcat).sum ≤ 3) (h : ∀ WW : mK, (∀ t ls stk rem st, mat P_RX7 1 sg_ k_36 [] (CC d) WW post t ls stk rem st → WW t ls stk rem st) → WW 0 (margs 0 vs) [] (0, 0) st) : CC (d + 1) 36 vs st post :=
  G.2 d 36 q_36 vs st post rfl hn (by rw [show Pl_ (qY q_36).cls = P_RX7 from Pl_RX7]; exact h)
set_option maxRecDepth 20000 in
/-- FerryrosterModel.assign(III)I -/
theorem go_37 {CC : Nat → mCall} (G : mGood CC) {d : Nat} {vs : List mV} {st : mS} {post : mO → mS → Prop} (hn : (vs.map mcat).sum ≤ 5) (h : ∀ WW : mK, (∀ t ls stk rem st, mat P_RX7 0 sg_ k_37 [] (CC d) WW post t ls stk rem st → WW t ls stk rem st) → WW 0 (margs 0 vs) [] (0, 0) st) : CC (d + 1) 37 vs st post :=
  G.2 d 37 q_37 vs st post rfl hn (by rw [show Pl_ (qY q_37).cls = P_RX7 from Pl_RX7]; exact h)
set_option maxRecDepth 20000 in
/-- FerryrosterModel.release(II)I -/
theorem go_38 {CC : Nat → mCall} (G : mGood CC) {d : Nat} {vs : List mV} {st : mS} {post : mO → mS → Prop} (hn : (vs.map mcat).sum ≤ 4) (h : ∀ WW : mK, (∀ t ls stk rem st, mat P_RX7 0 sg_ k_38 [] (CC d) WW post t ls stk rem st → WW t ls stk rem st) → WW 0 (margs 0 vs) [] (0, 0) st) : CC (d + 1) 38 vs st post :=
  G.2 d 38 q_38 vs st post rfl hn (by rw [show Pl_ (qY q_38).cls = P_RX7 from Pl_RX7]; exact h)
set_option maxRecDepth 20000 in
/-- FerryrosterModel.isPlanned(I)Z -/
theorem go_39 {CC : Nat → mCall} (G : mGood CC) {d : Nat} {vs : List mV} {st : mS} {post : mO → mS → Prop} (hn : (vs.map mcat).sum ≤ 2) (h : ∀ WW : mK, (∀ t ls stk rem st, mat P_RX7 1 sg_ k_39 [] (CC d) WW post t ls stk rem st → WW t ls stk rem st) → WW 0 (margs 0 vs) [] (0, 0) st) : CC (d + 1) 39 vs st post :=
  G.2 d 39 q_39 vs st post rfl hn (by rw [show Pl_ (qY q_39).cls = P_RX7 from Pl_RX7]; exact h)
set_option maxRecDepth 20000 in
/-- FerryrosterModel.cancel(I)I -/
theorem go_40 {CC : Nat → mCall} (G : mGood CC) {d : Nat} {vs : List mV} {st : mS} {post : mO → mS → Prop} (hn : (vs.map mcat).sum ≤ 2) (h : ∀ WW : mK, (∀ t ls stk rem st, mat P_RX7 0 sg_ k_40 [] (CC d) WW post t ls stk rem st → WW t ls stk rem st) → WW 0 (margs 0 vs) [] (0, 0) st) : CC (d + 1) 40 vs st post :=
  G.2 d 40 q_40 vs st post rfl hn (by rw [show Pl_ (qY q_40).cls = P_RX7 from Pl_RX7]; exact h)
set_option maxRecDepth 20000 in
/-- FerryrosterModel.tries(III)V -/
theorem go_41 {CC : Nat → mCall} (G : mGood CC) {d : Nat} {vs : List mV} {st : mS} {post : mO → mS → Prop} (hn : (vs.map mcat).sum ≤ 7) (h : ∀ WW : mK, (∀ t ls stk rem st, mat P_RX7 0 sg_ k_41 [] (CC d) WW post t ls stk rem st → WW t ls stk rem st) → WW 0 (margs 0 vs) [] (0, 0) st) : CC (d + 1) 41 vs st post :=
  G.2 d 41 q_41 vs st post rfl hn (by rw [show Pl_ (qY q_41).cls = P_RX7 from Pl_RX7]; exact h)
set_option maxRecDepth 20000 in
/-- FerryrosterModel.relieves(I)Z -/
theorem go_42 {CC : Nat → mCall} (G : mGood CC) {d : Nat} {vs : List mV} {st : mS} {post : mO → mS → Prop} (hn : (vs.map mcat).sum ≤ 4) (h : ∀ WW : mK, (∀ t ls stk rem st, mat P_RX7 1 sg_ k_42 [] (CC d) WW post t ls stk rem st → WW t ls stk rem st) → WW 0 (margs 0 vs) [] (0, 0) st) : CC (d + 1) 42 vs st post :=
  G.2 d 42 q_42 vs st post rfl hn (by rw [show Pl_ (qY q_42).cls = P_RX7 from Pl_RX7]; exact h)
set_option maxRecDepth 20000 in
/-- FerryrosterModel.relieve(I)I -/
theorem go_43 {CC : Nat → mCall} (G : mGood CC) {d : Nat} {vs : List mV} {st : mS} {post : mO → mS → Prop} (hn : (vs.map mcat).sum ≤ 2) (h : ∀ WW : mK, (∀ t ls stk rem st, mat P_RX7 0 sg_ k_43 [] (CC d) WW post t ls stk rem st → WW t ls stk rem st) → WW 0 (margs 0 vs) [] (0, 0) st) : CC (d + 1) 43 vs st post :=
  G.2 d 43 q_43 vs st post rfl hn (by rw [show Pl_ (qY q_43).cls = P_RX7 from Pl_RX7]; exact h)
set_option maxRecDepth 20000 in
/-- FerryrosterModel.copies([I[II)V -/
theorem go_44 {CC : Nat → mCall} (G : mGood CC) {d : Nat} {vs : List mV} {st : mS} {post : mO → mS → Prop} (hn : (vs.map mcat).sum ≤ 4) (h : ∀ WW : mK, (∀ t ls stk rem st, mat P_RX7 0 sg_ k_44 [] (CC d) WW post t ls stk rem st → WW t ls stk rem st) → WW 0 (margs 0 vs) [] (0, 0) st) : CC (d + 1) 44 vs st post :=
  G.2 d 44 q_44 vs st post rfl hn (by rw [show Pl_ (qY q_44).cls = P_RX7 from Pl_RX7]; exact h)
set_option maxRecDepth 20000 in
/-- FerryrosterModel.looks()I -/
theorem go_45 {CC : Nat → mCall} (G : mGood CC) {d : Nat} {vs : List mV} {st : mS} {post : mO → mS → Prop} (hn : (vs.map mcat).sum ≤ 4) (h : ∀ WW : mK, (∀ t ls stk rem st, mat P_RX7 0 sg_ k_45 [] (CC d) WW post t ls stk rem st → WW t ls stk rem st) → WW 0 (margs 0 vs) [] (0, 0) st) : CC (d + 1) 45 vs st post :=
  G.2 d 45 q_45 vs st post rfl hn (by rw [show Pl_ (qY q_45).cls = P_RX7 from Pl_RX7]; exact h)
set_option maxRecDepth 20000 in
/-- FerryrosterModel.turns(I)Z -/
theorem go_46 {CC : Nat → mCall} (G : mGood CC) {d : Nat} {vs : List mV} {st : mS} {post : mO → mS → Prop} (hn : (vs.map mcat).sum ≤ 6) (h : ∀ WW : mK, (∀ t ls stk rem st, mat P_RX7 1 sg_ k_46 [] (CC d) WW post t ls stk rem st → WW t ls stk rem st) → WW 0 (margs 0 vs) [] (0, 0) st) : CC (d + 1) 46 vs st post :=
  G.2 d 46 q_46 vs st post rfl hn (by rw [show Pl_ (qY q_46).cls = P_RX7 from Pl_RX7]; exact h)
set_option maxRecDepth 20000 in
/-- FerryrosterModel.swaps(II)V -/
theorem go_47 {CC : Nat → mCall} (G : mGood CC) {d : Nat} {vs : List mV} {st : mS} {post : mO → mS → Prop} (hn : (vs.map mcat).sum ≤ 4) (h : ∀ WW : mK, (∀ t ls stk rem st, mat P_RX7 0 sg_ k_47 [] (CC d) WW post t ls stk rem st → WW t ls stk rem st) → WW 0 (margs 0 vs) [] (0, 0) st) : CC (d + 1) 47 vs st post :=
  G.2 d 47 q_47 vs st post rfl hn (by rw [show Pl_ (qY q_47).cls = P_RX7 from Pl_RX7]; exact h)
set_option maxRecDepth 20000 in
/-- FerryrosterModel.relieveAll()I -/
theorem go_48 {CC : Nat → mCall} (G : mGood CC) {d : Nat} {vs : List mV} {st : mS} {post : mO → mS → Prop} (hn : (vs.map mcat).sum ≤ 7) (h : ∀ WW : mK, (∀ t ls stk rem st, mat P_RX7 0 sg_ k_48 [] (CC d) WW post t ls stk rem st → WW t ls stk rem st) → WW 0 (margs 0 vs) [] (0, 0) st) : CC (d + 1) 48 vs st post :=
  G.2 d 48 q_48 vs st post rfl hn (by rw [show Pl_ (qY q_48).cls = P_RX7 from Pl_RX7]; exact h)
set_option maxRecDepth 20000 in
/-- FerryrosterModel.stateOf(I)C -/
theorem go_49 {CC : Nat → mCall} (G : mGood CC) {d : Nat} {vs : List mV} {st : mS} {post : mO → mS → Prop} (hn : (vs.map mcat).sum ≤ 2) (h : ∀ WW : mK, (∀ t ls stk rem st, mat P_RX7 2 sg_ k_49 [] (CC d) WW post t ls stk rem st → WW t ls stk rem st) → WW 0 (margs 0 vs) [] (0, 0) st) : CC (d + 1) 49 vs st post :=
  G.2 d 49 q_49 vs st post rfl hn (by rw [show Pl_ (qY q_49).cls = P_RX7 from Pl_RX7]; exact h)
set_option maxRecDepth 20000 in
/-- FerryrosterModel.personOn(II)I -/
theorem go_50 {CC : Nat → mCall} (G : mGood CC) {d : Nat} {vs : List mV} {st : mS} {post : mO → mS → Prop} (hn : (vs.map mcat).sum ≤ 3) (h : ∀ WW : mK, (∀ t ls stk rem st, mat P_RX7 0 sg_ k_50 [] (CC d) WW post t ls stk rem st → WW t ls stk rem st) → WW 0 (margs 0 vs) [] (0, 0) st) : CC (d + 1) 50 vs st post :=
  G.2 d 50 q_50 vs st post rfl hn (by rw [show Pl_ (qY q_50).cls = P_RX7 from Pl_RX7]; exact h)
set_option maxRecDepth 20000 in
/-- FerryrosterModel.isComplete(I)Z -/
theorem go_51 {CC : Nat → mCall} (G : mGood CC) {d : Nat} {vs : List mV} {st : mS} {post : mO → mS → Prop} (hn : (vs.map mcat).sum ≤ 2) (h : ∀ WW : mK, (∀ t ls stk rem st, mat P_RX7 1 sg_ k_51 [] (CC d) WW post t ls stk rem st → WW t ls stk rem st) → WW 0 (margs 0 vs) [] (0, 0) st) : CC (d + 1) 51 vs st post :=
  G.2 d 51 q_51 vs st post rfl hn (by rw [show Pl_ (qY q_51).cls = P_RX7 from Pl_RX7]; exact h)
set_option maxRecDepth 20000 in
/-- FerryrosterModel.reason(III)I -/
theorem go_52 {CC : Nat → mCall} (G : mGood CC) {d : Nat} {vs : List mV} {st : mS} {post : mO → mS → Prop} (hn : (vs.map mcat).sum ≤ 4) (h : ∀ WW : mK, (∀ t ls stk rem st, mat P_RX7 0 sg_ k_52 [] (CC d) WW post t ls stk rem st → WW t ls stk rem st) → WW 0 (margs 0 vs) [] (0, 0) st) : CC (d + 1) 52 vs st post :=
  G.2 d 52 q_52 vs st post rfl hn (by rw [show Pl_ (qY q_52).cls = P_RX7 from Pl_RX7]; exact h)
set_option maxRecDepth 20000 in
/-- FerryrosterModel.fitting(II)I -/
theorem go_53 {CC : Nat → mCall} (G : mGood CC) {d : Nat} {vs : List mV} {st : mS} {post : mO → mS → Prop} (hn : (vs.map mcat).sum ≤ 5) (h : ∀ WW : mK, (∀ t ls stk rem st, mat P_RX7 0 sg_ k_53 [] (CC d) WW post t ls stk rem st → WW t ls stk rem st) → WW 0 (margs 0 vs) [] (0, 0) st) : CC (d + 1) 53 vs st post :=
  G.2 d 53 q_53 vs st post rfl hn (by rw [show Pl_ (qY q_53).cls = P_RX7 from Pl_RX7]; exact h)
set_option maxRecDepth 20000 in
/-- FerryrosterModel.shortSailings()I -/
theorem go_54 {CC : Nat → mCall} (G : mGood CC) {d : Nat} {vs : List mV} {st : mS} {post : mO → mS → Prop} (hn : (vs.map mcat).sum ≤ 3) (h : ∀ WW : mK, (∀ t ls stk rem st, mat P_RX7 0 sg_ k_54 [] (CC d) WW post t ls stk rem st → WW t ls stk rem st) → WW 0 (margs 0 vs) [] (0, 0) st) : CC (d + 1) 54 vs st post :=
  G.2 d 54 q_54 vs st post rfl hn (by rw [show Pl_ (qY q_54).cls = P_RX7 from Pl_RX7]; exact h)
set_option maxRecDepth 20000 in
/-- FerryrosterModel.sailings(C)I -/
theorem go_55 {CC : Nat → mCall} (G : mGood CC) {d : Nat} {vs : List mV} {st : mS} {post : mO → mS → Prop} (hn : (vs.map mcat).sum ≤ 4) (h : ∀ WW : mK, (∀ t ls stk rem st, mat P_RX7 0 sg_ k_55 [] (CC d) WW post t ls stk rem st → WW t ls stk rem st) → WW 0 (margs 0 vs) [] (0, 0) st) : CC (d + 1) 55 vs st post :=
  G.2 d 55 q_55 vs st post rfl hn (by rw [show Pl_ (qY q_55).cls = P_RX7 from Pl_RX7]; exact h)
set_option maxRecDepth 20000 in
/-- FerryrosterModel.work(III)I -/
theorem go_56 {CC : Nat → mCall} (G : mGood CC) {d : Nat} {vs : List mV} {st : mS} {post : mO → mS → Prop} (hn : (vs.map mcat).sum ≤ 4) (h : ∀ WW : mK, (∀ t ls stk rem st, mat P_RX7 0 sg_ k_56 [] (CC d) WW post t ls stk rem st → WW t ls stk rem st) → WW 0 (margs 0 vs) [] (0, 0) st) : CC (d + 1) 56 vs st post :=
  G.2 d 56 q_56 vs st post rfl hn (by rw [show Pl_ (qY q_56).cls = P_RX7 from Pl_RX7]; exact h)
set_option maxRecDepth 20000 in
/-- FerryrosterModel.most(II)I -/
theorem go_57 {CC : Nat → mCall} (G : mGood CC) {d : Nat} {vs : List mV} {st : mS} {post : mO → mS → Prop} (hn : (vs.map mcat).sum ≤ 5) (h : ∀ WW : mK, (∀ t ls stk rem st, mat P_RX7 0 sg_ k_57 [] (CC d) WW post t ls stk rem st → WW t ls stk rem st) → WW 0 (margs 0 vs) [] (0, 0) st) : CC (d + 1) 57 vs st post :=
  G.2 d 57 q_57 vs st post rfl hn (by rw [show Pl_ (qY q_57).cls = P_RX7 from Pl_RX7]; exact h)
set_option maxRecDepth 20000 in
/-- FerryrosterModel.mostInDay(I)I -/
theorem go_58 {CC : Nat → mCall} (G : mGood CC) {d : Nat} {vs : List mV} {st : mS} {post : mO → mS → Prop} (hn : (vs.map mcat).sum ≤ 2) (h : ∀ WW : mK, (∀ t ls stk rem st, mat P_RX7 0 sg_ k_58 [] (CC d) WW post t ls stk rem st → WW t ls stk rem st) → WW 0 (margs 0 vs) [] (0, 0) st) : CC (d + 1) 58 vs st post :=
  G.2 d 58 q_58 vs st post rfl hn (by rw [show Pl_ (qY q_58).cls = P_RX7 from Pl_RX7]; exact h)
set_option maxRecDepth 20000 in
/-- FerryrosterModel.mostInDayByHours(I)I -/
theorem go_59 {CC : Nat → mCall} (G : mGood CC) {d : Nat} {vs : List mV} {st : mS} {post : mO → mS → Prop} (hn : (vs.map mcat).sum ≤ 2) (h : ∀ WW : mK, (∀ t ls stk rem st, mat P_RX7 0 sg_ k_59 [] (CC d) WW post t ls stk rem st → WW t ls stk rem st) → WW 0 (margs 0 vs) [] (0, 0) st) : CC (d + 1) 59 vs st post :=
  G.2 d 59 q_59 vs st post rfl hn (by rw [show Pl_ (qY q_59).cls = P_RX7 from Pl_RX7]; exact h)
set_option maxRecDepth 20000 in
/-- FerryrosterModel.mostInWeek(I)I -/
theorem go_60 {CC : Nat → mCall} (G : mGood CC) {d : Nat} {vs : List mV} {st : mS} {post : mO → mS → Prop} (hn : (vs.map mcat).sum ≤ 2) (h : ∀ WW : mK, (∀ t ls stk rem st, mat P_RX7 0 sg_ k_60 [] (CC d) WW post t ls stk rem st → WW t ls stk rem st) → WW 0 (margs 0 vs) [] (0, 0) st) : CC (d + 1) 60 vs st post :=
  G.2 d 60 q_60 vs st post rfl hn (by rw [show Pl_ (qY q_60).cls = P_RX7 from Pl_RX7]; exact h)
set_option maxRecDepth 20000 in
/-- FerryrosterModel.mostInWeekByHours(I)I -/
theorem go_61 {CC : Nat → mCall} (G : mGood CC) {d : Nat} {vs : List mV} {st : mS} {post : mO → mS → Prop} (hn : (vs.map mcat).sum ≤ 2) (h : ∀ WW : mK, (∀ t ls stk rem st, mat P_RX7 0 sg_ k_61 [] (CC d) WW post t ls stk rem st → WW t ls stk rem st) → WW 0 (margs 0 vs) [] (0, 0) st) : CC (d + 1) 61 vs st post :=
  G.2 d 61 q_61 vs st post rfl hn (by rw [show Pl_ (qY q_61).cls = P_RX7 from Pl_RX7]; exact h)
set_option maxRecDepth 20000 in
/-- FerryrosterModel.nextStart(II)I -/
theorem go_62 {CC : Nat → mCall} (G : mGood CC) {d : Nat} {vs : List mV} {st : mS} {post : mO → mS → Prop} (hn : (vs.map mcat).sum ≤ 4) (h : ∀ WW : mK, (∀ t ls stk rem st, mat P_RX7 0 sg_ k_62 [] (CC d) WW post t ls stk rem st → WW t ls stk rem st) → WW 0 (margs 0 vs) [] (0, 0) st) : CC (d + 1) 62 vs st post :=
  G.2 d 62 q_62 vs st post rfl hn (by rw [show Pl_ (qY q_62).cls = P_RX7 from Pl_RX7]; exact h)
set_option maxRecDepth 20000 in
/-- FerryrosterModel.workShare(I)F -/
theorem go_63 {CC : Nat → mCall} (G : mGood CC) {d : Nat} {vs : List mV} {st : mS} {post : mO → mS → Prop} (hn : (vs.map mcat).sum ≤ 2) (h : ∀ WW : mK, (∀ t ls stk rem st, mat P_RX7 0 sg_ k_63 [] (CC d) WW post t ls stk rem st → WW t ls stk rem st) → WW 0 (margs 0 vs) [] (0, 0) st) : CC (d + 1) 63 vs st post :=
  G.2 d 63 q_63 vs st post rfl hn (by rw [show Pl_ (qY q_63).cls = P_RX7 from Pl_RX7]; exact h)
set_option maxRecDepth 20000 in
/-- FerryrosterModel.meanWork()D -/
theorem go_64 {CC : Nat → mCall} (G : mGood CC) {d : Nat} {vs : List mV} {st : mS} {post : mO → mS → Prop} (hn : (vs.map mcat).sum ≤ 3) (h : ∀ WW : mK, (∀ t ls stk rem st, mat P_RX7 0 sg_ k_64 [] (CC d) WW post t ls stk rem st → WW t ls stk rem st) → WW 0 (margs 0 vs) [] (0, 0) st) : CC (d + 1) 64 vs st post :=
  G.2 d 64 q_64 vs st post rfl hn (by rw [show Pl_ (qY q_64).cls = P_RX7 from Pl_RX7]; exact h)
set_option maxRecDepth 20000 in
/-- FerryrosterModel.isSound()Z -/
theorem go_65 {CC : Nat → mCall} (G : mGood CC) {d : Nat} {vs : List mV} {st : mS} {post : mO → mS → Prop} (hn : (vs.map mcat).sum ≤ 1) (h : ∀ WW : mK, (∀ t ls stk rem st, mat P_RX7 1 sg_ k_65 [] (CC d) WW post t ls stk rem st → WW t ls stk rem st) → WW 0 (margs 0 vs) [] (0, 0) st) : CC (d + 1) 65 vs st post :=
  G.2 d 65 q_65 vs st post rfl hn (by rw [show Pl_ (qY q_65).cls = P_RX7 from Pl_RX7]; exact h)
set_option maxRecDepth 20000 in
/-- Ferryroster$Days.add(II)V -/
theorem go_66 {CC : Nat → mCall} (G : mGood CC) {d : Nat} {vs : List mV} {st : mS} {post : mO → mS → Prop} (hn : (vs.map mcat).sum ≤ 4) (h : ∀ WW : mK, (∀ t ls stk rem st, mat P_RX1 0 sg_ k_66 [] (CC d) WW post t ls stk rem st → WW t ls stk rem st) → WW 0 (margs 0 vs) [] (0, 0) st) : CC (d + 1) 66 vs st post :=
  G.2 d 66 q_66 vs st post rfl hn (by rw [show Pl_ (qY q_66).cls = P_RX1 from Pl_RX1]; exact h)
set_option maxRecDepth 20000 in
/-- Ferryroster$Days.removeFrom(I)V -/
theorem go_67 {CC : Nat → mCall} (G : mGood CC) {d : Nat} {vs : List mV} {st : mS} {post : mO → mS → Prop} (hn : (vs.map mcat).sum ≤ 2) (h : ∀ WW : mK, (∀ t ls stk rem st, mat P_RX1 0 sg_ k_67 [] (CC d) WW post t ls stk rem st → WW t ls stk rem st) → WW 0 (margs 0 vs) [] (0, 0) st) : CC (d + 1) 67 vs st post :=
  G.2 d 67 q_67 vs st post rfl hn (by rw [show Pl_ (qY q_67).cls = P_RX1 from Pl_RX1]; exact h)
set_option maxRecDepth 20000 in
/-- Ferryroster$Days.countFrom(I)I -/
theorem go_68 {CC : Nat → mCall} (G : mGood CC) {d : Nat} {vs : List mV} {st : mS} {post : mO → mS → Prop} (hn : (vs.map mcat).sum ≤ 2) (h : ∀ WW : mK, (∀ t ls stk rem st, mat P_RX1 0 sg_ k_68 [] (CC d) WW post t ls stk rem st → WW t ls stk rem st) → WW 0 (margs 0 vs) [] (0, 0) st) : CC (d + 1) 68 vs st post :=
  G.2 d 68 q_68 vs st post rfl hn (by rw [show Pl_ (qY q_68).cls = P_RX1 from Pl_RX1]; exact h)
set_option maxRecDepth 20000 in
/-- Ferryroster$Days.has(I)Z -/
theorem go_69 {CC : Nat → mCall} (G : mGood CC) {d : Nat} {vs : List mV} {st : mS} {post : mO → mS → Prop} (hn : (vs.map mcat).sum ≤ 2) (h : ∀ WW : mK, (∀ t ls stk rem st, mat P_RX1 1 sg_ k_69 [] (CC d) WW post t ls stk rem st → WW t ls stk rem st) → WW 0 (margs 0 vs) [] (0, 0) st) : CC (d + 1) 69 vs st post :=
  G.2 d 69 q_69 vs st post rfl hn (by rw [show Pl_ (qY q_69).cls = P_RX1 from Pl_RX1]; exact h)
set_option maxRecDepth 20000 in
/-- Ferryroster$Days.hasAny(II)Z -/
theorem go_70 {CC : Nat → mCall} (G : mGood CC) {d : Nat} {vs : List mV} {st : mS} {post : mO → mS → Prop} (hn : (vs.map mcat).sum ≤ 4) (h : ∀ WW : mK, (∀ t ls stk rem st, mat P_RX1 1 sg_ k_70 [] (CC d) WW post t ls stk rem st → WW t ls stk rem st) → WW 0 (margs 0 vs) [] (0, 0) st) : CC (d + 1) 70 vs st post :=
  G.2 d 70 q_70 vs st post rfl hn (by rw [show Pl_ (qY q_70).cls = P_RX1 from Pl_RX1]; exact h)
set_option maxRecDepth 20000 in
/-- Ferryroster$Sailing.isPlanned()Z -/
theorem go_71 {CC : Nat → mCall} (G : mGood CC) {d : Nat} {vs : List mV} {st : mS} {post : mO → mS → Prop} (hn : (vs.map mcat).sum ≤ 1) (h : ∀ WW : mK, (∀ t ls stk rem st, mat P_RX4 1 sg_ k_71 [] (CC d) WW post t ls stk rem st → WW t ls stk rem st) → WW 0 (margs 0 vs) [] (0, 0) st) : CC (d + 1) 71 vs st post :=
  G.2 d 71 q_71 vs st post rfl hn (by rw [show Pl_ (qY q_71).cls = P_RX4 from Pl_RX4]; exact h)
set_option maxRecDepth 20000 in
/-- Ferryroster$Sailing.firstDay()I -/
theorem go_72 {CC : Nat → mCall} (G : mGood CC) {d : Nat} {vs : List mV} {st : mS} {post : mO → mS → Prop} (hn : (vs.map mcat).sum ≤ 1) (h : ∀ WW : mK, (∀ t ls stk rem st, mat P_RX4 0 sg_ k_72 [] (CC d) WW post t ls stk rem st → WW t ls stk rem st) → WW 0 (margs 0 vs) [] (0, 0) st) : CC (d + 1) 72 vs st post :=
  G.2 d 72 q_72 vs st post rfl hn (by rw [show Pl_ (qY q_72).cls = P_RX4 from Pl_RX4]; exact h)
set_option maxRecDepth 20000 in
/-- Ferryroster$Sailing.finalDay()I -/
theorem go_73 {CC : Nat → mCall} (G : mGood CC) {d : Nat} {vs : List mV} {st : mS} {post : mO → mS → Prop} (hn : (vs.map mcat).sum ≤ 1) (h : ∀ WW : mK, (∀ t ls stk rem st, mat P_RX4 0 sg_ k_73 [] (CC d) WW post t ls stk rem st → WW t ls stk rem st) → WW 0 (margs 0 vs) [] (0, 0) st) : CC (d + 1) 73 vs st post :=
  G.2 d 73 q_73 vs st post rfl hn (by rw [show Pl_ (qY q_73).cls = P_RX4 from Pl_RX4]; exact h)
set_option maxRecDepth 20000 in
/-- Ferryroster$Sailing.hoursBetween(II)I -/
theorem go_74 {CC : Nat → mCall} (G : mGood CC) {d : Nat} {vs : List mV} {st : mS} {post : mO → mS → Prop} (hn : (vs.map mcat).sum ≤ 3) (h : ∀ WW : mK, (∀ t ls stk rem st, mat P_RX4 0 sg_ k_74 [] (CC d) WW post t ls stk rem st → WW t ls stk rem st) → WW 0 (margs 0 vs) [] (0, 0) st) : CC (d + 1) 74 vs st post :=
  G.2 d 74 q_74 vs st post rfl hn (by rw [show Pl_ (qY q_74).cls = P_RX4 from Pl_RX4]; exact h)
set_option maxRecDepth 20000 in
/-- Ferryroster$Sailing.crewAt(I)I -/
theorem go_75 {CC : Nat → mCall} (G : mGood CC) {d : Nat} {vs : List mV} {st : mS} {post : mO → mS → Prop} (hn : (vs.map mcat).sum ≤ 2) (h : ∀ WW : mK, (∀ t ls stk rem st, mat P_RX4 0 sg_ k_75 [] (CC d) WW post t ls stk rem st → WW t ls stk rem st) → WW 0 (margs 0 vs) [] (0, 0) st) : CC (d + 1) 75 vs st post :=
  G.2 d 75 q_75 vs st post rfl hn (by rw [show Pl_ (qY q_75).cls = P_RX4 from Pl_RX4]; exact h)
set_option maxRecDepth 20000 in
/-- Ferryroster$Sailing.setCrew(II)V -/
theorem go_76 {CC : Nat → mCall} (G : mGood CC) {d : Nat} {vs : List mV} {st : mS} {post : mO → mS → Prop} (hn : (vs.map mcat).sum ≤ 3) (h : ∀ WW : mK, (∀ t ls stk rem st, mat P_RX4 0 sg_ k_76 [] (CC d) WW post t ls stk rem st → WW t ls stk rem st) → WW 0 (margs 0 vs) [] (0, 0) st) : CC (d + 1) 76 vs st post :=
  G.2 d 76 q_76 vs st post rfl hn (by rw [show Pl_ (qY q_76).cls = P_RX4 from Pl_RX4]; exact h)
set_option maxRecDepth 20000 in
/-- Ferryroster$Sailing.keepCrew()V -/
theorem go_77 {CC : Nat → mCall} (G : mGood CC) {d : Nat} {vs : List mV} {st : mS} {post : mO → mS → Prop} (hn : (vs.map mcat).sum ≤ 2) (h : ∀ WW : mK, (∀ t ls stk rem st, mat P_RX4 0 sg_ k_77 [] (CC d) WW post t ls stk rem st → WW t ls stk rem st) → WW 0 (margs 0 vs) [] (0, 0) st) : CC (d + 1) 77 vs st post :=
  G.2 d 77 q_77 vs st post rfl hn (by rw [show Pl_ (qY q_77).cls = P_RX4 from Pl_RX4]; exact h)
set_option maxRecDepth 20000 in
/-- Ferryroster$Sailing.crewKeptAt(I)I -/
theorem go_78 {CC : Nat → mCall} (G : mGood CC) {d : Nat} {vs : List mV} {st : mS} {post : mO → mS → Prop} (hn : (vs.map mcat).sum ≤ 2) (h : ∀ WW : mK, (∀ t ls stk rem st, mat P_RX4 0 sg_ k_78 [] (CC d) WW post t ls stk rem st → WW t ls stk rem st) → WW 0 (margs 0 vs) [] (0, 0) st) : CC (d + 1) 78 vs st post :=
  G.2 d 78 q_78 vs st post rfl hn (by rw [show Pl_ (qY q_78).cls = P_RX4 from Pl_RX4]; exact h)
set_option maxRecDepth 20000 in
/-- Ferryroster$Sailing.has(I)Z -/
theorem go_79 {CC : Nat → mCall} (G : mGood CC) {d : Nat} {vs : List mV} {st : mS} {post : mO → mS → Prop} (hn : (vs.map mcat).sum ≤ 3) (h : ∀ WW : mK, (∀ t ls stk rem st, mat P_RX4 1 sg_ k_79 [] (CC d) WW post t ls stk rem st → WW t ls stk rem st) → WW 0 (margs 0 vs) [] (0, 0) st) : CC (d + 1) 79 vs st post :=
  G.2 d 79 q_79 vs st post rfl hn (by rw [show Pl_ (qY q_79).cls = P_RX4 from Pl_RX4]; exact h)
set_option maxRecDepth 20000 in
/-- Ferryroster$Sailing.crewSize()I -/
theorem go_80 {CC : Nat → mCall} (G : mGood CC) {d : Nat} {vs : List mV} {st : mS} {post : mO → mS → Prop} (hn : (vs.map mcat).sum ≤ 3) (h : ∀ WW : mK, (∀ t ls stk rem st, mat P_RX4 0 sg_ k_80 [] (CC d) WW post t ls stk rem st → WW t ls stk rem st) → WW 0 (margs 0 vs) [] (0, 0) st) : CC (d + 1) 80 vs st post :=
  G.2 d 80 q_80 vs st post rfl hn (by rw [show Pl_ (qY q_80).cls = P_RX4 from Pl_RX4]; exact h)
set_option maxRecDepth 20000 in
/-- Ferryroster$Sailing.hasSomebodyOf(LFerryroster$Sailing;)Z -/
theorem go_81 {CC : Nat → mCall} (G : mGood CC) {d : Nat} {vs : List mV} {st : mS} {post : mO → mS → Prop} (hn : (vs.map mcat).sum ≤ 3) (h : ∀ WW : mK, (∀ t ls stk rem st, mat P_RX4 1 sg_ k_81 [] (CC d) WW post t ls stk rem st → WW t ls stk rem st) → WW 0 (margs 0 vs) [] (0, 0) st) : CC (d + 1) 81 vs st post :=
  G.2 d 81 q_81 vs st post rfl hn (by rw [show Pl_ (qY q_81).cls = P_RX4 from Pl_RX4]; exact h)
set_option maxRecDepth 20000 in
/-- Ferryroster$Ship.addPostOf(I)V -/
theorem go_82 {CC : Nat → mCall} (G : mGood CC) {d : Nat} {vs : List mV} {st : mS} {post : mO → mS → Prop} (hn : (vs.map mcat).sum ≤ 2) (h : ∀ WW : mK, (∀ t ls stk rem st, mat P_RX5 0 sg_ k_82 [] (CC d) WW post t ls stk rem st → WW t ls stk rem st) → WW 0 (margs 0 vs) [] (0, 0) st) : CC (d + 1) 82 vs st post :=
  G.2 d 82 q_82 vs st post rfl hn (by rw [show Pl_ (qY q_82).cls = P_RX5 from Pl_RX5]; exact h)
set_option maxRecDepth 20000 in
/-- Ferryroster$Ship.kindOf(I)I -/
theorem go_83 {CC : Nat → mCall} (G : mGood CC) {d : Nat} {vs : List mV} {st : mS} {post : mO → mS → Prop} (hn : (vs.map mcat).sum ≤ 2) (h : ∀ WW : mK, (∀ t ls stk rem st, mat P_RX5 0 sg_ k_83 [] (CC d) WW post t ls stk rem st → WW t ls stk rem st) → WW 0 (margs 0 vs) [] (0, 0) st) : CC (d + 1) 83 vs st post :=
  G.2 d 83 q_83 vs st post rfl hn (by rw [show Pl_ (qY q_83).cls = P_RX5 from Pl_RX5]; exact h)
set_option maxRecDepth 20000 in
/-- Ferryroster$CrewSearch.begin(LFerryroster$Sailing;)V -/
theorem go_84 {CC : Nat → mCall} (G : mGood CC) {d : Nat} {vs : List mV} {st : mS} {post : mO → mS → Prop} (hn : (vs.map mcat).sum ≤ 3) (h : ∀ WW : mK, (∀ t ls stk rem st, mat P_RX0 0 sg_ k_84 [] (CC d) WW post t ls stk rem st → WW t ls stk rem st) → WW 0 (margs 0 vs) [] (0, 0) st) : CC (d + 1) 84 vs st post :=
  G.2 d 84 q_84 vs st post rfl hn (by rw [show Pl_ (qY q_84).cls = P_RX0 from Pl_RX0]; exact h)
set_option maxRecDepth 20000 in
/-- Ferryroster$CrewSearch.allow(II)V -/
theorem go_85 {CC : Nat → mCall} (G : mGood CC) {d : Nat} {vs : List mV} {st : mS} {post : mO → mS → Prop} (hn : (vs.map mcat).sum ≤ 3) (h : ∀ WW : mK, (∀ t ls stk rem st, mat P_RX0 0 sg_ k_85 [] (CC d) WW post t ls stk rem st → WW t ls stk rem st) → WW 0 (margs 0 vs) [] (0, 0) st) : CC (d + 1) 85 vs st post :=
  G.2 d 85 q_85 vs st post rfl hn (by rw [show Pl_ (qY q_85).cls = P_RX0 from Pl_RX0]; exact h)
set_option maxRecDepth 20000 in
/-- Ferryroster$CrewSearch.findCrew()Z -/
theorem go_86 {CC : Nat → mCall} (G : mGood CC) {d : Nat} {vs : List mV} {st : mS} {post : mO → mS → Prop} (hn : (vs.map mcat).sum ≤ 1) (h : ∀ WW : mK, (∀ t ls stk rem st, mat P_RX0 1 sg_ k_86 [] (CC d) WW post t ls stk rem st → WW t ls stk rem st) → WW 0 (margs 0 vs) [] (0, 0) st) : CC (d + 1) 86 vs st post :=
  G.2 d 86 q_86 vs st post rfl hn (by rw [show Pl_ (qY q_86).cls = P_RX0 from Pl_RX0]; exact h)
set_option maxRecDepth 20000 in
/-- Ferryroster$CrewSearch.foundAt(I)I -/
theorem go_87 {CC : Nat → mCall} (G : mGood CC) {d : Nat} {vs : List mV} {st : mS} {post : mO → mS → Prop} (hn : (vs.map mcat).sum ≤ 2) (h : ∀ WW : mK, (∀ t ls stk rem st, mat P_RX0 0 sg_ k_87 [] (CC d) WW post t ls stk rem st → WW t ls stk rem st) → WW 0 (margs 0 vs) [] (0, 0) st) : CC (d + 1) 87 vs st post :=
  G.2 d 87 q_87 vs st post rfl hn (by rw [show Pl_ (qY q_87).cls = P_RX0 from Pl_RX0]; exact h)
set_option maxRecDepth 20000 in
/-- Ferryroster$CrewSearch.fillPosts(LFerryroster$CrewSearch;III)V -/
theorem go_88 {CC : Nat → mCall} (G : mGood CC) {d : Nat} {vs : List mV} {st : mS} {post : mO → mS → Prop} (hn : (vs.map mcat).sum ≤ 7) (h : ∀ WW : mK, (∀ t ls stk rem st, mat P_RX0 0 sg_ k_88 [] (CC d) WW post t ls stk rem st → WW t ls stk rem st) → WW 0 (margs 0 vs) [] (0, 0) st) : CC (d + 1) 88 vs st post :=
  G.2 d 88 q_88 vs st post rfl hn (by rw [show Pl_ (qY q_88).cls = P_RX0 from Pl_RX0]; exact h)
set_option maxRecDepth 20000 in
/-- Ferryroster$CrewSearch.keep(I)V -/
theorem go_89 {CC : Nat → mCall} (G : mGood CC) {d : Nat} {vs : List mV} {st : mS} {post : mO → mS → Prop} (hn : (vs.map mcat).sum ≤ 3) (h : ∀ WW : mK, (∀ t ls stk rem st, mat P_RX0 0 sg_ k_89 [] (CC d) WW post t ls stk rem st → WW t ls stk rem st) → WW 0 (margs 0 vs) [] (0, 0) st) : CC (d + 1) 89 vs st post :=
  G.2 d 89 q_89 vs st post rfl hn (by rw [show Pl_ (qY q_89).cls = P_RX0 from Pl_RX0]; exact h)
set_option maxRecDepth 20000 in
/-- Ferryroster$OrderSearch.clear()V -/
theorem go_90 {CC : Nat → mCall} (G : mGood CC) {d : Nat} {vs : List mV} {st : mS} {post : mO → mS → Prop} (hn : (vs.map mcat).sum ≤ 1) (h : ∀ WW : mK, (∀ t ls stk rem st, mat P_RX2 0 sg_ k_90 [] (CC d) WW post t ls stk rem st → WW t ls stk rem st) → WW 0 (margs 0 vs) [] (0, 0) st) : CC (d + 1) 90 vs st post :=
  G.2 d 90 q_90 vs st post rfl hn (by rw [show Pl_ (qY q_90).cls = P_RX2 from Pl_RX2]; exact h)
set_option maxRecDepth 20000 in
/-- Ferryroster$OrderSearch.lookAt(LFerryroster$Sailing;)V -/
theorem go_91 {CC : Nat → mCall} (G : mGood CC) {d : Nat} {vs : List mV} {st : mS} {post : mO → mS → Prop} (hn : (vs.map mcat).sum ≤ 3) (h : ∀ WW : mK, (∀ t ls stk rem st, mat P_RX2 0 sg_ k_91 [] (CC d) WW post t ls stk rem st → WW t ls stk rem st) → WW 0 (margs 0 vs) [] (1, 16) st) : CC (d + 1) 91 vs st post :=
  G.2 d 91 q_91 vs st post rfl hn (by rw [show Pl_ (qY q_91).cls = P_RX2 from Pl_RX2]; exact h)
set_option maxRecDepth 20000 in
/-- Ferryroster$OrderSearch.keepCrews()V -/
theorem go_92 {CC : Nat → mCall} (G : mGood CC) {d : Nat} {vs : List mV} {st : mS} {post : mO → mS → Prop} (hn : (vs.map mcat).sum ≤ 2) (h : ∀ WW : mK, (∀ t ls stk rem st, mat P_RX2 0 sg_ k_92 [] (CC d) WW post t ls stk rem st → WW t ls stk rem st) → WW 0 (margs 0 vs) [] (0, 0) st) : CC (d + 1) 92 vs st post :=
  G.2 d 92 q_92 vs st post rfl hn (by rw [show Pl_ (qY q_92).cls = P_RX2 from Pl_RX2]; exact h)
set_option maxRecDepth 20000 in
/-- Ferryroster$OrderSearch.choose(II)V -/
theorem go_93 {CC : Nat → mCall} (G : mGood CC) {d : Nat} {vs : List mV} {st : mS} {post : mO → mS → Prop} (hn : (vs.map mcat).sum ≤ 3) (h : ∀ WW : mK, (∀ t ls stk rem st, mat P_RX2 0 sg_ k_93 [] (CC d) WW post t ls stk rem st → WW t ls stk rem st) → WW 0 (margs 0 vs) [] (0, 0) st) : CC (d + 1) 93 vs st post :=
  G.2 d 93 q_93 vs st post rfl hn (by rw [show Pl_ (qY q_93).cls = P_RX2 from Pl_RX2]; exact h)
set_option maxRecDepth 20000 in
/-- Ferryroster$OrderSearch.bestPlace(I)I -/
theorem go_94 {CC : Nat → mCall} (G : mGood CC) {d : Nat} {vs : List mV} {st : mS} {post : mO → mS → Prop} (hn : (vs.map mcat).sum ≤ 2) (h : ∀ WW : mK, (∀ t ls stk rem st, mat P_RX2 0 sg_ k_94 [] (CC d) WW post t ls stk rem st → WW t ls stk rem st) → WW 0 (margs 0 vs) [] (0, 0) st) : CC (d + 1) 94 vs st post :=
  G.2 d 94 q_94 vs st post rfl hn (by rw [show Pl_ (qY q_94).cls = P_RX2 from Pl_RX2]; exact h)
set_option maxRecDepth 20000 in
/-- Ferryroster$OrderSearch.isBetter(II)Z -/
theorem go_95 {CC : Nat → mCall} (G : mGood CC) {d : Nat} {vs : List mV} {st : mS} {post : mO → mS → Prop} (hn : (vs.map mcat).sum ≤ 3) (h : ∀ WW : mK, (∀ t ls stk rem st, mat P_RX2 1 sg_ k_95 [] (CC d) WW post t ls stk rem st → WW t ls stk rem st) → WW 0 (margs 0 vs) [] (0, 0) st) : CC (d + 1) 95 vs st post :=
  G.2 d 95 q_95 vs st post rfl hn (by rw [show Pl_ (qY q_95).cls = P_RX2 from Pl_RX2]; exact h)
set_option maxRecDepth 20000 in
/-- Ferryroster$OrderSearch.keep(II)V -/
theorem go_96 {CC : Nat → mCall} (G : mGood CC) {d : Nat} {vs : List mV} {st : mS} {post : mO → mS → Prop} (hn : (vs.map mcat).sum ≤ 4) (h : ∀ WW : mK, (∀ t ls stk rem st, mat P_RX2 0 sg_ k_96 [] (CC d) WW post t ls stk rem st → WW t ls stk rem st) → WW 0 (margs 0 vs) [] (0, 0) st) : CC (d + 1) 96 vs st post :=
  G.2 d 96 q_96 vs st post rfl hn (by rw [show Pl_ (qY q_96).cls = P_RX2 from Pl_RX2]; exact h)
set_option maxRecDepth 20000 in
/-- Ferryroster$Person.isKind(I)Z -/
theorem go_97 {CC : Nat → mCall} (G : mGood CC) {d : Nat} {vs : List mV} {st : mS} {post : mO → mS → Prop} (hn : (vs.map mcat).sum ≤ 1) (h : ∀ WW : mK, (∀ t ls stk rem st, mat P_RX3 1 sg_ k_97 [] (CC d) WW post t ls stk rem st → WW t ls stk rem st) → WW 0 (margs 0 vs) [] (0, 0) st) : CC (d + 1) 97 vs st post :=
  G.2 d 97 q_97 vs st post rfl hn (by rw [show Pl_ (qY q_97).cls = P_RX3 from Pl_RX3]; exact h)
set_option maxRecDepth 20000 in
/-- Ferryroster$Person.lastDayOf(I)I -/
theorem go_98 {CC : Nat → mCall} (G : mGood CC) {d : Nat} {vs : List mV} {st : mS} {post : mO → mS → Prop} (hn : (vs.map mcat).sum ≤ 2) (h : ∀ WW : mK, (∀ t ls stk rem st, mat P_RX3 0 sg_ k_98 [] (CC d) WW post t ls stk rem st → WW t ls stk rem st) → WW 0 (margs 0 vs) [] (0, 0) st) : CC (d + 1) 98 vs st post :=
  G.2 d 98 q_98 vs st post rfl hn (by rw [show Pl_ (qY q_98).cls = P_RX3 from Pl_RX3]; exact h)
set_option maxRecDepth 20000 in
/-- Ferryroster$Person.certify(III)V -/
theorem go_99 {CC : Nat → mCall} (G : mGood CC) {d : Nat} {vs : List mV} {st : mS} {post : mO → mS → Prop} (hn : (vs.map mcat).sum ≤ 4) (h : ∀ WW : mK, (∀ t ls stk rem st, mat P_RX3 0 sg_ k_99 [] (CC d) WW post t ls stk rem st → WW t ls stk rem st) → WW 0 (margs 0 vs) [] (0, 0) st) : CC (d + 1) 99 vs st post :=
  G.2 d 99 q_99 vs st post rfl hn (by rw [show Pl_ (qY q_99).cls = P_RX3 from Pl_RX3]; exact h)
set_option maxRecDepth 20000 in
/-- Ferryroster$Person.prolong(II)V -/
theorem go_100 {CC : Nat → mCall} (G : mGood CC) {d : Nat} {vs : List mV} {st : mS} {post : mO → mS → Prop} (hn : (vs.map mcat).sum ≤ 3) (h : ∀ WW : mK, (∀ t ls stk rem st, mat P_RX3 0 sg_ k_100 [] (CC d) WW post t ls stk rem st → WW t ls stk rem st) → WW 0 (margs 0 vs) [] (0, 0) st) : CC (d + 1) 100 vs st post :=
  G.2 d 100 q_100 vs st post rfl hn (by rw [show Pl_ (qY q_100).cls = P_RX3 from Pl_RX3]; exact h)
set_option maxRecDepth 20000 in
/-- Ferryroster$Person.isCertified(III)Z -/
theorem go_101 {CC : Nat → mCall} (G : mGood CC) {d : Nat} {vs : List mV} {st : mS} {post : mO → mS → Prop} (hn : (vs.map mcat).sum ≤ 4) (h : ∀ WW : mK, (∀ t ls stk rem st, mat P_RX3 1 sg_ k_101 [] (CC d) WW post t ls stk rem st → WW t ls stk rem st) → WW 0 (margs 0 vs) [] (0, 0) st) : CC (d + 1) 101 vs st post :=
  G.2 d 101 q_101 vs st post rfl hn (by rw [show Pl_ (qY q_101).cls = P_RX3 from Pl_RX3]; exact h)
set_option maxRecDepth 20000 in
/-- Ferryroster$Person.hasCourse()Z -/
theorem go_102 {CC : Nat → mCall} (G : mGood CC) {d : Nat} {vs : List mV} {st : mS} {post : mO → mS → Prop} (hn : (vs.map mcat).sum ≤ 1) (h : ∀ WW : mK, (∀ t ls stk rem st, mat P_RX3 1 sg_ k_102 [] (CC d) WW post t ls stk rem st → WW t ls stk rem st) → WW 0 (margs 0 vs) [] (0, 0) st) : CC (d + 1) 102 vs st post :=
  G.2 d 102 q_102 vs st post rfl hn (by rw [show Pl_ (qY q_102).cls = P_RX3 from Pl_RX3]; exact h)
set_option maxRecDepth 20000 in
/-- Ferryroster$Person.beginCourse(III)V -/
theorem go_103 {CC : Nat → mCall} (G : mGood CC) {d : Nat} {vs : List mV} {st : mS} {post : mO → mS → Prop} (hn : (vs.map mcat).sum ≤ 4) (h : ∀ WW : mK, (∀ t ls stk rem st, mat P_RX3 0 sg_ k_103 [] (CC d) WW post t ls stk rem st → WW t ls stk rem st) → WW 0 (margs 0 vs) [] (0, 0) st) : CC (d + 1) 103 vs st post :=
  G.2 d 103 q_103 vs st post rfl hn (by rw [show Pl_ (qY q_103).cls = P_RX3 from Pl_RX3]; exact h)
set_option maxRecDepth 20000 in
/-- Ferryroster$Person.breakCourseOff(I)V -/
theorem go_104 {CC : Nat → mCall} (G : mGood CC) {d : Nat} {vs : List mV} {st : mS} {post : mO → mS → Prop} (hn : (vs.map mcat).sum ≤ 2) (h : ∀ WW : mK, (∀ t ls stk rem st, mat P_RX3 0 sg_ k_104 [] (CC d) WW post t ls stk rem st → WW t ls stk rem st) → WW 0 (margs 0 vs) [] (0, 0) st) : CC (d + 1) 104 vs st post :=
  G.2 d 104 q_104 vs st post rfl hn (by rw [show Pl_ (qY q_104).cls = P_RX3 from Pl_RX3]; exact h)
set_option maxRecDepth 20000 in
/-- Ferryroster$Person.endCourse(I)V -/
theorem go_105 {CC : Nat → mCall} (G : mGood CC) {d : Nat} {vs : List mV} {st : mS} {post : mO → mS → Prop} (hn : (vs.map mcat).sum ≤ 2) (h : ∀ WW : mK, (∀ t ls stk rem st, mat P_RX3 0 sg_ k_105 [] (CC d) WW post t ls stk rem st → WW t ls stk rem st) → WW 0 (margs 0 vs) [] (0, 0) st) : CC (d + 1) 105 vs st post :=
  G.2 d 105 q_105 vs st post rfl hn (by rw [show Pl_ (qY q_105).cls = P_RX3 from Pl_RX3]; exact h)
set_option maxRecDepth 20000 in
/-- Ferryroster$Person.addWork(II)V -/
theorem go_106 {CC : Nat → mCall} (G : mGood CC) {d : Nat} {vs : List mV} {st : mS} {post : mO → mS → Prop} (hn : (vs.map mcat).sum ≤ 4) (h : ∀ WW : mK, (∀ t ls stk rem st, mat P_RX3 0 sg_ k_106 [] (CC d) WW post t ls stk rem st → WW t ls stk rem st) → WW 0 (margs 0 vs) [] (0, 0) st) : CC (d + 1) 106 vs st post :=
  G.2 d 106 q_106 vs st post rfl hn (by rw [show Pl_ (qY q_106).cls = P_RX3 from Pl_RX3]; exact h)
set_option maxRecDepth 20000 in
/-- Ferryroster$Person.removeWork(II)V -/
theorem go_107 {CC : Nat → mCall} (G : mGood CC) {d : Nat} {vs : List mV} {st : mS} {post : mO → mS → Prop} (hn : (vs.map mcat).sum ≤ 4) (h : ∀ WW : mK, (∀ t ls stk rem st, mat P_RX3 0 sg_ k_107 [] (CC d) WW post t ls stk rem st → WW t ls stk rem st) → WW 0 (margs 0 vs) [] (0, 0) st) : CC (d + 1) 107 vs st post :=
  G.2 d 107 q_107 vs st post rfl hn (by rw [show Pl_ (qY q_107).cls = P_RX3 from Pl_RX3]; exact h)
set_option maxRecDepth 20000 in
/-- Ferryroster$Person.worksAt(I)Z -/
theorem go_108 {CC : Nat → mCall} (G : mGood CC) {d : Nat} {vs : List mV} {st : mS} {post : mO → mS → Prop} (hn : (vs.map mcat).sum ≤ 2) (h : ∀ WW : mK, (∀ t ls stk rem st, mat P_RX3 1 sg_ k_108 [] (CC d) WW post t ls stk rem st → WW t ls stk rem st) → WW 0 (margs 0 vs) [] (0, 0) st) : CC (d + 1) 108 vs st post :=
  G.2 d 108 q_108 vs st post rfl hn (by rw [show Pl_ (qY q_108).cls = P_RX3 from Pl_RX3]; exact h)
set_option maxRecDepth 20000 in
/-- Ferryroster$Person.hoursWorked(II)I -/
theorem go_109 {CC : Nat → mCall} (G : mGood CC) {d : Nat} {vs : List mV} {st : mS} {post : mO → mS → Prop} (hn : (vs.map mcat).sum ≤ 5) (h : ∀ WW : mK, (∀ t ls stk rem st, mat P_RX3 0 sg_ k_109 [] (CC d) WW post t ls stk rem st → WW t ls stk rem st) → WW 0 (margs 0 vs) [] (0, 0) st) : CC (d + 1) 109 vs st post :=
  G.2 d 109 q_109 vs st post rfl hn (by rw [show Pl_ (qY q_109).cls = P_RX3 from Pl_RX3]; exact h)
set_option maxRecDepth 20000 in
/-- Ferryroster$Person.isElsewhere(III)Z -/
theorem go_110 {CC : Nat → mCall} (G : mGood CC) {d : Nat} {vs : List mV} {st : mS} {post : mO → mS → Prop} (hn : (vs.map mcat).sum ≤ 5) (h : ∀ WW : mK, (∀ t ls stk rem st, mat P_RX3 1 sg_ k_110 [] (CC d) WW post t ls stk rem st → WW t ls stk rem st) → WW 0 (margs 0 vs) [] (0, 0) st) : CC (d + 1) 110 vs st post :=
  G.2 d 110 q_110 vs st post rfl hn (by rw [show Pl_ (qY q_110).cls = P_RX3 from Pl_RX3]; exact h)
set_option maxRecDepth 20000 in
/-- Ferryroster$Person.wouldWorkTooMuch(IIII)Z -/
theorem go_111 {CC : Nat → mCall} (G : mGood CC) {d : Nat} {vs : List mV} {st : mS} {post : mO → mS → Prop} (hn : (vs.map mcat).sum ≤ 8) (h : ∀ WW : mK, (∀ t ls stk rem st, mat P_RX3 1 sg_ k_111 [] (CC d) WW post t ls stk rem st → WW t ls stk rem st) → WW 0 (margs 0 vs) [] (0, 0) st) : CC (d + 1) 111 vs st post :=
  G.2 d 111 q_111 vs st post rfl hn (by rw [show Pl_ (qY q_111).cls = P_RX3 from Pl_RX3]; exact h)
set_option maxRecDepth 20000 in
/-- Ferryroster$Person.mostByHours(I)I -/
theorem go_112 {CC : Nat → mCall} (G : mGood CC) {d : Nat} {vs : List mV} {st : mS} {post : mO → mS → Prop} (hn : (vs.map mcat).sum ≤ 5) (h : ∀ WW : mK, (∀ t ls stk rem st, mat P_RX3 0 sg_ k_112 [] (CC d) WW post t ls stk rem st → WW t ls stk rem st) → WW 0 (margs 0 vs) [] (0, 0) st) : CC (d + 1) 112 vs st post :=
  G.2 d 112 q_112 vs st post rfl hn (by rw [show Pl_ (qY q_112).cls = P_RX3 from Pl_RX3]; exact h)
set_option maxRecDepth 20000 in
/-- Ferryroster.pass(I)I -/
theorem go_113 {CC : Nat → mCall} (G : mGood CC) {d : Nat} {vs : List mV} {st : mS} {post : mO → mS → Prop} (hn : (vs.map mcat).sum ≤ 4) (h : ∀ WW : mK, (∀ t ls stk rem st, mat P_RX6 0 sg_ k_113 [] (CC d) WW post t ls stk rem st → WW t ls stk rem st) → WW 0 (margs 0 vs) [] (1, 6) st) : CC (d + 1) 113 vs st post :=
  G.2 d 113 q_113 vs st post rfl hn (by rw [show Pl_ (qY q_113).cls = P_RX6 from Pl_RX6]; exact h)
set_option maxRecDepth 20000 in
/-- Ferryroster.now()I -/
theorem go_114 {CC : Nat → mCall} (G : mGood CC) {d : Nat} {vs : List mV} {st : mS} {post : mO → mS → Prop} (hn : (vs.map mcat).sum ≤ 1) (h : ∀ WW : mK, (∀ t ls stk rem st, mat P_RX6 0 sg_ k_114 [] (CC d) WW post t ls stk rem st → WW t ls stk rem st) → WW 0 (margs 0 vs) [] (0, 0) st) : CC (d + 1) 114 vs st post :=
  G.2 d 114 q_114 vs st post rfl hn (by rw [show Pl_ (qY q_114).cls = P_RX6 from Pl_RX6]; exact h)
set_option maxRecDepth 20000 in
/-- Ferryroster.setDayRule(I)I -/
theorem go_115 {CC : Nat → mCall} (G : mGood CC) {d : Nat} {vs : List mV} {st : mS} {post : mO → mS → Prop} (hn : (vs.map mcat).sum ≤ 3) (h : ∀ WW : mK, (∀ t ls stk rem st, mat P_RX6 0 sg_ k_115 [] (CC d) WW post t ls stk rem st → WW t ls stk rem st) → WW 0 (margs 0 vs) [] (1, 6) st) : CC (d + 1) 115 vs st post :=
  G.2 d 115 q_115 vs st post rfl hn (by rw [show Pl_ (qY q_115).cls = P_RX6 from Pl_RX6]; exact h)
set_option maxRecDepth 20000 in
/-- Ferryroster.setWeekRule(I)I -/
theorem go_116 {CC : Nat → mCall} (G : mGood CC) {d : Nat} {vs : List mV} {st : mS} {post : mO → mS → Prop} (hn : (vs.map mcat).sum ≤ 3) (h : ∀ WW : mK, (∀ t ls stk rem st, mat P_RX6 0 sg_ k_116 [] (CC d) WW post t ls stk rem st → WW t ls stk rem st) → WW 0 (margs 0 vs) [] (1, 6) st) : CC (d + 1) 116 vs st post :=
  G.2 d 116 q_116 vs st post rfl hn (by rw [show Pl_ (qY q_116).cls = P_RX6 from Pl_RX6]; exact h)
set_option maxRecDepth 20000 in
/-- Ferryroster.today()I -/
theorem go_117 {CC : Nat → mCall} (G : mGood CC) {d : Nat} {vs : List mV} {st : mS} {post : mO → mS → Prop} (hn : (vs.map mcat).sum ≤ 1) (h : ∀ WW : mK, (∀ t ls stk rem st, mat P_RX6 0 sg_ k_117 [] (CC d) WW post t ls stk rem st → WW t ls stk rem st) → WW 0 (margs 0 vs) [] (0, 0) st) : CC (d + 1) 117 vs st post :=
  G.2 d 117 q_117 vs st post rfl hn (by rw [show Pl_ (qY q_117).cls = P_RX6 from Pl_RX6]; exact h)
set_option maxRecDepth 20000 in
/-- Ferryroster.letHourCome()I -/
theorem go_118 {CC : Nat → mCall} (G : mGood CC) {d : Nat} {vs : List mV} {st : mS} {post : mO → mS → Prop} (hn : (vs.map mcat).sum ≤ 4) (h : ∀ WW : mK, (∀ t ls stk rem st, mat P_RX6 0 sg_ k_118 [] (CC d) WW post t ls stk rem st → WW t ls stk rem st) → WW 0 (margs 0 vs) [] (0, 0) st) : CC (d + 1) 118 vs st post :=
  G.2 d 118 q_118 vs st post rfl hn (by rw [show Pl_ (qY q_118).cls = P_RX6 from Pl_RX6]; exact h)
set_option maxRecDepth 20000 in
/-- Ferryroster.endCourses(I)V -/
theorem go_119 {CC : Nat → mCall} (G : mGood CC) {d : Nat} {vs : List mV} {st : mS} {post : mO → mS → Prop} (hn : (vs.map mcat).sum ≤ 3) (h : ∀ WW : mK, (∀ t ls stk rem st, mat P_RX6 0 sg_ k_119 [] (CC d) WW post t ls stk rem st → WW t ls stk rem st) → WW 0 (margs 0 vs) [] (0, 0) st) : CC (d + 1) 119 vs st post :=
  G.2 d 119 q_119 vs st post rfl hn (by rw [show Pl_ (qY q_119).cls = P_RX6 from Pl_RX6]; exact h)
set_option maxRecDepth 20000 in
/-- Ferryroster.addPerson()I -/
theorem go_120 {CC : Nat → mCall} (G : mGood CC) {d : Nat} {vs : List mV} {st : mS} {post : mO → mS → Prop} (hn : (vs.map mcat).sum ≤ 2) (h : ∀ WW : mK, (∀ t ls stk rem st, mat P_RX6 0 sg_ k_120 [] (CC d) WW post t ls stk rem st → WW t ls stk rem st) → WW 0 (margs 0 vs) [] (8, 1094) st) : CC (d + 1) 120 vs st post :=
  G.2 d 120 q_120 vs st post rfl hn (by rw [show Pl_ (qY q_120).cls = P_RX6 from Pl_RX6]; exact h)
set_option maxRecDepth 20000 in
/-- Ferryroster.grant(III)I -/
theorem go_121 {CC : Nat → mCall} (G : mGood CC) {d : Nat} {vs : List mV} {st : mS} {post : mO → mS → Prop} (hn : (vs.map mcat).sum ≤ 6) (h : ∀ WW : mK, (∀ t ls stk rem st, mat P_RX6 0 sg_ k_121 [] (CC d) WW post t ls stk rem st → WW t ls stk rem st) → WW 0 (margs 0 vs) [] (4, 24) st) : CC (d + 1) 121 vs st post :=
  G.2 d 121 q_121 vs st post rfl hn (by rw [show Pl_ (qY q_121).cls = P_RX6 from Pl_RX6]; exact h)
set_option maxRecDepth 20000 in
/-- Ferryroster.renew(III)I -/
theorem go_122 {CC : Nat → mCall} (G : mGood CC) {d : Nat} {vs : List mV} {st : mS} {post : mO → mS → Prop} (hn : (vs.map mcat).sum ≤ 6) (h : ∀ WW : mK, (∀ t ls stk rem st, mat P_RX6 0 sg_ k_122 [] (CC d) WW post t ls stk rem st → WW t ls stk rem st) → WW 0 (margs 0 vs) [] (5, 30) st) : CC (d + 1) 122 vs st post :=
  G.2 d 122 q_122 vs st post rfl hn (by rw [show Pl_ (qY q_122).cls = P_RX6 from Pl_RX6]; exact h)
set_option maxRecDepth 20000 in
/-- Ferryroster.lastDay(II)I -/
theorem go_123 {CC : Nat → mCall} (G : mGood CC) {d : Nat} {vs : List mV} {st : mS} {post : mO → mS → Prop} (hn : (vs.map mcat).sum ≤ 4) (h : ∀ WW : mK, (∀ t ls stk rem st, mat P_RX6 0 sg_ k_123 [] (CC d) WW post t ls stk rem st → WW t ls stk rem st) → WW 0 (margs 0 vs) [] (3, 18) st) : CC (d + 1) 123 vs st post :=
  G.2 d 123 q_123 vs st post rfl hn (by rw [show Pl_ (qY q_123).cls = P_RX6 from Pl_RX6]; exact h)
set_option maxRecDepth 20000 in
/-- Ferryroster.callSick(II)I -/
theorem go_124 {CC : Nat → mCall} (G : mGood CC) {d : Nat} {vs : List mV} {st : mS} {post : mO → mS → Prop} (hn : (vs.map mcat).sum ≤ 8) (h : ∀ WW : mK, (∀ t ls stk rem st, mat P_RX6 0 sg_ k_124 [] (CC d) WW post t ls stk rem st → WW t ls stk rem st) → WW 0 (margs 0 vs) [] (2, 12) st) : CC (d + 1) 124 vs st post :=
  G.2 d 124 q_124 vs st post rfl hn (by rw [show Pl_ (qY q_124).cls = P_RX6 from Pl_RX6]; exact h)
set_option maxRecDepth 20000 in
/-- Ferryroster.recover(I)I -/
theorem go_125 {CC : Nat → mCall} (G : mGood CC) {d : Nat} {vs : List mV} {st : mS} {post : mO → mS → Prop} (hn : (vs.map mcat).sum ≤ 4) (h : ∀ WW : mK, (∀ t ls stk rem st, mat P_RX6 0 sg_ k_125 [] (CC d) WW post t ls stk rem st → WW t ls stk rem st) → WW 0 (margs 0 vs) [] (2, 12) st) : CC (d + 1) 125 vs st post :=
  G.2 d 125 q_125 vs st post rfl hn (by rw [show Pl_ (qY q_125).cls = P_RX6 from Pl_RX6]; exact h)
set_option maxRecDepth 20000 in
/-- Ferryroster.enroll(IIII)I -/
theorem go_126 {CC : Nat → mCall} (G : mGood CC) {d : Nat} {vs : List mV} {st : mS} {post : mO → mS → Prop} (hn : (vs.map mcat).sum ≤ 7) (h : ∀ WW : mK, (∀ t ls stk rem st, mat P_RX6 0 sg_ k_126 [] (CC d) WW post t ls stk rem st → WW t ls stk rem st) → WW 0 (margs 0 vs) [] (3, 18) st) : CC (d + 1) 126 vs st post :=
  G.2 d 126 q_126 vs st post rfl hn (by rw [show Pl_ (qY q_126).cls = P_RX6 from Pl_RX6]; exact h)
set_option maxRecDepth 20000 in
/-- Ferryroster.leaveCourse(I)I -/
theorem go_127 {CC : Nat → mCall} (G : mGood CC) {d : Nat} {vs : List mV} {st : mS} {post : mO → mS → Prop} (hn : (vs.map mcat).sum ≤ 4) (h : ∀ WW : mK, (∀ t ls stk rem st, mat P_RX6 0 sg_ k_127 [] (CC d) WW post t ls stk rem st → WW t ls stk rem st) → WW 0 (margs 0 vs) [] (2, 12) st) : CC (d + 1) 127 vs st post :=
  G.2 d 127 q_127 vs st post rfl hn (by rw [show Pl_ (qY q_127).cls = P_RX6 from Pl_RX6]; exact h)
set_option maxRecDepth 20000 in
/-- Ferryroster.isAway(II)Z -/
theorem go_128 {CC : Nat → mCall} (G : mGood CC) {d : Nat} {vs : List mV} {st : mS} {post : mO → mS → Prop} (hn : (vs.map mcat).sum ≤ 4) (h : ∀ WW : mK, (∀ t ls stk rem st, mat P_RX6 1 sg_ k_128 [] (CC d) WW post t ls stk rem st → WW t ls stk rem st) → WW 0 (margs 0 vs) [] (2, 12) st) : CC (d + 1) 128 vs st post :=
  G.2 d 128 q_128 vs st post rfl hn (by rw [show Pl_ (qY q_128).cls = P_RX6 from Pl_RX6]; exact h)
set_option maxRecDepth 20000 in
/-- Ferryroster.isPerson(I)Z -/
theorem go_129 {CC : Nat → mCall} (G : mGood CC) {d : Nat} {vs : List mV} {st : mS} {post : mO → mS → Prop} (hn : (vs.map mcat).sum ≤ 2) (h : ∀ WW : mK, (∀ t ls stk rem st, mat P_RX6 1 sg_ k_129 [] (CC d) WW post t ls stk rem st → WW t ls stk rem st) → WW 0 (margs 0 vs) [] (0, 0) st) : CC (d + 1) 129 vs st post :=
  G.2 d 129 q_129 vs st post rfl hn (by rw [show Pl_ (qY q_129).cls = P_RX6 from Pl_RX6]; exact h)
set_option maxRecDepth 20000 in
/-- Ferryroster.knownPerson(I)LFerryroster$Person; -/
theorem go_130 {CC : Nat → mCall} (G : mGood CC) {d : Nat} {vs : List mV} {st : mS} {post : mO → mS → Prop} (hn : (vs.map mcat).sum ≤ 2) (h : ∀ WW : mK, (∀ t ls stk rem st, mat P_RX6 0 sg_ k_130 [] (CC d) WW post t ls stk rem st → WW t ls stk rem st) → WW 0 (margs 0 vs) [] (1, 6) st) : CC (d + 1) 130 vs st post :=
  G.2 d 130 q_130 vs st post rfl hn (by rw [show Pl_ (qY q_130).cls = P_RX6 from Pl_RX6]; exact h)
set_option maxRecDepth 20000 in
/-- Ferryroster.checkKind(I)V -/
theorem go_131 {CC : Nat → mCall} (G : mGood CC) {d : Nat} {vs : List mV} {st : mS} {post : mO → mS → Prop} (hn : (vs.map mcat).sum ≤ 1) (h : ∀ WW : mK, (∀ t ls stk rem st, mat P_RX6 0 sg_ k_131 [] (CC d) WW post t ls stk rem st → WW t ls stk rem st) → WW 0 (margs 0 vs) [] (1, 6) st) : CC (d + 1) 131 vs st post :=
  G.2 d 131 q_131 vs st post rfl hn (by rw [show Pl_ (qY q_131).cls = P_RX6 from Pl_RX6]; exact h)
set_option maxRecDepth 20000 in
/-- Ferryroster.checkCertificateDays(I)V -/
theorem go_132 {CC : Nat → mCall} (G : mGood CC) {d : Nat} {vs : List mV} {st : mS} {post : mO → mS → Prop} (hn : (vs.map mcat).sum ≤ 1) (h : ∀ WW : mK, (∀ t ls stk rem st, mat P_RX6 0 sg_ k_132 [] (CC d) WW post t ls stk rem st → WW t ls stk rem st) → WW 0 (margs 0 vs) [] (1, 6) st) : CC (d + 1) 132 vs st post :=
  G.2 d 132 q_132 vs st post rfl hn (by rw [show Pl_ (qY q_132).cls = P_RX6 from Pl_RX6]; exact h)
set_option maxRecDepth 20000 in
/-- Ferryroster.knownLastDay(LFerryroster$Person;I)I -/
theorem go_133 {CC : Nat → mCall} (G : mGood CC) {d : Nat} {vs : List mV} {st : mS} {post : mO → mS → Prop} (hn : (vs.map mcat).sum ≤ 3) (h : ∀ WW : mK, (∀ t ls stk rem st, mat P_RX6 0 sg_ k_133 [] (CC d) WW post t ls stk rem st → WW t ls stk rem st) → WW 0 (margs 0 vs) [] (1, 6) st) : CC (d + 1) 133 vs st post :=
  G.2 d 133 q_133 vs st post rfl hn (by rw [show Pl_ (qY q_133).cls = P_RX6 from Pl_RX6]; exact h)
set_option maxRecDepth 20000 in
/-- Ferryroster.addShip(I)I -/
theorem go_134 {CC : Nat → mCall} (G : mGood CC) {d : Nat} {vs : List mV} {st : mS} {post : mO → mS → Prop} (hn : (vs.map mcat).sum ≤ 3) (h : ∀ WW : mK, (∀ t ls stk rem st, mat P_RX6 0 sg_ k_134 [] (CC d) WW post t ls stk rem st → WW t ls stk rem st) → WW 0 (margs 0 vs) [] (5, 84) st) : CC (d + 1) 134 vs st post :=
  G.2 d 134 q_134 vs st post rfl hn (by rw [show Pl_ (qY q_134).cls = P_RX6 from Pl_RX6]; exact h)
set_option maxRecDepth 20000 in
/-- Ferryroster.addPost(II)I -/
theorem go_135 {CC : Nat → mCall} (G : mGood CC) {d : Nat} {vs : List mV} {st : mS} {post : mO → mS → Prop} (hn : (vs.map mcat).sum ≤ 4) (h : ∀ WW : mK, (∀ t ls stk rem st, mat P_RX6 0 sg_ k_135 [] (CC d) WW post t ls stk rem st → WW t ls stk rem st) → WW 0 (margs 0 vs) [] (3, 18) st) : CC (d + 1) 135 vs st post :=
  G.2 d 135 q_135 vs st post rfl hn (by rw [show Pl_ (qY q_135).cls = P_RX6 from Pl_RX6]; exact h)
set_option maxRecDepth 20000 in
/-- Ferryroster.plan(III)I -/
theorem go_136 {CC : Nat → mCall} (G : mGood CC) {d : Nat} {vs : List mV} {st : mS} {post : mO → mS → Prop} (hn : (vs.map mcat).sum ≤ 7) (h : ∀ WW : mK, (∀ t ls stk rem st, mat P_RX6 0 sg_ k_136 [] (CC d) WW post t ls stk rem st → WW t ls stk rem st) → WW 0 (margs 0 vs) [] (7, 98) st) : CC (d + 1) 136 vs st post :=
  G.2 d 136 q_136 vs st post rfl hn (by rw [show Pl_ (qY q_136).cls = P_RX6 from Pl_RX6]; exact h)
set_option maxRecDepth 20000 in
/-- Ferryroster.assign(III)I -/
theorem go_137 {CC : Nat → mCall} (G : mGood CC) {d : Nat} {vs : List mV} {st : mS} {post : mO → mS → Prop} (hn : (vs.map mcat).sum ≤ 7) (h : ∀ WW : mK, (∀ t ls stk rem st, mat P_RX6 0 sg_ k_137 [] (CC d) WW post t ls stk rem st → WW t ls stk rem st) → WW 0 (margs 0 vs) [] (5, 30) st) : CC (d + 1) 137 vs st post :=
  G.2 d 137 q_137 vs st post rfl hn (by rw [show Pl_ (qY q_137).cls = P_RX6 from Pl_RX6]; exact h)
set_option maxRecDepth 20000 in
/-- Ferryroster.release(II)I -/
theorem go_138 {CC : Nat → mCall} (G : mGood CC) {d : Nat} {vs : List mV} {st : mS} {post : mO → mS → Prop} (hn : (vs.map mcat).sum ≤ 5) (h : ∀ WW : mK, (∀ t ls stk rem st, mat P_RX6 0 sg_ k_138 [] (CC d) WW post t ls stk rem st → WW t ls stk rem st) → WW 0 (margs 0 vs) [] (4, 24) st) : CC (d + 1) 138 vs st post :=
  G.2 d 138 q_138 vs st post rfl hn (by rw [show Pl_ (qY q_138).cls = P_RX6 from Pl_RX6]; exact h)
set_option maxRecDepth 20000 in
/-- Ferryroster.cancel(I)I -/
theorem go_139 {CC : Nat → mCall} (G : mGood CC) {d : Nat} {vs : List mV} {st : mS} {post : mO → mS → Prop} (hn : (vs.map mcat).sum ≤ 4) (h : ∀ WW : mK, (∀ t ls stk rem st, mat P_RX6 0 sg_ k_139 [] (CC d) WW post t ls stk rem st → WW t ls stk rem st) → WW 0 (margs 0 vs) [] (2, 12) st) : CC (d + 1) 139 vs st post :=
  G.2 d 139 q_139 vs st post rfl hn (by rw [show Pl_ (qY q_139).cls = P_RX6 from Pl_RX6]; exact h)
set_option maxRecDepth 20000 in
/-- Ferryroster.relieve(I)I -/
theorem go_140 {CC : Nat → mCall} (G : mGood CC) {d : Nat} {vs : List mV} {st : mS} {post : mO → mS → Prop} (hn : (vs.map mcat).sum ≤ 4) (h : ∀ WW : mK, (∀ t ls stk rem st, mat P_RX6 0 sg_ k_140 [] (CC d) WW post t ls stk rem st → WW t ls stk rem st) → WW 0 (margs 0 vs) [] (3, 18) st) : CC (d + 1) 140 vs st post :=
  G.2 d 140 q_140 vs st post rfl hn (by rw [show Pl_ (qY q_140).cls = P_RX6 from Pl_RX6]; exact h)
set_option maxRecDepth 20000 in
/-- Ferryroster.relieveAll()I -/
theorem go_141 {CC : Nat → mCall} (G : mGood CC) {d : Nat} {vs : List mV} {st : mS} {post : mO → mS → Prop} (hn : (vs.map mcat).sum ≤ 3) (h : ∀ WW : mK, (∀ t ls stk rem st, mat P_RX6 0 sg_ k_141 [] (CC d) WW post t ls stk rem st → WW t ls stk rem st) → WW 0 (margs 0 vs) [] (24, 384) st) : CC (d + 1) 141 vs st post :=
  G.2 d 141 q_141 vs st post rfl hn (by rw [show Pl_ (qY q_141).cls = P_RX6 from Pl_RX6]; exact h)
set_option maxRecDepth 20000 in
/-- Ferryroster.stateOf(I)C -/
theorem go_142 {CC : Nat → mCall} (G : mGood CC) {d : Nat} {vs : List mV} {st : mS} {post : mO → mS → Prop} (hn : (vs.map mcat).sum ≤ 2) (h : ∀ WW : mK, (∀ t ls stk rem st, mat P_RX6 2 sg_ k_142 [] (CC d) WW post t ls stk rem st → WW t ls stk rem st) → WW 0 (margs 0 vs) [] (1, 6) st) : CC (d + 1) 142 vs st post :=
  G.2 d 142 q_142 vs st post rfl hn (by rw [show Pl_ (qY q_142).cls = P_RX6 from Pl_RX6]; exact h)
set_option maxRecDepth 20000 in
/-- Ferryroster.personOn(II)I -/
theorem go_143 {CC : Nat → mCall} (G : mGood CC) {d : Nat} {vs : List mV} {st : mS} {post : mO → mS → Prop} (hn : (vs.map mcat).sum ≤ 4) (h : ∀ WW : mK, (∀ t ls stk rem st, mat P_RX6 0 sg_ k_143 [] (CC d) WW post t ls stk rem st → WW t ls stk rem st) → WW 0 (margs 0 vs) [] (2, 12) st) : CC (d + 1) 143 vs st post :=
  G.2 d 143 q_143 vs st post rfl hn (by rw [show Pl_ (qY q_143).cls = P_RX6 from Pl_RX6]; exact h)
set_option maxRecDepth 20000 in
/-- Ferryroster.isComplete(I)Z -/
theorem go_144 {CC : Nat → mCall} (G : mGood CC) {d : Nat} {vs : List mV} {st : mS} {post : mO → mS → Prop} (hn : (vs.map mcat).sum ≤ 3) (h : ∀ WW : mK, (∀ t ls stk rem st, mat P_RX6 1 sg_ k_144 [] (CC d) WW post t ls stk rem st → WW t ls stk rem st) → WW 0 (margs 0 vs) [] (2, 12) st) : CC (d + 1) 144 vs st post :=
  G.2 d 144 q_144 vs st post rfl hn (by rw [show Pl_ (qY q_144).cls = P_RX6 from Pl_RX6]; exact h)
set_option maxRecDepth 20000 in
/-- Ferryroster.reason(III)I -/
theorem go_145 {CC : Nat → mCall} (G : mGood CC) {d : Nat} {vs : List mV} {st : mS} {post : mO → mS → Prop} (hn : (vs.map mcat).sum ≤ 6) (h : ∀ WW : mK, (∀ t ls stk rem st, mat P_RX6 0 sg_ k_145 [] (CC d) WW post t ls stk rem st → WW t ls stk rem st) → WW 0 (margs 0 vs) [] (4, 24) st) : CC (d + 1) 145 vs st post :=
  G.2 d 145 q_145 vs st post rfl hn (by rw [show Pl_ (qY q_145).cls = P_RX6 from Pl_RX6]; exact h)
set_option maxRecDepth 20000 in
/-- Ferryroster.fitting(II)I -/
theorem go_146 {CC : Nat → mCall} (G : mGood CC) {d : Nat} {vs : List mV} {st : mS} {post : mO → mS → Prop} (hn : (vs.map mcat).sum ≤ 6) (h : ∀ WW : mK, (∀ t ls stk rem st, mat P_RX6 0 sg_ k_146 [] (CC d) WW post t ls stk rem st → WW t ls stk rem st) → WW 0 (margs 0 vs) [] (3, 18) st) : CC (d + 1) 146 vs st post :=
  G.2 d 146 q_146 vs st post rfl hn (by rw [show Pl_ (qY q_146).cls = P_RX6 from Pl_RX6]; exact h)
set_option maxRecDepth 20000 in
/-- Ferryroster.shortSailings()I -/
theorem go_147 {CC : Nat → mCall} (G : mGood CC) {d : Nat} {vs : List mV} {st : mS} {post : mO → mS → Prop} (hn : (vs.map mcat).sum ≤ 3) (h : ∀ WW : mK, (∀ t ls stk rem st, mat P_RX6 0 sg_ k_147 [] (CC d) WW post t ls stk rem st → WW t ls stk rem st) → WW 0 (margs 0 vs) [] (0, 0) st) : CC (d + 1) 147 vs st post :=
  G.2 d 147 q_147 vs st post rfl hn (by rw [show Pl_ (qY q_147).cls = P_RX6 from Pl_RX6]; exact h)
set_option maxRecDepth 20000 in
/-- Ferryroster.sailings(C)I -/
theorem go_148 {CC : Nat → mCall} (G : mGood CC) {d : Nat} {vs : List mV} {st : mS} {post : mO → mS → Prop} (hn : (vs.map mcat).sum ≤ 4) (h : ∀ WW : mK, (∀ t ls stk rem st, mat P_RX6 0 sg_ k_148 [] (CC d) WW post t ls stk rem st → WW t ls stk rem st) → WW 0 (margs 0 vs) [] (1, 6) st) : CC (d + 1) 148 vs st post :=
  G.2 d 148 q_148 vs st post rfl hn (by rw [show Pl_ (qY q_148).cls = P_RX6 from Pl_RX6]; exact h)
set_option maxRecDepth 20000 in
/-- Ferryroster.knownShip(I)LFerryroster$Ship; -/
theorem go_149 {CC : Nat → mCall} (G : mGood CC) {d : Nat} {vs : List mV} {st : mS} {post : mO → mS → Prop} (hn : (vs.map mcat).sum ≤ 2) (h : ∀ WW : mK, (∀ t ls stk rem st, mat P_RX6 0 sg_ k_149 [] (CC d) WW post t ls stk rem st → WW t ls stk rem st) → WW 0 (margs 0 vs) [] (1, 6) st) : CC (d + 1) 149 vs st post :=
  G.2 d 149 q_149 vs st post rfl hn (by rw [show Pl_ (qY q_149).cls = P_RX6 from Pl_RX6]; exact h)
set_option maxRecDepth 20000 in
/-- Ferryroster.knownSailing(I)LFerryroster$Sailing; -/
theorem go_150 {CC : Nat → mCall} (G : mGood CC) {d : Nat} {vs : List mV} {st : mS} {post : mO → mS → Prop} (hn : (vs.map mcat).sum ≤ 2) (h : ∀ WW : mK, (∀ t ls stk rem st, mat P_RX6 0 sg_ k_150 [] (CC d) WW post t ls stk rem st → WW t ls stk rem st) → WW 0 (margs 0 vs) [] (1, 6) st) : CC (d + 1) 150 vs st post :=
  G.2 d 150 q_150 vs st post rfl hn (by rw [show Pl_ (qY q_150).cls = P_RX6 from Pl_RX6]; exact h)
set_option maxRecDepth 20000 in
/-- Ferryroster.checkPost(LFerryroster$Sailing;I)V -/
theorem go_151 {CC : Nat → mCall} (G : mGood CC) {d : Nat} {vs : List mV} {st : mS} {post : mO → mS → Prop} (hn : (vs.map mcat).sum ≤ 2) (h : ∀ WW : mK, (∀ t ls stk rem st, mat P_RX6 0 sg_ k_151 [] (CC d) WW post t ls stk rem st → WW t ls stk rem st) → WW 0 (margs 0 vs) [] (1, 6) st) : CC (d + 1) 151 vs st post :=
  G.2 d 151 q_151 vs st post rfl hn (by rw [show Pl_ (qY q_151).cls = P_RX6 from Pl_RX6]; exact h)
set_option maxRecDepth 20000 in
/-- Ferryroster.checkPlanned(LFerryroster$Sailing;)V -/
theorem go_152 {CC : Nat → mCall} (G : mGood CC) {d : Nat} {vs : List mV} {st : mS} {post : mO → mS → Prop} (hn : (vs.map mcat).sum ≤ 1) (h : ∀ WW : mK, (∀ t ls stk rem st, mat P_RX6 0 sg_ k_152 [] (CC d) WW post t ls stk rem st → WW t ls stk rem st) → WW 0 (margs 0 vs) [] (1, 6) st) : CC (d + 1) 152 vs st post :=
  G.2 d 152 q_152 vs st post rfl hn (by rw [show Pl_ (qY q_152).cls = P_RX6 from Pl_RX6]; exact h)
set_option maxRecDepth 20000 in
/-- Ferryroster.checkSailingHours(I)V -/
theorem go_153 {CC : Nat → mCall} (G : mGood CC) {d : Nat} {vs : List mV} {st : mS} {post : mO → mS → Prop} (hn : (vs.map mcat).sum ≤ 1) (h : ∀ WW : mK, (∀ t ls stk rem st, mat P_RX6 0 sg_ k_153 [] (CC d) WW post t ls stk rem st → WW t ls stk rem st) → WW 0 (margs 0 vs) [] (1, 6) st) : CC (d + 1) 153 vs st post :=
  G.2 d 153 q_153 vs st post rfl hn (by rw [show Pl_ (qY q_153).cls = P_RX6 from Pl_RX6]; exact h)
set_option maxRecDepth 20000 in
/-- Ferryroster.isUnderWay(LFerryroster$Ship;II)Z -/
theorem go_154 {CC : Nat → mCall} (G : mGood CC) {d : Nat} {vs : List mV} {st : mS} {post : mO → mS → Prop} (hn : (vs.map mcat).sum ≤ 6) (h : ∀ WW : mK, (∀ t ls stk rem st, mat P_RX6 1 sg_ k_154 [] (CC d) WW post t ls stk rem st → WW t ls stk rem st) → WW 0 (margs 0 vs) [] (0, 0) st) : CC (d + 1) 154 vs st post :=
  G.2 d 154 q_154 vs st post rfl hn (by rw [show Pl_ (qY q_154).cls = P_RX6 from Pl_RX6]; exact h)
set_option maxRecDepth 20000 in
/-- Ferryroster.putOn(LFerryroster$Sailing;II)V -/
theorem go_155 {CC : Nat → mCall} (G : mGood CC) {d : Nat} {vs : List mV} {st : mS} {post : mO → mS → Prop} (hn : (vs.map mcat).sum ≤ 4) (h : ∀ WW : mK, (∀ t ls stk rem st, mat P_RX6 0 sg_ k_155 [] (CC d) WW post t ls stk rem st → WW t ls stk rem st) → WW 0 (margs 0 vs) [] (0, 0) st) : CC (d + 1) 155 vs st post :=
  G.2 d 155 q_155 vs st post rfl hn (by rw [show Pl_ (qY q_155).cls = P_RX6 from Pl_RX6]; exact h)
set_option maxRecDepth 20000 in
/-- Ferryroster.takeOff(LFerryroster$Sailing;I)V -/
theorem go_156 {CC : Nat → mCall} (G : mGood CC) {d : Nat} {vs : List mV} {st : mS} {post : mO → mS → Prop} (hn : (vs.map mcat).sum ≤ 4) (h : ∀ WW : mK, (∀ t ls stk rem st, mat P_RX6 0 sg_ k_156 [] (CC d) WW post t ls stk rem st → WW t ls stk rem st) → WW 0 (margs 0 vs) [] (0, 0) st) : CC (d + 1) 156 vs st post :=
  G.2 d 156 q_156 vs st post rfl hn (by rw [show Pl_ (qY q_156).cls = P_RX6 from Pl_RX6]; exact h)
set_option maxRecDepth 20000 in
/-- Ferryroster.takeAllOff(LFerryroster$Sailing;)V -/
theorem go_157 {CC : Nat → mCall} (G : mGood CC) {d : Nat} {vs : List mV} {st : mS} {post : mO → mS → Prop} (hn : (vs.map mcat).sum ≤ 3) (h : ∀ WW : mK, (∀ t ls stk rem st, mat P_RX6 0 sg_ k_157 [] (CC d) WW post t ls stk rem st → WW t ls stk rem st) → WW 0 (margs 0 vs) [] (0, 0) st) : CC (d + 1) 157 vs st post :=
  G.2 d 157 q_157 vs st post rfl hn (by rw [show Pl_ (qY q_157).cls = P_RX6 from Pl_RX6]; exact h)
set_option maxRecDepth 20000 in
/-- Ferryroster.callOff(LFerryroster$Sailing;)V -/
theorem go_158 {CC : Nat → mCall} (G : mGood CC) {d : Nat} {vs : List mV} {st : mS} {post : mO → mS → Prop} (hn : (vs.map mcat).sum ≤ 2) (h : ∀ WW : mK, (∀ t ls stk rem st, mat P_RX6 0 sg_ k_158 [] (CC d) WW post t ls stk rem st → WW t ls stk rem st) → WW 0 (margs 0 vs) [] (0, 0) st) : CC (d + 1) 158 vs st post :=
  G.2 d 158 q_158 vs st post rfl hn (by rw [show Pl_ (qY q_158).cls = P_RX6 from Pl_RX6]; exact h)
set_option maxRecDepth 20000 in
/-- Ferryroster.isShort(LFerryroster$Sailing;)Z -/
theorem go_159 {CC : Nat → mCall} (G : mGood CC) {d : Nat} {vs : List mV} {st : mS} {post : mO → mS → Prop} (hn : (vs.map mcat).sum ≤ 2) (h : ∀ WW : mK, (∀ t ls stk rem st, mat P_RX6 1 sg_ k_159 [] (CC d) WW post t ls stk rem st → WW t ls stk rem st) → WW 0 (margs 0 vs) [] (0, 0) st) : CC (d + 1) 159 vs st post :=
  G.2 d 159 q_159 vs st post rfl hn (by rw [show Pl_ (qY q_159).cls = P_RX6 from Pl_RX6]; exact h)
set_option maxRecDepth 20000 in
/-- Ferryroster.hasFittingCrew(LFerryroster$Sailing;)Z -/
theorem go_160 {CC : Nat → mCall} (G : mGood CC) {d : Nat} {vs : List mV} {st : mS} {post : mO → mS → Prop} (hn : (vs.map mcat).sum ≤ 4) (h : ∀ WW : mK, (∀ t ls stk rem st, mat P_RX6 1 sg_ k_160 [] (CC d) WW post t ls stk rem st → WW t ls stk rem st) → WW 0 (margs 0 vs) [] (0, 0) st) : CC (d + 1) 160 vs st post :=
  G.2 d 160 q_160 vs st post rfl hn (by rw [show Pl_ (qY q_160).cls = P_RX6 from Pl_RX6]; exact h)
set_option maxRecDepth 20000 in
/-- Ferryroster.reasonAgainst(LFerryroster$Sailing;ILFerryroster$Person;)I -/
theorem go_161 {CC : Nat → mCall} (G : mGood CC) {d : Nat} {vs : List mV} {st : mS} {post : mO → mS → Prop} (hn : (vs.map mcat).sum ≤ 5) (h : ∀ WW : mK, (∀ t ls stk rem st, mat P_RX6 0 sg_ k_161 [] (CC d) WW post t ls stk rem st → WW t ls stk rem st) → WW 0 (margs 0 vs) [] (0, 0) st) : CC (d + 1) 161 vs st post :=
  G.2 d 161 q_161 vs st post rfl hn (by rw [show Pl_ (qY q_161).cls = P_RX6 from Pl_RX6]; exact h)
set_option maxRecDepth 20000 in
/-- Ferryroster.reasonOfWork(LFerryroster$Person;III)I -/
theorem go_162 {CC : Nat → mCall} (G : mGood CC) {d : Nat} {vs : List mV} {st : mS} {post : mO → mS → Prop} (hn : (vs.map mcat).sum ≤ 5) (h : ∀ WW : mK, (∀ t ls stk rem st, mat P_RX6 0 sg_ k_162 [] (CC d) WW post t ls stk rem st → WW t ls stk rem st) → WW 0 (margs 0 vs) [] (0, 0) st) : CC (d + 1) 162 vs st post :=
  G.2 d 162 q_162 vs st post rfl hn (by rw [show Pl_ (qY q_162).cls = P_RX6 from Pl_RX6]; exact h)
set_option maxRecDepth 20000 in
/-- Ferryroster.giveRelief(LFerryroster$Sailing;)I -/
theorem go_163 {CC : Nat → mCall} (G : mGood CC) {d : Nat} {vs : List mV} {st : mS} {post : mO → mS → Prop} (hn : (vs.map mcat).sum ≤ 4) (h : ∀ WW : mK, (∀ t ls stk rem st, mat P_RX6 0 sg_ k_163 [] (CC d) WW post t ls stk rem st → WW t ls stk rem st) → WW 0 (margs 0 vs) [] (0, 0) st) : CC (d + 1) 163 vs st post :=
  G.2 d 163 q_163 vs st post rfl hn (by rw [show Pl_ (qY q_163).cls = P_RX6 from Pl_RX6]; exact h)
set_option maxRecDepth 20000 in
/-- Ferryroster.tryOrders(LFerryroster;IIII)V -/
theorem go_164 {CC : Nat → mCall} (G : mGood CC) {d : Nat} {vs : List mV} {st : mS} {post : mO → mS → Prop} (hn : (vs.map mcat).sum ≤ 9) (h : ∀ WW : mK, (∀ t ls stk rem st, mat P_RX6 0 sg_ k_164 [] (CC d) WW post t ls stk rem st → WW t ls stk rem st) → WW 0 (margs 0 vs) [] (0, 0) st) : CC (d + 1) 164 vs st post :=
  G.2 d 164 q_164 vs st post rfl hn (by rw [show Pl_ (qY q_164).cls = P_RX6 from Pl_RX6]; exact h)
set_option maxRecDepth 20000 in
/-- Ferryroster.undoRelief(LFerryroster$Sailing;)V -/
theorem go_165 {CC : Nat → mCall} (G : mGood CC) {d : Nat} {vs : List mV} {st : mS} {post : mO → mS → Prop} (hn : (vs.map mcat).sum ≤ 3) (h : ∀ WW : mK, (∀ t ls stk rem st, mat P_RX6 0 sg_ k_165 [] (CC d) WW post t ls stk rem st → WW t ls stk rem st) → WW 0 (margs 0 vs) [] (0, 0) st) : CC (d + 1) 165 vs st post :=
  G.2 d 165 q_165 vs st post rfl hn (by rw [show Pl_ (qY q_165).cls = P_RX6 from Pl_RX6]; exact h)
set_option maxRecDepth 20000 in
/-- Ferryroster.followBestOrder()I -/
theorem go_166 {CC : Nat → mCall} (G : mGood CC) {d : Nat} {vs : List mV} {st : mS} {post : mO → mS → Prop} (hn : (vs.map mcat).sum ≤ 5) (h : ∀ WW : mK, (∀ t ls stk rem st, mat P_RX6 0 sg_ k_166 [] (CC d) WW post t ls stk rem st → WW t ls stk rem st) → WW 0 (margs 0 vs) [] (0, 0) st) : CC (d + 1) 166 vs st post :=
  G.2 d 166 q_166 vs st post rfl hn (by rw [show Pl_ (qY q_166).cls = P_RX6 from Pl_RX6]; exact h)
set_option maxRecDepth 20000 in
/-- Ferryroster.work(III)I -/
theorem go_167 {CC : Nat → mCall} (G : mGood CC) {d : Nat} {vs : List mV} {st : mS} {post : mO → mS → Prop} (hn : (vs.map mcat).sum ≤ 5) (h : ∀ WW : mK, (∀ t ls stk rem st, mat P_RX6 0 sg_ k_167 [] (CC d) WW post t ls stk rem st → WW t ls stk rem st) → WW 0 (margs 0 vs) [] (2, 12) st) : CC (d + 1) 167 vs st post :=
  G.2 d 167 q_167 vs st post rfl hn (by rw [show Pl_ (qY q_167).cls = P_RX6 from Pl_RX6]; exact h)
set_option maxRecDepth 20000 in
/-- Ferryroster.mostInDay(I)I -/
theorem go_168 {CC : Nat → mCall} (G : mGood CC) {d : Nat} {vs : List mV} {st : mS} {post : mO → mS → Prop} (hn : (vs.map mcat).sum ≤ 2) (h : ∀ WW : mK, (∀ t ls stk rem st, mat P_RX6 0 sg_ k_168 [] (CC d) WW post t ls stk rem st → WW t ls stk rem st) → WW 0 (margs 0 vs) [] (1, 6) st) : CC (d + 1) 168 vs st post :=
  G.2 d 168 q_168 vs st post rfl hn (by rw [show Pl_ (qY q_168).cls = P_RX6 from Pl_RX6]; exact h)
set_option maxRecDepth 20000 in
/-- Ferryroster.mostInDayByHours(I)I -/
theorem go_169 {CC : Nat → mCall} (G : mGood CC) {d : Nat} {vs : List mV} {st : mS} {post : mO → mS → Prop} (hn : (vs.map mcat).sum ≤ 2) (h : ∀ WW : mK, (∀ t ls stk rem st, mat P_RX6 0 sg_ k_169 [] (CC d) WW post t ls stk rem st → WW t ls stk rem st) → WW 0 (margs 0 vs) [] (1, 6) st) : CC (d + 1) 169 vs st post :=
  G.2 d 169 q_169 vs st post rfl hn (by rw [show Pl_ (qY q_169).cls = P_RX6 from Pl_RX6]; exact h)
set_option maxRecDepth 20000 in
/-- Ferryroster.mostInWeek(I)I -/
theorem go_170 {CC : Nat → mCall} (G : mGood CC) {d : Nat} {vs : List mV} {st : mS} {post : mO → mS → Prop} (hn : (vs.map mcat).sum ≤ 2) (h : ∀ WW : mK, (∀ t ls stk rem st, mat P_RX6 0 sg_ k_170 [] (CC d) WW post t ls stk rem st → WW t ls stk rem st) → WW 0 (margs 0 vs) [] (1, 6) st) : CC (d + 1) 170 vs st post :=
  G.2 d 170 q_170 vs st post rfl hn (by rw [show Pl_ (qY q_170).cls = P_RX6 from Pl_RX6]; exact h)
set_option maxRecDepth 20000 in
/-- Ferryroster.mostInWeekByHours(I)I -/
theorem go_171 {CC : Nat → mCall} (G : mGood CC) {d : Nat} {vs : List mV} {st : mS} {post : mO → mS → Prop} (hn : (vs.map mcat).sum ≤ 2) (h : ∀ WW : mK, (∀ t ls stk rem st, mat P_RX6 0 sg_ k_171 [] (CC d) WW post t ls stk rem st → WW t ls stk rem st) → WW 0 (margs 0 vs) [] (1, 6) st) : CC (d + 1) 171 vs st post :=
  G.2 d 171 q_171 vs st post rfl hn (by rw [show Pl_ (qY q_171).cls = P_RX6 from Pl_RX6]; exact h)
set_option maxRecDepth 20000 in
/-- Ferryroster.nextStart(II)I -/
theorem go_172 {CC : Nat → mCall} (G : mGood CC) {d : Nat} {vs : List mV} {st : mS} {post : mO → mS → Prop} (hn : (vs.map mcat).sum ≤ 5) (h : ∀ WW : mK, (∀ t ls stk rem st, mat P_RX6 0 sg_ k_172 [] (CC d) WW post t ls stk rem st → WW t ls stk rem st) → WW 0 (margs 0 vs) [] (3, 18) st) : CC (d + 1) 172 vs st post :=
  G.2 d 172 q_172 vs st post rfl hn (by rw [show Pl_ (qY q_172).cls = P_RX6 from Pl_RX6]; exact h)
set_option maxRecDepth 20000 in
/-- Ferryroster.workShare(I)F -/
theorem go_173 {CC : Nat → mCall} (G : mGood CC) {d : Nat} {vs : List mV} {st : mS} {post : mO → mS → Prop} (hn : (vs.map mcat).sum ≤ 3) (h : ∀ WW : mK, (∀ t ls stk rem st, mat P_RX6 0 sg_ k_173 [] (CC d) WW post t ls stk rem st → WW t ls stk rem st) → WW 0 (margs 0 vs) [] (2, 12) st) : CC (d + 1) 173 vs st post :=
  G.2 d 173 q_173 vs st post rfl hn (by rw [show Pl_ (qY q_173).cls = P_RX6 from Pl_RX6]; exact h)
set_option maxRecDepth 20000 in
/-- Ferryroster.meanWork()D -/
theorem go_174 {CC : Nat → mCall} (G : mGood CC) {d : Nat} {vs : List mV} {st : mS} {post : mO → mS → Prop} (hn : (vs.map mcat).sum ≤ 4) (h : ∀ WW : mK, (∀ t ls stk rem st, mat P_RX6 0 sg_ k_174 [] (CC d) WW post t ls stk rem st → WW t ls stk rem st) → WW 0 (margs 0 vs) [] (1, 6) st) : CC (d + 1) 174 vs st post :=
  G.2 d 174 q_174 vs st post rfl hn (by rw [show Pl_ (qY q_174).cls = P_RX6 from Pl_RX6]; exact h)
set_option maxRecDepth 20000 in
/-- Ferryroster.isSound()Z -/
theorem go_175 {CC : Nat → mCall} (G : mGood CC) {d : Nat} {vs : List mV} {st : mS} {post : mO → mS → Prop} (hn : (vs.map mcat).sum ≤ 3) (h : ∀ WW : mK, (∀ t ls stk rem st, mat P_RX6 1 sg_ k_175 [] (CC d) WW post t ls stk rem st → WW t ls stk rem st) → WW 0 (margs 0 vs) [] (0, 0) st) : CC (d + 1) 175 vs st post :=
  G.2 d 175 q_175 vs st post rfl hn (by rw [show Pl_ (qY q_175).cls = P_RX6 from Pl_RX6]; exact h)
set_option maxRecDepth 20000 in
/-- Ferryroster.sharesSomebodyWithLater(ILFerryroster$Sailing;)Z -/
theorem go_176 {CC : Nat → mCall} (G : mGood CC) {d : Nat} {vs : List mV} {st : mS} {post : mO → mS → Prop} (hn : (vs.map mcat).sum ≤ 5) (h : ∀ WW : mK, (∀ t ls stk rem st, mat P_RX6 1 sg_ k_176 [] (CC d) WW post t ls stk rem st → WW t ls stk rem st) → WW 0 (margs 0 vs) [] (0, 0) st) : CC (d + 1) 176 vs st post :=
  G.2 d 176 q_176 vs st post rfl hn (by rw [show Pl_ (qY q_176).cls = P_RX6 from Pl_RX6]; exact h)
set_option maxRecDepth 20000 in
/-- Ferryroster.isCountedAlikeForAll()Z -/
theorem go_177 {CC : Nat → mCall} (G : mGood CC) {d : Nat} {vs : List mV} {st : mS} {post : mO → mS → Prop} (hn : (vs.map mcat).sum ≤ 3) (h : ∀ WW : mK, (∀ t ls stk rem st, mat P_RX6 1 sg_ k_177 [] (CC d) WW post t ls stk rem st → WW t ls stk rem st) → WW 0 (margs 0 vs) [] (0, 0) st) : CC (d + 1) 177 vs st post :=
  G.2 d 177 q_177 vs st post rfl hn (by rw [show Pl_ (qY q_177).cls = P_RX6 from Pl_RX6]; exact h)
set_option maxRecDepth 20000 in
/-- Ferryroster.mostFromSailings(LFerryroster$Person;I)I -/
theorem go_178 {CC : Nat → mCall} (G : mGood CC) {d : Nat} {vs : List mV} {st : mS} {post : mO → mS → Prop} (hn : (vs.map mcat).sum ≤ 8) (h : ∀ WW : mK, (∀ t ls stk rem st, mat P_RX6 0 sg_ k_178 [] (CC d) WW post t ls stk rem st → WW t ls stk rem st) → WW 0 (margs 0 vs) [] (0, 0) st) : CC (d + 1) 178 vs st post :=
  G.2 d 178 q_178 vs st post rfl hn (by rw [show Pl_ (qY q_178).cls = P_RX6 from Pl_RX6]; exact h)
set_option maxRecDepth 20000 in
/-- Ferryroster.hoursOnSailings(LFerryroster$Person;II)I -/
theorem go_179 {CC : Nat → mCall} (G : mGood CC) {d : Nat} {vs : List mV} {st : mS} {post : mO → mS → Prop} (hn : (vs.map mcat).sum ≤ 7) (h : ∀ WW : mK, (∀ t ls stk rem st, mat P_RX6 0 sg_ k_179 [] (CC d) WW post t ls stk rem st → WW t ls stk rem st) → WW 0 (margs 0 vs) [] (0, 0) st) : CC (d + 1) 179 vs st post :=
  G.2 d 179 q_179 vs st post rfl hn (by rw [show Pl_ (qY q_179).cls = P_RX6 from Pl_RX6]; exact h)
set_option maxRecDepth 20000 in
/-- java/lang/Long.bitCount(J)I -/
theorem go_180 {CC : Nat → mCall} (G : mGood CC) {d : Nat} {vs : List mV} {st : mS} {post : mO → mS → Prop} (hn : (vs.map mcat).sum ≤ 2) (h : ∀ WW : mK, (∀ t ls stk rem st, mat P_RJ13 0 sg_ k_180 [] (CC d) WW post t ls stk rem st → WW t ls stk rem st) → WW 0 (margs 0 vs) [] (0, 0) st) : CC (d + 1) 180 vs st post :=
  G.2 d 180 q_180 vs st post rfl hn (by rw [show Pl_ (qY q_180).cls = P_RJ13 from Pl_RJ13]; exact h)
