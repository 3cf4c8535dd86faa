/-! MEMBERS OF ArrayList: called through List over a world -/
abbrev lOKq (y : Nat) (q : mMeth) (n : Nat) : Prop := Jvm.Cond.selects "java/util/ArrayList" (ifM y) (qY q) ∈ lw_good ∧ Jvm.Cond.instanceMethod (qY q) ∈ lw_good ∧ Jvm.Cond.initialized (qY q).cls ∈ lw_good ∧ Jvm.Cond.code (qY q) (qB q) (qL q) (qR q) ∈ lw_good ∧ arM y = qY q ∧ (parseMethodDescriptor (ifM y).desc).map (fun d => d.parameters.length) = some n ∧ qL q ≤ 21
theorem lOK_of {y n : Nat} {q : mMeth} {i j k : Nat} (h : (atT i (.code (qY q) (qB q) (qL q) (qR q)) && atT j (.initialized (qY q).cls) && atT k (.instanceMethod (qY q))) = true) (hs : Jvm.Cond.selects "java/util/ArrayList" (ifM y) (qY q) ∈ lw_good) (ha : arM y = qY q) (hp : (parseMethodDescriptor (ifM y).desc).map (fun d => d.parameters.length) = some n) (hL : qL q ≤ 21) : lOKq y q n := by
  rw [Bool.and_eq_true, Bool.and_eq_true] at h
  exact ⟨hs, atT_ok h.2, atT_ok h.1.2, atT_ok h.1.1, ha, hp, hL⟩
set_option maxRecDepth 100000 in
theorem lO_1 : lOKq 501 qa_size 0 := lOK_of ma_size (by decide +kernel) rfl (by decide +kernel) (by decide)
set_option maxRecDepth 100000 in
theorem lO_2 : lOKq 502 qa_get 1 := lOK_of ma_get (by decide +kernel) rfl (by decide +kernel) (by decide)
set_option maxRecDepth 100000 in
theorem lO_3 : lOKq 503 qa_add 1 := lOK_of ma_add (by decide +kernel) rfl (by decide +kernel) (by decide)
set_option maxRecDepth 100000 in
theorem lO_4 : lOKq 504 qa_addi 2 := lOK_of ma_addi (by decide +kernel) rfl (by decide +kernel) (by decide)
set_option maxRecDepth 100000 in
theorem lO_5 : lOKq 505 qa_rem 1 := lOK_of ma_rem (by decide +kernel) rfl (by decide +kernel) (by decide)
set_option maxRecDepth 100000 in
theorem lO_6 : lOKq 506 qa_clr 0 := lOK_of ma_clr (by decide +kernel) rfl (by decide +kernel) (by decide)
section LF
variable {p : Program} {l : Launch} {e : Env} {R : Room} {s : State} {m : MethodId} {args : Array Value} {below : List Frame} {meth : Method} {c : Code} {H : Heap} {locs : List Loc} {cells slots : Nat} {Q : State → Prop}
variable {E : mEnv} {S : mStr} {cc : ByteArray} {pc nL : Nat} {ls : Array Slot} {rest : List Value} {F : Nat → Prop} {H0 : Heap}
theorem lc_F {own : String} {q : mMeth} {y x k cnt mc ms b n : Nat} {fs : List Value} {Pc : Array Value → State → Prop} {Qc : Array Value → State → Outcome → State → Prop} {free : Addr → Prop} {As stk : List Value} (X : lC E S p s m c cc nL args own) (hq : lOKq y q n) (h5 : 501 ≤ y ∧ y ≤ 506) (hlink : Jvm.Cond.methodLink own x (ifM y) ∈ lw_good)
    (hM : Met l (qY q) (qWs q) (lR k mc ms) Pc Qc mc ms free) (hbl : FrameBlind Pc) (hb : va_at (eD E) vwCl (b, .inr (3, fs)) H) (hp : ∀ U : State, U.heap = H → s.WarmedH U.vm → Pc (Value.ref b :: As).toArray U) (hn : As.length = n) (hls : ls.size = nL) (hst : stk = As.reverse ++ .ref b :: rest) (hcat : (rest.map fun v => v.category).sum ≤ 8)
    (hk : k + 1 ≤ R.frames) (hlo : 40 * k + 40 ≤ R.locals) (hro : cells + mc ≤ R.cells ∧ slots + ms ≤ R.slots) (hdg : decode cc pc = .ok (.invokeinterface x cnt, 5)) : va_Run5 p l e R s m args below meth c H locs cells slots mc ms (F0 m pc ls stk) rest (Qc (Value.ref b :: As).toArray) free := by
  obtain ⟨q1, q2, q3, q4, q5, q6, q7⟩ := hq
  have ht := X.1.2.2.2.2
  have hFw := X.2.1.2.2.2.2.2.2.2.2.2.1 y h5.1 h5.2
  rw [q5] at hFw
  have hG : GoodIn lw_good (va_wsF own x "java/util/ArrayList" (ifM y) (qY q) (qWs q)) := by
    intro w hw
    rcases List.mem_append.mp hw with h | h
    · simp only [List.mem_cons, List.not_mem_nil, or_false] at h
      rcases h with rfl | rfl | rfl | rfl
      · exact lw_good_good _ hlink
      · exact lw_good_good _ q1
      · exact lw_good_good _ q2
      · exact lw_good_good _ q3
    · exact qWs_good q4 w h
  have h7 : 8 + (qL q + 11) + 40 * k ≤ R.locals := by omega
  exact va_runF (Ts := lw_good) (own := own) (C := "java/util/ArrayList") (As := As) ((X.2.1.1.1 3 _ rfl).2) X.1 hM (va_cwF n ht hG rfl rfl rfl hFw ⟨(ifM_no y).1, (ifM_no y).2, q6⟩ ⟨hk, h7⟩) ⟨hbl, va_recv X.2.1.1 (one_P hb) (q := (RJx4a65c, TJx4a65c, 3)) rfl (q0 := 0) rfl, hp⟩ rfl hn hls hst (lv_room hcat) hdg hro
end LF
/-- a list's elements by their addresses -/
def lf (st : mS) (La : mLa) (k : Nat) : Nat → Option Nat := fun j => ((sL st k)[j]?).map (La (mEk k))
/-- the class of a list's elements, by its place -/
def lci (k : Nat) : Nat := match k with
  | 20 => 7 | 21 => 9 | _ => 8
def lcn (k : Nat) : String := match k with
  | 20 => RX3 | 21 => RX5 | _ => RX4
theorem lel {k : Nat} (h : 20 ≤ k) (h2 : k < 24) : elOK (lcn k) (lci k) := by
  rcases (show k = 20 ∨ k = 21 ∨ k = 22 ∨ k = 23 by omega) with rfl | rfl | rfl | rfl
  · exact el_3
  · exact el_7
  · exact el_9
  · exact el_9
theorem mEk_kd {k : Nat} (h : 20 ≤ k) (h2 : k < 24) : ∃ fds, mKd (mEk k) = some (lci k, fds) := by
  rcases (show k = 20 ∨ k = 21 ∨ k = 22 ∨ k = 23 by omega) with rfl | rfl | rfl | rfl <;> exact ⟨_, rfl⟩
theorem lk_kd {k : Nat} (h : 20 ≤ k) (h2 : k < 28) : mKd k = none := kd_no k (by omega)
theorem lk_ad {k : Nat} (h : 20 ≤ k) (h2 : k < 28) : mAd k = none := ad_no k (by omega)
theorem lk_G {k : Nat} (h : 20 ≤ k) (h2 : k < 28) : mG k = 0 := by
  rcases (show k = 20 ∨ k = 21 ∨ k = 22 ∨ k = 23 ∨ k = 24 ∨ k = 25 ∨ k = 26 ∨ k = 27 by omega) with rfl | rfl | rfl | rfl | rfl | rfl | rfl | rfl <;> rfl
section LWorld
variable {E : mEnv} {cap : Nat → Nat} {mdc : Nat → Int32} {st : mS} {La : mLa} {k : Nat}
theorem cell_list (h : 20 ≤ k) (h2 : k < 24) (h0 : 0 < sN st 0) : mCell E cap mdc st La k 0 = some (.inr (3, [.int (mdc k), .ref (if cap k = 0 then eE E else La (k + 4) 0), .int (nI (sL st k).length)])) := by
  unfold mCell
  rw [if_neg (by rw [lk_G h (by omega)]; omega), lk_kd h (by omega), lk_ad h (by omega)]
  dsimp only
  rw [if_pos ⟨h, h2, rfl⟩]
  rfl
theorem cell_lrow (h : 20 ≤ k) (h2 : k < 24) (h0 : 0 < sN st 0) (hc : cap k ≠ 0) : mCell E cap mdc st La (k + 4) 0 = some (.inl (eC E 4, cap k, .inr (.inr (.inr (.inr (lf st La k)))))) := by
  unfold mCell
  rw [if_neg (by rw [lk_G (by omega) (by omega)]; omega), lk_kd (by omega) (by omega), lk_ad (by omega) (by omega)]
  dsimp only
  rw [if_neg (by omega), if_pos ⟨by omega, by omega, rfl, by rw [Nat.add_sub_cancel]; exact hc⟩]
  simp only [Nat.add_sub_cancel]
  rfl
end LWorld
