/-! THE LAW: its body from label 28 over the machine -/
section LSim
variable {E : mEnv} {F : mFr} {mc ms : Nat} {st0 : mS} {La0 : mLa}
def lPost : mO → mS → Prop := fun o _ => o = .inl (some (mi 1))
theorem law_ki {C : mCall} {Xx : Nat → Nat → mLs → Nat × Nat → mS → Prop} : mKi E F cL_law 9 mc ms st0 La0 P_RL sgL_ C Xx := by
  intro x k y pc ls stk rem st nx hx hb
  exfalso
  have h1 : y < 401 := blt1 (List.all_eq_true.mp (show P_RL.2.1.all (fun z => Nat.blt z.2 401) = true by decide +kernel) _ (look2_mem hx))
  unfold icB at hb
  rw [hx] at hb
  dsimp only at hb
  rw [Bool.and_eq_true, Bool.and_eq_true] at hb
  have := Nat.le_of_ble_eq_true hb.1.1
  omega
theorem law_kx {WW : mK} : mKx E F 9 mc ms st0 La0 (mexc [] WW lPost k_300) := by
  intro x pc ls rem st2 h
  have h1 : lPost (.inr x) st2 := h
  cases h1
/-- what a walk that ends with 1 needs of the frame -/
def lEnd (E : mEnv) (F : mFr) (mc ms : Nat) : Prop := ∀ (H : Heap) (locs : List Loc) (cells slots pc : Nat) (lsA : Array Slot), (∀ q ∈ locs, eN E ≤ q.base) → cells ≤ mc → slots ≤ ms → decode cL_law pc = .ok (.ireturn, 1) → mW F H locs cells slots (F0 (fM F) pc lsA [.int 1])
theorem law_ke {C : mCall} {J : mK} {Xx : Nat → Nat → mLs → Nat × Nat → mS → Prop} (hE : lEnd E F mc ms) : mKe E F cL_law 9 mc ms st0 La0 P_RL M_ 1 (some .boolean) sgL_ C J Xx lPost := by
  intro i pc ls stk rem st nx hi hd hok h
  cases i <;> first | (exact absurd (show false = true from hi) (by decide)) | skip
  · obtain ⟨-, hb⟩ := beq2 (n := 1) (k := 1) (b := refB (some .boolean)) hok
    exact absurd hb (by decide)
  · obtain ⟨-, hb⟩ := beq2 (n := 1) (k := 1) (b := decide ((some .boolean : Option FieldType) = some .double)) hok
    exact absurd hb (by decide)
  · obtain ⟨-, hb⟩ := beq2 (n := 1) (k := 1) (b := decide ((some .boolean : Option FieldType) = some .float)) hok
    exact absurd hb (by decide)
  · have h0 : ∃ v r, stk = mi v :: r ∧ tyOK 1 v ∧ cond (r.isEmpty) (lPost (.inl (some (mi v))) st) False := by
      match stk, h with
      | .inl v :: r, h => exact ⟨v, r, rfl, h⟩
    obtain ⟨v, r, rfl, hv, h2⟩ := h0
    obtain ⟨he9, h1⟩ := cond_inv h2
    cases List.isEmpty_iff.mp he9
    have e : v = 1 := by
      have h3 : (Sum.inl (some (mi v)) : mO) = .inl (some (mi 1)) := h1
      cases h3
      rfl
    subst e
    intro La H locs cells slots lsA hw hm he hl hs hS hls hc hsl
    exact hE H locs cells slots pc lsA hS.2.2 (by omega) (by omega) hd
  · obtain ⟨-, hb⟩ := beq2 (n := 1) (k := 1) (b := decide ((some .boolean : Option FieldType) = none)) hok
    exact absurd hb (by decide)
theorem law_sim (X : mCtx E F cL_law RL 9) (T : mTab E mS_ (fS F)) (hR : mFits F 31 mc ms) (hl : F.2.1.stackTraces = false) (hI : primI E mS_ sg_ F.2.1) (hC : primC E mS_ sg_ F.2.1 TH_) (hE : lEnd E F mc ms)
    {n : Nat} {xs : Nat → Int} (hxs : ∀ j, inR (xs j)) (hn : n ≤ 2560) {A : oA} {st : mS} (hA : LI st A) (hX : LX xs n st) (ck : k_300.all (fun b => lblkB P_RL M_ cL_law 1 (some .boolean) 9 b.1 b.2.2) = true) :
    mSim E F 9 mc ms st0 La0 28 [(0, mr 62 0), (1, mr 0 0), (2, mr 30 0), (3, mr 60 0), (4, mr 61 0), (5, mi 0)] [] (15360, 614400) st := by
  have hG := good_m (E := E) hl hI hC
  have hGL := good_l (E := E) hl hI
  refine l_law (CL := CLm E F.2.1) (post := lPost) hG hGL (WW := fun t ls stk rem st2 => mSim E F 9 mc ms st0 La0 t ls stk rem st2) (fun t ls stk rem st2 h => ?_) hxs hn (fun _ => rfl) 512 0 15360 614400 st A (by omega) (by omega) (by omega) (by omega) hA hX
  exact lmat_sound X T hR (law_mOK hl) law_mWr law_ki (law_ke hE) (fun _ _ _ _ _ h => h) law_kx ck h
end LSim
