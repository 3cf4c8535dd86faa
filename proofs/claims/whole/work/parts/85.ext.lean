/-! THE MODEL: all orders as a list; the choice is a fold over it -/
def extP (n : Nat) : Nat → Nat → (Nat → Int) → List (Nat → Int)
  | 0, _, tr => [tr]
  | r + 1, q, tr => (List.range n).flatMap (fun p => if freeB tr q p then extP n r (q + 1) (updN tr q (p : Int)) else [])
noncomputable def ordS (A : oA) (L : Nat → Nat) (n : Nat) (b : ordB) (w : Nat → Int) : ordB := @ite _ (better (runO A L w n).2.1 (runO A L w n).2.2 b) (Classical.propDecidable _) ((runO A L w n).2.1, (runO A L w n).2.2, w) b
theorem foldl_flat {α β : Type} (g : Nat → List α) (s : β → α → β) (b : β) : ∀ n, (((List.range n).flatMap g).foldl s b) = foldN (fun p b => (g p).foldl s b) n b
  | 0 => rfl
  | n + 1 => by
    rw [List.range_succ, List.flatMap_append, List.foldl_append, foldl_flat g s b n]
    show List.foldl s _ (g n ++ []) = _
    rw [List.append_nil]; rfl
theorem oOrd_ext {A : oA} {L : Nat → Nat} {n : Nat} : ∀ (r q : Nat) (tr : Nat → Int) (b : ordB), q + r = n → oOrd L n r q tr (runO A L tr q).1 (runO A L tr q).2.1 (runO A L tr q).2.2 b = (extP n r q tr).foldl (ordS A L n) b
  | 0, q, tr, b, hq => by
    have e : q = n := by omega
    subst e
    rfl
  | r + 1, q, tr, b, hq => by
    rw [oOrd_s]
    show _ = List.foldl _ _ ((List.range n).flatMap _)
    rw [foldl_flat]
    congr 1
    funext p b'
    unfold oStep
    by_cases hf : freeB tr q p = true
    · rw [if_pos hf, if_pos hf]
      rw [← oOrd_ext r (q + 1) (updN tr q (p : Int)) b' (by omega)]
      have e1 : runO A L (updN tr q (p : Int)) q = runO A L tr q := runO_congr q (fun j hj => by unfold updN; rw [if_neg (by omega)])
      have e2 : runO A L (updN tr q (p : Int)) (q + 1) = ((oGo (runO A L tr q).1 (L p)).1, (runO A L tr q).2.1 + (oGo (runO A L tr q).1 (L p)).2.1, (runO A L tr q).2.2 + (oGo (runO A L tr q).1 (L p)).2.2) := by
        conv => lhs; unfold runO
        rw [e1]
        unfold updN
        rw [if_pos rfl, Int.toNat_natCast]
      rw [e2]
    · rw [if_neg hf, if_neg hf]; rfl
abbrev E0 (n : Nat) : List (Nat → Int) := extP n n 0 (fun _ => -1)
theorem oAllB_ext {A : oA} : oAllB A = (E0 (lkN A)).foldl (ordS A (lkL A) (lkN A)) (5, 0, fun _ => -1) := oOrd_ext (A := A) (L := lkL A) (lkN A) 0 (fun _ => -1) _ (by omega)
def rowE (n m : Nat) : Nat → Int := (E0 n).getD m (fun _ => 0)
def okE (n m : Nat) : Bool := match nxtP (rowE n m) n with
  | none => decide (m + 1 = (E0 n).length)
  | some f => decide (m + 1 < (E0 n).length) && (List.range n).all (fun k => decide (f k = rowE n (m + 1) k))
def pmE (n m : Nat) : Bool := (List.range n).all (fun j => decide (0 ≤ rowE n m j ∧ rowE n m j < n)) && (List.range n).all (fun i => (List.range n).all (fun j => decide (i ≠ j → rowE n m i ≠ rowE n m j)))
theorem E0_nx : ∀ n, n ≤ 4 → 2 ≤ n → ∀ m, m < (E0 n).length → okE n m = true := by decide +kernel
theorem E0_pm : ∀ n, n ≤ 4 → ∀ m, m < (E0 n).length → pmE n m = true := by decide +kernel
theorem E0_1 : ∀ n, n ≤ 4 → ¬ 2 ≤ n → (E0 n).length = 1 := by decide +kernel
theorem E0_0 : ∀ n, n ≤ 4 → 0 < (E0 n).length ∧ ∀ k, k < n → rowE n 0 k = (k : Int) := by decide +kernel
theorem E0_next {n m : Nat} (hn : n ≤ 4) (h2 : 2 ≤ n) (hm : m < (E0 n).length) : (∀ f, nxtP (rowE n m) n = some f → m + 1 < (E0 n).length ∧ ∀ k, k < n → f k = rowE n (m + 1) k) ∧ (nxtP (rowE n m) n = none → m + 1 = (E0 n).length) := by
  have h := E0_nx n hn h2 m hm
  unfold okE at h
  refine ⟨fun f hf => ?_, fun hf => ?_⟩
  · rw [hf] at h
    simp only [Bool.and_eq_true, decide_eq_true_iff, List.all_eq_true, List.mem_range] at h
    exact h
  · rw [hf] at h
    exact of_decide_eq_true h
theorem E0_perm {n m : Nat} (hn : n ≤ 4) (hm : m < (E0 n).length) : permW n n (rowE n m) := by
  have h := E0_pm n hn m hm
  unfold pmE at h
  simp only [Bool.and_eq_true, decide_eq_true_iff, List.all_eq_true, List.mem_range] at h
  exact ⟨h.1, fun i j hi hj => h.2 i hi j hj⟩
noncomputable def bestE (A : oA) (L : Nat → Nat) (n m : Nat) : ordB := ((E0 n).take m).foldl (ordS A L n) (5, 0, fun _ => -1)
theorem bestE_s {A : oA} {L : Nat → Nat} {n m : Nat} (hm : m < (E0 n).length) : bestE A L n (m + 1) = ordS A L n (bestE A L n m) (rowE n m) := by
  unfold bestE rowE
  rw [List.take_succ, List.getElem?_eq_getElem hm, List.foldl_append, List.getD_eq_getElem?_getD, List.getElem?_eq_getElem hm]
  rfl
theorem bestE_all {A : oA} : oAllB A = bestE A (lkL A) (lkN A) (E0 (lkN A)).length := by
  unfold bestE
  rw [oAllB_ext, List.take_length]
/-! what changes in a trial -/
def agR (A B : oA) : Prop := ∀ k j, ¬ (k = 44 ∧ j < 24) → ¬ (k = 45 ∧ j < 72) → B k j = A k j
theorem agR.trans {A B C : oA} (h1 : agR A B) (h2 : agR B C) : agR A C := fun k j n1 n2 => (h2 k j n1 n2).trans (h1 k j n1 n2)
theorem agX.R {A B : oA} {s : Nat} (h : agX A B s) (hs : s < 24) : agR A B := fun k j n1 n2 => h k j (fun z => n2 ⟨z.1, by omega⟩) (fun z => n1 ⟨z.1, by omega⟩)
theorem runO_R {A : oA} {L : Nat → Nat} {n : Nat} {w : Nat → Int} (hA : OA A) (hl : (∀ i, i < n → L i < aV A) ∧ (∀ i, i < n → A 44 (L i) = 112) ∧ (∀ i j, i < n → j < n → L i = L j → i = j)) (hV : aV A ≤ 24) (hw : permW n n w) : ∀ q, q ≤ n → agR A (runO A L w q).1
  | 0, _ => fun _ _ _ _ => rfl
  | q + 1, hq => by
    obtain ⟨h1, h2, h3, h4⟩ := runO_OA hA hl q ⟨fun i hi => hw.1 i (by omega), fun a b ha hb => hw.2 a b (by omega) (by omega)⟩
    obtain ⟨p, hp⟩ := Int.eq_ofNat_of_zero_le (hw.1 q (by omega)).1
    have hp2 : w q = (p : Int) := hp
    have hpn : p < n := by have := (hw.1 q (by omega)).2; omega
    have hfr : freeB w q p = true := freeB_iff.mpr (fun k hk => by rw [← hp2]; exact hw.2 k q (by omega) (by omega) (by omega))
    obtain ⟨g1, g2, g3, g4, g5, g6⟩ := oGo_OA h1 (h2.1 p hpn) (h2.2.1 p hpn hfr)
    have e : (w q).toNat = p := by omega
    refine (runO_R hA hl hV hw q (by omega)).trans ?_
    show agR _ (oGo (runO A L w q).1 (L (w q).toNat)).1
    rw [e]
    exact g6.R (by have := hl.1 p hpn; omega)
theorem RelM_cp {st st' : mS} {A X : oA} (hX : RelM st X) (hR : agR A X) (hf : frP (fun k _ j => (k = 45 ∧ j < 72) ∨ (k = 44 ∧ j < 24) ∨ mQ0 k 0 j) st st') (h45 : ∀ j, j < 72 → sI st' 45 0 j = A 45 j) (h44 : ∀ j, j < 24 → sI st' 44 0 j = A 44 j) : RelM st' A := by
  refine ⟨fun j h1 h2 => ?_, fun k j h1 h2 => ?_⟩
  · rw [hf.1 30 0 j (fun z => by unfold mQ0 at z; omega), hX.1 j h1 h2]
    exact hR 30 j (by omega) (by omega)
  · by_cases c1 : k = 45 ∧ j < 72
    · rw [c1.1]; exact h45 j c1.2
    · by_cases c2 : k = 44 ∧ j < 24
      · rw [c2.1]; exact h44 j c2.2
      · rw [hf.1 k 0 j (fun z => by unfold mQ0 at z; omega), hX.2 k j h1 h2]
        exact hR k j c2 c1
