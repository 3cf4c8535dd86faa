/-! RELIEVING all -/
theorem runO_congr {A : oA} {L : Nat → Nat} {w w' : Nat → Int} : ∀ q, (∀ j, j < q → w j = w' j) → runO A L w q = runO A L w' q
  | 0, _ => rfl
  | q + 1, h => by
    have ih := runO_congr (A := A) (L := L) q (fun j hj => h j (by omega))
    unfold runO
    rw [ih, h q (by omega)]
theorem permW_up {n q p : Nat} {w : Nat → Int} (h : permW n q w) (hp : p < n) (hf : freeB w q p = true) : permW n (q + 1) (updN w q (p : Int)) := by
  rw [freeB_iff] at hf
  refine ⟨fun j hj => ?_, fun i j hi hj hij => ?_⟩
  · unfold updN
    by_cases e : j = q
    · rw [if_pos e]; omega
    · rw [if_neg e]; exact h.1 j (by omega)
  · unfold updN
    by_cases e : i = q
    · rw [if_pos e, if_neg (by omega)]
      exact fun z => hf j (by omega) z.symm
    · rw [if_neg e]
      by_cases e2 : j = q
      · rw [if_pos e2]; exact hf i (by omega)
      · rw [if_neg e2]; exact h.2 i j (by omega) (by omega) hij
theorem free_ex {n q : Nat} {w : Nat → Int} (hq : q < n) (hn : n ≤ 4) : ∃ p, p < n ∧ freeB w q p = true := by
  refine Classical.byContradiction fun hno => ?_
  have h : ∀ p : Nat, p < n → (0 < q ∧ w 0 = p) ∨ (1 < q ∧ w 1 = p) ∨ (2 < q ∧ w 2 = p) := fun p hp => by
    refine Classical.byContradiction fun h2 => hno ⟨p, hp, freeB_iff.mpr (fun k hk e => h2 ?_)⟩
    rcases (by omega : k = 0 ∨ k = 1 ∨ k = 2) with rfl | rfl | rfl
    · exact Or.inl ⟨hk, e⟩
    · exact Or.inr (Or.inl ⟨hk, e⟩)
    · exact Or.inr (Or.inr ⟨hk, e⟩)
  have h0 := h 0
  have h1 := h 1
  have h2 := h 2
  have h3 := h 3
  omega
theorem oOrd_run {A : oA} {L : Nat → Nat} {n : Nat} (hA : OA A) (hl : (∀ i, i < n → L i < aV A) ∧ (∀ i, i < n → A 44 (L i) = 112) ∧ (∀ i j, i < n → j < n → L i = L j → i = j)) (hn : n ≤ 4) : ∀ (r q : Nat) (tr : Nat → Int) (b : ordB), q + r = n → permW n q tr →
    (oOrd L n r q tr (runO A L tr q).1 (runO A L tr q).2.1 (runO A L tr q).2.2 b = b ∨ ∃ w, permW n n w ∧ oOrd L n r q tr (runO A L tr q).1 (runO A L tr q).2.1 (runO A L tr q).2.2 b = ((runO A L w n).2.1, (runO A L w n).2.2, w)) ∧
    (oOrd L n r q tr (runO A L tr q).1 (runO A L tr q).2.1 (runO A L tr q).2.2 b).1 ≤ b.1 ∧ (oOrd L n r q tr (runO A L tr q).1 (runO A L tr q).2.1 (runO A L tr q).2.2 b).1 ≤ (runO A L tr q).2.1 + r := by
  intro r
  induction r with
  | zero =>
    intro q tr b hq hp
    unfold oOrd
    have e : q = n := by omega
    subst e
    by_cases hb : better (runO A L tr q).2.1 (runO A L tr q).2.2 b
    · rw [if_pos hb]
      refine ⟨Or.inr ⟨tr, hp, rfl⟩, ?_, ?_⟩
      · unfold better at hb
        show (runO A L tr q).2.1 ≤ b.1
        omega
      · show (runO A L tr q).2.1 ≤ (runO A L tr q).2.1 + ((0 : Nat) : Int); omega
    · rw [if_neg hb]
      unfold better at hb
      exact ⟨Or.inl rfl, by omega, by omega⟩
  | succ r ih =>
    intro q tr b hq hp
    rw [oOrd_s]
    have step : ∀ p, p < n → ∀ b', (freeB tr q p = true → ((oStep L n r q tr (runO A L tr q).1 (runO A L tr q).2.1 (runO A L tr q).2.2 p b' = b' ∨ ∃ w, permW n n w ∧ oStep L n r q tr (runO A L tr q).1 (runO A L tr q).2.1 (runO A L tr q).2.2 p b' = ((runO A L w n).2.1, (runO A L w n).2.2, w)) ∧
        (oStep L n r q tr (runO A L tr q).1 (runO A L tr q).2.1 (runO A L tr q).2.2 p b').1 ≤ b'.1 ∧ (oStep L n r q tr (runO A L tr q).1 (runO A L tr q).2.1 (runO A L tr q).2.2 p b').1 ≤ (runO A L tr q).2.1 + ((r + 1 : Nat) : Int))) ∧
        (¬ freeB tr q p = true → oStep L n r q tr (runO A L tr q).1 (runO A L tr q).2.1 (runO A L tr q).2.2 p b' = b') := fun p hpn b' => by
      unfold oStep
      constructor
      · intro hf
        rw [if_pos hf]
        have i1 := ih (q + 1) (updN tr q (p : Int)) b' (by omega) (permW_up hp hpn hf)
        have e1 : runO A L (updN tr q (p : Int)) q = runO A L tr q := runO_congr q (fun j hj => by unfold updN; rw [if_neg (by omega)])
        have e2 : runO A L (updN tr q (p : Int)) (q + 1) = ((oGo (runO A L tr q).1 (L p)).1, (runO A L tr q).2.1 + (oGo (runO A L tr q).1 (L p)).2.1, (runO A L tr q).2.2 + (oGo (runO A L tr q).1 (L p)).2.2) := by
          conv => lhs; unfold runO
          rw [e1]
          unfold updN
          rw [if_pos rfl, Int.toNat_natCast]
        rw [e2] at i1
        have ho := runO_OA hA hl q hp
        obtain ⟨g1, g2, g3, g4, g5, g6⟩ := oGo_OA ho.1 (ho.2.1.1 p hpn) (ho.2.1.2.1 p hpn hf)
        refine ⟨i1.1, i1.2.1, ?_⟩
        have := i1.2.2
        have e3 : ((runO A L tr q).2.1 + (oGo (runO A L tr q).1 (L p)).2.1) + (r : Int) ≤ (runO A L tr q).2.1 + ((r + 1 : Nat) : Int) := by omega
        exact Int.le_trans this e3
      · intro hf; exact if_neg hf
    obtain ⟨p0, hp0, hf0⟩ := free_ex (w := tr) (show q < n by omega) hn
    have key : ∀ m, m ≤ n → (foldN (oStep L n r q tr (runO A L tr q).1 (runO A L tr q).2.1 (runO A L tr q).2.2) m b = b ∨ ∃ w, permW n n w ∧ foldN (oStep L n r q tr (runO A L tr q).1 (runO A L tr q).2.1 (runO A L tr q).2.2) m b = ((runO A L w n).2.1, (runO A L w n).2.2, w)) ∧
        (foldN (oStep L n r q tr (runO A L tr q).1 (runO A L tr q).2.1 (runO A L tr q).2.2) m b).1 ≤ b.1 ∧ (p0 < m → (foldN (oStep L n r q tr (runO A L tr q).1 (runO A L tr q).2.1 (runO A L tr q).2.2) m b).1 ≤ (runO A L tr q).2.1 + ((r + 1 : Nat) : Int)) := by
      intro m
      induction m with
      | zero => intro _; exact ⟨Or.inl rfl, Int.le_refl _, fun z => by omega⟩
      | succ m ihm =>
        intro hm
        obtain ⟨m1, m2, m3⟩ := ihm (by omega)
        obtain ⟨z, hz⟩ : ∃ z, z = foldN (oStep L n r q tr (runO A L tr q).1 (runO A L tr q).2.1 (runO A L tr q).2.2) m b := ⟨_, rfl⟩
        have es : foldN (oStep L n r q tr (runO A L tr q).1 (runO A L tr q).2.1 (runO A L tr q).2.2) (m + 1) b = oStep L n r q tr (runO A L tr q).1 (runO A L tr q).2.1 (runO A L tr q).2.2 m z := by rw [hz]; rfl
        rw [es]
        rw [← hz] at m1 m2 m3
        obtain ⟨s1, s2⟩ := step m (by omega) z
        by_cases hf : freeB tr q m = true
        · obtain ⟨t1, t2, t3⟩ := s1 hf
          refine ⟨?_, by omega, fun _ => t3⟩
          rcases t1 with t1 | t1
          · rw [t1]; exact m1
          · exact Or.inr t1
        · rw [s2 hf]
          refine ⟨m1, m2, fun hlt => m3 ?_⟩
          by_cases e : p0 = m
          · subst e; exact absurd hf0 hf
          · omega
    obtain ⟨k1, k2, k3⟩ := key n (Nat.le_refl _)
    exact ⟨k1, k2, k3 hp0⟩
noncomputable def shB (A : oA) (s : Nat) : Bool := @decide (oShort A s) (Classical.propDecidable _)
theorem shB_iff {A : oA} {s : Nat} : shB A s = true ↔ oShort A s := by unfold shB; exact @decide_eq_true_iff _ (Classical.propDecidable _)
noncomputable def bkt (A : oA) (i h : Nat) : List Nat := (List.range i).filter (fun s => shB A s && decide (A 42 s = (h : Int)))
noncomputable def bk (A : oA) (i : Nat) : List Nat := (List.range 1000).flatMap (bkt A i)
theorem bkt_mem {A : oA} {i h x : Nat} : x ∈ bkt A i h ↔ x < i ∧ oShort A x ∧ A 42 x = (h : Int) := by
  unfold bkt
  rw [List.mem_filter, List.mem_range, Bool.and_eq_true, shB_iff, decide_eq_true_iff]
theorem bk_mem {A : oA} {i x : Nat} (h : x ∈ bk A i) : x < i ∧ oShort A x := by
  unfold bk at h
  obtain ⟨a, _, h2⟩ := List.mem_flatMap.mp h
  have := bkt_mem.mp h2
  exact ⟨this.1, this.2.1⟩
theorem bk_no {A : oA} {i : Nat} (h : ¬ oShort A i) : bk A (i + 1) = bk A i := by
  unfold bk
  congr 1
  funext a
  unfold bkt
  rw [List.range_succ, List.filter_append]
  have : List.filter (fun s => shB A s && decide (A 42 s = (a : Int))) [i] = [] := by
    rw [List.filter_cons_of_neg (by rw [Bool.and_eq_true, shB_iff]; exact fun z => h z.1)]; rfl
  rw [this, List.append_nil]
theorem bk_yes {A : oA} {i : Nat} (h : oShort A i) (h0 : 0 ≤ A 42 i) (h1 : A 42 i < 1000) : ∃ P Q, bk A i = P ++ Q ∧ bk A (i + 1) = P ++ i :: Q ∧ (∀ x, x ∈ P → A 42 x ≤ A 42 i) ∧ (∀ x, x ∈ Q → A 42 i < A 42 x) := by
  obtain ⟨t, ht⟩ := Int.eq_ofNat_of_zero_le h0
  have ht2 : A 42 i = (t : Int) := ht
  have hne : ∀ a : Nat, a ≠ t → bkt A (i + 1) a = bkt A i a := fun a ha => by
    unfold bkt
    rw [List.range_succ, List.filter_append]
    have : List.filter (fun s => shB A s && decide (A 42 s = (a : Int))) [i] = [] := by
      rw [List.filter_cons_of_neg (by rw [Bool.and_eq_true, decide_eq_true_iff]; exact fun z => ha (by omega))]; rfl
    rw [this, List.append_nil]
  have heq : bkt A (i + 1) t = bkt A i t ++ [i] := by
    unfold bkt
    rw [List.range_succ, List.filter_append]
    have : List.filter (fun s => shB A s && decide (A 42 s = (t : Int))) [i] = [i] := by
      rw [List.filter_cons_of_pos (by rw [Bool.and_eq_true, shB_iff, decide_eq_true_iff]; exact ⟨h, ht2⟩)]; rfl
    rw [this]
  have er : List.range 1000 = List.range t ++ (t :: (List.range (999 - t)).map (fun x => t + 1 + x)) := by
    rw [show 1000 = (t + 1) + (999 - t) from by omega, List.range_add, List.range_succ, List.append_assoc]
    rfl
  have ec : ∀ (l : List Nat), (∀ a, a ∈ l → a ≠ t) → l.flatMap (bkt A (i + 1)) = l.flatMap (bkt A i) := fun l => by
    induction l with
    | nil => intro _; rfl
    | cons a l ih =>
      intro hl
      rw [List.flatMap_cons, List.flatMap_cons, hne a (hl a List.mem_cons_self), ih (fun b hb => hl b (List.mem_cons_of_mem _ hb))]
  refine ⟨(List.range t).flatMap (bkt A i) ++ bkt A i t, ((List.range (999 - t)).map (fun x => t + 1 + x)).flatMap (bkt A i), ?_, ?_, fun x hx => ?_, fun x hx => ?_⟩
  · unfold bk
    rw [er, List.flatMap_append, List.flatMap_cons, List.append_assoc]
  · unfold bk
    rw [er, List.flatMap_append, List.flatMap_cons, ec _ (fun a ha => by have := List.mem_range.mp ha; omega), ec _ (fun a ha => by obtain ⟨b, _, rfl⟩ := List.mem_map.mp ha; omega), heq, List.append_assoc, List.append_assoc]
    rfl
  · rcases List.mem_append.mp hx with hx | hx
    · obtain ⟨a, ha, hb⟩ := List.mem_flatMap.mp hx
      have := (bkt_mem.mp hb).2.2
      have := List.mem_range.mp ha
      omega
    · have := (bkt_mem.mp hx).2.2
      omega
  · obtain ⟨a, ha, hb⟩ := List.mem_flatMap.mp hx
    obtain ⟨c, _, rfl⟩ := List.mem_map.mp ha
    have := (bkt_mem.mp hb).2.2
    omega
theorem bk_nodup {A : oA} : ∀ i, (∀ s, s < i → oShort A s → 0 ≤ A 42 s ∧ A 42 s < 1000) → (bk A i).Nodup
  | 0, _ => by
    have : bk A 0 = [] := by
      rw [List.eq_nil_iff_forall_not_mem]
      intro x hx
      have := (bk_mem hx).1
      omega
    rw [this]; exact List.nodup_nil
  | i + 1, h => by
    have ih := bk_nodup i (fun s hs => h s (by omega))
    by_cases hi : oShort A i
    · obtain ⟨P, Q, e1, e2, _, _⟩ := bk_yes hi (h i (by omega) hi).1 (h i (by omega) hi).2
      rw [e2]
      have hno : i ∉ P ++ Q := fun z => by
        rw [← e1] at z
        have := (bk_mem z).1
        omega
      rw [e1] at ih
      have hp : (P ++ i :: Q).Perm (i :: (P ++ Q)) := List.perm_middle
      exact hp.nodup_iff.mpr (List.nodup_cons.mpr ⟨hno, ih⟩)
    · rw [bk_no hi]; exact ih
noncomputable def lkl (A : oA) : List Nat := (bk A (aV A)).take 4
noncomputable def lkN (A : oA) : Nat := (lkl A).length
noncomputable def lkL (A : oA) (i : Nat) : Nat := (lkl A).getD i 0
theorem lkl_eq {A : oA} : lkl A = (List.range (lkN A)).map (lkL A) := by
  refine List.ext_getElem (by rw [List.length_map, List.length_range]; rfl) (fun i h1 h2 => ?_)
  rw [List.getElem_map, List.getElem_range]
  unfold lkL
  rw [List.getD_eq_getElem?_getD, List.getElem?_eq_getElem h1]
  rfl
theorem lkN_le {A : oA} : lkN A ≤ 4 := by unfold lkN lkl; rw [List.length_take]; omega
theorem lk_ok {A : oA} (hA : OA A) : (∀ i, i < lkN A → lkL A i < aV A) ∧ (∀ i, i < lkN A → A 44 (lkL A i) = 112) ∧ (∀ i j, i < lkN A → j < lkN A → lkL A i = lkL A j → i = j) := by
  have hm : ∀ i, i < lkN A → lkL A i ∈ bk A (aV A) := fun i hi => by
    have : lkL A i ∈ lkl A := by
      rw [lkl_eq]; exact List.mem_map.mpr ⟨i, List.mem_range.mpr hi, rfl⟩
    exact List.mem_of_mem_take this
  have hnd : (lkl A).Nodup := (List.take_sublist _ _).nodup (bk_nodup (aV A) (fun s hs _ => by have := (hA.2.2.2.2.2.1 s hs).2.1; omega))
  refine ⟨fun i hi => (bk_mem (hm i hi)).1, fun i hi => (bk_mem (hm i hi)).2.1, fun i j hi hj he => ?_⟩
  unfold lkL at he
  rw [List.getD_eq_getElem?_getD, List.getD_eq_getElem?_getD, List.getElem?_eq_getElem hi, List.getElem?_eq_getElem hj] at he
  exact (List.getElem?_inj hi hnd).mp (by rw [List.getElem?_eq_getElem hi, List.getElem?_eq_getElem hj]; exact congrArg some he)
noncomputable def oAllB (A : oA) : ordB := oOrd (lkL A) (lkN A) (lkN A) 0 (fun _ => -1) A 0 0 (5, 0, fun _ => -1)
noncomputable def oAllA (A : oA) : oA := (runO A (lkL A) (oAllB A).2.2 (lkN A)).1
theorem oAll_ok {A : oA} (hA : OA A) : permW (lkN A) (lkN A) (oAllB A).2.2 ∧ (oAllB A).1 = (runO A (lkL A) (oAllB A).2.2 (lkN A)).2.1 ∧ (oAllB A).2.1 = (runO A (lkL A) (oAllB A).2.2 (lkN A)).2.2 ∧ (oAllB A).1 ≤ lkN A := by
  have h := oOrd_run hA (lk_ok hA) lkN_le (lkN A) 0 (fun _ => -1) (5, 0, fun _ => -1) (by omega) ⟨fun j hj => by omega, fun i j hi => by omega⟩
  have e0 : runO A (lkL A) (fun _ => -1) 0 = (A, 0, 0) := rfl
  rw [e0] at h
  have eB : oAllB A = oOrd (lkL A) (lkN A) (lkN A) 0 (fun _ => -1) A 0 0 (5, 0, fun _ => -1) := rfl
  obtain ⟨h1, h2, h3⟩ := h
  have h3 : (oAllB A).1 ≤ 0 + (lkN A : Int) := h3
  have hn := lkN_le (A := A)
  rcases h1 with h1 | ⟨w, w1, w2⟩
  · have : (oAllB A).1 = 5 := by rw [eB]; show (oOrd (lkL A) (lkN A) (lkN A) 0 (fun _ => -1) A 0 0 (5, 0, fun _ => -1)).1 = 5; rw [show oOrd (lkL A) (lkN A) (lkN A) 0 (fun _ => -1) A 0 0 (5, 0, fun _ => -1) = (5, 0, fun _ => -1) from h1]
    omega
  · have w2 : oAllB A = ((runO A (lkL A) w (lkN A)).2.1, (runO A (lkL A) w (lkN A)).2.2, w) := w2
    have e3 : (oAllB A).2.2 = w := by rw [w2]
    have e4 : (oAllB A).1 = (runO A (lkL A) w (lkN A)).2.1 := by rw [w2]
    have e5 : (oAllB A).2.1 = (runO A (lkL A) w (lkN A)).2.2 := by rw [w2]
    rw [e3]
    exact ⟨w1, e4, e5, by omega⟩
