/-! THE REFERENCE, 3: the settings, the best place. -/
def setM (M : Mm) (lap bnd mrg : Int) : Prop := ((if M 156 1 = -1 then 70 else M 156 1) = bnd ∧ 50 ≤ bnd ∧ bnd ≤ 100) ∧ ((if M 156 2 = -1 then 6 else M 156 2) = lap ∧ 3 ≤ lap ∧ lap ≤ 24) ∧ ((if M 156 3 = -1 then 5 else M 156 3) = mrg ∧ 0 ≤ mrg ∧ mrg ≤ 50)
theorem setM_cells {M M1 : Mm} {lap bnd mrg : Int} (e : ∀ j, M1 156 j = M 156 j) (h : setM M lap bnd mrg) : setM M1 lap bnd mrg := by
  unfold setM at *
  rw [e, e, e]
  exact h
set_option maxHeartbeats 600000 in
set_option maxRecDepth 20000 in
theorem Model_bound_ok {lap bnd mrg : Int} {M : Mm} (h : setM M lap bnd mrg) : CallI m_Model_bound [.inr 154] M (fun x M' => x = bnd ∧ M' = M) := by
  obtain ⟨⟨h1, h2⟩, -, -⟩ := h
  by_cases c : M 156 1 = -1
  · rw [if_pos c] at h1
    refine callP_of (by decide) (by decide) (Nat.le_of_ble_eq_true rfl) (wpm_of (cuts := []) (by decide) 50 _ _ _ _ ?_)
    rw [show lM m_Model_bound = 1 from rfl]
    simp (maxSteps := 2000000) only [↓reduceIte, wp_eq, wpd_eq, kont_eq, STP1, STP2, STP3, STP4, STP5, konM_eq, AMK, CZ, Option.map, List.getElem?_cons_zero, List.getElem?_cons_succ, List.mem_cons, List.not_mem_nil, if_false, if_true, Nat.reduceAdd, Nat.reduceLT, Nat.reduceLeDiff, Nat.reduceEqDiff, true_and, and_true, List.length_nil, List.length_cons, or_true, true_or, or_false, false_or, Option.some.injEq, Sum.inl.injEq, Sum.inr.injEq, exists_eq_left', exists_eq_left, Int.reduceLE, Int.reduceLT, Int.reduceNeg, Int.reduceAdd, Int.reduceMul, Int.reduceSub, Int.reduceToNat, inR, Nat.zero_ne_one, false_and, Nat.succ_ne_zero, reduceCtorEq, false_implies, true_implies, not_false_eq_true, not_true_eq_false, Int.reduceEq, KRE, C_Model_bound, FM, c]
    repeat (first | refine ⟨by omega, ?_⟩ | refine ⟨fun _ _ => okt_nn (by omega), ?_⟩)
    try (first | (show _ ≤ _; omega) | (show _ < _; omega))
    exact h1
  · rw [if_neg c] at h1
    have c' := eq_false c
    refine callP_of (by decide) (by decide) (Nat.le_of_ble_eq_true rfl) (wpm_of (cuts := []) (by decide) 50 _ _ _ _ ?_)
    rw [show lM m_Model_bound = 1 from rfl]
    simp (maxSteps := 2000000) only [↓reduceIte, wp_eq, wpd_eq, kont_eq, STP1, STP2, STP3, STP4, STP5, konM_eq, AMK, CZ, Option.map, List.getElem?_cons_zero, List.getElem?_cons_succ, List.mem_cons, List.not_mem_nil, if_false, if_true, Nat.reduceAdd, Nat.reduceLT, Nat.reduceLeDiff, Nat.reduceEqDiff, true_and, and_true, List.length_nil, List.length_cons, or_true, true_or, or_false, false_or, Option.some.injEq, Sum.inl.injEq, Sum.inr.injEq, exists_eq_left', exists_eq_left, Int.reduceLE, Int.reduceLT, Int.reduceNeg, Int.reduceAdd, Int.reduceMul, Int.reduceSub, Int.reduceToNat, inR, Nat.zero_ne_one, false_and, Nat.succ_ne_zero, reduceCtorEq, false_implies, true_implies, not_false_eq_true, not_true_eq_false, Int.reduceEq, KRE, C_Model_bound, FM, c']
    repeat (first | refine ⟨by omega, ?_⟩ | refine ⟨fun _ _ => okt_nn (by omega), ?_⟩)
    try (first | (show _ ≤ _; omega) | (show _ < _; omega))
    exact h1
set_option maxHeartbeats 600000 in
set_option maxRecDepth 20000 in
theorem Model_lap_ok {lap bnd mrg : Int} {M : Mm} (h : setM M lap bnd mrg) : CallI m_Model_lap [.inr 154] M (fun x M' => x = lap ∧ M' = M) := by
  obtain ⟨-, ⟨h1, h2⟩, -⟩ := h
  by_cases c : M 156 2 = -1
  · rw [if_pos c] at h1
    refine callP_of (by decide) (by decide) (Nat.le_of_ble_eq_true rfl) (wpm_of (cuts := []) (by decide) 50 _ _ _ _ ?_)
    rw [show lM m_Model_lap = 1 from rfl]
    simp (maxSteps := 2000000) only [↓reduceIte, wp_eq, wpd_eq, kont_eq, STP1, STP2, STP3, STP4, STP5, konM_eq, AMK, CZ, Option.map, List.getElem?_cons_zero, List.getElem?_cons_succ, List.mem_cons, List.not_mem_nil, if_false, if_true, Nat.reduceAdd, Nat.reduceLT, Nat.reduceLeDiff, Nat.reduceEqDiff, true_and, and_true, List.length_nil, List.length_cons, or_true, true_or, or_false, false_or, Option.some.injEq, Sum.inl.injEq, Sum.inr.injEq, exists_eq_left', exists_eq_left, Int.reduceLE, Int.reduceLT, Int.reduceNeg, Int.reduceAdd, Int.reduceMul, Int.reduceSub, Int.reduceToNat, inR, Nat.zero_ne_one, false_and, Nat.succ_ne_zero, reduceCtorEq, false_implies, true_implies, not_false_eq_true, not_true_eq_false, Int.reduceEq, KRE, C_Model_lap, FM, c]
    repeat (first | refine ⟨by omega, ?_⟩ | refine ⟨fun _ _ => okt_nn (by omega), ?_⟩)
    try (first | (show _ ≤ _; omega) | (show _ < _; omega))
    exact h1
  · rw [if_neg c] at h1
    have c' := eq_false c
    refine callP_of (by decide) (by decide) (Nat.le_of_ble_eq_true rfl) (wpm_of (cuts := []) (by decide) 50 _ _ _ _ ?_)
    rw [show lM m_Model_lap = 1 from rfl]
    simp (maxSteps := 2000000) only [↓reduceIte, wp_eq, wpd_eq, kont_eq, STP1, STP2, STP3, STP4, STP5, konM_eq, AMK, CZ, Option.map, List.getElem?_cons_zero, List.getElem?_cons_succ, List.mem_cons, List.not_mem_nil, if_false, if_true, Nat.reduceAdd, Nat.reduceLT, Nat.reduceLeDiff, Nat.reduceEqDiff, true_and, and_true, List.length_nil, List.length_cons, or_true, true_or, or_false, false_or, Option.some.injEq, Sum.inl.injEq, Sum.inr.injEq, exists_eq_left', exists_eq_left, Int.reduceLE, Int.reduceLT, Int.reduceNeg, Int.reduceAdd, Int.reduceMul, Int.reduceSub, Int.reduceToNat, inR, Nat.zero_ne_one, false_and, Nat.succ_ne_zero, reduceCtorEq, false_implies, true_implies, not_false_eq_true, not_true_eq_false, Int.reduceEq, KRE, C_Model_lap, FM, c']
    repeat (first | refine ⟨by omega, ?_⟩ | refine ⟨fun _ _ => okt_nn (by omega), ?_⟩)
    try (first | (show _ ≤ _; omega) | (show _ < _; omega))
    exact h1
set_option maxHeartbeats 600000 in
set_option maxRecDepth 20000 in
theorem Model_margin_ok {lap bnd mrg : Int} {M : Mm} (h : setM M lap bnd mrg) : CallI m_Model_margin [.inr 154] M (fun x M' => x = mrg ∧ M' = M) := by
  obtain ⟨-, -, h1, h2⟩ := h
  by_cases c : M 156 3 = -1
  · rw [if_pos c] at h1
    refine callP_of (by decide) (by decide) (Nat.le_of_ble_eq_true rfl) (wpm_of (cuts := []) (by decide) 50 _ _ _ _ ?_)
    rw [show lM m_Model_margin = 1 from rfl]
    simp (maxSteps := 2000000) only [↓reduceIte, wp_eq, wpd_eq, kont_eq, STP1, STP2, STP3, STP4, STP5, konM_eq, AMK, CZ, Option.map, List.getElem?_cons_zero, List.getElem?_cons_succ, List.mem_cons, List.not_mem_nil, if_false, if_true, Nat.reduceAdd, Nat.reduceLT, Nat.reduceLeDiff, Nat.reduceEqDiff, true_and, and_true, List.length_nil, List.length_cons, or_true, true_or, or_false, false_or, Option.some.injEq, Sum.inl.injEq, Sum.inr.injEq, exists_eq_left', exists_eq_left, Int.reduceLE, Int.reduceLT, Int.reduceNeg, Int.reduceAdd, Int.reduceMul, Int.reduceSub, Int.reduceToNat, inR, Nat.zero_ne_one, false_and, Nat.succ_ne_zero, reduceCtorEq, false_implies, true_implies, not_false_eq_true, not_true_eq_false, Int.reduceEq, KRE, C_Model_margin, FM, c]
    repeat (first | refine ⟨by omega, ?_⟩ | refine ⟨fun _ _ => okt_nn (by omega), ?_⟩)
    try (first | (show _ ≤ _; omega) | (show _ < _; omega))
    exact h1
  · rw [if_neg c] at h1
    have c' := eq_false c
    refine callP_of (by decide) (by decide) (Nat.le_of_ble_eq_true rfl) (wpm_of (cuts := []) (by decide) 50 _ _ _ _ ?_)
    rw [show lM m_Model_margin = 1 from rfl]
    simp (maxSteps := 2000000) only [↓reduceIte, wp_eq, wpd_eq, kont_eq, STP1, STP2, STP3, STP4, STP5, konM_eq, AMK, CZ, Option.map, List.getElem?_cons_zero, List.getElem?_cons_succ, List.mem_cons, List.not_mem_nil, if_false, if_true, Nat.reduceAdd, Nat.reduceLT, Nat.reduceLeDiff, Nat.reduceEqDiff, true_and, and_true, List.length_nil, List.length_cons, or_true, true_or, or_false, false_or, Option.some.injEq, Sum.inl.injEq, Sum.inr.injEq, exists_eq_left', exists_eq_left, Int.reduceLE, Int.reduceLT, Int.reduceNeg, Int.reduceAdd, Int.reduceMul, Int.reduceSub, Int.reduceToNat, inR, Nat.zero_ne_one, false_and, Nat.succ_ne_zero, reduceCtorEq, false_implies, true_implies, not_false_eq_true, not_true_eq_false, Int.reduceEq, KRE, C_Model_margin, FM, c']
    repeat (first | refine ⟨by omega, ?_⟩ | refine ⟨fun _ _ => okt_nn (by omega), ?_⟩)
    try (first | (show _ ≤ _; omega) | (show _ < _; omega))
    exact h1
def bstM (M : Mm) (x : Bst) : Prop := M 154 41 = x.1 ∧ M 154 39 = x.2.2.2.2 ∧ (x.1 ≠ 0 → M 154 36 = x.2.1 ∧ M 154 37 = x.2.2.1 ∧ M 154 38 = x.2.2.2.1)
def bestP : Nat → Nat → Prop := fun b j => b = 154 ∧ 32 ≤ j ∧ j ≤ 41
theorem mSlM_fr (M : Mm) (A B : Rw) (x : Int) : FrP (fun b j => b = 154 ∧ 32 ≤ j ∧ j ≤ 35) M (mSlM M A B x) := by
  intro b j h
  simp only [mSlM, mset]
  grind
theorem mSlM_get (M : Mm) (A B : Rw) (x : Int) : mSlM M A B x 154 32 = slPairs A B x ∧ mSlM M A B x 154 33 = slSigns A B x ∧ mSlM M A B x 154 34 = slRanks A B x ∧ mSlM M A B x 154 35 = slScore A B x := by
  simp [mSlM, mset]
theorem rowAB_fr {P : Nat → Nat → Prop} {M M1 : Mm} {A B : Rw} (f : FrP P M M1) (hP : ∀ b j, P b j → b = 154 ∧ 32 ≤ j) (hA : rowA M A) (hB : rowB M B) : rowA M1 A ∧ rowB M1 B :=
  ⟨rowA_cells (fun b h1 h2 j => f b j (fun z => by have := hP b j z; omega)) (f _ _ (fun z => by have := hP _ _ z; omega)) (f _ _ (fun z => by have := hP _ _ z; omega)) hA,
   rowB_cells (fun b h1 h2 j => f b j (fun z => by have := hP b j z; omega)) (f _ _ (fun z => by have := hP _ _ z; omega)) (f _ _ (fun z => by have := hP _ _ z; omega)) hB⟩
set_option maxHeartbeats 600000 in
set_option maxRecDepth 20000 in
theorem Model_tellBest_s {A B : Rw} {least lap bnd mrg s : Int} {x : Bst} {a3 : Option AV} {M : Mm} {Qc : Option AV → Mm → Prop} (hst : setM M lap bnd mrg) (hA : rowA M A) (hB : rowB M B) (hs : -1000 ≤ s ∧ s ≤ 999) (hlt : s < A.2.1) (hx : okB x) (hi : bstM M x)
    (K : ∀ a3 M', bstM M' (bstS A B lap s x) → FrP bestP M M' → WPm m_Model_tellBest Qc 17 [some (.inr 154), some (.inl least), some (.inl (s + 1)), a3] [] M') :
    WPm m_Model_tellBest Qc 17 [some (.inr 154), some (.inl least), some (.inl s), a3] [] M := by
  have a1 := hA.1
  have a2 := hA.2.1
  have a3' := hA.2.2.1.1.1
  have hst2 := hst.2.1
  have c1' := eq_false (show ¬ A.2.1 ≤ s by omega)
  refine wpm_of (cuts := [17, 160]) (by decide) 100 _ _ _ _ ?_
  simp (maxSteps := 2000000) only [↓reduceIte, wp_eq, wpd_eq, kont_eq, STP1, STP2, STP3, STP4, STP5, konM_eq, AMK, CZ, Option.map, List.getElem?_cons_zero, List.getElem?_cons_succ, List.mem_cons, List.not_mem_nil, if_false, if_true, Nat.reduceAdd, Nat.reduceLT, Nat.reduceLeDiff, Nat.reduceEqDiff, true_and, and_true, List.length_nil, List.length_cons, or_true, true_or, or_false, false_or, Option.some.injEq, Sum.inl.injEq, Sum.inr.injEq, exists_eq_left', exists_eq_left, Int.reduceLE, Int.reduceLT, Int.reduceNeg, Int.reduceAdd, Int.reduceMul, Int.reduceSub, Int.reduceToNat, inR, Nat.zero_ne_one, false_and, Nat.succ_ne_zero, reduceCtorEq, false_implies, true_implies, not_false_eq_true, not_true_eq_false, Int.reduceEq, KRE, C_Model_tellBest, FM, a1, c1']
  repeat (first | refine ⟨by omega, ?_⟩ | refine ⟨fun _ _ => okt_nn (by omega), ?_⟩)
  try (first | (show _ ≤ _; omega) | (show _ < _; omega))
  refine (Model_slide_ok hA hB ⟨by omega, by omega⟩).eq ?_
  have F1 : FrP bestP M (mSlM M A B s) := (mSlM_fr M A B s).wd (fun b j z => ⟨z.1, by omega, by omega⟩)
  obtain ⟨g1, -, -, g4⟩ := mSlM_get M A B s
  have v1 := slP_in (B := B) (s := s) ⟨a3', a2⟩
  have v2 := (slS_in A B s).2.2
  have h41 : mSlM M A B s 154 41 = M 154 41 := mSlM_fr M A B s _ _ (by omega)
  have h36 : mSlM M A B s 154 36 = M 154 36 := mSlM_fr M A B s _ _ (by omega)
  have h37 : mSlM M A B s 154 37 = M 154 37 := mSlM_fr M A B s _ _ (by omega)
  have h38 : mSlM M A B s 154 38 = M 154 38 := mSlM_fr M A B s _ _ (by omega)
  have h39 : mSlM M A B s 154 39 = M 154 39 := mSlM_fr M A B s _ _ (by omega)
  have hst1 : setM (mSlM M A B s) lap bnd mrg := setM_cells (fun j => mSlM_fr M A B s _ _ (by omega)) hst
  have KS : ∀ a3 M', bstM M' (bstS A B lap s x) → FrP bestP M M' → WPm m_Model_tellBest Qc 160 [some (.inr 154), some (.inl least), some (.inl s), a3] [] M' := by
    intro a3 M' z1 z2
    refine wpm_of (cuts := [17]) (by decide) 50 _ _ _ _ ?_
    simp (maxSteps := 2000000) only [↓reduceIte, wp_eq, wpd_eq, kont_eq, STP1, STP2, STP3, STP4, STP5, konM_eq, AMK, CZ, Option.map, List.getElem?_cons_zero, List.getElem?_cons_succ, List.mem_cons, List.not_mem_nil, if_false, if_true, Nat.reduceAdd, Nat.reduceLT, Nat.reduceLeDiff, Nat.reduceEqDiff, true_and, and_true, List.length_nil, List.length_cons, or_true, true_or, or_false, false_or, Option.some.injEq, Sum.inl.injEq, Sum.inr.injEq, exists_eq_left', exists_eq_left, Int.reduceLE, Int.reduceLT, Int.reduceNeg, Int.reduceAdd, Int.reduceMul, Int.reduceSub, Int.reduceToNat, inR, Nat.zero_ne_one, false_and, Nat.succ_ne_zero, reduceCtorEq, false_implies, true_implies, not_false_eq_true, not_true_eq_false, Int.reduceEq, KRE, C_Model_tellBest]
    exact K _ _ z1 z2
  clear K
  unfold bstS at KS
  generalize mSlM M A B s = M1 at *
  try simp (maxSteps := 2000000) only [↓reduceIte, wp_eq, wpd_eq, kont_eq, STP1, STP2, STP3, STP4, STP5, konM_eq, AMK, CZ, Option.map, List.getElem?_cons_zero, List.getElem?_cons_succ, List.mem_cons, List.not_mem_nil, if_false, if_true, Nat.reduceAdd, Nat.reduceLT, Nat.reduceLeDiff, Nat.reduceEqDiff, true_and, and_true, List.length_nil, List.length_cons, or_true, true_or, or_false, false_or, Option.some.injEq, Sum.inl.injEq, Sum.inr.injEq, exists_eq_left', exists_eq_left, Int.reduceLE, Int.reduceLT, Int.reduceNeg, Int.reduceAdd, Int.reduceMul, Int.reduceSub, Int.reduceToNat, inR, Nat.zero_ne_one, false_and, Nat.succ_ne_zero, reduceCtorEq, false_implies, true_implies, not_false_eq_true, not_true_eq_false, Int.reduceEq, KRE, C_Model_tellBest, FM, g1]
  refine (Model_lap_ok hst1).eq ?_
  obtain ⟨x1, x2, x3, x4, x5⟩ := x
  obtain ⟨i1, i2, i3⟩ := hi
  obtain ⟨o1, o2, o3, o4⟩ := hx
  simp only at i1 i2 i3 o1 o2 o3 o4 KS
  generalize slScore A B s = S at *
  generalize slPairs A B s = P at *
  by_cases c2 : P < lap
  · rw [if_pos c2] at KS
    have c2' := eq_false (show ¬ lap ≤ P by omega)
    try simp (maxSteps := 2000000) only [↓reduceIte, wp_eq, wpd_eq, kont_eq, STP1, STP2, STP3, STP4, STP5, konM_eq, AMK, CZ, Option.map, List.getElem?_cons_zero, List.getElem?_cons_succ, List.mem_cons, List.not_mem_nil, if_false, if_true, Nat.reduceAdd, Nat.reduceLT, Nat.reduceLeDiff, Nat.reduceEqDiff, true_and, and_true, List.length_nil, List.length_cons, or_true, true_or, or_false, false_or, Option.some.injEq, Sum.inl.injEq, Sum.inr.injEq, exists_eq_left', exists_eq_left, Int.reduceLE, Int.reduceLT, Int.reduceNeg, Int.reduceAdd, Int.reduceMul, Int.reduceSub, Int.reduceToNat, inR, Nat.zero_ne_one, false_and, Nat.succ_ne_zero, reduceCtorEq, false_implies, true_implies, not_false_eq_true, not_true_eq_false, Int.reduceEq, KRE, C_Model_tellBest, FM, c2']
    repeat (first | refine ⟨by omega, ?_⟩ | refine ⟨fun _ _ => okt_nn (by omega), ?_⟩)
    try (first | (show _ ≤ _; omega) | (show _ < _; omega))
    refine KS _ _ ⟨?_, ?_, fun z => ⟨?_, ?_, ?_⟩⟩ F1
    · rw [h41]; exact i1
    · rw [h39]; exact i2
    · rw [h36]; exact (i3 z).1
    · rw [h37]; exact (i3 z).2.1
    · rw [h38]; exact (i3 z).2.2
  · rw [if_neg c2] at KS
    have c2' := eq_true (show lap ≤ P by omega)
    have yes : ∀ v : Int, bstM (mset (mset (mset (mset (mset M1 154 39 v) 154 41 1) 154 36 s) 154 37 S) 154 38 P) (1, s, S, P, v) ∧ FrP bestP M (mset (mset (mset (mset (mset M1 154 39 v) 154 41 1) 154 36 s) 154 37 S) 154 38 P) := by
      intro v
      refine ⟨⟨?_, ?_, fun _ => ⟨?_, ?_, ?_⟩⟩, ((((F1.st ⟨rfl, by omega, by omega⟩).st ⟨rfl, by omega, by omega⟩).st ⟨rfl, by omega, by omega⟩).st ⟨rfl, by omega, by omega⟩).st ⟨rfl, by omega, by omega⟩⟩ <;> simp [mset]
    rcases o1 with o1 | o1
    · subst o1
      have e5 := o4 rfl
      subst e5
      rw [if_neg (fun z => z.1 rfl), if_neg (fun z => z rfl)] at KS
      rw [i1] at h41
      rw [i2] at h39
      try simp (maxSteps := 2000000) only [↓reduceIte, wp_eq, wpd_eq, kont_eq, STP1, STP2, STP3, STP4, STP5, konM_eq, AMK, CZ, Option.map, List.getElem?_cons_zero, List.getElem?_cons_succ, List.mem_cons, List.not_mem_nil, if_false, if_true, Nat.reduceAdd, Nat.reduceLT, Nat.reduceLeDiff, Nat.reduceEqDiff, true_and, and_true, List.length_nil, List.length_cons, or_true, true_or, or_false, false_or, Option.some.injEq, Sum.inl.injEq, Sum.inr.injEq, exists_eq_left', exists_eq_left, Int.reduceLE, Int.reduceLT, Int.reduceNeg, Int.reduceAdd, Int.reduceMul, Int.reduceSub, Int.reduceToNat, inR, Nat.zero_ne_one, false_and, Nat.succ_ne_zero, reduceCtorEq, false_implies, true_implies, not_false_eq_true, not_true_eq_false, Int.reduceEq, KRE, C_Model_tellBest, FM, MSE, c2', h41, h39, g1, g4]
      repeat (first | refine ⟨by omega, ?_⟩ | refine ⟨fun _ _ => okt_nn (by omega), ?_⟩)
      try (first | (show _ ≤ _; omega) | (show _ < _; omega))
      rw [show max (-1 : Int) (-1) = -1 by omega]
      exact KS _ _ (yes (-1)).1 (yes (-1)).2
    · subst o1
      obtain ⟨j1, j2, j3⟩ := i3 (by omega)
      obtain ⟨o3, p3, q3, r3⟩ := o3 (by omega)
      rw [i1] at h41
      rw [i2] at h39
      rw [j1] at h36
      rw [j2] at h37
      rw [j3] at h38
      have one0 := eq_false (show ¬ (1 : Int) = 0 by omega)
      by_cases d1 : x3 < S
      · rw [if_neg (by omega), if_pos (by omega)] at KS
        have d1' := eq_true d1
        try simp (maxSteps := 2000000) only [↓reduceIte, wp_eq, wpd_eq, kont_eq, STP1, STP2, STP3, STP4, STP5, konM_eq, AMK, CZ, Option.map, List.getElem?_cons_zero, List.getElem?_cons_succ, List.mem_cons, List.not_mem_nil, if_false, if_true, Nat.reduceAdd, Nat.reduceLT, Nat.reduceLeDiff, Nat.reduceEqDiff, true_and, and_true, List.length_nil, List.length_cons, or_true, true_or, or_false, false_or, Option.some.injEq, Sum.inl.injEq, Sum.inr.injEq, exists_eq_left', exists_eq_left, Int.reduceLE, Int.reduceLT, Int.reduceNeg, Int.reduceAdd, Int.reduceMul, Int.reduceSub, Int.reduceToNat, inR, Nat.zero_ne_one, false_and, Nat.succ_ne_zero, reduceCtorEq, false_implies, true_implies, not_false_eq_true, not_true_eq_false, Int.reduceEq, KRE, C_Model_tellBest, FM, MSE, c2', h41, h39, g1, g4, h37, d1', one0]
        repeat (first | refine ⟨by omega, ?_⟩ | refine ⟨fun _ _ => okt_nn (by omega), ?_⟩)
        try (first | (show _ ≤ _; omega) | (show _ < _; omega))
        rw [show max x5 x3 = x3 by omega]
        exact KS _ _ (yes x3).1 (yes x3).2
      · have d1' := eq_false d1
        by_cases d2 : S = x3 ∧ x4 < P
        · rw [if_neg (by omega), if_pos (by omega)] at KS
          obtain ⟨d2, d3⟩ := d2
          have d2' := eq_true d2
          have d3' := eq_false (show ¬ P ≤ x4 by omega)
          try simp (maxSteps := 2000000) only [↓reduceIte, wp_eq, wpd_eq, kont_eq, STP1, STP2, STP3, STP4, STP5, konM_eq, AMK, CZ, Option.map, List.getElem?_cons_zero, List.getElem?_cons_succ, List.mem_cons, List.not_mem_nil, if_false, if_true, Nat.reduceAdd, Nat.reduceLT, Nat.reduceLeDiff, Nat.reduceEqDiff, true_and, and_true, List.length_nil, List.length_cons, or_true, true_or, or_false, false_or, Option.some.injEq, Sum.inl.injEq, Sum.inr.injEq, exists_eq_left', exists_eq_left, Int.reduceLE, Int.reduceLT, Int.reduceNeg, Int.reduceAdd, Int.reduceMul, Int.reduceSub, Int.reduceToNat, inR, Nat.zero_ne_one, false_and, Nat.succ_ne_zero, reduceCtorEq, false_implies, true_implies, not_false_eq_true, not_true_eq_false, Int.reduceEq, KRE, C_Model_tellBest, FM, MSE, c2', h41, h39, g1, g4, h37, h38, d1', d2', d3', one0]
          repeat (first | refine ⟨by omega, ?_⟩ | refine ⟨fun _ _ => okt_nn (by omega), ?_⟩)
          try (first | (show _ ≤ _; omega) | (show _ < _; omega))
          rw [show max x5 x3 = x3 by omega]
          exact KS _ _ (yes x3).1 (yes x3).2
        · rw [if_pos (by omega)] at KS
          have no : bstM (mset M1 154 39 (max x5 S)) (1, x2, x3, x4, max x5 S) ∧ FrP bestP M (mset M1 154 39 (max x5 S)) := by
            refine ⟨⟨?_, ?_, fun _ => ⟨?_, ?_, ?_⟩⟩, F1.st ⟨rfl, by omega, by omega⟩⟩ <;> simp [mset, h41, h36, h37, h38]
          by_cases d4 : S = x3
          · have d2' := eq_true d4
            have d3' := eq_true (show P ≤ x4 by omega)
            try simp (maxSteps := 2000000) only [↓reduceIte, wp_eq, wpd_eq, kont_eq, STP1, STP2, STP3, STP4, STP5, konM_eq, AMK, CZ, Option.map, List.getElem?_cons_zero, List.getElem?_cons_succ, List.mem_cons, List.not_mem_nil, if_false, if_true, Nat.reduceAdd, Nat.reduceLT, Nat.reduceLeDiff, Nat.reduceEqDiff, true_and, and_true, List.length_nil, List.length_cons, or_true, true_or, or_false, false_or, Option.some.injEq, Sum.inl.injEq, Sum.inr.injEq, exists_eq_left', exists_eq_left, Int.reduceLE, Int.reduceLT, Int.reduceNeg, Int.reduceAdd, Int.reduceMul, Int.reduceSub, Int.reduceToNat, inR, Nat.zero_ne_one, false_and, Nat.succ_ne_zero, reduceCtorEq, false_implies, true_implies, not_false_eq_true, not_true_eq_false, Int.reduceEq, KRE, C_Model_tellBest, FM, MSE, c2', h41, h39, g1, g4, h37, h38, d1', d2', d3', one0]
            repeat (first | refine ⟨by omega, ?_⟩ | refine ⟨fun _ _ => okt_nn (by omega), ?_⟩)
            try (first | (show _ ≤ _; omega) | (show _ < _; omega))
            exact KS _ _ no.1 no.2
          · have d2' := eq_false d4
            try simp (maxSteps := 2000000) only [↓reduceIte, wp_eq, wpd_eq, kont_eq, STP1, STP2, STP3, STP4, STP5, konM_eq, AMK, CZ, Option.map, List.getElem?_cons_zero, List.getElem?_cons_succ, List.mem_cons, List.not_mem_nil, if_false, if_true, Nat.reduceAdd, Nat.reduceLT, Nat.reduceLeDiff, Nat.reduceEqDiff, true_and, and_true, List.length_nil, List.length_cons, or_true, true_or, or_false, false_or, Option.some.injEq, Sum.inl.injEq, Sum.inr.injEq, exists_eq_left', exists_eq_left, Int.reduceLE, Int.reduceLT, Int.reduceNeg, Int.reduceAdd, Int.reduceMul, Int.reduceSub, Int.reduceToNat, inR, Nat.zero_ne_one, false_and, Nat.succ_ne_zero, reduceCtorEq, false_implies, true_implies, not_false_eq_true, not_true_eq_false, Int.reduceEq, KRE, C_Model_tellBest, FM, MSE, c2', h41, h39, g1, g4, h37, h38, d1', d2', one0]
            repeat (first | refine ⟨by omega, ?_⟩ | refine ⟨fun _ _ => okt_nn (by omega), ?_⟩)
            try (first | (show _ ≤ _; omega) | (show _ < _; omega))
            exact KS _ _ no.1 no.2
set_option maxHeartbeats 600000 in
set_option maxRecDepth 20000 in
theorem Model_tellBest_e {least lap bnd mrg : Int} {x : Bst} {a2 a3 : Option AV} {M : Mm} {Qc : Option AV → Mm → Prop} (hst : setM M lap bnd mrg) (hx : okB x) (hi : bstM M x) (hl : 0 ≤ least ∧ least ≤ 1000) (hq : Qc none (mset M 154 40 (why x least mrg))) :
    WPm m_Model_tellBest Qc 166 [some (.inr 154), some (.inl least), a2, a3] [] M := by
  obtain ⟨x1, x2, x3, x4, x5⟩ := x
  obtain ⟨i1, i2, i3⟩ := hi
  obtain ⟨o1, o2, o3, o4⟩ := hx
  have hm := hst.2.2
  simp only at i1 i2 i3 o1 o2 o3 o4
  unfold why at hq
  simp only at hq
  rcases o1 with o1 | o1
  · subst o1
    rw [if_pos rfl] at hq
    refine wpm_of (cuts := []) (by decide) 100 _ _ _ _ ?_
    simp (maxSteps := 2000000) only [↓reduceIte, wp_eq, wpd_eq, kont_eq, STP1, STP2, STP3, STP4, STP5, konM_eq, AMK, CZ, Option.map, List.getElem?_cons_zero, List.getElem?_cons_succ, List.mem_cons, List.not_mem_nil, if_false, if_true, Nat.reduceAdd, Nat.reduceLT, Nat.reduceLeDiff, Nat.reduceEqDiff, true_and, and_true, List.length_nil, List.length_cons, or_true, true_or, or_false, false_or, Option.some.injEq, Sum.inl.injEq, Sum.inr.injEq, exists_eq_left', exists_eq_left, Int.reduceLE, Int.reduceLT, Int.reduceNeg, Int.reduceAdd, Int.reduceMul, Int.reduceSub, Int.reduceToNat, inR, Nat.zero_ne_one, false_and, Nat.succ_ne_zero, reduceCtorEq, false_implies, true_implies, not_false_eq_true, not_true_eq_false, Int.reduceEq, KRE, C_Model_tellBest, FM, i1]
    repeat (first | refine ⟨by omega, ?_⟩ | refine ⟨fun _ _ => okt_nn (by omega), ?_⟩)
    try (first | (show _ ≤ _; omega) | (show _ < _; omega))
    exact hq
  · subst o1
    obtain ⟨j1, j2, j3⟩ := i3 (by omega)
    obtain ⟨o3, p3, q3, r3⟩ := o3 (by omega)
    have one0 := eq_false (show ¬ (1 : Int) = 0 by omega)
    rw [if_neg (by omega)] at hq
    by_cases c1 : x3 < least
    · rw [if_pos c1] at hq
      have c1' := eq_false (show ¬ least ≤ x3 by omega)
      refine wpm_of (cuts := []) (by decide) 100 _ _ _ _ ?_
      simp (maxSteps := 2000000) only [↓reduceIte, wp_eq, wpd_eq, kont_eq, STP1, STP2, STP3, STP4, STP5, konM_eq, AMK, CZ, Option.map, List.getElem?_cons_zero, List.getElem?_cons_succ, List.mem_cons, List.not_mem_nil, if_false, if_true, Nat.reduceAdd, Nat.reduceLT, Nat.reduceLeDiff, Nat.reduceEqDiff, true_and, and_true, List.length_nil, List.length_cons, or_true, true_or, or_false, false_or, Option.some.injEq, Sum.inl.injEq, Sum.inr.injEq, exists_eq_left', exists_eq_left, Int.reduceLE, Int.reduceLT, Int.reduceNeg, Int.reduceAdd, Int.reduceMul, Int.reduceSub, Int.reduceToNat, inR, Nat.zero_ne_one, false_and, Nat.succ_ne_zero, reduceCtorEq, false_implies, true_implies, not_false_eq_true, not_true_eq_false, Int.reduceEq, KRE, C_Model_tellBest, FM, i1, j2, one0, c1']
      repeat (first | refine ⟨by omega, ?_⟩ | refine ⟨fun _ _ => okt_nn (by omega), ?_⟩)
      try (first | (show _ ≤ _; omega) | (show _ < _; omega))
      exact hq
    · rw [if_neg c1] at hq
      have c1' := eq_true (show least ≤ x3 by omega)
      by_cases c2 : x5 = -1
      · rw [if_neg (fun z => z.1 c2)] at hq
        rw [c2] at i2
        refine wpm_of (cuts := []) (by decide) 100 _ _ _ _ ?_
        simp (maxSteps := 2000000) only [↓reduceIte, wp_eq, wpd_eq, kont_eq, STP1, STP2, STP3, STP4, STP5, konM_eq, AMK, CZ, Option.map, List.getElem?_cons_zero, List.getElem?_cons_succ, List.mem_cons, List.not_mem_nil, if_false, if_true, Nat.reduceAdd, Nat.reduceLT, Nat.reduceLeDiff, Nat.reduceEqDiff, true_and, and_true, List.length_nil, List.length_cons, or_true, true_or, or_false, false_or, Option.some.injEq, Sum.inl.injEq, Sum.inr.injEq, exists_eq_left', exists_eq_left, Int.reduceLE, Int.reduceLT, Int.reduceNeg, Int.reduceAdd, Int.reduceMul, Int.reduceSub, Int.reduceToNat, inR, Nat.zero_ne_one, false_and, Nat.succ_ne_zero, reduceCtorEq, false_implies, true_implies, not_false_eq_true, not_true_eq_false, Int.reduceEq, KRE, C_Model_tellBest, FM, i1, j2, i2, one0, c1']
        repeat (first | refine ⟨by omega, ?_⟩ | refine ⟨fun _ _ => okt_nn (by omega), ?_⟩)
        try (first | (show _ ≤ _; omega) | (show _ < _; omega))
        exact hq
      · have c2' := eq_false c2
        by_cases c3 : x3 - x5 < mrg
        · rw [if_pos ⟨c2, c3⟩] at hq
          have c3' := eq_false (show ¬ mrg ≤ x3 - x5 by omega)
          refine wpm_of (cuts := []) (by decide) 100 _ _ _ _ ?_
          simp (maxSteps := 2000000) only [↓reduceIte, wp_eq, wpd_eq, kont_eq, STP1, STP2, STP3, STP4, STP5, konM_eq, AMK, CZ, Option.map, List.getElem?_cons_zero, List.getElem?_cons_succ, List.mem_cons, List.not_mem_nil, if_false, if_true, Nat.reduceAdd, Nat.reduceLT, Nat.reduceLeDiff, Nat.reduceEqDiff, true_and, and_true, List.length_nil, List.length_cons, or_true, true_or, or_false, false_or, Option.some.injEq, Sum.inl.injEq, Sum.inr.injEq, exists_eq_left', exists_eq_left, Int.reduceLE, Int.reduceLT, Int.reduceNeg, Int.reduceAdd, Int.reduceMul, Int.reduceSub, Int.reduceToNat, inR, Nat.zero_ne_one, false_and, Nat.succ_ne_zero, reduceCtorEq, false_implies, true_implies, not_false_eq_true, not_true_eq_false, Int.reduceEq, KRE, C_Model_tellBest, FM, i1, j2, i2, one0, c1', c2']
          repeat (first | refine ⟨by omega, ?_⟩ | refine ⟨fun _ _ => okt_nn (by omega), ?_⟩)
          try (first | (show _ ≤ _; omega) | (show _ < _; omega))
          refine (Model_margin_ok hst).eq ?_
          try simp (maxSteps := 2000000) only [↓reduceIte, wp_eq, wpd_eq, kont_eq, STP1, STP2, STP3, STP4, STP5, konM_eq, AMK, CZ, Option.map, List.getElem?_cons_zero, List.getElem?_cons_succ, List.mem_cons, List.not_mem_nil, if_false, if_true, Nat.reduceAdd, Nat.reduceLT, Nat.reduceLeDiff, Nat.reduceEqDiff, true_and, and_true, List.length_nil, List.length_cons, or_true, true_or, or_false, false_or, Option.some.injEq, Sum.inl.injEq, Sum.inr.injEq, exists_eq_left', exists_eq_left, Int.reduceLE, Int.reduceLT, Int.reduceNeg, Int.reduceAdd, Int.reduceMul, Int.reduceSub, Int.reduceToNat, inR, Nat.zero_ne_one, false_and, Nat.succ_ne_zero, reduceCtorEq, false_implies, true_implies, not_false_eq_true, not_true_eq_false, Int.reduceEq, KRE, C_Model_tellBest, c3', FM]
          repeat (first | refine ⟨by omega, ?_⟩ | refine ⟨fun _ _ => okt_nn (by omega), ?_⟩)
          try (first | (show _ ≤ _; omega) | (show _ < _; omega))
          exact hq
        · rw [if_neg (fun z => c3 z.2)] at hq
          have c3' := eq_true (show mrg ≤ x3 - x5 by omega)
          refine wpm_of (cuts := []) (by decide) 100 _ _ _ _ ?_
          simp (maxSteps := 2000000) only [↓reduceIte, wp_eq, wpd_eq, kont_eq, STP1, STP2, STP3, STP4, STP5, konM_eq, AMK, CZ, Option.map, List.getElem?_cons_zero, List.getElem?_cons_succ, List.mem_cons, List.not_mem_nil, if_false, if_true, Nat.reduceAdd, Nat.reduceLT, Nat.reduceLeDiff, Nat.reduceEqDiff, true_and, and_true, List.length_nil, List.length_cons, or_true, true_or, or_false, false_or, Option.some.injEq, Sum.inl.injEq, Sum.inr.injEq, exists_eq_left', exists_eq_left, Int.reduceLE, Int.reduceLT, Int.reduceNeg, Int.reduceAdd, Int.reduceMul, Int.reduceSub, Int.reduceToNat, inR, Nat.zero_ne_one, false_and, Nat.succ_ne_zero, reduceCtorEq, false_implies, true_implies, not_false_eq_true, not_true_eq_false, Int.reduceEq, KRE, C_Model_tellBest, FM, i1, j2, i2, one0, c1', c2']
          repeat (first | refine ⟨by omega, ?_⟩ | refine ⟨fun _ _ => okt_nn (by omega), ?_⟩)
          try (first | (show _ ≤ _; omega) | (show _ < _; omega))
          refine (Model_margin_ok hst).eq ?_
          try simp (maxSteps := 2000000) only [↓reduceIte, wp_eq, wpd_eq, kont_eq, STP1, STP2, STP3, STP4, STP5, konM_eq, AMK, CZ, Option.map, List.getElem?_cons_zero, List.getElem?_cons_succ, List.mem_cons, List.not_mem_nil, if_false, if_true, Nat.reduceAdd, Nat.reduceLT, Nat.reduceLeDiff, Nat.reduceEqDiff, true_and, and_true, List.length_nil, List.length_cons, or_true, true_or, or_false, false_or, Option.some.injEq, Sum.inl.injEq, Sum.inr.injEq, exists_eq_left', exists_eq_left, Int.reduceLE, Int.reduceLT, Int.reduceNeg, Int.reduceAdd, Int.reduceMul, Int.reduceSub, Int.reduceToNat, inR, Nat.zero_ne_one, false_and, Nat.succ_ne_zero, reduceCtorEq, false_implies, true_implies, not_false_eq_true, not_true_eq_false, Int.reduceEq, KRE, C_Model_tellBest, c3', FM]
          repeat (first | refine ⟨by omega, ?_⟩ | refine ⟨fun _ _ => okt_nn (by omega), ?_⟩)
          try (first | (show _ ≤ _; omega) | (show _ < _; omega))
          exact hq
/-! what tellBest leaves: the best x, why by least -/
set_option maxHeartbeats 600000 in
set_option maxRecDepth 20000 in
theorem Model_tellBest_ok {A B : Rw} {least lap bnd mrg : Int} {M : Mm} (hst : setM M lap bnd mrg) (hA : rowA M A) (hB : rowB M B) (hl : 0 ≤ least ∧ least ≤ 1000) : CallV m_Model_tellBest [.inr 154, .inl least] M (fun M' => bstM M' (best A B lap) ∧ M' 154 40 = why (best A B lap) least mrg ∧ FrP bestP M M') := by
  have a1 := hA.1
  have a2 := hA.2.1
  have a3 := hA.2.2.1.1.1
  have b1 := hB.1
  have b2 := hB.2.1
  have b3 := hB.2.2.1.1.1
  have F0 : FrP bestP M (mset (mset M 154 41 0) 154 39 (-1)) := (FrP.rf.st ⟨rfl, by omega, by omega⟩).st ⟨rfl, by omega, by omega⟩
  refine callP_of (by decide) (by decide) (Nat.le_of_ble_eq_true rfl) (wpm_of (cuts := [17]) (by decide) 50 _ _ _ _ ?_)
  rw [show lM m_Model_tellBest = 4 from rfl]
  simp (maxSteps := 2000000) only [↓reduceIte, wp_eq, wpd_eq, kont_eq, STP1, STP2, STP3, STP4, STP5, konM_eq, AMK, CZ, Option.map, List.getElem?_cons_zero, List.getElem?_cons_succ, List.mem_cons, List.not_mem_nil, if_false, if_true, Nat.reduceAdd, Nat.reduceLT, Nat.reduceLeDiff, Nat.reduceEqDiff, true_and, and_true, List.length_nil, List.length_cons, or_true, true_or, or_false, false_or, Option.some.injEq, Sum.inl.injEq, Sum.inr.injEq, exists_eq_left', exists_eq_left, Int.reduceLE, Int.reduceLT, Int.reduceNeg, Int.reduceAdd, Int.reduceMul, Int.reduceSub, Int.reduceToNat, inR, Nat.zero_ne_one, false_and, Nat.succ_ne_zero, reduceCtorEq, false_implies, true_implies, not_false_eq_true, not_true_eq_false, Int.reduceEq, KRE, C_Model_tellBest, FM, MSE, b1]
  refine loopQ (A.2.1 - (1 - B.2.1)).toNat (fun k ls M1 => bstM M1 (bstN A B lap k) ∧ FrP bestP M M1 ∧ ∃ a3, ls = [some (.inr 154), some (.inl least), some (.inl (1 - B.2.1 + k)), a3]) ?_ _ _ ⟨?_, F0, none, by simp⟩
  · rintro k _ M1 hk ⟨hi, hF, a3', rfl⟩ K
    have hst1 : setM M1 lap bnd mrg := setM_cells (fun j => hF _ _ (fun z => by have := z.1; omega)) hst
    obtain ⟨hA1, hB1⟩ := rowAB_fr hF (fun b j z => ⟨z.1, z.2.1⟩) hA hB
    have ok := okB_N (A := A) (B := B) (lap := lap) ⟨a3, a2⟩ ⟨b3, by omega⟩ k (by omega)
    by_cases c : A.2.1 ≤ 1 - B.2.1 + k
    · have e26 := hA1.1
      have E := fun a2 a3 => Model_tellBest_e (a2 := a2) (a3 := a3) (least := least) (Qc := fun v M' => v = none ∧ bstM M' (best A B lap) ∧ M' 154 40 = why (best A B lap) least mrg ∧ FrP bestP M M') hst1 ok hi hl ⟨rfl, by
        have eb : best A B lap = bstN A B lap k := by
          rw [best, ← show k = (A.2.1 - (1 - B.2.1)).toNat by omega]
        rw [eb]
        refine ⟨?_, ?_, hF.st ⟨rfl, by omega, by omega⟩⟩
        · obtain ⟨i1, i2, i3⟩ := hi
          refine ⟨?_, ?_, fun z => ⟨?_, ?_, ?_⟩⟩
          · simp only [mset]; simpa using i1
          · simp only [mset]; simpa using i2
          · simp only [mset]; simpa using (i3 z).1
          · simp only [mset]; simpa using (i3 z).2.1
          · simp only [mset]; simpa using (i3 z).2.2
        · simp [mset]⟩
      have c' := eq_true c
      refine wpm_of (cuts := [17, 166]) (by decide) 50 _ _ _ _ ?_
      simp (maxSteps := 2000000) only [↓reduceIte, wp_eq, wpd_eq, kont_eq, STP1, STP2, STP3, STP4, STP5, konM_eq, AMK, CZ, Option.map, List.getElem?_cons_zero, List.getElem?_cons_succ, List.mem_cons, List.not_mem_nil, if_false, if_true, Nat.reduceAdd, Nat.reduceLT, Nat.reduceLeDiff, Nat.reduceEqDiff, true_and, and_true, List.length_nil, List.length_cons, or_true, true_or, or_false, false_or, Option.some.injEq, Sum.inl.injEq, Sum.inr.injEq, exists_eq_left', exists_eq_left, Int.reduceLE, Int.reduceLT, Int.reduceNeg, Int.reduceAdd, Int.reduceMul, Int.reduceSub, Int.reduceToNat, inR, Nat.zero_ne_one, false_and, Nat.succ_ne_zero, reduceCtorEq, false_implies, true_implies, not_false_eq_true, not_true_eq_false, Int.reduceEq, KRE, C_Model_tellBest, FM, e26, c']
      repeat (first | refine ⟨by omega, ?_⟩ | refine ⟨fun _ _ => okt_nn (by omega), ?_⟩)
      try (first | (show _ ≤ _; omega) | (show _ < _; omega))
      exact E _ _
    · refine Model_tellBest_s hst1 hA1 hB1 ⟨by omega, by omega⟩ (by omega) ok hi (fun a4 M' z1 z2 => ?_)
      refine K (by omega) _ _ ⟨z1, hF.tr z2, a4, by rw [natI, Int.add_assoc]⟩
  · refine ⟨?_, ?_, fun z => absurd rfl z⟩ <;> simp [mset, bstN]
