/-! STOCK, 2. -/
set_option maxHeartbeats 4000000 in
set_option maxRecDepth 20000 in
theorem Stock_bitsOfHouse_ok {s : Nat} {h : Int} {M : Mm} (hs : isStk s) (hw : wfS M s) (hh : inR h) : CallI m_Stock_bitsOfHouse [.inr s, .inl h] M (fun x M' => x = fBit (fun t => M (tmA M s t) 5 = h) (M s 3).toNat ∧ M' = M) := by
  obtain ⟨l0, l1, l2, l3, l4⟩ := id hs
  have w0 := hw.1
  refine callP_of (by decide) (by decide) (Nat.le_of_ble_eq_true rfl) (wpm_of (cuts := [4]) (by decide) 50 _ _ _ _ ?_)
  rw [show lM m_Stock_bitsOfHouse = 4 from rfl]
  simp (maxSteps := 2000000) only [↓reduceIte, wp_eq, wpd_eq, kont_eq, STP1, STP2, STP3, STP4, STP5, konM_eq, AMK, CZ, Option.map, List.getElem?_cons_zero, List.getElem?_cons_succ, List.mem_cons, List.not_mem_nil, if_false, if_true, Nat.reduceAdd, Nat.reduceLT, Nat.reduceLeDiff, Nat.reduceEqDiff, true_and, and_true, List.length_nil, List.length_cons, or_true, true_or, or_false, false_or, Option.some.injEq, Sum.inl.injEq, Sum.inr.injEq, exists_eq_left', exists_eq_left, Int.reduceLE, Int.reduceLT, Int.reduceNeg, Int.reduceAdd, Int.reduceMul, Int.reduceSub, Int.reduceToNat, inR, Nat.zero_ne_one, false_and, Nat.succ_ne_zero, reduceCtorEq, false_implies, true_implies, not_false_eq_true, not_true_eq_false, Int.reduceEq, KRE, C_Stock_bitsOfHouse, l0, l2]
  refine loopQ (M s 3).toNat (fun k ls M1 => M = M1 ∧ ls = [some (.inr s), some (.inl h), some (.inl (fBit (fun t => M (tmA M s t) 5 = h) k)), some (.inl k)]) ?_ _ _ ⟨rfl, rfl⟩
  rintro k _ _ hk ⟨rfl, rfl⟩ K
  by_cases hz : M s 3 ≤ (k : Int)
  · refine wpm_of (cuts := [4]) (by decide) 100 _ _ _ _ ?_
    simp (maxSteps := 2000000) only [↓reduceIte, wp_eq, wpd_eq, kont_eq, STP1, STP2, STP3, STP4, STP5, konM_eq, AMK, CZ, Option.map, List.getElem?_cons_zero, List.getElem?_cons_succ, List.mem_cons, List.not_mem_nil, if_false, if_true, Nat.reduceAdd, Nat.reduceLT, Nat.reduceLeDiff, Nat.reduceEqDiff, true_and, and_true, List.length_nil, List.length_cons, or_true, true_or, or_false, false_or, Option.some.injEq, Sum.inl.injEq, Sum.inr.injEq, exists_eq_left', exists_eq_left, Int.reduceLE, Int.reduceLT, Int.reduceNeg, Int.reduceAdd, Int.reduceMul, Int.reduceSub, Int.reduceToNat, inR, Nat.zero_ne_one, false_and, Nat.succ_ne_zero, reduceCtorEq, false_implies, true_implies, not_false_eq_true, not_true_eq_false, Int.reduceEq, KRE, C_Stock_bitsOfHouse, l0, l2, hz]
    repeat (refine ⟨by omega, ?_⟩)
    try (first | (show _ ≤ _; omega) | (show _ < _; omega))
    rw [show k = (M s 3).toNat by omega]
  · refine wpm_of (cuts := [4]) (by decide) 100 _ _ _ _ ?_
    simp (maxSteps := 2000000) only [↓reduceIte, wp_eq, wpd_eq, kont_eq, STP1, STP2, STP3, STP4, STP5, konM_eq, AMK, CZ, Option.map, List.getElem?_cons_zero, List.getElem?_cons_succ, List.mem_cons, List.not_mem_nil, if_false, if_true, Nat.reduceAdd, Nat.reduceLT, Nat.reduceLeDiff, Nat.reduceEqDiff, true_and, and_true, List.length_nil, List.length_cons, or_true, true_or, or_false, false_or, Option.some.injEq, Sum.inl.injEq, Sum.inr.injEq, exists_eq_left', exists_eq_left, Int.reduceLE, Int.reduceLT, Int.reduceNeg, Int.reduceAdd, Int.reduceMul, Int.reduceSub, Int.reduceToNat, inR, Nat.zero_ne_one, false_and, Nat.succ_ne_zero, reduceCtorEq, false_implies, true_implies, not_false_eq_true, not_true_eq_false, Int.reduceEq, KRE, C_Stock_bitsOfHouse, l0, l2, hz]
    repeat (refine ⟨by omega, ?_⟩)
    try (first | (show _ ≤ _; omega) | (show _ < _; omega))
    refine (Stock_timberAt_ok (t := (k : Int)) hs ⟨by omega, by omega⟩ hw).eq ?_
    obtain ⟨q1, q2⟩ := tmA_tim (t := (k : Int)) hs hw
    have q3 := q2.2.2.2.2.2
    have K' := K (by omega) _ _ ⟨rfl, rfl⟩
    rw [fBit_succ] at K'
    simp only [inR] at hh
    by_cases e : M (tmA M s k) 5 = h
    · rw [if_pos e] at K'
      have e' := eq_true e
      simp (maxSteps := 2000000) only [↓reduceIte, wp_eq, wpd_eq, kont_eq, STP1, STP2, STP3, STP4, STP5, konM_eq, AMK, CZ, Option.map, List.getElem?_cons_zero, List.getElem?_cons_succ, List.mem_cons, List.not_mem_nil, if_false, if_true, Nat.reduceAdd, Nat.reduceLT, Nat.reduceLeDiff, Nat.reduceEqDiff, true_and, and_true, List.length_nil, List.length_cons, or_true, true_or, or_false, false_or, Option.some.injEq, Sum.inl.injEq, Sum.inr.injEq, exists_eq_left', exists_eq_left, Int.reduceLE, Int.reduceLT, Int.reduceNeg, Int.reduceAdd, Int.reduceMul, Int.reduceSub, Int.reduceToNat, inR, Nat.zero_ne_one, false_and, Nat.succ_ne_zero, reduceCtorEq, false_implies, true_implies, not_false_eq_true, not_true_eq_false, Int.reduceEq, KRE, C_Stock_bitsOfHouse, q1.1, e']
      repeat (refine ⟨by omega, ?_⟩)
      try (first | (show _ ≤ _; omega) | (show _ < _; omega))
      exact K'
    · rw [if_neg e] at K'
      have e' := eq_false e
      simp (maxSteps := 2000000) only [↓reduceIte, wp_eq, wpd_eq, kont_eq, STP1, STP2, STP3, STP4, STP5, konM_eq, AMK, CZ, Option.map, List.getElem?_cons_zero, List.getElem?_cons_succ, List.mem_cons, List.not_mem_nil, if_false, if_true, Nat.reduceAdd, Nat.reduceLT, Nat.reduceLeDiff, Nat.reduceEqDiff, true_and, and_true, List.length_nil, List.length_cons, or_true, true_or, or_false, false_or, Option.some.injEq, Sum.inl.injEq, Sum.inr.injEq, exists_eq_left', exists_eq_left, Int.reduceLE, Int.reduceLT, Int.reduceNeg, Int.reduceAdd, Int.reduceMul, Int.reduceSub, Int.reduceToNat, inR, Nat.zero_ne_one, false_and, Nat.succ_ne_zero, reduceCtorEq, false_implies, true_implies, not_false_eq_true, not_true_eq_false, Int.reduceEq, KRE, C_Stock_bitsOfHouse, q1.1, e']
      repeat (refine ⟨by omega, ?_⟩)
      try (first | (show _ ≤ _; omega) | (show _ < _; omega))
      exact K'
/-- felled: the year of the last ring and the least (3) or the most (4) that is lost -/
def felA (M : Mm) (s : Nat) (c : Nat) (t : Nat) : Int := yrA M s t + M (tmA M s t) 2 - 1 + M (tmA M s t) c
theorem felA_in {M : Mm} {s c : Nat} {t : Nat} (hs : isStk s) (hw : wfS M s) (hc : c = 3 ∨ c = 4) : -2 ≤ felA M s c t ∧ felA M s c t ≤ 953 ∧ (yrA M s t ≠ -1 → 1 ≤ M (tmA M s t) 2 → 0 ≤ felA M s c t) := by
  obtain ⟨q1, q2⟩ := tmA_tim (t := (t : Int)) hs hw
  have y := yrA_in (t := (t : Int)) hw
  have r := q2.1
  have l := q2.2.2.2.1
  have m := q2.2.2.2.2.1
  unfold felA
  rcases hc with rfl | rfl <;> omega
set_option maxHeartbeats 4000000 in
set_option maxRecDepth 20000 in
theorem Stock_edgeOfHouse_ok {s : Nat} {h : Int} {M : Mm} (hs : isStk s) (hw : wfS M s) (hh : inR h) : CallI m_Stock_edgeOfHouse [.inr s, .inl h] M (fun x M' => x = fMaxF (fun t => yrA M s t ≠ -1 ∧ M (tmA M s t) 5 = h) (felA M s 3) (M s 3).toNat ∧ M' = M) := by
  obtain ⟨l0, l1, l2, l3, l4⟩ := id hs
  have w0 := hw.1
  refine callP_of (by decide) (by decide) (Nat.le_of_ble_eq_true rfl) (wpm_of (cuts := [4]) (by decide) 50 _ _ _ _ ?_)
  rw [show lM m_Stock_edgeOfHouse = 4 from rfl]
  simp (maxSteps := 2000000) only [↓reduceIte, wp_eq, wpd_eq, kont_eq, STP1, STP2, STP3, STP4, STP5, konM_eq, AMK, CZ, Option.map, List.getElem?_cons_zero, List.getElem?_cons_succ, List.mem_cons, List.not_mem_nil, if_false, if_true, Nat.reduceAdd, Nat.reduceLT, Nat.reduceLeDiff, Nat.reduceEqDiff, true_and, and_true, List.length_nil, List.length_cons, or_true, true_or, or_false, false_or, Option.some.injEq, Sum.inl.injEq, Sum.inr.injEq, exists_eq_left', exists_eq_left, Int.reduceLE, Int.reduceLT, Int.reduceNeg, Int.reduceAdd, Int.reduceMul, Int.reduceSub, Int.reduceToNat, inR, Nat.zero_ne_one, false_and, Nat.succ_ne_zero, reduceCtorEq, false_implies, true_implies, not_false_eq_true, not_true_eq_false, Int.reduceEq, KRE, C_Stock_edgeOfHouse, l0, l2]
  refine loopQ (M s 3).toNat (fun k ls M1 => M = M1 ∧ ls = [some (.inr s), some (.inl h), some (.inl (fMaxF (fun t => yrA M s t ≠ -1 ∧ M (tmA M s t) 5 = h) (felA M s 3) k)), some (.inl k)]) ?_ _ _ ⟨rfl, rfl⟩
  rintro k _ _ hk ⟨rfl, rfl⟩ K
  by_cases hz : M s 3 ≤ (k : Int)
  · refine wpm_of (cuts := [4]) (by decide) 100 _ _ _ _ ?_
    simp (maxSteps := 2000000) only [↓reduceIte, wp_eq, wpd_eq, kont_eq, STP1, STP2, STP3, STP4, STP5, konM_eq, AMK, CZ, Option.map, List.getElem?_cons_zero, List.getElem?_cons_succ, List.mem_cons, List.not_mem_nil, if_false, if_true, Nat.reduceAdd, Nat.reduceLT, Nat.reduceLeDiff, Nat.reduceEqDiff, true_and, and_true, List.length_nil, List.length_cons, or_true, true_or, or_false, false_or, Option.some.injEq, Sum.inl.injEq, Sum.inr.injEq, exists_eq_left', exists_eq_left, Int.reduceLE, Int.reduceLT, Int.reduceNeg, Int.reduceAdd, Int.reduceMul, Int.reduceSub, Int.reduceToNat, inR, Nat.zero_ne_one, false_and, Nat.succ_ne_zero, reduceCtorEq, false_implies, true_implies, not_false_eq_true, not_true_eq_false, Int.reduceEq, KRE, C_Stock_edgeOfHouse, l0, l2, hz]
    repeat (refine ⟨by omega, ?_⟩)
    try (first | (show _ ≤ _; omega) | (show _ < _; omega))
    rw [show k = (M s 3).toNat by omega]
  · refine wpm_of (cuts := [4]) (by decide) 100 _ _ _ _ ?_
    simp (maxSteps := 2000000) only [↓reduceIte, wp_eq, wpd_eq, kont_eq, STP1, STP2, STP3, STP4, STP5, konM_eq, AMK, CZ, Option.map, List.getElem?_cons_zero, List.getElem?_cons_succ, List.mem_cons, List.not_mem_nil, if_false, if_true, Nat.reduceAdd, Nat.reduceLT, Nat.reduceLeDiff, Nat.reduceEqDiff, true_and, and_true, List.length_nil, List.length_cons, or_true, true_or, or_false, false_or, Option.some.injEq, Sum.inl.injEq, Sum.inr.injEq, exists_eq_left', exists_eq_left, Int.reduceLE, Int.reduceLT, Int.reduceNeg, Int.reduceAdd, Int.reduceMul, Int.reduceSub, Int.reduceToNat, inR, Nat.zero_ne_one, false_and, Nat.succ_ne_zero, reduceCtorEq, false_implies, true_implies, not_false_eq_true, not_true_eq_false, Int.reduceEq, KRE, C_Stock_edgeOfHouse, l0, l2, hz]
    repeat (refine ⟨by omega, ?_⟩)
    try (first | (show _ ≤ _; omega) | (show _ < _; omega))
    refine (Stock_isDatedIn_ok (t := (k : Int)) hs ⟨by omega, by omega⟩ hh hw).eq ?_
    have b0 := fMaxF_in (p := fun t => yrA M s t ≠ -1 ∧ M (tmA M s t) 5 = h) (f := felA M s 3) (c := 953) (by omega) (n := k) (fun t _ => (felA_in hs hw (Or.inl rfl)).2.1)
    have b1 := felA_in (t := k) hs hw (Or.inl rfl)
    have K' := K (by omega) _ _ ⟨rfl, rfl⟩
    rw [show fMaxF (fun t => yrA M s t ≠ -1 ∧ M (tmA M s t) 5 = h) (felA M s 3) (k + 1) = if yrA M s k ≠ -1 ∧ M (tmA M s k) 5 = h then max (fMaxF (fun t => yrA M s t ≠ -1 ∧ M (tmA M s t) 5 = h) (felA M s 3) k) (felA M s 3 k) else fMaxF (fun t => yrA M s t ≠ -1 ∧ M (tmA M s t) 5 = h) (felA M s 3) k from rfl] at K'
    generalize fMaxF (fun t => yrA M s t ≠ -1 ∧ M (tmA M s t) 5 = h) (felA M s 3) k = X at *
    by_cases e : yrA M s k ≠ -1 ∧ M (tmA M s k) 5 = h
    · rw [if_pos e] at K' ⊢
      simp (maxSteps := 2000000) only [↓reduceIte, wp_eq, wpd_eq, kont_eq, STP1, STP2, STP3, STP4, STP5, konM_eq, AMK, CZ, Option.map, List.getElem?_cons_zero, List.getElem?_cons_succ, List.mem_cons, List.not_mem_nil, if_false, if_true, Nat.reduceAdd, Nat.reduceLT, Nat.reduceLeDiff, Nat.reduceEqDiff, true_and, and_true, List.length_nil, List.length_cons, or_true, true_or, or_false, false_or, Option.some.injEq, Sum.inl.injEq, Sum.inr.injEq, exists_eq_left', exists_eq_left, Int.reduceLE, Int.reduceLT, Int.reduceNeg, Int.reduceAdd, Int.reduceMul, Int.reduceSub, Int.reduceToNat, inR, Nat.zero_ne_one, false_and, Nat.succ_ne_zero, reduceCtorEq, false_implies, true_implies, not_false_eq_true, not_true_eq_false, Int.reduceEq, KRE, C_Stock_edgeOfHouse, l0]
      repeat (refine ⟨by omega, ?_⟩)
      try (first | (show _ ≤ _; omega) | (show _ < _; omega))
      refine (Stock_felledFrom_ok (t := (k : Int)) hs ⟨by omega, by omega⟩ hw).eq ?_
      exact ⟨by omega, by unfold felA at b1; omega, K'⟩
    · rw [if_neg e] at K' ⊢
      simp (maxSteps := 2000000) only [↓reduceIte, wp_eq, wpd_eq, kont_eq, STP1, STP2, STP3, STP4, STP5, konM_eq, AMK, CZ, Option.map, List.getElem?_cons_zero, List.getElem?_cons_succ, List.mem_cons, List.not_mem_nil, if_false, if_true, Nat.reduceAdd, Nat.reduceLT, Nat.reduceLeDiff, Nat.reduceEqDiff, true_and, and_true, List.length_nil, List.length_cons, or_true, true_or, or_false, false_or, Option.some.injEq, Sum.inl.injEq, Sum.inr.injEq, exists_eq_left', exists_eq_left, Int.reduceLE, Int.reduceLT, Int.reduceNeg, Int.reduceAdd, Int.reduceMul, Int.reduceSub, Int.reduceToNat, inR, Nat.zero_ne_one, false_and, Nat.succ_ne_zero, reduceCtorEq, false_implies, true_implies, not_false_eq_true, not_true_eq_false, Int.reduceEq, KRE, C_Stock_edgeOfHouse, l0]
      exact K'
set_option maxHeartbeats 4000000 in
set_option maxRecDepth 20000 in
theorem Stock_reusedOfHouse_ok {s : Nat} {h : Int} {M : Mm} (hs : isStk s) (hw : wfS M s) (hh : inR h) : CallI m_Stock_reusedOfHouse [.inr s, .inl h] M (fun x M' => x = fBit (fun t => (yrA M s t ≠ -1 ∧ M (tmA M s t) 5 = h) ∧ felA M s 4 t < fMaxF (fun t => yrA M s t ≠ -1 ∧ M (tmA M s t) 5 = h) (felA M s 3) (M s 3).toNat) (M s 3).toNat ∧ M' = M) := by
  obtain ⟨l0, l1, l2, l3, l4⟩ := id hs
  have w0 := hw.1
  refine callP_of (by decide) (by decide) (Nat.le_of_ble_eq_true rfl) (wpm_of (cuts := [11]) (by decide) 50 _ _ _ _ ?_)
  rw [show lM m_Stock_reusedOfHouse = 5 from rfl]
  simp (maxSteps := 2000000) only [↓reduceIte, wp_eq, wpd_eq, kont_eq, STP1, STP2, STP3, STP4, STP5, konM_eq, AMK, CZ, Option.map, List.getElem?_cons_zero, List.getElem?_cons_succ, List.mem_cons, List.not_mem_nil, if_false, if_true, Nat.reduceAdd, Nat.reduceLT, Nat.reduceLeDiff, Nat.reduceEqDiff, true_and, and_true, List.length_nil, List.length_cons, or_true, true_or, or_false, false_or, Option.some.injEq, Sum.inl.injEq, Sum.inr.injEq, exists_eq_left', exists_eq_left, Int.reduceLE, Int.reduceLT, Int.reduceNeg, Int.reduceAdd, Int.reduceMul, Int.reduceSub, Int.reduceToNat, inR, Nat.zero_ne_one, false_and, Nat.succ_ne_zero, reduceCtorEq, false_implies, true_implies, not_false_eq_true, not_true_eq_false, Int.reduceEq, KRE, C_Stock_reusedOfHouse, l0, l2]
  refine (Stock_edgeOfHouse_ok hs hw hh).eq ?_
  have b0 := fMaxF_in (p := fun t => yrA M s t ≠ -1 ∧ M (tmA M s t) 5 = h) (f := felA M s 3) (c := 953) (by omega) (n := (M s 3).toNat) (fun t _ => (felA_in hs hw (Or.inl rfl)).2.1)
  generalize hE : fMaxF (fun t => yrA M s t ≠ -1 ∧ M (tmA M s t) 5 = h) (felA M s 3) (M s 3).toNat = E at *
  refine loopQ (M s 3).toNat (fun k ls M1 => M = M1 ∧ ls = [some (.inr s), some (.inl h), some (.inl E), some (.inl (fBit (fun t => (yrA M s t ≠ -1 ∧ M (tmA M s t) 5 = h) ∧ felA M s 4 t < E) k)), some (.inl k)]) ?_ _ _ ⟨rfl, rfl⟩
  rintro k _ _ hk ⟨rfl, rfl⟩ K
  by_cases hz : M s 3 ≤ (k : Int)
  · refine wpm_of (cuts := [11]) (by decide) 100 _ _ _ _ ?_
    simp (maxSteps := 2000000) only [↓reduceIte, wp_eq, wpd_eq, kont_eq, STP1, STP2, STP3, STP4, STP5, konM_eq, AMK, CZ, Option.map, List.getElem?_cons_zero, List.getElem?_cons_succ, List.mem_cons, List.not_mem_nil, if_false, if_true, Nat.reduceAdd, Nat.reduceLT, Nat.reduceLeDiff, Nat.reduceEqDiff, true_and, and_true, List.length_nil, List.length_cons, or_true, true_or, or_false, false_or, Option.some.injEq, Sum.inl.injEq, Sum.inr.injEq, exists_eq_left', exists_eq_left, Int.reduceLE, Int.reduceLT, Int.reduceNeg, Int.reduceAdd, Int.reduceMul, Int.reduceSub, Int.reduceToNat, inR, Nat.zero_ne_one, false_and, Nat.succ_ne_zero, reduceCtorEq, false_implies, true_implies, not_false_eq_true, not_true_eq_false, Int.reduceEq, KRE, C_Stock_reusedOfHouse, l0, l2, hz]
    repeat (refine ⟨by omega, ?_⟩)
    try (first | (show _ ≤ _; omega) | (show _ < _; omega))
    rw [show k = (M s 3).toNat by omega]
  · refine wpm_of (cuts := [11]) (by decide) 100 _ _ _ _ ?_
    simp (maxSteps := 2000000) only [↓reduceIte, wp_eq, wpd_eq, kont_eq, STP1, STP2, STP3, STP4, STP5, konM_eq, AMK, CZ, Option.map, List.getElem?_cons_zero, List.getElem?_cons_succ, List.mem_cons, List.not_mem_nil, if_false, if_true, Nat.reduceAdd, Nat.reduceLT, Nat.reduceLeDiff, Nat.reduceEqDiff, true_and, and_true, List.length_nil, List.length_cons, or_true, true_or, or_false, false_or, Option.some.injEq, Sum.inl.injEq, Sum.inr.injEq, exists_eq_left', exists_eq_left, Int.reduceLE, Int.reduceLT, Int.reduceNeg, Int.reduceAdd, Int.reduceMul, Int.reduceSub, Int.reduceToNat, inR, Nat.zero_ne_one, false_and, Nat.succ_ne_zero, reduceCtorEq, false_implies, true_implies, not_false_eq_true, not_true_eq_false, Int.reduceEq, KRE, C_Stock_reusedOfHouse, l0, l2, hz]
    repeat (refine ⟨by omega, ?_⟩)
    try (first | (show _ ≤ _; omega) | (show _ < _; omega))
    refine (Stock_isDatedIn_ok (t := (k : Int)) hs ⟨by omega, by omega⟩ hh hw).eq ?_
    have b1 := felA_in (t := k) hs hw (Or.inr rfl)
    have K' := K (by omega) _ _ ⟨rfl, rfl⟩
    rw [fBit_succ] at K'
    by_cases e : yrA M s k ≠ -1 ∧ M (tmA M s k) 5 = h
    · rw [if_pos e]
      simp (maxSteps := 2000000) only [↓reduceIte, wp_eq, wpd_eq, kont_eq, STP1, STP2, STP3, STP4, STP5, konM_eq, AMK, CZ, Option.map, List.getElem?_cons_zero, List.getElem?_cons_succ, List.mem_cons, List.not_mem_nil, if_false, if_true, Nat.reduceAdd, Nat.reduceLT, Nat.reduceLeDiff, Nat.reduceEqDiff, true_and, and_true, List.length_nil, List.length_cons, or_true, true_or, or_false, false_or, Option.some.injEq, Sum.inl.injEq, Sum.inr.injEq, exists_eq_left', exists_eq_left, Int.reduceLE, Int.reduceLT, Int.reduceNeg, Int.reduceAdd, Int.reduceMul, Int.reduceSub, Int.reduceToNat, inR, Nat.zero_ne_one, false_and, Nat.succ_ne_zero, reduceCtorEq, false_implies, true_implies, not_false_eq_true, not_true_eq_false, Int.reduceEq, KRE, C_Stock_reusedOfHouse, l0]
      repeat (refine ⟨by omega, ?_⟩)
      try (first | (show _ ≤ _; omega) | (show _ < _; omega))
      refine (Stock_felledUntil_ok (t := (k : Int)) hs ⟨by omega, by omega⟩ hw).eq ?_
      have ef : yrA M s k + M (tmA M s k) 2 - 1 + M (tmA M s k) 4 = felA M s 4 k := rfl
      rw [ef]
      refine ⟨by omega, by omega, fun c => ?_, fun c => ?_⟩
      · rw [if_neg (by omega)] at K'
        exact K'
      · rw [if_pos ⟨e, by omega⟩] at K'
        exact K'
    · rw [if_neg (fun z => e z.1)] at K'
      rw [if_neg e]
      simp (maxSteps := 2000000) only [↓reduceIte, wp_eq, wpd_eq, kont_eq, STP1, STP2, STP3, STP4, STP5, konM_eq, AMK, CZ, Option.map, List.getElem?_cons_zero, List.getElem?_cons_succ, List.mem_cons, List.not_mem_nil, if_false, if_true, Nat.reduceAdd, Nat.reduceLT, Nat.reduceLeDiff, Nat.reduceEqDiff, true_and, and_true, List.length_nil, List.length_cons, or_true, true_or, or_false, false_or, Option.some.injEq, Sum.inl.injEq, Sum.inr.injEq, exists_eq_left', exists_eq_left, Int.reduceLE, Int.reduceLT, Int.reduceNeg, Int.reduceAdd, Int.reduceMul, Int.reduceSub, Int.reduceToNat, inR, Nat.zero_ne_one, false_and, Nat.succ_ne_zero, reduceCtorEq, false_implies, true_implies, not_false_eq_true, not_true_eq_false, Int.reduceEq, KRE, C_Stock_reusedOfHouse, l0]
      exact K'
set_option maxHeartbeats 4000000 in
set_option maxRecDepth 20000 in
theorem Stock_latestOfHouse_ok {s : Nat} {h R : Int} {M : Mm} (hs : isStk s) (hw : wfS M s) (hh : inR h) (hR : R = fBit (fun t => (yrA M s t ≠ -1 ∧ M (tmA M s t) 5 = h) ∧ felA M s 4 t < fMaxF (fun t => yrA M s t ≠ -1 ∧ M (tmA M s t) 5 = h) (felA M s 3) (M s 3).toNat) (M s 3).toNat) : CallI m_Stock_latestOfHouse [.inr s, .inl h] M (fun x M' => x = fMinF (fun t => (yrA M s t ≠ -1 ∧ M (tmA M s t) 5 = h) ∧ btI R t = false) (felA M s 4) (M s 3).toNat ∧ M' = M) := by
  obtain ⟨l0, l1, l2, l3, l4⟩ := id hs
  have w0 := hw.1
  refine callP_of (by decide) (by decide) (Nat.le_of_ble_eq_true rfl) (wpm_of (cuts := [11]) (by decide) 50 _ _ _ _ ?_)
  rw [show lM m_Stock_latestOfHouse = 6 from rfl]
  simp (maxSteps := 2000000) only [↓reduceIte, wp_eq, wpd_eq, kont_eq, STP1, STP2, STP3, STP4, STP5, konM_eq, AMK, CZ, Option.map, List.getElem?_cons_zero, List.getElem?_cons_succ, List.mem_cons, List.not_mem_nil, if_false, if_true, Nat.reduceAdd, Nat.reduceLT, Nat.reduceLeDiff, Nat.reduceEqDiff, true_and, and_true, List.length_nil, List.length_cons, or_true, true_or, or_false, false_or, Option.some.injEq, Sum.inl.injEq, Sum.inr.injEq, exists_eq_left', exists_eq_left, Int.reduceLE, Int.reduceLT, Int.reduceNeg, Int.reduceAdd, Int.reduceMul, Int.reduceSub, Int.reduceToNat, inR, Nat.zero_ne_one, false_and, Nat.succ_ne_zero, reduceCtorEq, false_implies, true_implies, not_false_eq_true, not_true_eq_false, Int.reduceEq, KRE, C_Stock_latestOfHouse, l0, l2]
  refine (Stock_reusedOfHouse_ok hs hw hh).eq ?_
  rw [← hR]
  clear hR
  refine loopQ (M s 3).toNat (fun k ls M1 => M = M1 ∧ ∃ a5, ls = [some (.inr s), some (.inl h), some (.inl R), some (.inl (fMinF (fun t => (yrA M s t ≠ -1 ∧ M (tmA M s t) 5 = h) ∧ btI R t = false) (felA M s 4) k)), some (.inl k), a5]) ?_ _ _ ⟨rfl, none, rfl⟩
  rintro k _ _ hk ⟨rfl, a5, rfl⟩ K
  by_cases hz : M s 3 ≤ (k : Int)
  · refine wpm_of (cuts := [11]) (by decide) 100 _ _ _ _ ?_
    simp (maxSteps := 2000000) only [↓reduceIte, wp_eq, wpd_eq, kont_eq, STP1, STP2, STP3, STP4, STP5, konM_eq, AMK, CZ, Option.map, List.getElem?_cons_zero, List.getElem?_cons_succ, List.mem_cons, List.not_mem_nil, if_false, if_true, Nat.reduceAdd, Nat.reduceLT, Nat.reduceLeDiff, Nat.reduceEqDiff, true_and, and_true, List.length_nil, List.length_cons, or_true, true_or, or_false, false_or, Option.some.injEq, Sum.inl.injEq, Sum.inr.injEq, exists_eq_left', exists_eq_left, Int.reduceLE, Int.reduceLT, Int.reduceNeg, Int.reduceAdd, Int.reduceMul, Int.reduceSub, Int.reduceToNat, inR, Nat.zero_ne_one, false_and, Nat.succ_ne_zero, reduceCtorEq, false_implies, true_implies, not_false_eq_true, not_true_eq_false, Int.reduceEq, KRE, C_Stock_latestOfHouse, l0, l2, hz]
    repeat (refine ⟨by omega, ?_⟩)
    try (first | (show _ ≤ _; omega) | (show _ < _; omega))
    rw [show k = (M s 3).toNat by omega]
  · have bt1 := bit_test R (k := k) (by omega)
    refine wpm_of (cuts := [11]) (by decide) 100 _ _ _ _ ?_
    simp (maxSteps := 2000000) only [↓reduceIte, wp_eq, wpd_eq, kont_eq, STP1, STP2, STP3, STP4, STP5, konM_eq, AMK, CZ, Option.map, List.getElem?_cons_zero, List.getElem?_cons_succ, List.mem_cons, List.not_mem_nil, if_false, if_true, Nat.reduceAdd, Nat.reduceLT, Nat.reduceLeDiff, Nat.reduceEqDiff, true_and, and_true, List.length_nil, List.length_cons, or_true, true_or, or_false, false_or, Option.some.injEq, Sum.inl.injEq, Sum.inr.injEq, exists_eq_left', exists_eq_left, Int.reduceLE, Int.reduceLT, Int.reduceNeg, Int.reduceAdd, Int.reduceMul, Int.reduceSub, Int.reduceToNat, inR, Nat.zero_ne_one, false_and, Nat.succ_ne_zero, reduceCtorEq, false_implies, true_implies, not_false_eq_true, not_true_eq_false, Int.reduceEq, KRE, C_Stock_latestOfHouse, l0, l2, hz, bt1]
    repeat (refine ⟨by omega, ?_⟩)
    try (first | (show _ ≤ _; omega) | (show _ < _; omega))
    refine (Stock_isDatedIn_ok (t := (k : Int)) hs ⟨by omega, by omega⟩ hh hw).eq ?_
    have b1 := felA_in (t := k) hs hw (Or.inr rfl)
    have K' := fun a5 => K (by omega) _ _ ⟨rfl, a5, rfl⟩
    rw [show fMinF (fun t => (yrA M s t ≠ -1 ∧ M (tmA M s t) 5 = h) ∧ btI R t = false) (felA M s 4) (k + 1) = if ((yrA M s k ≠ -1 ∧ M (tmA M s k) 5 = h) ∧ btI R k = false) ∧ (fMinF (fun t => (yrA M s t ≠ -1 ∧ M (tmA M s t) 5 = h) ∧ btI R t = false) (felA M s 4) k = -1 ∨ felA M s 4 k < fMinF (fun t => (yrA M s t ≠ -1 ∧ M (tmA M s t) 5 = h) ∧ btI R t = false) (felA M s 4) k) then felA M s 4 k else fMinF (fun t => (yrA M s t ≠ -1 ∧ M (tmA M s t) 5 = h) ∧ btI R t = false) (felA M s 4) k from rfl] at K'
    have b9 : -2 ≤ fMinF (fun t => (yrA M s t ≠ -1 ∧ M (tmA M s t) 5 = h) ∧ btI R t = false) (felA M s 4) k ∧ fMinF (fun t => (yrA M s t ≠ -1 ∧ M (tmA M s t) 5 = h) ∧ btI R t = false) (felA M s 4) k ≤ 953 := by
      clear K' K
      have : ∀ n : Nat, -2 ≤ fMinF (fun t => (yrA M s t ≠ -1 ∧ M (tmA M s t) 5 = h) ∧ btI R t = false) (felA M s 4) n ∧ fMinF (fun t => (yrA M s t ≠ -1 ∧ M (tmA M s t) 5 = h) ∧ btI R t = false) (felA M s 4) n ≤ 953 := by
        intro n
        induction n with
        | zero => exact ⟨show (-2 : Int) ≤ -1 by decide, show (-1 : Int) ≤ 953 by decide⟩
        | succ n ih =>
          have := felA_in (t := n) hs hw (Or.inr rfl)
          unfold fMinF at *
          rw [foldN]
          split <;> omega
      exact this k
    generalize fMinF (fun t => (yrA M s t ≠ -1 ∧ M (tmA M s t) 5 = h) ∧ btI R t = false) (felA M s 4) k = X at *
    have ef : yrA M s k + M (tmA M s k) 2 - 1 + M (tmA M s k) 4 = felA M s 4 k := rfl
    by_cases e : yrA M s k ≠ -1 ∧ M (tmA M s k) 5 = h
    · rw [if_pos e]
      cases eb : btI R k
      · simp (maxSteps := 2000000) only [↓reduceIte, wp_eq, wpd_eq, kont_eq, STP1, STP2, STP3, STP4, STP5, konM_eq, AMK, CZ, Option.map, List.getElem?_cons_zero, List.getElem?_cons_succ, List.mem_cons, List.not_mem_nil, if_false, if_true, Nat.reduceAdd, Nat.reduceLT, Nat.reduceLeDiff, Nat.reduceEqDiff, true_and, and_true, List.length_nil, List.length_cons, or_true, true_or, or_false, false_or, Option.some.injEq, Sum.inl.injEq, Sum.inr.injEq, exists_eq_left', exists_eq_left, Int.reduceLE, Int.reduceLT, Int.reduceNeg, Int.reduceAdd, Int.reduceMul, Int.reduceSub, Int.reduceToNat, inR, Nat.zero_ne_one, false_and, Nat.succ_ne_zero, reduceCtorEq, false_implies, true_implies, not_false_eq_true, not_true_eq_false, Int.reduceEq, KRE, C_Stock_latestOfHouse, l0, eb, Bool.false_eq_true]
        repeat (refine ⟨by omega, ?_⟩)
        try (first | (show _ ≤ _; omega) | (show _ < _; omega))
        refine ⟨fun c => ?_, fun c => ?_⟩
        · refine (Stock_felledUntil_ok (t := (k : Int)) hs ⟨by omega, by omega⟩ hw).eq ?_
          rw [ef]
          rw [if_pos ⟨⟨e, eb⟩, Or.inl c⟩] at K'
          exact K' _
        · refine (Stock_felledUntil_ok (t := (k : Int)) hs ⟨by omega, by omega⟩ hw).eq ?_
          rw [ef]
          refine ⟨by omega, by omega, fun c2 => ?_, fun c2 => ?_⟩
          · rw [if_neg (by omega)] at K'
            exact K' _
          · refine (Stock_felledUntil_ok (t := (k : Int)) hs ⟨by omega, by omega⟩ hw).eq ?_
            rw [ef]
            rw [if_pos ⟨⟨e, eb⟩, Or.inr (by omega)⟩] at K'
            exact K' _
      · rw [if_neg (fun z => by rw [eb] at z; exact absurd z.1.2 (by decide))] at K'
        simp (maxSteps := 2000000) only [↓reduceIte, wp_eq, wpd_eq, kont_eq, STP1, STP2, STP3, STP4, STP5, konM_eq, AMK, CZ, Option.map, List.getElem?_cons_zero, List.getElem?_cons_succ, List.mem_cons, List.not_mem_nil, if_false, if_true, Nat.reduceAdd, Nat.reduceLT, Nat.reduceLeDiff, Nat.reduceEqDiff, true_and, and_true, List.length_nil, List.length_cons, or_true, true_or, or_false, false_or, Option.some.injEq, Sum.inl.injEq, Sum.inr.injEq, exists_eq_left', exists_eq_left, Int.reduceLE, Int.reduceLT, Int.reduceNeg, Int.reduceAdd, Int.reduceMul, Int.reduceSub, Int.reduceToNat, inR, Nat.zero_ne_one, false_and, Nat.succ_ne_zero, reduceCtorEq, false_implies, true_implies, not_false_eq_true, not_true_eq_false, Int.reduceEq, KRE, C_Stock_latestOfHouse, l0, eb]
        exact K' _
    · rw [if_neg (fun z => e z.1.1)] at K'
      rw [if_neg e]
      simp (maxSteps := 2000000) only [↓reduceIte, wp_eq, wpd_eq, kont_eq, STP1, STP2, STP3, STP4, STP5, konM_eq, AMK, CZ, Option.map, List.getElem?_cons_zero, List.getElem?_cons_succ, List.mem_cons, List.not_mem_nil, if_false, if_true, Nat.reduceAdd, Nat.reduceLT, Nat.reduceLeDiff, Nat.reduceEqDiff, true_and, and_true, List.length_nil, List.length_cons, or_true, true_or, or_false, false_or, Option.some.injEq, Sum.inl.injEq, Sum.inr.injEq, exists_eq_left', exists_eq_left, Int.reduceLE, Int.reduceLT, Int.reduceNeg, Int.reduceAdd, Int.reduceMul, Int.reduceSub, Int.reduceToNat, inR, Nat.zero_ne_one, false_and, Nat.succ_ne_zero, reduceCtorEq, false_implies, true_implies, not_false_eq_true, not_true_eq_false, Int.reduceEq, KRE, C_Stock_latestOfHouse, l0]
      exact K' _
