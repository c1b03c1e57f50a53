/-! THE READER: the end of a clause. -/
theorem tkM_o {M : Mm} {E a b j : Nat} (h : b ≠ 1 ∨ j < 5 ∨ 8 < j) : tkM M E a b j = M b j := by
  have h5 : ¬ (b = 1 ∧ j = 5) := by omega
  have h6 : ¬ (b = 1 ∧ j = 6) := by omega
  have h7 : ¬ (b = 1 ∧ j = 7) := by omega
  have h8 : ¬ (b = 1 ∧ j = 8) := by omega
  unfold tkM
  split
  · simp only [mset]
    rw [if_neg h6, if_neg h7, if_neg h6, if_neg h5]
  · split
    · rw [mWd_o h6]
      simp only [mset]
      rw [if_neg h7, if_neg h6, if_neg h5]
    · split
      · rw [mNm_o h6 h8]
        simp only [mset]
        rw [if_neg h7, if_neg h6, if_neg h5]
      · simp only [mset]
        rw [if_neg h7, if_neg h6, if_neg h5]
/-- a token of kind 3 or more is one sign -/
theorem tkM_sign {M : Mm} {E a : Nat} (h : 3 ≤ tkM M E a 1 7) : a < E ∧ tkM M E a 1 6 = (a : Int) + 1 := by
  rw [tkM_7] at h
  have c1 : ¬ E ≤ a := by
    intro z
    rw [if_pos z] at h
    omega
  rw [if_neg c1] at h
  have c2 : ¬ isLet (M 2 a) := by
    intro z
    rw [if_pos z] at h
    omega
  rw [if_neg c2] at h
  have c3 : ¬ isDig (M 2 a) := by
    intro z
    rw [if_pos z] at h
    omega
  refine ⟨by omega, ?_⟩
  unfold tkM
  rw [if_neg c1, if_neg c2, if_neg c3]
  simp [mset]
set_option maxHeartbeats 600000 in
set_option maxRecDepth 20000 in
theorem Reader_readClauseEnd_ok {b E : Nat} {M M1 : Mm} (hB : M 1 6 = b) (hE : M 1 4 = E) (hE9 : E ≤ 900) (hb9 : b ≤ 900) (hb : ∀ j, inR (M 2 j)) (hp : ∀ j, 0 ≤ M 2 j) (e : M1 = tkM M E (tkA (M 2) E b)) :
    CallI m_Reader_readClauseEnd [.inr 1] M (fun x M' => x = (if M1 1 7 = 3 then 0 else 1) ∧ M' = (if M1 1 7 = 3 then tkM M1 E (tkA (M 2) E (tkA (M 2) E b + 1)) else M1)) := by
  have ha9 := tkA_le (g := M 2) hE9 hb9
  have A := Reader_advance_ok hB hE hE9 hb9 hb hp
  have g7 : 0 ≤ M1 1 7 ∧ M1 1 7 ≤ 5 := by
    rw [e, tkM_7]
    repeat' split
    all_goals omega
  have g2 : ∀ j, M1 2 j = M 2 j := fun j => by rw [e]; exact tkM_o (by omega)
  have g22 : M1 2 = M 2 := funext g2
  have g4 : M1 1 4 = E := by rw [e, tkM_o (by omega)]; exact hE
  have gs := tkM_sign (M := M) (E := E) (a := tkA (M 2) E b)
  rw [← e] at A gs
  by_cases c : M1 1 7 = 3
  · obtain ⟨s1, s2⟩ := gs (by omega)
    rw [if_pos c, if_pos c]
    have A2 := Reader_advance_ok (M := M1) (b := tkA (M 2) E b + 1) (E := E) (by rw [s2]; omega) g4 hE9 (by omega) (fun j => by rw [g2]; exact hb j) (fun j => by rw [g2]; exact hp j)
    rw [g22] at A2
    refine callP_of (by decide) (by decide) (Nat.le_of_ble_eq_true rfl) (wpm_of (cuts := []) (by decide) 60 _ _ _ _ ?_)
    rw [show lM m_Reader_readClauseEnd = 1 from rfl]
    simp (maxSteps := 2000000) only [↓reduceIte, wp_eq, wpd_eq, kont_eq, STP1, STP2, STP3, STP4, STP5, konM_eq, AMK, CZ, Option.map, List.getElem?_cons_zero, List.getElem?_cons_succ, List.mem_cons, List.not_mem_nil, if_false, if_true, Nat.reduceAdd, Nat.reduceLT, Nat.reduceLeDiff, Nat.reduceEqDiff, true_and, and_true, List.length_nil, List.length_cons, or_true, true_or, or_false, false_or, Option.some.injEq, Sum.inl.injEq, Sum.inr.injEq, exists_eq_left', exists_eq_left, Int.reduceLE, Int.reduceLT, Int.reduceNeg, Int.reduceAdd, Int.reduceMul, Int.reduceSub, Int.reduceToNat, inR, Nat.zero_ne_one, false_and, Nat.succ_ne_zero, reduceCtorEq, false_implies, true_implies, not_false_eq_true, not_true_eq_false, Int.reduceEq, KRE, C_Reader_readClauseEnd, FD]
    refine A.eq ?_
    try simp (maxSteps := 2000000) only [↓reduceIte, wp_eq, wpd_eq, kont_eq, STP1, STP2, STP3, STP4, STP5, konM_eq, AMK, CZ, Option.map, List.getElem?_cons_zero, List.getElem?_cons_succ, List.mem_cons, List.not_mem_nil, if_false, if_true, Nat.reduceAdd, Nat.reduceLT, Nat.reduceLeDiff, Nat.reduceEqDiff, true_and, and_true, List.length_nil, List.length_cons, or_true, true_or, or_false, false_or, Option.some.injEq, Sum.inl.injEq, Sum.inr.injEq, exists_eq_left', exists_eq_left, Int.reduceLE, Int.reduceLT, Int.reduceNeg, Int.reduceAdd, Int.reduceMul, Int.reduceSub, Int.reduceToNat, inR, Nat.zero_ne_one, false_and, Nat.succ_ne_zero, reduceCtorEq, false_implies, true_implies, not_false_eq_true, not_true_eq_false, Int.reduceEq, KRE, C_Reader_readClauseEnd, FD, c]
    repeat (first | refine And.intro (by omega) ?_ | refine And.intro (fun _ _ => okt_nn (by omega)) ?_)
    refine A2.eq ?_
    try simp (maxSteps := 2000000) only [↓reduceIte, wp_eq, wpd_eq, kont_eq, STP1, STP2, STP3, STP4, STP5, konM_eq, AMK, CZ, Option.map, List.getElem?_cons_zero, List.getElem?_cons_succ, List.mem_cons, List.not_mem_nil, if_false, if_true, Nat.reduceAdd, Nat.reduceLT, Nat.reduceLeDiff, Nat.reduceEqDiff, true_and, and_true, List.length_nil, List.length_cons, or_true, true_or, or_false, false_or, Option.some.injEq, Sum.inl.injEq, Sum.inr.injEq, exists_eq_left', exists_eq_left, Int.reduceLE, Int.reduceLT, Int.reduceNeg, Int.reduceAdd, Int.reduceMul, Int.reduceSub, Int.reduceToNat, inR, Nat.zero_ne_one, false_and, Nat.succ_ne_zero, reduceCtorEq, false_implies, true_implies, not_false_eq_true, not_true_eq_false, Int.reduceEq, KRE, C_Reader_readClauseEnd, FD, c]
    repeat (first | refine And.intro (by omega) ?_ | refine And.intro (fun _ _ => okt_nn (by omega)) ?_)
    try (first | omega | exact ⟨rfl, rfl⟩)
  · rw [if_neg c, if_neg c]
    refine callP_of (by decide) (by decide) (Nat.le_of_ble_eq_true rfl) (wpm_of (cuts := []) (by decide) 60 _ _ _ _ ?_)
    rw [show lM m_Reader_readClauseEnd = 1 from rfl]
    simp (maxSteps := 2000000) only [↓reduceIte, wp_eq, wpd_eq, kont_eq, STP1, STP2, STP3, STP4, STP5, konM_eq, AMK, CZ, Option.map, List.getElem?_cons_zero, List.getElem?_cons_succ, List.mem_cons, List.not_mem_nil, if_false, if_true, Nat.reduceAdd, Nat.reduceLT, Nat.reduceLeDiff, Nat.reduceEqDiff, true_and, and_true, List.length_nil, List.length_cons, or_true, true_or, or_false, false_or, Option.some.injEq, Sum.inl.injEq, Sum.inr.injEq, exists_eq_left', exists_eq_left, Int.reduceLE, Int.reduceLT, Int.reduceNeg, Int.reduceAdd, Int.reduceMul, Int.reduceSub, Int.reduceToNat, inR, Nat.zero_ne_one, false_and, Nat.succ_ne_zero, reduceCtorEq, false_implies, true_implies, not_false_eq_true, not_true_eq_false, Int.reduceEq, KRE, C_Reader_readClauseEnd, FD]
    refine A.eq ?_
    try simp (maxSteps := 2000000) only [↓reduceIte, wp_eq, wpd_eq, kont_eq, STP1, STP2, STP3, STP4, STP5, konM_eq, AMK, CZ, Option.map, List.getElem?_cons_zero, List.getElem?_cons_succ, List.mem_cons, List.not_mem_nil, if_false, if_true, Nat.reduceAdd, Nat.reduceLT, Nat.reduceLeDiff, Nat.reduceEqDiff, true_and, and_true, List.length_nil, List.length_cons, or_true, true_or, or_false, false_or, Option.some.injEq, Sum.inl.injEq, Sum.inr.injEq, exists_eq_left', exists_eq_left, Int.reduceLE, Int.reduceLT, Int.reduceNeg, Int.reduceAdd, Int.reduceMul, Int.reduceSub, Int.reduceToNat, inR, Nat.zero_ne_one, false_and, Nat.succ_ne_zero, reduceCtorEq, false_implies, true_implies, not_false_eq_true, not_true_eq_false, Int.reduceEq, KRE, C_Reader_readClauseEnd, FD, c]
    repeat (first | refine And.intro (by omega) ?_ | refine And.intro (fun _ _ => okt_nn (by omega)) ?_)
    try (first | omega | exact ⟨rfl, rfl⟩)
