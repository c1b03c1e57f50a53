/-! THE READER: a number asked for. -/
theorem runL_le {p : Nat → Bool} {E a : Nat} (hE : E ≤ 900) (ha : a ≤ 900) : a + runL p E 901 a ≤ 900 := by
  have h := (runL_ok (p := p) (E := E) 901 a (by omega)).1
  by_cases z : runL p E 901 a = 0
  · omega
  · have := h (runL p E 901 a - 1) (by omega)
    omega
theorem nmV_le {g : Nat → Int} {a : Nat} : ∀ k, (∀ j, j < k → isDig (g (a + j))) → 0 ≤ nmV g a k ∧ nmV g a k ≤ 10 ^ (min k 3) - 1
  | 0, _ => by simp [nmV]
  | k + 1, h => by
    have h1 := nmV_le k (fun j z => h j (by omega))
    have h2 := h k (by omega)
    unfold nmV
    by_cases c : k < 3
    · rw [if_pos c]
      rcases (show k = 0 ∨ k = 1 ∨ k = 2 by omega) with rfl | rfl | rfl
      · simp at h1 ⊢
        simp only [Nat.add_zero] at h2
        omega
      · simp at h1 ⊢
        omega
      · simp at h1 ⊢
        omega
    · rw [if_neg c, show min (k + 1) 3 = 3 by omega]
      rw [show min k 3 = 3 by omega] at h1
      exact h1
theorem tkM_5 {M : Mm} {E a : Nat} : tkM M E a 1 5 = a := by
  unfold tkM
  split
  · simp [mset]
  · split
    · rw [mWd_o (by omega)]
      simp [mset]
    · split
      · rw [mNm_o (by omega) (by omega)]
        simp [mset]
      · simp [mset]
theorem tkM_7 {M : Mm} {E a : Nat} : tkM M E a 1 7 = if E ≤ a then 0 else if isLet (M 2 a) then 1 else if isDig (M 2 a) then 2 else if M 2 a = 59 then 3 else if M 2 a = 63 then 4 else 5 := by
  unfold tkM
  split
  · simp [mset]
  · split
    · rw [mWd_o (by omega)]
      simp [mset]
    · split
      · rw [mNm_o (by omega) (by omega)]
        simp [mset]
      · simp [mset]
theorem tkM_6 {M : Mm} {E a : Nat} (hE : E ≤ 900) (ha : a ≤ 900) : 0 ≤ tkM M E a 1 6 ∧ tkM M E a 1 6 ≤ 901 := by
  have l1 : a + tkW (M 2) E a ≤ 900 := runL_le hE ha
  have l2 : a + tkD (M 2) E a ≤ 900 := runL_le hE ha
  unfold tkM
  split
  · simp [mset]
    omega
  · split
    · unfold mWd
      split
      · simp [mset]
        omega
      · simp [mset]
        omega
    · split
      · unfold mNm
        rw [if_neg (by omega)]
        split
        · omega
        · simp [mset]
          omega
      · simp [mset]
        omega
theorem tkM_8 {M : Mm} {E a : Nat} (hE : E ≤ 900) (ha : a ≤ 900) (h : tkM M E a 1 7 = 2) : tkM M E a 1 8 = nmV (M 2) a (tkD (M 2) E a) ∧ 0 ≤ tkM M E a 1 8 ∧ tkM M E a 1 8 ≤ 999 := by
  rw [tkM_7] at h
  have c1 : ¬ E ≤ a := by
    intro z
    rw [if_pos z] at h
    omega
  rw [if_neg c1] at h
  have c2 : ¬ isLet (M 2 a) := by
    intro z
    rw [if_pos z] at h
    omega
  rw [if_neg c2] at h
  have c3 : isDig (M 2 a) := by
    by_cases z : isDig (M 2 a)
    · exact z
    · rw [if_neg z] at h
      split at h
      · omega
      · split at h <;> omega
  have e : tkM M E a 1 8 = nmV (M 2) a (tkD (M 2) E a) := by
    unfold tkM
    rw [if_neg c1, if_neg c2, if_pos c3]
    unfold mNm
    rw [if_pos ⟨rfl, rfl⟩]
    congr 1
  obtain ⟨l1, -⟩ := runL_ok (p := fun j => decide (isDig (M 2 j))) (E := E) 901 a (by omega)
  simp only [decide_eq_true_eq] at l1
  have hv := nmV_le (g := M 2) (a := a) (tkD (M 2) E a) (fun j z => (l1 j z).2)
  rw [e]
  refine ⟨rfl, hv.1, ?_⟩
  have hm : (10 : Int) ^ (min (tkD (M 2) E a) 3) ≤ 1000 := by
    rcases (show min (tkD (M 2) E a) 3 = 0 ∨ min (tkD (M 2) E a) 3 = 1 ∨ min (tkD (M 2) E a) 3 = 2 ∨ min (tkD (M 2) E a) 3 = 3 by omega) with z | z | z | z <;> rw [z] <;> simp
  omega
/-- what a number asked for answers: 1 no number stands there, 2 out of its bounds, 0 -/
def nmO (M : Mm) (lo hi : Int) : Int := if M 1 7 ≠ 2 then 1 else if 3 < M 1 6 - M 1 5 ∨ M 1 8 < lo ∨ hi < M 1 8 then 2 else 0
set_option maxHeartbeats 600000 in
set_option maxRecDepth 20000 in
theorem Reader_readNumber_ok {b E : Nat} {M : Mm} {lo hi : Int} (hB : M 1 6 = b) (hE : M 1 4 = E) (hE9 : E ≤ 900) (hb9 : b ≤ 900) (hb : ∀ j, inR (M 2 j)) (hp : ∀ j, 0 ≤ M 2 j) (hlo : inR lo) (hhi : inR hi) :
    CallI m_Reader_readNumber [.inr 1, .inl lo, .inl hi] M (fun x M' => x = nmO (tkM M E (tkA (M 2) E b)) lo hi ∧ M' = tkM M E (tkA (M 2) E b)) := by
  have ha9 := tkA_le (g := M 2) hE9 hb9
  have A := Reader_advance_ok hB hE hE9 hb9 hb hp
  have g5 := tkM_5 (M := M) (E := E) (a := tkA (M 2) E b)
  have g6 := tkM_6 (M := M) (E := E) hE9 ha9
  have g7 : 0 ≤ tkM M E (tkA (M 2) E b) 1 7 ∧ tkM M E (tkA (M 2) E b) 1 7 ≤ 5 := by
    rw [tkM_7]
    repeat' split
    all_goals omega
  have g8 := tkM_8 (M := M) (E := E) hE9 ha9
  generalize tkM M E (tkA (M 2) E b) = M1 at A g5 g6 g7 g8 ⊢
  generalize tkA (M 2) E b = a at ha9 g5
  simp only [inR] at hlo hhi
  by_cases c1 : M1 1 7 = 2
  · obtain ⟨-, g8⟩ := g8 c1
    have n : nmO M1 lo hi = if 3 < M1 1 6 - M1 1 5 ∨ M1 1 8 < lo ∨ hi < M1 1 8 then 2 else 0 := if_neg (by omega)
    rw [n]
    by_cases c2 : 3 < M1 1 6 - M1 1 5
    · rw [if_pos (Or.inl c2)]
      refine callP_of (by decide) (by decide) (Nat.le_of_ble_eq_true rfl) (wpm_of (cuts := []) (by decide) 60 _ _ _ _ ?_)
      rw [show lM m_Reader_readNumber = 3 from rfl]
      simp (maxSteps := 2000000) only [↓reduceIte, wp_eq, wpd_eq, kont_eq, STP1, STP2, STP3, STP4, STP5, konM_eq, AMK, CZ, Option.map, List.getElem?_cons_zero, List.getElem?_cons_succ, List.mem_cons, List.not_mem_nil, if_false, if_true, Nat.reduceAdd, Nat.reduceLT, Nat.reduceLeDiff, Nat.reduceEqDiff, true_and, and_true, List.length_nil, List.length_cons, or_true, true_or, or_false, false_or, Option.some.injEq, Sum.inl.injEq, Sum.inr.injEq, exists_eq_left', exists_eq_left, Int.reduceLE, Int.reduceLT, Int.reduceNeg, Int.reduceAdd, Int.reduceMul, Int.reduceSub, Int.reduceToNat, inR, Nat.zero_ne_one, false_and, Nat.succ_ne_zero, reduceCtorEq, false_implies, true_implies, not_false_eq_true, not_true_eq_false, Int.reduceEq, KRE, C_Reader_readNumber, FD]
      refine A.eq ?_
      try simp (maxSteps := 2000000) only [↓reduceIte, wp_eq, wpd_eq, kont_eq, STP1, STP2, STP3, STP4, STP5, konM_eq, AMK, CZ, Option.map, List.getElem?_cons_zero, List.getElem?_cons_succ, List.mem_cons, List.not_mem_nil, if_false, if_true, Nat.reduceAdd, Nat.reduceLT, Nat.reduceLeDiff, Nat.reduceEqDiff, true_and, and_true, List.length_nil, List.length_cons, or_true, true_or, or_false, false_or, Option.some.injEq, Sum.inl.injEq, Sum.inr.injEq, exists_eq_left', exists_eq_left, Int.reduceLE, Int.reduceLT, Int.reduceNeg, Int.reduceAdd, Int.reduceMul, Int.reduceSub, Int.reduceToNat, inR, Nat.zero_ne_one, false_and, Nat.succ_ne_zero, reduceCtorEq, false_implies, true_implies, not_false_eq_true, not_true_eq_false, Int.reduceEq, KRE, C_Reader_readNumber, FD, c1, c2]
      repeat (first | refine And.intro (by omega) ?_ | refine And.intro (fun _ _ => okt_nn (by omega)) ?_)
      try (first | omega | exact ⟨rfl, rfl⟩)
    · by_cases c3 : M1 1 8 < lo
      · rw [if_pos (Or.inr (Or.inl c3))]
        refine callP_of (by decide) (by decide) (Nat.le_of_ble_eq_true rfl) (wpm_of (cuts := []) (by decide) 60 _ _ _ _ ?_)
        rw [show lM m_Reader_readNumber = 3 from rfl]
        simp (maxSteps := 2000000) only [↓reduceIte, wp_eq, wpd_eq, kont_eq, STP1, STP2, STP3, STP4, STP5, konM_eq, AMK, CZ, Option.map, List.getElem?_cons_zero, List.getElem?_cons_succ, List.mem_cons, List.not_mem_nil, if_false, if_true, Nat.reduceAdd, Nat.reduceLT, Nat.reduceLeDiff, Nat.reduceEqDiff, true_and, and_true, List.length_nil, List.length_cons, or_true, true_or, or_false, false_or, Option.some.injEq, Sum.inl.injEq, Sum.inr.injEq, exists_eq_left', exists_eq_left, Int.reduceLE, Int.reduceLT, Int.reduceNeg, Int.reduceAdd, Int.reduceMul, Int.reduceSub, Int.reduceToNat, inR, Nat.zero_ne_one, false_and, Nat.succ_ne_zero, reduceCtorEq, false_implies, true_implies, not_false_eq_true, not_true_eq_false, Int.reduceEq, KRE, C_Reader_readNumber, FD]
        refine A.eq ?_
        try simp (maxSteps := 2000000) only [↓reduceIte, wp_eq, wpd_eq, kont_eq, STP1, STP2, STP3, STP4, STP5, konM_eq, AMK, CZ, Option.map, List.getElem?_cons_zero, List.getElem?_cons_succ, List.mem_cons, List.not_mem_nil, if_false, if_true, Nat.reduceAdd, Nat.reduceLT, Nat.reduceLeDiff, Nat.reduceEqDiff, true_and, and_true, List.length_nil, List.length_cons, or_true, true_or, or_false, false_or, Option.some.injEq, Sum.inl.injEq, Sum.inr.injEq, exists_eq_left', exists_eq_left, Int.reduceLE, Int.reduceLT, Int.reduceNeg, Int.reduceAdd, Int.reduceMul, Int.reduceSub, Int.reduceToNat, inR, Nat.zero_ne_one, false_and, Nat.succ_ne_zero, reduceCtorEq, false_implies, true_implies, not_false_eq_true, not_true_eq_false, Int.reduceEq, KRE, C_Reader_readNumber, FD, c1, c2, c3]
        repeat (first | refine And.intro (by omega) ?_ | refine And.intro (fun _ _ => okt_nn (by omega)) ?_)
        try (first | omega | exact ⟨rfl, rfl⟩)
      · by_cases c4 : hi < M1 1 8
        · rw [if_pos (Or.inr (Or.inr c4))]
          have c5 : ¬ M1 1 8 ≤ hi := by omega
          refine callP_of (by decide) (by decide) (Nat.le_of_ble_eq_true rfl) (wpm_of (cuts := []) (by decide) 60 _ _ _ _ ?_)
          rw [show lM m_Reader_readNumber = 3 from rfl]
          simp (maxSteps := 2000000) only [↓reduceIte, wp_eq, wpd_eq, kont_eq, STP1, STP2, STP3, STP4, STP5, konM_eq, AMK, CZ, Option.map, List.getElem?_cons_zero, List.getElem?_cons_succ, List.mem_cons, List.not_mem_nil, if_false, if_true, Nat.reduceAdd, Nat.reduceLT, Nat.reduceLeDiff, Nat.reduceEqDiff, true_and, and_true, List.length_nil, List.length_cons, or_true, true_or, or_false, false_or, Option.some.injEq, Sum.inl.injEq, Sum.inr.injEq, exists_eq_left', exists_eq_left, Int.reduceLE, Int.reduceLT, Int.reduceNeg, Int.reduceAdd, Int.reduceMul, Int.reduceSub, Int.reduceToNat, inR, Nat.zero_ne_one, false_and, Nat.succ_ne_zero, reduceCtorEq, false_implies, true_implies, not_false_eq_true, not_true_eq_false, Int.reduceEq, KRE, C_Reader_readNumber, FD]
          refine A.eq ?_
          try simp (maxSteps := 2000000) only [↓reduceIte, wp_eq, wpd_eq, kont_eq, STP1, STP2, STP3, STP4, STP5, konM_eq, AMK, CZ, Option.map, List.getElem?_cons_zero, List.getElem?_cons_succ, List.mem_cons, List.not_mem_nil, if_false, if_true, Nat.reduceAdd, Nat.reduceLT, Nat.reduceLeDiff, Nat.reduceEqDiff, true_and, and_true, List.length_nil, List.length_cons, or_true, true_or, or_false, false_or, Option.some.injEq, Sum.inl.injEq, Sum.inr.injEq, exists_eq_left', exists_eq_left, Int.reduceLE, Int.reduceLT, Int.reduceNeg, Int.reduceAdd, Int.reduceMul, Int.reduceSub, Int.reduceToNat, inR, Nat.zero_ne_one, false_and, Nat.succ_ne_zero, reduceCtorEq, false_implies, true_implies, not_false_eq_true, not_true_eq_false, Int.reduceEq, KRE, C_Reader_readNumber, FD, c1, c2, c3, c4, c5]
          repeat (first | refine And.intro (by omega) ?_ | refine And.intro (fun _ _ => okt_nn (by omega)) ?_)
          try (first | omega | exact ⟨rfl, rfl⟩)
        · rw [if_neg (by omega)]
          have c5 : M1 1 8 ≤ hi := by omega
          refine callP_of (by decide) (by decide) (Nat.le_of_ble_eq_true rfl) (wpm_of (cuts := []) (by decide) 60 _ _ _ _ ?_)
          rw [show lM m_Reader_readNumber = 3 from rfl]
          simp (maxSteps := 2000000) only [↓reduceIte, wp_eq, wpd_eq, kont_eq, STP1, STP2, STP3, STP4, STP5, konM_eq, AMK, CZ, Option.map, List.getElem?_cons_zero, List.getElem?_cons_succ, List.mem_cons, List.not_mem_nil, if_false, if_true, Nat.reduceAdd, Nat.reduceLT, Nat.reduceLeDiff, Nat.reduceEqDiff, true_and, and_true, List.length_nil, List.length_cons, or_true, true_or, or_false, false_or, Option.some.injEq, Sum.inl.injEq, Sum.inr.injEq, exists_eq_left', exists_eq_left, Int.reduceLE, Int.reduceLT, Int.reduceNeg, Int.reduceAdd, Int.reduceMul, Int.reduceSub, Int.reduceToNat, inR, Nat.zero_ne_one, false_and, Nat.succ_ne_zero, reduceCtorEq, false_implies, true_implies, not_false_eq_true, not_true_eq_false, Int.reduceEq, KRE, C_Reader_readNumber, FD]
          refine A.eq ?_
          try simp (maxSteps := 2000000) only [↓reduceIte, wp_eq, wpd_eq, kont_eq, STP1, STP2, STP3, STP4, STP5, konM_eq, AMK, CZ, Option.map, List.getElem?_cons_zero, List.getElem?_cons_succ, List.mem_cons, List.not_mem_nil, if_false, if_true, Nat.reduceAdd, Nat.reduceLT, Nat.reduceLeDiff, Nat.reduceEqDiff, true_and, and_true, List.length_nil, List.length_cons, or_true, true_or, or_false, false_or, Option.some.injEq, Sum.inl.injEq, Sum.inr.injEq, exists_eq_left', exists_eq_left, Int.reduceLE, Int.reduceLT, Int.reduceNeg, Int.reduceAdd, Int.reduceMul, Int.reduceSub, Int.reduceToNat, inR, Nat.zero_ne_one, false_and, Nat.succ_ne_zero, reduceCtorEq, false_implies, true_implies, not_false_eq_true, not_true_eq_false, Int.reduceEq, KRE, C_Reader_readNumber, FD, c1, c2, c3, c4, c5]
          repeat (first | refine And.intro (by omega) ?_ | refine And.intro (fun _ _ => okt_nn (by omega)) ?_)
          try (first | omega | exact ⟨rfl, rfl⟩)
  · rw [show nmO M1 lo hi = 1 from if_pos c1]
    refine callP_of (by decide) (by decide) (Nat.le_of_ble_eq_true rfl) (wpm_of (cuts := []) (by decide) 60 _ _ _ _ ?_)
    rw [show lM m_Reader_readNumber = 3 from rfl]
    simp (maxSteps := 2000000) only [↓reduceIte, wp_eq, wpd_eq, kont_eq, STP1, STP2, STP3, STP4, STP5, konM_eq, AMK, CZ, Option.map, List.getElem?_cons_zero, List.getElem?_cons_succ, List.mem_cons, List.not_mem_nil, if_false, if_true, Nat.reduceAdd, Nat.reduceLT, Nat.reduceLeDiff, Nat.reduceEqDiff, true_and, and_true, List.length_nil, List.length_cons, or_true, true_or, or_false, false_or, Option.some.injEq, Sum.inl.injEq, Sum.inr.injEq, exists_eq_left', exists_eq_left, Int.reduceLE, Int.reduceLT, Int.reduceNeg, Int.reduceAdd, Int.reduceMul, Int.reduceSub, Int.reduceToNat, inR, Nat.zero_ne_one, false_and, Nat.succ_ne_zero, reduceCtorEq, false_implies, true_implies, not_false_eq_true, not_true_eq_false, Int.reduceEq, KRE, C_Reader_readNumber, FD]
    refine A.eq ?_
    try simp (maxSteps := 2000000) only [↓reduceIte, wp_eq, wpd_eq, kont_eq, STP1, STP2, STP3, STP4, STP5, konM_eq, AMK, CZ, Option.map, List.getElem?_cons_zero, List.getElem?_cons_succ, List.mem_cons, List.not_mem_nil, if_false, if_true, Nat.reduceAdd, Nat.reduceLT, Nat.reduceLeDiff, Nat.reduceEqDiff, true_and, and_true, List.length_nil, List.length_cons, or_true, true_or, or_false, false_or, Option.some.injEq, Sum.inl.injEq, Sum.inr.injEq, exists_eq_left', exists_eq_left, Int.reduceLE, Int.reduceLT, Int.reduceNeg, Int.reduceAdd, Int.reduceMul, Int.reduceSub, Int.reduceToNat, inR, Nat.zero_ne_one, false_and, Nat.succ_ne_zero, reduceCtorEq, false_implies, true_implies, not_false_eq_true, not_true_eq_false, Int.reduceEq, KRE, C_Reader_readNumber, FD, c1]
    repeat (first | refine And.intro (by omega) ?_ | refine And.intro (fun _ _ => okt_nn (by omega)) ?_)
    try (first | omega | exact ⟨rfl, rfl⟩)
