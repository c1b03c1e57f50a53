/-! THE REFERENCE READS, 5: which word. -/
def wdB (g : Nat → Int) (E a i : Nat) : Bool := decide (tmK g E a = 1) && (decide (tkW g E a = strLen.getD i 0) && (List.range (strLen.getD i 0)).all (fun k => decide (g (a + k) = strCh i k)))
theorem wdB_iff {g : Nat → Int} {E a i : Nat} : wdB g E a i = true ↔ tmK g E a = 1 ∧ tkW g E a = strLen.getD i 0 ∧ ∀ k, k < strLen.getD i 0 → g (a + k) = strCh i k := by
  simp only [wdB, Bool.and_eq_true, decide_eq_true_eq, List.all_eq_true, List.mem_range]
theorem tmS_W {g : Nat → Int} {E a : Nat} (h : tmK g E a = 1) : tmS g E a = a + tkW g E a ∧ a < E := by
  unfold tmK at h
  unfold tmS
  by_cases c1 : E ≤ a
  · rw [if_pos c1] at h; omega
  · by_cases c2 : isLet (g a)
    · rw [if_neg c1, if_pos c2]; exact ⟨rfl, by omega⟩
    · rw [if_neg c1, if_neg c2] at h
      split at h
      · omega
      · split at h <;> omega
theorem rcS {i : Nat} (hi : i < 7) : (kc (lay (NN + i)) 15 ∨ NN ≤ NN + i ∧ NN + i < NN + 7) = True := eq_true (Or.inr ⟨by omega, by omega⟩)
set_option maxHeartbeats 600000 in
set_option maxRecDepth 20000 in
theorem is_39no {M : Mm} {x1 x3 : Option AV} {Qc : Option AV → Mm → Prop} (h : Qc (some (.inl 0)) M) : WPm m_Model_is Qc 39 [some (.inr 154), x1, some (.inl 0), x3] [] M := by
  refine wpm_of (cuts := []) (by decide) 60 _ _ _ _ ?_
  simp (maxSteps := 2000000) only [↓reduceIte, wp_eq, wpd_eq, kont_eq, STP1, STP2, STP3, STP4, STP5, konM_eq, AMK, CZ, Option.map, List.getElem?_cons_zero, List.getElem?_cons_succ, List.mem_cons, List.not_mem_nil, if_false, if_true, Nat.reduceAdd, Nat.reduceLT, Nat.reduceLeDiff, Nat.reduceEqDiff, true_and, and_true, List.length_nil, List.length_cons, or_true, true_or, or_false, false_or, Option.some.injEq, Sum.inl.injEq, Sum.inr.injEq, exists_eq_left', exists_eq_left, Int.reduceLE, Int.reduceLT, Int.reduceNeg, Int.reduceAdd, Int.reduceMul, Int.reduceSub, Int.reduceToNat, inR, Nat.zero_ne_one, false_and, Nat.succ_ne_zero, reduceCtorEq, false_implies, true_implies, not_false_eq_true, not_true_eq_false, Int.reduceEq, KRE, C_Model_is, FM]
  repeat (first | refine ⟨by omega, ?_⟩ | refine ⟨fun _ _ => okt_nn (by omega), ?_⟩)
  try (first | (show _ ≤ _; omega) | (show _ < _; omega))
  try exact h
set_option maxHeartbeats 600000 in
set_option maxRecDepth 20000 in
theorem is_ok {M : Mm} {g : Nat → Int} {E a i : Nat} (h : tsM M g E a) (hp : oct g E) (hb : M 154 15 = 0) (hE : E ≤ 900) (ha : a ≤ 900) (hi : i < 7) : CallI m_Model_is [.inr 154, .inr (NN + i)] M (fun x M' => x = (if wdB g E a i = true then 1 else 0) ∧ M' = M) := by
  obtain ⟨h1, h2, h3, h4, h5, h6, h7⟩ := h
  have SL := String_length_ok (i := i) hi (M := M)
  have hr := rcS hi
  have SC := fun k hk => String_charAt_ok (i := i) (k := k) hi hk (M := M)
  have T := wdB_iff (g := g) (E := E) (a := a) (i := i)
  have l7 := len_tab i hi
  have k4 := tmK_in g E a
  have cB := fun k hk => (ch_tab i hi k hk).2
  generalize strLen.getD i 0 = L at *
  by_cases c1 : tmK g E a = 1
  · have t11 := eq_true (show M 154 11 = 1 by omega)
    obtain ⟨eS, aE⟩ := tmS_W c1
    have hs := tmS_le (g := g) hE ha
    have esub : M 154 14 - M 154 13 = (tkW g E a : Int) := by omega
    by_cases c2 : tkW g E a = L
    · rw [c2] at esub
      have wL : ∀ k, k < L → a + k < E := fun k hk => by
        have := (runL_ok (p := fun j => decide (isLet (g j))) (E := E) 901 a (by omega)).1 k (by
          show k < tkW g E a
          omega)
        exact this.1
      refine callP_of (by decide) (by decide) (Nat.le_of_ble_eq_true rfl) (wpm_of (cuts := [39]) (by decide) 80 _ _ _ _ ?_)
      rw [show lM m_Model_is = 4 from rfl]
      simp (maxSteps := 2000000) only [↓reduceIte, wp_eq, wpd_eq, kont_eq, STP1, STP2, STP3, STP4, STP5, konM_eq, AMK, CZ, Option.map, List.getElem?_cons_zero, List.getElem?_cons_succ, List.mem_cons, List.not_mem_nil, if_false, if_true, Nat.reduceAdd, Nat.reduceLT, Nat.reduceLeDiff, Nat.reduceEqDiff, true_and, and_true, List.length_nil, List.length_cons, or_true, true_or, or_false, false_or, Option.some.injEq, Sum.inl.injEq, Sum.inr.injEq, exists_eq_left', exists_eq_left, Int.reduceLE, Int.reduceLT, Int.reduceNeg, Int.reduceAdd, Int.reduceMul, Int.reduceSub, Int.reduceToNat, inR, Nat.zero_ne_one, false_and, Nat.succ_ne_zero, reduceCtorEq, false_implies, true_implies, not_false_eq_true, not_true_eq_false, Int.reduceEq, KRE, C_Model_is, FM, hb, t11, hr]
      repeat (first | refine ⟨by omega, ?_⟩ | refine ⟨fun _ _ => okt_nn (by omega), ?_⟩)
      try (first | (show _ ≤ _; omega) | (show _ < _; omega))
      refine SL.eq ?_
      try simp (maxSteps := 2000000) only [↓reduceIte, wp_eq, wpd_eq, kont_eq, STP1, STP2, STP3, STP4, STP5, konM_eq, AMK, CZ, Option.map, List.getElem?_cons_zero, List.getElem?_cons_succ, List.mem_cons, List.not_mem_nil, if_false, if_true, Nat.reduceAdd, Nat.reduceLT, Nat.reduceLeDiff, Nat.reduceEqDiff, true_and, and_true, List.length_nil, List.length_cons, or_true, true_or, or_false, false_or, Option.some.injEq, Sum.inl.injEq, Sum.inr.injEq, exists_eq_left', exists_eq_left, Int.reduceLE, Int.reduceLT, Int.reduceNeg, Int.reduceAdd, Int.reduceMul, Int.reduceSub, Int.reduceToNat, inR, Nat.zero_ne_one, false_and, Nat.succ_ne_zero, reduceCtorEq, false_implies, true_implies, not_false_eq_true, not_true_eq_false, Int.reduceEq, KRE, C_Model_is, FM, esub]
      repeat (first | refine ⟨by omega, ?_⟩ | refine ⟨fun _ _ => okt_nn (by omega), ?_⟩)
      try (first | (show _ ≤ _; omega) | (show _ < _; omega))
      refine loopQ L (fun k ls M1 => M1 = M ∧ (∀ j, j < k → g (a + j) = strCh i j) ∧ ls = [some (.inr 154), some (.inr (NN + i)), some (.inl 1), some (.inl (k : Int))]) ?_ _ _ ⟨rfl, fun j hj => absurd hj (Nat.not_lt_zero _), rfl⟩
      rintro k ls M1 hk ⟨e1, hall, e2⟩ K
      rw [e1, e2]
      by_cases ck : k = L
      · subst ck
        rw [if_pos (T.mpr ⟨c1, c2, hall⟩)]
        have q := eq_true (show ((k : Nat) : Int) ≤ (k : Nat) by omega)
        refine wpm_of (cuts := [39]) (by decide) 80 _ _ _ _ ?_
        simp (maxSteps := 2000000) only [↓reduceIte, wp_eq, wpd_eq, kont_eq, STP1, STP2, STP3, STP4, STP5, konM_eq, AMK, CZ, Option.map, List.getElem?_cons_zero, List.getElem?_cons_succ, List.mem_cons, List.not_mem_nil, if_false, if_true, Nat.reduceAdd, Nat.reduceLT, Nat.reduceLeDiff, Nat.reduceEqDiff, true_and, and_true, List.length_nil, List.length_cons, or_true, true_or, or_false, false_or, Option.some.injEq, Sum.inl.injEq, Sum.inr.injEq, exists_eq_left', exists_eq_left, Int.reduceLE, Int.reduceLT, Int.reduceNeg, Int.reduceAdd, Int.reduceMul, Int.reduceSub, Int.reduceToNat, inR, Nat.zero_ne_one, false_and, Nat.succ_ne_zero, reduceCtorEq, false_implies, true_implies, not_false_eq_true, not_true_eq_false, Int.reduceEq, KRE, C_Model_is, FM, hr]
        repeat (first | refine ⟨by omega, ?_⟩ | refine ⟨fun _ _ => okt_nn (by omega), ?_⟩)
        try (first | (show _ ≤ _; omega) | (show _ < _; omega))
        refine SL.eq ?_
        try simp (maxSteps := 2000000) only [↓reduceIte, wp_eq, wpd_eq, kont_eq, STP1, STP2, STP3, STP4, STP5, konM_eq, AMK, CZ, Option.map, List.getElem?_cons_zero, List.getElem?_cons_succ, List.mem_cons, List.not_mem_nil, if_false, if_true, Nat.reduceAdd, Nat.reduceLT, Nat.reduceLeDiff, Nat.reduceEqDiff, true_and, and_true, List.length_nil, List.length_cons, or_true, true_or, or_false, false_or, Option.some.injEq, Sum.inl.injEq, Sum.inr.injEq, exists_eq_left', exists_eq_left, Int.reduceLE, Int.reduceLT, Int.reduceNeg, Int.reduceAdd, Int.reduceMul, Int.reduceSub, Int.reduceToNat, inR, Nat.zero_ne_one, false_and, Nat.succ_ne_zero, reduceCtorEq, false_implies, true_implies, not_false_eq_true, not_true_eq_false, Int.reduceEq, KRE, C_Model_is, FM, q]
        repeat (first | refine ⟨by omega, ?_⟩ | refine ⟨fun _ _ => okt_nn (by omega), ?_⟩)
        try (first | (show _ ≤ _; omega) | (show _ < _; omega))
      · have lt : k < L := by omega
        have q := eq_false (show ¬ ((L : Nat) : Int) ≤ (k : Nat) by omega)
        have aE2 := wL k lt
        have ix : (M 154 13 + (k : Int)).toNat = a + k := by omega
        have ge := hp (a + k) aE2
        have ce := cB k lt
        have e161 : M 161 (a + k) = g (a + k) := by rw [h1]
        by_cases cE : g (a + k) = strCh i k
        · have K' := K lt _ _ ⟨rfl, fun j hj => by
            by_cases z : j = k
            · rw [z]; exact cE
            · exact hall j (by omega), rfl⟩
          rw [show ((k + 1 : Nat) : Int) = (k : Int) + 1 by omega] at K'
          have q2 := eq_true (show strCh i k = g (a + k) by omega)
          refine wpm_of (cuts := [39]) (by decide) 80 _ _ _ _ ?_
          simp (maxSteps := 2000000) only [↓reduceIte, wp_eq, wpd_eq, kont_eq, STP1, STP2, STP3, STP4, STP5, konM_eq, AMK, CZ, Option.map, List.getElem?_cons_zero, List.getElem?_cons_succ, List.mem_cons, List.not_mem_nil, if_false, if_true, Nat.reduceAdd, Nat.reduceLT, Nat.reduceLeDiff, Nat.reduceEqDiff, true_and, and_true, List.length_nil, List.length_cons, or_true, true_or, or_false, false_or, Option.some.injEq, Sum.inl.injEq, Sum.inr.injEq, exists_eq_left', exists_eq_left, Int.reduceLE, Int.reduceLT, Int.reduceNeg, Int.reduceAdd, Int.reduceMul, Int.reduceSub, Int.reduceToNat, inR, Nat.zero_ne_one, false_and, Nat.succ_ne_zero, reduceCtorEq, false_implies, true_implies, not_false_eq_true, not_true_eq_false, Int.reduceEq, KRE, C_Model_is, FM, hr]
          repeat (first | refine ⟨by omega, ?_⟩ | refine ⟨fun _ _ => okt_nn (by omega), ?_⟩)
          try (first | (show _ ≤ _; omega) | (show _ < _; omega))
          refine SL.eq ?_
          try simp (maxSteps := 2000000) only [↓reduceIte, wp_eq, wpd_eq, kont_eq, STP1, STP2, STP3, STP4, STP5, konM_eq, AMK, CZ, Option.map, List.getElem?_cons_zero, List.getElem?_cons_succ, List.mem_cons, List.not_mem_nil, if_false, if_true, Nat.reduceAdd, Nat.reduceLT, Nat.reduceLeDiff, Nat.reduceEqDiff, true_and, and_true, List.length_nil, List.length_cons, or_true, true_or, or_false, false_or, Option.some.injEq, Sum.inl.injEq, Sum.inr.injEq, exists_eq_left', exists_eq_left, Int.reduceLE, Int.reduceLT, Int.reduceNeg, Int.reduceAdd, Int.reduceMul, Int.reduceSub, Int.reduceToNat, inR, Nat.zero_ne_one, false_and, Nat.succ_ne_zero, reduceCtorEq, false_implies, true_implies, not_false_eq_true, not_true_eq_false, Int.reduceEq, KRE, C_Model_is, FM, q, hr]
          repeat (first | refine ⟨by omega, ?_⟩ | refine ⟨fun _ _ => okt_nn (by omega), ?_⟩)
          try (first | (show _ ≤ _; omega) | (show _ < _; omega))
          refine (SC k lt).eq ?_
          try simp (maxSteps := 2000000) only [↓reduceIte, wp_eq, wpd_eq, kont_eq, STP1, STP2, STP3, STP4, STP5, konM_eq, AMK, CZ, Option.map, List.getElem?_cons_zero, List.getElem?_cons_succ, List.mem_cons, List.not_mem_nil, if_false, if_true, Nat.reduceAdd, Nat.reduceLT, Nat.reduceLeDiff, Nat.reduceEqDiff, true_and, and_true, List.length_nil, List.length_cons, or_true, true_or, or_false, false_or, Option.some.injEq, Sum.inl.injEq, Sum.inr.injEq, exists_eq_left', exists_eq_left, Int.reduceLE, Int.reduceLT, Int.reduceNeg, Int.reduceAdd, Int.reduceMul, Int.reduceSub, Int.reduceToNat, inR, Nat.zero_ne_one, false_and, Nat.succ_ne_zero, reduceCtorEq, false_implies, true_implies, not_false_eq_true, not_true_eq_false, Int.reduceEq, KRE, C_Model_is, FM, ix, e161, q2]
          repeat (first | refine ⟨by omega, ?_⟩ | refine ⟨fun _ _ => okt_nn (by omega), ?_⟩)
          try (first | (show _ ≤ _; omega) | (show _ < _; omega))
          exact K'
        · rw [if_neg (fun z => cE ((T.mp z).2.2 k lt))]
          have q2 := eq_false (show ¬ strCh i k = g (a + k) by omega)
          refine wpm_of (cuts := [39]) (by decide) 80 _ _ _ _ ?_
          simp (maxSteps := 2000000) only [↓reduceIte, wp_eq, wpd_eq, kont_eq, STP1, STP2, STP3, STP4, STP5, konM_eq, AMK, CZ, Option.map, List.getElem?_cons_zero, List.getElem?_cons_succ, List.mem_cons, List.not_mem_nil, if_false, if_true, Nat.reduceAdd, Nat.reduceLT, Nat.reduceLeDiff, Nat.reduceEqDiff, true_and, and_true, List.length_nil, List.length_cons, or_true, true_or, or_false, false_or, Option.some.injEq, Sum.inl.injEq, Sum.inr.injEq, exists_eq_left', exists_eq_left, Int.reduceLE, Int.reduceLT, Int.reduceNeg, Int.reduceAdd, Int.reduceMul, Int.reduceSub, Int.reduceToNat, inR, Nat.zero_ne_one, false_and, Nat.succ_ne_zero, reduceCtorEq, false_implies, true_implies, not_false_eq_true, not_true_eq_false, Int.reduceEq, KRE, C_Model_is, FM, hr]
          repeat (first | refine ⟨by omega, ?_⟩ | refine ⟨fun _ _ => okt_nn (by omega), ?_⟩)
          try (first | (show _ ≤ _; omega) | (show _ < _; omega))
          refine SL.eq ?_
          try simp (maxSteps := 2000000) only [↓reduceIte, wp_eq, wpd_eq, kont_eq, STP1, STP2, STP3, STP4, STP5, konM_eq, AMK, CZ, Option.map, List.getElem?_cons_zero, List.getElem?_cons_succ, List.mem_cons, List.not_mem_nil, if_false, if_true, Nat.reduceAdd, Nat.reduceLT, Nat.reduceLeDiff, Nat.reduceEqDiff, true_and, and_true, List.length_nil, List.length_cons, or_true, true_or, or_false, false_or, Option.some.injEq, Sum.inl.injEq, Sum.inr.injEq, exists_eq_left', exists_eq_left, Int.reduceLE, Int.reduceLT, Int.reduceNeg, Int.reduceAdd, Int.reduceMul, Int.reduceSub, Int.reduceToNat, inR, Nat.zero_ne_one, false_and, Nat.succ_ne_zero, reduceCtorEq, false_implies, true_implies, not_false_eq_true, not_true_eq_false, Int.reduceEq, KRE, C_Model_is, FM, q, hr]
          repeat (first | refine ⟨by omega, ?_⟩ | refine ⟨fun _ _ => okt_nn (by omega), ?_⟩)
          try (first | (show _ ≤ _; omega) | (show _ < _; omega))
          refine (SC k lt).eq ?_
          try simp (maxSteps := 2000000) only [↓reduceIte, wp_eq, wpd_eq, kont_eq, STP1, STP2, STP3, STP4, STP5, konM_eq, AMK, CZ, Option.map, List.getElem?_cons_zero, List.getElem?_cons_succ, List.mem_cons, List.not_mem_nil, if_false, if_true, Nat.reduceAdd, Nat.reduceLT, Nat.reduceLeDiff, Nat.reduceEqDiff, true_and, and_true, List.length_nil, List.length_cons, or_true, true_or, or_false, false_or, Option.some.injEq, Sum.inl.injEq, Sum.inr.injEq, exists_eq_left', exists_eq_left, Int.reduceLE, Int.reduceLT, Int.reduceNeg, Int.reduceAdd, Int.reduceMul, Int.reduceSub, Int.reduceToNat, inR, Nat.zero_ne_one, false_and, Nat.succ_ne_zero, reduceCtorEq, false_implies, true_implies, not_false_eq_true, not_true_eq_false, Int.reduceEq, KRE, C_Model_is, FM, ix, e161, q2]
          repeat (first | refine ⟨by omega, ?_⟩ | refine ⟨fun _ _ => okt_nn (by omega), ?_⟩)
          try (first | (show _ ≤ _; omega) | (show _ < _; omega))
          exact is_39no (Qc := fun v M' => ∃ x, v = some (.inl x) ∧ x = 0 ∧ M' = M) ⟨0, rfl, rfl, rfl⟩
    · rw [if_neg (fun z => c2 (T.mp z).2.1)]
      have q := eq_false (show ¬ ((L : Nat) : Int) = (tkW g E a : Int) by omega)
      refine callP_of (by decide) (by decide) (Nat.le_of_ble_eq_true rfl) (wpm_of (cuts := [39]) (by decide) 80 _ _ _ _ ?_)
      rw [show lM m_Model_is = 4 from rfl]
      simp (maxSteps := 2000000) only [↓reduceIte, wp_eq, wpd_eq, kont_eq, STP1, STP2, STP3, STP4, STP5, konM_eq, AMK, CZ, Option.map, List.getElem?_cons_zero, List.getElem?_cons_succ, List.mem_cons, List.not_mem_nil, if_false, if_true, Nat.reduceAdd, Nat.reduceLT, Nat.reduceLeDiff, Nat.reduceEqDiff, true_and, and_true, List.length_nil, List.length_cons, or_true, true_or, or_false, false_or, Option.some.injEq, Sum.inl.injEq, Sum.inr.injEq, exists_eq_left', exists_eq_left, Int.reduceLE, Int.reduceLT, Int.reduceNeg, Int.reduceAdd, Int.reduceMul, Int.reduceSub, Int.reduceToNat, inR, Nat.zero_ne_one, false_and, Nat.succ_ne_zero, reduceCtorEq, false_implies, true_implies, not_false_eq_true, not_true_eq_false, Int.reduceEq, KRE, C_Model_is, FM, hb, t11, hr]
      repeat (first | refine ⟨by omega, ?_⟩ | refine ⟨fun _ _ => okt_nn (by omega), ?_⟩)
      try (first | (show _ ≤ _; omega) | (show _ < _; omega))
      refine SL.eq ?_
      try simp (maxSteps := 2000000) only [↓reduceIte, wp_eq, wpd_eq, kont_eq, STP1, STP2, STP3, STP4, STP5, konM_eq, AMK, CZ, Option.map, List.getElem?_cons_zero, List.getElem?_cons_succ, List.mem_cons, List.not_mem_nil, if_false, if_true, Nat.reduceAdd, Nat.reduceLT, Nat.reduceLeDiff, Nat.reduceEqDiff, true_and, and_true, List.length_nil, List.length_cons, or_true, true_or, or_false, false_or, Option.some.injEq, Sum.inl.injEq, Sum.inr.injEq, exists_eq_left', exists_eq_left, Int.reduceLE, Int.reduceLT, Int.reduceNeg, Int.reduceAdd, Int.reduceMul, Int.reduceSub, Int.reduceToNat, inR, Nat.zero_ne_one, false_and, Nat.succ_ne_zero, reduceCtorEq, false_implies, true_implies, not_false_eq_true, not_true_eq_false, Int.reduceEq, KRE, C_Model_is, FM, esub, q]
      repeat (first | refine ⟨by omega, ?_⟩ | refine ⟨fun _ _ => okt_nn (by omega), ?_⟩)
      try (first | (show _ ≤ _; omega) | (show _ < _; omega))
      exact is_39no (Qc := fun v M' => ∃ x, v = some (.inl x) ∧ x = 0 ∧ M' = M) ⟨0, rfl, rfl, rfl⟩
  · rw [if_neg (fun z => c1 (T.mp z).1)]
    have t11 := eq_false (show ¬ M 154 11 = 1 by omega)
    refine callP_of (by decide) (by decide) (Nat.le_of_ble_eq_true rfl) (wpm_of (cuts := [39]) (by decide) 80 _ _ _ _ ?_)
    rw [show lM m_Model_is = 4 from rfl]
    simp (maxSteps := 2000000) only [↓reduceIte, wp_eq, wpd_eq, kont_eq, STP1, STP2, STP3, STP4, STP5, konM_eq, AMK, CZ, Option.map, List.getElem?_cons_zero, List.getElem?_cons_succ, List.mem_cons, List.not_mem_nil, if_false, if_true, Nat.reduceAdd, Nat.reduceLT, Nat.reduceLeDiff, Nat.reduceEqDiff, true_and, and_true, List.length_nil, List.length_cons, or_true, true_or, or_false, false_or, Option.some.injEq, Sum.inl.injEq, Sum.inr.injEq, exists_eq_left', exists_eq_left, Int.reduceLE, Int.reduceLT, Int.reduceNeg, Int.reduceAdd, Int.reduceMul, Int.reduceSub, Int.reduceToNat, inR, Nat.zero_ne_one, false_and, Nat.succ_ne_zero, reduceCtorEq, false_implies, true_implies, not_false_eq_true, not_true_eq_false, Int.reduceEq, KRE, C_Model_is, FM, hb, t11, hr]
    repeat (first | refine ⟨by omega, ?_⟩ | refine ⟨fun _ _ => okt_nn (by omega), ?_⟩)
    try (first | (show _ ≤ _; omega) | (show _ < _; omega))
    exact is_39no (Qc := fun v M' => ∃ x, v = some (.inl x) ∧ x = 0 ∧ M' = M) ⟨0, rfl, rfl, rfl⟩
/-- which word stands at a -/
def wdW (g : Nat → Int) (E a : Nat) : Int := if wdB g E a 0 = true then 0 else if wdB g E a 1 = true then 1 else if wdB g E a 2 = true then 2 else if wdB g E a 3 = true then 3 else if wdB g E a 4 = true then 4 else if wdB g E a 5 = true then 5 else -1
/-- the same from word k on -/
def whK (g : Nat → Int) (E a k : Nat) : Int := if k ≤ 0 ∧ wdB g E a 0 = true then 0 else if k ≤ 1 ∧ wdB g E a 1 = true then 1 else if k ≤ 2 ∧ wdB g E a 2 = true then 2 else if k ≤ 3 ∧ wdB g E a 3 = true then 3 else if k ≤ 4 ∧ wdB g E a 4 = true then 4 else if k ≤ 5 ∧ wdB g E a 5 = true then 5 else -1
theorem whK_0 (g : Nat → Int) (E a : Nat) : whK g E a 0 = wdW g E a := by simp [whK, wdW]
theorem whK_6 (g : Nat → Int) (E a : Nat) : whK g E a 6 = -1 := by simp [whK]
theorem whK_y {g : Nat → Int} {E a k : Nat} (hk : k < 6) (c : wdB g E a k = true) : whK g E a k = k := by
  rcases (show k = 0 ∨ k = 1 ∨ k = 2 ∨ k = 3 ∨ k = 4 ∨ k = 5 by omega) with rfl | rfl | rfl | rfl | rfl | rfl <;> simp [whK, c]
theorem whK_n {g : Nat → Int} {E a k : Nat} (c : ¬ wdB g E a k = true) : whK g E a k = whK g E a (k + 1) := by
  have e : ∀ j, (k ≤ j ∧ wdB g E a j = true) = (k + 1 ≤ j ∧ wdB g E a j = true) := fun j => propext ⟨fun z => ⟨by
    by_cases w : k = j
    · exact absurd (w ▸ z.2) (w ▸ c)
    · omega, z.2⟩, fun z => ⟨by omega, z.2⟩⟩
  unfold whK
  simp only [e]
set_option maxHeartbeats 600000 in
set_option maxRecDepth 20000 in
theorem which_ok {M : Mm} {g : Nat → Int} {E a : Nat} (h : tsM M g E a) (hp : oct g E) (hb : M 154 15 = 0) (hE : E ≤ 900) (ha : a ≤ 900) : CallI m_Model_which [.inr 154] M (fun x M' => x = wdW g E a ∧ M' = M) := by
  have IS := fun i hi => is_ok (i := i) h hp hb hE ha hi
  rw [← whK_0]
  refine callP_of (by decide) (by decide) (Nat.le_of_ble_eq_true rfl) ?_
  rw [show lM m_Model_which = 2 from rfl]
  have go : ∀ d k : Nat, d + k = 6 → WPm m_Model_which (fun v M' => ∃ x, v = some (.inl x) ∧ (x = whK g E a k ∧ M' = M)) 2 [some (.inr 154), some (.inl (k : Int))] [] M := by
    intro d
    induction d with
    | zero =>
      intro k hk
      obtain rfl : k = 6 := by omega
      rw [whK_6]
      have q := eq_true (show (6 : Int) ≤ ((6 : Nat) : Int) by omega)
      refine wpm_of (cuts := [2]) (by decide) 60 _ _ _ _ ?_
      simp (maxSteps := 2000000) only [↓reduceIte, wp_eq, wpd_eq, kont_eq, STP1, STP2, STP3, STP4, STP5, konM_eq, AMK, CZ, Option.map, List.getElem?_cons_zero, List.getElem?_cons_succ, List.mem_cons, List.not_mem_nil, if_false, if_true, Nat.reduceAdd, Nat.reduceLT, Nat.reduceLeDiff, Nat.reduceEqDiff, true_and, and_true, List.length_nil, List.length_cons, or_true, true_or, or_false, false_or, Option.some.injEq, Sum.inl.injEq, Sum.inr.injEq, exists_eq_left', exists_eq_left, Int.reduceLE, Int.reduceLT, Int.reduceNeg, Int.reduceAdd, Int.reduceMul, Int.reduceSub, Int.reduceToNat, inR, Nat.zero_ne_one, false_and, Nat.succ_ne_zero, reduceCtorEq, false_implies, true_implies, not_false_eq_true, not_true_eq_false, Int.reduceEq, KRE, C_Model_which, FM, q]
      repeat (first | refine ⟨by omega, ?_⟩ | refine ⟨fun _ _ => okt_nn (by omega), ?_⟩)
      try (first | (show _ ≤ _; omega) | (show _ < _; omega))
      try exact ⟨_, rfl, rfl, rfl⟩
    | succ d IH =>
      intro k hk
      have R := IH (k + 1) (by omega)
      have q := eq_false (show ¬ (6 : Int) ≤ (k : Int) by omega)
      have I := IS k (by omega)
      have w6 : ([191, 192, 193, 194, 195, 196] : List Nat).getD k 0 = NN + k := by
        rcases (show k = 0 ∨ k = 1 ∨ k = 2 ∨ k = 3 ∨ k = 4 ∨ k = 5 by omega) with rfl | rfl | rfl | rfl | rfl | rfl <;> rfl
      rw [show ((k + 1 : Nat) : Int) = (k : Int) + 1 by omega] at R
      refine wpm_of (cuts := [2]) (by decide) 60 _ _ _ _ ?_
      simp (maxSteps := 2000000) only [↓reduceIte, wp_eq, wpd_eq, kont_eq, STP1, STP2, STP3, STP4, STP5, konM_eq, AMK, CZ, Option.map, List.getElem?_cons_zero, List.getElem?_cons_succ, List.mem_cons, List.not_mem_nil, if_false, if_true, Nat.reduceAdd, Nat.reduceLT, Nat.reduceLeDiff, Nat.reduceEqDiff, true_and, and_true, List.length_nil, List.length_cons, or_true, true_or, or_false, false_or, Option.some.injEq, Sum.inl.injEq, Sum.inr.injEq, exists_eq_left', exists_eq_left, Int.reduceLE, Int.reduceLT, Int.reduceNeg, Int.reduceAdd, Int.reduceMul, Int.reduceSub, Int.reduceToNat, inR, Nat.zero_ne_one, false_and, Nat.succ_ne_zero, reduceCtorEq, false_implies, true_implies, not_false_eq_true, not_true_eq_false, Int.reduceEq, KRE, C_Model_which, FM, q, natT, w6]
      repeat (first | refine ⟨by omega, ?_⟩ | refine ⟨fun _ _ => okt_nn (by omega), ?_⟩)
      try (first | (show _ ≤ _; omega) | (show _ < _; omega))
      refine I.eq ?_
      by_cases c : wdB g E a k = true
      · rw [if_pos c, whK_y (by omega) c]
        try simp (maxSteps := 2000000) only [↓reduceIte, wp_eq, wpd_eq, kont_eq, STP1, STP2, STP3, STP4, STP5, konM_eq, AMK, CZ, Option.map, List.getElem?_cons_zero, List.getElem?_cons_succ, List.mem_cons, List.not_mem_nil, if_false, if_true, Nat.reduceAdd, Nat.reduceLT, Nat.reduceLeDiff, Nat.reduceEqDiff, true_and, and_true, List.length_nil, List.length_cons, or_true, true_or, or_false, false_or, Option.some.injEq, Sum.inl.injEq, Sum.inr.injEq, exists_eq_left', exists_eq_left, Int.reduceLE, Int.reduceLT, Int.reduceNeg, Int.reduceAdd, Int.reduceMul, Int.reduceSub, Int.reduceToNat, inR, Nat.zero_ne_one, false_and, Nat.succ_ne_zero, reduceCtorEq, false_implies, true_implies, not_false_eq_true, not_true_eq_false, Int.reduceEq, KRE, C_Model_which, FM]
        repeat (first | refine ⟨by omega, ?_⟩ | refine ⟨fun _ _ => okt_nn (by omega), ?_⟩)
        try (first | (show _ ≤ _; omega) | (show _ < _; omega))
      · rw [if_neg c, whK_n c]
        try simp (maxSteps := 2000000) only [↓reduceIte, wp_eq, wpd_eq, kont_eq, STP1, STP2, STP3, STP4, STP5, konM_eq, AMK, CZ, Option.map, List.getElem?_cons_zero, List.getElem?_cons_succ, List.mem_cons, List.not_mem_nil, if_false, if_true, Nat.reduceAdd, Nat.reduceLT, Nat.reduceLeDiff, Nat.reduceEqDiff, true_and, and_true, List.length_nil, List.length_cons, or_true, true_or, or_false, false_or, Option.some.injEq, Sum.inl.injEq, Sum.inr.injEq, exists_eq_left', exists_eq_left, Int.reduceLE, Int.reduceLT, Int.reduceNeg, Int.reduceAdd, Int.reduceMul, Int.reduceSub, Int.reduceToNat, inR, Nat.zero_ne_one, false_and, Nat.succ_ne_zero, reduceCtorEq, false_implies, true_implies, not_false_eq_true, not_true_eq_false, Int.reduceEq, KRE, C_Model_which, FM]
        repeat (first | refine ⟨by omega, ?_⟩ | refine ⟨fun _ _ => okt_nn (by omega), ?_⟩)
        try (first | (show _ ≤ _; omega) | (show _ < _; omega))
        exact R
  have R := go 6 0 rfl
  refine wpm_of (cuts := [2]) (by decide) 60 _ _ _ _ ?_
  simp (maxSteps := 2000000) only [↓reduceIte, wp_eq, wpd_eq, kont_eq, STP1, STP2, STP3, STP4, STP5, konM_eq, AMK, CZ, Option.map, List.getElem?_cons_zero, List.getElem?_cons_succ, List.mem_cons, List.not_mem_nil, if_false, if_true, Nat.reduceAdd, Nat.reduceLT, Nat.reduceLeDiff, Nat.reduceEqDiff, true_and, and_true, List.length_nil, List.length_cons, or_true, true_or, or_false, false_or, Option.some.injEq, Sum.inl.injEq, Sum.inr.injEq, exists_eq_left', exists_eq_left, Int.reduceLE, Int.reduceLT, Int.reduceNeg, Int.reduceAdd, Int.reduceMul, Int.reduceSub, Int.reduceToNat, inR, Nat.zero_ne_one, false_and, Nat.succ_ne_zero, reduceCtorEq, false_implies, true_implies, not_false_eq_true, not_true_eq_false, Int.reduceEq, KRE, C_Model_which, FM]
  repeat (first | refine ⟨by omega, ?_⟩ | refine ⟨fun _ _ => okt_nn (by omega), ?_⟩)
  try (first | (show _ ≤ _; omega) | (show _ < _; omega))
  exact R
