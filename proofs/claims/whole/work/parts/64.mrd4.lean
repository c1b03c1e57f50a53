/-! THE REFERENCE READS, 4: a timber told ahead; the first row. -/
theorem nmN_in {g : Nat → Int} {E a : Nat} {lo hi : Int} (h : nmF g E a lo hi = 0) : lo ≤ nmN g E a ∧ nmN g E a ≤ hi := by
  unfold nmF at h
  by_cases k2 : tmK g E a ≠ 2
  · rw [if_pos k2] at h; omega
  · rw [if_neg k2] at h
    unfold nmN
    split at h
    · omega
    · exact ⟨by omega, by omega⟩
/-- the timber's fault: not told ahead, told already -/
def tnQ (M : Mm) (g : Nat → Int) (E a : Nat) (n set x : Int) (M' : Mm) : Prop := (tnF g E a n set = 0 → x = nmN g E a ∧ M' = M) ∧ (tnF g E a n set ≠ 0 → 0 ≤ x ∧ x ≤ 7 ∧ M' = mWr M (tnF g E a n set))
set_option maxHeartbeats 600000 in
set_option maxRecDepth 20000 in
theorem timberNow_ok {M : Mm} {g : Nat → Int} {E a : Nat} {n set : Int} (ht : tsM M g E a) (hb : M 154 15 = 0) (hE : E ≤ 900) (ha : a ≤ 900) (h0 : M 157 0 = n) (hn : 0 ≤ n ∧ n ≤ 8) : CallI m_Model_timberNow [.inr 154, .inl set] M (fun x M' => tnQ M g E a n set x M') := by
  have N := number_ok (lo := 0) (hi := 7) ht hb hE ha ⟨by omega, by omega⟩ ⟨by omega, by omega⟩
  have i2 := nmF_in g E a 0 7
  by_cases c1 : nmF g E a 0 7 = 0
  · rw [if_pos c1, if_pos c1] at N
    have b7 := nmN_in c1
    have eF : tnF g E a n set = if n ≤ nmN g E a then 3 else if bAnd (bShr set (nmN g E a)) 1 = 1 then 4 else 0 := if_neg (fun w => w c1)
    by_cases c2 : n ≤ nmN g E a
    · rw [if_pos c2] at eF
      have W := wrong_ok (M := M) (c := 3) hb ⟨by omega, by omega⟩
      have e15 := mWr_15 M 3
      have q := eq_false (show ¬ nmN g E a < n by omega)
      have q2 := eq_true c2
      have r : tnQ M g E a n set (nmN g E a) (mWr M 3) := ⟨fun w => by omega, fun _ => ⟨b7.1, b7.2, by rw [eF]⟩⟩
      generalize hX : tnQ M g E a n set = X at *
      refine callP_of (by decide) (by decide) (Nat.le_of_ble_eq_true rfl) (wpm_of (cuts := []) (by decide) 60 _ _ _ _ ?_)
      rw [show lM m_Model_timberNow = 3 from rfl]
      simp (maxSteps := 2000000) only [↓reduceIte, wp_eq, wpd_eq, kont_eq, STP1, STP2, STP3, STP4, STP5, konM_eq, AMK, CZ, Option.map, List.getElem?_cons_zero, List.getElem?_cons_succ, List.mem_cons, List.not_mem_nil, if_false, if_true, Nat.reduceAdd, Nat.reduceLT, Nat.reduceLeDiff, Nat.reduceEqDiff, true_and, and_true, List.length_nil, List.length_cons, or_true, true_or, or_false, false_or, Option.some.injEq, Sum.inl.injEq, Sum.inr.injEq, exists_eq_left', exists_eq_left, Int.reduceLE, Int.reduceLT, Int.reduceNeg, Int.reduceAdd, Int.reduceMul, Int.reduceSub, Int.reduceToNat, inR, Nat.zero_ne_one, false_and, Nat.succ_ne_zero, reduceCtorEq, false_implies, true_implies, not_false_eq_true, not_true_eq_false, Int.reduceEq, KRE, C_Model_timberNow, FM]
      repeat (first | refine ⟨by omega, ?_⟩ | refine ⟨fun _ _ => okt_nn (by omega), ?_⟩)
      try (first | (show _ ≤ _; omega) | (show _ < _; omega))
      refine N.eq ?_
      try simp (maxSteps := 2000000) only [↓reduceIte, wp_eq, wpd_eq, kont_eq, STP1, STP2, STP3, STP4, STP5, konM_eq, AMK, CZ, Option.map, List.getElem?_cons_zero, List.getElem?_cons_succ, List.mem_cons, List.not_mem_nil, if_false, if_true, Nat.reduceAdd, Nat.reduceLT, Nat.reduceLeDiff, Nat.reduceEqDiff, true_and, and_true, List.length_nil, List.length_cons, or_true, true_or, or_false, false_or, Option.some.injEq, Sum.inl.injEq, Sum.inr.injEq, exists_eq_left', exists_eq_left, Int.reduceLE, Int.reduceLT, Int.reduceNeg, Int.reduceAdd, Int.reduceMul, Int.reduceSub, Int.reduceToNat, inR, Nat.zero_ne_one, false_and, Nat.succ_ne_zero, reduceCtorEq, false_implies, true_implies, not_false_eq_true, not_true_eq_false, Int.reduceEq, KRE, C_Model_timberNow, FM, hb, h0, q, q2]
      repeat (first | refine ⟨by omega, ?_⟩ | refine ⟨fun _ _ => okt_nn (by omega), ?_⟩)
      try (first | (show _ ≤ _; omega) | (show _ < _; omega))
      refine W.eq ?_
      try simp (maxSteps := 2000000) only [↓reduceIte, wp_eq, wpd_eq, kont_eq, STP1, STP2, STP3, STP4, STP5, konM_eq, AMK, CZ, Option.map, List.getElem?_cons_zero, List.getElem?_cons_succ, List.mem_cons, List.not_mem_nil, if_false, if_true, Nat.reduceAdd, Nat.reduceLT, Nat.reduceLeDiff, Nat.reduceEqDiff, true_and, and_true, List.length_nil, List.length_cons, or_true, true_or, or_false, false_or, Option.some.injEq, Sum.inl.injEq, Sum.inr.injEq, exists_eq_left', exists_eq_left, Int.reduceLE, Int.reduceLT, Int.reduceNeg, Int.reduceAdd, Int.reduceMul, Int.reduceSub, Int.reduceToNat, inR, Nat.zero_ne_one, false_and, Nat.succ_ne_zero, reduceCtorEq, false_implies, true_implies, not_false_eq_true, not_true_eq_false, Int.reduceEq, KRE, C_Model_timberNow, FM, e15]
      repeat (first | refine ⟨by omega, ?_⟩ | refine ⟨fun _ _ => okt_nn (by omega), ?_⟩)
      try (first | (show _ ≤ _; omega) | (show _ < _; omega))
      all_goals first | exact r | exact ⟨rfl, r⟩ | exact ⟨_, rfl, r⟩ | exact ⟨by omega, r⟩
    · rw [if_neg c2] at eF
      have q2 := eq_false c2
      have q := eq_true (show nmN g E a < n by omega)
      have bi := bAnd_in (bShr set (nmN g E a)) 1
      obtain ⟨bi1, bi2⟩ := bi
      by_cases c3 : bAnd (bShr set (nmN g E a)) 1 = 1
      · rw [if_pos c3] at eF
        have W := wrong_ok (M := M) (c := 4) hb ⟨by omega, by omega⟩
        have r : tnQ M g E a n set (nmN g E a) (mWr M 4) := ⟨fun w => by omega, fun _ => ⟨b7.1, b7.2, by rw [eF]⟩⟩
        generalize hX : tnQ M g E a n set = X at *
        refine callP_of (by decide) (by decide) (Nat.le_of_ble_eq_true rfl) (wpm_of (cuts := []) (by decide) 60 _ _ _ _ ?_)
        rw [show lM m_Model_timberNow = 3 from rfl]
        simp (maxSteps := 2000000) only [↓reduceIte, wp_eq, wpd_eq, kont_eq, STP1, STP2, STP3, STP4, STP5, konM_eq, AMK, CZ, Option.map, List.getElem?_cons_zero, List.getElem?_cons_succ, List.mem_cons, List.not_mem_nil, if_false, if_true, Nat.reduceAdd, Nat.reduceLT, Nat.reduceLeDiff, Nat.reduceEqDiff, true_and, and_true, List.length_nil, List.length_cons, or_true, true_or, or_false, false_or, Option.some.injEq, Sum.inl.injEq, Sum.inr.injEq, exists_eq_left', exists_eq_left, Int.reduceLE, Int.reduceLT, Int.reduceNeg, Int.reduceAdd, Int.reduceMul, Int.reduceSub, Int.reduceToNat, inR, Nat.zero_ne_one, false_and, Nat.succ_ne_zero, reduceCtorEq, false_implies, true_implies, not_false_eq_true, not_true_eq_false, Int.reduceEq, KRE, C_Model_timberNow, FM]
        repeat (first | refine ⟨by omega, ?_⟩ | refine ⟨fun _ _ => okt_nn (by omega), ?_⟩)
        try (first | (show _ ≤ _; omega) | (show _ < _; omega))
        refine N.eq ?_
        try simp (maxSteps := 2000000) only [↓reduceIte, wp_eq, wpd_eq, kont_eq, STP1, STP2, STP3, STP4, STP5, konM_eq, AMK, CZ, Option.map, List.getElem?_cons_zero, List.getElem?_cons_succ, List.mem_cons, List.not_mem_nil, if_false, if_true, Nat.reduceAdd, Nat.reduceLT, Nat.reduceLeDiff, Nat.reduceEqDiff, true_and, and_true, List.length_nil, List.length_cons, or_true, true_or, or_false, false_or, Option.some.injEq, Sum.inl.injEq, Sum.inr.injEq, exists_eq_left', exists_eq_left, Int.reduceLE, Int.reduceLT, Int.reduceNeg, Int.reduceAdd, Int.reduceMul, Int.reduceSub, Int.reduceToNat, inR, Nat.zero_ne_one, false_and, Nat.succ_ne_zero, reduceCtorEq, false_implies, true_implies, not_false_eq_true, not_true_eq_false, Int.reduceEq, KRE, C_Model_timberNow, FM, hb, h0, q, q2, c3]
        repeat (first | refine ⟨by omega, ?_⟩ | refine ⟨fun _ _ => okt_nn (by omega), ?_⟩)
        try (first | (show _ ≤ _; omega) | (show _ < _; omega))
        refine W.eq ?_
        try simp (maxSteps := 2000000) only [↓reduceIte, wp_eq, wpd_eq, kont_eq, STP1, STP2, STP3, STP4, STP5, konM_eq, AMK, CZ, Option.map, List.getElem?_cons_zero, List.getElem?_cons_succ, List.mem_cons, List.not_mem_nil, if_false, if_true, Nat.reduceAdd, Nat.reduceLT, Nat.reduceLeDiff, Nat.reduceEqDiff, true_and, and_true, List.length_nil, List.length_cons, or_true, true_or, or_false, false_or, Option.some.injEq, Sum.inl.injEq, Sum.inr.injEq, exists_eq_left', exists_eq_left, Int.reduceLE, Int.reduceLT, Int.reduceNeg, Int.reduceAdd, Int.reduceMul, Int.reduceSub, Int.reduceToNat, inR, Nat.zero_ne_one, false_and, Nat.succ_ne_zero, reduceCtorEq, false_implies, true_implies, not_false_eq_true, not_true_eq_false, Int.reduceEq, KRE, C_Model_timberNow, FM]
        repeat (first | refine ⟨by omega, ?_⟩ | refine ⟨fun _ _ => okt_nn (by omega), ?_⟩)
        try (first | (show _ ≤ _; omega) | (show _ < _; omega))
        all_goals first | exact r | exact ⟨rfl, r⟩ | exact ⟨_, rfl, r⟩ | exact ⟨by omega, r⟩
      · rw [if_neg c3] at eF
        have c3' := eq_false c3
        have r : tnQ M g E a n set (nmN g E a) M := ⟨fun _ => ⟨rfl, rfl⟩, fun w => absurd eF w⟩
        generalize hX : tnQ M g E a n set = X at *
        refine callP_of (by decide) (by decide) (Nat.le_of_ble_eq_true rfl) (wpm_of (cuts := []) (by decide) 60 _ _ _ _ ?_)
        rw [show lM m_Model_timberNow = 3 from rfl]
        simp (maxSteps := 2000000) only [↓reduceIte, wp_eq, wpd_eq, kont_eq, STP1, STP2, STP3, STP4, STP5, konM_eq, AMK, CZ, Option.map, List.getElem?_cons_zero, List.getElem?_cons_succ, List.mem_cons, List.not_mem_nil, if_false, if_true, Nat.reduceAdd, Nat.reduceLT, Nat.reduceLeDiff, Nat.reduceEqDiff, true_and, and_true, List.length_nil, List.length_cons, or_true, true_or, or_false, false_or, Option.some.injEq, Sum.inl.injEq, Sum.inr.injEq, exists_eq_left', exists_eq_left, Int.reduceLE, Int.reduceLT, Int.reduceNeg, Int.reduceAdd, Int.reduceMul, Int.reduceSub, Int.reduceToNat, inR, Nat.zero_ne_one, false_and, Nat.succ_ne_zero, reduceCtorEq, false_implies, true_implies, not_false_eq_true, not_true_eq_false, Int.reduceEq, KRE, C_Model_timberNow, FM]
        repeat (first | refine ⟨by omega, ?_⟩ | refine ⟨fun _ _ => okt_nn (by omega), ?_⟩)
        try (first | (show _ ≤ _; omega) | (show _ < _; omega))
        refine N.eq ?_
        try simp (maxSteps := 2000000) only [↓reduceIte, wp_eq, wpd_eq, kont_eq, STP1, STP2, STP3, STP4, STP5, konM_eq, AMK, CZ, Option.map, List.getElem?_cons_zero, List.getElem?_cons_succ, List.mem_cons, List.not_mem_nil, if_false, if_true, Nat.reduceAdd, Nat.reduceLT, Nat.reduceLeDiff, Nat.reduceEqDiff, true_and, and_true, List.length_nil, List.length_cons, or_true, true_or, or_false, false_or, Option.some.injEq, Sum.inl.injEq, Sum.inr.injEq, exists_eq_left', exists_eq_left, Int.reduceLE, Int.reduceLT, Int.reduceNeg, Int.reduceAdd, Int.reduceMul, Int.reduceSub, Int.reduceToNat, inR, Nat.zero_ne_one, false_and, Nat.succ_ne_zero, reduceCtorEq, false_implies, true_implies, not_false_eq_true, not_true_eq_false, Int.reduceEq, KRE, C_Model_timberNow, FM, hb, h0, q, q2, c3']
        repeat (first | refine ⟨by omega, ?_⟩ | refine ⟨fun _ _ => okt_nn (by omega), ?_⟩)
        try (first | (show _ ≤ _; omega) | (show _ < _; omega))
        all_goals first | exact r | exact ⟨rfl, r⟩ | exact ⟨_, rfl, r⟩ | exact ⟨by omega, r⟩
  · rw [if_neg c1, if_neg c1] at N
    have eF : tnF g E a n set = nmF g E a 0 7 := if_pos c1
    have r : tnQ M g E a n set 0 (mWr M (nmF g E a 0 7)) := ⟨fun w => by omega, fun _ => ⟨by omega, by omega, by rw [eF]⟩⟩
    have e15 := mWr_15 M (nmF g E a 0 7)
    generalize hX : tnQ M g E a n set = X at *
    generalize nmF g E a 0 7 = c at *
    have q := eq_false c1
    refine callP_of (by decide) (by decide) (Nat.le_of_ble_eq_true rfl) (wpm_of (cuts := []) (by decide) 60 _ _ _ _ ?_)
    rw [show lM m_Model_timberNow = 3 from rfl]
    simp (maxSteps := 2000000) only [↓reduceIte, wp_eq, wpd_eq, kont_eq, STP1, STP2, STP3, STP4, STP5, konM_eq, AMK, CZ, Option.map, List.getElem?_cons_zero, List.getElem?_cons_succ, List.mem_cons, List.not_mem_nil, if_false, if_true, Nat.reduceAdd, Nat.reduceLT, Nat.reduceLeDiff, Nat.reduceEqDiff, true_and, and_true, List.length_nil, List.length_cons, or_true, true_or, or_false, false_or, Option.some.injEq, Sum.inl.injEq, Sum.inr.injEq, exists_eq_left', exists_eq_left, Int.reduceLE, Int.reduceLT, Int.reduceNeg, Int.reduceAdd, Int.reduceMul, Int.reduceSub, Int.reduceToNat, inR, Nat.zero_ne_one, false_and, Nat.succ_ne_zero, reduceCtorEq, false_implies, true_implies, not_false_eq_true, not_true_eq_false, Int.reduceEq, KRE, C_Model_timberNow, FM]
    repeat (first | refine ⟨by omega, ?_⟩ | refine ⟨fun _ _ => okt_nn (by omega), ?_⟩)
    try (first | (show _ ≤ _; omega) | (show _ < _; omega))
    refine N.eq ?_
    try simp (maxSteps := 2000000) only [↓reduceIte, wp_eq, wpd_eq, kont_eq, STP1, STP2, STP3, STP4, STP5, konM_eq, AMK, CZ, Option.map, List.getElem?_cons_zero, List.getElem?_cons_succ, List.mem_cons, List.not_mem_nil, if_false, if_true, Nat.reduceAdd, Nat.reduceLT, Nat.reduceLeDiff, Nat.reduceEqDiff, true_and, and_true, List.length_nil, List.length_cons, or_true, true_or, or_false, false_or, Option.some.injEq, Sum.inl.injEq, Sum.inr.injEq, exists_eq_left', exists_eq_left, Int.reduceLE, Int.reduceLT, Int.reduceNeg, Int.reduceAdd, Int.reduceMul, Int.reduceSub, Int.reduceToNat, inR, Nat.zero_ne_one, false_and, Nat.succ_ne_zero, reduceCtorEq, false_implies, true_implies, not_false_eq_true, not_true_eq_false, Int.reduceEq, KRE, C_Model_timberNow, FM, e15, q]
    repeat (first | refine ⟨by omega, ?_⟩ | refine ⟨fun _ _ => okt_nn (by omega), ?_⟩)
    try (first | (show _ ≤ _; omega) | (show _ < _; omega))
    all_goals first | exact r | exact ⟨rfl, r⟩ | exact ⟨_, rfl, r⟩ | exact ⟨by omega, r⟩
def mFst (M : Mm) (k : Nat) : Mm := fun b j => if b = 157 ∧ j < k then (if j = 0 then 0 else -1) else M b j
set_option maxHeartbeats 600000 in
set_option maxRecDepth 20000 in
theorem layFirst_ok {M : Mm} : CallV m_Model_layFirst [.inr 157] M (fun M' => M' = mFst M 4) := by
  refine callP_of (by decide) (by decide) (Nat.le_of_ble_eq_true rfl) (wpm_of (cuts := [2]) (by decide) 60 _ _ _ _ ?_)
  rw [show lM m_Model_layFirst = 2 from rfl]
  simp (maxSteps := 2000000) only [↓reduceIte, wp_eq, wpd_eq, kont_eq, STP1, STP2, STP3, STP4, STP5, konM_eq, AMK, CZ, Option.map, List.getElem?_cons_zero, List.getElem?_cons_succ, List.mem_cons, List.not_mem_nil, if_false, if_true, Nat.reduceAdd, Nat.reduceLT, Nat.reduceLeDiff, Nat.reduceEqDiff, true_and, and_true, List.length_nil, List.length_cons, or_true, true_or, or_false, false_or, Option.some.injEq, Sum.inl.injEq, Sum.inr.injEq, exists_eq_left', exists_eq_left, Int.reduceLE, Int.reduceLT, Int.reduceNeg, Int.reduceAdd, Int.reduceMul, Int.reduceSub, Int.reduceToNat, inR, Nat.zero_ne_one, false_and, Nat.succ_ne_zero, reduceCtorEq, false_implies, true_implies, not_false_eq_true, not_true_eq_false, Int.reduceEq, KRE, C_Model_layFirst, FM]
  repeat (first | refine ⟨by omega, ?_⟩ | refine ⟨fun _ _ => okt_nn (by omega), ?_⟩)
  try (first | (show _ ≤ _; omega) | (show _ < _; omega))
  refine loopQ 4 (fun k ls M2 => M2 = mFst M k ∧ ls = [some (.inr 157), some (.inl (k : Int))]) ?_ _ _ ⟨?_, rfl⟩
  · rintro k _ _ hk ⟨rfl, rfl⟩ K
    have st : ∀ v, (v = if k = 0 then (0 : Int) else -1) → mset (mFst M k) 157 k v = mFst M (k + 1) := by
      rintro _ rfl
      funext b j
      show (if b = 157 ∧ j = k then (if k = 0 then (0 : Int) else -1) else if b = 157 ∧ j < k then (if j = 0 then 0 else -1) else M b j) = if b = 157 ∧ j < k + 1 then (if j = 0 then 0 else -1) else M b j
      by_cases h1 : b = 157 ∧ j = k
      · obtain ⟨rfl, rfl⟩ := h1
        exact (if_pos ⟨rfl, rfl⟩).trans (if_pos ⟨rfl, by omega⟩).symm
      · rw [if_neg h1]
        exact if_cg (by omega) rfl rfl
    by_cases ck : k = 4
    · subst ck
      have c4 := eq_true (show (4 : Int) ≤ (4 : Nat) by omega)
      refine wpm_of (cuts := [2]) (by decide) 60 _ _ _ _ ?_
      simp (maxSteps := 2000000) only [↓reduceIte, wp_eq, wpd_eq, kont_eq, STP1, STP2, STP3, STP4, STP5, konM_eq, AMK, CZ, Option.map, List.getElem?_cons_zero, List.getElem?_cons_succ, List.mem_cons, List.not_mem_nil, if_false, if_true, Nat.reduceAdd, Nat.reduceLT, Nat.reduceLeDiff, Nat.reduceEqDiff, true_and, and_true, List.length_nil, List.length_cons, or_true, true_or, or_false, false_or, Option.some.injEq, Sum.inl.injEq, Sum.inr.injEq, exists_eq_left', exists_eq_left, Int.reduceLE, Int.reduceLT, Int.reduceNeg, Int.reduceAdd, Int.reduceMul, Int.reduceSub, Int.reduceToNat, inR, Nat.zero_ne_one, false_and, Nat.succ_ne_zero, reduceCtorEq, false_implies, true_implies, not_false_eq_true, not_true_eq_false, Int.reduceEq, KRE, C_Model_layFirst, FM, c4]
      repeat (first | refine ⟨by omega, ?_⟩ | refine ⟨fun _ _ => okt_nn (by omega), ?_⟩)
      try (first | (show _ ≤ _; omega) | (show _ < _; omega))
    · have c4 := eq_false (show ¬ (4 : Int) ≤ k by omega)
      have K' := K (by omega) _ _ ⟨rfl, rfl⟩
      rw [show ((k + 1 : Nat) : Int) = (k : Int) + 1 by omega] at K'
      by_cases k0 : k = 0
      · have s := st 0 (by rw [if_pos k0])
        rw [← s] at K'
        have z := eq_true (show (k : Int) = 0 by omega)
        refine wpm_of (cuts := [2]) (by decide) 60 _ _ _ _ ?_
        simp (maxSteps := 2000000) only [↓reduceIte, wp_eq, wpd_eq, kont_eq, STP1, STP2, STP3, STP4, STP5, konM_eq, AMK, CZ, Option.map, List.getElem?_cons_zero, List.getElem?_cons_succ, List.mem_cons, List.not_mem_nil, if_false, if_true, Nat.reduceAdd, Nat.reduceLT, Nat.reduceLeDiff, Nat.reduceEqDiff, true_and, and_true, List.length_nil, List.length_cons, or_true, true_or, or_false, false_or, Option.some.injEq, Sum.inl.injEq, Sum.inr.injEq, exists_eq_left', exists_eq_left, Int.reduceLE, Int.reduceLT, Int.reduceNeg, Int.reduceAdd, Int.reduceMul, Int.reduceSub, Int.reduceToNat, inR, Nat.zero_ne_one, false_and, Nat.succ_ne_zero, reduceCtorEq, false_implies, true_implies, not_false_eq_true, not_true_eq_false, Int.reduceEq, KRE, C_Model_layFirst, FM, c4, z, natT]
        repeat (first | refine ⟨by omega, ?_⟩ | refine ⟨fun _ _ => okt_nn (by omega), ?_⟩)
        try (first | (show _ ≤ _; omega) | (show _ < _; omega))
        subst k0
        exact K'
      · have s := st (-1) (by rw [if_neg k0])
        rw [← s] at K'
        have z := eq_false (show ¬ (k : Int) = 0 by omega)
        refine wpm_of (cuts := [2]) (by decide) 60 _ _ _ _ ?_
        simp (maxSteps := 2000000) only [↓reduceIte, wp_eq, wpd_eq, kont_eq, STP1, STP2, STP3, STP4, STP5, konM_eq, AMK, CZ, Option.map, List.getElem?_cons_zero, List.getElem?_cons_succ, List.mem_cons, List.not_mem_nil, if_false, if_true, Nat.reduceAdd, Nat.reduceLT, Nat.reduceLeDiff, Nat.reduceEqDiff, true_and, and_true, List.length_nil, List.length_cons, or_true, true_or, or_false, false_or, Option.some.injEq, Sum.inl.injEq, Sum.inr.injEq, exists_eq_left', exists_eq_left, Int.reduceLE, Int.reduceLT, Int.reduceNeg, Int.reduceAdd, Int.reduceMul, Int.reduceSub, Int.reduceToNat, inR, Nat.zero_ne_one, false_and, Nat.succ_ne_zero, reduceCtorEq, false_implies, true_implies, not_false_eq_true, not_true_eq_false, Int.reduceEq, KRE, C_Model_layFirst, FM, c4, z, natT]
        repeat (first | refine ⟨by omega, ?_⟩ | refine ⟨fun _ _ => okt_nn (by omega), ?_⟩)
        try (first | (show _ ≤ _; omega) | (show _ < _; omega))
        exact K'
  · funext b j
    show M b j = if b = 157 ∧ j < 0 then (if j = 0 then 0 else -1) else M b j
    rw [if_neg (by omega)]
