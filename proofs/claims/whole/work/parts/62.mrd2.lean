/-! THE REFERENCE READS, 2: faults, signs, numbers. -/
def tsM (M : Mm) (g : Nat → Int) (E a : Nat) : Prop := M 161 = g ∧ M 154 10 = E ∧ M 154 13 = a ∧ M 154 14 = tmS g E a ∧ M 154 9 = tmS g E a ∧ M 154 11 = tmK g E a ∧ (tmK g E a = 2 → (tkD g E a ≤ 3 → M 154 12 = nmV g a (tkD g E a)) ∧ inR (M 154 12))
theorem tsM_mv {M M2 : Mm} {g : Nat → Int} {E a : Nat} (h : tsM M g E a) (e : ∀ b j, (b = 161 ∨ b = 154 ∧ 9 ≤ j ∧ j ≤ 14) → M2 b j = M b j) : tsM M2 g E a := by
  obtain ⟨h1, h2, h3, h4, h5, h6, h7⟩ := h
  refine ⟨(funext fun j => e 161 j (by omega)).trans h1, (e _ _ (by omega)).trans h2, (e _ _ (by omega)).trans h3, (e _ _ (by omega)).trans h4, (e _ _ (by omega)).trans h5, (e _ _ (by omega)).trans h6, ?_⟩
  rw [e 154 12 (by omega)]
  exact h7
theorem tmS_le {g : Nat → Int} {E a : Nat} (hE : E ≤ 900) (ha : a ≤ 900) : a ≤ tmS g E a ∧ tmS g E a ≤ 900 := by
  unfold tmS tkW tkD
  have w := runL_le (p := fun j => decide (isLet (g j))) hE ha
  have d := runL_le (p := fun j => decide (isDig (g j))) hE ha
  split
  · omega
  · split
    · omega
    · split <;> omega
/-- the next token's place -/
def nxT (g : Nat → Int) (E a : Nat) : Nat := tkA g E (tmS g E a)
theorem nxT_le {g : Nat → Int} {E a : Nat} (hE : E ≤ 900) (ha : a ≤ 900) : nxT g E a ≤ 900 := tkA_le hE (tmS_le hE ha).2
theorem step_ok {M : Mm} {g : Nat → Int} {E a : Nat} (h : tsM M g E a) (hp : oct g E) (hE : E ≤ 900) (ha : a ≤ 900) : CallV m_Model_stepOn [.inr 154] M (fun M' => FrP stP M M' ∧ tsM M' g E (nxT g E a)) := by
  obtain ⟨rfl, h2, h3, h4, h5, h6, h7⟩ := h
  refine (Model_stepOn_ok h2 hE (tmS_le hE ha).2 hp h5).mono (fun M' z => ?_)
  obtain ⟨z1, z2, z3, z4, z5, z6⟩ := z
  exact ⟨z1, funext (fun j => z1 _ _ (by unfold stP; omega)), (z1 _ _ (by unfold stP; omega)).trans h2, z2, z3, z4, z5, z6⟩
/-- a fault at the token -/
def mWr (M : Mm) (c : Int) : Mm := mset (mset M 154 15 c) 154 16 (M 154 13)
set_option maxHeartbeats 600000 in
set_option maxRecDepth 20000 in
theorem wrong_ok {M : Mm} {c : Int} (hb : M 154 15 = 0) (hc : inR c) : CallV m_Model_wrong [.inr 154, .inl c] M (fun M' => M' = mWr M c) := by
  have e13 : mset M 154 15 c 154 13 = M 154 13 := by simp [mset]
  refine callP_of (by decide) (by decide) (Nat.le_of_ble_eq_true rfl) (wpm_of (cuts := []) (by decide) 30 _ _ _ _ ?_)
  rw [show lM m_Model_wrong = 2 from rfl]
  simp (maxSteps := 2000000) only [↓reduceIte, wp_eq, wpd_eq, kont_eq, STP1, STP2, STP3, STP4, STP5, konM_eq, AMK, CZ, Option.map, List.getElem?_cons_zero, List.getElem?_cons_succ, List.mem_cons, List.not_mem_nil, if_false, if_true, Nat.reduceAdd, Nat.reduceLT, Nat.reduceLeDiff, Nat.reduceEqDiff, true_and, and_true, List.length_nil, List.length_cons, or_true, true_or, or_false, false_or, Option.some.injEq, Sum.inl.injEq, Sum.inr.injEq, exists_eq_left', exists_eq_left, Int.reduceLE, Int.reduceLT, Int.reduceNeg, Int.reduceAdd, Int.reduceMul, Int.reduceSub, Int.reduceToNat, inR, Nat.zero_ne_one, false_and, Nat.succ_ne_zero, reduceCtorEq, false_implies, true_implies, not_false_eq_true, not_true_eq_false, Int.reduceEq, KRE, C_Model_wrong, FM, hb, e13]
  repeat (first | refine ⟨by omega, ?_⟩ | refine ⟨fun _ _ => okt_nn (by omega), ?_⟩)
  try (first | (show _ ≤ _; omega) | (show _ < _; omega))
  try exact rfl
set_option maxHeartbeats 600000 in
set_option maxRecDepth 20000 in
theorem wrong_no {M : Mm} {c : Int} (hb : M 154 15 ≠ 0) (hr : inR (M 154 15)) : CallV m_Model_wrong [.inr 154, .inl c] M (fun M' => M' = M) := by
  obtain ⟨r1, r2⟩ := hr
  have e := eq_false hb
  refine callP_of (by decide) (by decide) (Nat.le_of_ble_eq_true rfl) (wpm_of (cuts := []) (by decide) 30 _ _ _ _ ?_)
  rw [show lM m_Model_wrong = 2 from rfl]
  simp (maxSteps := 2000000) only [↓reduceIte, wp_eq, wpd_eq, kont_eq, STP1, STP2, STP3, STP4, STP5, konM_eq, AMK, CZ, Option.map, List.getElem?_cons_zero, List.getElem?_cons_succ, List.mem_cons, List.not_mem_nil, if_false, if_true, Nat.reduceAdd, Nat.reduceLT, Nat.reduceLeDiff, Nat.reduceEqDiff, true_and, and_true, List.length_nil, List.length_cons, or_true, true_or, or_false, false_or, Option.some.injEq, Sum.inl.injEq, Sum.inr.injEq, exists_eq_left', exists_eq_left, Int.reduceLE, Int.reduceLT, Int.reduceNeg, Int.reduceAdd, Int.reduceMul, Int.reduceSub, Int.reduceToNat, inR, Nat.zero_ne_one, false_and, Nat.succ_ne_zero, reduceCtorEq, false_implies, true_implies, not_false_eq_true, not_true_eq_false, Int.reduceEq, KRE, C_Model_wrong, FM, e]
  repeat (first | refine ⟨by omega, ?_⟩ | refine ⟨fun _ _ => okt_nn (by omega), ?_⟩)
  try (first | (show _ ≤ _; omega) | (show _ < _; omega))
  try exact rfl
/-- the number's fault at a token -/
def nmF (g : Nat → Int) (E a : Nat) (lo hi : Int) : Int := if tmK g E a ≠ 2 then 1 else if 3 < tkD g E a ∨ nmV g a (tkD g E a) < lo ∨ hi < nmV g a (tkD g E a) then 2 else 0
def nmN (g : Nat → Int) (E a : Nat) : Int := nmV g a (tkD g E a)
theorem tmS_D {g : Nat → Int} {E a : Nat} (h : tmK g E a = 2) : tmS g E a = a + tkD g E a := by
  unfold tmK at h
  unfold tmS
  by_cases c1 : E ≤ a
  · rw [if_pos c1] at h; omega
  · by_cases c2 : isLet (g a)
    · rw [if_neg c1, if_pos c2] at h; omega
    · by_cases c3 : isDig (g a)
      · rw [if_neg c1, if_neg c2, if_pos c3]
      · rw [if_neg c1, if_neg c2, if_neg c3] at h
        split at h <;> omega
theorem tmK_in (g : Nat → Int) (E a : Nat) : 0 ≤ tmK g E a ∧ tmK g E a ≤ 4 := by
  unfold tmK
  split
  · omega
  · split
    · omega
    · split
      · omega
      · split <;> omega
set_option maxHeartbeats 600000 in
set_option maxRecDepth 20000 in
theorem number_ok {M : Mm} {g : Nat → Int} {E a : Nat} {lo hi : Int} (h : tsM M g E a) (hb : M 154 15 = 0) (hE : E ≤ 900) (ha : a ≤ 900) (hlo : inR lo) (hhi : inR hi) : CallI m_Model_numberNow [.inr 154, .inl lo, .inl hi] M (fun x M' => x = (if nmF g E a lo hi = 0 then nmN g E a else lo) ∧ M' = if nmF g E a lo hi = 0 then M else mWr M (nmF g E a lo hi)) := by
  obtain ⟨h1, h2, h3, h4, h5, h6, h7⟩ := h
  obtain ⟨l1, l2⟩ := hlo
  obtain ⟨u1, u2⟩ := hhi
  have k4 := tmK_in g E a
  have W := fun c hc => wrong_ok (M := M) (c := c) hb hc
  have w15 : ∀ c, mWr M c 154 15 = c := fun c => by simp [mWr, mset]
  have F2 : tmK g E a = 2 → nmF g E a lo hi = if 3 < tkD g E a ∨ nmV g a (tkD g E a) < lo ∨ hi < nmV g a (tkD g E a) then 2 else 0 := fun z => if_neg (fun w => w z)
  by_cases c1 : tmK g E a = 2
  · have F3 := F2 c1
    have eD := tmS_D c1
    have hs := tmS_le (g := g) hE ha
    obtain ⟨h8, h9, h9'⟩ := h7 c1
    have t11 := eq_true (show M 154 11 = 2 by omega)
    have esub : M 154 14 - M 154 13 = (tkD g E a : Int) := by omega
    by_cases c2 : 3 < tkD g E a
    · rw [if_pos (Or.inl c2)] at F3
      rw [F3, if_neg (by omega), if_neg (by omega)]
      have q := eq_true (show (3 : Int) < (tkD g E a : Int) by omega)
      refine callP_of (by decide) (by decide) (Nat.le_of_ble_eq_true rfl) (wpm_of (cuts := []) (by decide) 60 _ _ _ _ ?_)
      rw [show lM m_Model_numberNow = 3 from rfl]
      simp (maxSteps := 2000000) only [↓reduceIte, wp_eq, wpd_eq, kont_eq, STP1, STP2, STP3, STP4, STP5, konM_eq, AMK, CZ, Option.map, List.getElem?_cons_zero, List.getElem?_cons_succ, List.mem_cons, List.not_mem_nil, if_false, if_true, Nat.reduceAdd, Nat.reduceLT, Nat.reduceLeDiff, Nat.reduceEqDiff, true_and, and_true, List.length_nil, List.length_cons, or_true, true_or, or_false, false_or, Option.some.injEq, Sum.inl.injEq, Sum.inr.injEq, exists_eq_left', exists_eq_left, Int.reduceLE, Int.reduceLT, Int.reduceNeg, Int.reduceAdd, Int.reduceMul, Int.reduceSub, Int.reduceToNat, inR, Nat.zero_ne_one, false_and, Nat.succ_ne_zero, reduceCtorEq, false_implies, true_implies, not_false_eq_true, not_true_eq_false, Int.reduceEq, KRE, C_Model_numberNow, FM, hb, t11, esub, q]
      repeat (first | refine ⟨by omega, ?_⟩ | refine ⟨fun _ _ => okt_nn (by omega), ?_⟩)
      try (first | (show _ ≤ _; omega) | (show _ < _; omega))
      refine (W 2 ⟨by omega, by omega⟩).eq ?_
      try simp (maxSteps := 2000000) only [↓reduceIte, wp_eq, wpd_eq, kont_eq, STP1, STP2, STP3, STP4, STP5, konM_eq, AMK, CZ, Option.map, List.getElem?_cons_zero, List.getElem?_cons_succ, List.mem_cons, List.not_mem_nil, if_false, if_true, Nat.reduceAdd, Nat.reduceLT, Nat.reduceLeDiff, Nat.reduceEqDiff, true_and, and_true, List.length_nil, List.length_cons, or_true, true_or, or_false, false_or, Option.some.injEq, Sum.inl.injEq, Sum.inr.injEq, exists_eq_left', exists_eq_left, Int.reduceLE, Int.reduceLT, Int.reduceNeg, Int.reduceAdd, Int.reduceMul, Int.reduceSub, Int.reduceToNat, inR, Nat.zero_ne_one, false_and, Nat.succ_ne_zero, reduceCtorEq, false_implies, true_implies, not_false_eq_true, not_true_eq_false, Int.reduceEq, KRE, C_Model_numberNow, FM, w15]
      repeat (first | refine ⟨by omega, ?_⟩ | refine ⟨fun _ _ => okt_nn (by omega), ?_⟩)
      try (first | (show _ ≤ _; omega) | (show _ < _; omega))
    · have q := eq_false (show ¬ (3 : Int) < (tkD g E a : Int) by omega)
      have e12 := h8 (by omega)
      by_cases c3 : nmV g a (tkD g E a) < lo
      · rw [if_pos (Or.inr (Or.inl c3))] at F3
        rw [F3, if_neg (by omega), if_neg (by omega)]
        have q3 := eq_true c3
        refine callP_of (by decide) (by decide) (Nat.le_of_ble_eq_true rfl) (wpm_of (cuts := []) (by decide) 60 _ _ _ _ ?_)
        rw [show lM m_Model_numberNow = 3 from rfl]
        simp (maxSteps := 2000000) only [↓reduceIte, wp_eq, wpd_eq, kont_eq, STP1, STP2, STP3, STP4, STP5, konM_eq, AMK, CZ, Option.map, List.getElem?_cons_zero, List.getElem?_cons_succ, List.mem_cons, List.not_mem_nil, if_false, if_true, Nat.reduceAdd, Nat.reduceLT, Nat.reduceLeDiff, Nat.reduceEqDiff, true_and, and_true, List.length_nil, List.length_cons, or_true, true_or, or_false, false_or, Option.some.injEq, Sum.inl.injEq, Sum.inr.injEq, exists_eq_left', exists_eq_left, Int.reduceLE, Int.reduceLT, Int.reduceNeg, Int.reduceAdd, Int.reduceMul, Int.reduceSub, Int.reduceToNat, inR, Nat.zero_ne_one, false_and, Nat.succ_ne_zero, reduceCtorEq, false_implies, true_implies, not_false_eq_true, not_true_eq_false, Int.reduceEq, KRE, C_Model_numberNow, FM, hb, t11, esub, q, e12, q3]
        repeat (first | refine ⟨by omega, ?_⟩ | refine ⟨fun _ _ => okt_nn (by omega), ?_⟩)
        try (first | (show _ ≤ _; omega) | (show _ < _; omega))
        refine (W 2 ⟨by omega, by omega⟩).eq ?_
        try simp (maxSteps := 2000000) only [↓reduceIte, wp_eq, wpd_eq, kont_eq, STP1, STP2, STP3, STP4, STP5, konM_eq, AMK, CZ, Option.map, List.getElem?_cons_zero, List.getElem?_cons_succ, List.mem_cons, List.not_mem_nil, if_false, if_true, Nat.reduceAdd, Nat.reduceLT, Nat.reduceLeDiff, Nat.reduceEqDiff, true_and, and_true, List.length_nil, List.length_cons, or_true, true_or, or_false, false_or, Option.some.injEq, Sum.inl.injEq, Sum.inr.injEq, exists_eq_left', exists_eq_left, Int.reduceLE, Int.reduceLT, Int.reduceNeg, Int.reduceAdd, Int.reduceMul, Int.reduceSub, Int.reduceToNat, inR, Nat.zero_ne_one, false_and, Nat.succ_ne_zero, reduceCtorEq, false_implies, true_implies, not_false_eq_true, not_true_eq_false, Int.reduceEq, KRE, C_Model_numberNow, FM, w15]
        repeat (first | refine ⟨by omega, ?_⟩ | refine ⟨fun _ _ => okt_nn (by omega), ?_⟩)
        try (first | (show _ ≤ _; omega) | (show _ < _; omega))
      · have q3 := eq_false c3
        by_cases c4 : hi < nmV g a (tkD g E a)
        · rw [if_pos (Or.inr (Or.inr c4))] at F3
          rw [F3, if_neg (by omega), if_neg (by omega)]
          have q4 := eq_false (show ¬ nmV g a (tkD g E a) ≤ hi by omega)
          have q4' := eq_true c4
          refine callP_of (by decide) (by decide) (Nat.le_of_ble_eq_true rfl) (wpm_of (cuts := []) (by decide) 60 _ _ _ _ ?_)
          rw [show lM m_Model_numberNow = 3 from rfl]
          simp (maxSteps := 2000000) only [↓reduceIte, wp_eq, wpd_eq, kont_eq, STP1, STP2, STP3, STP4, STP5, konM_eq, AMK, CZ, Option.map, List.getElem?_cons_zero, List.getElem?_cons_succ, List.mem_cons, List.not_mem_nil, if_false, if_true, Nat.reduceAdd, Nat.reduceLT, Nat.reduceLeDiff, Nat.reduceEqDiff, true_and, and_true, List.length_nil, List.length_cons, or_true, true_or, or_false, false_or, Option.some.injEq, Sum.inl.injEq, Sum.inr.injEq, exists_eq_left', exists_eq_left, Int.reduceLE, Int.reduceLT, Int.reduceNeg, Int.reduceAdd, Int.reduceMul, Int.reduceSub, Int.reduceToNat, inR, Nat.zero_ne_one, false_and, Nat.succ_ne_zero, reduceCtorEq, false_implies, true_implies, not_false_eq_true, not_true_eq_false, Int.reduceEq, KRE, C_Model_numberNow, FM, hb, t11, esub, q, e12, q3, q4]
          repeat (first | refine ⟨by omega, ?_⟩ | refine ⟨fun _ _ => okt_nn (by omega), ?_⟩)
          try (first | (show _ ≤ _; omega) | (show _ < _; omega))
          refine (W 2 ⟨by omega, by omega⟩).eq ?_
          try simp (maxSteps := 2000000) only [↓reduceIte, wp_eq, wpd_eq, kont_eq, STP1, STP2, STP3, STP4, STP5, konM_eq, AMK, CZ, Option.map, List.getElem?_cons_zero, List.getElem?_cons_succ, List.mem_cons, List.not_mem_nil, if_false, if_true, Nat.reduceAdd, Nat.reduceLT, Nat.reduceLeDiff, Nat.reduceEqDiff, true_and, and_true, List.length_nil, List.length_cons, or_true, true_or, or_false, false_or, Option.some.injEq, Sum.inl.injEq, Sum.inr.injEq, exists_eq_left', exists_eq_left, Int.reduceLE, Int.reduceLT, Int.reduceNeg, Int.reduceAdd, Int.reduceMul, Int.reduceSub, Int.reduceToNat, inR, Nat.zero_ne_one, false_and, Nat.succ_ne_zero, reduceCtorEq, false_implies, true_implies, not_false_eq_true, not_true_eq_false, Int.reduceEq, KRE, C_Model_numberNow, FM, w15]
          repeat (first | refine ⟨by omega, ?_⟩ | refine ⟨fun _ _ => okt_nn (by omega), ?_⟩)
          try (first | (show _ ≤ _; omega) | (show _ < _; omega))
        · rw [if_neg (fun z => z.elim c2 (fun z => z.elim c3 c4))] at F3
          rw [F3, if_pos rfl, if_pos rfl]
          unfold nmN
          have q4 := eq_true (show nmV g a (tkD g E a) ≤ hi by omega)
          refine callP_of (by decide) (by decide) (Nat.le_of_ble_eq_true rfl) (wpm_of (cuts := []) (by decide) 60 _ _ _ _ ?_)
          rw [show lM m_Model_numberNow = 3 from rfl]
          simp (maxSteps := 2000000) only [↓reduceIte, wp_eq, wpd_eq, kont_eq, STP1, STP2, STP3, STP4, STP5, konM_eq, AMK, CZ, Option.map, List.getElem?_cons_zero, List.getElem?_cons_succ, List.mem_cons, List.not_mem_nil, if_false, if_true, Nat.reduceAdd, Nat.reduceLT, Nat.reduceLeDiff, Nat.reduceEqDiff, true_and, and_true, List.length_nil, List.length_cons, or_true, true_or, or_false, false_or, Option.some.injEq, Sum.inl.injEq, Sum.inr.injEq, exists_eq_left', exists_eq_left, Int.reduceLE, Int.reduceLT, Int.reduceNeg, Int.reduceAdd, Int.reduceMul, Int.reduceSub, Int.reduceToNat, inR, Nat.zero_ne_one, false_and, Nat.succ_ne_zero, reduceCtorEq, false_implies, true_implies, not_false_eq_true, not_true_eq_false, Int.reduceEq, KRE, C_Model_numberNow, FM, hb, t11, esub, q, e12, q3, q4]
          repeat (first | refine ⟨by omega, ?_⟩ | refine ⟨fun _ _ => okt_nn (by omega), ?_⟩)
          try (first | (show _ ≤ _; omega) | (show _ < _; omega))
          try exact rfl
  · rw [show nmF g E a lo hi = 1 from if_pos c1, if_neg (by omega), if_neg (by omega)]
    have t11 := eq_false (show ¬ M 154 11 = 2 by omega)
    refine callP_of (by decide) (by decide) (Nat.le_of_ble_eq_true rfl) (wpm_of (cuts := []) (by decide) 60 _ _ _ _ ?_)
    rw [show lM m_Model_numberNow = 3 from rfl]
    simp (maxSteps := 2000000) only [↓reduceIte, wp_eq, wpd_eq, kont_eq, STP1, STP2, STP3, STP4, STP5, konM_eq, AMK, CZ, Option.map, List.getElem?_cons_zero, List.getElem?_cons_succ, List.mem_cons, List.not_mem_nil, if_false, if_true, Nat.reduceAdd, Nat.reduceLT, Nat.reduceLeDiff, Nat.reduceEqDiff, true_and, and_true, List.length_nil, List.length_cons, or_true, true_or, or_false, false_or, Option.some.injEq, Sum.inl.injEq, Sum.inr.injEq, exists_eq_left', exists_eq_left, Int.reduceLE, Int.reduceLT, Int.reduceNeg, Int.reduceAdd, Int.reduceMul, Int.reduceSub, Int.reduceToNat, inR, Nat.zero_ne_one, false_and, Nat.succ_ne_zero, reduceCtorEq, false_implies, true_implies, not_false_eq_true, not_true_eq_false, Int.reduceEq, KRE, C_Model_numberNow, FM, hb, t11]
    repeat (first | refine ⟨by omega, ?_⟩ | refine ⟨fun _ _ => okt_nn (by omega), ?_⟩)
    try (first | (show _ ≤ _; omega) | (show _ < _; omega))
    refine (W 1 ⟨by omega, by omega⟩).eq ?_
    try simp (maxSteps := 2000000) only [↓reduceIte, wp_eq, wpd_eq, kont_eq, STP1, STP2, STP3, STP4, STP5, konM_eq, AMK, CZ, Option.map, List.getElem?_cons_zero, List.getElem?_cons_succ, List.mem_cons, List.not_mem_nil, if_false, if_true, Nat.reduceAdd, Nat.reduceLT, Nat.reduceLeDiff, Nat.reduceEqDiff, true_and, and_true, List.length_nil, List.length_cons, or_true, true_or, or_false, false_or, Option.some.injEq, Sum.inl.injEq, Sum.inr.injEq, exists_eq_left', exists_eq_left, Int.reduceLE, Int.reduceLT, Int.reduceNeg, Int.reduceAdd, Int.reduceMul, Int.reduceSub, Int.reduceToNat, inR, Nat.zero_ne_one, false_and, Nat.succ_ne_zero, reduceCtorEq, false_implies, true_implies, not_false_eq_true, not_true_eq_false, Int.reduceEq, KRE, C_Model_numberNow, FM, w15]
    repeat (first | refine ⟨by omega, ?_⟩ | refine ⟨fun _ _ => okt_nn (by omega), ?_⟩)
    try (first | (show _ ≤ _; omega) | (show _ < _; omega))
set_option maxHeartbeats 600000 in
set_option maxRecDepth 20000 in
theorem number_no {M : Mm} {lo hi : Int} (hb : M 154 15 ≠ 0) (hr : inR (M 154 15)) : CallI m_Model_numberNow [.inr 154, .inl lo, .inl hi] M (fun x M' => x = lo ∧ M' = M) := by
  obtain ⟨r1, r2⟩ := hr
  have e := eq_false hb
  refine callP_of (by decide) (by decide) (Nat.le_of_ble_eq_true rfl) (wpm_of (cuts := []) (by decide) 60 _ _ _ _ ?_)
  rw [show lM m_Model_numberNow = 3 from rfl]
  simp (maxSteps := 2000000) only [↓reduceIte, wp_eq, wpd_eq, kont_eq, STP1, STP2, STP3, STP4, STP5, konM_eq, AMK, CZ, Option.map, List.getElem?_cons_zero, List.getElem?_cons_succ, List.mem_cons, List.not_mem_nil, if_false, if_true, Nat.reduceAdd, Nat.reduceLT, Nat.reduceLeDiff, Nat.reduceEqDiff, true_and, and_true, List.length_nil, List.length_cons, or_true, true_or, or_false, false_or, Option.some.injEq, Sum.inl.injEq, Sum.inr.injEq, exists_eq_left', exists_eq_left, Int.reduceLE, Int.reduceLT, Int.reduceNeg, Int.reduceAdd, Int.reduceMul, Int.reduceSub, Int.reduceToNat, inR, Nat.zero_ne_one, false_and, Nat.succ_ne_zero, reduceCtorEq, false_implies, true_implies, not_false_eq_true, not_true_eq_false, Int.reduceEq, KRE, C_Model_numberNow, FM, e]
  repeat (first | refine ⟨by omega, ?_⟩ | refine ⟨fun _ _ => okt_nn (by omega), ?_⟩)
  try (first | (show _ ≤ _; omega) | (show _ < _; omega))
  try exact rfl
theorem nmF_in (g : Nat → Int) (E a : Nat) (lo hi : Int) : 0 ≤ nmF g E a lo hi ∧ nmF g E a lo hi ≤ 2 := by
  unfold nmF
  split
  · omega
  · split <;> omega
theorem mWr_15 (M : Mm) (c : Int) : mWr M c 154 15 = c := by simp [mWr, mset]
def rnQ (M : Mm) (g : Nat → Int) (E a : Nat) (lo hi x : Int) (M' : Mm) : Prop := (nmF g E a lo hi = 0 → x = nmN g E a ∧ FrP stP M M' ∧ tsM M' g E (nxT g E a)) ∧ (nmF g E a lo hi ≠ 0 → x = lo ∧ M' = mWr M (nmF g E a lo hi))
set_option maxHeartbeats 600000 in
set_option maxRecDepth 20000 in
theorem readNumber_ok {M : Mm} {g : Nat → Int} {E a : Nat} {lo hi : Int} (h : tsM M g E a) (hp : oct g E) (hb : M 154 15 = 0) (hE : E ≤ 900) (ha : a ≤ 900) (hlo : inR lo) (hhi : inR hi) : CallI m_Model_readNumber [.inr 154, .inl lo, .inl hi] M (fun x M' => rnQ M g E a lo hi x M') := by
  have N := number_ok h hb hE ha hlo hhi
  have i2 := nmF_in g E a lo hi
  by_cases c : nmF g E a lo hi = 0
  · rw [if_pos c, if_pos c] at N
    have S : CallV m_Model_stepOn [.inr 154] M (fun M' => rnQ M g E a lo hi (nmN g E a) M') := (step_ok h hp hE ha).mono (fun M' z => ⟨fun _ => ⟨rfl, z⟩, fun w => absurd c w⟩)
    refine callP_of (by decide) (by decide) (Nat.le_of_ble_eq_true rfl) (wpm_of (cuts := []) (by decide) 60 _ _ _ _ ?_)
    rw [show lM m_Model_readNumber = 4 from rfl]
    simp (maxSteps := 2000000) only [↓reduceIte, wp_eq, wpd_eq, kont_eq, STP1, STP2, STP3, STP4, STP5, konM_eq, AMK, CZ, Option.map, List.getElem?_cons_zero, List.getElem?_cons_succ, List.mem_cons, List.not_mem_nil, if_false, if_true, Nat.reduceAdd, Nat.reduceLT, Nat.reduceLeDiff, Nat.reduceEqDiff, true_and, and_true, List.length_nil, List.length_cons, or_true, true_or, or_false, false_or, Option.some.injEq, Sum.inl.injEq, Sum.inr.injEq, exists_eq_left', exists_eq_left, Int.reduceLE, Int.reduceLT, Int.reduceNeg, Int.reduceAdd, Int.reduceMul, Int.reduceSub, Int.reduceToNat, inR, Nat.zero_ne_one, false_and, Nat.succ_ne_zero, reduceCtorEq, false_implies, true_implies, not_false_eq_true, not_true_eq_false, Int.reduceEq, KRE, C_Model_readNumber, FM]
    repeat (first | refine ⟨by omega, ?_⟩ | refine ⟨fun _ _ => okt_nn (by omega), ?_⟩)
    try (first | (show _ ≤ _; omega) | (show _ < _; omega))
    refine N.eq ?_
    try simp (maxSteps := 2000000) only [↓reduceIte, wp_eq, wpd_eq, kont_eq, STP1, STP2, STP3, STP4, STP5, konM_eq, AMK, CZ, Option.map, List.getElem?_cons_zero, List.getElem?_cons_succ, List.mem_cons, List.not_mem_nil, if_false, if_true, Nat.reduceAdd, Nat.reduceLT, Nat.reduceLeDiff, Nat.reduceEqDiff, true_and, and_true, List.length_nil, List.length_cons, or_true, true_or, or_false, false_or, Option.some.injEq, Sum.inl.injEq, Sum.inr.injEq, exists_eq_left', exists_eq_left, Int.reduceLE, Int.reduceLT, Int.reduceNeg, Int.reduceAdd, Int.reduceMul, Int.reduceSub, Int.reduceToNat, inR, Nat.zero_ne_one, false_and, Nat.succ_ne_zero, reduceCtorEq, false_implies, true_implies, not_false_eq_true, not_true_eq_false, Int.reduceEq, KRE, C_Model_readNumber, FM, hb]
    refine S.mono (fun M' r => ?_)
    try simp (maxSteps := 2000000) only [↓reduceIte, wp_eq, wpd_eq, kont_eq, STP1, STP2, STP3, STP4, STP5, konM_eq, AMK, CZ, Option.map, List.getElem?_cons_zero, List.getElem?_cons_succ, List.mem_cons, List.not_mem_nil, if_false, if_true, Nat.reduceAdd, Nat.reduceLT, Nat.reduceLeDiff, Nat.reduceEqDiff, true_and, and_true, List.length_nil, List.length_cons, or_true, true_or, or_false, false_or, Option.some.injEq, Sum.inl.injEq, Sum.inr.injEq, exists_eq_left', exists_eq_left, Int.reduceLE, Int.reduceLT, Int.reduceNeg, Int.reduceAdd, Int.reduceMul, Int.reduceSub, Int.reduceToNat, inR, Nat.zero_ne_one, false_and, Nat.succ_ne_zero, reduceCtorEq, false_implies, true_implies, not_false_eq_true, not_true_eq_false, Int.reduceEq, KRE, C_Model_readNumber, FM]
    all_goals first | exact r | exact ⟨rfl, r⟩ | exact ⟨_, rfl, r⟩
  · rw [if_neg c, if_neg c] at N
    have e15 := mWr_15 M (nmF g E a lo hi)
    have q := eq_false c
    have r : rnQ M g E a lo hi lo (mWr M (nmF g E a lo hi)) := ⟨fun w => absurd w c, fun _ => ⟨rfl, rfl⟩⟩
    generalize hX : rnQ M g E a lo hi = X at *
    refine callP_of (by decide) (by decide) (Nat.le_of_ble_eq_true rfl) (wpm_of (cuts := []) (by decide) 60 _ _ _ _ ?_)
    rw [show lM m_Model_readNumber = 4 from rfl]
    simp (maxSteps := 2000000) only [↓reduceIte, wp_eq, wpd_eq, kont_eq, STP1, STP2, STP3, STP4, STP5, konM_eq, AMK, CZ, Option.map, List.getElem?_cons_zero, List.getElem?_cons_succ, List.mem_cons, List.not_mem_nil, if_false, if_true, Nat.reduceAdd, Nat.reduceLT, Nat.reduceLeDiff, Nat.reduceEqDiff, true_and, and_true, List.length_nil, List.length_cons, or_true, true_or, or_false, false_or, Option.some.injEq, Sum.inl.injEq, Sum.inr.injEq, exists_eq_left', exists_eq_left, Int.reduceLE, Int.reduceLT, Int.reduceNeg, Int.reduceAdd, Int.reduceMul, Int.reduceSub, Int.reduceToNat, inR, Nat.zero_ne_one, false_and, Nat.succ_ne_zero, reduceCtorEq, false_implies, true_implies, not_false_eq_true, not_true_eq_false, Int.reduceEq, KRE, C_Model_readNumber, FM]
    repeat (first | refine ⟨by omega, ?_⟩ | refine ⟨fun _ _ => okt_nn (by omega), ?_⟩)
    try (first | (show _ ≤ _; omega) | (show _ < _; omega))
    refine N.eq ?_
    try simp (maxSteps := 2000000) only [↓reduceIte, wp_eq, wpd_eq, kont_eq, STP1, STP2, STP3, STP4, STP5, konM_eq, AMK, CZ, Option.map, List.getElem?_cons_zero, List.getElem?_cons_succ, List.mem_cons, List.not_mem_nil, if_false, if_true, Nat.reduceAdd, Nat.reduceLT, Nat.reduceLeDiff, Nat.reduceEqDiff, true_and, and_true, List.length_nil, List.length_cons, or_true, true_or, or_false, false_or, Option.some.injEq, Sum.inl.injEq, Sum.inr.injEq, exists_eq_left', exists_eq_left, Int.reduceLE, Int.reduceLT, Int.reduceNeg, Int.reduceAdd, Int.reduceMul, Int.reduceSub, Int.reduceToNat, inR, Nat.zero_ne_one, false_and, Nat.succ_ne_zero, reduceCtorEq, false_implies, true_implies, not_false_eq_true, not_true_eq_false, Int.reduceEq, KRE, C_Model_readNumber, FM, e15, q]
    repeat (first | refine ⟨by omega, ?_⟩ | refine ⟨fun _ _ => okt_nn (by omega), ?_⟩)
    try (first | (show _ ≤ _; omega) | (show _ < _; omega))
    all_goals first | exact r | exact ⟨rfl, r⟩ | exact ⟨_, rfl, r⟩ | exact ⟨by omega, r⟩
set_option maxHeartbeats 600000 in
set_option maxRecDepth 20000 in
theorem readNumber_no {M : Mm} {lo hi : Int} (hb : M 154 15 ≠ 0) (hr : inR (M 154 15)) : CallI m_Model_readNumber [.inr 154, .inl lo, .inl hi] M (fun x M' => x = lo ∧ M' = M) := by
  have N := number_no (M := M) (lo := lo) (hi := hi) hb hr
  obtain ⟨r1, r2⟩ := hr
  have e := eq_false hb
  refine callP_of (by decide) (by decide) (Nat.le_of_ble_eq_true rfl) (wpm_of (cuts := []) (by decide) 60 _ _ _ _ ?_)
  rw [show lM m_Model_readNumber = 4 from rfl]
  simp (maxSteps := 2000000) only [↓reduceIte, wp_eq, wpd_eq, kont_eq, STP1, STP2, STP3, STP4, STP5, konM_eq, AMK, CZ, Option.map, List.getElem?_cons_zero, List.getElem?_cons_succ, List.mem_cons, List.not_mem_nil, if_false, if_true, Nat.reduceAdd, Nat.reduceLT, Nat.reduceLeDiff, Nat.reduceEqDiff, true_and, and_true, List.length_nil, List.length_cons, or_true, true_or, or_false, false_or, Option.some.injEq, Sum.inl.injEq, Sum.inr.injEq, exists_eq_left', exists_eq_left, Int.reduceLE, Int.reduceLT, Int.reduceNeg, Int.reduceAdd, Int.reduceMul, Int.reduceSub, Int.reduceToNat, inR, Nat.zero_ne_one, false_and, Nat.succ_ne_zero, reduceCtorEq, false_implies, true_implies, not_false_eq_true, not_true_eq_false, Int.reduceEq, KRE, C_Model_readNumber, FM]
  repeat (first | refine ⟨by omega, ?_⟩ | refine ⟨fun _ _ => okt_nn (by omega), ?_⟩)
  try (first | (show _ ≤ _; omega) | (show _ < _; omega))
  refine N.eq ?_
  try simp (maxSteps := 2000000) only [↓reduceIte, wp_eq, wpd_eq, kont_eq, STP1, STP2, STP3, STP4, STP5, konM_eq, AMK, CZ, Option.map, List.getElem?_cons_zero, List.getElem?_cons_succ, List.mem_cons, List.not_mem_nil, if_false, if_true, Nat.reduceAdd, Nat.reduceLT, Nat.reduceLeDiff, Nat.reduceEqDiff, true_and, and_true, List.length_nil, List.length_cons, or_true, true_or, or_false, false_or, Option.some.injEq, Sum.inl.injEq, Sum.inr.injEq, exists_eq_left', exists_eq_left, Int.reduceLE, Int.reduceLT, Int.reduceNeg, Int.reduceAdd, Int.reduceMul, Int.reduceSub, Int.reduceToNat, inR, Nat.zero_ne_one, false_and, Nat.succ_ne_zero, reduceCtorEq, false_implies, true_implies, not_false_eq_true, not_true_eq_false, Int.reduceEq, KRE, C_Model_readNumber, FM, e]
  repeat (first | refine ⟨by omega, ?_⟩ | refine ⟨fun _ _ => okt_nn (by omega), ?_⟩)
  try (first | (show _ ≤ _; omega) | (show _ < _; omega))
  try exact rfl
set_option maxHeartbeats 600000 in
set_option maxRecDepth 20000 in
theorem marked_ok {M : Mm} {g : Nat → Int} {E a : Nat} {c : Int} (h : tsM M g E a) (hp : oct g E) (hb : M 154 15 = 0) (hE : E ≤ 900) (hc : inR c) : CallI m_Model_isMarked [.inr 154, .inl c] M (fun x M' => x = (if tmK g E a = 3 ∧ g a = c then 1 else 0) ∧ M' = M) := by
  obtain ⟨h1, h2, h3, h4, h5, h6, h7⟩ := h
  obtain ⟨l1, l2⟩ := hc
  have k4 := tmK_in g E a
  by_cases c1 : tmK g E a = 3
  · have hE2 : a < E := by
      unfold tmK at c1
      by_cases z : E ≤ a
      · rw [if_pos z] at c1; omega
      · omega
    have b := hp a hE2
    have t11 := eq_true (show M 154 11 = 3 by omega)
    have e161 : M 161 a = g a := by rw [h1]
    by_cases c2 : g a = c
    · rw [if_pos ⟨c1, c2⟩]
      have q := eq_true c2
      refine callP_of (by decide) (by decide) (Nat.le_of_ble_eq_true rfl) (wpm_of (cuts := []) (by decide) 60 _ _ _ _ ?_)
      rw [show lM m_Model_isMarked = 2 from rfl]
      simp (maxSteps := 2000000) only [↓reduceIte, wp_eq, wpd_eq, kont_eq, STP1, STP2, STP3, STP4, STP5, konM_eq, AMK, CZ, Option.map, List.getElem?_cons_zero, List.getElem?_cons_succ, List.mem_cons, List.not_mem_nil, if_false, if_true, Nat.reduceAdd, Nat.reduceLT, Nat.reduceLeDiff, Nat.reduceEqDiff, true_and, and_true, List.length_nil, List.length_cons, or_true, true_or, or_false, false_or, Option.some.injEq, Sum.inl.injEq, Sum.inr.injEq, exists_eq_left', exists_eq_left, Int.reduceLE, Int.reduceLT, Int.reduceNeg, Int.reduceAdd, Int.reduceMul, Int.reduceSub, Int.reduceToNat, inR, Nat.zero_ne_one, false_and, Nat.succ_ne_zero, reduceCtorEq, false_implies, true_implies, not_false_eq_true, not_true_eq_false, Int.reduceEq, KRE, C_Model_isMarked, FM, hb, t11, h3, natT, e161, q]
      repeat (first | refine ⟨by omega, ?_⟩ | refine ⟨fun _ _ => okt_nn (by omega), ?_⟩)
      try (first | (show _ ≤ _; omega) | (show _ < _; omega))
    · rw [if_neg (fun z => c2 z.2)]
      have q := eq_false c2
      refine callP_of (by decide) (by decide) (Nat.le_of_ble_eq_true rfl) (wpm_of (cuts := []) (by decide) 60 _ _ _ _ ?_)
      rw [show lM m_Model_isMarked = 2 from rfl]
      simp (maxSteps := 2000000) only [↓reduceIte, wp_eq, wpd_eq, kont_eq, STP1, STP2, STP3, STP4, STP5, konM_eq, AMK, CZ, Option.map, List.getElem?_cons_zero, List.getElem?_cons_succ, List.mem_cons, List.not_mem_nil, if_false, if_true, Nat.reduceAdd, Nat.reduceLT, Nat.reduceLeDiff, Nat.reduceEqDiff, true_and, and_true, List.length_nil, List.length_cons, or_true, true_or, or_false, false_or, Option.some.injEq, Sum.inl.injEq, Sum.inr.injEq, exists_eq_left', exists_eq_left, Int.reduceLE, Int.reduceLT, Int.reduceNeg, Int.reduceAdd, Int.reduceMul, Int.reduceSub, Int.reduceToNat, inR, Nat.zero_ne_one, false_and, Nat.succ_ne_zero, reduceCtorEq, false_implies, true_implies, not_false_eq_true, not_true_eq_false, Int.reduceEq, KRE, C_Model_isMarked, FM, hb, t11, h3, natT, e161, q]
      repeat (first | refine ⟨by omega, ?_⟩ | refine ⟨fun _ _ => okt_nn (by omega), ?_⟩)
      try (first | (show _ ≤ _; omega) | (show _ < _; omega))
  · rw [if_neg (fun z => c1 z.1)]
    have t11 := eq_false (show ¬ M 154 11 = 3 by omega)
    refine callP_of (by decide) (by decide) (Nat.le_of_ble_eq_true rfl) (wpm_of (cuts := []) (by decide) 60 _ _ _ _ ?_)
    rw [show lM m_Model_isMarked = 2 from rfl]
    simp (maxSteps := 2000000) only [↓reduceIte, wp_eq, wpd_eq, kont_eq, STP1, STP2, STP3, STP4, STP5, konM_eq, AMK, CZ, Option.map, List.getElem?_cons_zero, List.getElem?_cons_succ, List.mem_cons, List.not_mem_nil, if_false, if_true, Nat.reduceAdd, Nat.reduceLT, Nat.reduceLeDiff, Nat.reduceEqDiff, true_and, and_true, List.length_nil, List.length_cons, or_true, true_or, or_false, false_or, Option.some.injEq, Sum.inl.injEq, Sum.inr.injEq, exists_eq_left', exists_eq_left, Int.reduceLE, Int.reduceLT, Int.reduceNeg, Int.reduceAdd, Int.reduceMul, Int.reduceSub, Int.reduceToNat, inR, Nat.zero_ne_one, false_and, Nat.succ_ne_zero, reduceCtorEq, false_implies, true_implies, not_false_eq_true, not_true_eq_false, Int.reduceEq, KRE, C_Model_isMarked, FM, hb, t11]
    repeat (first | refine ⟨by omega, ?_⟩ | refine ⟨fun _ _ => okt_nn (by omega), ?_⟩)
    try (first | (show _ ≤ _; omega) | (show _ < _; omega))
def tnF (g : Nat → Int) (E a : Nat) (n set : Int) : Int := if nmF g E a 0 7 ≠ 0 then nmF g E a 0 7 else if n ≤ nmN g E a then 3 else if bAnd (bShr set (nmN g E a)) 1 = 1 then 4 else 0
