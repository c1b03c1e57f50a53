/-! THE REFERENCE READS, 1: one token. -/
set_option maxHeartbeats 600000 in
set_option maxRecDepth 20000 in
theorem Model_isLetter_ok {c : Int} {M : Mm} (hc : inR c) : CallI m_Model_isLetter [.inl c] M (fun x M' => x = (if isLet c then 1 else 0) ∧ M' = M) := by
  simp only [inR] at hc
  by_cases h1 : c < 97
  · rw [show (if isLet c then 1 else 0 : Int) = 0 from if_neg (by omega)]
    refine callP_of (by decide) (by decide) (Nat.le_of_ble_eq_true rfl) (wpm_of (cuts := []) (by decide) 30 _ _ _ _ ?_)
    rw [show lM m_Model_isLetter = 1 from rfl]
    simp (maxSteps := 2000000) only [↓reduceIte, wp_eq, wpd_eq, kont_eq, STP1, STP2, STP3, STP4, STP5, konM_eq, AMK, CZ, Option.map, List.getElem?_cons_zero, List.getElem?_cons_succ, List.mem_cons, List.not_mem_nil, if_false, if_true, Nat.reduceAdd, Nat.reduceLT, Nat.reduceLeDiff, Nat.reduceEqDiff, true_and, and_true, List.length_nil, List.length_cons, or_true, true_or, or_false, false_or, Option.some.injEq, Sum.inl.injEq, Sum.inr.injEq, exists_eq_left', exists_eq_left, Int.reduceLE, Int.reduceLT, Int.reduceNeg, Int.reduceAdd, Int.reduceMul, Int.reduceSub, Int.reduceToNat, inR, Nat.zero_ne_one, false_and, Nat.succ_ne_zero, reduceCtorEq, false_implies, true_implies, not_false_eq_true, not_true_eq_false, Int.reduceEq, KRE, C_Model_isLetter, FM, h1]
    repeat (first | refine ⟨by omega, ?_⟩ | refine ⟨fun _ _ => okt_nn (by omega), ?_⟩)
    try (first | (show _ ≤ _; omega) | (show _ < _; omega))
  · by_cases h2 : 122 < c
    · rw [show (if isLet c then 1 else 0 : Int) = 0 from if_neg (by omega)]
      refine callP_of (by decide) (by decide) (Nat.le_of_ble_eq_true rfl) (wpm_of (cuts := []) (by decide) 30 _ _ _ _ ?_)
      rw [show lM m_Model_isLetter = 1 from rfl]
      simp (maxSteps := 2000000) only [↓reduceIte, wp_eq, wpd_eq, kont_eq, STP1, STP2, STP3, STP4, STP5, konM_eq, AMK, CZ, Option.map, List.getElem?_cons_zero, List.getElem?_cons_succ, List.mem_cons, List.not_mem_nil, if_false, if_true, Nat.reduceAdd, Nat.reduceLT, Nat.reduceLeDiff, Nat.reduceEqDiff, true_and, and_true, List.length_nil, List.length_cons, or_true, true_or, or_false, false_or, Option.some.injEq, Sum.inl.injEq, Sum.inr.injEq, exists_eq_left', exists_eq_left, Int.reduceLE, Int.reduceLT, Int.reduceNeg, Int.reduceAdd, Int.reduceMul, Int.reduceSub, Int.reduceToNat, inR, Nat.zero_ne_one, false_and, Nat.succ_ne_zero, reduceCtorEq, false_implies, true_implies, not_false_eq_true, not_true_eq_false, Int.reduceEq, KRE, C_Model_isLetter, FM, h1, h2]
      repeat (first | refine ⟨by omega, ?_⟩ | refine ⟨fun _ _ => okt_nn (by omega), ?_⟩)
      try (first | (show _ ≤ _; omega) | (show _ < _; omega))
    · rw [show (if isLet c then 1 else 0 : Int) = 1 from if_pos (by omega)]
      refine callP_of (by decide) (by decide) (Nat.le_of_ble_eq_true rfl) (wpm_of (cuts := []) (by decide) 30 _ _ _ _ ?_)
      rw [show lM m_Model_isLetter = 1 from rfl]
      simp (maxSteps := 2000000) only [↓reduceIte, wp_eq, wpd_eq, kont_eq, STP1, STP2, STP3, STP4, STP5, konM_eq, AMK, CZ, Option.map, List.getElem?_cons_zero, List.getElem?_cons_succ, List.mem_cons, List.not_mem_nil, if_false, if_true, Nat.reduceAdd, Nat.reduceLT, Nat.reduceLeDiff, Nat.reduceEqDiff, true_and, and_true, List.length_nil, List.length_cons, or_true, true_or, or_false, false_or, Option.some.injEq, Sum.inl.injEq, Sum.inr.injEq, exists_eq_left', exists_eq_left, Int.reduceLE, Int.reduceLT, Int.reduceNeg, Int.reduceAdd, Int.reduceMul, Int.reduceSub, Int.reduceToNat, inR, Nat.zero_ne_one, false_and, Nat.succ_ne_zero, reduceCtorEq, false_implies, true_implies, not_false_eq_true, not_true_eq_false, Int.reduceEq, KRE, C_Model_isLetter, FM, h1, h2]
      repeat (first | refine ⟨by omega, ?_⟩ | refine ⟨fun _ _ => okt_nn (by omega), ?_⟩)
      try (first | (show _ ≤ _; omega) | (show _ < _; omega))
set_option maxHeartbeats 600000 in
set_option maxRecDepth 20000 in
theorem Model_isDigit_ok {c : Int} {M : Mm} (hc : inR c) : CallI m_Model_isDigit [.inl c] M (fun x M' => x = (if isDig c then 1 else 0) ∧ M' = M) := by
  simp only [inR] at hc
  by_cases h1 : c < 48
  · rw [show (if isDig c then 1 else 0 : Int) = 0 from if_neg (by omega)]
    refine callP_of (by decide) (by decide) (Nat.le_of_ble_eq_true rfl) (wpm_of (cuts := []) (by decide) 30 _ _ _ _ ?_)
    rw [show lM m_Model_isDigit = 1 from rfl]
    simp (maxSteps := 2000000) only [↓reduceIte, wp_eq, wpd_eq, kont_eq, STP1, STP2, STP3, STP4, STP5, konM_eq, AMK, CZ, Option.map, List.getElem?_cons_zero, List.getElem?_cons_succ, List.mem_cons, List.not_mem_nil, if_false, if_true, Nat.reduceAdd, Nat.reduceLT, Nat.reduceLeDiff, Nat.reduceEqDiff, true_and, and_true, List.length_nil, List.length_cons, or_true, true_or, or_false, false_or, Option.some.injEq, Sum.inl.injEq, Sum.inr.injEq, exists_eq_left', exists_eq_left, Int.reduceLE, Int.reduceLT, Int.reduceNeg, Int.reduceAdd, Int.reduceMul, Int.reduceSub, Int.reduceToNat, inR, Nat.zero_ne_one, false_and, Nat.succ_ne_zero, reduceCtorEq, false_implies, true_implies, not_false_eq_true, not_true_eq_false, Int.reduceEq, KRE, C_Model_isDigit, FM, h1]
    repeat (first | refine ⟨by omega, ?_⟩ | refine ⟨fun _ _ => okt_nn (by omega), ?_⟩)
    try (first | (show _ ≤ _; omega) | (show _ < _; omega))
  · by_cases h2 : 57 < c
    · rw [show (if isDig c then 1 else 0 : Int) = 0 from if_neg (by omega)]
      refine callP_of (by decide) (by decide) (Nat.le_of_ble_eq_true rfl) (wpm_of (cuts := []) (by decide) 30 _ _ _ _ ?_)
      rw [show lM m_Model_isDigit = 1 from rfl]
      simp (maxSteps := 2000000) only [↓reduceIte, wp_eq, wpd_eq, kont_eq, STP1, STP2, STP3, STP4, STP5, konM_eq, AMK, CZ, Option.map, List.getElem?_cons_zero, List.getElem?_cons_succ, List.mem_cons, List.not_mem_nil, if_false, if_true, Nat.reduceAdd, Nat.reduceLT, Nat.reduceLeDiff, Nat.reduceEqDiff, true_and, and_true, List.length_nil, List.length_cons, or_true, true_or, or_false, false_or, Option.some.injEq, Sum.inl.injEq, Sum.inr.injEq, exists_eq_left', exists_eq_left, Int.reduceLE, Int.reduceLT, Int.reduceNeg, Int.reduceAdd, Int.reduceMul, Int.reduceSub, Int.reduceToNat, inR, Nat.zero_ne_one, false_and, Nat.succ_ne_zero, reduceCtorEq, false_implies, true_implies, not_false_eq_true, not_true_eq_false, Int.reduceEq, KRE, C_Model_isDigit, FM, h1, h2]
      repeat (first | refine ⟨by omega, ?_⟩ | refine ⟨fun _ _ => okt_nn (by omega), ?_⟩)
      try (first | (show _ ≤ _; omega) | (show _ < _; omega))
    · rw [show (if isDig c then 1 else 0 : Int) = 1 from if_pos (by omega)]
      refine callP_of (by decide) (by decide) (Nat.le_of_ble_eq_true rfl) (wpm_of (cuts := []) (by decide) 30 _ _ _ _ ?_)
      rw [show lM m_Model_isDigit = 1 from rfl]
      simp (maxSteps := 2000000) only [↓reduceIte, wp_eq, wpd_eq, kont_eq, STP1, STP2, STP3, STP4, STP5, konM_eq, AMK, CZ, Option.map, List.getElem?_cons_zero, List.getElem?_cons_succ, List.mem_cons, List.not_mem_nil, if_false, if_true, Nat.reduceAdd, Nat.reduceLT, Nat.reduceLeDiff, Nat.reduceEqDiff, true_and, and_true, List.length_nil, List.length_cons, or_true, true_or, or_false, false_or, Option.some.injEq, Sum.inl.injEq, Sum.inr.injEq, exists_eq_left', exists_eq_left, Int.reduceLE, Int.reduceLT, Int.reduceNeg, Int.reduceAdd, Int.reduceMul, Int.reduceSub, Int.reduceToNat, inR, Nat.zero_ne_one, false_and, Nat.succ_ne_zero, reduceCtorEq, false_implies, true_implies, not_false_eq_true, not_true_eq_false, Int.reduceEq, KRE, C_Model_isDigit, FM, h1, h2]
      repeat (first | refine ⟨by omega, ?_⟩ | refine ⟨fun _ _ => okt_nn (by omega), ?_⟩)
      try (first | (show _ ≤ _; omega) | (show _ < _; omega))
/-- the byte at k, below E; -1 outside -/
def bAt (g : Nat → Int) (E k : Nat) : Int := if k < E then g k else -1
def oct (g : Nat → Int) (E : Nat) : Prop := ∀ j, j < E → 0 ≤ g j ∧ g j ≤ 255
theorem bAt_in {g : Nat → Int} {E : Nat} (h : oct g E) (k : Nat) : inR (bAt g E k) ∧ -1 ≤ bAt g E k ∧ bAt g E k ≤ 255 := by
  unfold bAt
  by_cases c : k < E
  · have := h k c
    rw [if_pos c]
    exact ⟨⟨by omega, by omega⟩, by omega, by omega⟩
  · rw [if_neg c]
    exact ⟨⟨by omega, by omega⟩, by omega, by omega⟩
set_option maxHeartbeats 600000 in
set_option maxRecDepth 20000 in
theorem Model_byteAt_ok {k E : Nat} {M : Mm} (hE : M 154 10 = E) (hE9 : E ≤ 900) (hk : k ≤ 900) : CallI m_Model_byteAt [.inr 154, .inl (k : Int)] M (fun x M' => x = bAt (M 161) E k ∧ M' = M) := by
  unfold bAt
  by_cases c : k < E
  · have c' := eq_false (show ¬ (E : Int) ≤ k by omega)
    rw [if_pos c]
    refine callP_of (by decide) (by decide) (Nat.le_of_ble_eq_true rfl) (wpm_of (cuts := []) (by decide) 30 _ _ _ _ ?_)
    rw [show lM m_Model_byteAt = 2 from rfl]
    simp (maxSteps := 2000000) only [↓reduceIte, wp_eq, wpd_eq, kont_eq, STP1, STP2, STP3, STP4, STP5, konM_eq, AMK, CZ, Option.map, List.getElem?_cons_zero, List.getElem?_cons_succ, List.mem_cons, List.not_mem_nil, if_false, if_true, Nat.reduceAdd, Nat.reduceLT, Nat.reduceLeDiff, Nat.reduceEqDiff, true_and, and_true, List.length_nil, List.length_cons, or_true, true_or, or_false, false_or, Option.some.injEq, Sum.inl.injEq, Sum.inr.injEq, exists_eq_left', exists_eq_left, Int.reduceLE, Int.reduceLT, Int.reduceNeg, Int.reduceAdd, Int.reduceMul, Int.reduceSub, Int.reduceToNat, inR, Nat.zero_ne_one, false_and, Nat.succ_ne_zero, reduceCtorEq, false_implies, true_implies, not_false_eq_true, not_true_eq_false, Int.reduceEq, KRE, C_Model_byteAt, FM, hE, c', natT]
    repeat (first | refine ⟨by omega, ?_⟩ | refine ⟨fun _ _ => okt_nn (by omega), ?_⟩)
    try (first | (show _ ≤ _; omega) | (show _ < _; omega))
  · have c' := eq_true (show (E : Int) ≤ k by omega)
    rw [if_neg c]
    refine callP_of (by decide) (by decide) (Nat.le_of_ble_eq_true rfl) (wpm_of (cuts := []) (by decide) 30 _ _ _ _ ?_)
    rw [show lM m_Model_byteAt = 2 from rfl]
    simp (maxSteps := 2000000) only [↓reduceIte, wp_eq, wpd_eq, kont_eq, STP1, STP2, STP3, STP4, STP5, konM_eq, AMK, CZ, Option.map, List.getElem?_cons_zero, List.getElem?_cons_succ, List.mem_cons, List.not_mem_nil, if_false, if_true, Nat.reduceAdd, Nat.reduceLT, Nat.reduceLeDiff, Nat.reduceEqDiff, true_and, and_true, List.length_nil, List.length_cons, or_true, true_or, or_false, false_or, Option.some.injEq, Sum.inl.injEq, Sum.inr.injEq, exists_eq_left', exists_eq_left, Int.reduceLE, Int.reduceLT, Int.reduceNeg, Int.reduceAdd, Int.reduceMul, Int.reduceSub, Int.reduceToNat, inR, Nat.zero_ne_one, false_and, Nat.succ_ne_zero, reduceCtorEq, false_implies, true_implies, not_false_eq_true, not_true_eq_false, Int.reduceEq, KRE, C_Model_byteAt, FM, hE, c']
    repeat (first | refine ⟨by omega, ?_⟩ | refine ⟨fun _ _ => okt_nn (by omega), ?_⟩)
    try (first | (show _ ≤ _; omega) | (show _ < _; omega))
def stP : Nat → Nat → Prop := fun b j => b = 154 ∧ (j = 9 ∨ 11 ≤ j ∧ j ≤ 14)
def tmS (g : Nat → Int) (E a : Nat) : Nat := if E ≤ a then a else if isLet (g a) then a + tkW g E a else if isDig (g a) then a + tkD g E a else a + 1
def tmK (g : Nat → Int) (E a : Nat) : Int := if E ≤ a then 0 else if isLet (g a) then 1 else if isDig (g a) then 2 else if g a = 59 ∨ g a = 63 then 3 else 4
/-- the reference with the token at a -/
def stpM (M : Mm) (g : Nat → Int) (E a : Nat) (M' : Mm) : Prop := FrP stP M M' ∧ M' 154 13 = a ∧ M' 154 14 = tmS g E a ∧ M' 154 9 = tmS g E a ∧ M' 154 11 = tmK g E a ∧ (tmK g E a = 2 → (tkD g E a ≤ 3 → M' 154 12 = nmV g a (tkD g E a)) ∧ inR (M' 154 12))
/-- the number as the reference caps it -/
def nmC (g : Nat → Int) (a : Nat) : Nat → Int
  | 0 => 0
  | k + 1 => min 100000 (10 * nmC g a k + g (a + k) - 48)
theorem nmC_in {g : Nat → Int} {a : Nat} : ∀ k, (∀ j, j < k → isDig (g (a + j))) → 0 ≤ nmC g a k ∧ nmC g a k ≤ 100000
  | 0, _ => ⟨by simp [nmC], by simp [nmC]⟩
  | k + 1, h => by
    have i := nmC_in k (fun j hj => h j (by omega))
    have d := h k (by omega)
    unfold nmC
    omega
theorem nmC_3 {g : Nat → Int} {a : Nat} : ∀ k, k ≤ 3 → (∀ j, j < k → isDig (g (a + j))) → nmC g a k = nmV g a k
  | 0, _, _ => rfl
  | k + 1, hk, h => by
    have e := nmC_3 k (by omega) (fun j hj => h j (by omega))
    have d := h k (by omega)
    have l := nmV_le k (fun j hj => h j (by omega) : ∀ j, j < k → isDig (g (a + j)))
    unfold nmC nmV
    rw [e, if_pos (by omega)]
    have p : (10 : Int) ^ (min k 3) ≤ 100 := by
      rcases (show k = 0 ∨ k = 1 ∨ k = 2 by omega) with rfl | rfl | rfl <;> decide
    omega
set_option maxHeartbeats 600000 in
set_option maxRecDepth 20000 in
theorem Model_stepOn_217 {M0 M : Mm} {g : Nat → Int} {E a : Nat} {x1 : Option AV} (f : FrP stP M0 M) (h9 : M 154 9 = tmS g E a) (h13 : M 154 13 = a) (h11 : M 154 11 = tmK g E a) (h12 : tmK g E a = 2 → (tkD g E a ≤ 3 → M 154 12 = nmV g a (tkD g E a)) ∧ inR (M 154 12)) : WPm m_Model_stepOn (fun v M' => v = none ∧ stpM M0 g E a M') 217 [some (.inr 154), x1] [] M := by
  have e1 : mset M 154 14 (tmS g E a : Int) 154 13 = a := by rw [← h13]; simp [mset]
  have e2 : mset M 154 14 (tmS g E a : Int) 154 14 = tmS g E a := by simp [mset]
  have e3 : mset M 154 14 (tmS g E a : Int) 154 9 = tmS g E a := by rw [← h9]; simp [mset]
  have e4 : mset M 154 14 (tmS g E a : Int) 154 11 = tmK g E a := by rw [← h11]; simp [mset]
  have e5 : mset M 154 14 (tmS g E a : Int) 154 12 = M 154 12 := by simp [mset]
  have r : stpM M0 g E a (mset M 154 14 (tmS g E a : Int)) := ⟨f.st ⟨rfl, by omega⟩, e1, e2, e3, e4, fun z => by rw [e5]; exact h12 z⟩
  refine wpm_of (cuts := []) (by decide) 60 _ _ _ _ ?_
  simp (maxSteps := 2000000) only [↓reduceIte, wp_eq, wpd_eq, kont_eq, STP1, STP2, STP3, STP4, STP5, konM_eq, AMK, CZ, Option.map, List.getElem?_cons_zero, List.getElem?_cons_succ, List.mem_cons, List.not_mem_nil, if_false, if_true, Nat.reduceAdd, Nat.reduceLT, Nat.reduceLeDiff, Nat.reduceEqDiff, true_and, and_true, List.length_nil, List.length_cons, or_true, true_or, or_false, false_or, Option.some.injEq, Sum.inl.injEq, Sum.inr.injEq, exists_eq_left', exists_eq_left, Int.reduceLE, Int.reduceLT, Int.reduceNeg, Int.reduceAdd, Int.reduceMul, Int.reduceSub, Int.reduceToNat, inR, Nat.zero_ne_one, false_and, Nat.succ_ne_zero, reduceCtorEq, false_implies, true_implies, not_false_eq_true, not_true_eq_false, Int.reduceEq, KRE, C_Model_stepOn, FM, h9]
  first | exact r | exact ⟨rfl, r⟩ | exact ⟨by simp, r⟩ | exact ⟨by omega, r⟩ | exact ⟨by simp, rfl, r⟩ | exact ⟨by omega, rfl, r⟩ | exact ⟨by simp, by simp, r⟩ | exact ⟨by omega, by simp, r⟩ | (simp; first | exact r | exact ⟨by omega, r⟩)
set_option maxHeartbeats 600000 in
set_option maxRecDepth 20000 in
theorem Model_stepOn_76 {M0 M : Mm} {E a : Nat} {x1 : Option AV} (f : FrP stP M0 M) (hE : M 154 10 = E) (hE9 : E ≤ 900) (ha : a < E) (hp : oct (M 161) E) (h9 : M 154 9 = a) (h13 : M 154 13 = a) (hl : isLet (M 161 a)) : WPm m_Model_stepOn (fun v M' => v = none ∧ stpM M0 (M 161) E a M') 76 [some (.inr 154), x1] [] M := by
  obtain ⟨l1, l2⟩ := runL_ok (p := fun j => decide (isLet (M 161 j))) (E := E) 901 a (by omega)
  simp only [decide_eq_true_eq] at l1 l2
  have eS : tmS (M 161) E a = a + tkW (M 161) E a := by unfold tmS; rw [if_neg (by omega), if_pos hl]
  have eK : tmK (M 161) E a = 1 := by unfold tmK; rw [if_neg (by omega), if_pos hl]
  rw [show runL (fun j => decide (isLet (M 161 j))) E 901 a = tkW (M 161) E a from rfl] at l1 l2
  refine loopQ (tkW (M 161) E a) (fun k ls M1 => M1 = mset M 154 9 ((a + k : Nat) : Int) ∧ ls = [some (.inr 154), x1]) ?_ _ _ ⟨?_, rfl⟩
  · rintro k _ _ hk ⟨rfl, rfl⟩ K
    have e9 : mset M 154 9 ((a + k : Nat) : Int) 154 9 = ((a + k : Nat) : Int) := by simp [mset]
    have e10 : mset M 154 9 ((a + k : Nat) : Int) 154 10 = E := by rw [← hE]; simp [mset]
    have e13 : mset M 154 9 ((a + k : Nat) : Int) 154 13 = a := by rw [← h13]; simp [mset]
    have e161 : mset M 154 9 ((a + k : Nat) : Int) 161 = M 161 := funext (fun j => by simp [mset])
    have f1 : FrP stP M0 (mset M 154 9 ((a + k : Nat) : Int)) := f.st ⟨rfl, by omega⟩
    have hk9 : a + k ≤ 900 := by
      by_cases z : k = 0
      · omega
      · have := l1 (k - 1) (by omega)
        omega
    have K' := fun z => K z _ (mset (mset M 154 9 ((a + k : Nat) : Int)) 154 9 ((a + (k + 1) : Nat) : Int)) ⟨by funext b j; simp only [mset]; grind, rfl⟩
    generalize mset M 154 9 ((a + k : Nat) : Int) = M1 at *
    have hb := (bAt_in hp (a + k)).1
    refine wpm_of (cuts := [76, 217]) (by decide) 60 _ _ _ _ ?_
    simp (maxSteps := 2000000) only [↓reduceIte, wp_eq, wpd_eq, kont_eq, STP1, STP2, STP3, STP4, STP5, konM_eq, AMK, CZ, Option.map, List.getElem?_cons_zero, List.getElem?_cons_succ, List.mem_cons, List.not_mem_nil, if_false, if_true, Nat.reduceAdd, Nat.reduceLT, Nat.reduceLeDiff, Nat.reduceEqDiff, true_and, and_true, List.length_nil, List.length_cons, or_true, true_or, or_false, false_or, Option.some.injEq, Sum.inl.injEq, Sum.inr.injEq, exists_eq_left', exists_eq_left, Int.reduceLE, Int.reduceLT, Int.reduceNeg, Int.reduceAdd, Int.reduceMul, Int.reduceSub, Int.reduceToNat, inR, Nat.zero_ne_one, false_and, Nat.succ_ne_zero, reduceCtorEq, false_implies, true_implies, not_false_eq_true, not_true_eq_false, Int.reduceEq, KRE, C_Model_stepOn, FM, e9]
    repeat (first | refine ⟨by omega, ?_⟩ | refine ⟨fun _ _ => okt_nn (by omega), ?_⟩)
    try (first | (show _ ≤ _; omega) | (show _ < _; omega))
    refine (Model_byteAt_ok (k := a + k) e10 hE9 hk9).eq ?_
    rw [e161]
    try simp (maxSteps := 2000000) only [↓reduceIte, wp_eq, wpd_eq, kont_eq, STP1, STP2, STP3, STP4, STP5, konM_eq, AMK, CZ, Option.map, List.getElem?_cons_zero, List.getElem?_cons_succ, List.mem_cons, List.not_mem_nil, if_false, if_true, Nat.reduceAdd, Nat.reduceLT, Nat.reduceLeDiff, Nat.reduceEqDiff, true_and, and_true, List.length_nil, List.length_cons, or_true, true_or, or_false, false_or, Option.some.injEq, Sum.inl.injEq, Sum.inr.injEq, exists_eq_left', exists_eq_left, Int.reduceLE, Int.reduceLT, Int.reduceNeg, Int.reduceAdd, Int.reduceMul, Int.reduceSub, Int.reduceToNat, inR, Nat.zero_ne_one, false_and, Nat.succ_ne_zero, reduceCtorEq, false_implies, true_implies, not_false_eq_true, not_true_eq_false, Int.reduceEq, KRE, C_Model_stepOn, FM, e9]
    refine (Model_isLetter_ok hb).eq ?_
    by_cases ck : k = tkW (M 161) E a
    · have nl : ¬ isLet (bAt (M 161) E (a + k)) := by
        unfold bAt
        by_cases c : a + k < E
        · rw [if_pos c]
          intro z
          exact l2 ⟨by rw [← ck]; exact c, by rw [← ck]; exact z⟩
        · rw [if_neg c]
          omega
      rw [if_neg nl]
      have R := Model_stepOn_217 (M0 := M0) (g := M 161) (E := E) (a := a) (x1 := x1) (M := mset M1 154 11 1) (f1.st ⟨rfl, by omega⟩) (by rw [eS]; simp [mset, e9, ck]) (by simp [mset, e13]) (by rw [eK]; simp [mset]) (fun z => by omega)
      try simp (maxSteps := 2000000) only [↓reduceIte, wp_eq, wpd_eq, kont_eq, STP1, STP2, STP3, STP4, STP5, konM_eq, AMK, CZ, Option.map, List.getElem?_cons_zero, List.getElem?_cons_succ, List.mem_cons, List.not_mem_nil, if_false, if_true, Nat.reduceAdd, Nat.reduceLT, Nat.reduceLeDiff, Nat.reduceEqDiff, true_and, and_true, List.length_nil, List.length_cons, or_true, true_or, or_false, false_or, Option.some.injEq, Sum.inl.injEq, Sum.inr.injEq, exists_eq_left', exists_eq_left, Int.reduceLE, Int.reduceLT, Int.reduceNeg, Int.reduceAdd, Int.reduceMul, Int.reduceSub, Int.reduceToNat, inR, Nat.zero_ne_one, false_and, Nat.succ_ne_zero, reduceCtorEq, false_implies, true_implies, not_false_eq_true, not_true_eq_false, Int.reduceEq, KRE, C_Model_stepOn, FM]
      repeat (first | refine ⟨by omega, ?_⟩ | refine ⟨fun _ _ => okt_nn (by omega), ?_⟩)
      try (first | (show _ ≤ _; omega) | (show _ < _; omega))
      exact R
    · have lt : k < tkW (M 161) E a := by omega
      have il : isLet (bAt (M 161) E (a + k)) := by
        unfold bAt
        rw [if_pos (l1 k lt).1]
        exact (l1 k lt).2
      rw [if_pos il]
      have K2 := K' lt
      rw [show ((a + (k + 1) : Nat) : Int) = ((a + k : Nat) : Int) + 1 by omega] at K2
      try simp (maxSteps := 2000000) only [↓reduceIte, wp_eq, wpd_eq, kont_eq, STP1, STP2, STP3, STP4, STP5, konM_eq, AMK, CZ, Option.map, List.getElem?_cons_zero, List.getElem?_cons_succ, List.mem_cons, List.not_mem_nil, if_false, if_true, Nat.reduceAdd, Nat.reduceLT, Nat.reduceLeDiff, Nat.reduceEqDiff, true_and, and_true, List.length_nil, List.length_cons, or_true, true_or, or_false, false_or, Option.some.injEq, Sum.inl.injEq, Sum.inr.injEq, exists_eq_left', exists_eq_left, Int.reduceLE, Int.reduceLT, Int.reduceNeg, Int.reduceAdd, Int.reduceMul, Int.reduceSub, Int.reduceToNat, inR, Nat.zero_ne_one, false_and, Nat.succ_ne_zero, reduceCtorEq, false_implies, true_implies, not_false_eq_true, not_true_eq_false, Int.reduceEq, KRE, C_Model_stepOn, FM, e9]
      repeat (first | refine ⟨by omega, ?_⟩ | refine ⟨fun _ _ => okt_nn (by omega), ?_⟩)
      try (first | (show _ ≤ _; omega) | (show _ < _; omega))
      exact K2
  · rw [Nat.add_zero, ← h9, mset_same]
set_option maxHeartbeats 600000 in
set_option maxRecDepth 20000 in
theorem Model_stepOn_123 {M0 M : Mm} {E a : Nat} {x1 : Option AV} (f : FrP stP M0 M) (hE : M 154 10 = E) (hE9 : E ≤ 900) (ha : a < E) (hp : oct (M 161) E) (h9 : M 154 9 = a) (h13 : M 154 13 = a) (h12 : M 154 12 = 0) (hl : isDig (M 161 a)) : WPm m_Model_stepOn (fun v M' => v = none ∧ stpM M0 (M 161) E a M') 123 [some (.inr 154), x1] [] M := by
  obtain ⟨l1, l2⟩ := runL_ok (p := fun j => decide (isDig (M 161 j))) (E := E) 901 a (by omega)
  simp only [decide_eq_true_eq] at l1 l2
  have eS : tmS (M 161) E a = a + tkD (M 161) E a := by unfold tmS; rw [if_neg (by omega), if_neg (by omega), if_pos hl]
  have eK : tmK (M 161) E a = 2 := by unfold tmK; rw [if_neg (by omega), if_neg (by omega), if_pos hl]
  rw [show runL (fun j => decide (isDig (M 161 j))) E 901 a = tkD (M 161) E a from rfl] at l1 l2
  refine loopQ (tkD (M 161) E a) (fun k ls M1 => M1 = mset (mset M 154 9 ((a + k : Nat) : Int)) 154 12 (nmC (M 161) a k) ∧ ls = [some (.inr 154), x1]) ?_ _ _ ⟨?_, rfl⟩
  · rintro k _ _ hk ⟨rfl, rfl⟩ K
    have e9 : mset (mset M 154 9 ((a + k : Nat) : Int)) 154 12 (nmC (M 161) a k) 154 9 = ((a + k : Nat) : Int) := by simp [mset]
    have e12 : mset (mset M 154 9 ((a + k : Nat) : Int)) 154 12 (nmC (M 161) a k) 154 12 = nmC (M 161) a k := by simp [mset]
    have e10 : mset (mset M 154 9 ((a + k : Nat) : Int)) 154 12 (nmC (M 161) a k) 154 10 = E := by rw [← hE]; simp [mset]
    have e13 : mset (mset M 154 9 ((a + k : Nat) : Int)) 154 12 (nmC (M 161) a k) 154 13 = a := by rw [← h13]; simp [mset]
    have e161 : mset (mset M 154 9 ((a + k : Nat) : Int)) 154 12 (nmC (M 161) a k) 161 = M 161 := funext (fun j => by simp [mset])
    have f1 : FrP stP M0 (mset (mset M 154 9 ((a + k : Nat) : Int)) 154 12 (nmC (M 161) a k)) := (f.st ⟨rfl, by omega⟩).st ⟨rfl, by omega⟩
    have hk9 : a + k ≤ 900 := by
      by_cases z : k = 0
      · omega
      · have := l1 (k - 1) (by omega)
        omega
    have nin := nmC_in (g := M 161) (a := a) k (fun j hj => (l1 j (by omega)).2)
    have K' := fun z => K z _ (mset (mset (mset (mset M 154 9 ((a + k : Nat) : Int)) 154 12 (nmC (M 161) a k)) 154 12 (nmC (M 161) a (k + 1))) 154 9 ((a + (k + 1) : Nat) : Int)) ⟨by funext b j; simp only [mset]; grind, rfl⟩
    generalize mset (mset M 154 9 ((a + k : Nat) : Int)) 154 12 (nmC (M 161) a k) = M1 at *
    have hb := (bAt_in hp (a + k)).1
    have B := Model_byteAt_ok (k := a + k) e10 hE9 hk9
    rw [e161] at B
    refine wpm_of (cuts := [123, 217]) (by decide) 60 _ _ _ _ ?_
    simp (maxSteps := 2000000) only [↓reduceIte, wp_eq, wpd_eq, kont_eq, STP1, STP2, STP3, STP4, STP5, konM_eq, AMK, CZ, Option.map, List.getElem?_cons_zero, List.getElem?_cons_succ, List.mem_cons, List.not_mem_nil, if_false, if_true, Nat.reduceAdd, Nat.reduceLT, Nat.reduceLeDiff, Nat.reduceEqDiff, true_and, and_true, List.length_nil, List.length_cons, or_true, true_or, or_false, false_or, Option.some.injEq, Sum.inl.injEq, Sum.inr.injEq, exists_eq_left', exists_eq_left, Int.reduceLE, Int.reduceLT, Int.reduceNeg, Int.reduceAdd, Int.reduceMul, Int.reduceSub, Int.reduceToNat, inR, Nat.zero_ne_one, false_and, Nat.succ_ne_zero, reduceCtorEq, false_implies, true_implies, not_false_eq_true, not_true_eq_false, Int.reduceEq, KRE, C_Model_stepOn, FM, e9]
    repeat (first | refine ⟨by omega, ?_⟩ | refine ⟨fun _ _ => okt_nn (by omega), ?_⟩)
    try (first | (show _ ≤ _; omega) | (show _ < _; omega))
    refine B.eq ?_
    try simp (maxSteps := 2000000) only [↓reduceIte, wp_eq, wpd_eq, kont_eq, STP1, STP2, STP3, STP4, STP5, konM_eq, AMK, CZ, Option.map, List.getElem?_cons_zero, List.getElem?_cons_succ, List.mem_cons, List.not_mem_nil, if_false, if_true, Nat.reduceAdd, Nat.reduceLT, Nat.reduceLeDiff, Nat.reduceEqDiff, true_and, and_true, List.length_nil, List.length_cons, or_true, true_or, or_false, false_or, Option.some.injEq, Sum.inl.injEq, Sum.inr.injEq, exists_eq_left', exists_eq_left, Int.reduceLE, Int.reduceLT, Int.reduceNeg, Int.reduceAdd, Int.reduceMul, Int.reduceSub, Int.reduceToNat, inR, Nat.zero_ne_one, false_and, Nat.succ_ne_zero, reduceCtorEq, false_implies, true_implies, not_false_eq_true, not_true_eq_false, Int.reduceEq, KRE, C_Model_stepOn, FM, e9]
    refine (Model_isDigit_ok hb).eq ?_
    by_cases ck : k = tkD (M 161) E a
    · have nl : ¬ isDig (bAt (M 161) E (a + k)) := by
        unfold bAt
        by_cases c : a + k < E
        · rw [if_pos c]
          intro z
          exact l2 ⟨by rw [← ck]; exact c, by rw [← ck]; exact z⟩
        · rw [if_neg c]
          omega
      rw [if_neg nl]
      have R := Model_stepOn_217 (M0 := M0) (g := M 161) (E := E) (a := a) (x1 := x1) (M := mset M1 154 11 2) (f1.st ⟨rfl, by omega⟩) (by rw [eS]; simp [mset, e9, ck]) (by simp [mset, e13]) (by rw [eK]; simp [mset]) (fun z => by
        have e : mset M1 154 11 2 154 12 = nmC (M 161) a k := by rw [← e12]; simp [mset]
        rw [e]
        exact ⟨fun h3 => by rw [← ck]; exact nmC_3 k (by omega) (fun j hj => (l1 j (by omega)).2), ⟨by omega, by omega⟩⟩)
      try simp (maxSteps := 2000000) only [↓reduceIte, wp_eq, wpd_eq, kont_eq, STP1, STP2, STP3, STP4, STP5, konM_eq, AMK, CZ, Option.map, List.getElem?_cons_zero, List.getElem?_cons_succ, List.mem_cons, List.not_mem_nil, if_false, if_true, Nat.reduceAdd, Nat.reduceLT, Nat.reduceLeDiff, Nat.reduceEqDiff, true_and, and_true, List.length_nil, List.length_cons, or_true, true_or, or_false, false_or, Option.some.injEq, Sum.inl.injEq, Sum.inr.injEq, exists_eq_left', exists_eq_left, Int.reduceLE, Int.reduceLT, Int.reduceNeg, Int.reduceAdd, Int.reduceMul, Int.reduceSub, Int.reduceToNat, inR, Nat.zero_ne_one, false_and, Nat.succ_ne_zero, reduceCtorEq, false_implies, true_implies, not_false_eq_true, not_true_eq_false, Int.reduceEq, KRE, C_Model_stepOn, FM]
      repeat (first | refine ⟨by omega, ?_⟩ | refine ⟨fun _ _ => okt_nn (by omega), ?_⟩)
      try (first | (show _ ≤ _; omega) | (show _ < _; omega))
      exact R
    · have lt : k < tkD (M 161) E a := by omega
      have eb : bAt (M 161) E (a + k) = M 161 (a + k) := by
        unfold bAt
        rw [if_pos (l1 k lt).1]
      have il := (l1 k lt).2
      rw [eb] at B hb ⊢
      rw [if_pos il]
      have K2 := K' lt
      rw [show ((a + (k + 1) : Nat) : Int) = ((a + k : Nat) : Int) + 1 by omega, show nmC (M 161) a (k + 1) = min 100000 (10 * nmC (M 161) a k + M 161 (a + k) - 48) from rfl] at K2
      have g9 : ∀ v, mset M1 154 12 v 154 9 = ((a + k : Nat) : Int) := fun v => by rw [← e9]; simp [mset]
      try simp (maxSteps := 2000000) only [↓reduceIte, wp_eq, wpd_eq, kont_eq, STP1, STP2, STP3, STP4, STP5, konM_eq, AMK, CZ, Option.map, List.getElem?_cons_zero, List.getElem?_cons_succ, List.mem_cons, List.not_mem_nil, if_false, if_true, Nat.reduceAdd, Nat.reduceLT, Nat.reduceLeDiff, Nat.reduceEqDiff, true_and, and_true, List.length_nil, List.length_cons, or_true, true_or, or_false, false_or, Option.some.injEq, Sum.inl.injEq, Sum.inr.injEq, exists_eq_left', exists_eq_left, Int.reduceLE, Int.reduceLT, Int.reduceNeg, Int.reduceAdd, Int.reduceMul, Int.reduceSub, Int.reduceToNat, inR, Nat.zero_ne_one, false_and, Nat.succ_ne_zero, reduceCtorEq, false_implies, true_implies, not_false_eq_true, not_true_eq_false, Int.reduceEq, KRE, C_Model_stepOn, FM, e9, e12]
      repeat (first | refine ⟨by omega, ?_⟩ | refine ⟨fun _ _ => okt_nn (by omega), ?_⟩)
      try (first | (show _ ≤ _; omega) | (show _ < _; omega))
      refine B.eq ?_
      try simp (maxSteps := 2000000) only [↓reduceIte, wp_eq, wpd_eq, kont_eq, STP1, STP2, STP3, STP4, STP5, konM_eq, AMK, CZ, Option.map, List.getElem?_cons_zero, List.getElem?_cons_succ, List.mem_cons, List.not_mem_nil, if_false, if_true, Nat.reduceAdd, Nat.reduceLT, Nat.reduceLeDiff, Nat.reduceEqDiff, true_and, and_true, List.length_nil, List.length_cons, or_true, true_or, or_false, false_or, Option.some.injEq, Sum.inl.injEq, Sum.inr.injEq, exists_eq_left', exists_eq_left, Int.reduceLE, Int.reduceLT, Int.reduceNeg, Int.reduceAdd, Int.reduceMul, Int.reduceSub, Int.reduceToNat, inR, Nat.zero_ne_one, false_and, Nat.succ_ne_zero, reduceCtorEq, false_implies, true_implies, not_false_eq_true, not_true_eq_false, Int.reduceEq, KRE, C_Model_stepOn, FM, e9, e12, g9]
      repeat (first | refine ⟨by omega, ?_⟩ | refine ⟨fun _ _ => okt_nn (by omega), ?_⟩)
      try (first | (show _ ≤ _; omega) | (show _ < _; omega))
      exact K2
  · rw [Nat.add_zero, ← h9, mset_same]
    show M = mset M 154 12 0
    rw [← h12, mset_same]
set_option maxHeartbeats 600000 in
set_option maxRecDepth 20000 in
theorem Model_stepOn_39 {M0 M : Mm} {E a : Nat} {x1 : Option AV} (f : FrP stP M0 M) (hE : M 154 10 = E) (hE9 : E ≤ 900) (ha : a ≤ 900) (hp : oct (M 161) E) (h9 : M 154 9 = a) : WPm m_Model_stepOn (fun v M' => v = none ∧ stpM M0 (M 161) E a M') 39 [some (.inr 154), x1] [] M := by
  have hb := bAt_in hp a
  have f1 : FrP stP M0 (mset M 154 13 (a : Int)) := f.st ⟨rfl, by omega⟩
  have e9 : mset M 154 13 (a : Int) 154 9 = a := by rw [← h9]; simp [mset]
  have e10 : mset M 154 13 (a : Int) 154 10 = E := by rw [← hE]; simp [mset]
  have e13 : mset M 154 13 (a : Int) 154 13 = a := by simp [mset]
  have e161 : mset M 154 13 (a : Int) 161 = M 161 := funext (fun j => by simp [mset])
  refine wpm_of (cuts := [76, 123, 217]) (by decide) 60 _ _ _ _ ?_
  simp (maxSteps := 2000000) only [↓reduceIte, wp_eq, wpd_eq, kont_eq, STP1, STP2, STP3, STP4, STP5, konM_eq, AMK, CZ, Option.map, List.getElem?_cons_zero, List.getElem?_cons_succ, List.mem_cons, List.not_mem_nil, if_false, if_true, Nat.reduceAdd, Nat.reduceLT, Nat.reduceLeDiff, Nat.reduceEqDiff, true_and, and_true, List.length_nil, List.length_cons, or_true, true_or, or_false, false_or, Option.some.injEq, Sum.inl.injEq, Sum.inr.injEq, exists_eq_left', exists_eq_left, Int.reduceLE, Int.reduceLT, Int.reduceNeg, Int.reduceAdd, Int.reduceMul, Int.reduceSub, Int.reduceToNat, inR, Nat.zero_ne_one, false_and, Nat.succ_ne_zero, reduceCtorEq, false_implies, true_implies, not_false_eq_true, not_true_eq_false, Int.reduceEq, KRE, C_Model_stepOn, FM, h9, e9]
  repeat (first | refine ⟨by omega, ?_⟩ | refine ⟨fun _ _ => okt_nn (by omega), ?_⟩)
  try (first | (show _ ≤ _; omega) | (show _ < _; omega))
  generalize mset M 154 13 (a : Int) = M1 at *
  rw [← e161] at hp hb ⊢
  refine (Model_byteAt_ok (k := a) e10 hE9 ha).eq ?_
  by_cases c1 : E ≤ a
  · have eb : bAt (M1 161) E a = -1 := if_neg (by omega)
    rw [eb]
    have R := fun x => Model_stepOn_217 (M0 := M0) (g := M1 161) (E := E) (a := a) (x1 := x) (M := mset M1 154 11 0) (f1.st ⟨rfl, by omega⟩) (by unfold tmS; rw [if_pos c1]; simp [mset, e9]) (by simp [mset, e13]) (by unfold tmK; rw [if_pos c1]; simp [mset]) (fun z => by unfold tmK at z; rw [if_pos c1] at z; omega)
    try simp (maxSteps := 2000000) only [↓reduceIte, wp_eq, wpd_eq, kont_eq, STP1, STP2, STP3, STP4, STP5, konM_eq, AMK, CZ, Option.map, List.getElem?_cons_zero, List.getElem?_cons_succ, List.mem_cons, List.not_mem_nil, if_false, if_true, Nat.reduceAdd, Nat.reduceLT, Nat.reduceLeDiff, Nat.reduceEqDiff, true_and, and_true, List.length_nil, List.length_cons, or_true, true_or, or_false, false_or, Option.some.injEq, Sum.inl.injEq, Sum.inr.injEq, exists_eq_left', exists_eq_left, Int.reduceLE, Int.reduceLT, Int.reduceNeg, Int.reduceAdd, Int.reduceMul, Int.reduceSub, Int.reduceToNat, inR, Nat.zero_ne_one, false_and, Nat.succ_ne_zero, reduceCtorEq, false_implies, true_implies, not_false_eq_true, not_true_eq_false, Int.reduceEq, KRE, C_Model_stepOn, FM]
    repeat (first | refine ⟨by omega, ?_⟩ | refine ⟨fun _ _ => okt_nn (by omega), ?_⟩)
    try (first | (show _ ≤ _; omega) | (show _ < _; omega))
    exact R _
  · have eb : bAt (M1 161) E a = M1 161 a := if_pos (by omega)
    rw [eb] at hb ⊢
    have b0 := hp a (by omega)
    have n1 := eq_false (show ¬ M1 161 a = -1 by omega)
    by_cases c2 : isLet (M1 161 a)
    · have R := fun x => Model_stepOn_76 (M0 := M0) (M := M1) (x1 := x) f1 e10 hE9 (by omega) hp e9 e13 c2
      try simp (maxSteps := 2000000) only [↓reduceIte, wp_eq, wpd_eq, kont_eq, STP1, STP2, STP3, STP4, STP5, konM_eq, AMK, CZ, Option.map, List.getElem?_cons_zero, List.getElem?_cons_succ, List.mem_cons, List.not_mem_nil, if_false, if_true, Nat.reduceAdd, Nat.reduceLT, Nat.reduceLeDiff, Nat.reduceEqDiff, true_and, and_true, List.length_nil, List.length_cons, or_true, true_or, or_false, false_or, Option.some.injEq, Sum.inl.injEq, Sum.inr.injEq, exists_eq_left', exists_eq_left, Int.reduceLE, Int.reduceLT, Int.reduceNeg, Int.reduceAdd, Int.reduceMul, Int.reduceSub, Int.reduceToNat, inR, Nat.zero_ne_one, false_and, Nat.succ_ne_zero, reduceCtorEq, false_implies, true_implies, not_false_eq_true, not_true_eq_false, Int.reduceEq, KRE, C_Model_stepOn, FM, n1]
      repeat (first | refine ⟨by omega, ?_⟩ | refine ⟨fun _ _ => okt_nn (by omega), ?_⟩)
      try (first | (show _ ≤ _; omega) | (show _ < _; omega))
      refine (Model_isLetter_ok hb.1).eq ?_
      rw [if_pos c2]
      try simp (maxSteps := 2000000) only [↓reduceIte, wp_eq, wpd_eq, kont_eq, STP1, STP2, STP3, STP4, STP5, konM_eq, AMK, CZ, Option.map, List.getElem?_cons_zero, List.getElem?_cons_succ, List.mem_cons, List.not_mem_nil, if_false, if_true, Nat.reduceAdd, Nat.reduceLT, Nat.reduceLeDiff, Nat.reduceEqDiff, true_and, and_true, List.length_nil, List.length_cons, or_true, true_or, or_false, false_or, Option.some.injEq, Sum.inl.injEq, Sum.inr.injEq, exists_eq_left', exists_eq_left, Int.reduceLE, Int.reduceLT, Int.reduceNeg, Int.reduceAdd, Int.reduceMul, Int.reduceSub, Int.reduceToNat, inR, Nat.zero_ne_one, false_and, Nat.succ_ne_zero, reduceCtorEq, false_implies, true_implies, not_false_eq_true, not_true_eq_false, Int.reduceEq, KRE, C_Model_stepOn, FM]
      exact R _
    · by_cases c3 : isDig (M1 161 a)
      · have g161 : mset M1 154 12 0 161 = M1 161 := funext (fun j => by simp [mset])
        have R := fun x => Model_stepOn_123 (M0 := M0) (M := mset M1 154 12 0) (E := E) (a := a) (x1 := x) (f1.st ⟨rfl, by omega⟩) (by simp [mset, e10]) hE9 (by omega) (by rw [g161]; exact hp) (by simp [mset, e9]) (by simp [mset, e13]) (by simp [mset]) (by rw [g161]; exact c3)
        rw [g161] at R
        try simp (maxSteps := 2000000) only [↓reduceIte, wp_eq, wpd_eq, kont_eq, STP1, STP2, STP3, STP4, STP5, konM_eq, AMK, CZ, Option.map, List.getElem?_cons_zero, List.getElem?_cons_succ, List.mem_cons, List.not_mem_nil, if_false, if_true, Nat.reduceAdd, Nat.reduceLT, Nat.reduceLeDiff, Nat.reduceEqDiff, true_and, and_true, List.length_nil, List.length_cons, or_true, true_or, or_false, false_or, Option.some.injEq, Sum.inl.injEq, Sum.inr.injEq, exists_eq_left', exists_eq_left, Int.reduceLE, Int.reduceLT, Int.reduceNeg, Int.reduceAdd, Int.reduceMul, Int.reduceSub, Int.reduceToNat, inR, Nat.zero_ne_one, false_and, Nat.succ_ne_zero, reduceCtorEq, false_implies, true_implies, not_false_eq_true, not_true_eq_false, Int.reduceEq, KRE, C_Model_stepOn, FM, n1]
        repeat (first | refine ⟨by omega, ?_⟩ | refine ⟨fun _ _ => okt_nn (by omega), ?_⟩)
        try (first | (show _ ≤ _; omega) | (show _ < _; omega))
        refine (Model_isLetter_ok hb.1).eq ?_
        rw [if_neg c2]
        try simp (maxSteps := 2000000) only [↓reduceIte, wp_eq, wpd_eq, kont_eq, STP1, STP2, STP3, STP4, STP5, konM_eq, AMK, CZ, Option.map, List.getElem?_cons_zero, List.getElem?_cons_succ, List.mem_cons, List.not_mem_nil, if_false, if_true, Nat.reduceAdd, Nat.reduceLT, Nat.reduceLeDiff, Nat.reduceEqDiff, true_and, and_true, List.length_nil, List.length_cons, or_true, true_or, or_false, false_or, Option.some.injEq, Sum.inl.injEq, Sum.inr.injEq, exists_eq_left', exists_eq_left, Int.reduceLE, Int.reduceLT, Int.reduceNeg, Int.reduceAdd, Int.reduceMul, Int.reduceSub, Int.reduceToNat, inR, Nat.zero_ne_one, false_and, Nat.succ_ne_zero, reduceCtorEq, false_implies, true_implies, not_false_eq_true, not_true_eq_false, Int.reduceEq, KRE, C_Model_stepOn, FM]
        refine (Model_isDigit_ok hb.1).eq ?_
        rw [if_pos c3]
        try simp (maxSteps := 2000000) only [↓reduceIte, wp_eq, wpd_eq, kont_eq, STP1, STP2, STP3, STP4, STP5, konM_eq, AMK, CZ, Option.map, List.getElem?_cons_zero, List.getElem?_cons_succ, List.mem_cons, List.not_mem_nil, if_false, if_true, Nat.reduceAdd, Nat.reduceLT, Nat.reduceLeDiff, Nat.reduceEqDiff, true_and, and_true, List.length_nil, List.length_cons, or_true, true_or, or_false, false_or, Option.some.injEq, Sum.inl.injEq, Sum.inr.injEq, exists_eq_left', exists_eq_left, Int.reduceLE, Int.reduceLT, Int.reduceNeg, Int.reduceAdd, Int.reduceMul, Int.reduceSub, Int.reduceToNat, inR, Nat.zero_ne_one, false_and, Nat.succ_ne_zero, reduceCtorEq, false_implies, true_implies, not_false_eq_true, not_true_eq_false, Int.reduceEq, KRE, C_Model_stepOn, FM]
        repeat (first | refine ⟨by omega, ?_⟩ | refine ⟨fun _ _ => okt_nn (by omega), ?_⟩)
        try (first | (show _ ≤ _; omega) | (show _ < _; omega))
        exact R _
      · have R := fun x => Model_stepOn_217 (M0 := M0) (g := M1 161) (E := E) (a := a) (x1 := x) (M := mset (mset M1 154 9 ((a : Int) + 1)) 154 11 (if M1 161 a = 59 ∨ M1 161 a = 63 then 3 else 4)) ((f1.st ⟨rfl, by omega⟩).st ⟨rfl, by omega⟩) (by unfold tmS; rw [if_neg c1, if_neg c2, if_neg c3]; simp [mset]) (by simp [mset, e13]) (by unfold tmK; rw [if_neg c1, if_neg c2, if_neg c3]; simp [mset]) (fun z => by unfold tmK at z; rw [if_neg c1, if_neg c2, if_neg c3] at z; split at z <;> omega)
        try simp (maxSteps := 2000000) only [↓reduceIte, wp_eq, wpd_eq, kont_eq, STP1, STP2, STP3, STP4, STP5, konM_eq, AMK, CZ, Option.map, List.getElem?_cons_zero, List.getElem?_cons_succ, List.mem_cons, List.not_mem_nil, if_false, if_true, Nat.reduceAdd, Nat.reduceLT, Nat.reduceLeDiff, Nat.reduceEqDiff, true_and, and_true, List.length_nil, List.length_cons, or_true, true_or, or_false, false_or, Option.some.injEq, Sum.inl.injEq, Sum.inr.injEq, exists_eq_left', exists_eq_left, Int.reduceLE, Int.reduceLT, Int.reduceNeg, Int.reduceAdd, Int.reduceMul, Int.reduceSub, Int.reduceToNat, inR, Nat.zero_ne_one, false_and, Nat.succ_ne_zero, reduceCtorEq, false_implies, true_implies, not_false_eq_true, not_true_eq_false, Int.reduceEq, KRE, C_Model_stepOn, FM, n1]
        repeat (first | refine ⟨by omega, ?_⟩ | refine ⟨fun _ _ => okt_nn (by omega), ?_⟩)
        try (first | (show _ ≤ _; omega) | (show _ < _; omega))
        refine (Model_isLetter_ok hb.1).eq ?_
        rw [if_neg c2]
        try simp (maxSteps := 2000000) only [↓reduceIte, wp_eq, wpd_eq, kont_eq, STP1, STP2, STP3, STP4, STP5, konM_eq, AMK, CZ, Option.map, List.getElem?_cons_zero, List.getElem?_cons_succ, List.mem_cons, List.not_mem_nil, if_false, if_true, Nat.reduceAdd, Nat.reduceLT, Nat.reduceLeDiff, Nat.reduceEqDiff, true_and, and_true, List.length_nil, List.length_cons, or_true, true_or, or_false, false_or, Option.some.injEq, Sum.inl.injEq, Sum.inr.injEq, exists_eq_left', exists_eq_left, Int.reduceLE, Int.reduceLT, Int.reduceNeg, Int.reduceAdd, Int.reduceMul, Int.reduceSub, Int.reduceToNat, inR, Nat.zero_ne_one, false_and, Nat.succ_ne_zero, reduceCtorEq, false_implies, true_implies, not_false_eq_true, not_true_eq_false, Int.reduceEq, KRE, C_Model_stepOn, FM]
        refine (Model_isDigit_ok hb.1).eq ?_
        rw [if_neg c3]
        by_cases c4 : M1 161 a = 59
        · rw [if_pos (Or.inl c4)] at R
          try simp (maxSteps := 2000000) only [↓reduceIte, wp_eq, wpd_eq, kont_eq, STP1, STP2, STP3, STP4, STP5, konM_eq, AMK, CZ, Option.map, List.getElem?_cons_zero, List.getElem?_cons_succ, List.mem_cons, List.not_mem_nil, if_false, if_true, Nat.reduceAdd, Nat.reduceLT, Nat.reduceLeDiff, Nat.reduceEqDiff, true_and, and_true, List.length_nil, List.length_cons, or_true, true_or, or_false, false_or, Option.some.injEq, Sum.inl.injEq, Sum.inr.injEq, exists_eq_left', exists_eq_left, Int.reduceLE, Int.reduceLT, Int.reduceNeg, Int.reduceAdd, Int.reduceMul, Int.reduceSub, Int.reduceToNat, inR, Nat.zero_ne_one, false_and, Nat.succ_ne_zero, reduceCtorEq, false_implies, true_implies, not_false_eq_true, not_true_eq_false, Int.reduceEq, KRE, C_Model_stepOn, FM, e9, c4]
          repeat (first | refine ⟨by omega, ?_⟩ | refine ⟨fun _ _ => okt_nn (by omega), ?_⟩)
          try (first | (show _ ≤ _; omega) | (show _ < _; omega))
          exact R _
        · by_cases c5 : M1 161 a = 63
          · rw [if_pos (Or.inr c5)] at R
            try simp (maxSteps := 2000000) only [↓reduceIte, wp_eq, wpd_eq, kont_eq, STP1, STP2, STP3, STP4, STP5, konM_eq, AMK, CZ, Option.map, List.getElem?_cons_zero, List.getElem?_cons_succ, List.mem_cons, List.not_mem_nil, if_false, if_true, Nat.reduceAdd, Nat.reduceLT, Nat.reduceLeDiff, Nat.reduceEqDiff, true_and, and_true, List.length_nil, List.length_cons, or_true, true_or, or_false, false_or, Option.some.injEq, Sum.inl.injEq, Sum.inr.injEq, exists_eq_left', exists_eq_left, Int.reduceLE, Int.reduceLT, Int.reduceNeg, Int.reduceAdd, Int.reduceMul, Int.reduceSub, Int.reduceToNat, inR, Nat.zero_ne_one, false_and, Nat.succ_ne_zero, reduceCtorEq, false_implies, true_implies, not_false_eq_true, not_true_eq_false, Int.reduceEq, KRE, C_Model_stepOn, FM, e9, c5]
            repeat (first | refine ⟨by omega, ?_⟩ | refine ⟨fun _ _ => okt_nn (by omega), ?_⟩)
            try (first | (show _ ≤ _; omega) | (show _ < _; omega))
            exact R _
          · rw [if_neg (by omega)] at R
            try simp (maxSteps := 2000000) only [↓reduceIte, wp_eq, wpd_eq, kont_eq, STP1, STP2, STP3, STP4, STP5, konM_eq, AMK, CZ, Option.map, List.getElem?_cons_zero, List.getElem?_cons_succ, List.mem_cons, List.not_mem_nil, if_false, if_true, Nat.reduceAdd, Nat.reduceLT, Nat.reduceLeDiff, Nat.reduceEqDiff, true_and, and_true, List.length_nil, List.length_cons, or_true, true_or, or_false, false_or, Option.some.injEq, Sum.inl.injEq, Sum.inr.injEq, exists_eq_left', exists_eq_left, Int.reduceLE, Int.reduceLT, Int.reduceNeg, Int.reduceAdd, Int.reduceMul, Int.reduceSub, Int.reduceToNat, inR, Nat.zero_ne_one, false_and, Nat.succ_ne_zero, reduceCtorEq, false_implies, true_implies, not_false_eq_true, not_true_eq_false, Int.reduceEq, KRE, C_Model_stepOn, FM, e9, c4, c5]
            repeat (first | refine ⟨by omega, ?_⟩ | refine ⟨fun _ _ => okt_nn (by omega), ?_⟩)
            try (first | (show _ ≤ _; omega) | (show _ < _; omega))
            exact R _
set_option maxHeartbeats 600000 in
set_option maxRecDepth 20000 in
theorem Model_stepOn_ok {M : Mm} {E b : Nat} (hE : M 154 10 = E) (hE9 : E ≤ 900) (hb9 : b ≤ 900) (hp : oct (M 161) E) (h9 : M 154 9 = b) : CallV m_Model_stepOn [.inr 154] M (fun M' => stpM M (M 161) E (tkA (M 161) E b) M') := by
  obtain ⟨s1, s2⟩ := runL_ok (p := fun j => decide (M 161 j = 32 ∨ M 161 j = 10)) (E := E) 901 b (by omega)
  simp only [decide_eq_true_eq] at s1 s2
  have ha9 := tkA_le (g := M 161) hE9 hb9
  refine callP_of (by decide) (by decide) (Nat.le_of_ble_eq_true rfl) ?_
  rw [show lM m_Model_stepOn = 2 from rfl]
  have eA : tkA (M 161) E b = b + runL (fun j => decide (M 161 j = 32 ∨ M 161 j = 10)) E 901 b := rfl
  generalize runL (fun j => decide (M 161 j = 32 ∨ M 161 j = 10)) E 901 b = S at *
  refine loopQ S (fun k ls M1 => M1 = mset M 154 9 ((b + k : Nat) : Int) ∧ ls = [some (.inr 154), none]) ?_ _ _ ⟨?_, rfl⟩
  · rintro k _ _ hk ⟨rfl, rfl⟩ K
    have e9 : mset M 154 9 ((b + k : Nat) : Int) 154 9 = ((b + k : Nat) : Int) := by simp [mset]
    have e10 : mset M 154 9 ((b + k : Nat) : Int) 154 10 = E := by rw [← hE]; simp [mset]
    have e161 : mset M 154 9 ((b + k : Nat) : Int) 161 = M 161 := funext (fun j => by simp [mset])
    have f1 : FrP stP M (mset M 154 9 ((b + k : Nat) : Int)) := FrP.rf.st ⟨rfl, by omega⟩
    have hk9 : b + k ≤ 900 := by
      by_cases z : k = 0
      · omega
      · have := s1 (k - 1) (by omega)
        omega
    have K' := fun z => K z _ (mset (mset M 154 9 ((b + k : Nat) : Int)) 154 9 ((b + (k + 1) : Nat) : Int)) ⟨by funext b j; simp only [mset]; grind, rfl⟩
    generalize mset M 154 9 ((b + k : Nat) : Int) = M1 at *
    have hb := (bAt_in hp (b + k)).2
    obtain ⟨hb1, hb2⟩ := hb
    have B := Model_byteAt_ok (k := b + k) e10 hE9 hk9
    rw [e161] at B
    by_cases ck : k = S
    · have n32 : ¬ (bAt (M 161) E (b + k) = 32 ∨ bAt (M 161) E (b + k) = 10) := by
        unfold bAt
        by_cases c : b + k < E
        · rw [if_pos c]
          intro z
          exact s2 ⟨by rw [← ck]; exact c, by rw [← ck]; exact z⟩
        · rw [if_neg c]
          omega
      have R := Model_stepOn_39 (M0 := M) (M := M1) (E := E) (a := b + k) (x1 := none) f1 e10 hE9 hk9 (by rw [e161]; exact hp) e9
      rw [e161] at R
      rw [eA, ← ck]
      have q1 := eq_false (show ¬ bAt (M 161) E (b + k) = 32 by omega)
      have q2 := eq_false (show ¬ bAt (M 161) E (b + k) = 10 by omega)
      refine wpm_of (cuts := [0, 39]) (by decide) 60 _ _ _ _ ?_
      simp (maxSteps := 2000000) only [↓reduceIte, wp_eq, wpd_eq, kont_eq, STP1, STP2, STP3, STP4, STP5, konM_eq, AMK, CZ, Option.map, List.getElem?_cons_zero, List.getElem?_cons_succ, List.mem_cons, List.not_mem_nil, if_false, if_true, Nat.reduceAdd, Nat.reduceLT, Nat.reduceLeDiff, Nat.reduceEqDiff, true_and, and_true, List.length_nil, List.length_cons, or_true, true_or, or_false, false_or, Option.some.injEq, Sum.inl.injEq, Sum.inr.injEq, exists_eq_left', exists_eq_left, Int.reduceLE, Int.reduceLT, Int.reduceNeg, Int.reduceAdd, Int.reduceMul, Int.reduceSub, Int.reduceToNat, inR, Nat.zero_ne_one, false_and, Nat.succ_ne_zero, reduceCtorEq, false_implies, true_implies, not_false_eq_true, not_true_eq_false, Int.reduceEq, KRE, C_Model_stepOn, FM, e9]
      repeat (first | refine ⟨by omega, ?_⟩ | refine ⟨fun _ _ => okt_nn (by omega), ?_⟩)
      try (first | (show _ ≤ _; omega) | (show _ < _; omega))
      refine B.eq ?_
      try simp (maxSteps := 2000000) only [↓reduceIte, wp_eq, wpd_eq, kont_eq, STP1, STP2, STP3, STP4, STP5, konM_eq, AMK, CZ, Option.map, List.getElem?_cons_zero, List.getElem?_cons_succ, List.mem_cons, List.not_mem_nil, if_false, if_true, Nat.reduceAdd, Nat.reduceLT, Nat.reduceLeDiff, Nat.reduceEqDiff, true_and, and_true, List.length_nil, List.length_cons, or_true, true_or, or_false, false_or, Option.some.injEq, Sum.inl.injEq, Sum.inr.injEq, exists_eq_left', exists_eq_left, Int.reduceLE, Int.reduceLT, Int.reduceNeg, Int.reduceAdd, Int.reduceMul, Int.reduceSub, Int.reduceToNat, inR, Nat.zero_ne_one, false_and, Nat.succ_ne_zero, reduceCtorEq, false_implies, true_implies, not_false_eq_true, not_true_eq_false, Int.reduceEq, KRE, C_Model_stepOn, FM, e9, q1]
      repeat (first | refine ⟨by omega, ?_⟩ | refine ⟨fun _ _ => okt_nn (by omega), ?_⟩)
      try (first | (show _ ≤ _; omega) | (show _ < _; omega))
      refine B.eq ?_
      try simp (maxSteps := 2000000) only [↓reduceIte, wp_eq, wpd_eq, kont_eq, STP1, STP2, STP3, STP4, STP5, konM_eq, AMK, CZ, Option.map, List.getElem?_cons_zero, List.getElem?_cons_succ, List.mem_cons, List.not_mem_nil, if_false, if_true, Nat.reduceAdd, Nat.reduceLT, Nat.reduceLeDiff, Nat.reduceEqDiff, true_and, and_true, List.length_nil, List.length_cons, or_true, true_or, or_false, false_or, Option.some.injEq, Sum.inl.injEq, Sum.inr.injEq, exists_eq_left', exists_eq_left, Int.reduceLE, Int.reduceLT, Int.reduceNeg, Int.reduceAdd, Int.reduceMul, Int.reduceSub, Int.reduceToNat, inR, Nat.zero_ne_one, false_and, Nat.succ_ne_zero, reduceCtorEq, false_implies, true_implies, not_false_eq_true, not_true_eq_false, Int.reduceEq, KRE, C_Model_stepOn, FM, e9, q2]
      repeat (first | refine ⟨by omega, ?_⟩ | refine ⟨fun _ _ => okt_nn (by omega), ?_⟩)
      try (first | (show _ ≤ _; omega) | (show _ < _; omega))
      exact R
    · have lt : k < S := by omega
      have is : bAt (M 161) E (b + k) = 32 ∨ bAt (M 161) E (b + k) = 10 := by
        unfold bAt
        rw [if_pos (s1 k lt).1]
        exact (s1 k lt).2
      have K2 := K' lt
      rw [show ((b + (k + 1) : Nat) : Int) = ((b + k : Nat) : Int) + 1 by omega] at K2
      by_cases i1 : bAt (M 161) E (b + k) = 32
      · refine wpm_of (cuts := [0, 39]) (by decide) 60 _ _ _ _ ?_
        simp (maxSteps := 2000000) only [↓reduceIte, wp_eq, wpd_eq, kont_eq, STP1, STP2, STP3, STP4, STP5, konM_eq, AMK, CZ, Option.map, List.getElem?_cons_zero, List.getElem?_cons_succ, List.mem_cons, List.not_mem_nil, if_false, if_true, Nat.reduceAdd, Nat.reduceLT, Nat.reduceLeDiff, Nat.reduceEqDiff, true_and, and_true, List.length_nil, List.length_cons, or_true, true_or, or_false, false_or, Option.some.injEq, Sum.inl.injEq, Sum.inr.injEq, exists_eq_left', exists_eq_left, Int.reduceLE, Int.reduceLT, Int.reduceNeg, Int.reduceAdd, Int.reduceMul, Int.reduceSub, Int.reduceToNat, inR, Nat.zero_ne_one, false_and, Nat.succ_ne_zero, reduceCtorEq, false_implies, true_implies, not_false_eq_true, not_true_eq_false, Int.reduceEq, KRE, C_Model_stepOn, FM, e9]
        repeat (first | refine ⟨by omega, ?_⟩ | refine ⟨fun _ _ => okt_nn (by omega), ?_⟩)
        try (first | (show _ ≤ _; omega) | (show _ < _; omega))
        refine B.eq ?_
        try simp (maxSteps := 2000000) only [↓reduceIte, wp_eq, wpd_eq, kont_eq, STP1, STP2, STP3, STP4, STP5, konM_eq, AMK, CZ, Option.map, List.getElem?_cons_zero, List.getElem?_cons_succ, List.mem_cons, List.not_mem_nil, if_false, if_true, Nat.reduceAdd, Nat.reduceLT, Nat.reduceLeDiff, Nat.reduceEqDiff, true_and, and_true, List.length_nil, List.length_cons, or_true, true_or, or_false, false_or, Option.some.injEq, Sum.inl.injEq, Sum.inr.injEq, exists_eq_left', exists_eq_left, Int.reduceLE, Int.reduceLT, Int.reduceNeg, Int.reduceAdd, Int.reduceMul, Int.reduceSub, Int.reduceToNat, inR, Nat.zero_ne_one, false_and, Nat.succ_ne_zero, reduceCtorEq, false_implies, true_implies, not_false_eq_true, not_true_eq_false, Int.reduceEq, KRE, C_Model_stepOn, FM, e9, i1]
        repeat (first | refine ⟨by omega, ?_⟩ | refine ⟨fun _ _ => okt_nn (by omega), ?_⟩)
        try (first | (show _ ≤ _; omega) | (show _ < _; omega))
        exact K2
      · have i2 : bAt (M 161) E (b + k) = 10 := by omega
        refine wpm_of (cuts := [0, 39]) (by decide) 60 _ _ _ _ ?_
        simp (maxSteps := 2000000) only [↓reduceIte, wp_eq, wpd_eq, kont_eq, STP1, STP2, STP3, STP4, STP5, konM_eq, AMK, CZ, Option.map, List.getElem?_cons_zero, List.getElem?_cons_succ, List.mem_cons, List.not_mem_nil, if_false, if_true, Nat.reduceAdd, Nat.reduceLT, Nat.reduceLeDiff, Nat.reduceEqDiff, true_and, and_true, List.length_nil, List.length_cons, or_true, true_or, or_false, false_or, Option.some.injEq, Sum.inl.injEq, Sum.inr.injEq, exists_eq_left', exists_eq_left, Int.reduceLE, Int.reduceLT, Int.reduceNeg, Int.reduceAdd, Int.reduceMul, Int.reduceSub, Int.reduceToNat, inR, Nat.zero_ne_one, false_and, Nat.succ_ne_zero, reduceCtorEq, false_implies, true_implies, not_false_eq_true, not_true_eq_false, Int.reduceEq, KRE, C_Model_stepOn, FM, e9]
        repeat (first | refine ⟨by omega, ?_⟩ | refine ⟨fun _ _ => okt_nn (by omega), ?_⟩)
        try (first | (show _ ≤ _; omega) | (show _ < _; omega))
        refine B.eq ?_
        have i1 := eq_false i1
        try simp (maxSteps := 2000000) only [↓reduceIte, wp_eq, wpd_eq, kont_eq, STP1, STP2, STP3, STP4, STP5, konM_eq, AMK, CZ, Option.map, List.getElem?_cons_zero, List.getElem?_cons_succ, List.mem_cons, List.not_mem_nil, if_false, if_true, Nat.reduceAdd, Nat.reduceLT, Nat.reduceLeDiff, Nat.reduceEqDiff, true_and, and_true, List.length_nil, List.length_cons, or_true, true_or, or_false, false_or, Option.some.injEq, Sum.inl.injEq, Sum.inr.injEq, exists_eq_left', exists_eq_left, Int.reduceLE, Int.reduceLT, Int.reduceNeg, Int.reduceAdd, Int.reduceMul, Int.reduceSub, Int.reduceToNat, inR, Nat.zero_ne_one, false_and, Nat.succ_ne_zero, reduceCtorEq, false_implies, true_implies, not_false_eq_true, not_true_eq_false, Int.reduceEq, KRE, C_Model_stepOn, FM, e9, i1]
        repeat (first | refine ⟨by omega, ?_⟩ | refine ⟨fun _ _ => okt_nn (by omega), ?_⟩)
        try (first | (show _ ≤ _; omega) | (show _ < _; omega))
        refine B.eq ?_
        try simp (maxSteps := 2000000) only [↓reduceIte, wp_eq, wpd_eq, kont_eq, STP1, STP2, STP3, STP4, STP5, konM_eq, AMK, CZ, Option.map, List.getElem?_cons_zero, List.getElem?_cons_succ, List.mem_cons, List.not_mem_nil, if_false, if_true, Nat.reduceAdd, Nat.reduceLT, Nat.reduceLeDiff, Nat.reduceEqDiff, true_and, and_true, List.length_nil, List.length_cons, or_true, true_or, or_false, false_or, Option.some.injEq, Sum.inl.injEq, Sum.inr.injEq, exists_eq_left', exists_eq_left, Int.reduceLE, Int.reduceLT, Int.reduceNeg, Int.reduceAdd, Int.reduceMul, Int.reduceSub, Int.reduceToNat, inR, Nat.zero_ne_one, false_and, Nat.succ_ne_zero, reduceCtorEq, false_implies, true_implies, not_false_eq_true, not_true_eq_false, Int.reduceEq, KRE, C_Model_stepOn, FM, e9, i2]
        repeat (first | refine ⟨by omega, ?_⟩ | refine ⟨fun _ _ => okt_nn (by omega), ?_⟩)
        try (first | (show _ ≤ _; omega) | (show _ < _; omega))
        exact K2
  · rw [Nat.add_zero, ← h9, mset_same]
