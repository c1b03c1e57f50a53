/-! THE REFERENCE, E: help. -/
section MODE
variable {n : Nat} {T : Nat → Rw} {Y : Nat → Int} {lap bnd mrg : Int} {M : Mm}
theorem dbt_m {t i : Nat} (h : mdl M n T Y lap bnd mrg) (ht : t < n) (hi : (i : Int) < (T t).2.1) : btI (M 158 (30 * t + 5)) i = true ↔ (T t).2.2 i ≠ 0 := by
  have e := (h.2.1 t ht).1
  have g := (mdl_t h ht).1.2
  rw [← e]
  show _ ↔ (if (i : Int) < M 158 (30 * t) then (if btI (M 158 (30 * t + 5)) i = true then (1 : Int) else 0) else 0) ≠ 0
  rw [if_pos (by omega)]
  split <;> simp_all
set_option maxHeartbeats 600000 in
set_option maxRecDepth 20000 in
theorem canMend_L {t : Nat} {r : Int} (h : mdl M n T Y lap bnd mrg) (ht : t < n) (hr : inR r) : CallI m_Model_canMend [.inr 154, .inl (t : Int), .inl r, .inl 0] M (fun x M' => (x = 1 ∧ canL (T t) r ∨ x = 0 ∧ ¬ canL (T t) r) ∧ M' = M) := by
  have g := mdl_t h ht
  have o1 := g.2.2.2.1.1
  have n8 := h.1.2
  refine callP_of (by decide) (by decide) (Nat.le_of_ble_eq_true rfl) (wpm_of (cuts := []) (by decide) 60 _ _ _ _ ?_)
  rw [show lM m_Model_canMend = 5 from rfl]
  simp (maxSteps := 2000000) only [↓reduceIte, wp_eq, wpd_eq, kont_eq, STP1, STP2, STP3, STP4, STP5, konM_eq, AMK, CZ, Option.map, List.getElem?_cons_zero, List.getElem?_cons_succ, List.mem_cons, List.not_mem_nil, if_false, if_true, Nat.reduceAdd, Nat.reduceLT, Nat.reduceLeDiff, Nat.reduceEqDiff, true_and, and_true, List.length_nil, List.length_cons, or_true, true_or, or_false, false_or, Option.some.injEq, Sum.inl.injEq, Sum.inr.injEq, exists_eq_left', exists_eq_left, Int.reduceLE, Int.reduceLT, Int.reduceNeg, Int.reduceAdd, Int.reduceMul, Int.reduceSub, Int.reduceToNat, inR, Nat.zero_ne_one, false_and, Nat.succ_ne_zero, reduceCtorEq, false_implies, true_implies, not_false_eq_true, not_true_eq_false, Int.reduceEq, KRE, C_Model_canMend, FM]
  refine (of_many h ht).eq ?_
  by_cases c1 : (T t).2.1 ≤ 3
  · have c1' := eq_true c1
    try simp (maxSteps := 2000000) only [↓reduceIte, wp_eq, wpd_eq, kont_eq, STP1, STP2, STP3, STP4, STP5, konM_eq, AMK, CZ, Option.map, List.getElem?_cons_zero, List.getElem?_cons_succ, List.mem_cons, List.not_mem_nil, if_false, if_true, Nat.reduceAdd, Nat.reduceLT, Nat.reduceLeDiff, Nat.reduceEqDiff, true_and, and_true, List.length_nil, List.length_cons, or_true, true_or, or_false, false_or, Option.some.injEq, Sum.inl.injEq, Sum.inr.injEq, exists_eq_left', exists_eq_left, Int.reduceLE, Int.reduceLT, Int.reduceNeg, Int.reduceAdd, Int.reduceMul, Int.reduceSub, Int.reduceToNat, inR, Nat.zero_ne_one, false_and, Nat.succ_ne_zero, reduceCtorEq, false_implies, true_implies, not_false_eq_true, not_true_eq_false, Int.reduceEq, KRE, C_Model_canMend, c1']
    repeat (first | refine ⟨by omega, ?_⟩ | refine ⟨fun _ _ => okt_nn (by omega), ?_⟩)
    try (first | (show _ ≤ _; omega) | (show _ < _; omega))
    exact fun z => by have := z.1; omega
  · have c1' := eq_false c1
    try simp (maxSteps := 2000000) only [↓reduceIte, wp_eq, wpd_eq, kont_eq, STP1, STP2, STP3, STP4, STP5, konM_eq, AMK, CZ, Option.map, List.getElem?_cons_zero, List.getElem?_cons_succ, List.mem_cons, List.not_mem_nil, if_false, if_true, Nat.reduceAdd, Nat.reduceLT, Nat.reduceLeDiff, Nat.reduceEqDiff, true_and, and_true, List.length_nil, List.length_cons, or_true, true_or, or_false, false_or, Option.some.injEq, Sum.inl.injEq, Sum.inr.injEq, exists_eq_left', exists_eq_left, Int.reduceLE, Int.reduceLT, Int.reduceNeg, Int.reduceAdd, Int.reduceMul, Int.reduceSub, Int.reduceToNat, inR, Nat.zero_ne_one, false_and, Nat.succ_ne_zero, reduceCtorEq, false_implies, true_implies, not_false_eq_true, not_true_eq_false, Int.reduceEq, KRE, C_Model_canMend, c1']
    repeat (first | refine ⟨by omega, ?_⟩ | refine ⟨fun _ _ => okt_nn (by omega), ?_⟩)
    try (first | (show _ ≤ _; omega) | (show _ < _; omega))
    refine (Model_isIn_ok hr ⟨by omega, by omega⟩ ⟨by omega, by omega⟩).eq ?_
    by_cases c2 : 0 ≤ r ∧ r ≤ (T t).2.1 - 1
    · rw [if_pos c2]
      try simp (maxSteps := 2000000) only [↓reduceIte, wp_eq, wpd_eq, kont_eq, STP1, STP2, STP3, STP4, STP5, konM_eq, AMK, CZ, Option.map, List.getElem?_cons_zero, List.getElem?_cons_succ, List.mem_cons, List.not_mem_nil, if_false, if_true, Nat.reduceAdd, Nat.reduceLT, Nat.reduceLeDiff, Nat.reduceEqDiff, true_and, and_true, List.length_nil, List.length_cons, or_true, true_or, or_false, false_or, Option.some.injEq, Sum.inl.injEq, Sum.inr.injEq, exists_eq_left', exists_eq_left, Int.reduceLE, Int.reduceLT, Int.reduceNeg, Int.reduceAdd, Int.reduceMul, Int.reduceSub, Int.reduceToNat, inR, Nat.zero_ne_one, false_and, Nat.succ_ne_zero, reduceCtorEq, false_implies, true_implies, not_false_eq_true, not_true_eq_false, Int.reduceEq, KRE, C_Model_canMend]
      repeat (first | refine ⟨by omega, ?_⟩ | refine ⟨fun _ _ => okt_nn (by omega), ?_⟩)
      try (first | (show _ ≤ _; omega) | (show _ < _; omega))
      refine (of_k (by omega) 5 (by omega) rfl).eq ?_
      have b1 := bit_testI (M 158 (30 * t + 5)) (k := r) (by omega) (by omega)
      have b2 := dbt_m h ht (i := r.toNat) (by omega)
      by_cases c3 : btI (M 158 (30 * t + 5)) r.toNat = true
      · rw [if_pos c3] at b1
        try simp (maxSteps := 2000000) only [↓reduceIte, wp_eq, wpd_eq, kont_eq, STP1, STP2, STP3, STP4, STP5, konM_eq, AMK, CZ, Option.map, List.getElem?_cons_zero, List.getElem?_cons_succ, List.mem_cons, List.not_mem_nil, if_false, if_true, Nat.reduceAdd, Nat.reduceLT, Nat.reduceLeDiff, Nat.reduceEqDiff, true_and, and_true, List.length_nil, List.length_cons, or_true, true_or, or_false, false_or, Option.some.injEq, Sum.inl.injEq, Sum.inr.injEq, exists_eq_left', exists_eq_left, Int.reduceLE, Int.reduceLT, Int.reduceNeg, Int.reduceAdd, Int.reduceMul, Int.reduceSub, Int.reduceToNat, inR, Nat.zero_ne_one, false_and, Nat.succ_ne_zero, reduceCtorEq, false_implies, true_implies, not_false_eq_true, not_true_eq_false, Int.reduceEq, KRE, C_Model_canMend, b1]
        repeat (first | refine ⟨by omega, ?_⟩ | refine ⟨fun _ _ => okt_nn (by omega), ?_⟩)
        try (first | (show _ ≤ _; omega) | (show _ < _; omega))
        repeat (first | refine ⟨by omega, ?_⟩ | refine ⟨fun _ _ => okt_nn (by omega), ?_⟩)
        try (first | (show _ ≤ _; omega) | (show _ < _; omega))
        exact b2.mp c3
      · rw [if_neg c3] at b1
        try simp (maxSteps := 2000000) only [↓reduceIte, wp_eq, wpd_eq, kont_eq, STP1, STP2, STP3, STP4, STP5, konM_eq, AMK, CZ, Option.map, List.getElem?_cons_zero, List.getElem?_cons_succ, List.mem_cons, List.not_mem_nil, if_false, if_true, Nat.reduceAdd, Nat.reduceLT, Nat.reduceLeDiff, Nat.reduceEqDiff, true_and, and_true, List.length_nil, List.length_cons, or_true, true_or, or_false, false_or, Option.some.injEq, Sum.inl.injEq, Sum.inr.injEq, exists_eq_left', exists_eq_left, Int.reduceLE, Int.reduceLT, Int.reduceNeg, Int.reduceAdd, Int.reduceMul, Int.reduceSub, Int.reduceToNat, inR, Nat.zero_ne_one, false_and, Nat.succ_ne_zero, reduceCtorEq, false_implies, true_implies, not_false_eq_true, not_true_eq_false, Int.reduceEq, KRE, C_Model_canMend, b1]
        repeat (first | refine ⟨by omega, ?_⟩ | refine ⟨fun _ _ => okt_nn (by omega), ?_⟩)
        try (first | (show _ ≤ _; omega) | (show _ < _; omega))
        exact fun z => c3 (b2.mpr z.2.2.2)
    · rw [if_neg c2]
      try simp (maxSteps := 2000000) only [↓reduceIte, wp_eq, wpd_eq, kont_eq, STP1, STP2, STP3, STP4, STP5, konM_eq, AMK, CZ, Option.map, List.getElem?_cons_zero, List.getElem?_cons_succ, List.mem_cons, List.not_mem_nil, if_false, if_true, Nat.reduceAdd, Nat.reduceLT, Nat.reduceLeDiff, Nat.reduceEqDiff, true_and, and_true, List.length_nil, List.length_cons, or_true, true_or, or_false, false_or, Option.some.injEq, Sum.inl.injEq, Sum.inr.injEq, exists_eq_left', exists_eq_left, Int.reduceLE, Int.reduceLT, Int.reduceNeg, Int.reduceAdd, Int.reduceMul, Int.reduceSub, Int.reduceToNat, inR, Nat.zero_ne_one, false_and, Nat.succ_ne_zero, reduceCtorEq, false_implies, true_implies, not_false_eq_true, not_true_eq_false, Int.reduceEq, KRE, C_Model_canMend]
      repeat (first | refine ⟨by omega, ?_⟩ | refine ⟨fun _ _ => okt_nn (by omega), ?_⟩)
      try (first | (show _ ≤ _; omega) | (show _ < _; omega))
      exact fun z => c2 ⟨z.2.1, by have := z.2.2.1; omega⟩
set_option maxHeartbeats 600000 in
set_option maxRecDepth 20000 in
theorem canMend_G {t : Nat} {r : Int} (h : mdl M n T Y lap bnd mrg) (ht : t < n) (hr : inR r) : CallI m_Model_canMend [.inr 154, .inl (t : Int), .inl r, .inl 1] M (fun x M' => (x = 1 ∧ canG (T t) r ∨ x = 0 ∧ ¬ canG (T t) r) ∧ M' = M) := by
  have g := mdl_t h ht
  have o1 := g.2.2.2.1.1
  have one0 := eq_false (show ¬ (1 : Int) = 0 by omega)
  refine callP_of (by decide) (by decide) (Nat.le_of_ble_eq_true rfl) (wpm_of (cuts := []) (by decide) 60 _ _ _ _ ?_)
  rw [show lM m_Model_canMend = 5 from rfl]
  simp (maxSteps := 2000000) only [↓reduceIte, wp_eq, wpd_eq, kont_eq, STP1, STP2, STP3, STP4, STP5, konM_eq, AMK, CZ, Option.map, List.getElem?_cons_zero, List.getElem?_cons_succ, List.mem_cons, List.not_mem_nil, if_false, if_true, Nat.reduceAdd, Nat.reduceLT, Nat.reduceLeDiff, Nat.reduceEqDiff, true_and, and_true, List.length_nil, List.length_cons, or_true, true_or, or_false, false_or, Option.some.injEq, Sum.inl.injEq, Sum.inr.injEq, exists_eq_left', exists_eq_left, Int.reduceLE, Int.reduceLT, Int.reduceNeg, Int.reduceAdd, Int.reduceMul, Int.reduceSub, Int.reduceToNat, inR, Nat.zero_ne_one, false_and, Nat.succ_ne_zero, reduceCtorEq, false_implies, true_implies, not_false_eq_true, not_true_eq_false, Int.reduceEq, KRE, C_Model_canMend, FM]
  refine (of_many h ht).eq ?_
  by_cases c1 : 24 ≤ (T t).2.1
  · have c1' := eq_true c1
    try simp (maxSteps := 2000000) only [↓reduceIte, wp_eq, wpd_eq, kont_eq, STP1, STP2, STP3, STP4, STP5, konM_eq, AMK, CZ, Option.map, List.getElem?_cons_zero, List.getElem?_cons_succ, List.mem_cons, List.not_mem_nil, if_false, if_true, Nat.reduceAdd, Nat.reduceLT, Nat.reduceLeDiff, Nat.reduceEqDiff, true_and, and_true, List.length_nil, List.length_cons, or_true, true_or, or_false, false_or, Option.some.injEq, Sum.inl.injEq, Sum.inr.injEq, exists_eq_left', exists_eq_left, Int.reduceLE, Int.reduceLT, Int.reduceNeg, Int.reduceAdd, Int.reduceMul, Int.reduceSub, Int.reduceToNat, inR, Nat.zero_ne_one, false_and, Nat.succ_ne_zero, reduceCtorEq, false_implies, true_implies, not_false_eq_true, not_true_eq_false, Int.reduceEq, KRE, C_Model_canMend, c1', one0]
    repeat (first | refine ⟨by omega, ?_⟩ | refine ⟨fun _ _ => okt_nn (by omega), ?_⟩)
    try (first | (show _ ≤ _; omega) | (show _ < _; omega))
    exact fun z => by have := z.1; omega
  · have c1' := eq_false c1
    try simp (maxSteps := 2000000) only [↓reduceIte, wp_eq, wpd_eq, kont_eq, STP1, STP2, STP3, STP4, STP5, konM_eq, AMK, CZ, Option.map, List.getElem?_cons_zero, List.getElem?_cons_succ, List.mem_cons, List.not_mem_nil, if_false, if_true, Nat.reduceAdd, Nat.reduceLT, Nat.reduceLeDiff, Nat.reduceEqDiff, true_and, and_true, List.length_nil, List.length_cons, or_true, true_or, or_false, false_or, Option.some.injEq, Sum.inl.injEq, Sum.inr.injEq, exists_eq_left', exists_eq_left, Int.reduceLE, Int.reduceLT, Int.reduceNeg, Int.reduceAdd, Int.reduceMul, Int.reduceSub, Int.reduceToNat, inR, Nat.zero_ne_one, false_and, Nat.succ_ne_zero, reduceCtorEq, false_implies, true_implies, not_false_eq_true, not_true_eq_false, Int.reduceEq, KRE, C_Model_canMend, c1', one0]
    repeat (first | refine ⟨by omega, ?_⟩ | refine ⟨fun _ _ => okt_nn (by omega), ?_⟩)
    try (first | (show _ ≤ _; omega) | (show _ < _; omega))
    refine (Model_isIn_ok hr ⟨by omega, by omega⟩ ⟨by omega, by omega⟩).eq ?_
    by_cases c2 : 1 ≤ r ∧ r ≤ (T t).2.1 - 1
    · rw [if_pos c2]
      try simp (maxSteps := 2000000) only [↓reduceIte, wp_eq, wpd_eq, kont_eq, STP1, STP2, STP3, STP4, STP5, konM_eq, AMK, CZ, Option.map, List.getElem?_cons_zero, List.getElem?_cons_succ, List.mem_cons, List.not_mem_nil, if_false, if_true, Nat.reduceAdd, Nat.reduceLT, Nat.reduceLeDiff, Nat.reduceEqDiff, true_and, and_true, List.length_nil, List.length_cons, or_true, true_or, or_false, false_or, Option.some.injEq, Sum.inl.injEq, Sum.inr.injEq, exists_eq_left', exists_eq_left, Int.reduceLE, Int.reduceLT, Int.reduceNeg, Int.reduceAdd, Int.reduceMul, Int.reduceSub, Int.reduceToNat, inR, Nat.zero_ne_one, false_and, Nat.succ_ne_zero, reduceCtorEq, false_implies, true_implies, not_false_eq_true, not_true_eq_false, Int.reduceEq, KRE, C_Model_canMend]
      repeat (first | refine ⟨by omega, ?_⟩ | refine ⟨fun _ _ => okt_nn (by omega), ?_⟩)
      try (first | (show _ ≤ _; omega) | (show _ < _; omega))
      repeat (first | refine ⟨by omega, ?_⟩ | refine ⟨fun _ _ => okt_nn (by omega), ?_⟩)
      try (first | (show _ ≤ _; omega) | (show _ < _; omega))
    · rw [if_neg c2]
      try simp (maxSteps := 2000000) only [↓reduceIte, wp_eq, wpd_eq, kont_eq, STP1, STP2, STP3, STP4, STP5, konM_eq, AMK, CZ, Option.map, List.getElem?_cons_zero, List.getElem?_cons_succ, List.mem_cons, List.not_mem_nil, if_false, if_true, Nat.reduceAdd, Nat.reduceLT, Nat.reduceLeDiff, Nat.reduceEqDiff, true_and, and_true, List.length_nil, List.length_cons, or_true, true_or, or_false, false_or, Option.some.injEq, Sum.inl.injEq, Sum.inr.injEq, exists_eq_left', exists_eq_left, Int.reduceLE, Int.reduceLT, Int.reduceNeg, Int.reduceAdd, Int.reduceMul, Int.reduceSub, Int.reduceToNat, inR, Nat.zero_ne_one, false_and, Nat.succ_ne_zero, reduceCtorEq, false_implies, true_implies, not_false_eq_true, not_true_eq_false, Int.reduceEq, KRE, C_Model_canMend]
      repeat (first | refine ⟨by omega, ?_⟩ | refine ⟨fun _ _ => okt_nn (by omega), ?_⟩)
      try (first | (show _ ≤ _; omega) | (show _ < _; omega))
      exact fun z => c2 ⟨z.2.1, by have := z.2.2; omega⟩
def trP : Nat → Nat → Prop := fun b j => b = 154 ∧ (j = 28 ∨ j = 29 ∨ 32 ≤ j ∧ j ≤ 41 ∨ j = 56 ∨ j = 57) ∨ 165 ≤ b ∧ b ≤ 167
theorem rowA_tr {M1 : Mm} {A : Rw} (f : FrP trP M M1) (h : rowA M A) : rowA M1 A :=
  rowA_cells (fun b q1 q2 j => f _ _ (by unfold trP; omega)) (f _ _ (by unfold trP; omega)) (f _ _ (by unfold trP; omega)) h
theorem scF_bst {x : Bst} (hx : okB x) : scF x = if x.1 = 0 then 0 else x.2.2.1 := rfl
set_option maxHeartbeats 600000 in
set_option maxRecDepth 20000 in
theorem Model_tries_ok {t : Nat} {w : Int} {A : Rw} {x : Int × Int} (h : mdl M n T Y lap bnd mrg) (ht : t < n) (hA : rowA M A) (hx1 : M 154 56 = x.1) (hx2 : M 154 57 = x.2) (hxi : -1 ≤ x.2 ∧ x.2 ≤ 100) :
    CallV m_Model_tries [.inr 154, .inl (t : Int), .inl w] M (fun M' => M' 154 56 = (if x.2 < scF (best A (T t) lap) then (w, scF (best A (T t) lap)) else x).1 ∧ M' 154 57 = (if x.2 < scF (best A (T t) lap) then (w, scF (best A (T t) lap)) else x).2 ∧ FrP trP M M') := by
  have n8 := h.1.2
  have lT := (mdl_t h ht).2.2.2.1.1
  have ob := okB_best (A := A) (B := T t) (lap := lap) ⟨hA.2.2.1.1.1, hA.2.1⟩ (by omega)
  have sep : ∀ b j, trP b j → b ≠ 156 ∧ b ≠ 158 := fun b j z => by unfold trP at z; omega
  have si := scF_in ob
  refine callP_of (by decide) (by decide) (Nat.le_of_ble_eq_true rfl) (wpm_of (cuts := [28]) (by decide) 60 _ _ _ _ ?_)
  rw [show lM m_Model_tries = 4 from rfl]
  simp (maxSteps := 2000000) only [↓reduceIte, wp_eq, wpd_eq, kont_eq, STP1, STP2, STP3, STP4, STP5, konM_eq, AMK, CZ, Option.map, List.getElem?_cons_zero, List.getElem?_cons_succ, List.mem_cons, List.not_mem_nil, if_false, if_true, Nat.reduceAdd, Nat.reduceLT, Nat.reduceLeDiff, Nat.reduceEqDiff, true_and, and_true, List.length_nil, List.length_cons, or_true, true_or, or_false, false_or, Option.some.injEq, Sum.inl.injEq, Sum.inr.injEq, exists_eq_left', exists_eq_left, Int.reduceLE, Int.reduceLT, Int.reduceNeg, Int.reduceAdd, Int.reduceMul, Int.reduceSub, Int.reduceToNat, inR, Nat.zero_ne_one, false_and, Nat.succ_ne_zero, reduceCtorEq, false_implies, true_implies, not_false_eq_true, not_true_eq_false, Int.reduceEq, KRE, C_Model_tries, FM]
  refine (Model_layB_ok h ht).mono (fun M1 z => ?_)
  obtain ⟨rB, F1⟩ := z
  have F1' : FrP trP M M1 := F1.wd (fun b j z => by unfold layBP at z; unfold trP; omega)
  have h1 := mdl_fr h F1' sep
  try simp (maxSteps := 2000000) only [↓reduceIte, wp_eq, wpd_eq, kont_eq, STP1, STP2, STP3, STP4, STP5, konM_eq, AMK, CZ, Option.map, List.getElem?_cons_zero, List.getElem?_cons_succ, List.mem_cons, List.not_mem_nil, if_false, if_true, Nat.reduceAdd, Nat.reduceLT, Nat.reduceLeDiff, Nat.reduceEqDiff, true_and, and_true, List.length_nil, List.length_cons, or_true, true_or, or_false, false_or, Option.some.injEq, Sum.inl.injEq, Sum.inr.injEq, exists_eq_left', exists_eq_left, Int.reduceLE, Int.reduceLT, Int.reduceNeg, Int.reduceAdd, Int.reduceMul, Int.reduceSub, Int.reduceToNat, inR, Nat.zero_ne_one, false_and, Nat.succ_ne_zero, reduceCtorEq, false_implies, true_implies, not_false_eq_true, not_true_eq_false, Int.reduceEq, KRE, C_Model_tries]
  refine (Model_bound_ok h1.2.2.1).eq ?_
  try simp (maxSteps := 2000000) only [↓reduceIte, wp_eq, wpd_eq, kont_eq, STP1, STP2, STP3, STP4, STP5, konM_eq, AMK, CZ, Option.map, List.getElem?_cons_zero, List.getElem?_cons_succ, List.mem_cons, List.not_mem_nil, if_false, if_true, Nat.reduceAdd, Nat.reduceLT, Nat.reduceLeDiff, Nat.reduceEqDiff, true_and, and_true, List.length_nil, List.length_cons, or_true, true_or, or_false, false_or, Option.some.injEq, Sum.inl.injEq, Sum.inr.injEq, exists_eq_left', exists_eq_left, Int.reduceLE, Int.reduceLT, Int.reduceNeg, Int.reduceAdd, Int.reduceMul, Int.reduceSub, Int.reduceToNat, inR, Nat.zero_ne_one, false_and, Nat.succ_ne_zero, reduceCtorEq, false_implies, true_implies, not_false_eq_true, not_true_eq_false, Int.reduceEq, KRE, C_Model_tries]
  have hb := h1.2.2.1.1.2
  refine (Model_tellBest_ok h1.2.2.1 (rowA_tr F1' hA) rB (by omega)).mono (fun M2 z => ?_)
  obtain ⟨⟨b1, b2, b3⟩, -, F2⟩ := z
  have F2' : FrP trP M M2 := F1'.tr (F2.wd (fun b j z => by unfold bestP at z; unfold trP; omega))
  have e56 : M2 154 56 = x.1 := ((F2 _ _ (by unfold bestP; omega)).trans (F1 _ _ (by unfold layBP; omega))).trans hx1
  have e57 : M2 154 57 = x.2 := ((F2 _ _ (by unfold bestP; omega)).trans (F1 _ _ (by unfold layBP; omega))).trans hx2
  have KK : WPm m_Model_tries (fun v M' => v = none ∧ M' 154 56 = (if x.2 < scF (best A (T t) lap) then (w, scF (best A (T t) lap)) else x).1 ∧ M' 154 57 = (if x.2 < scF (best A (T t) lap) then (w, scF (best A (T t) lap)) else x).2 ∧ FrP trP M M') 28 [some (.inr 154), some (.inl (t : Int)), some (.inl w), none] [.inl (scF (best A (T t) lap))] M2 := by
    by_cases c : x.2 < scF (best A (T t) lap)
    · have c' := eq_true c
      rw [if_pos c]
      refine wpm_of (cuts := []) (by decide) 60 _ _ _ _ ?_
      simp (maxSteps := 2000000) only [↓reduceIte, wp_eq, wpd_eq, kont_eq, STP1, STP2, STP3, STP4, STP5, konM_eq, AMK, CZ, Option.map, List.getElem?_cons_zero, List.getElem?_cons_succ, List.mem_cons, List.not_mem_nil, if_false, if_true, Nat.reduceAdd, Nat.reduceLT, Nat.reduceLeDiff, Nat.reduceEqDiff, true_and, and_true, List.length_nil, List.length_cons, or_true, true_or, or_false, false_or, Option.some.injEq, Sum.inl.injEq, Sum.inr.injEq, exists_eq_left', exists_eq_left, Int.reduceLE, Int.reduceLT, Int.reduceNeg, Int.reduceAdd, Int.reduceMul, Int.reduceSub, Int.reduceToNat, inR, Nat.zero_ne_one, false_and, Nat.succ_ne_zero, reduceCtorEq, false_implies, true_implies, not_false_eq_true, not_true_eq_false, Int.reduceEq, KRE, C_Model_tries, FM, e57, c']
      repeat (first | refine ⟨by omega, ?_⟩ | refine ⟨fun _ _ => okt_nn (by omega), ?_⟩)
      try (first | (show _ ≤ _; omega) | (show _ < _; omega))
      refine ⟨by simp [mset], by simp [mset], ?_⟩
      exact (F2'.st (by unfold trP; omega)).st (by unfold trP; omega)
    · have c' := eq_false c
      rw [if_neg c]
      refine wpm_of (cuts := []) (by decide) 60 _ _ _ _ ?_
      simp (maxSteps := 2000000) only [↓reduceIte, wp_eq, wpd_eq, kont_eq, STP1, STP2, STP3, STP4, STP5, konM_eq, AMK, CZ, Option.map, List.getElem?_cons_zero, List.getElem?_cons_succ, List.mem_cons, List.not_mem_nil, if_false, if_true, Nat.reduceAdd, Nat.reduceLT, Nat.reduceLeDiff, Nat.reduceEqDiff, true_and, and_true, List.length_nil, List.length_cons, or_true, true_or, or_false, false_or, Option.some.injEq, Sum.inl.injEq, Sum.inr.injEq, exists_eq_left', exists_eq_left, Int.reduceLE, Int.reduceLT, Int.reduceNeg, Int.reduceAdd, Int.reduceMul, Int.reduceSub, Int.reduceToNat, inR, Nat.zero_ne_one, false_and, Nat.succ_ne_zero, reduceCtorEq, false_implies, true_implies, not_false_eq_true, not_true_eq_false, Int.reduceEq, KRE, C_Model_tries, FM, e57, c']
      repeat (first | refine ⟨by omega, ?_⟩ | refine ⟨fun _ _ => okt_nn (by omega), ?_⟩)
      try (first | (show _ ≤ _; omega) | (show _ < _; omega))
      exact F2'
  have sb : scF (best A (T t) lap) = if (best A (T t) lap).1 = 0 then 0 else (best A (T t) lap).2.2.1 := rfl
  rcases ob.1 with o1 | o1
  · rw [if_pos o1] at sb
    rw [o1] at b1
    rw [sb] at KK ⊢
    try simp (maxSteps := 2000000) only [↓reduceIte, wp_eq, wpd_eq, kont_eq, STP1, STP2, STP3, STP4, STP5, konM_eq, AMK, CZ, Option.map, List.getElem?_cons_zero, List.getElem?_cons_succ, List.mem_cons, List.not_mem_nil, if_false, if_true, Nat.reduceAdd, Nat.reduceLT, Nat.reduceLeDiff, Nat.reduceEqDiff, true_and, and_true, List.length_nil, List.length_cons, or_true, true_or, or_false, false_or, Option.some.injEq, Sum.inl.injEq, Sum.inr.injEq, exists_eq_left', exists_eq_left, Int.reduceLE, Int.reduceLT, Int.reduceNeg, Int.reduceAdd, Int.reduceMul, Int.reduceSub, Int.reduceToNat, inR, Nat.zero_ne_one, false_and, Nat.succ_ne_zero, reduceCtorEq, false_implies, true_implies, not_false_eq_true, not_true_eq_false, Int.reduceEq, KRE, C_Model_tries, FM, b1]
    repeat (first | refine ⟨by omega, ?_⟩ | refine ⟨fun _ _ => okt_nn (by omega), ?_⟩)
    try (first | (show _ ≤ _; omega) | (show _ < _; omega))
    exact KK
  · rw [if_neg (by omega)] at sb
    have b4 := (b3 (by omega)).2.1
    rw [o1] at b1
    have one0 := eq_false (show ¬ (1 : Int) = 0 by omega)
    rw [sb] at KK ⊢
    try simp (maxSteps := 2000000) only [↓reduceIte, wp_eq, wpd_eq, kont_eq, STP1, STP2, STP3, STP4, STP5, konM_eq, AMK, CZ, Option.map, List.getElem?_cons_zero, List.getElem?_cons_succ, List.mem_cons, List.not_mem_nil, if_false, if_true, Nat.reduceAdd, Nat.reduceLT, Nat.reduceLeDiff, Nat.reduceEqDiff, true_and, and_true, List.length_nil, List.length_cons, or_true, true_or, or_false, false_or, Option.some.injEq, Sum.inl.injEq, Sum.inr.injEq, exists_eq_left', exists_eq_left, Int.reduceLE, Int.reduceLT, Int.reduceNeg, Int.reduceAdd, Int.reduceMul, Int.reduceSub, Int.reduceToNat, inR, Nat.zero_ne_one, false_and, Nat.succ_ne_zero, reduceCtorEq, false_implies, true_implies, not_false_eq_true, not_true_eq_false, Int.reduceEq, KRE, C_Model_tries, FM, b1, b4, one0]
    repeat (first | refine ⟨by omega, ?_⟩ | refine ⟨fun _ _ => okt_nn (by omega), ?_⟩)
    try (first | (show _ ≤ _; omega) | (show _ < _; omega))
    exact KK
/-- the row is the kept one again -/
theorem back_fr {P : Nat → Nat → Prop} {M1 M2 : Mm} (f : FrP (fun b j => P b j ∨ b = 158 ∧ j < 240) M M2) (h80 : ∀ j, j < 240 → M 180 j = M 158 j) (hP : ∀ j, ¬ P 180 j) : FrP P M (mCpR M2 158 180 240) := by
  intro b j z
  by_cases c : b = 158 ∧ j < 240
  · obtain ⟨rfl, c2⟩ := c
    have e : mCpR M2 158 180 240 158 j = M2 180 j := by simp [mCpR, c2]
    rw [e, f 180 j (fun w => by rcases w with w | w; exact hP j w; omega), h80 j c2]
  · have e : mCpR M2 158 180 240 b j = M2 b j := by simp only [mCpR]; rw [if_neg c]
    rw [e, f b j (fun w => by rcases w with w | w; exact z w; exact c w)]
theorem hlpL_s {T A : Rw} {lap : Int} {k : Nat} : hlpL T A lap (k + 1) = if 3 < T.2.1 ∧ T.2.2 k ≠ 0 ∧ (hlpL T A lap k).2 < scF (best A (rwRem T k) lap) then (100 + (k : Int), scF (best A (rwRem T k) lap)) else hlpL T A lap k := rfl
theorem hlpG_s {T A : Rw} {lap : Int} {k : Nat} : hlpG T A lap (k + 1) = if T.2.1 < 24 ∧ 1 ≤ k ∧ (hlpG T A lap k).2 < scF (best A (rwIns T k 1) lap) then (200 + (k : Int), scF (best A (rwIns T k 1) lap)) else hlpG T A lap k := rfl
set_option maxHeartbeats 600000 in
set_option maxRecDepth 20000 in
theorem Model_triesMended_L {t : Nat} {A : Rw} (h : mdl M n T Y lap bnd mrg) (ht : t < n) (hA : rowA M A) (h80 : ∀ j, j < 240 → M 180 j = M 158 j) (hx1 : M 154 56 = (hlpL (T t) A lap 0).1) (hx2 : M 154 57 = (hlpL (T t) A lap 0).2) :
    CallV m_Model_triesMended [.inr 154, .inl (t : Int), .inl 0] M (fun M' => M' 154 56 = (hlpL (T t) A lap (T t).2.1.toNat).1 ∧ M' 154 57 = (hlpL (T t) A lap (T t).2.1.toNat).2 ∧ FrP trP M M') := by
  have n8 := h.1.2
  have g := mdl_t h ht
  have o := g.2.2.2.1
  have o1 := o.1
  have hn : M 158 (30 * t) = ((T t).2.1.toNat : Nat) := by have := g.1.2; omega
  have sep : ∀ b j, trP b j → b ≠ 156 ∧ b ≠ 158 := fun b j z => by unfold trP at z; omega
  have hin := (hlp_in (lap := lap) o ⟨hA.2.2.1.1.1, hA.2.1⟩).1
  refine callP_of (by decide) (by decide) (Nat.le_of_ble_eq_true rfl) (wpm_of (cuts := [2]) (by decide) 60 _ _ _ _ ?_)
  rw [show lM m_Model_triesMended = 4 from rfl]
  simp (maxSteps := 2000000) only [↓reduceIte, wp_eq, wpd_eq, kont_eq, STP1, STP2, STP3, STP4, STP5, konM_eq, AMK, CZ, Option.map, List.getElem?_cons_zero, List.getElem?_cons_succ, List.mem_cons, List.not_mem_nil, if_false, if_true, Nat.reduceAdd, Nat.reduceLT, Nat.reduceLeDiff, Nat.reduceEqDiff, true_and, and_true, List.length_nil, List.length_cons, or_true, true_or, or_false, false_or, Option.some.injEq, Sum.inl.injEq, Sum.inr.injEq, exists_eq_left', exists_eq_left, Int.reduceLE, Int.reduceLT, Int.reduceNeg, Int.reduceAdd, Int.reduceMul, Int.reduceSub, Int.reduceToNat, inR, Nat.zero_ne_one, false_and, Nat.succ_ne_zero, reduceCtorEq, false_implies, true_implies, not_false_eq_true, not_true_eq_false, Int.reduceEq, KRE, C_Model_triesMended, FM]
  refine loopQ 24 (fun k ls M1 => (M1 154 56 = (hlpL (T t) A lap (min k (T t).2.1.toNat)).1 ∧ M1 154 57 = (hlpL (T t) A lap (min k (T t).2.1.toNat)).2 ∧ FrP trP M M1) ∧ ls = [some (.inr 154), some (.inl (t : Int)), some (.inl 0), some (.inl (k : Int))]) ?_ _ _ ⟨⟨hx1, hx2, FrP.rf⟩, rfl⟩
  rintro k _ M1 hk ⟨⟨q1, q2, F⟩, rfl⟩ K
  by_cases c : k = 24
  · subst c
    have c' := eq_true (show (24 : Int) ≤ (24 : Nat) by omega)
    rw [show min 24 (T t).2.1.toNat = (T t).2.1.toNat by omega] at q1 q2
    refine wpm_of (cuts := [2]) (by decide) 60 _ _ _ _ ?_
    simp (maxSteps := 2000000) only [↓reduceIte, wp_eq, wpd_eq, kont_eq, STP1, STP2, STP3, STP4, STP5, konM_eq, AMK, CZ, Option.map, List.getElem?_cons_zero, List.getElem?_cons_succ, List.mem_cons, List.not_mem_nil, if_false, if_true, Nat.reduceAdd, Nat.reduceLT, Nat.reduceLeDiff, Nat.reduceEqDiff, true_and, and_true, List.length_nil, List.length_cons, or_true, true_or, or_false, false_or, Option.some.injEq, Sum.inl.injEq, Sum.inr.injEq, exists_eq_left', exists_eq_left, Int.reduceLE, Int.reduceLT, Int.reduceNeg, Int.reduceAdd, Int.reduceMul, Int.reduceSub, Int.reduceToNat, inR, Nat.zero_ne_one, false_and, Nat.succ_ne_zero, reduceCtorEq, false_implies, true_implies, not_false_eq_true, not_true_eq_false, Int.reduceEq, KRE, C_Model_triesMended, FM, c']
    repeat (first | refine ⟨by omega, ?_⟩ | refine ⟨fun _ _ => okt_nn (by omega), ?_⟩)
    try (first | (show _ ≤ _; omega) | (show _ < _; omega))
    exact F
  · have hlt : k < 24 := by omega
    have c' := eq_false (show ¬ (24 : Int) ≤ k by omega)
    have h1 := mdl_fr h F sep
    have K' := fun M' z => K hlt _ M' ⟨z, rfl⟩
    refine wpm_of (cuts := [2]) (by decide) 60 _ _ _ _ ?_
    simp (maxSteps := 2000000) only [↓reduceIte, wp_eq, wpd_eq, kont_eq, STP1, STP2, STP3, STP4, STP5, konM_eq, AMK, CZ, Option.map, List.getElem?_cons_zero, List.getElem?_cons_succ, List.mem_cons, List.not_mem_nil, if_false, if_true, Nat.reduceAdd, Nat.reduceLT, Nat.reduceLeDiff, Nat.reduceEqDiff, true_and, and_true, List.length_nil, List.length_cons, or_true, true_or, or_false, false_or, Option.some.injEq, Sum.inl.injEq, Sum.inr.injEq, exists_eq_left', exists_eq_left, Int.reduceLE, Int.reduceLT, Int.reduceNeg, Int.reduceAdd, Int.reduceMul, Int.reduceSub, Int.reduceToNat, inR, Nat.zero_ne_one, false_and, Nat.succ_ne_zero, reduceCtorEq, false_implies, true_implies, not_false_eq_true, not_true_eq_false, Int.reduceEq, KRE, C_Model_triesMended, FM, c']
    repeat (first | refine ⟨by omega, ?_⟩ | refine ⟨fun _ _ => okt_nn (by omega), ?_⟩)
    try (first | (show _ ≤ _; omega) | (show _ < _; omega))
    refine (canMend_L (r := (k : Int)) h1 ht ⟨by omega, by omega⟩).mono (fun y M2 z => ?_)
    obtain ⟨z, rfl⟩ := z
    rcases z with ⟨rfl, cl⟩ | ⟨rfl, cl⟩
    · obtain ⟨d1, d2, d3, d4⟩ := cl
      rw [natT] at d4
      have one0 := eq_false (show ¬ (1 : Int) = 0 by omega)
      have hn1 : M2 158 (30 * t) = ((T t).2.1.toNat : Nat) := (F _ _ (by unfold trP; omega)).trans hn
      have h2 := mdl_L (i := k) h1 ht d1 d3
      have F2 : FrP (fun b j => b = 158 ∧ j < 240) M2 (mMdL M2 t (T t).2.1.toNat k) := by
        intro b j z
        simp only [mMdL]
        rw [if_neg (by omega), if_neg (by omega), if_neg (by omega), if_neg (by omega)]
      rw [show min k (T t).2.1.toNat = k by omega] at q1 q2
      rw [show min (k + 1) (T t).2.1.toNat = k + 1 by omega, hlpL_s] at K'
      have hk9 := hin k (by omega)
      try simp (maxSteps := 2000000) only [↓reduceIte, wp_eq, wpd_eq, kont_eq, STP1, STP2, STP3, STP4, STP5, konM_eq, AMK, CZ, Option.map, List.getElem?_cons_zero, List.getElem?_cons_succ, List.mem_cons, List.not_mem_nil, if_false, if_true, Nat.reduceAdd, Nat.reduceLT, Nat.reduceLeDiff, Nat.reduceEqDiff, true_and, and_true, List.length_nil, List.length_cons, or_true, true_or, or_false, false_or, Option.some.injEq, Sum.inl.injEq, Sum.inr.injEq, exists_eq_left', exists_eq_left, Int.reduceLE, Int.reduceLT, Int.reduceNeg, Int.reduceAdd, Int.reduceMul, Int.reduceSub, Int.reduceToNat, inR, Nat.zero_ne_one, false_and, Nat.succ_ne_zero, reduceCtorEq, false_implies, true_implies, not_false_eq_true, not_true_eq_false, Int.reduceEq, KRE, C_Model_triesMended, FM, one0]
      repeat (first | refine ⟨by omega, ?_⟩ | refine ⟨fun _ _ => okt_nn (by omega), ?_⟩)
      try (first | (show _ ≤ _; omega) | (show _ < _; omega))
      refine (Model_mendNow_L (t := t) (i := k) (by omega) hn1 (by omega) (by omega) (by omega)).eq ?_
      try simp (maxSteps := 2000000) only [↓reduceIte, wp_eq, wpd_eq, kont_eq, STP1, STP2, STP3, STP4, STP5, konM_eq, AMK, CZ, Option.map, List.getElem?_cons_zero, List.getElem?_cons_succ, List.mem_cons, List.not_mem_nil, if_false, if_true, Nat.reduceAdd, Nat.reduceLT, Nat.reduceLeDiff, Nat.reduceEqDiff, true_and, and_true, List.length_nil, List.length_cons, or_true, true_or, or_false, false_or, Option.some.injEq, Sum.inl.injEq, Sum.inr.injEq, exists_eq_left', exists_eq_left, Int.reduceLE, Int.reduceLT, Int.reduceNeg, Int.reduceAdd, Int.reduceMul, Int.reduceSub, Int.reduceToNat, inR, Nat.zero_ne_one, false_and, Nat.succ_ne_zero, reduceCtorEq, false_implies, true_implies, not_false_eq_true, not_true_eq_false, Int.reduceEq, KRE, C_Model_triesMended, FM]
      repeat (first | refine ⟨by omega, ?_⟩ | refine ⟨fun _ _ => okt_nn (by omega), ?_⟩)
      try (first | (show _ ≤ _; omega) | (show _ < _; omega))
      refine (Model_tries_ok (A := A) (x := hlpL (T t) A lap k) (w := 100 + (k : Int)) h2 ht (rowA_cells (fun b p1 p2 j => F2 _ _ (by omega)) (F2 _ _ (by omega)) (F2 _ _ (by omega)) (rowA_tr F hA)) ((F2 _ _ (by omega)).trans q1) ((F2 _ _ (by omega)).trans q2) (by omega)).mono (fun M3 z => ?_)
      obtain ⟨z1, z2, F3⟩ := z
      rw [show updR T t (rwRem (T t) k) t = rwRem (T t) k from if_pos rfl] at z1 z2
      try simp (maxSteps := 2000000) only [↓reduceIte, wp_eq, wpd_eq, kont_eq, STP1, STP2, STP3, STP4, STP5, konM_eq, AMK, CZ, Option.map, List.getElem?_cons_zero, List.getElem?_cons_succ, List.mem_cons, List.not_mem_nil, if_false, if_true, Nat.reduceAdd, Nat.reduceLT, Nat.reduceLeDiff, Nat.reduceEqDiff, true_and, and_true, List.length_nil, List.length_cons, or_true, true_or, or_false, false_or, Option.some.injEq, Sum.inl.injEq, Sum.inr.injEq, exists_eq_left', exists_eq_left, Int.reduceLE, Int.reduceLT, Int.reduceNeg, Int.reduceAdd, Int.reduceMul, Int.reduceSub, Int.reduceToNat, inR, Nat.zero_ne_one, false_and, Nat.succ_ne_zero, reduceCtorEq, false_implies, true_implies, not_false_eq_true, not_true_eq_false, Int.reduceEq, KRE, C_Model_triesMended, FM]
      refine (Model_copyTo_ok (a := 158) (f := 180) (n := 240) (by simp only [FM]) (by simp only [FM]) (by omega) (by omega)).eq ?_
      try simp (maxSteps := 2000000) only [↓reduceIte, wp_eq, wpd_eq, kont_eq, STP1, STP2, STP3, STP4, STP5, konM_eq, AMK, CZ, Option.map, List.getElem?_cons_zero, List.getElem?_cons_succ, List.mem_cons, List.not_mem_nil, if_false, if_true, Nat.reduceAdd, Nat.reduceLT, Nat.reduceLeDiff, Nat.reduceEqDiff, true_and, and_true, List.length_nil, List.length_cons, or_true, true_or, or_false, false_or, Option.some.injEq, Sum.inl.injEq, Sum.inr.injEq, exists_eq_left', exists_eq_left, Int.reduceLE, Int.reduceLT, Int.reduceNeg, Int.reduceAdd, Int.reduceMul, Int.reduceSub, Int.reduceToNat, inR, Nat.zero_ne_one, false_and, Nat.succ_ne_zero, reduceCtorEq, false_implies, true_implies, not_false_eq_true, not_true_eq_false, Int.reduceEq, KRE, C_Model_triesMended, FM]
      have Fb : FrP trP M (mCpR M3 158 180 240) := back_fr (M1 := M) ((F.wd (fun b j z => Or.inl z)).tr ((F2.wd (fun b j z => Or.inr z)).tr (F3.wd (fun b j z => Or.inl z)))) h80 (fun j z => by unfold trP at z; omega)
      refine K' _ ⟨?_, ?_, Fb⟩
      · have e : mCpR M3 158 180 240 154 56 = M3 154 56 := by simp [mCpR]
        rw [e, z1]
        by_cases cs : (hlpL (T t) A lap k).2 < scF (best A (rwRem (T t) k) lap)
        · rw [if_pos cs, if_pos ⟨d1, d4, cs⟩]
        · rw [if_neg cs, if_neg (fun w => cs w.2.2)]
      · have e : mCpR M3 158 180 240 154 57 = M3 154 57 := by simp [mCpR]
        rw [e, z2]
        by_cases cs : (hlpL (T t) A lap k).2 < scF (best A (rwRem (T t) k) lap)
        · rw [if_pos cs, if_pos ⟨d1, d4, cs⟩]
        · rw [if_neg cs, if_neg (fun w => cs w.2.2)]
    · try simp (maxSteps := 2000000) only [↓reduceIte, wp_eq, wpd_eq, kont_eq, STP1, STP2, STP3, STP4, STP5, konM_eq, AMK, CZ, Option.map, List.getElem?_cons_zero, List.getElem?_cons_succ, List.mem_cons, List.not_mem_nil, if_false, if_true, Nat.reduceAdd, Nat.reduceLT, Nat.reduceLeDiff, Nat.reduceEqDiff, true_and, and_true, List.length_nil, List.length_cons, or_true, true_or, or_false, false_or, Option.some.injEq, Sum.inl.injEq, Sum.inr.injEq, exists_eq_left', exists_eq_left, Int.reduceLE, Int.reduceLT, Int.reduceNeg, Int.reduceAdd, Int.reduceMul, Int.reduceSub, Int.reduceToNat, inR, Nat.zero_ne_one, false_and, Nat.succ_ne_zero, reduceCtorEq, false_implies, true_implies, not_false_eq_true, not_true_eq_false, Int.reduceEq, KRE, C_Model_triesMended, FM]
      repeat (first | refine ⟨by omega, ?_⟩ | refine ⟨fun _ _ => okt_nn (by omega), ?_⟩)
      try (first | (show _ ≤ _; omega) | (show _ < _; omega))
      refine K' _ ⟨?_, ?_, F⟩
      · rw [q1]
        by_cases ck : k < (T t).2.1.toNat
        · rw [show min k (T t).2.1.toNat = k by omega, show min (k + 1) (T t).2.1.toNat = k + 1 by omega, hlpL_s, if_neg]
          rintro ⟨w1, w2, -⟩
          exact cl ⟨w1, by omega, by omega, by rw [natT]; exact w2⟩
        · rw [show min (k + 1) (T t).2.1.toNat = min k (T t).2.1.toNat by omega]
      · rw [q2]
        by_cases ck : k < (T t).2.1.toNat
        · rw [show min k (T t).2.1.toNat = k by omega, show min (k + 1) (T t).2.1.toNat = k + 1 by omega, hlpL_s, if_neg]
          rintro ⟨w1, w2, -⟩
          exact cl ⟨w1, by omega, by omega, by rw [natT]; exact w2⟩
        · rw [show min (k + 1) (T t).2.1.toNat = min k (T t).2.1.toNat by omega]
set_option maxHeartbeats 600000 in
set_option maxRecDepth 20000 in
theorem Model_triesMended_G {t : Nat} {A : Rw} (h : mdl M n T Y lap bnd mrg) (ht : t < n) (hA : rowA M A) (h80 : ∀ j, j < 240 → M 180 j = M 158 j) (hx1 : M 154 56 = (hlpG (T t) A lap 0).1) (hx2 : M 154 57 = (hlpG (T t) A lap 0).2) :
    CallV m_Model_triesMended [.inr 154, .inl (t : Int), .inl 1] M (fun M' => M' 154 56 = (hlpG (T t) A lap (T t).2.1.toNat).1 ∧ M' 154 57 = (hlpG (T t) A lap (T t).2.1.toNat).2 ∧ FrP trP M M') := by
  have n8 := h.1.2
  have g := mdl_t h ht
  have o := g.2.2.2.1
  have o1 := o.1
  have hn : M 158 (30 * t) = ((T t).2.1.toNat : Nat) := by have := g.1.2; omega
  have sep : ∀ b j, trP b j → b ≠ 156 ∧ b ≠ 158 := fun b j z => by unfold trP at z; omega
  have hin := (hlp_in (lap := lap) o ⟨hA.2.2.1.1.1, hA.2.1⟩).2
  refine callP_of (by decide) (by decide) (Nat.le_of_ble_eq_true rfl) (wpm_of (cuts := [2]) (by decide) 60 _ _ _ _ ?_)
  rw [show lM m_Model_triesMended = 4 from rfl]
  simp (maxSteps := 2000000) only [↓reduceIte, wp_eq, wpd_eq, kont_eq, STP1, STP2, STP3, STP4, STP5, konM_eq, AMK, CZ, Option.map, List.getElem?_cons_zero, List.getElem?_cons_succ, List.mem_cons, List.not_mem_nil, if_false, if_true, Nat.reduceAdd, Nat.reduceLT, Nat.reduceLeDiff, Nat.reduceEqDiff, true_and, and_true, List.length_nil, List.length_cons, or_true, true_or, or_false, false_or, Option.some.injEq, Sum.inl.injEq, Sum.inr.injEq, exists_eq_left', exists_eq_left, Int.reduceLE, Int.reduceLT, Int.reduceNeg, Int.reduceAdd, Int.reduceMul, Int.reduceSub, Int.reduceToNat, inR, Nat.zero_ne_one, false_and, Nat.succ_ne_zero, reduceCtorEq, false_implies, true_implies, not_false_eq_true, not_true_eq_false, Int.reduceEq, KRE, C_Model_triesMended, FM]
  refine loopQ 24 (fun k ls M1 => (M1 154 56 = (hlpG (T t) A lap (min k (T t).2.1.toNat)).1 ∧ M1 154 57 = (hlpG (T t) A lap (min k (T t).2.1.toNat)).2 ∧ FrP trP M M1) ∧ ls = [some (.inr 154), some (.inl (t : Int)), some (.inl 1), some (.inl (k : Int))]) ?_ _ _ ⟨⟨hx1, hx2, FrP.rf⟩, rfl⟩
  rintro k _ M1 hk ⟨⟨q1, q2, F⟩, rfl⟩ K
  have one0 := eq_false (show ¬ (1 : Int) = 0 by omega)
  by_cases c : k = 24
  · subst c
    have c' := eq_true (show (24 : Int) ≤ (24 : Nat) by omega)
    rw [show min 24 (T t).2.1.toNat = (T t).2.1.toNat by omega] at q1 q2
    refine wpm_of (cuts := [2]) (by decide) 60 _ _ _ _ ?_
    simp (maxSteps := 2000000) only [↓reduceIte, wp_eq, wpd_eq, kont_eq, STP1, STP2, STP3, STP4, STP5, konM_eq, AMK, CZ, Option.map, List.getElem?_cons_zero, List.getElem?_cons_succ, List.mem_cons, List.not_mem_nil, if_false, if_true, Nat.reduceAdd, Nat.reduceLT, Nat.reduceLeDiff, Nat.reduceEqDiff, true_and, and_true, List.length_nil, List.length_cons, or_true, true_or, or_false, false_or, Option.some.injEq, Sum.inl.injEq, Sum.inr.injEq, exists_eq_left', exists_eq_left, Int.reduceLE, Int.reduceLT, Int.reduceNeg, Int.reduceAdd, Int.reduceMul, Int.reduceSub, Int.reduceToNat, inR, Nat.zero_ne_one, false_and, Nat.succ_ne_zero, reduceCtorEq, false_implies, true_implies, not_false_eq_true, not_true_eq_false, Int.reduceEq, KRE, C_Model_triesMended, FM, c']
    repeat (first | refine ⟨by omega, ?_⟩ | refine ⟨fun _ _ => okt_nn (by omega), ?_⟩)
    try (first | (show _ ≤ _; omega) | (show _ < _; omega))
    exact F
  · have hlt : k < 24 := by omega
    have c' := eq_false (show ¬ (24 : Int) ≤ k by omega)
    have h1 := mdl_fr h F sep
    have K' := fun M' z => K hlt _ M' ⟨z, rfl⟩
    refine wpm_of (cuts := [2]) (by decide) 60 _ _ _ _ ?_
    simp (maxSteps := 2000000) only [↓reduceIte, wp_eq, wpd_eq, kont_eq, STP1, STP2, STP3, STP4, STP5, konM_eq, AMK, CZ, Option.map, List.getElem?_cons_zero, List.getElem?_cons_succ, List.mem_cons, List.not_mem_nil, if_false, if_true, Nat.reduceAdd, Nat.reduceLT, Nat.reduceLeDiff, Nat.reduceEqDiff, true_and, and_true, List.length_nil, List.length_cons, or_true, true_or, or_false, false_or, Option.some.injEq, Sum.inl.injEq, Sum.inr.injEq, exists_eq_left', exists_eq_left, Int.reduceLE, Int.reduceLT, Int.reduceNeg, Int.reduceAdd, Int.reduceMul, Int.reduceSub, Int.reduceToNat, inR, Nat.zero_ne_one, false_and, Nat.succ_ne_zero, reduceCtorEq, false_implies, true_implies, not_false_eq_true, not_true_eq_false, Int.reduceEq, KRE, C_Model_triesMended, FM, c']
    repeat (first | refine ⟨by omega, ?_⟩ | refine ⟨fun _ _ => okt_nn (by omega), ?_⟩)
    try (first | (show _ ≤ _; omega) | (show _ < _; omega))
    refine (canMend_G (r := (k : Int)) h1 ht ⟨by omega, by omega⟩).mono (fun y M2 z => ?_)
    obtain ⟨z, rfl⟩ := z
    rcases z with ⟨rfl, cl⟩ | ⟨rfl, cl⟩
    · obtain ⟨d1, d2, d3⟩ := cl
      have hn1 : M2 158 (30 * t) = ((T t).2.1.toNat : Nat) := (F _ _ (by unfold trP; omega)).trans hn
      have h2 := mdl_G (i := k) h1 ht d1 (by omega)
      have F2 : FrP (fun b j => b = 158 ∧ j < 240) M2 (mMdG M2 t (T t).2.1.toNat k) := by
        intro b j z
        simp only [mMdG]
        rw [if_neg (by omega), if_neg (by omega), if_neg (by omega), if_neg (by omega)]
      rw [show min k (T t).2.1.toNat = k by omega] at q1 q2
      rw [show min (k + 1) (T t).2.1.toNat = k + 1 by omega, hlpG_s] at K'
      have hk9 := hin k (by omega)
      try simp (maxSteps := 2000000) only [↓reduceIte, wp_eq, wpd_eq, kont_eq, STP1, STP2, STP3, STP4, STP5, konM_eq, AMK, CZ, Option.map, List.getElem?_cons_zero, List.getElem?_cons_succ, List.mem_cons, List.not_mem_nil, if_false, if_true, Nat.reduceAdd, Nat.reduceLT, Nat.reduceLeDiff, Nat.reduceEqDiff, true_and, and_true, List.length_nil, List.length_cons, or_true, true_or, or_false, false_or, Option.some.injEq, Sum.inl.injEq, Sum.inr.injEq, exists_eq_left', exists_eq_left, Int.reduceLE, Int.reduceLT, Int.reduceNeg, Int.reduceAdd, Int.reduceMul, Int.reduceSub, Int.reduceToNat, inR, Nat.zero_ne_one, false_and, Nat.succ_ne_zero, reduceCtorEq, false_implies, true_implies, not_false_eq_true, not_true_eq_false, Int.reduceEq, KRE, C_Model_triesMended, FM, one0]
      repeat (first | refine ⟨by omega, ?_⟩ | refine ⟨fun _ _ => okt_nn (by omega), ?_⟩)
      try (first | (show _ ≤ _; omega) | (show _ < _; omega))
      refine (Model_mendNow_G (t := t) (i := k) (by omega) hn1 (by omega) (by omega)).eq ?_
      try simp (maxSteps := 2000000) only [↓reduceIte, wp_eq, wpd_eq, kont_eq, STP1, STP2, STP3, STP4, STP5, konM_eq, AMK, CZ, Option.map, List.getElem?_cons_zero, List.getElem?_cons_succ, List.mem_cons, List.not_mem_nil, if_false, if_true, Nat.reduceAdd, Nat.reduceLT, Nat.reduceLeDiff, Nat.reduceEqDiff, true_and, and_true, List.length_nil, List.length_cons, or_true, true_or, or_false, false_or, Option.some.injEq, Sum.inl.injEq, Sum.inr.injEq, exists_eq_left', exists_eq_left, Int.reduceLE, Int.reduceLT, Int.reduceNeg, Int.reduceAdd, Int.reduceMul, Int.reduceSub, Int.reduceToNat, inR, Nat.zero_ne_one, false_and, Nat.succ_ne_zero, reduceCtorEq, false_implies, true_implies, not_false_eq_true, not_true_eq_false, Int.reduceEq, KRE, C_Model_triesMended, FM, one0]
      repeat (first | refine ⟨by omega, ?_⟩ | refine ⟨fun _ _ => okt_nn (by omega), ?_⟩)
      try (first | (show _ ≤ _; omega) | (show _ < _; omega))
      refine (Model_tries_ok (A := A) (x := hlpG (T t) A lap k) (w := 200 + (k : Int)) h2 ht (rowA_cells (fun b p1 p2 j => F2 _ _ (by omega)) (F2 _ _ (by omega)) (F2 _ _ (by omega)) (rowA_tr F hA)) ((F2 _ _ (by omega)).trans q1) ((F2 _ _ (by omega)).trans q2) (by omega)).mono (fun M3 z => ?_)
      obtain ⟨z1, z2, F3⟩ := z
      rw [show updR T t (rwIns (T t) k 1) t = rwIns (T t) k 1 from if_pos rfl] at z1 z2
      try simp (maxSteps := 2000000) only [↓reduceIte, wp_eq, wpd_eq, kont_eq, STP1, STP2, STP3, STP4, STP5, konM_eq, AMK, CZ, Option.map, List.getElem?_cons_zero, List.getElem?_cons_succ, List.mem_cons, List.not_mem_nil, if_false, if_true, Nat.reduceAdd, Nat.reduceLT, Nat.reduceLeDiff, Nat.reduceEqDiff, true_and, and_true, List.length_nil, List.length_cons, or_true, true_or, or_false, false_or, Option.some.injEq, Sum.inl.injEq, Sum.inr.injEq, exists_eq_left', exists_eq_left, Int.reduceLE, Int.reduceLT, Int.reduceNeg, Int.reduceAdd, Int.reduceMul, Int.reduceSub, Int.reduceToNat, inR, Nat.zero_ne_one, false_and, Nat.succ_ne_zero, reduceCtorEq, false_implies, true_implies, not_false_eq_true, not_true_eq_false, Int.reduceEq, KRE, C_Model_triesMended, FM]
      refine (Model_copyTo_ok (a := 158) (f := 180) (n := 240) (by simp only [FM]) (by simp only [FM]) (by omega) (by omega)).eq ?_
      try simp (maxSteps := 2000000) only [↓reduceIte, wp_eq, wpd_eq, kont_eq, STP1, STP2, STP3, STP4, STP5, konM_eq, AMK, CZ, Option.map, List.getElem?_cons_zero, List.getElem?_cons_succ, List.mem_cons, List.not_mem_nil, if_false, if_true, Nat.reduceAdd, Nat.reduceLT, Nat.reduceLeDiff, Nat.reduceEqDiff, true_and, and_true, List.length_nil, List.length_cons, or_true, true_or, or_false, false_or, Option.some.injEq, Sum.inl.injEq, Sum.inr.injEq, exists_eq_left', exists_eq_left, Int.reduceLE, Int.reduceLT, Int.reduceNeg, Int.reduceAdd, Int.reduceMul, Int.reduceSub, Int.reduceToNat, inR, Nat.zero_ne_one, false_and, Nat.succ_ne_zero, reduceCtorEq, false_implies, true_implies, not_false_eq_true, not_true_eq_false, Int.reduceEq, KRE, C_Model_triesMended, FM]
      have Fb : FrP trP M (mCpR M3 158 180 240) := back_fr (M1 := M) ((F.wd (fun b j z => Or.inl z)).tr ((F2.wd (fun b j z => Or.inr z)).tr (F3.wd (fun b j z => Or.inl z)))) h80 (fun j z => by unfold trP at z; omega)
      refine K' _ ⟨?_, ?_, Fb⟩
      · have e : mCpR M3 158 180 240 154 56 = M3 154 56 := by simp [mCpR]
        rw [e, z1]
        by_cases cs : (hlpG (T t) A lap k).2 < scF (best A (rwIns (T t) k 1) lap)
        · rw [if_pos cs, if_pos ⟨d1, by omega, cs⟩]
        · rw [if_neg cs, if_neg (fun w => cs w.2.2)]
      · have e : mCpR M3 158 180 240 154 57 = M3 154 57 := by simp [mCpR]
        rw [e, z2]
        by_cases cs : (hlpG (T t) A lap k).2 < scF (best A (rwIns (T t) k 1) lap)
        · rw [if_pos cs, if_pos ⟨d1, by omega, cs⟩]
        · rw [if_neg cs, if_neg (fun w => cs w.2.2)]
    · try simp (maxSteps := 2000000) only [↓reduceIte, wp_eq, wpd_eq, kont_eq, STP1, STP2, STP3, STP4, STP5, konM_eq, AMK, CZ, Option.map, List.getElem?_cons_zero, List.getElem?_cons_succ, List.mem_cons, List.not_mem_nil, if_false, if_true, Nat.reduceAdd, Nat.reduceLT, Nat.reduceLeDiff, Nat.reduceEqDiff, true_and, and_true, List.length_nil, List.length_cons, or_true, true_or, or_false, false_or, Option.some.injEq, Sum.inl.injEq, Sum.inr.injEq, exists_eq_left', exists_eq_left, Int.reduceLE, Int.reduceLT, Int.reduceNeg, Int.reduceAdd, Int.reduceMul, Int.reduceSub, Int.reduceToNat, inR, Nat.zero_ne_one, false_and, Nat.succ_ne_zero, reduceCtorEq, false_implies, true_implies, not_false_eq_true, not_true_eq_false, Int.reduceEq, KRE, C_Model_triesMended, FM]
      repeat (first | refine ⟨by omega, ?_⟩ | refine ⟨fun _ _ => okt_nn (by omega), ?_⟩)
      try (first | (show _ ≤ _; omega) | (show _ < _; omega))
      refine K' _ ⟨?_, ?_, F⟩
      · rw [q1]
        by_cases ck : k < (T t).2.1.toNat
        · rw [show min k (T t).2.1.toNat = k by omega, show min (k + 1) (T t).2.1.toNat = k + 1 by omega, hlpG_s, if_neg]
          rintro ⟨w1, w2, -⟩
          exact cl ⟨w1, by omega, by omega⟩
        · rw [show min (k + 1) (T t).2.1.toNat = min k (T t).2.1.toNat by omega]
      · rw [q2]
        by_cases ck : k < (T t).2.1.toNat
        · rw [show min k (T t).2.1.toNat = k by omega, show min (k + 1) (T t).2.1.toNat = k + 1 by omega, hlpG_s, if_neg]
          rintro ⟨w1, w2, -⟩
          exact cl ⟨w1, by omega, by omega⟩
        · rw [show min (k + 1) (T t).2.1.toNat = min k (T t).2.1.toNat by omega]
set_option maxHeartbeats 600000 in
set_option maxRecDepth 20000 in
theorem Mhelp_ok {t : Nat} {w : Int} (h : mdl M n T Y lap bnd mrg) (ht : t < n) (hY : Y t = -1) (hw : w = 0 ∨ w = 1) : CallI m_Model_help [.inr 154, .inl (t : Int), .inl w] M (fun y M' => y = (if w = 0 then (hlpG (T t) (chr T Y (-1) n) lap (T t).2.1.toNat).1 else (hlpG (T t) (chr T Y (-1) n) lap (T t).2.1.toNat).2) ∧ rsM M 0 M') := by
  have h0 : mdl (mset M 154 1 0) n T Y lap bnd mrg := mdl_fr h scr_0 scr_mdl
  have n8 := h.1.2
  have o := (mdl_t h ht).2.2.2.1
  have hc := h.2.2.2
  have rr := chr_R (wo := -1) hc
  have sep : ∀ b j, trP b j → b ≠ 156 ∧ b ≠ 158 := fun b j z => by unfold trP at z; omega
  have sepc : ∀ b j, chrP b j → b ≠ 156 ∧ b ≠ 158 := fun b j z => by unfold chrP at z; omega
  refine callP_of (by decide) (by decide) (Nat.le_of_ble_eq_true rfl) (wpm_of (cuts := []) (by decide) 60 _ _ _ _ ?_)
  rw [show lM m_Model_help = 3 from rfl]
  simp (maxSteps := 2000000) only [↓reduceIte, wp_eq, wpd_eq, kont_eq, STP1, STP2, STP3, STP4, STP5, konM_eq, AMK, CZ, Option.map, List.getElem?_cons_zero, List.getElem?_cons_succ, List.mem_cons, List.not_mem_nil, if_false, if_true, Nat.reduceAdd, Nat.reduceLT, Nat.reduceLeDiff, Nat.reduceEqDiff, true_and, and_true, List.length_nil, List.length_cons, or_true, true_or, or_false, false_or, Option.some.injEq, Sum.inl.injEq, Sum.inr.injEq, exists_eq_left', exists_eq_left, Int.reduceLE, Int.reduceLT, Int.reduceNeg, Int.reduceAdd, Int.reduceMul, Int.reduceSub, Int.reduceToNat, inR, Nat.zero_ne_one, false_and, Nat.succ_ne_zero, reduceCtorEq, false_implies, true_implies, not_false_eq_true, not_true_eq_false, Int.reduceEq, KRE, C_Model_help, FM]
  refine (isTimber_y h0 ht).eq ?_
  try simp (maxSteps := 2000000) only [↓reduceIte, wp_eq, wpd_eq, kont_eq, STP1, STP2, STP3, STP4, STP5, konM_eq, AMK, CZ, Option.map, List.getElem?_cons_zero, List.getElem?_cons_succ, List.mem_cons, List.not_mem_nil, if_false, if_true, Nat.reduceAdd, Nat.reduceLT, Nat.reduceLeDiff, Nat.reduceEqDiff, true_and, and_true, List.length_nil, List.length_cons, or_true, true_or, or_false, false_or, Option.some.injEq, Sum.inl.injEq, Sum.inr.injEq, exists_eq_left', exists_eq_left, Int.reduceLE, Int.reduceLT, Int.reduceNeg, Int.reduceAdd, Int.reduceMul, Int.reduceSub, Int.reduceToNat, inR, Nat.zero_ne_one, false_and, Nat.succ_ne_zero, reduceCtorEq, false_implies, true_implies, not_false_eq_true, not_true_eq_false, Int.reduceEq, KRE, C_Model_help]
  repeat (first | refine ⟨by omega, ?_⟩ | refine ⟨fun _ _ => okt_nn (by omega), ?_⟩)
  try (first | (show _ ≤ _; omega) | (show _ < _; omega))
  refine (Model_isIn_ok ⟨by omega, by omega⟩ ⟨by omega, by omega⟩ ⟨by omega, by omega⟩).eq ?_
  rw [if_pos (by omega)]
  try simp (maxSteps := 2000000) only [↓reduceIte, wp_eq, wpd_eq, kont_eq, STP1, STP2, STP3, STP4, STP5, konM_eq, AMK, CZ, Option.map, List.getElem?_cons_zero, List.getElem?_cons_succ, List.mem_cons, List.not_mem_nil, if_false, if_true, Nat.reduceAdd, Nat.reduceLT, Nat.reduceLeDiff, Nat.reduceEqDiff, true_and, and_true, List.length_nil, List.length_cons, or_true, true_or, or_false, false_or, Option.some.injEq, Sum.inl.injEq, Sum.inr.injEq, exists_eq_left', exists_eq_left, Int.reduceLE, Int.reduceLT, Int.reduceNeg, Int.reduceAdd, Int.reduceMul, Int.reduceSub, Int.reduceToNat, inR, Nat.zero_ne_one, false_and, Nat.succ_ne_zero, reduceCtorEq, false_implies, true_implies, not_false_eq_true, not_true_eq_false, Int.reduceEq, KRE, C_Model_help]
  repeat (first | refine ⟨by omega, ?_⟩ | refine ⟨fun _ _ => okt_nn (by omega), ?_⟩)
  try (first | (show _ ≤ _; omega) | (show _ < _; omega))
  refine (dated_m h0 ht).eq ?_
  rw [if_neg (fun z => z hY)]
  try simp (maxSteps := 2000000) only [↓reduceIte, wp_eq, wpd_eq, kont_eq, STP1, STP2, STP3, STP4, STP5, konM_eq, AMK, CZ, Option.map, List.getElem?_cons_zero, List.getElem?_cons_succ, List.mem_cons, List.not_mem_nil, if_false, if_true, Nat.reduceAdd, Nat.reduceLT, Nat.reduceLeDiff, Nat.reduceEqDiff, true_and, and_true, List.length_nil, List.length_cons, or_true, true_or, or_false, false_or, Option.some.injEq, Sum.inl.injEq, Sum.inr.injEq, exists_eq_left', exists_eq_left, Int.reduceLE, Int.reduceLT, Int.reduceNeg, Int.reduceAdd, Int.reduceMul, Int.reduceSub, Int.reduceToNat, inR, Nat.zero_ne_one, false_and, Nat.succ_ne_zero, reduceCtorEq, false_implies, true_implies, not_false_eq_true, not_true_eq_false, Int.reduceEq, KRE, C_Model_help, FM]
  repeat (first | refine ⟨by omega, ?_⟩ | refine ⟨fun _ _ => okt_nn (by omega), ?_⟩)
  try (first | (show _ ≤ _; omega) | (show _ < _; omega))
  refine (Model_copyTo_ok (a := 180) (f := 158) (n := 240) (by simp only [FM]) (by simp only [FM]) (by omega) (by omega)).eq ?_
  have F1 : FrP (fun b _ => b = 180) (mset M 154 1 0) (mCpR (mset M 154 1 0) 180 158 240) := fun b j z => by simp [mCpR, z]
  have h80 : ∀ j, j < 240 → mCpR (mset M 154 1 0) 180 158 240 180 j = mCpR (mset M 154 1 0) 180 158 240 158 j := fun j hj => by simp [mCpR, hj]
  have rs1 := rsM_fr rsM_0 F1 (fun b j z => by unfold scrM; omega)
  have h1 := mdl_fr h0 F1 (fun b j z => by omega)
  generalize mCpR (mset M 154 1 0) 180 158 240 = M1 at *
  try simp (maxSteps := 2000000) only [↓reduceIte, wp_eq, wpd_eq, kont_eq, STP1, STP2, STP3, STP4, STP5, konM_eq, AMK, CZ, Option.map, List.getElem?_cons_zero, List.getElem?_cons_succ, List.mem_cons, List.not_mem_nil, if_false, if_true, Nat.reduceAdd, Nat.reduceLT, Nat.reduceLeDiff, Nat.reduceEqDiff, true_and, and_true, List.length_nil, List.length_cons, or_true, true_or, or_false, false_or, Option.some.injEq, Sum.inl.injEq, Sum.inr.injEq, exists_eq_left', exists_eq_left, Int.reduceLE, Int.reduceLT, Int.reduceNeg, Int.reduceAdd, Int.reduceMul, Int.reduceSub, Int.reduceToNat, inR, Nat.zero_ne_one, false_and, Nat.succ_ne_zero, reduceCtorEq, false_implies, true_implies, not_false_eq_true, not_true_eq_false, Int.reduceEq, KRE, C_Model_help, FM]
  refine (Model_layChronology_ok (wo := -1) h1 ⟨by omega, by omega⟩).mono (fun M2 z => ?_)
  obtain ⟨rA, -, F2⟩ := z
  have rs2 := rsM_fr rs1 F2 (fun b j z => by unfold chrP at z; unfold scrM; omega)
  have h2 := mdl_fr h1 F2 sepc
  have h802 : ∀ j, j < 240 → M2 180 j = M2 158 j := fun j hj => by rw [F2 _ _ (by unfold chrP; omega), F2 _ _ (by unfold chrP; omega)]; exact h80 j hj
  try simp (maxSteps := 2000000) only [↓reduceIte, wp_eq, wpd_eq, kont_eq, STP1, STP2, STP3, STP4, STP5, konM_eq, AMK, CZ, Option.map, List.getElem?_cons_zero, List.getElem?_cons_succ, List.mem_cons, List.not_mem_nil, if_false, if_true, Nat.reduceAdd, Nat.reduceLT, Nat.reduceLeDiff, Nat.reduceEqDiff, true_and, and_true, List.length_nil, List.length_cons, or_true, true_or, or_false, false_or, Option.some.injEq, Sum.inl.injEq, Sum.inr.injEq, exists_eq_left', exists_eq_left, Int.reduceLE, Int.reduceLT, Int.reduceNeg, Int.reduceAdd, Int.reduceMul, Int.reduceSub, Int.reduceToNat, inR, Nat.zero_ne_one, false_and, Nat.succ_ne_zero, reduceCtorEq, false_implies, true_implies, not_false_eq_true, not_true_eq_false, Int.reduceEq, KRE, C_Model_help, FM]
  have F3 : FrP trP M2 (mset (mset M2 154 56 0) 154 57 (-1)) := (FrP.rf.st (by unfold trP; omega)).st (by unfold trP; omega)
  have h3 := mdl_fr h2 F3 sep
  have si := scF_in (x := best (chr T Y (-1) n) (T t) lap) (okB_best rr.2 (by have := o.1; omega))
  refine (Model_tries_ok (A := chr T Y (-1) n) (x := (0, -1)) (w := 0) h3 ht (rowA_tr F3 rA) (by simp [mset]) (by simp [mset]) ⟨by simp, by simp⟩).mono (fun M4 z => ?_)
  obtain ⟨z1, z2, F4⟩ := z
  rw [if_pos (show ((0 : Int), (-1 : Int)).2 < _ by show (-1 : Int) < _; omega)] at z1 z2
  have F34 := F3.tr F4
  have h4 := mdl_fr h2 F34 sep
  try simp (maxSteps := 2000000) only [↓reduceIte, wp_eq, wpd_eq, kont_eq, STP1, STP2, STP3, STP4, STP5, konM_eq, AMK, CZ, Option.map, List.getElem?_cons_zero, List.getElem?_cons_succ, List.mem_cons, List.not_mem_nil, if_false, if_true, Nat.reduceAdd, Nat.reduceLT, Nat.reduceLeDiff, Nat.reduceEqDiff, true_and, and_true, List.length_nil, List.length_cons, or_true, true_or, or_false, false_or, Option.some.injEq, Sum.inl.injEq, Sum.inr.injEq, exists_eq_left', exists_eq_left, Int.reduceLE, Int.reduceLT, Int.reduceNeg, Int.reduceAdd, Int.reduceMul, Int.reduceSub, Int.reduceToNat, inR, Nat.zero_ne_one, false_and, Nat.succ_ne_zero, reduceCtorEq, false_implies, true_implies, not_false_eq_true, not_true_eq_false, Int.reduceEq, KRE, C_Model_help, FM]
  refine (Model_triesMended_L (A := chr T Y (-1) n) h4 ht (rowA_tr F34 rA) (fun j hj => by rw [F34 _ _ (by unfold trP; omega), F34 _ _ (by unfold trP; omega)]; exact h802 j hj) z1 z2).mono (fun M5 z => ?_)
  obtain ⟨y1, y2, F5⟩ := z
  have F35 := F34.tr F5
  have h5 := mdl_fr h2 F35 sep
  try simp (maxSteps := 2000000) only [↓reduceIte, wp_eq, wpd_eq, kont_eq, STP1, STP2, STP3, STP4, STP5, konM_eq, AMK, CZ, Option.map, List.getElem?_cons_zero, List.getElem?_cons_succ, List.mem_cons, List.not_mem_nil, if_false, if_true, Nat.reduceAdd, Nat.reduceLT, Nat.reduceLeDiff, Nat.reduceEqDiff, true_and, and_true, List.length_nil, List.length_cons, or_true, true_or, or_false, false_or, Option.some.injEq, Sum.inl.injEq, Sum.inr.injEq, exists_eq_left', exists_eq_left, Int.reduceLE, Int.reduceLT, Int.reduceNeg, Int.reduceAdd, Int.reduceMul, Int.reduceSub, Int.reduceToNat, inR, Nat.zero_ne_one, false_and, Nat.succ_ne_zero, reduceCtorEq, false_implies, true_implies, not_false_eq_true, not_true_eq_false, Int.reduceEq, KRE, C_Model_help, FM]
  refine (Model_triesMended_G (A := chr T Y (-1) n) h5 ht (rowA_tr F35 rA) (fun j hj => by rw [F35 _ _ (by unfold trP; omega), F35 _ _ (by unfold trP; omega)]; exact h802 j hj) y1 y2).mono (fun M6 z => ?_)
  obtain ⟨x1, x2, F6⟩ := z
  have rs6 := rsM_fr rs2 (F35.tr F6) (fun b j z => by unfold trP at z; unfold scrM; omega)
  rcases hw with rfl | rfl
  · try simp (maxSteps := 2000000) only [↓reduceIte, wp_eq, wpd_eq, kont_eq, STP1, STP2, STP3, STP4, STP5, konM_eq, AMK, CZ, Option.map, List.getElem?_cons_zero, List.getElem?_cons_succ, List.mem_cons, List.not_mem_nil, if_false, if_true, Nat.reduceAdd, Nat.reduceLT, Nat.reduceLeDiff, Nat.reduceEqDiff, true_and, and_true, List.length_nil, List.length_cons, or_true, true_or, or_false, false_or, Option.some.injEq, Sum.inl.injEq, Sum.inr.injEq, exists_eq_left', exists_eq_left, Int.reduceLE, Int.reduceLT, Int.reduceNeg, Int.reduceAdd, Int.reduceMul, Int.reduceSub, Int.reduceToNat, inR, Nat.zero_ne_one, false_and, Nat.succ_ne_zero, reduceCtorEq, false_implies, true_implies, not_false_eq_true, not_true_eq_false, Int.reduceEq, KRE, C_Model_help, FM, x1]
    repeat (first | refine ⟨by omega, ?_⟩ | refine ⟨fun _ _ => okt_nn (by omega), ?_⟩)
    try (first | (show _ ≤ _; omega) | (show _ < _; omega))
    first | exact rs6 | exact ⟨rfl, rs6⟩ | exact ⟨by simp, rs6⟩ | exact ⟨by omega, rs6⟩ | exact ⟨by simp, rfl, rs6⟩ | exact ⟨by omega, rfl, rs6⟩ | exact ⟨by simp, by simp, rs6⟩ | exact ⟨by omega, by simp, rs6⟩ | (simp; first | exact rs6 | exact ⟨by omega, rs6⟩)
  · have one0 := eq_false (show ¬ (1 : Int) = 0 by omega)
    rw [if_neg (by omega)]
    try simp (maxSteps := 2000000) only [↓reduceIte, wp_eq, wpd_eq, kont_eq, STP1, STP2, STP3, STP4, STP5, konM_eq, AMK, CZ, Option.map, List.getElem?_cons_zero, List.getElem?_cons_succ, List.mem_cons, List.not_mem_nil, if_false, if_true, Nat.reduceAdd, Nat.reduceLT, Nat.reduceLeDiff, Nat.reduceEqDiff, true_and, and_true, List.length_nil, List.length_cons, or_true, true_or, or_false, false_or, Option.some.injEq, Sum.inl.injEq, Sum.inr.injEq, exists_eq_left', exists_eq_left, Int.reduceLE, Int.reduceLT, Int.reduceNeg, Int.reduceAdd, Int.reduceMul, Int.reduceSub, Int.reduceToNat, inR, Nat.zero_ne_one, false_and, Nat.succ_ne_zero, reduceCtorEq, false_implies, true_implies, not_false_eq_true, not_true_eq_false, Int.reduceEq, KRE, C_Model_help, FM, x2, one0]
    repeat (first | refine ⟨by omega, ?_⟩ | refine ⟨fun _ _ => okt_nn (by omega), ?_⟩)
    try (first | (show _ ≤ _; omega) | (show _ < _; omega))
    first | exact rs6 | exact ⟨rfl, rs6⟩ | exact ⟨by simp, rs6⟩ | exact ⟨by omega, rs6⟩ | exact ⟨by simp, rfl, rs6⟩ | exact ⟨by omega, rfl, rs6⟩ | exact ⟨by simp, by simp, rs6⟩ | exact ⟨by omega, by simp, rs6⟩ | (simp; first | exact rs6 | exact ⟨by omega, rs6⟩)
set_option maxHeartbeats 600000 in
set_option maxRecDepth 20000 in
theorem Mhelp_x {t w : Int} (h : mdl M n T Y lap bnd mrg) (ht : inR t) (hw : inR w) (hx : ¬ (0 ≤ t ∧ t < n) ∨ w < 0 ∨ 1 < w) : CallI m_Model_help [.inr 154, .inl t, .inl w] M (fun _ M' => rsM M 1 M') := by
  have h0 : mdl (mset M 154 1 0) n T Y lap bnd mrg := mdl_fr h scr_0 scr_mdl
  have F := (Model_fail_ok (k := 1) (M := mset M 154 1 0)).eq (G := fun x M' => rsM M 1 M') (rsM_fail rsM_0)
  refine callP_of (by decide) (by decide) (Nat.le_of_ble_eq_true rfl) (wpm_of (cuts := []) (by decide) 60 _ _ _ _ ?_)
  rw [show lM m_Model_help = 3 from rfl]
  simp (maxSteps := 2000000) only [↓reduceIte, wp_eq, wpd_eq, kont_eq, STP1, STP2, STP3, STP4, STP5, konM_eq, AMK, CZ, Option.map, List.getElem?_cons_zero, List.getElem?_cons_succ, List.mem_cons, List.not_mem_nil, if_false, if_true, Nat.reduceAdd, Nat.reduceLT, Nat.reduceLeDiff, Nat.reduceEqDiff, true_and, and_true, List.length_nil, List.length_cons, or_true, true_or, or_false, false_or, Option.some.injEq, Sum.inl.injEq, Sum.inr.injEq, exists_eq_left', exists_eq_left, Int.reduceLE, Int.reduceLT, Int.reduceNeg, Int.reduceAdd, Int.reduceMul, Int.reduceSub, Int.reduceToNat, inR, Nat.zero_ne_one, false_and, Nat.succ_ne_zero, reduceCtorEq, false_implies, true_implies, not_false_eq_true, not_true_eq_false, Int.reduceEq, KRE, C_Model_help, FM]
  refine (Model_isTimber_ok h0 ht).eq ?_
  by_cases c1 : 0 ≤ t ∧ t < n
  · rw [if_pos c1]
    try simp (maxSteps := 2000000) only [↓reduceIte, wp_eq, wpd_eq, kont_eq, STP1, STP2, STP3, STP4, STP5, konM_eq, AMK, CZ, Option.map, List.getElem?_cons_zero, List.getElem?_cons_succ, List.mem_cons, List.not_mem_nil, if_false, if_true, Nat.reduceAdd, Nat.reduceLT, Nat.reduceLeDiff, Nat.reduceEqDiff, true_and, and_true, List.length_nil, List.length_cons, or_true, true_or, or_false, false_or, Option.some.injEq, Sum.inl.injEq, Sum.inr.injEq, exists_eq_left', exists_eq_left, Int.reduceLE, Int.reduceLT, Int.reduceNeg, Int.reduceAdd, Int.reduceMul, Int.reduceSub, Int.reduceToNat, inR, Nat.zero_ne_one, false_and, Nat.succ_ne_zero, reduceCtorEq, false_implies, true_implies, not_false_eq_true, not_true_eq_false, Int.reduceEq, KRE, C_Model_help]
    repeat (first | refine ⟨by omega, ?_⟩ | refine ⟨fun _ _ => okt_nn (by omega), ?_⟩)
    try (first | (show _ ≤ _; omega) | (show _ < _; omega))
    refine (Model_isIn_ok hw ⟨by omega, by omega⟩ ⟨by omega, by omega⟩).eq ?_
    rw [if_neg (by omega)]
    try simp (maxSteps := 2000000) only [↓reduceIte, wp_eq, wpd_eq, kont_eq, STP1, STP2, STP3, STP4, STP5, konM_eq, AMK, CZ, Option.map, List.getElem?_cons_zero, List.getElem?_cons_succ, List.mem_cons, List.not_mem_nil, if_false, if_true, Nat.reduceAdd, Nat.reduceLT, Nat.reduceLeDiff, Nat.reduceEqDiff, true_and, and_true, List.length_nil, List.length_cons, or_true, true_or, or_false, false_or, Option.some.injEq, Sum.inl.injEq, Sum.inr.injEq, exists_eq_left', exists_eq_left, Int.reduceLE, Int.reduceLT, Int.reduceNeg, Int.reduceAdd, Int.reduceMul, Int.reduceSub, Int.reduceToNat, inR, Nat.zero_ne_one, false_and, Nat.succ_ne_zero, reduceCtorEq, false_implies, true_implies, not_false_eq_true, not_true_eq_false, Int.reduceEq, KRE, C_Model_help]
    repeat (first | refine ⟨by omega, ?_⟩ | refine ⟨fun _ _ => okt_nn (by omega), ?_⟩)
    try (first | (show _ ≤ _; omega) | (show _ < _; omega))
    exact F
  · rw [if_neg c1]
    try simp (maxSteps := 2000000) only [↓reduceIte, wp_eq, wpd_eq, kont_eq, STP1, STP2, STP3, STP4, STP5, konM_eq, AMK, CZ, Option.map, List.getElem?_cons_zero, List.getElem?_cons_succ, List.mem_cons, List.not_mem_nil, if_false, if_true, Nat.reduceAdd, Nat.reduceLT, Nat.reduceLeDiff, Nat.reduceEqDiff, true_and, and_true, List.length_nil, List.length_cons, or_true, true_or, or_false, false_or, Option.some.injEq, Sum.inl.injEq, Sum.inr.injEq, exists_eq_left', exists_eq_left, Int.reduceLE, Int.reduceLT, Int.reduceNeg, Int.reduceAdd, Int.reduceMul, Int.reduceSub, Int.reduceToNat, inR, Nat.zero_ne_one, false_and, Nat.succ_ne_zero, reduceCtorEq, false_implies, true_implies, not_false_eq_true, not_true_eq_false, Int.reduceEq, KRE, C_Model_help]
    repeat (first | refine ⟨by omega, ?_⟩ | refine ⟨fun _ _ => okt_nn (by omega), ?_⟩)
    try (first | (show _ ≤ _; omega) | (show _ < _; omega))
    exact F
set_option maxHeartbeats 600000 in
set_option maxRecDepth 20000 in
theorem Mhelp_y {t : Nat} {w : Int} (h : mdl M n T Y lap bnd mrg) (ht : t < n) (hY : Y t ≠ -1) (hw : w = 0 ∨ w = 1) : CallI m_Model_help [.inr 154, .inl (t : Int), .inl w] M (fun _ M' => rsM M 2 M') := by
  have h0 : mdl (mset M 154 1 0) n T Y lap bnd mrg := mdl_fr h scr_0 scr_mdl
  have F := (Model_fail_ok (k := 2) (M := mset M 154 1 0)).eq (G := fun x M' => rsM M 2 M') (rsM_fail rsM_0)
  refine callP_of (by decide) (by decide) (Nat.le_of_ble_eq_true rfl) (wpm_of (cuts := []) (by decide) 60 _ _ _ _ ?_)
  rw [show lM m_Model_help = 3 from rfl]
  simp (maxSteps := 2000000) only [↓reduceIte, wp_eq, wpd_eq, kont_eq, STP1, STP2, STP3, STP4, STP5, konM_eq, AMK, CZ, Option.map, List.getElem?_cons_zero, List.getElem?_cons_succ, List.mem_cons, List.not_mem_nil, if_false, if_true, Nat.reduceAdd, Nat.reduceLT, Nat.reduceLeDiff, Nat.reduceEqDiff, true_and, and_true, List.length_nil, List.length_cons, or_true, true_or, or_false, false_or, Option.some.injEq, Sum.inl.injEq, Sum.inr.injEq, exists_eq_left', exists_eq_left, Int.reduceLE, Int.reduceLT, Int.reduceNeg, Int.reduceAdd, Int.reduceMul, Int.reduceSub, Int.reduceToNat, inR, Nat.zero_ne_one, false_and, Nat.succ_ne_zero, reduceCtorEq, false_implies, true_implies, not_false_eq_true, not_true_eq_false, Int.reduceEq, KRE, C_Model_help, FM]
  refine (isTimber_y h0 ht).eq ?_
  try simp (maxSteps := 2000000) only [↓reduceIte, wp_eq, wpd_eq, kont_eq, STP1, STP2, STP3, STP4, STP5, konM_eq, AMK, CZ, Option.map, List.getElem?_cons_zero, List.getElem?_cons_succ, List.mem_cons, List.not_mem_nil, if_false, if_true, Nat.reduceAdd, Nat.reduceLT, Nat.reduceLeDiff, Nat.reduceEqDiff, true_and, and_true, List.length_nil, List.length_cons, or_true, true_or, or_false, false_or, Option.some.injEq, Sum.inl.injEq, Sum.inr.injEq, exists_eq_left', exists_eq_left, Int.reduceLE, Int.reduceLT, Int.reduceNeg, Int.reduceAdd, Int.reduceMul, Int.reduceSub, Int.reduceToNat, inR, Nat.zero_ne_one, false_and, Nat.succ_ne_zero, reduceCtorEq, false_implies, true_implies, not_false_eq_true, not_true_eq_false, Int.reduceEq, KRE, C_Model_help]
  repeat (first | refine ⟨by omega, ?_⟩ | refine ⟨fun _ _ => okt_nn (by omega), ?_⟩)
  try (first | (show _ ≤ _; omega) | (show _ < _; omega))
  refine (Model_isIn_ok ⟨by omega, by omega⟩ ⟨by omega, by omega⟩ ⟨by omega, by omega⟩).eq ?_
  rw [if_pos (by omega)]
  try simp (maxSteps := 2000000) only [↓reduceIte, wp_eq, wpd_eq, kont_eq, STP1, STP2, STP3, STP4, STP5, konM_eq, AMK, CZ, Option.map, List.getElem?_cons_zero, List.getElem?_cons_succ, List.mem_cons, List.not_mem_nil, if_false, if_true, Nat.reduceAdd, Nat.reduceLT, Nat.reduceLeDiff, Nat.reduceEqDiff, true_and, and_true, List.length_nil, List.length_cons, or_true, true_or, or_false, false_or, Option.some.injEq, Sum.inl.injEq, Sum.inr.injEq, exists_eq_left', exists_eq_left, Int.reduceLE, Int.reduceLT, Int.reduceNeg, Int.reduceAdd, Int.reduceMul, Int.reduceSub, Int.reduceToNat, inR, Nat.zero_ne_one, false_and, Nat.succ_ne_zero, reduceCtorEq, false_implies, true_implies, not_false_eq_true, not_true_eq_false, Int.reduceEq, KRE, C_Model_help]
  repeat (first | refine ⟨by omega, ?_⟩ | refine ⟨fun _ _ => okt_nn (by omega), ?_⟩)
  try (first | (show _ ≤ _; omega) | (show _ < _; omega))
  refine (dated_m h0 ht).eq ?_
  rw [if_pos hY]
  try simp (maxSteps := 2000000) only [↓reduceIte, wp_eq, wpd_eq, kont_eq, STP1, STP2, STP3, STP4, STP5, konM_eq, AMK, CZ, Option.map, List.getElem?_cons_zero, List.getElem?_cons_succ, List.mem_cons, List.not_mem_nil, if_false, if_true, Nat.reduceAdd, Nat.reduceLT, Nat.reduceLeDiff, Nat.reduceEqDiff, true_and, and_true, List.length_nil, List.length_cons, or_true, true_or, or_false, false_or, Option.some.injEq, Sum.inl.injEq, Sum.inr.injEq, exists_eq_left', exists_eq_left, Int.reduceLE, Int.reduceLT, Int.reduceNeg, Int.reduceAdd, Int.reduceMul, Int.reduceSub, Int.reduceToNat, inR, Nat.zero_ne_one, false_and, Nat.succ_ne_zero, reduceCtorEq, false_implies, true_implies, not_false_eq_true, not_true_eq_false, Int.reduceEq, KRE, C_Model_help]
  repeat (first | refine ⟨by omega, ?_⟩ | refine ⟨fun _ _ => okt_nn (by omega), ?_⟩)
  try (first | (show _ ≤ _; omega) | (show _ < _; omega))
  exact F
end MODE
