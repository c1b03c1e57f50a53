/-! THE FACE: pointer, link, grown, slid, best, help. -/
set_option maxHeartbeats 600000 in
set_option maxRecDepth 20000 in
theorem RingDater_pointer_ok {n : Nat} {T : Nat → Rw} {Y : Nat → Int} {lap bnd mrg i w y : Int} {M : Mm} (h : cls M n T Y lap bnd mrg) (hi : inR i) (hw : w = 0 ∨ w = 1) (hy : isPy T Y n i y) (hy0 : y ≠ -1) : CallI m_RingDater_pointer [.inr 0, .inl i, .inl w] M (fun x M' => x = (if w = 0 then y else ptr T Y y n) ∧ cls M' n T Y lap bnd mrg ∧ FrP scrF M M') := by
  have k0 : kc (lay 0) 11 = True := FR.1
  have l0 := isStk_76.1
  have k76 : kc (lay 76) 8 = True := by rw [l0]; exact eq_true rfl
  have w1 : ¬ w < 0 := by omega
  have w2 : w ≤ 1 := by omega
  have yr : 0 ≤ y ∧ y ≤ 1000 := by
    rcases hy with ⟨v, v1, -, -, rfl⟩ | ⟨rfl, -⟩
    · omega
    · exact absurd rfl hy0
  refine callP_of (by decide) (by decide) (Nat.le_of_ble_eq_true rfl) (wpm_of (cuts := []) (by decide) 60 _ _ _ _ ?_)
  rw [show lM m_RingDater_pointer = 4 from rfl]
  simp (maxSteps := 2000000) only [↓reduceIte, wp_eq, wpd_eq, kont_eq, STP1, STP2, STP3, STP4, STP5, konM_eq, AMK, CZ, Option.map, List.getElem?_cons_zero, List.getElem?_cons_succ, List.mem_cons, List.not_mem_nil, if_false, if_true, Nat.reduceAdd, Nat.reduceLT, Nat.reduceLeDiff, Nat.reduceEqDiff, true_and, and_true, List.length_nil, List.length_cons, or_true, true_or, or_false, false_or, Option.some.injEq, Sum.inl.injEq, Sum.inr.injEq, exists_eq_left', exists_eq_left, Int.reduceLE, Int.reduceLT, Int.reduceNeg, Int.reduceAdd, Int.reduceMul, Int.reduceSub, Int.reduceToNat, inR, Nat.zero_ne_one, false_and, Nat.succ_ne_zero, reduceCtorEq, false_implies, true_implies, not_false_eq_true, not_true_eq_false, Int.reduceEq, KRE, C_RingDater_pointer, FR, k0, k76, w1, w2]
  repeat (first | refine ⟨by omega, ?_⟩ | refine ⟨fun _ _ => okt_nn (by omega), ?_⟩)
  try (first | (show _ ≤ _; omega) | (show _ < _; omega))
  refine (RingDater_pointerYear_ok h hi).mono (fun x M1 z => ?_)
  obtain ⟨z1, z2, z3⟩ := z
  obtain rfl := isPy_u z1 hy
  have y0 := eq_false hy0
  rcases hw with rfl | rfl
  · simp (maxSteps := 2000000) only [↓reduceIte, wp_eq, wpd_eq, kont_eq, STP1, STP2, STP3, STP4, STP5, konM_eq, AMK, CZ, Option.map, List.getElem?_cons_zero, List.getElem?_cons_succ, List.mem_cons, List.not_mem_nil, if_false, if_true, Nat.reduceAdd, Nat.reduceLT, Nat.reduceLeDiff, Nat.reduceEqDiff, true_and, and_true, List.length_nil, List.length_cons, or_true, true_or, or_false, false_or, Option.some.injEq, Sum.inl.injEq, Sum.inr.injEq, exists_eq_left', exists_eq_left, Int.reduceLE, Int.reduceLT, Int.reduceNeg, Int.reduceAdd, Int.reduceMul, Int.reduceSub, Int.reduceToNat, inR, Nat.zero_ne_one, false_and, Nat.succ_ne_zero, reduceCtorEq, false_implies, true_implies, not_false_eq_true, not_true_eq_false, Int.reduceEq, KRE, C_RingDater_pointer, FR, y0, k76]
    repeat (first | refine ⟨by omega, ?_⟩ | refine ⟨fun _ _ => okt_nn (by omega), ?_⟩)
    try (first | (show _ ≤ _; omega) | (show _ < _; omega))
    first | exact ⟨z2, z3⟩ | exact z3
  · simp (maxSteps := 2000000) only [↓reduceIte, wp_eq, wpd_eq, kont_eq, STP1, STP2, STP3, STP4, STP5, konM_eq, AMK, CZ, Option.map, List.getElem?_cons_zero, List.getElem?_cons_succ, List.mem_cons, List.not_mem_nil, if_false, if_true, Nat.reduceAdd, Nat.reduceLT, Nat.reduceLeDiff, Nat.reduceEqDiff, true_and, and_true, List.length_nil, List.length_cons, or_true, true_or, or_false, false_or, Option.some.injEq, Sum.inl.injEq, Sum.inr.injEq, exists_eq_left', exists_eq_left, Int.reduceLE, Int.reduceLT, Int.reduceNeg, Int.reduceAdd, Int.reduceMul, Int.reduceSub, Int.reduceToNat, inR, Nat.zero_ne_one, false_and, Nat.succ_ne_zero, reduceCtorEq, false_implies, true_implies, not_false_eq_true, not_true_eq_false, Int.reduceEq, KRE, C_RingDater_pointer, FR, y0, k76]
    repeat (first | refine ⟨by omega, ?_⟩ | refine ⟨fun _ _ => okt_nn (by omega), ?_⟩)
    try (first | (show _ ≤ _; omega) | (show _ < _; omega))
    refine (ptr_cls (y := x) z2 (by omega)).eq ?_
    exact ⟨rfl, z2, z3⟩
set_option maxHeartbeats 600000 in
set_option maxRecDepth 20000 in
theorem RingDater_pointer_x {n : Nat} {T : Nat → Rw} {Y : Nat → Int} {lap bnd mrg i w : Int} {M : Mm} (h : cls M n T Y lap bnd mrg) (hi : inR i) (hw : inR w) (hx : w < 0 ∨ 1 < w ∨ isPy T Y n i (-1)) : ThrP m_RingDater_pointer [.inr 0, .inl i, .inl w] M (fun q M' => q = 0 ∧ cls M' n T Y lap bnd mrg ∧ FrP scrF M M') := by
  have k0 : kc (lay 0) 11 = True := FR.1
  simp only [inR] at hw
  by_cases w1 : w < 0
  · refine ⟨60, by omega, ?_⟩
    rw [show lM m_RingDater_pointer = 4 from rfl]
    simp (maxSteps := 2000000) only [↓reduceIte, wp_eq, wpd_eq, kont_eq, STP1, STP2, STP3, STP4, STP5, konM_eq, AMK, CZ, Option.map, List.getElem?_cons_zero, List.getElem?_cons_succ, List.mem_cons, List.not_mem_nil, if_false, if_true, Nat.reduceAdd, Nat.reduceLT, Nat.reduceLeDiff, Nat.reduceEqDiff, true_and, and_true, List.length_nil, List.length_cons, or_true, true_or, or_false, false_or, Option.some.injEq, Sum.inl.injEq, Sum.inr.injEq, exists_eq_left', exists_eq_left, Int.reduceLE, Int.reduceLT, Int.reduceNeg, Int.reduceAdd, Int.reduceMul, Int.reduceSub, Int.reduceToNat, inR, Nat.zero_ne_one, false_and, Nat.succ_ne_zero, reduceCtorEq, false_implies, true_implies, not_false_eq_true, not_true_eq_false, Int.reduceEq, KRE, C_RingDater_pointer, FR, k0, w1]
    repeat (first | refine ⟨by omega, ?_⟩ | refine ⟨fun _ _ => okt_nn (by omega), ?_⟩)
    try (first | (show _ ≤ _; omega) | (show _ < _; omega))
    first | exact ⟨h, FrP.rf⟩ | exact FrP.rf
  · by_cases w2 : w ≤ 1
    · have hp : isPy T Y n i (-1) := by rcases hx with q | q | q <;> first | omega | exact q
      refine ⟨60, by omega, ?_⟩
      rw [show lM m_RingDater_pointer = 4 from rfl]
      simp (maxSteps := 2000000) only [↓reduceIte, wp_eq, wpd_eq, kont_eq, STP1, STP2, STP3, STP4, STP5, konM_eq, AMK, CZ, Option.map, List.getElem?_cons_zero, List.getElem?_cons_succ, List.mem_cons, List.not_mem_nil, if_false, if_true, Nat.reduceAdd, Nat.reduceLT, Nat.reduceLeDiff, Nat.reduceEqDiff, true_and, and_true, List.length_nil, List.length_cons, or_true, true_or, or_false, false_or, Option.some.injEq, Sum.inl.injEq, Sum.inr.injEq, exists_eq_left', exists_eq_left, Int.reduceLE, Int.reduceLT, Int.reduceNeg, Int.reduceAdd, Int.reduceMul, Int.reduceSub, Int.reduceToNat, inR, Nat.zero_ne_one, false_and, Nat.succ_ne_zero, reduceCtorEq, false_implies, true_implies, not_false_eq_true, not_true_eq_false, Int.reduceEq, KRE, C_RingDater_pointer, FR, k0, w1, w2]
      repeat (first | refine ⟨by omega, ?_⟩ | refine ⟨fun _ _ => okt_nn (by omega), ?_⟩)
      try (first | (show _ ≤ _; omega) | (show _ < _; omega))
      refine (RingDater_pointerYear_ok h hi).mono (fun x M1 z => ?_)
      obtain ⟨z1, z2, z3⟩ := z
      obtain rfl := isPy_u z1 hp
      simp (maxSteps := 2000000) only [↓reduceIte, wp_eq, wpd_eq, kont_eq, STP1, STP2, STP3, STP4, STP5, konM_eq, AMK, CZ, Option.map, List.getElem?_cons_zero, List.getElem?_cons_succ, List.mem_cons, List.not_mem_nil, if_false, if_true, Nat.reduceAdd, Nat.reduceLT, Nat.reduceLeDiff, Nat.reduceEqDiff, true_and, and_true, List.length_nil, List.length_cons, or_true, true_or, or_false, false_or, Option.some.injEq, Sum.inl.injEq, Sum.inr.injEq, exists_eq_left', exists_eq_left, Int.reduceLE, Int.reduceLT, Int.reduceNeg, Int.reduceAdd, Int.reduceMul, Int.reduceSub, Int.reduceToNat, inR, Nat.zero_ne_one, false_and, Nat.succ_ne_zero, reduceCtorEq, false_implies, true_implies, not_false_eq_true, not_true_eq_false, Int.reduceEq, KRE, C_RingDater_pointer, FR]
      first | exact ⟨z2, z3⟩ | exact ⟨by omega, z2, z3⟩ | exact z3
    · refine ⟨60, by omega, ?_⟩
      rw [show lM m_RingDater_pointer = 4 from rfl]
      simp (maxSteps := 2000000) only [↓reduceIte, wp_eq, wpd_eq, kont_eq, STP1, STP2, STP3, STP4, STP5, konM_eq, AMK, CZ, Option.map, List.getElem?_cons_zero, List.getElem?_cons_succ, List.mem_cons, List.not_mem_nil, if_false, if_true, Nat.reduceAdd, Nat.reduceLT, Nat.reduceLeDiff, Nat.reduceEqDiff, true_and, and_true, List.length_nil, List.length_cons, or_true, true_or, or_false, false_or, Option.some.injEq, Sum.inl.injEq, Sum.inr.injEq, exists_eq_left', exists_eq_left, Int.reduceLE, Int.reduceLT, Int.reduceNeg, Int.reduceAdd, Int.reduceMul, Int.reduceSub, Int.reduceToNat, inR, Nat.zero_ne_one, false_and, Nat.succ_ne_zero, reduceCtorEq, false_implies, true_implies, not_false_eq_true, not_true_eq_false, Int.reduceEq, KRE, C_RingDater_pointer, FR, k0, w1, w2]
      repeat (first | refine ⟨by omega, ?_⟩ | refine ⟨fun _ _ => okt_nn (by omega), ?_⟩)
      try (first | (show _ ≤ _; omega) | (show _ < _; omega))
      first | exact ⟨h, FrP.rf⟩ | exact FrP.rf
set_option maxHeartbeats 600000 in
set_option maxRecDepth 20000 in
theorem RingDater_link_ok {n : Nat} {T : Nat → Rw} {Y : Nat → Int} {lap bnd mrg i w : Int} {M : Mm} (h : cls M n T Y lap bnd mrg) (hi : 0 ≤ i ∧ i < (lks T lap bnd mrg n n).1) (hw : 0 ≤ w ∧ w ≤ 4) : CallI m_RingDater_link [.inr 0, .inl i, .inl w] M (fun x M' => x = (if w = 4 then pcT (lks T lap bnd mrg n n).2 i.toNat else (lks T lap bnd mrg n n).2 w.toNat i.toNat) ∧ cls M' n T Y lap bnd mrg ∧ FrP scrF M M') := by
  have k0 : kc (lay 0) 11 = True := FR.1
  have k60 : kc (lay 60) 10 = True := FW.1
  have w1 : ¬ w < 0 := by omega
  have w2 : w ≤ 4 := by omega
  have i1 : ¬ i < 0 := by omega
  have i2 : i < (lks T lap bnd mrg n n).1 := hi.2
  refine callP_of (by decide) (by decide) (Nat.le_of_ble_eq_true rfl) (wpm_of (cuts := []) (by decide) 60 _ _ _ _ ?_)
  rw [show lM m_RingDater_link = 3 from rfl]
  simp (maxSteps := 2000000) only [↓reduceIte, wp_eq, wpd_eq, kont_eq, STP1, STP2, STP3, STP4, STP5, konM_eq, AMK, CZ, Option.map, List.getElem?_cons_zero, List.getElem?_cons_succ, List.mem_cons, List.not_mem_nil, if_false, if_true, Nat.reduceAdd, Nat.reduceLT, Nat.reduceLeDiff, Nat.reduceEqDiff, true_and, and_true, List.length_nil, List.length_cons, or_true, true_or, or_false, false_or, Option.some.injEq, Sum.inl.injEq, Sum.inr.injEq, exists_eq_left', exists_eq_left, Int.reduceLE, Int.reduceLT, Int.reduceNeg, Int.reduceAdd, Int.reduceMul, Int.reduceSub, Int.reduceToNat, inR, Nat.zero_ne_one, false_and, Nat.succ_ne_zero, reduceCtorEq, false_implies, true_implies, not_false_eq_true, not_true_eq_false, Int.reduceEq, KRE, C_RingDater_link, FR, FW, k0, k60, w1, w2, i1]
  repeat (first | refine ⟨by omega, ?_⟩ | refine ⟨fun _ _ => okt_nn (by omega), ?_⟩)
  try (first | (show _ ≤ _; omega) | (show _ < _; omega))
  refine (RingDater_spunWeb_ok h).mono (fun y M1 z => ?_)
  obtain ⟨rfl, z1, z4, z5⟩ := z
  have g := z1.2.2.1
  have r28 := z1.1.1
  simp (maxSteps := 2000000) only [↓reduceIte, wp_eq, wpd_eq, kont_eq, STP1, STP2, STP3, STP4, STP5, konM_eq, AMK, CZ, Option.map, List.getElem?_cons_zero, List.getElem?_cons_succ, List.mem_cons, List.not_mem_nil, if_false, if_true, Nat.reduceAdd, Nat.reduceLT, Nat.reduceLeDiff, Nat.reduceEqDiff, true_and, and_true, List.length_nil, List.length_cons, or_true, true_or, or_false, false_or, Option.some.injEq, Sum.inl.injEq, Sum.inr.injEq, exists_eq_left', exists_eq_left, Int.reduceLE, Int.reduceLT, Int.reduceNeg, Int.reduceAdd, Int.reduceMul, Int.reduceSub, Int.reduceToNat, inR, Nat.zero_ne_one, false_and, Nat.succ_ne_zero, reduceCtorEq, false_implies, true_implies, not_false_eq_true, not_true_eq_false, Int.reduceEq, KRE, C_RingDater_link, FW, g, i2, k60]
  repeat (first | refine ⟨by omega, ?_⟩ | refine ⟨fun _ _ => okt_nn (by omega), ?_⟩)
  try (first | (show _ ≤ _; omega) | (show _ < _; omega))
  refine (Web_tell_ok z1 hi hw).eq ?_
  exact ⟨rfl, z4, z5⟩
set_option maxHeartbeats 600000 in
set_option maxRecDepth 20000 in
theorem RingDater_link_x {n : Nat} {T : Nat → Rw} {Y : Nat → Int} {lap bnd mrg i w : Int} {M : Mm} (h : cls M n T Y lap bnd mrg) (hi : inR i) (hw : inR w) (hx : w < 0 ∨ 4 < w ∨ i < 0 ∨ (lks T lap bnd mrg n n).1 ≤ i) : ThrP m_RingDater_link [.inr 0, .inl i, .inl w] M (fun q M' => q = 0 ∧ cls M' n T Y lap bnd mrg ∧ FrP scrF M M') := by
  have k0 : kc (lay 0) 11 = True := FR.1
  simp only [inR] at hw hi
  by_cases w1 : w < 0
  · refine ⟨60, by omega, ?_⟩
    rw [show lM m_RingDater_link = 3 from rfl]
    simp (maxSteps := 2000000) only [↓reduceIte, wp_eq, wpd_eq, kont_eq, STP1, STP2, STP3, STP4, STP5, konM_eq, AMK, CZ, Option.map, List.getElem?_cons_zero, List.getElem?_cons_succ, List.mem_cons, List.not_mem_nil, if_false, if_true, Nat.reduceAdd, Nat.reduceLT, Nat.reduceLeDiff, Nat.reduceEqDiff, true_and, and_true, List.length_nil, List.length_cons, or_true, true_or, or_false, false_or, Option.some.injEq, Sum.inl.injEq, Sum.inr.injEq, exists_eq_left', exists_eq_left, Int.reduceLE, Int.reduceLT, Int.reduceNeg, Int.reduceAdd, Int.reduceMul, Int.reduceSub, Int.reduceToNat, inR, Nat.zero_ne_one, false_and, Nat.succ_ne_zero, reduceCtorEq, false_implies, true_implies, not_false_eq_true, not_true_eq_false, Int.reduceEq, KRE, C_RingDater_link, FR, k0, w1]
    repeat (first | refine ⟨by omega, ?_⟩ | refine ⟨fun _ _ => okt_nn (by omega), ?_⟩)
    try (first | (show _ ≤ _; omega) | (show _ < _; omega))
    first | exact ⟨h, FrP.rf⟩ | exact FrP.rf
  · by_cases w2 : w ≤ 4
    · by_cases i1 : i < 0
      · refine ⟨60, by omega, ?_⟩
        rw [show lM m_RingDater_link = 3 from rfl]
        simp (maxSteps := 2000000) only [↓reduceIte, wp_eq, wpd_eq, kont_eq, STP1, STP2, STP3, STP4, STP5, konM_eq, AMK, CZ, Option.map, List.getElem?_cons_zero, List.getElem?_cons_succ, List.mem_cons, List.not_mem_nil, if_false, if_true, Nat.reduceAdd, Nat.reduceLT, Nat.reduceLeDiff, Nat.reduceEqDiff, true_and, and_true, List.length_nil, List.length_cons, or_true, true_or, or_false, false_or, Option.some.injEq, Sum.inl.injEq, Sum.inr.injEq, exists_eq_left', exists_eq_left, Int.reduceLE, Int.reduceLT, Int.reduceNeg, Int.reduceAdd, Int.reduceMul, Int.reduceSub, Int.reduceToNat, inR, Nat.zero_ne_one, false_and, Nat.succ_ne_zero, reduceCtorEq, false_implies, true_implies, not_false_eq_true, not_true_eq_false, Int.reduceEq, KRE, C_RingDater_link, FR, FW, k0, w1, w2, i1]
        repeat (first | refine ⟨by omega, ?_⟩ | refine ⟨fun _ _ => okt_nn (by omega), ?_⟩)
        try (first | (show _ ≤ _; omega) | (show _ < _; omega))
        refine (RingDater_spunWeb_ok h).mono (fun y M1 z => ?_)
        obtain ⟨rfl, z1, z4, z5⟩ := z
        first | exact ⟨z4, z5⟩ | exact ⟨by omega, z4, z5⟩ | exact z5
      · have i2 : ¬ i < (lks T lap bnd mrg n n).1 := by omega
        refine ⟨60, by omega, ?_⟩
        rw [show lM m_RingDater_link = 3 from rfl]
        simp (maxSteps := 2000000) only [↓reduceIte, wp_eq, wpd_eq, kont_eq, STP1, STP2, STP3, STP4, STP5, konM_eq, AMK, CZ, Option.map, List.getElem?_cons_zero, List.getElem?_cons_succ, List.mem_cons, List.not_mem_nil, if_false, if_true, Nat.reduceAdd, Nat.reduceLT, Nat.reduceLeDiff, Nat.reduceEqDiff, true_and, and_true, List.length_nil, List.length_cons, or_true, true_or, or_false, false_or, Option.some.injEq, Sum.inl.injEq, Sum.inr.injEq, exists_eq_left', exists_eq_left, Int.reduceLE, Int.reduceLT, Int.reduceNeg, Int.reduceAdd, Int.reduceMul, Int.reduceSub, Int.reduceToNat, inR, Nat.zero_ne_one, false_and, Nat.succ_ne_zero, reduceCtorEq, false_implies, true_implies, not_false_eq_true, not_true_eq_false, Int.reduceEq, KRE, C_RingDater_link, FR, FW, k0, w1, w2, i1]
        repeat (first | refine ⟨by omega, ?_⟩ | refine ⟨fun _ _ => okt_nn (by omega), ?_⟩)
        try (first | (show _ ≤ _; omega) | (show _ < _; omega))
        refine (RingDater_spunWeb_ok h).mono (fun y M1 z => ?_)
        obtain ⟨rfl, z1, z4, z5⟩ := z
        have g := z1.2.2.1
        have r28 := z1.1.1
        simp (maxSteps := 2000000) only [↓reduceIte, wp_eq, wpd_eq, kont_eq, STP1, STP2, STP3, STP4, STP5, konM_eq, AMK, CZ, Option.map, List.getElem?_cons_zero, List.getElem?_cons_succ, List.mem_cons, List.not_mem_nil, if_false, if_true, Nat.reduceAdd, Nat.reduceLT, Nat.reduceLeDiff, Nat.reduceEqDiff, true_and, and_true, List.length_nil, List.length_cons, or_true, true_or, or_false, false_or, Option.some.injEq, Sum.inl.injEq, Sum.inr.injEq, exists_eq_left', exists_eq_left, Int.reduceLE, Int.reduceLT, Int.reduceNeg, Int.reduceAdd, Int.reduceMul, Int.reduceSub, Int.reduceToNat, inR, Nat.zero_ne_one, false_and, Nat.succ_ne_zero, reduceCtorEq, false_implies, true_implies, not_false_eq_true, not_true_eq_false, Int.reduceEq, KRE, C_RingDater_link, FW, g, i2]
        repeat (first | refine ⟨by omega, ?_⟩ | refine ⟨fun _ _ => okt_nn (by omega), ?_⟩)
        try (first | (show _ ≤ _; omega) | (show _ < _; omega))
        first | exact ⟨z4, z5⟩ | exact z5
    · refine ⟨60, by omega, ?_⟩
      rw [show lM m_RingDater_link = 3 from rfl]
      simp (maxSteps := 2000000) only [↓reduceIte, wp_eq, wpd_eq, kont_eq, STP1, STP2, STP3, STP4, STP5, konM_eq, AMK, CZ, Option.map, List.getElem?_cons_zero, List.getElem?_cons_succ, List.mem_cons, List.not_mem_nil, if_false, if_true, Nat.reduceAdd, Nat.reduceLT, Nat.reduceLeDiff, Nat.reduceEqDiff, true_and, and_true, List.length_nil, List.length_cons, or_true, true_or, or_false, false_or, Option.some.injEq, Sum.inl.injEq, Sum.inr.injEq, exists_eq_left', exists_eq_left, Int.reduceLE, Int.reduceLT, Int.reduceNeg, Int.reduceAdd, Int.reduceMul, Int.reduceSub, Int.reduceToNat, inR, Nat.zero_ne_one, false_and, Nat.succ_ne_zero, reduceCtorEq, false_implies, true_implies, not_false_eq_true, not_true_eq_false, Int.reduceEq, KRE, C_RingDater_link, FR, k0, w1, w2]
      repeat (first | refine ⟨by omega, ?_⟩ | refine ⟨fun _ _ => okt_nn (by omega), ?_⟩)
      try (first | (show _ ≤ _; omega) | (show _ < _; omega))
      first | exact ⟨h, FrP.rf⟩ | exact FrP.rf
set_option maxHeartbeats 600000 in
set_option maxRecDepth 20000 in
theorem RingDater_grown_ok {n c : Nat} {T : Nat → Rw} {Y : Nat → Int} {lap bnd mrg i w : Int} {M : Mm} (h : cls M n T Y lap bnd mrg) (hc : gwC T lap bnd mrg n Y c) (hi : 0 ≤ i ∧ i < c) (hw : 0 ≤ w ∧ w ≤ 2) : CallI m_RingDater_grown [.inr 0, .inl i, .inl w] M (fun x M' => x = (if w = 0 then (gwP T lap bnd mrg n Y i.toNat).1 else if w = 1 then (gwP T lap bnd mrg n Y i.toNat).2.1 else (gwP T lap bnd mrg n Y i.toNat).2.2) ∧ cls M' n T Y lap bnd mrg ∧ FrP scrF M M') := by
  have l0 := isStk_76.1
  have k0 : kc (lay 0) 11 = True := FR.1
  have k68 : kc (lay 68) 2 = True := FG.1
  have w1 : ¬ w < 0 := by omega
  have w2 : w ≤ 2 := by omega
  have i1 : ¬ i < 0 := by omega
  have r4 := h.2.2.2.2.1.1
  have b4 := h.2.2.2.2.1.2
  have i2 : i < c := hi.2
  refine callP_of (by decide) (by decide) (Nat.le_of_ble_eq_true rfl) (wpm_of (cuts := []) (by decide) 60 _ _ _ _ ?_)
  rw [show lM m_RingDater_grown = 3 from rfl]
  simp (maxSteps := 2000000) only [↓reduceIte, wp_eq, wpd_eq, kont_eq, STP1, STP2, STP3, STP4, STP5, konM_eq, AMK, CZ, Option.map, List.getElem?_cons_zero, List.getElem?_cons_succ, List.mem_cons, List.not_mem_nil, if_false, if_true, Nat.reduceAdd, Nat.reduceLT, Nat.reduceLeDiff, Nat.reduceEqDiff, true_and, and_true, List.length_nil, List.length_cons, or_true, true_or, or_false, false_or, Option.some.injEq, Sum.inl.injEq, Sum.inr.injEq, exists_eq_left', exists_eq_left, Int.reduceLE, Int.reduceLT, Int.reduceNeg, Int.reduceAdd, Int.reduceMul, Int.reduceSub, Int.reduceToNat, inR, Nat.zero_ne_one, false_and, Nat.succ_ne_zero, reduceCtorEq, false_implies, true_implies, not_false_eq_true, not_true_eq_false, Int.reduceEq, KRE, C_RingDater_grown, FR, FG, l0, k0, k68, w1, w2, i1, r4]
  repeat (first | refine ⟨by omega, ?_⟩ | refine ⟨fun _ _ => okt_nn (by omega), ?_⟩)
  try (first | (show _ ≤ _; omega) | (show _ < _; omega))
  refine (run_cls h (by omega)).mono (fun x M1 z => ?_)
  obtain ⟨d, z1, z2, z3, z4, z5, z6⟩ := z
  obtain rfl := gwC_u z3 hc
  obtain ⟨q1, q2, q3⟩ := z4
  simp (maxSteps := 2000000) only [↓reduceIte, wp_eq, wpd_eq, kont_eq, STP1, STP2, STP3, STP4, STP5, konM_eq, AMK, CZ, Option.map, List.getElem?_cons_zero, List.getElem?_cons_succ, List.mem_cons, List.not_mem_nil, if_false, if_true, Nat.reduceAdd, Nat.reduceLT, Nat.reduceLeDiff, Nat.reduceEqDiff, true_and, and_true, List.length_nil, List.length_cons, or_true, true_or, or_false, false_or, Option.some.injEq, Sum.inl.injEq, Sum.inr.injEq, exists_eq_left', exists_eq_left, Int.reduceLE, Int.reduceLT, Int.reduceNeg, Int.reduceAdd, Int.reduceMul, Int.reduceSub, Int.reduceToNat, inR, Nat.zero_ne_one, false_and, Nat.succ_ne_zero, reduceCtorEq, false_implies, true_implies, not_false_eq_true, not_true_eq_false, Int.reduceEq, KRE, C_RingDater_grown, FR, FG, q2, i2, k68]
  repeat (first | refine ⟨by omega, ?_⟩ | refine ⟨fun _ _ => okt_nn (by omega), ?_⟩)
  try (first | (show _ ≤ _; omega) | (show _ < _; omega))
  refine (Growth_tell_ok q2 (by omega) hi hw).eq ?_
  obtain ⟨p1, p2, p3⟩ := q3 i.toNat (by omega)
  refine ⟨?_, z5, z6⟩
  rcases (show w = 0 ∨ w = 1 ∨ w = 2 by omega) with rfl | rfl | rfl
  · exact p1
  · exact p2
  · exact p3
set_option maxHeartbeats 600000 in
set_option maxRecDepth 20000 in
theorem RingDater_grown_x {n c : Nat} {T : Nat → Rw} {Y : Nat → Int} {lap bnd mrg i w : Int} {M : Mm} (h : cls M n T Y lap bnd mrg) (hc : gwC T lap bnd mrg n Y c) (hi : inR i) (hw : inR w) (hx : w < 0 ∨ 2 < w ∨ i < 0 ∨ c ≤ i) : ThrP m_RingDater_grown [.inr 0, .inl i, .inl w] M (fun q M' => q = 0 ∧ cls M' n T Y lap bnd mrg ∧ FrP scrF M M') := by
  have l0 := isStk_76.1
  have k0 : kc (lay 0) 11 = True := FR.1
  have k68 : kc (lay 68) 2 = True := FG.1
  have r4 := h.2.2.2.2.1.1
  have b4 := h.2.2.2.2.1.2
  simp only [inR] at hw hi
  by_cases w1 : w < 0
  · refine ⟨60, by omega, ?_⟩
    rw [show lM m_RingDater_grown = 3 from rfl]
    simp (maxSteps := 2000000) only [↓reduceIte, wp_eq, wpd_eq, kont_eq, STP1, STP2, STP3, STP4, STP5, konM_eq, AMK, CZ, Option.map, List.getElem?_cons_zero, List.getElem?_cons_succ, List.mem_cons, List.not_mem_nil, if_false, if_true, Nat.reduceAdd, Nat.reduceLT, Nat.reduceLeDiff, Nat.reduceEqDiff, true_and, and_true, List.length_nil, List.length_cons, or_true, true_or, or_false, false_or, Option.some.injEq, Sum.inl.injEq, Sum.inr.injEq, exists_eq_left', exists_eq_left, Int.reduceLE, Int.reduceLT, Int.reduceNeg, Int.reduceAdd, Int.reduceMul, Int.reduceSub, Int.reduceToNat, inR, Nat.zero_ne_one, false_and, Nat.succ_ne_zero, reduceCtorEq, false_implies, true_implies, not_false_eq_true, not_true_eq_false, Int.reduceEq, KRE, C_RingDater_grown, FR, k0, w1]
    repeat (first | refine ⟨by omega, ?_⟩ | refine ⟨fun _ _ => okt_nn (by omega), ?_⟩)
    try (first | (show _ ≤ _; omega) | (show _ < _; omega))
    first | exact ⟨h, FrP.rf⟩ | exact FrP.rf
  · by_cases w2 : w ≤ 2
    · by_cases i1 : i < 0
      · refine ⟨60, by omega, ?_⟩
        rw [show lM m_RingDater_grown = 3 from rfl]
        simp (maxSteps := 2000000) only [↓reduceIte, wp_eq, wpd_eq, kont_eq, STP1, STP2, STP3, STP4, STP5, konM_eq, AMK, CZ, Option.map, List.getElem?_cons_zero, List.getElem?_cons_succ, List.mem_cons, List.not_mem_nil, if_false, if_true, Nat.reduceAdd, Nat.reduceLT, Nat.reduceLeDiff, Nat.reduceEqDiff, true_and, and_true, List.length_nil, List.length_cons, or_true, true_or, or_false, false_or, Option.some.injEq, Sum.inl.injEq, Sum.inr.injEq, exists_eq_left', exists_eq_left, Int.reduceLE, Int.reduceLT, Int.reduceNeg, Int.reduceAdd, Int.reduceMul, Int.reduceSub, Int.reduceToNat, inR, Nat.zero_ne_one, false_and, Nat.succ_ne_zero, reduceCtorEq, false_implies, true_implies, not_false_eq_true, not_true_eq_false, Int.reduceEq, KRE, C_RingDater_grown, FR, FG, l0, k0, k68, w1, w2, i1, r4]
        repeat (first | refine ⟨by omega, ?_⟩ | refine ⟨fun _ _ => okt_nn (by omega), ?_⟩)
        try (first | (show _ ≤ _; omega) | (show _ < _; omega))
        refine (run_cls h (by omega)).mono (fun x M1 z => ?_)
        obtain ⟨d, z1, z2, z3, z4, z5, z6⟩ := z
        first | exact ⟨z5, z6⟩ | exact ⟨by omega, z5, z6⟩ | exact z6
      · have i2 : ¬ i < c := by omega
        refine ⟨60, by omega, ?_⟩
        rw [show lM m_RingDater_grown = 3 from rfl]
        simp (maxSteps := 2000000) only [↓reduceIte, wp_eq, wpd_eq, kont_eq, STP1, STP2, STP3, STP4, STP5, konM_eq, AMK, CZ, Option.map, List.getElem?_cons_zero, List.getElem?_cons_succ, List.mem_cons, List.not_mem_nil, if_false, if_true, Nat.reduceAdd, Nat.reduceLT, Nat.reduceLeDiff, Nat.reduceEqDiff, true_and, and_true, List.length_nil, List.length_cons, or_true, true_or, or_false, false_or, Option.some.injEq, Sum.inl.injEq, Sum.inr.injEq, exists_eq_left', exists_eq_left, Int.reduceLE, Int.reduceLT, Int.reduceNeg, Int.reduceAdd, Int.reduceMul, Int.reduceSub, Int.reduceToNat, inR, Nat.zero_ne_one, false_and, Nat.succ_ne_zero, reduceCtorEq, false_implies, true_implies, not_false_eq_true, not_true_eq_false, Int.reduceEq, KRE, C_RingDater_grown, FR, FG, l0, k0, k68, w1, w2, i1, r4]
        repeat (first | refine ⟨by omega, ?_⟩ | refine ⟨fun _ _ => okt_nn (by omega), ?_⟩)
        try (first | (show _ ≤ _; omega) | (show _ < _; omega))
        refine (run_cls h (by omega)).mono (fun x M1 z => ?_)
        obtain ⟨d, z1, z2, z3, z4, z5, z6⟩ := z
        obtain rfl := gwC_u z3 hc
        obtain ⟨q1, q2, q3⟩ := z4
        simp (maxSteps := 2000000) only [↓reduceIte, wp_eq, wpd_eq, kont_eq, STP1, STP2, STP3, STP4, STP5, konM_eq, AMK, CZ, Option.map, List.getElem?_cons_zero, List.getElem?_cons_succ, List.mem_cons, List.not_mem_nil, if_false, if_true, Nat.reduceAdd, Nat.reduceLT, Nat.reduceLeDiff, Nat.reduceEqDiff, true_and, and_true, List.length_nil, List.length_cons, or_true, true_or, or_false, false_or, Option.some.injEq, Sum.inl.injEq, Sum.inr.injEq, exists_eq_left', exists_eq_left, Int.reduceLE, Int.reduceLT, Int.reduceNeg, Int.reduceAdd, Int.reduceMul, Int.reduceSub, Int.reduceToNat, inR, Nat.zero_ne_one, false_and, Nat.succ_ne_zero, reduceCtorEq, false_implies, true_implies, not_false_eq_true, not_true_eq_false, Int.reduceEq, KRE, C_RingDater_grown, FR, FG, q2, i2, k68]
        repeat (first | refine ⟨by omega, ?_⟩ | refine ⟨fun _ _ => okt_nn (by omega), ?_⟩)
        try (first | (show _ ≤ _; omega) | (show _ < _; omega))
        first | exact ⟨z5, z6⟩ | exact z6
    · refine ⟨60, by omega, ?_⟩
      rw [show lM m_RingDater_grown = 3 from rfl]
      simp (maxSteps := 2000000) only [↓reduceIte, wp_eq, wpd_eq, kont_eq, STP1, STP2, STP3, STP4, STP5, konM_eq, AMK, CZ, Option.map, List.getElem?_cons_zero, List.getElem?_cons_succ, List.mem_cons, List.not_mem_nil, if_false, if_true, Nat.reduceAdd, Nat.reduceLT, Nat.reduceLeDiff, Nat.reduceEqDiff, true_and, and_true, List.length_nil, List.length_cons, or_true, true_or, or_false, false_or, Option.some.injEq, Sum.inl.injEq, Sum.inr.injEq, exists_eq_left', exists_eq_left, Int.reduceLE, Int.reduceLT, Int.reduceNeg, Int.reduceAdd, Int.reduceMul, Int.reduceSub, Int.reduceToNat, inR, Nat.zero_ne_one, false_and, Nat.succ_ne_zero, reduceCtorEq, false_implies, true_implies, not_false_eq_true, not_true_eq_false, Int.reduceEq, KRE, C_RingDater_grown, FR, k0, w1, w2]
      repeat (first | refine ⟨by omega, ?_⟩ | refine ⟨fun _ _ => okt_nn (by omega), ?_⟩)
      try (first | (show _ ≤ _; omega) | (show _ < _; omega))
      first | exact ⟨h, FrP.rf⟩ | exact FrP.rf
