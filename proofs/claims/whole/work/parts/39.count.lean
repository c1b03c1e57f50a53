/-! THE FACE: count. -/
set_option maxHeartbeats 600000 in
set_option maxRecDepth 20000 in
theorem RingDater_count_0 {n : Nat} {T : Nat → Rw} {Y : Nat → Int} {lap bnd mrg : Int} {M : Mm} (h : cls M n T Y lap bnd mrg) : CallI m_RingDater_count [.inr 0, .inl 0] M (fun x M' => x = n ∧ cls M' n T Y lap bnd mrg ∧ FrP scrF M M') := by
  have l0 := isStk_76.1
  have k0 : kc (lay 0) 11 = True := FR.1
  have k76 : kc (lay 76) 8 = True := by rw [l0]; exact eq_true rfl
  have k60 : kc (lay 60) 10 = True := FW.1
  have k33 : kc (lay 33) 0 = True := FB.1
  have k68 : kc (lay 68) 2 = True := FG.1
  have r3 := h.2.1.1
  have r5 := h.2.2.2.1.1
  have r4 := h.2.2.2.2.1.1
  have r6 := h.2.2.2.2.2.1.1
  have l106 := isLed_106.1
  have l111 := isNts_111.1
  have l1 : kc (lay 1) 5 = True := FD.1
  refine callP_of (by decide) (by decide) (Nat.le_of_ble_eq_true rfl) (wpm_of (cuts := []) (by decide) 60 _ _ _ _ ?_)
  rw [show lM m_RingDater_count = 2 from rfl]
  simp (maxSteps := 2000000) only [↓reduceIte, wp_eq, wpd_eq, kont_eq, STP1, STP2, STP3, STP4, STP5, konM_eq, AMK, CZ, Option.map, List.getElem?_cons_zero, List.getElem?_cons_succ, List.mem_cons, List.not_mem_nil, if_false, if_true, Nat.reduceAdd, Nat.reduceLT, Nat.reduceLeDiff, Nat.reduceEqDiff, true_and, and_true, List.length_nil, List.length_cons, or_true, true_or, or_false, false_or, Option.some.injEq, Sum.inl.injEq, Sum.inr.injEq, exists_eq_left', exists_eq_left, Int.reduceLE, Int.reduceLT, Int.reduceNeg, Int.reduceAdd, Int.reduceMul, Int.reduceSub, Int.reduceToNat, inR, Nat.zero_ne_one, false_and, Nat.succ_ne_zero, reduceCtorEq, false_implies, true_implies, not_false_eq_true, not_true_eq_false, Int.reduceEq, KRE, C_RingDater_count, FR, l0, FB, FW, k0, k76, k60, k33, k68, r3, r4, r5, r6, l106, l111, l1, FD]
  repeat (first | refine ⟨by omega, ?_⟩ | refine ⟨fun _ _ => okt_nn (by omega), ?_⟩)
  try (first | (show _ ≤ _; omega) | (show _ < _; omega))
  exact FrP.rf

set_option maxHeartbeats 600000 in
set_option maxRecDepth 20000 in
theorem RingDater_count_1 {n : Nat} {T : Nat → Rw} {Y : Nat → Int} {lap bnd mrg : Int} {M : Mm} (h : cls M n T Y lap bnd mrg) : CallI m_RingDater_count [.inr 0, .inl 1] M (fun x M' => x = bnd ∧ cls M' n T Y lap bnd mrg ∧ FrP scrF M M') := by
  have l0 := isStk_76.1
  have k0 : kc (lay 0) 11 = True := FR.1
  have k76 : kc (lay 76) 8 = True := by rw [l0]; exact eq_true rfl
  have k60 : kc (lay 60) 10 = True := FW.1
  have k33 : kc (lay 33) 0 = True := FB.1
  have k68 : kc (lay 68) 2 = True := FG.1
  have r3 := h.2.1.1
  have r5 := h.2.2.2.1.1
  have r4 := h.2.2.2.2.1.1
  have r6 := h.2.2.2.2.2.1.1
  have l106 := isLed_106.1
  have l111 := isNts_111.1
  have l1 : kc (lay 1) 5 = True := FD.1
  refine callP_of (by decide) (by decide) (Nat.le_of_ble_eq_true rfl) (wpm_of (cuts := []) (by decide) 60 _ _ _ _ ?_)
  rw [show lM m_RingDater_count = 2 from rfl]
  simp (maxSteps := 2000000) only [↓reduceIte, wp_eq, wpd_eq, kont_eq, STP1, STP2, STP3, STP4, STP5, konM_eq, AMK, CZ, Option.map, List.getElem?_cons_zero, List.getElem?_cons_succ, List.mem_cons, List.not_mem_nil, if_false, if_true, Nat.reduceAdd, Nat.reduceLT, Nat.reduceLeDiff, Nat.reduceEqDiff, true_and, and_true, List.length_nil, List.length_cons, or_true, true_or, or_false, false_or, Option.some.injEq, Sum.inl.injEq, Sum.inr.injEq, exists_eq_left', exists_eq_left, Int.reduceLE, Int.reduceLT, Int.reduceNeg, Int.reduceAdd, Int.reduceMul, Int.reduceSub, Int.reduceToNat, inR, Nat.zero_ne_one, false_and, Nat.succ_ne_zero, reduceCtorEq, false_implies, true_implies, not_false_eq_true, not_true_eq_false, Int.reduceEq, KRE, C_RingDater_count, FR, l0, FB, FW, k0, k76, k60, k33, k68, r3, r4, r5, r6, l106, l111, l1, FD]
  repeat (first | refine ⟨by omega, ?_⟩ | refine ⟨fun _ _ => okt_nn (by omega), ?_⟩)
  try (first | (show _ ≤ _; omega) | (show _ < _; omega))
  exact FrP.rf

set_option maxHeartbeats 600000 in
set_option maxRecDepth 20000 in
theorem RingDater_count_2 {n : Nat} {T : Nat → Rw} {Y : Nat → Int} {lap bnd mrg : Int} {M : Mm} (h : cls M n T Y lap bnd mrg) : CallI m_RingDater_count [.inr 0, .inl 2] M (fun x M' => x = lap ∧ cls M' n T Y lap bnd mrg ∧ FrP scrF M M') := by
  have l0 := isStk_76.1
  have k0 : kc (lay 0) 11 = True := FR.1
  have k76 : kc (lay 76) 8 = True := by rw [l0]; exact eq_true rfl
  have k60 : kc (lay 60) 10 = True := FW.1
  have k33 : kc (lay 33) 0 = True := FB.1
  have k68 : kc (lay 68) 2 = True := FG.1
  have r3 := h.2.1.1
  have r5 := h.2.2.2.1.1
  have r4 := h.2.2.2.2.1.1
  have r6 := h.2.2.2.2.2.1.1
  have l106 := isLed_106.1
  have l111 := isNts_111.1
  have l1 : kc (lay 1) 5 = True := FD.1
  refine callP_of (by decide) (by decide) (Nat.le_of_ble_eq_true rfl) (wpm_of (cuts := []) (by decide) 60 _ _ _ _ ?_)
  rw [show lM m_RingDater_count = 2 from rfl]
  simp (maxSteps := 2000000) only [↓reduceIte, wp_eq, wpd_eq, kont_eq, STP1, STP2, STP3, STP4, STP5, konM_eq, AMK, CZ, Option.map, List.getElem?_cons_zero, List.getElem?_cons_succ, List.mem_cons, List.not_mem_nil, if_false, if_true, Nat.reduceAdd, Nat.reduceLT, Nat.reduceLeDiff, Nat.reduceEqDiff, true_and, and_true, List.length_nil, List.length_cons, or_true, true_or, or_false, false_or, Option.some.injEq, Sum.inl.injEq, Sum.inr.injEq, exists_eq_left', exists_eq_left, Int.reduceLE, Int.reduceLT, Int.reduceNeg, Int.reduceAdd, Int.reduceMul, Int.reduceSub, Int.reduceToNat, inR, Nat.zero_ne_one, false_and, Nat.succ_ne_zero, reduceCtorEq, false_implies, true_implies, not_false_eq_true, not_true_eq_false, Int.reduceEq, KRE, C_RingDater_count, FR, l0, FB, FW, k0, k76, k60, k33, k68, r3, r4, r5, r6, l106, l111, l1, FD]
  repeat (first | refine ⟨by omega, ?_⟩ | refine ⟨fun _ _ => okt_nn (by omega), ?_⟩)
  try (first | (show _ ≤ _; omega) | (show _ < _; omega))
  exact FrP.rf

set_option maxHeartbeats 600000 in
set_option maxRecDepth 20000 in
theorem RingDater_count_3 {n : Nat} {T : Nat → Rw} {Y : Nat → Int} {lap bnd mrg : Int} {M : Mm} (h : cls M n T Y lap bnd mrg) : CallI m_RingDater_count [.inr 0, .inl 3] M (fun x M' => x = mrg ∧ cls M' n T Y lap bnd mrg ∧ FrP scrF M M') := by
  have l0 := isStk_76.1
  have k0 : kc (lay 0) 11 = True := FR.1
  have k76 : kc (lay 76) 8 = True := by rw [l0]; exact eq_true rfl
  have k60 : kc (lay 60) 10 = True := FW.1
  have k33 : kc (lay 33) 0 = True := FB.1
  have k68 : kc (lay 68) 2 = True := FG.1
  have r3 := h.2.1.1
  have r5 := h.2.2.2.1.1
  have r4 := h.2.2.2.2.1.1
  have r6 := h.2.2.2.2.2.1.1
  have l106 := isLed_106.1
  have l111 := isNts_111.1
  have l1 : kc (lay 1) 5 = True := FD.1
  refine callP_of (by decide) (by decide) (Nat.le_of_ble_eq_true rfl) (wpm_of (cuts := []) (by decide) 60 _ _ _ _ ?_)
  rw [show lM m_RingDater_count = 2 from rfl]
  simp (maxSteps := 2000000) only [↓reduceIte, wp_eq, wpd_eq, kont_eq, STP1, STP2, STP3, STP4, STP5, konM_eq, AMK, CZ, Option.map, List.getElem?_cons_zero, List.getElem?_cons_succ, List.mem_cons, List.not_mem_nil, if_false, if_true, Nat.reduceAdd, Nat.reduceLT, Nat.reduceLeDiff, Nat.reduceEqDiff, true_and, and_true, List.length_nil, List.length_cons, or_true, true_or, or_false, false_or, Option.some.injEq, Sum.inl.injEq, Sum.inr.injEq, exists_eq_left', exists_eq_left, Int.reduceLE, Int.reduceLT, Int.reduceNeg, Int.reduceAdd, Int.reduceMul, Int.reduceSub, Int.reduceToNat, inR, Nat.zero_ne_one, false_and, Nat.succ_ne_zero, reduceCtorEq, false_implies, true_implies, not_false_eq_true, not_true_eq_false, Int.reduceEq, KRE, C_RingDater_count, FR, l0, FB, FW, k0, k76, k60, k33, k68, r3, r4, r5, r6, l106, l111, l1, FD]
  repeat (first | refine ⟨by omega, ?_⟩ | refine ⟨fun _ _ => okt_nn (by omega), ?_⟩)
  try (first | (show _ ≤ _; omega) | (show _ < _; omega))
  exact FrP.rf

set_option maxHeartbeats 600000 in
set_option maxRecDepth 20000 in
theorem RingDater_count_4 {n : Nat} {T : Nat → Rw} {Y : Nat → Int} {lap bnd mrg : Int} {M : Mm} (h : cls M n T Y lap bnd mrg) : CallI m_RingDater_count [.inr 0, .inl 4] M (fun x M' => x = fBit (fun t => Y t ≠ -1) n ∧ cls M' n T Y lap bnd mrg ∧ FrP scrF M M') := by
  have l0 := isStk_76.1
  have k0 : kc (lay 0) 11 = True := FR.1
  have k76 : kc (lay 76) 8 = True := by rw [l0]; exact eq_true rfl
  have k60 : kc (lay 60) 10 = True := FW.1
  have k33 : kc (lay 33) 0 = True := FB.1
  have k68 : kc (lay 68) 2 = True := FG.1
  have r3 := h.2.1.1
  have r5 := h.2.2.2.1.1
  have r4 := h.2.2.2.2.1.1
  have r6 := h.2.2.2.2.2.1.1
  have l106 := isLed_106.1
  have l111 := isNts_111.1
  have l1 : kc (lay 1) 5 = True := FD.1
  refine callP_of (by decide) (by decide) (Nat.le_of_ble_eq_true rfl) (wpm_of (cuts := []) (by decide) 60 _ _ _ _ ?_)
  rw [show lM m_RingDater_count = 2 from rfl]
  simp (maxSteps := 2000000) only [↓reduceIte, wp_eq, wpd_eq, kont_eq, STP1, STP2, STP3, STP4, STP5, konM_eq, AMK, CZ, Option.map, List.getElem?_cons_zero, List.getElem?_cons_succ, List.mem_cons, List.not_mem_nil, if_false, if_true, Nat.reduceAdd, Nat.reduceLT, Nat.reduceLeDiff, Nat.reduceEqDiff, true_and, and_true, List.length_nil, List.length_cons, or_true, true_or, or_false, false_or, Option.some.injEq, Sum.inl.injEq, Sum.inr.injEq, exists_eq_left', exists_eq_left, Int.reduceLE, Int.reduceLT, Int.reduceNeg, Int.reduceAdd, Int.reduceMul, Int.reduceSub, Int.reduceToNat, inR, Nat.zero_ne_one, false_and, Nat.succ_ne_zero, reduceCtorEq, false_implies, true_implies, not_false_eq_true, not_true_eq_false, Int.reduceEq, KRE, C_RingDater_count, FR, l0, FB, FW, k0, k76, k60, k33, k68, r3, r4, r5, r6, l106, l111, l1, FD]
  repeat (first | refine ⟨by omega, ?_⟩ | refine ⟨fun _ _ => okt_nn (by omega), ?_⟩)
  try (first | (show _ ≤ _; omega) | (show _ < _; omega))
  refine (Stock_datedBits_ok isStk_76 h.1.1.1).eq ?_
  obtain ⟨s1, s2, s3, s4⟩ := cls_st h
  refine ⟨?_, h, FrP.rf⟩
  rw [s3]
  exact fBit_congr (fun t ht => by rw [(cls_tm h ht).2.2.2.2.2.1])

set_option maxHeartbeats 600000 in
set_option maxRecDepth 20000 in
theorem RingDater_count_5 {n : Nat} {T : Nat → Rw} {Y : Nat → Int} {lap bnd mrg : Int} {M : Mm} (h : cls M n T Y lap bnd mrg) : CallI m_RingDater_count [.inr 0, .inl 5] M (fun x M' => x = (cSpan T Y (-1) n).1 ∧ cls M' n T Y lap bnd mrg ∧ FrP scrF M M') := by
  have l0 := isStk_76.1
  have k0 : kc (lay 0) 11 = True := FR.1
  have k76 : kc (lay 76) 8 = True := by rw [l0]; exact eq_true rfl
  have k60 : kc (lay 60) 10 = True := FW.1
  have k33 : kc (lay 33) 0 = True := FB.1
  have k68 : kc (lay 68) 2 = True := FG.1
  have r3 := h.2.1.1
  have r5 := h.2.2.2.1.1
  have r4 := h.2.2.2.2.1.1
  have r6 := h.2.2.2.2.2.1.1
  have l106 := isLed_106.1
  have l111 := isNts_111.1
  have l1 : kc (lay 1) 5 = True := FD.1
  refine callP_of (by decide) (by decide) (Nat.le_of_ble_eq_true rfl) (wpm_of (cuts := []) (by decide) 60 _ _ _ _ ?_)
  rw [show lM m_RingDater_count = 2 from rfl]
  simp (maxSteps := 2000000) only [↓reduceIte, wp_eq, wpd_eq, kont_eq, STP1, STP2, STP3, STP4, STP5, konM_eq, AMK, CZ, Option.map, List.getElem?_cons_zero, List.getElem?_cons_succ, List.mem_cons, List.not_mem_nil, if_false, if_true, Nat.reduceAdd, Nat.reduceLT, Nat.reduceLeDiff, Nat.reduceEqDiff, true_and, and_true, List.length_nil, List.length_cons, or_true, true_or, or_false, false_or, Option.some.injEq, Sum.inl.injEq, Sum.inr.injEq, exists_eq_left', exists_eq_left, Int.reduceLE, Int.reduceLT, Int.reduceNeg, Int.reduceAdd, Int.reduceMul, Int.reduceSub, Int.reduceToNat, inR, Nat.zero_ne_one, false_and, Nat.succ_ne_zero, reduceCtorEq, false_implies, true_implies, not_false_eq_true, not_true_eq_false, Int.reduceEq, KRE, C_RingDater_count, FR, l0, FB, FW, k0, k76, k60, k33, k68, r3, r4, r5, r6, l106, l111, l1, FD]
  repeat (first | refine ⟨by omega, ?_⟩ | refine ⟨fun _ _ => okt_nn (by omega), ?_⟩)
  try (first | (show _ ≤ _; omega) | (show _ < _; omega))
  refine (RingDater_layChronology_ok h).mono (fun M1 z => ?_)
  obtain ⟨z1, z2, z3, z4, z5⟩ := z
  simp (maxSteps := 2000000) only [↓reduceIte, wp_eq, wpd_eq, kont_eq, STP1, STP2, STP3, STP4, STP5, konM_eq, AMK, CZ, Option.map, List.getElem?_cons_zero, List.getElem?_cons_succ, List.mem_cons, List.not_mem_nil, if_false, if_true, Nat.reduceAdd, Nat.reduceLT, Nat.reduceLeDiff, Nat.reduceEqDiff, true_and, and_true, List.length_nil, List.length_cons, or_true, true_or, or_false, false_or, Option.some.injEq, Sum.inl.injEq, Sum.inr.injEq, exists_eq_left', exists_eq_left, Int.reduceLE, Int.reduceLT, Int.reduceNeg, Int.reduceAdd, Int.reduceMul, Int.reduceSub, Int.reduceToNat, inR, Nat.zero_ne_one, false_and, Nat.succ_ne_zero, reduceCtorEq, false_implies, true_implies, not_false_eq_true, not_true_eq_false, Int.reduceEq, KRE, C_RingDater_count, FR, FB, z2, z3]
  repeat (first | refine ⟨by omega, ?_⟩ | refine ⟨fun _ _ => okt_nn (by omega), ?_⟩)
  try (first | (show _ ≤ _; omega) | (show _ < _; omega))
  first | exact ⟨z4, z5⟩ | exact z5

set_option maxHeartbeats 600000 in
set_option maxRecDepth 20000 in
theorem RingDater_count_6 {n : Nat} {T : Nat → Rw} {Y : Nat → Int} {lap bnd mrg : Int} {M : Mm} (h : cls M n T Y lap bnd mrg) : CallI m_RingDater_count [.inr 0, .inl 6] M (fun x M' => x = (cSpan T Y (-1) n).2 ∧ cls M' n T Y lap bnd mrg ∧ FrP scrF M M') := by
  have l0 := isStk_76.1
  have k0 : kc (lay 0) 11 = True := FR.1
  have k76 : kc (lay 76) 8 = True := by rw [l0]; exact eq_true rfl
  have k60 : kc (lay 60) 10 = True := FW.1
  have k33 : kc (lay 33) 0 = True := FB.1
  have k68 : kc (lay 68) 2 = True := FG.1
  have r3 := h.2.1.1
  have r5 := h.2.2.2.1.1
  have r4 := h.2.2.2.2.1.1
  have r6 := h.2.2.2.2.2.1.1
  have l106 := isLed_106.1
  have l111 := isNts_111.1
  have l1 : kc (lay 1) 5 = True := FD.1
  refine callP_of (by decide) (by decide) (Nat.le_of_ble_eq_true rfl) (wpm_of (cuts := []) (by decide) 60 _ _ _ _ ?_)
  rw [show lM m_RingDater_count = 2 from rfl]
  simp (maxSteps := 2000000) only [↓reduceIte, wp_eq, wpd_eq, kont_eq, STP1, STP2, STP3, STP4, STP5, konM_eq, AMK, CZ, Option.map, List.getElem?_cons_zero, List.getElem?_cons_succ, List.mem_cons, List.not_mem_nil, if_false, if_true, Nat.reduceAdd, Nat.reduceLT, Nat.reduceLeDiff, Nat.reduceEqDiff, true_and, and_true, List.length_nil, List.length_cons, or_true, true_or, or_false, false_or, Option.some.injEq, Sum.inl.injEq, Sum.inr.injEq, exists_eq_left', exists_eq_left, Int.reduceLE, Int.reduceLT, Int.reduceNeg, Int.reduceAdd, Int.reduceMul, Int.reduceSub, Int.reduceToNat, inR, Nat.zero_ne_one, false_and, Nat.succ_ne_zero, reduceCtorEq, false_implies, true_implies, not_false_eq_true, not_true_eq_false, Int.reduceEq, KRE, C_RingDater_count, FR, l0, FB, FW, k0, k76, k60, k33, k68, r3, r4, r5, r6, l106, l111, l1, FD]
  repeat (first | refine ⟨by omega, ?_⟩ | refine ⟨fun _ _ => okt_nn (by omega), ?_⟩)
  try (first | (show _ ≤ _; omega) | (show _ < _; omega))
  refine (RingDater_layChronology_ok h).mono (fun M1 z => ?_)
  obtain ⟨z1, z2, z3, z4, z5⟩ := z
  simp (maxSteps := 2000000) only [↓reduceIte, wp_eq, wpd_eq, kont_eq, STP1, STP2, STP3, STP4, STP5, konM_eq, AMK, CZ, Option.map, List.getElem?_cons_zero, List.getElem?_cons_succ, List.mem_cons, List.not_mem_nil, if_false, if_true, Nat.reduceAdd, Nat.reduceLT, Nat.reduceLeDiff, Nat.reduceEqDiff, true_and, and_true, List.length_nil, List.length_cons, or_true, true_or, or_false, false_or, Option.some.injEq, Sum.inl.injEq, Sum.inr.injEq, exists_eq_left', exists_eq_left, Int.reduceLE, Int.reduceLT, Int.reduceNeg, Int.reduceAdd, Int.reduceMul, Int.reduceSub, Int.reduceToNat, inR, Nat.zero_ne_one, false_and, Nat.succ_ne_zero, reduceCtorEq, false_implies, true_implies, not_false_eq_true, not_true_eq_false, Int.reduceEq, KRE, C_RingDater_count, FR, FB, z2, z3]
  repeat (first | refine ⟨by omega, ?_⟩ | refine ⟨fun _ _ => okt_nn (by omega), ?_⟩)
  try (first | (show _ ≤ _; omega) | (show _ < _; omega))
  first | exact ⟨z4, z5⟩ | exact z5

set_option maxHeartbeats 600000 in
set_option maxRecDepth 20000 in
theorem RingDater_count_7 {n : Nat} {T : Nat → Rw} {Y : Nat → Int} {lap bnd mrg : Int} {M : Mm} (h : cls M n T Y lap bnd mrg) : CallI m_RingDater_count [.inr 0, .inl 7] M (fun x M' => x = (lks T lap bnd mrg n n).1 ∧ cls M' n T Y lap bnd mrg ∧ FrP scrF M M') := by
  have l0 := isStk_76.1
  have k0 : kc (lay 0) 11 = True := FR.1
  have k76 : kc (lay 76) 8 = True := by rw [l0]; exact eq_true rfl
  have k60 : kc (lay 60) 10 = True := FW.1
  have k33 : kc (lay 33) 0 = True := FB.1
  have k68 : kc (lay 68) 2 = True := FG.1
  have r3 := h.2.1.1
  have r5 := h.2.2.2.1.1
  have r4 := h.2.2.2.2.1.1
  have r6 := h.2.2.2.2.2.1.1
  have l106 := isLed_106.1
  have l111 := isNts_111.1
  have l1 : kc (lay 1) 5 = True := FD.1
  refine callP_of (by decide) (by decide) (Nat.le_of_ble_eq_true rfl) (wpm_of (cuts := []) (by decide) 60 _ _ _ _ ?_)
  rw [show lM m_RingDater_count = 2 from rfl]
  simp (maxSteps := 2000000) only [↓reduceIte, wp_eq, wpd_eq, kont_eq, STP1, STP2, STP3, STP4, STP5, konM_eq, AMK, CZ, Option.map, List.getElem?_cons_zero, List.getElem?_cons_succ, List.mem_cons, List.not_mem_nil, if_false, if_true, Nat.reduceAdd, Nat.reduceLT, Nat.reduceLeDiff, Nat.reduceEqDiff, true_and, and_true, List.length_nil, List.length_cons, or_true, true_or, or_false, false_or, Option.some.injEq, Sum.inl.injEq, Sum.inr.injEq, exists_eq_left', exists_eq_left, Int.reduceLE, Int.reduceLT, Int.reduceNeg, Int.reduceAdd, Int.reduceMul, Int.reduceSub, Int.reduceToNat, inR, Nat.zero_ne_one, false_and, Nat.succ_ne_zero, reduceCtorEq, false_implies, true_implies, not_false_eq_true, not_true_eq_false, Int.reduceEq, KRE, C_RingDater_count, FR, l0, FB, FW, k0, k76, k60, k33, k68, r3, r4, r5, r6, l106, l111, l1, FD]
  repeat (first | refine ⟨by omega, ?_⟩ | refine ⟨fun _ _ => okt_nn (by omega), ?_⟩)
  try (first | (show _ ≤ _; omega) | (show _ < _; omega))
  refine (RingDater_spunWeb_ok h).mono (fun y M1 z => ?_)
  obtain ⟨rfl, z1, z4, z5⟩ := z
  have g := z1.2.2.1
  simp (maxSteps := 2000000) only [↓reduceIte, wp_eq, wpd_eq, kont_eq, STP1, STP2, STP3, STP4, STP5, konM_eq, AMK, CZ, Option.map, List.getElem?_cons_zero, List.getElem?_cons_succ, List.mem_cons, List.not_mem_nil, if_false, if_true, Nat.reduceAdd, Nat.reduceLT, Nat.reduceLeDiff, Nat.reduceEqDiff, true_and, and_true, List.length_nil, List.length_cons, or_true, true_or, or_false, false_or, Option.some.injEq, Sum.inl.injEq, Sum.inr.injEq, exists_eq_left', exists_eq_left, Int.reduceLE, Int.reduceLT, Int.reduceNeg, Int.reduceAdd, Int.reduceMul, Int.reduceSub, Int.reduceToNat, inR, Nat.zero_ne_one, false_and, Nat.succ_ne_zero, reduceCtorEq, false_implies, true_implies, not_false_eq_true, not_true_eq_false, Int.reduceEq, KRE, C_RingDater_count, FW, g]
  repeat (first | refine ⟨by omega, ?_⟩ | refine ⟨fun _ _ => okt_nn (by omega), ?_⟩)
  try (first | (show _ ≤ _; omega) | (show _ < _; omega))
  first | exact ⟨z4, z5⟩ | exact z5

set_option maxHeartbeats 600000 in
set_option maxRecDepth 20000 in
theorem RingDater_count_8 {n : Nat} {T : Nat → Rw} {Y : Nat → Int} {lap bnd mrg : Int} {M : Mm} (h : cls M n T Y lap bnd mrg) : CallI m_RingDater_count [.inr 0, .inl 8] M (fun x M' => x = sumN (fun t => if (pcN (lks T lap bnd mrg n n).2 (lks T lap bnd mrg n n).1).1 t = t then 1 else 0) n ∧ cls M' n T Y lap bnd mrg ∧ FrP scrF M M') := by
  have l0 := isStk_76.1
  have k0 : kc (lay 0) 11 = True := FR.1
  have k76 : kc (lay 76) 8 = True := by rw [l0]; exact eq_true rfl
  have k60 : kc (lay 60) 10 = True := FW.1
  have k33 : kc (lay 33) 0 = True := FB.1
  have k68 : kc (lay 68) 2 = True := FG.1
  have r3 := h.2.1.1
  have r5 := h.2.2.2.1.1
  have r4 := h.2.2.2.2.1.1
  have r6 := h.2.2.2.2.2.1.1
  have l106 := isLed_106.1
  have l111 := isNts_111.1
  have l1 : kc (lay 1) 5 = True := FD.1
  refine callP_of (by decide) (by decide) (Nat.le_of_ble_eq_true rfl) (wpm_of (cuts := []) (by decide) 60 _ _ _ _ ?_)
  rw [show lM m_RingDater_count = 2 from rfl]
  simp (maxSteps := 2000000) only [↓reduceIte, wp_eq, wpd_eq, kont_eq, STP1, STP2, STP3, STP4, STP5, konM_eq, AMK, CZ, Option.map, List.getElem?_cons_zero, List.getElem?_cons_succ, List.mem_cons, List.not_mem_nil, if_false, if_true, Nat.reduceAdd, Nat.reduceLT, Nat.reduceLeDiff, Nat.reduceEqDiff, true_and, and_true, List.length_nil, List.length_cons, or_true, true_or, or_false, false_or, Option.some.injEq, Sum.inl.injEq, Sum.inr.injEq, exists_eq_left', exists_eq_left, Int.reduceLE, Int.reduceLT, Int.reduceNeg, Int.reduceAdd, Int.reduceMul, Int.reduceSub, Int.reduceToNat, inR, Nat.zero_ne_one, false_and, Nat.succ_ne_zero, reduceCtorEq, false_implies, true_implies, not_false_eq_true, not_true_eq_false, Int.reduceEq, KRE, C_RingDater_count, FR, l0, FB, FW, k0, k76, k60, k33, k68, r3, r4, r5, r6, l106, l111, l1, FD]
  repeat (first | refine ⟨by omega, ?_⟩ | refine ⟨fun _ _ => okt_nn (by omega), ?_⟩)
  try (first | (show _ ≤ _; omega) | (show _ < _; omega))
  refine (RingDater_spunWeb_ok h).mono (fun y M1 z => ?_)
  obtain ⟨rfl, z1, z4, z5⟩ := z
  have e3 := z4.2.1.1
  simp (maxSteps := 2000000) only [↓reduceIte, wp_eq, wpd_eq, kont_eq, STP1, STP2, STP3, STP4, STP5, konM_eq, AMK, CZ, Option.map, List.getElem?_cons_zero, List.getElem?_cons_succ, List.mem_cons, List.not_mem_nil, if_false, if_true, Nat.reduceAdd, Nat.reduceLT, Nat.reduceLeDiff, Nat.reduceEqDiff, true_and, and_true, List.length_nil, List.length_cons, or_true, true_or, or_false, false_or, Option.some.injEq, Sum.inl.injEq, Sum.inr.injEq, exists_eq_left', exists_eq_left, Int.reduceLE, Int.reduceLT, Int.reduceNeg, Int.reduceAdd, Int.reduceMul, Int.reduceSub, Int.reduceToNat, inR, Nat.zero_ne_one, false_and, Nat.succ_ne_zero, reduceCtorEq, false_implies, true_implies, not_false_eq_true, not_true_eq_false, Int.reduceEq, KRE, C_RingDater_count, FR, FW, l0, e3, k60]
  repeat (first | refine ⟨by omega, ?_⟩ | refine ⟨fun _ _ => okt_nn (by omega), ?_⟩)
  try (first | (show _ ≤ _; omega) | (show _ < _; omega))
  refine (Web_countPieces_ok z1 h.2.1.2).eq ?_
  exact ⟨rfl, z4, z5⟩

set_option maxHeartbeats 600000 in
set_option maxRecDepth 20000 in
theorem RingDater_count_9 {n : Nat} {T : Nat → Rw} {Y : Nat → Int} {lap bnd mrg : Int} {M : Mm} (h : cls M n T Y lap bnd mrg) : CallI m_RingDater_count [.inr 0, .inl 9] M (fun x M' => x = sumN (agF (lks T lap bnd mrg n n) (pcN (lks T lap bnd mrg n n).2 (lks T lap bnd mrg n n).1).2) (lks T lap bnd mrg n n).1 ∧ cls M' n T Y lap bnd mrg ∧ FrP scrF M M') := by
  have l0 := isStk_76.1
  have k0 : kc (lay 0) 11 = True := FR.1
  have k76 : kc (lay 76) 8 = True := by rw [l0]; exact eq_true rfl
  have k60 : kc (lay 60) 10 = True := FW.1
  have k33 : kc (lay 33) 0 = True := FB.1
  have k68 : kc (lay 68) 2 = True := FG.1
  have r3 := h.2.1.1
  have r5 := h.2.2.2.1.1
  have r4 := h.2.2.2.2.1.1
  have r6 := h.2.2.2.2.2.1.1
  have l106 := isLed_106.1
  have l111 := isNts_111.1
  have l1 : kc (lay 1) 5 = True := FD.1
  refine callP_of (by decide) (by decide) (Nat.le_of_ble_eq_true rfl) (wpm_of (cuts := []) (by decide) 60 _ _ _ _ ?_)
  rw [show lM m_RingDater_count = 2 from rfl]
  simp (maxSteps := 2000000) only [↓reduceIte, wp_eq, wpd_eq, kont_eq, STP1, STP2, STP3, STP4, STP5, konM_eq, AMK, CZ, Option.map, List.getElem?_cons_zero, List.getElem?_cons_succ, List.mem_cons, List.not_mem_nil, if_false, if_true, Nat.reduceAdd, Nat.reduceLT, Nat.reduceLeDiff, Nat.reduceEqDiff, true_and, and_true, List.length_nil, List.length_cons, or_true, true_or, or_false, false_or, Option.some.injEq, Sum.inl.injEq, Sum.inr.injEq, exists_eq_left', exists_eq_left, Int.reduceLE, Int.reduceLT, Int.reduceNeg, Int.reduceAdd, Int.reduceMul, Int.reduceSub, Int.reduceToNat, inR, Nat.zero_ne_one, false_and, Nat.succ_ne_zero, reduceCtorEq, false_implies, true_implies, not_false_eq_true, not_true_eq_false, Int.reduceEq, KRE, C_RingDater_count, FR, l0, FB, FW, k0, k76, k60, k33, k68, r3, r4, r5, r6, l106, l111, l1, FD]
  repeat (first | refine ⟨by omega, ?_⟩ | refine ⟨fun _ _ => okt_nn (by omega), ?_⟩)
  try (first | (show _ ≤ _; omega) | (show _ < _; omega))
  refine (RingDater_spunWeb_ok h).mono (fun y M1 z => ?_)
  obtain ⟨rfl, z1, z4, z5⟩ := z
  simp (maxSteps := 2000000) only [↓reduceIte, wp_eq, wpd_eq, kont_eq, STP1, STP2, STP3, STP4, STP5, konM_eq, AMK, CZ, Option.map, List.getElem?_cons_zero, List.getElem?_cons_succ, List.mem_cons, List.not_mem_nil, if_false, if_true, Nat.reduceAdd, Nat.reduceLT, Nat.reduceLeDiff, Nat.reduceEqDiff, true_and, and_true, List.length_nil, List.length_cons, or_true, true_or, or_false, false_or, Option.some.injEq, Sum.inl.injEq, Sum.inr.injEq, exists_eq_left', exists_eq_left, Int.reduceLE, Int.reduceLT, Int.reduceNeg, Int.reduceAdd, Int.reduceMul, Int.reduceSub, Int.reduceToNat, inR, Nat.zero_ne_one, false_and, Nat.succ_ne_zero, reduceCtorEq, false_implies, true_implies, not_false_eq_true, not_true_eq_false, Int.reduceEq, KRE, C_RingDater_count, FR, FW, l0, k60]
  repeat (first | refine ⟨by omega, ?_⟩ | refine ⟨fun _ _ => okt_nn (by omega), ?_⟩)
  try (first | (show _ ≤ _; omega) | (show _ < _; omega))
  refine (Web_countAgainst_ok z1).eq ?_
  exact ⟨rfl, z4, z5⟩

set_option maxHeartbeats 600000 in
set_option maxRecDepth 20000 in
theorem RingDater_count_10 {n : Nat} {T : Nat → Rw} {Y : Nat → Int} {lap bnd mrg : Int} {M : Mm} (h : cls M n T Y lap bnd mrg) : CallI m_RingDater_count [.inr 0, .inl 10] M (fun x M' => x = (if fMaxF (fun t => Y t ≠ -1) (felA M 76 3) n ≤ fMinF (fun t => Y t ≠ -1) (felA M 76 4) n then fMaxF (fun t => Y t ≠ -1) (felA M 76 3) n else -1) ∧ cls M' n T Y lap bnd mrg ∧ FrP scrF M M') := by
  have l0 := isStk_76.1
  have k0 : kc (lay 0) 11 = True := FR.1
  have k76 : kc (lay 76) 8 = True := by rw [l0]; exact eq_true rfl
  have k60 : kc (lay 60) 10 = True := FW.1
  have k33 : kc (lay 33) 0 = True := FB.1
  have k68 : kc (lay 68) 2 = True := FG.1
  have r3 := h.2.1.1
  have r5 := h.2.2.2.1.1
  have r4 := h.2.2.2.2.1.1
  have r6 := h.2.2.2.2.2.1.1
  have l106 := isLed_106.1
  have l111 := isNts_111.1
  have l1 : kc (lay 1) 5 = True := FD.1
  refine callP_of (by decide) (by decide) (Nat.le_of_ble_eq_true rfl) (wpm_of (cuts := []) (by decide) 60 _ _ _ _ ?_)
  rw [show lM m_RingDater_count = 2 from rfl]
  simp (maxSteps := 2000000) only [↓reduceIte, wp_eq, wpd_eq, kont_eq, STP1, STP2, STP3, STP4, STP5, konM_eq, AMK, CZ, Option.map, List.getElem?_cons_zero, List.getElem?_cons_succ, List.mem_cons, List.not_mem_nil, if_false, if_true, Nat.reduceAdd, Nat.reduceLT, Nat.reduceLeDiff, Nat.reduceEqDiff, true_and, and_true, List.length_nil, List.length_cons, or_true, true_or, or_false, false_or, Option.some.injEq, Sum.inl.injEq, Sum.inr.injEq, exists_eq_left', exists_eq_left, Int.reduceLE, Int.reduceLT, Int.reduceNeg, Int.reduceAdd, Int.reduceMul, Int.reduceSub, Int.reduceToNat, inR, Nat.zero_ne_one, false_and, Nat.succ_ne_zero, reduceCtorEq, false_implies, true_implies, not_false_eq_true, not_true_eq_false, Int.reduceEq, KRE, C_RingDater_count, FR, l0, FB, FW, k0, k76, k60, k33, k68, r3, r4, r5, r6, l106, l111, l1, FD]
  repeat (first | refine ⟨by omega, ?_⟩ | refine ⟨fun _ _ => okt_nn (by omega), ?_⟩)
  try (first | (show _ ≤ _; omega) | (show _ < _; omega))
  have b0 := fMaxF_in (p := fun t => Y t ≠ -1) (f := felA M 76 3) (c := 953) (by omega) (n := n) (fun t _ => (felA_in isStk_76 h.1.1.1 (Or.inl rfl)).2.1)
  have b9 : ∀ m : Nat, -2 ≤ fMinF (fun t => Y t ≠ -1) (felA M 76 4) m ∧ fMinF (fun t => Y t ≠ -1) (felA M 76 4) m ≤ 953 := by
    intro m
    induction m with
    | zero => exact ⟨show (-2 : Int) ≤ -1 by decide, show (-1 : Int) ≤ 953 by decide⟩
    | succ m ih =>
      have := felA_in (t := m) isStk_76 h.1.1.1 (Or.inr rfl)
      unfold fMinF at *
      rw [foldN]
      split <;> omega
  have b1 := b9 n
  clear b9
  refine (RingDater_builtFrom_ok h).eq ?_
  refine (RingDater_builtUntil_ok h).eq ?_
  by_cases c : fMaxF (fun t => Y t ≠ -1) (felA M 76 3) n ≤ fMinF (fun t => Y t ≠ -1) (felA M 76 4) n
  · have c2 : ¬ fMinF (fun t => Y t ≠ -1) (felA M 76 4) n < fMaxF (fun t => Y t ≠ -1) (felA M 76 3) n := by omega
    simp (maxSteps := 2000000) only [↓reduceIte, wp_eq, wpd_eq, kont_eq, STP1, STP2, STP3, STP4, STP5, konM_eq, AMK, CZ, Option.map, List.getElem?_cons_zero, List.getElem?_cons_succ, List.mem_cons, List.not_mem_nil, if_false, if_true, Nat.reduceAdd, Nat.reduceLT, Nat.reduceLeDiff, Nat.reduceEqDiff, true_and, and_true, List.length_nil, List.length_cons, or_true, true_or, or_false, false_or, Option.some.injEq, Sum.inl.injEq, Sum.inr.injEq, exists_eq_left', exists_eq_left, Int.reduceLE, Int.reduceLT, Int.reduceNeg, Int.reduceAdd, Int.reduceMul, Int.reduceSub, Int.reduceToNat, inR, Nat.zero_ne_one, false_and, Nat.succ_ne_zero, reduceCtorEq, false_implies, true_implies, not_false_eq_true, not_true_eq_false, Int.reduceEq, KRE, C_RingDater_count, FR, c2, k0]
    repeat (first | refine ⟨by omega, ?_⟩ | refine ⟨fun _ _ => okt_nn (by omega), ?_⟩)
    try (first | (show _ ≤ _; omega) | (show _ < _; omega))
    refine (RingDater_builtFrom_ok h).eq ?_
    exact ⟨(if_pos c).symm, h, FrP.rf⟩
  · have c' : fMinF (fun t => Y t ≠ -1) (felA M 76 4) n < fMaxF (fun t => Y t ≠ -1) (felA M 76 3) n := by omega
    simp (maxSteps := 2000000) only [↓reduceIte, wp_eq, wpd_eq, kont_eq, STP1, STP2, STP3, STP4, STP5, konM_eq, AMK, CZ, Option.map, List.getElem?_cons_zero, List.getElem?_cons_succ, List.mem_cons, List.not_mem_nil, if_false, if_true, Nat.reduceAdd, Nat.reduceLT, Nat.reduceLeDiff, Nat.reduceEqDiff, true_and, and_true, List.length_nil, List.length_cons, or_true, true_or, or_false, false_or, Option.some.injEq, Sum.inl.injEq, Sum.inr.injEq, exists_eq_left', exists_eq_left, Int.reduceLE, Int.reduceLT, Int.reduceNeg, Int.reduceAdd, Int.reduceMul, Int.reduceSub, Int.reduceToNat, inR, Nat.zero_ne_one, false_and, Nat.succ_ne_zero, reduceCtorEq, false_implies, true_implies, not_false_eq_true, not_true_eq_false, Int.reduceEq, KRE, C_RingDater_count, FR, c']
    repeat (first | refine ⟨by omega, ?_⟩ | refine ⟨fun _ _ => okt_nn (by omega), ?_⟩)
    try (first | (show _ ≤ _; omega) | (show _ < _; omega))
    first | exact ⟨(if_neg c).symm, h, FrP.rf⟩ | exact ⟨h, FrP.rf⟩ | exact FrP.rf

set_option maxHeartbeats 600000 in
set_option maxRecDepth 20000 in
theorem RingDater_count_11 {n : Nat} {T : Nat → Rw} {Y : Nat → Int} {lap bnd mrg : Int} {M : Mm} (h : cls M n T Y lap bnd mrg) : CallI m_RingDater_count [.inr 0, .inl 11] M (fun x M' => x = (if fMaxF (fun t => Y t ≠ -1) (felA M 76 3) n ≤ fMinF (fun t => Y t ≠ -1) (felA M 76 4) n then fMinF (fun t => Y t ≠ -1) (felA M 76 4) n else -1) ∧ cls M' n T Y lap bnd mrg ∧ FrP scrF M M') := by
  have l0 := isStk_76.1
  have k0 : kc (lay 0) 11 = True := FR.1
  have k76 : kc (lay 76) 8 = True := by rw [l0]; exact eq_true rfl
  have k60 : kc (lay 60) 10 = True := FW.1
  have k33 : kc (lay 33) 0 = True := FB.1
  have k68 : kc (lay 68) 2 = True := FG.1
  have r3 := h.2.1.1
  have r5 := h.2.2.2.1.1
  have r4 := h.2.2.2.2.1.1
  have r6 := h.2.2.2.2.2.1.1
  have l106 := isLed_106.1
  have l111 := isNts_111.1
  have l1 : kc (lay 1) 5 = True := FD.1
  refine callP_of (by decide) (by decide) (Nat.le_of_ble_eq_true rfl) (wpm_of (cuts := []) (by decide) 60 _ _ _ _ ?_)
  rw [show lM m_RingDater_count = 2 from rfl]
  simp (maxSteps := 2000000) only [↓reduceIte, wp_eq, wpd_eq, kont_eq, STP1, STP2, STP3, STP4, STP5, konM_eq, AMK, CZ, Option.map, List.getElem?_cons_zero, List.getElem?_cons_succ, List.mem_cons, List.not_mem_nil, if_false, if_true, Nat.reduceAdd, Nat.reduceLT, Nat.reduceLeDiff, Nat.reduceEqDiff, true_and, and_true, List.length_nil, List.length_cons, or_true, true_or, or_false, false_or, Option.some.injEq, Sum.inl.injEq, Sum.inr.injEq, exists_eq_left', exists_eq_left, Int.reduceLE, Int.reduceLT, Int.reduceNeg, Int.reduceAdd, Int.reduceMul, Int.reduceSub, Int.reduceToNat, inR, Nat.zero_ne_one, false_and, Nat.succ_ne_zero, reduceCtorEq, false_implies, true_implies, not_false_eq_true, not_true_eq_false, Int.reduceEq, KRE, C_RingDater_count, FR, l0, FB, FW, k0, k76, k60, k33, k68, r3, r4, r5, r6, l106, l111, l1, FD]
  repeat (first | refine ⟨by omega, ?_⟩ | refine ⟨fun _ _ => okt_nn (by omega), ?_⟩)
  try (first | (show _ ≤ _; omega) | (show _ < _; omega))
  have b0 := fMaxF_in (p := fun t => Y t ≠ -1) (f := felA M 76 3) (c := 953) (by omega) (n := n) (fun t _ => (felA_in isStk_76 h.1.1.1 (Or.inl rfl)).2.1)
  have b9 : ∀ m : Nat, -2 ≤ fMinF (fun t => Y t ≠ -1) (felA M 76 4) m ∧ fMinF (fun t => Y t ≠ -1) (felA M 76 4) m ≤ 953 := by
    intro m
    induction m with
    | zero => exact ⟨show (-2 : Int) ≤ -1 by decide, show (-1 : Int) ≤ 953 by decide⟩
    | succ m ih =>
      have := felA_in (t := m) isStk_76 h.1.1.1 (Or.inr rfl)
      unfold fMinF at *
      rw [foldN]
      split <;> omega
  have b1 := b9 n
  clear b9
  refine (RingDater_builtFrom_ok h).eq ?_
  refine (RingDater_builtUntil_ok h).eq ?_
  by_cases c : fMaxF (fun t => Y t ≠ -1) (felA M 76 3) n ≤ fMinF (fun t => Y t ≠ -1) (felA M 76 4) n
  · have c2 : ¬ fMinF (fun t => Y t ≠ -1) (felA M 76 4) n < fMaxF (fun t => Y t ≠ -1) (felA M 76 3) n := by omega
    simp (maxSteps := 2000000) only [↓reduceIte, wp_eq, wpd_eq, kont_eq, STP1, STP2, STP3, STP4, STP5, konM_eq, AMK, CZ, Option.map, List.getElem?_cons_zero, List.getElem?_cons_succ, List.mem_cons, List.not_mem_nil, if_false, if_true, Nat.reduceAdd, Nat.reduceLT, Nat.reduceLeDiff, Nat.reduceEqDiff, true_and, and_true, List.length_nil, List.length_cons, or_true, true_or, or_false, false_or, Option.some.injEq, Sum.inl.injEq, Sum.inr.injEq, exists_eq_left', exists_eq_left, Int.reduceLE, Int.reduceLT, Int.reduceNeg, Int.reduceAdd, Int.reduceMul, Int.reduceSub, Int.reduceToNat, inR, Nat.zero_ne_one, false_and, Nat.succ_ne_zero, reduceCtorEq, false_implies, true_implies, not_false_eq_true, not_true_eq_false, Int.reduceEq, KRE, C_RingDater_count, FR, c2, k0]
    repeat (first | refine ⟨by omega, ?_⟩ | refine ⟨fun _ _ => okt_nn (by omega), ?_⟩)
    try (first | (show _ ≤ _; omega) | (show _ < _; omega))
    refine (RingDater_builtUntil_ok h).eq ?_
    exact ⟨(if_pos c).symm, h, FrP.rf⟩
  · have c' : fMinF (fun t => Y t ≠ -1) (felA M 76 4) n < fMaxF (fun t => Y t ≠ -1) (felA M 76 3) n := by omega
    simp (maxSteps := 2000000) only [↓reduceIte, wp_eq, wpd_eq, kont_eq, STP1, STP2, STP3, STP4, STP5, konM_eq, AMK, CZ, Option.map, List.getElem?_cons_zero, List.getElem?_cons_succ, List.mem_cons, List.not_mem_nil, if_false, if_true, Nat.reduceAdd, Nat.reduceLT, Nat.reduceLeDiff, Nat.reduceEqDiff, true_and, and_true, List.length_nil, List.length_cons, or_true, true_or, or_false, false_or, Option.some.injEq, Sum.inl.injEq, Sum.inr.injEq, exists_eq_left', exists_eq_left, Int.reduceLE, Int.reduceLT, Int.reduceNeg, Int.reduceAdd, Int.reduceMul, Int.reduceSub, Int.reduceToNat, inR, Nat.zero_ne_one, false_and, Nat.succ_ne_zero, reduceCtorEq, false_implies, true_implies, not_false_eq_true, not_true_eq_false, Int.reduceEq, KRE, C_RingDater_count, FR, c']
    repeat (first | refine ⟨by omega, ?_⟩ | refine ⟨fun _ _ => okt_nn (by omega), ?_⟩)
    try (first | (show _ ≤ _; omega) | (show _ < _; omega))
    first | exact ⟨(if_neg c).symm, h, FrP.rf⟩ | exact ⟨h, FrP.rf⟩ | exact FrP.rf

set_option maxHeartbeats 600000 in
set_option maxRecDepth 20000 in
theorem RingDater_count_12 {n : Nat} {T : Nat → Rw} {Y : Nat → Int} {lap bnd mrg : Int} {M : Mm} (h : cls M n T Y lap bnd mrg) : CallI m_RingDater_count [.inr 0, .inl 12] M (fun x M' => x = fMaxF (fun t => Y t ≠ -1) (felA M 76 3) n ∧ cls M' n T Y lap bnd mrg ∧ FrP scrF M M') := by
  have l0 := isStk_76.1
  have k0 : kc (lay 0) 11 = True := FR.1
  have k76 : kc (lay 76) 8 = True := by rw [l0]; exact eq_true rfl
  have k60 : kc (lay 60) 10 = True := FW.1
  have k33 : kc (lay 33) 0 = True := FB.1
  have k68 : kc (lay 68) 2 = True := FG.1
  have r3 := h.2.1.1
  have r5 := h.2.2.2.1.1
  have r4 := h.2.2.2.2.1.1
  have r6 := h.2.2.2.2.2.1.1
  have l106 := isLed_106.1
  have l111 := isNts_111.1
  have l1 : kc (lay 1) 5 = True := FD.1
  refine callP_of (by decide) (by decide) (Nat.le_of_ble_eq_true rfl) (wpm_of (cuts := []) (by decide) 60 _ _ _ _ ?_)
  rw [show lM m_RingDater_count = 2 from rfl]
  simp (maxSteps := 2000000) only [↓reduceIte, wp_eq, wpd_eq, kont_eq, STP1, STP2, STP3, STP4, STP5, konM_eq, AMK, CZ, Option.map, List.getElem?_cons_zero, List.getElem?_cons_succ, List.mem_cons, List.not_mem_nil, if_false, if_true, Nat.reduceAdd, Nat.reduceLT, Nat.reduceLeDiff, Nat.reduceEqDiff, true_and, and_true, List.length_nil, List.length_cons, or_true, true_or, or_false, false_or, Option.some.injEq, Sum.inl.injEq, Sum.inr.injEq, exists_eq_left', exists_eq_left, Int.reduceLE, Int.reduceLT, Int.reduceNeg, Int.reduceAdd, Int.reduceMul, Int.reduceSub, Int.reduceToNat, inR, Nat.zero_ne_one, false_and, Nat.succ_ne_zero, reduceCtorEq, false_implies, true_implies, not_false_eq_true, not_true_eq_false, Int.reduceEq, KRE, C_RingDater_count, FR, l0, FB, FW, k0, k76, k60, k33, k68, r3, r4, r5, r6, l106, l111, l1, FD]
  repeat (first | refine ⟨by omega, ?_⟩ | refine ⟨fun _ _ => okt_nn (by omega), ?_⟩)
  try (first | (show _ ≤ _; omega) | (show _ < _; omega))
  refine (RingDater_builtFrom_ok h).eq ?_
  exact ⟨rfl, h, FrP.rf⟩

set_option maxHeartbeats 600000 in
set_option maxRecDepth 20000 in
theorem RingDater_count_13 {n : Nat} {T : Nat → Rw} {Y : Nat → Int} {lap bnd mrg : Int} {M : Mm} (h : cls M n T Y lap bnd mrg) : CallI m_RingDater_count [.inr 0, .inl 13] M (fun x M' => x = cntP T Y n 1000 ∧ cls M' n T Y lap bnd mrg ∧ FrP scrF M M') := by
  have l0 := isStk_76.1
  have k0 : kc (lay 0) 11 = True := FR.1
  have k76 : kc (lay 76) 8 = True := by rw [l0]; exact eq_true rfl
  have k60 : kc (lay 60) 10 = True := FW.1
  have k33 : kc (lay 33) 0 = True := FB.1
  have k68 : kc (lay 68) 2 = True := FG.1
  have r3 := h.2.1.1
  have r5 := h.2.2.2.1.1
  have r4 := h.2.2.2.2.1.1
  have r6 := h.2.2.2.2.2.1.1
  have l106 := isLed_106.1
  have l111 := isNts_111.1
  have l1 : kc (lay 1) 5 = True := FD.1
  refine callP_of (by decide) (by decide) (Nat.le_of_ble_eq_true rfl) (wpm_of (cuts := []) (by decide) 60 _ _ _ _ ?_)
  rw [show lM m_RingDater_count = 2 from rfl]
  simp (maxSteps := 2000000) only [↓reduceIte, wp_eq, wpd_eq, kont_eq, STP1, STP2, STP3, STP4, STP5, konM_eq, AMK, CZ, Option.map, List.getElem?_cons_zero, List.getElem?_cons_succ, List.mem_cons, List.not_mem_nil, if_false, if_true, Nat.reduceAdd, Nat.reduceLT, Nat.reduceLeDiff, Nat.reduceEqDiff, true_and, and_true, List.length_nil, List.length_cons, or_true, true_or, or_false, false_or, Option.some.injEq, Sum.inl.injEq, Sum.inr.injEq, exists_eq_left', exists_eq_left, Int.reduceLE, Int.reduceLT, Int.reduceNeg, Int.reduceAdd, Int.reduceMul, Int.reduceSub, Int.reduceToNat, inR, Nat.zero_ne_one, false_and, Nat.succ_ne_zero, reduceCtorEq, false_implies, true_implies, not_false_eq_true, not_true_eq_false, Int.reduceEq, KRE, C_RingDater_count, FR, l0, FB, FW, k0, k76, k60, k33, k68, r3, r4, r5, r6, l106, l111, l1, FD]
  repeat (first | refine ⟨by omega, ?_⟩ | refine ⟨fun _ _ => okt_nn (by omega), ?_⟩)
  try (first | (show _ ≤ _; omega) | (show _ < _; omega))
  exact (RingDater_countPointers_ok h).mono (fun y M1 z => z)

set_option maxHeartbeats 600000 in
set_option maxRecDepth 20000 in
theorem RingDater_count_14 {n : Nat} {T : Nat → Rw} {Y : Nat → Int} {lap bnd mrg : Int} {M : Mm} (h : cls M n T Y lap bnd mrg) : CallI m_RingDater_count [.inr 0, .inl 14] M (fun x M' => x = (oddS (fitS T Y n) Y n).1 ∧ cls M' n T Y lap bnd mrg ∧ FrP scrF M M') := by
  have l0 := isStk_76.1
  have k0 : kc (lay 0) 11 = True := FR.1
  have k76 : kc (lay 76) 8 = True := by rw [l0]; exact eq_true rfl
  have k60 : kc (lay 60) 10 = True := FW.1
  have k33 : kc (lay 33) 0 = True := FB.1
  have k68 : kc (lay 68) 2 = True := FG.1
  have r3 := h.2.1.1
  have r5 := h.2.2.2.1.1
  have r4 := h.2.2.2.2.1.1
  have r6 := h.2.2.2.2.2.1.1
  have l106 := isLed_106.1
  have l111 := isNts_111.1
  have l1 : kc (lay 1) 5 = True := FD.1
  refine callP_of (by decide) (by decide) (Nat.le_of_ble_eq_true rfl) (wpm_of (cuts := []) (by decide) 60 _ _ _ _ ?_)
  rw [show lM m_RingDater_count = 2 from rfl]
  simp (maxSteps := 2000000) only [↓reduceIte, wp_eq, wpd_eq, kont_eq, STP1, STP2, STP3, STP4, STP5, konM_eq, AMK, CZ, Option.map, List.getElem?_cons_zero, List.getElem?_cons_succ, List.mem_cons, List.not_mem_nil, if_false, if_true, Nat.reduceAdd, Nat.reduceLT, Nat.reduceLeDiff, Nat.reduceEqDiff, true_and, and_true, List.length_nil, List.length_cons, or_true, true_or, or_false, false_or, Option.some.injEq, Sum.inl.injEq, Sum.inr.injEq, exists_eq_left', exists_eq_left, Int.reduceLE, Int.reduceLT, Int.reduceNeg, Int.reduceAdd, Int.reduceMul, Int.reduceSub, Int.reduceToNat, inR, Nat.zero_ne_one, false_and, Nat.succ_ne_zero, reduceCtorEq, false_implies, true_implies, not_false_eq_true, not_true_eq_false, Int.reduceEq, KRE, C_RingDater_count, FR, l0, FB, FW, k0, k76, k60, k33, k68, r3, r4, r5, r6, l106, l111, l1, FD]
  repeat (first | refine ⟨by omega, ?_⟩ | refine ⟨fun _ _ => okt_nn (by omega), ?_⟩)
  try (first | (show _ ≤ _; omega) | (show _ < _; omega))
  exact (RingDater_oddTimber_ok h).mono (fun y M1 z => z)

set_option maxHeartbeats 600000 in
set_option maxRecDepth 20000 in
theorem RingDater_count_16 {n : Nat} {T : Nat → Rw} {Y : Nat → Int} {lap bnd mrg : Int} {M : Mm} (h : cls M n T Y lap bnd mrg) : CallI m_RingDater_count [.inr 0, .inl 16] M (fun x M' => x = M 106 4 ∧ cls M' n T Y lap bnd mrg ∧ FrP scrF M M') := by
  have l0 := isStk_76.1
  have k0 : kc (lay 0) 11 = True := FR.1
  have k76 : kc (lay 76) 8 = True := by rw [l0]; exact eq_true rfl
  have k60 : kc (lay 60) 10 = True := FW.1
  have k33 : kc (lay 33) 0 = True := FB.1
  have k68 : kc (lay 68) 2 = True := FG.1
  have r3 := h.2.1.1
  have r5 := h.2.2.2.1.1
  have r4 := h.2.2.2.2.1.1
  have r6 := h.2.2.2.2.2.1.1
  have l106 := isLed_106.1
  have l111 := isNts_111.1
  have l1 : kc (lay 1) 5 = True := FD.1
  refine callP_of (by decide) (by decide) (Nat.le_of_ble_eq_true rfl) (wpm_of (cuts := []) (by decide) 60 _ _ _ _ ?_)
  rw [show lM m_RingDater_count = 2 from rfl]
  simp (maxSteps := 2000000) only [↓reduceIte, wp_eq, wpd_eq, kont_eq, STP1, STP2, STP3, STP4, STP5, konM_eq, AMK, CZ, Option.map, List.getElem?_cons_zero, List.getElem?_cons_succ, List.mem_cons, List.not_mem_nil, if_false, if_true, Nat.reduceAdd, Nat.reduceLT, Nat.reduceLeDiff, Nat.reduceEqDiff, true_and, and_true, List.length_nil, List.length_cons, or_true, true_or, or_false, false_or, Option.some.injEq, Sum.inl.injEq, Sum.inr.injEq, exists_eq_left', exists_eq_left, Int.reduceLE, Int.reduceLT, Int.reduceNeg, Int.reduceAdd, Int.reduceMul, Int.reduceSub, Int.reduceToNat, inR, Nat.zero_ne_one, false_and, Nat.succ_ne_zero, reduceCtorEq, false_implies, true_implies, not_false_eq_true, not_true_eq_false, Int.reduceEq, KRE, C_RingDater_count, FR, l0, FB, FW, k0, k76, k60, k33, k68, r3, r4, r5, r6, l106, l111, l1, FD]
  repeat (first | refine ⟨by omega, ?_⟩ | refine ⟨fun _ _ => okt_nn (by omega), ?_⟩)
  try (first | (show _ ≤ _; omega) | (show _ < _; omega))
  exact FrP.rf

set_option maxHeartbeats 600000 in
set_option maxRecDepth 20000 in
theorem RingDater_count_17 {n : Nat} {T : Nat → Rw} {Y : Nat → Int} {lap bnd mrg : Int} {M : Mm} (h : cls M n T Y lap bnd mrg) : CallI m_RingDater_count [.inr 0, .inl 17] M (fun x M' => x = M 111 2 ∧ cls M' n T Y lap bnd mrg ∧ FrP scrF M M') := by
  have l0 := isStk_76.1
  have k0 : kc (lay 0) 11 = True := FR.1
  have k76 : kc (lay 76) 8 = True := by rw [l0]; exact eq_true rfl
  have k60 : kc (lay 60) 10 = True := FW.1
  have k33 : kc (lay 33) 0 = True := FB.1
  have k68 : kc (lay 68) 2 = True := FG.1
  have r3 := h.2.1.1
  have r5 := h.2.2.2.1.1
  have r4 := h.2.2.2.2.1.1
  have r6 := h.2.2.2.2.2.1.1
  have l106 := isLed_106.1
  have l111 := isNts_111.1
  have l1 : kc (lay 1) 5 = True := FD.1
  refine callP_of (by decide) (by decide) (Nat.le_of_ble_eq_true rfl) (wpm_of (cuts := []) (by decide) 60 _ _ _ _ ?_)
  rw [show lM m_RingDater_count = 2 from rfl]
  simp (maxSteps := 2000000) only [↓reduceIte, wp_eq, wpd_eq, kont_eq, STP1, STP2, STP3, STP4, STP5, konM_eq, AMK, CZ, Option.map, List.getElem?_cons_zero, List.getElem?_cons_succ, List.mem_cons, List.not_mem_nil, if_false, if_true, Nat.reduceAdd, Nat.reduceLT, Nat.reduceLeDiff, Nat.reduceEqDiff, true_and, and_true, List.length_nil, List.length_cons, or_true, true_or, or_false, false_or, Option.some.injEq, Sum.inl.injEq, Sum.inr.injEq, exists_eq_left', exists_eq_left, Int.reduceLE, Int.reduceLT, Int.reduceNeg, Int.reduceAdd, Int.reduceMul, Int.reduceSub, Int.reduceToNat, inR, Nat.zero_ne_one, false_and, Nat.succ_ne_zero, reduceCtorEq, false_implies, true_implies, not_false_eq_true, not_true_eq_false, Int.reduceEq, KRE, C_RingDater_count, FR, l0, FB, FW, k0, k76, k60, k33, k68, r3, r4, r5, r6, l106, l111, l1, FD]
  repeat (first | refine ⟨by omega, ?_⟩ | refine ⟨fun _ _ => okt_nn (by omega), ?_⟩)
  try (first | (show _ ≤ _; omega) | (show _ < _; omega))
  exact FrP.rf

set_option maxHeartbeats 600000 in
set_option maxRecDepth 20000 in
theorem RingDater_count_18 {n : Nat} {T : Nat → Rw} {Y : Nat → Int} {lap bnd mrg : Int} {M : Mm} (h : cls M n T Y lap bnd mrg) : CallI m_RingDater_count [.inr 0, .inl 18] M (fun x M' => x = M 1 2 ∧ cls M' n T Y lap bnd mrg ∧ FrP scrF M M') := by
  have l0 := isStk_76.1
  have k0 : kc (lay 0) 11 = True := FR.1
  have k76 : kc (lay 76) 8 = True := by rw [l0]; exact eq_true rfl
  have k60 : kc (lay 60) 10 = True := FW.1
  have k33 : kc (lay 33) 0 = True := FB.1
  have k68 : kc (lay 68) 2 = True := FG.1
  have r3 := h.2.1.1
  have r5 := h.2.2.2.1.1
  have r4 := h.2.2.2.2.1.1
  have r6 := h.2.2.2.2.2.1.1
  have l106 := isLed_106.1
  have l111 := isNts_111.1
  have l1 : kc (lay 1) 5 = True := FD.1
  refine callP_of (by decide) (by decide) (Nat.le_of_ble_eq_true rfl) (wpm_of (cuts := []) (by decide) 60 _ _ _ _ ?_)
  rw [show lM m_RingDater_count = 2 from rfl]
  simp (maxSteps := 2000000) only [↓reduceIte, wp_eq, wpd_eq, kont_eq, STP1, STP2, STP3, STP4, STP5, konM_eq, AMK, CZ, Option.map, List.getElem?_cons_zero, List.getElem?_cons_succ, List.mem_cons, List.not_mem_nil, if_false, if_true, Nat.reduceAdd, Nat.reduceLT, Nat.reduceLeDiff, Nat.reduceEqDiff, true_and, and_true, List.length_nil, List.length_cons, or_true, true_or, or_false, false_or, Option.some.injEq, Sum.inl.injEq, Sum.inr.injEq, exists_eq_left', exists_eq_left, Int.reduceLE, Int.reduceLT, Int.reduceNeg, Int.reduceAdd, Int.reduceMul, Int.reduceSub, Int.reduceToNat, inR, Nat.zero_ne_one, false_and, Nat.succ_ne_zero, reduceCtorEq, false_implies, true_implies, not_false_eq_true, not_true_eq_false, Int.reduceEq, KRE, C_RingDater_count, FR, l0, FB, FW, k0, k76, k60, k33, k68, r3, r4, r5, r6, l106, l111, l1, FD]
  repeat (first | refine ⟨by omega, ?_⟩ | refine ⟨fun _ _ => okt_nn (by omega), ?_⟩)
  try (first | (show _ ≤ _; omega) | (show _ < _; omega))
  exact FrP.rf

set_option maxHeartbeats 600000 in
set_option maxRecDepth 20000 in
theorem RingDater_count_19 {n : Nat} {T : Nat → Rw} {Y : Nat → Int} {lap bnd mrg : Int} {M : Mm} (h : cls M n T Y lap bnd mrg) : CallI m_RingDater_count [.inr 0, .inl 19] M (fun x M' => x = M 114 0 ∧ cls M' n T Y lap bnd mrg ∧ FrP scrF M M') := by
  have l0 := isStk_76.1
  have k0 : kc (lay 0) 11 = True := FR.1
  have k76 : kc (lay 76) 8 = True := by rw [l0]; exact eq_true rfl
  have k60 : kc (lay 60) 10 = True := FW.1
  have k33 : kc (lay 33) 0 = True := FB.1
  have k68 : kc (lay 68) 2 = True := FG.1
  have r3 := h.2.1.1
  have r5 := h.2.2.2.1.1
  have r4 := h.2.2.2.2.1.1
  have r6 := h.2.2.2.2.2.1.1
  have l106 := isLed_106.1
  have l111 := isNts_111.1
  have l1 : kc (lay 1) 5 = True := FD.1
  refine callP_of (by decide) (by decide) (Nat.le_of_ble_eq_true rfl) (wpm_of (cuts := []) (by decide) 60 _ _ _ _ ?_)
  rw [show lM m_RingDater_count = 2 from rfl]
  simp (maxSteps := 2000000) only [↓reduceIte, wp_eq, wpd_eq, kont_eq, STP1, STP2, STP3, STP4, STP5, konM_eq, AMK, CZ, Option.map, List.getElem?_cons_zero, List.getElem?_cons_succ, List.mem_cons, List.not_mem_nil, if_false, if_true, Nat.reduceAdd, Nat.reduceLT, Nat.reduceLeDiff, Nat.reduceEqDiff, true_and, and_true, List.length_nil, List.length_cons, or_true, true_or, or_false, false_or, Option.some.injEq, Sum.inl.injEq, Sum.inr.injEq, exists_eq_left', exists_eq_left, Int.reduceLE, Int.reduceLT, Int.reduceNeg, Int.reduceAdd, Int.reduceMul, Int.reduceSub, Int.reduceToNat, inR, Nat.zero_ne_one, false_and, Nat.succ_ne_zero, reduceCtorEq, false_implies, true_implies, not_false_eq_true, not_true_eq_false, Int.reduceEq, KRE, C_RingDater_count, FR, l0, FB, FW, k0, k76, k60, k33, k68, r3, r4, r5, r6, l106, l111, l1, FD]
  repeat (first | refine ⟨by omega, ?_⟩ | refine ⟨fun _ _ => okt_nn (by omega), ?_⟩)
  try (first | (show _ ≤ _; omega) | (show _ < _; omega))
  exact FrP.rf

set_option maxHeartbeats 600000 in
set_option maxRecDepth 20000 in
theorem RingDater_count_20 {n : Nat} {T : Nat → Rw} {Y : Nat → Int} {lap bnd mrg : Int} {M : Mm} (h : cls M n T Y lap bnd mrg) : CallI m_RingDater_count [.inr 0, .inl 20] M (fun x M' => x = M 114 1 ∧ cls M' n T Y lap bnd mrg ∧ FrP scrF M M') := by
  have l0 := isStk_76.1
  have k0 : kc (lay 0) 11 = True := FR.1
  have k76 : kc (lay 76) 8 = True := by rw [l0]; exact eq_true rfl
  have k60 : kc (lay 60) 10 = True := FW.1
  have k33 : kc (lay 33) 0 = True := FB.1
  have k68 : kc (lay 68) 2 = True := FG.1
  have r3 := h.2.1.1
  have r5 := h.2.2.2.1.1
  have r4 := h.2.2.2.2.1.1
  have r6 := h.2.2.2.2.2.1.1
  have l106 := isLed_106.1
  have l111 := isNts_111.1
  have l1 : kc (lay 1) 5 = True := FD.1
  refine callP_of (by decide) (by decide) (Nat.le_of_ble_eq_true rfl) (wpm_of (cuts := []) (by decide) 60 _ _ _ _ ?_)
  rw [show lM m_RingDater_count = 2 from rfl]
  simp (maxSteps := 2000000) only [↓reduceIte, wp_eq, wpd_eq, kont_eq, STP1, STP2, STP3, STP4, STP5, konM_eq, AMK, CZ, Option.map, List.getElem?_cons_zero, List.getElem?_cons_succ, List.mem_cons, List.not_mem_nil, if_false, if_true, Nat.reduceAdd, Nat.reduceLT, Nat.reduceLeDiff, Nat.reduceEqDiff, true_and, and_true, List.length_nil, List.length_cons, or_true, true_or, or_false, false_or, Option.some.injEq, Sum.inl.injEq, Sum.inr.injEq, exists_eq_left', exists_eq_left, Int.reduceLE, Int.reduceLT, Int.reduceNeg, Int.reduceAdd, Int.reduceMul, Int.reduceSub, Int.reduceToNat, inR, Nat.zero_ne_one, false_and, Nat.succ_ne_zero, reduceCtorEq, false_implies, true_implies, not_false_eq_true, not_true_eq_false, Int.reduceEq, KRE, C_RingDater_count, FR, l0, FB, FW, k0, k76, k60, k33, k68, r3, r4, r5, r6, l106, l111, l1, FD]
  repeat (first | refine ⟨by omega, ?_⟩ | refine ⟨fun _ _ => okt_nn (by omega), ?_⟩)
  try (first | (show _ ≤ _; omega) | (show _ < _; omega))
  exact FrP.rf

set_option maxHeartbeats 600000 in
set_option maxRecDepth 20000 in
theorem RingDater_count_21 {n : Nat} {T : Nat → Rw} {Y : Nat → Int} {lap bnd mrg : Int} {M : Mm} (h : cls M n T Y lap bnd mrg) : CallI m_RingDater_count [.inr 0, .inl 21] M (fun x M' => x = M 114 2 ∧ cls M' n T Y lap bnd mrg ∧ FrP scrF M M') := by
  have l0 := isStk_76.1
  have k0 : kc (lay 0) 11 = True := FR.1
  have k76 : kc (lay 76) 8 = True := by rw [l0]; exact eq_true rfl
  have k60 : kc (lay 60) 10 = True := FW.1
  have k33 : kc (lay 33) 0 = True := FB.1
  have k68 : kc (lay 68) 2 = True := FG.1
  have r3 := h.2.1.1
  have r5 := h.2.2.2.1.1
  have r4 := h.2.2.2.2.1.1
  have r6 := h.2.2.2.2.2.1.1
  have l106 := isLed_106.1
  have l111 := isNts_111.1
  have l1 : kc (lay 1) 5 = True := FD.1
  refine callP_of (by decide) (by decide) (Nat.le_of_ble_eq_true rfl) (wpm_of (cuts := []) (by decide) 60 _ _ _ _ ?_)
  rw [show lM m_RingDater_count = 2 from rfl]
  simp (maxSteps := 2000000) only [↓reduceIte, wp_eq, wpd_eq, kont_eq, STP1, STP2, STP3, STP4, STP5, konM_eq, AMK, CZ, Option.map, List.getElem?_cons_zero, List.getElem?_cons_succ, List.mem_cons, List.not_mem_nil, if_false, if_true, Nat.reduceAdd, Nat.reduceLT, Nat.reduceLeDiff, Nat.reduceEqDiff, true_and, and_true, List.length_nil, List.length_cons, or_true, true_or, or_false, false_or, Option.some.injEq, Sum.inl.injEq, Sum.inr.injEq, exists_eq_left', exists_eq_left, Int.reduceLE, Int.reduceLT, Int.reduceNeg, Int.reduceAdd, Int.reduceMul, Int.reduceSub, Int.reduceToNat, inR, Nat.zero_ne_one, false_and, Nat.succ_ne_zero, reduceCtorEq, false_implies, true_implies, not_false_eq_true, not_true_eq_false, Int.reduceEq, KRE, C_RingDater_count, FR, l0, FB, FW, k0, k76, k60, k33, k68, r3, r4, r5, r6, l106, l111, l1, FD]
  repeat (first | refine ⟨by omega, ?_⟩ | refine ⟨fun _ _ => okt_nn (by omega), ?_⟩)
  try (first | (show _ ≤ _; omega) | (show _ < _; omega))
  exact FrP.rf

theorem run_cls {n : Nat} {T : Nat → Rw} {Y : Nat → Int} {lap bnd mrg b : Int} {M : Mm} (h : cls M n T Y lap bnd mrg) (hb : 0 ≤ b ∧ b ≤ 1000) : CallI m_Growth_run [.inr 68, .inr 76, .inr 33, .inl b] M (fun x M' => ∃ c : Nat, x = c ∧ c ≤ n ∧ gwC T lap b mrg n Y c ∧ gwIs M' T lap b mrg n Y c ∧ cls M' n T Y lap bnd mrg ∧ FrP scrF M M') := by
  obtain ⟨s1, s2, s3, s4⟩ := cls_st h
  refine (Growth_run_ok (n := n) (T := T) (Y := Y) (lap := lap) (mrg := mrg) h.1.1 h.1.2.1 s3.symm (fun t ht => (h.2.2.1 t ht).1) (fun t ht => (h.2.2.1 t ht).2) h.2.2.2.1.1 h.2.2.2.2.2.1.1 hb).mono (fun x M' z => ?_)
  obtain ⟨c, z1, z2, z3, z4, z5, z6⟩ := z
  obtain ⟨q1, q2⟩ := cls_f3 h z6 (fun b j q => by omega) z5
  exact ⟨c, z1, z2, z3, z4, q1, q2⟩
set_option maxHeartbeats 600000 in
set_option maxRecDepth 20000 in
theorem RingDater_count_15 {n : Nat} {T : Nat → Rw} {Y : Nat → Int} {lap bnd mrg : Int} {M : Mm} (h : cls M n T Y lap bnd mrg) : CallI m_RingDater_count [.inr 0, .inl 15] M (fun x M' => (∃ c : Nat, x = c ∧ gwC T lap bnd mrg n Y c) ∧ cls M' n T Y lap bnd mrg ∧ FrP scrF M M') := by
  have l0 := isStk_76.1
  have k0 : kc (lay 0) 11 = True := FR.1
  have k76 : kc (lay 76) 8 = True := by rw [l0]; exact eq_true rfl
  have k60 : kc (lay 60) 10 = True := FW.1
  have k33 : kc (lay 33) 0 = True := FB.1
  have k68 : kc (lay 68) 2 = True := FG.1
  have r3 := h.2.1.1
  have r5 := h.2.2.2.1.1
  have r4 := h.2.2.2.2.1.1
  have r6 := h.2.2.2.2.2.1.1
  refine callP_of (by decide) (by decide) (Nat.le_of_ble_eq_true rfl) (wpm_of (cuts := []) (by decide) 60 _ _ _ _ ?_)
  rw [show lM m_RingDater_count = 2 from rfl]
  simp (maxSteps := 2000000) only [↓reduceIte, wp_eq, wpd_eq, kont_eq, STP1, STP2, STP3, STP4, STP5, konM_eq, AMK, CZ, Option.map, List.getElem?_cons_zero, List.getElem?_cons_succ, List.mem_cons, List.not_mem_nil, if_false, if_true, Nat.reduceAdd, Nat.reduceLT, Nat.reduceLeDiff, Nat.reduceEqDiff, true_and, and_true, List.length_nil, List.length_cons, or_true, true_or, or_false, false_or, Option.some.injEq, Sum.inl.injEq, Sum.inr.injEq, exists_eq_left', exists_eq_left, Int.reduceLE, Int.reduceLT, Int.reduceNeg, Int.reduceAdd, Int.reduceMul, Int.reduceSub, Int.reduceToNat, inR, Nat.zero_ne_one, false_and, Nat.succ_ne_zero, reduceCtorEq, false_implies, true_implies, not_false_eq_true, not_true_eq_false, Int.reduceEq, KRE, C_RingDater_count, FR, l0, k68, r4]
  repeat (first | refine ⟨by omega, ?_⟩ | refine ⟨fun _ _ => okt_nn (by omega), ?_⟩)
  try (first | (show _ ≤ _; omega) | (show _ < _; omega))
  have b4 := h.2.2.2.2.1.2
  refine (run_cls h (by omega)).mono (fun x M' z => ?_)
  obtain ⟨c, z1, z2, z3, z4, z5, z6⟩ := z
  exact ⟨⟨c, z1, z3⟩, z5, z6⟩
set_option maxHeartbeats 600000 in
set_option maxRecDepth 20000 in
theorem RingDater_count_x {w : Int} {M : Mm} (hw : inR w) (h : w < 0 ∨ 21 < w) : ThrP m_RingDater_count [.inr 0, .inl w] M (fun q M' => q = 0 ∧ M' = M) := by
  simp only [inR] at hw
  have nw : ∀ k : Int, 0 ≤ k → k ≤ 21 → (w = k) = False := fun k h1 h2 => eq_false (by omega)
  refine ⟨60, by omega, ?_⟩
  rw [show lM m_RingDater_count = 2 from rfl]
  simp (maxSteps := 2000000) only [↓reduceIte, wp_eq, wpd_eq, kont_eq, STP1, STP2, STP3, STP4, STP5, konM_eq, AMK, CZ, Option.map, List.getElem?_cons_zero, List.getElem?_cons_succ, List.mem_cons, List.not_mem_nil, if_false, if_true, Nat.reduceAdd, Nat.reduceLT, Nat.reduceLeDiff, Nat.reduceEqDiff, true_and, and_true, List.length_nil, List.length_cons, or_true, true_or, or_false, false_or, Option.some.injEq, Sum.inl.injEq, Sum.inr.injEq, exists_eq_left', exists_eq_left, Int.reduceLE, Int.reduceLT, Int.reduceNeg, Int.reduceAdd, Int.reduceMul, Int.reduceSub, Int.reduceToNat, inR, Nat.zero_ne_one, false_and, Nat.succ_ne_zero, reduceCtorEq, false_implies, true_implies, not_false_eq_true, not_true_eq_false, Int.reduceEq, KRE, C_RingDater_count, FR, nw]
  repeat (first | refine ⟨by omega, ?_⟩ | refine ⟨fun _ _ => okt_nn (by omega), ?_⟩)
  try (first | (show _ ≤ _; omega) | (show _ < _; omega))
  exact fun _ => trivial
