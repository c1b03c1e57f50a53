/-! THE FACE: what it throws. -/
set_option maxHeartbeats 600000 in
set_option maxRecDepth 20000 in
theorem RingDater_fits_x {w : Int} {M : Mm} (hw : inR w) (hx : w < 0 ∨ 1 < w) : ThrP m_RingDater_fits [.inr 0, .inl w] M (fun q M' => q = 0 ∧ M' = M) := by
  simp only [inR] at hw
  by_cases c : w < 0
  · refine ⟨60, by omega, ?_⟩
    rw [show lM m_RingDater_fits = 5 from rfl]
    simp (maxSteps := 2000000) only [↓reduceIte, wp_eq, wpd_eq, kont_eq, STP1, STP2, STP3, STP4, STP5, konM_eq, AMK, CZ, Option.map, List.getElem?_cons_zero, List.getElem?_cons_succ, List.mem_cons, List.not_mem_nil, if_false, if_true, Nat.reduceAdd, Nat.reduceLT, Nat.reduceLeDiff, Nat.reduceEqDiff, true_and, and_true, List.length_nil, List.length_cons, or_true, true_or, or_false, false_or, Option.some.injEq, Sum.inl.injEq, Sum.inr.injEq, exists_eq_left', exists_eq_left, Int.reduceLE, Int.reduceLT, Int.reduceNeg, Int.reduceAdd, Int.reduceMul, Int.reduceSub, Int.reduceToNat, inR, Nat.zero_ne_one, false_and, Nat.succ_ne_zero, reduceCtorEq, false_implies, true_implies, not_false_eq_true, not_true_eq_false, Int.reduceEq, KRE, C_RingDater_fits, FR, c]
    repeat (first | refine And.intro (by omega) ?_ | refine And.intro (fun _ _ => okt_nn (by omega)) ?_)
    try (first | omega | exact ⟨rfl, rfl⟩)
  · have c2 : ¬ w ≤ 1 := by omega
    refine ⟨60, by omega, ?_⟩
    rw [show lM m_RingDater_fits = 5 from rfl]
    simp (maxSteps := 2000000) only [↓reduceIte, wp_eq, wpd_eq, kont_eq, STP1, STP2, STP3, STP4, STP5, konM_eq, AMK, CZ, Option.map, List.getElem?_cons_zero, List.getElem?_cons_succ, List.mem_cons, List.not_mem_nil, if_false, if_true, Nat.reduceAdd, Nat.reduceLT, Nat.reduceLeDiff, Nat.reduceEqDiff, true_and, and_true, List.length_nil, List.length_cons, or_true, true_or, or_false, false_or, Option.some.injEq, Sum.inl.injEq, Sum.inr.injEq, exists_eq_left', exists_eq_left, Int.reduceLE, Int.reduceLT, Int.reduceNeg, Int.reduceAdd, Int.reduceMul, Int.reduceSub, Int.reduceToNat, inR, Nat.zero_ne_one, false_and, Nat.succ_ne_zero, reduceCtorEq, false_implies, true_implies, not_false_eq_true, not_true_eq_false, Int.reduceEq, KRE, C_RingDater_fits, FR, c, c2]
    repeat (first | refine And.intro (by omega) ?_ | refine And.intro (fun _ _ => okt_nn (by omega)) ?_)
    try (first | omega | exact ⟨rfl, rfl⟩)

set_option maxHeartbeats 600000 in
set_option maxRecDepth 20000 in
theorem RingDater_look_x {w : Int} {M : Mm} (hw : inR w) (hx : w < 0 ∨ 1 < w) : ThrP m_RingDater_look [.inr 0, .inl w] M (fun q M' => q = 0 ∧ M' = M) := by
  simp only [inR] at hw
  by_cases c : w < 0
  · refine ⟨60, by omega, ?_⟩
    rw [show lM m_RingDater_look = 6 from rfl]
    simp (maxSteps := 2000000) only [↓reduceIte, wp_eq, wpd_eq, kont_eq, STP1, STP2, STP3, STP4, STP5, konM_eq, AMK, CZ, Option.map, List.getElem?_cons_zero, List.getElem?_cons_succ, List.mem_cons, List.not_mem_nil, if_false, if_true, Nat.reduceAdd, Nat.reduceLT, Nat.reduceLeDiff, Nat.reduceEqDiff, true_and, and_true, List.length_nil, List.length_cons, or_true, true_or, or_false, false_or, Option.some.injEq, Sum.inl.injEq, Sum.inr.injEq, exists_eq_left', exists_eq_left, Int.reduceLE, Int.reduceLT, Int.reduceNeg, Int.reduceAdd, Int.reduceMul, Int.reduceSub, Int.reduceToNat, inR, Nat.zero_ne_one, false_and, Nat.succ_ne_zero, reduceCtorEq, false_implies, true_implies, not_false_eq_true, not_true_eq_false, Int.reduceEq, KRE, C_RingDater_look, FR, c]
    repeat (first | refine And.intro (by omega) ?_ | refine And.intro (fun _ _ => okt_nn (by omega)) ?_)
    try (first | omega | exact ⟨rfl, rfl⟩)
  · have c2 : ¬ w ≤ 1 := by omega
    refine ⟨60, by omega, ?_⟩
    rw [show lM m_RingDater_look = 6 from rfl]
    simp (maxSteps := 2000000) only [↓reduceIte, wp_eq, wpd_eq, kont_eq, STP1, STP2, STP3, STP4, STP5, konM_eq, AMK, CZ, Option.map, List.getElem?_cons_zero, List.getElem?_cons_succ, List.mem_cons, List.not_mem_nil, if_false, if_true, Nat.reduceAdd, Nat.reduceLT, Nat.reduceLeDiff, Nat.reduceEqDiff, true_and, and_true, List.length_nil, List.length_cons, or_true, true_or, or_false, false_or, Option.some.injEq, Sum.inl.injEq, Sum.inr.injEq, exists_eq_left', exists_eq_left, Int.reduceLE, Int.reduceLT, Int.reduceNeg, Int.reduceAdd, Int.reduceMul, Int.reduceSub, Int.reduceToNat, inR, Nat.zero_ne_one, false_and, Nat.succ_ne_zero, reduceCtorEq, false_implies, true_implies, not_false_eq_true, not_true_eq_false, Int.reduceEq, KRE, C_RingDater_look, FR, c, c2]
    repeat (first | refine And.intro (by omega) ?_ | refine And.intro (fun _ _ => okt_nn (by omega)) ?_)
    try (first | omega | exact ⟨rfl, rfl⟩)

set_option maxHeartbeats 600000 in
set_option maxRecDepth 20000 in
theorem RingDater_help_x0 {n : Nat} {T : Nat → Rw} {Y : Nat → Int} {lap bnd mrg t w : Int} {M : Mm} (h : cls M n T Y lap bnd mrg) (ht : inR t) (hw : inR w) (hx : ¬ (0 ≤ t ∧ t < n) ∨ w < 0 ∨ 1 < w) : ThrP m_RingDater_help [.inr 0, .inl t, .inl w] M (fun q M' => q = 0 ∧ M' = M) := by
  have l0 := isStk_76.1
  have k0 : kc (lay 0) 11 = True := FR.1
  have k76 : kc (lay 76) 8 = True := by rw [l0]; exact eq_true rfl
  refine ⟨60, by omega, ?_⟩
  rw [show lM m_RingDater_help = 8 from rfl]
  simp (maxSteps := 2000000) only [↓reduceIte, wp_eq, wpd_eq, kont_eq, STP1, STP2, STP3, STP4, STP5, konM_eq, AMK, CZ, Option.map, List.getElem?_cons_zero, List.getElem?_cons_succ, List.mem_cons, List.not_mem_nil, if_false, if_true, Nat.reduceAdd, Nat.reduceLT, Nat.reduceLeDiff, Nat.reduceEqDiff, true_and, and_true, List.length_nil, List.length_cons, or_true, true_or, or_false, false_or, Option.some.injEq, Sum.inl.injEq, Sum.inr.injEq, exists_eq_left', exists_eq_left, Int.reduceLE, Int.reduceLT, Int.reduceNeg, Int.reduceAdd, Int.reduceMul, Int.reduceSub, Int.reduceToNat, inR, Nat.zero_ne_one, false_and, Nat.succ_ne_zero, reduceCtorEq, false_implies, true_implies, not_false_eq_true, not_true_eq_false, Int.reduceEq, KRE, C_RingDater_help, FR, l0, k0, k76]
  refine (has_cls h ht).eq ?_
  simp only [inR] at hw
  by_cases c1 : 0 ≤ t ∧ t < n
  · rw [if_pos c1]
    by_cases c : w < 0
    · try simp (maxSteps := 2000000) only [↓reduceIte, wp_eq, wpd_eq, kont_eq, STP1, STP2, STP3, STP4, STP5, konM_eq, AMK, CZ, Option.map, List.getElem?_cons_zero, List.getElem?_cons_succ, List.mem_cons, List.not_mem_nil, if_false, if_true, Nat.reduceAdd, Nat.reduceLT, Nat.reduceLeDiff, Nat.reduceEqDiff, true_and, and_true, List.length_nil, List.length_cons, or_true, true_or, or_false, false_or, Option.some.injEq, Sum.inl.injEq, Sum.inr.injEq, exists_eq_left', exists_eq_left, Int.reduceLE, Int.reduceLT, Int.reduceNeg, Int.reduceAdd, Int.reduceMul, Int.reduceSub, Int.reduceToNat, inR, Nat.zero_ne_one, false_and, Nat.succ_ne_zero, reduceCtorEq, false_implies, true_implies, not_false_eq_true, not_true_eq_false, Int.reduceEq, KRE, C_RingDater_help, c]
      repeat (first | refine And.intro (by omega) ?_ | refine And.intro (fun _ _ => okt_nn (by omega)) ?_)
      try (first | omega | exact ⟨rfl, rfl⟩)
    · have c2 : ¬ w ≤ 1 := by omega
      try simp (maxSteps := 2000000) only [↓reduceIte, wp_eq, wpd_eq, kont_eq, STP1, STP2, STP3, STP4, STP5, konM_eq, AMK, CZ, Option.map, List.getElem?_cons_zero, List.getElem?_cons_succ, List.mem_cons, List.not_mem_nil, if_false, if_true, Nat.reduceAdd, Nat.reduceLT, Nat.reduceLeDiff, Nat.reduceEqDiff, true_and, and_true, List.length_nil, List.length_cons, or_true, true_or, or_false, false_or, Option.some.injEq, Sum.inl.injEq, Sum.inr.injEq, exists_eq_left', exists_eq_left, Int.reduceLE, Int.reduceLT, Int.reduceNeg, Int.reduceAdd, Int.reduceMul, Int.reduceSub, Int.reduceToNat, inR, Nat.zero_ne_one, false_and, Nat.succ_ne_zero, reduceCtorEq, false_implies, true_implies, not_false_eq_true, not_true_eq_false, Int.reduceEq, KRE, C_RingDater_help, c, c2]
      repeat (first | refine And.intro (by omega) ?_ | refine And.intro (fun _ _ => okt_nn (by omega)) ?_)
      try (first | omega | exact ⟨rfl, rfl⟩)
  · rw [if_neg c1]
    try simp (maxSteps := 2000000) only [↓reduceIte, wp_eq, wpd_eq, kont_eq, STP1, STP2, STP3, STP4, STP5, konM_eq, AMK, CZ, Option.map, List.getElem?_cons_zero, List.getElem?_cons_succ, List.mem_cons, List.not_mem_nil, if_false, if_true, Nat.reduceAdd, Nat.reduceLT, Nat.reduceLeDiff, Nat.reduceEqDiff, true_and, and_true, List.length_nil, List.length_cons, or_true, true_or, or_false, false_or, Option.some.injEq, Sum.inl.injEq, Sum.inr.injEq, exists_eq_left', exists_eq_left, Int.reduceLE, Int.reduceLT, Int.reduceNeg, Int.reduceAdd, Int.reduceMul, Int.reduceSub, Int.reduceToNat, inR, Nat.zero_ne_one, false_and, Nat.succ_ne_zero, reduceCtorEq, false_implies, true_implies, not_false_eq_true, not_true_eq_false, Int.reduceEq, KRE, C_RingDater_help, FR]
    repeat (first | refine And.intro (by omega) ?_ | refine And.intro (fun _ _ => okt_nn (by omega)) ?_)
    try (first | omega | exact ⟨rfl, rfl⟩)
set_option maxHeartbeats 600000 in
set_option maxRecDepth 20000 in
theorem RingDater_help_x1 {t : Nat} {n : Nat} {T : Nat → Rw} {Y : Nat → Int} {lap bnd mrg w : Int} {M : Mm} (h : cls M n T Y lap bnd mrg) (ht : t < n) (hw : w = 0 ∨ w = 1) (hY : Y t ≠ -1) : ThrP m_RingDater_help [.inr 0, .inl t, .inl w] M (fun q M' => q = 1 ∧ M' = M) := by
  have l0 := isStk_76.1
  have k0 : kc (lay 0) 11 = True := FR.1
  have k76 : kc (lay 76) 8 = True := by rw [l0]; exact eq_true rfl
  have n8 := h.2.1.2
  have w1 : ¬ w < 0 := by omega
  have w2 : w ≤ 1 := by omega
  refine ⟨60, by omega, ?_⟩
  rw [show lM m_RingDater_help = 8 from rfl]
  simp (maxSteps := 2000000) only [↓reduceIte, wp_eq, wpd_eq, kont_eq, STP1, STP2, STP3, STP4, STP5, konM_eq, AMK, CZ, Option.map, List.getElem?_cons_zero, List.getElem?_cons_succ, List.mem_cons, List.not_mem_nil, if_false, if_true, Nat.reduceAdd, Nat.reduceLT, Nat.reduceLeDiff, Nat.reduceEqDiff, true_and, and_true, List.length_nil, List.length_cons, or_true, true_or, or_false, false_or, Option.some.injEq, Sum.inl.injEq, Sum.inr.injEq, exists_eq_left', exists_eq_left, Int.reduceLE, Int.reduceLT, Int.reduceNeg, Int.reduceAdd, Int.reduceMul, Int.reduceSub, Int.reduceToNat, inR, Nat.zero_ne_one, false_and, Nat.succ_ne_zero, reduceCtorEq, false_implies, true_implies, not_false_eq_true, not_true_eq_false, Int.reduceEq, KRE, C_RingDater_help, FR, l0, k0, k76, w1, w2]
  refine (has_cls (t := (t : Int)) h ⟨by omega, by omega⟩).eq ?_
  rw [if_pos ⟨by omega, by omega⟩]
  try simp (maxSteps := 2000000) only [↓reduceIte, wp_eq, wpd_eq, kont_eq, STP1, STP2, STP3, STP4, STP5, konM_eq, AMK, CZ, Option.map, List.getElem?_cons_zero, List.getElem?_cons_succ, List.mem_cons, List.not_mem_nil, if_false, if_true, Nat.reduceAdd, Nat.reduceLT, Nat.reduceLeDiff, Nat.reduceEqDiff, true_and, and_true, List.length_nil, List.length_cons, or_true, true_or, or_false, false_or, Option.some.injEq, Sum.inl.injEq, Sum.inr.injEq, exists_eq_left', exists_eq_left, Int.reduceLE, Int.reduceLT, Int.reduceNeg, Int.reduceAdd, Int.reduceMul, Int.reduceSub, Int.reduceToNat, inR, Nat.zero_ne_one, false_and, Nat.succ_ne_zero, reduceCtorEq, false_implies, true_implies, not_false_eq_true, not_true_eq_false, Int.reduceEq, KRE, C_RingDater_help, FR, l0, k76]
  repeat (first | refine And.intro (by omega) ?_ | refine And.intro (fun _ _ => okt_nn (by omega)) ?_)
  refine (Stock_isDated_ok (t := (t : Int)) isStk_76 ⟨by omega, by omega⟩ h.1.1.1).eq ?_
  rw [(cls_tm h ht).2.2.2.2.2.1, if_pos hY]
  try simp (maxSteps := 2000000) only [↓reduceIte, wp_eq, wpd_eq, kont_eq, STP1, STP2, STP3, STP4, STP5, konM_eq, AMK, CZ, Option.map, List.getElem?_cons_zero, List.getElem?_cons_succ, List.mem_cons, List.not_mem_nil, if_false, if_true, Nat.reduceAdd, Nat.reduceLT, Nat.reduceLeDiff, Nat.reduceEqDiff, true_and, and_true, List.length_nil, List.length_cons, or_true, true_or, or_false, false_or, Option.some.injEq, Sum.inl.injEq, Sum.inr.injEq, exists_eq_left', exists_eq_left, Int.reduceLE, Int.reduceLT, Int.reduceNeg, Int.reduceAdd, Int.reduceMul, Int.reduceSub, Int.reduceToNat, inR, Nat.zero_ne_one, false_and, Nat.succ_ne_zero, reduceCtorEq, false_implies, true_implies, not_false_eq_true, not_true_eq_false, Int.reduceEq, KRE, C_RingDater_help, FR]
  repeat (first | refine And.intro (by omega) ?_ | refine And.intro (fun _ _ => okt_nn (by omega)) ?_)
  try (first | omega | exact ⟨rfl, rfl⟩)
set_option maxHeartbeats 600000 in
set_option maxRecDepth 20000 in
theorem RingDater_chance_x0 {n : Nat} {T : Nat → Rw} {Y : Nat → Int} {lap bnd mrg t s m w : Int} {M : Mm} (h : cls M n T Y lap bnd mrg) (ht : inR t) (hw : inR w) (hx : ¬ (0 ≤ t ∧ t < n) ∨ w < 0 ∨ 2 < w) : ThrP m_RingDater_chance [.inr 0, .inl t, .inl s, .inl m, .inl w] M (fun q M' => q = 0 ∧ M' = M) := by
  have l0 := isStk_76.1
  have k0 : kc (lay 0) 11 = True := FR.1
  have k76 : kc (lay 76) 8 = True := by rw [l0]; exact eq_true rfl
  by_cases m1 : m < 0
  all_goals
    refine ⟨60, by omega, ?_⟩
    rw [show lM m_RingDater_chance = 13 from rfl]
    simp (maxSteps := 2000000) only [↓reduceIte, wp_eq, wpd_eq, kont_eq, STP1, STP2, STP3, STP4, STP5, konM_eq, AMK, CZ, Option.map, List.getElem?_cons_zero, List.getElem?_cons_succ, List.mem_cons, List.not_mem_nil, if_false, if_true, Nat.reduceAdd, Nat.reduceLT, Nat.reduceLeDiff, Nat.reduceEqDiff, true_and, and_true, List.length_nil, List.length_cons, or_true, true_or, or_false, false_or, Option.some.injEq, Sum.inl.injEq, Sum.inr.injEq, exists_eq_left', exists_eq_left, Int.reduceLE, Int.reduceLT, Int.reduceNeg, Int.reduceAdd, Int.reduceMul, Int.reduceSub, Int.reduceToNat, inR, Nat.zero_ne_one, false_and, Nat.succ_ne_zero, reduceCtorEq, false_implies, true_implies, not_false_eq_true, not_true_eq_false, Int.reduceEq, KRE, C_RingDater_chance, FR, l0, k0, k76]
    refine (has_cls h ht).eq ?_
    simp only [inR] at hw
    by_cases c1 : 0 ≤ t ∧ t < n
    · rw [if_pos c1]
      by_cases c : w < 0
      · try simp (maxSteps := 2000000) only [↓reduceIte, wp_eq, wpd_eq, kont_eq, STP1, STP2, STP3, STP4, STP5, konM_eq, AMK, CZ, Option.map, List.getElem?_cons_zero, List.getElem?_cons_succ, List.mem_cons, List.not_mem_nil, if_false, if_true, Nat.reduceAdd, Nat.reduceLT, Nat.reduceLeDiff, Nat.reduceEqDiff, true_and, and_true, List.length_nil, List.length_cons, or_true, true_or, or_false, false_or, Option.some.injEq, Sum.inl.injEq, Sum.inr.injEq, exists_eq_left', exists_eq_left, Int.reduceLE, Int.reduceLT, Int.reduceNeg, Int.reduceAdd, Int.reduceMul, Int.reduceSub, Int.reduceToNat, inR, Nat.zero_ne_one, false_and, Nat.succ_ne_zero, reduceCtorEq, false_implies, true_implies, not_false_eq_true, not_true_eq_false, Int.reduceEq, KRE, C_RingDater_chance, c]
        repeat (first | refine And.intro (by omega) ?_ | refine And.intro (fun _ _ => okt_nn (by omega)) ?_)
        try (first | omega | exact ⟨rfl, rfl⟩)
      · have c2 : ¬ w ≤ 2 := by omega
        try simp (maxSteps := 2000000) only [↓reduceIte, wp_eq, wpd_eq, kont_eq, STP1, STP2, STP3, STP4, STP5, konM_eq, AMK, CZ, Option.map, List.getElem?_cons_zero, List.getElem?_cons_succ, List.mem_cons, List.not_mem_nil, if_false, if_true, Nat.reduceAdd, Nat.reduceLT, Nat.reduceLeDiff, Nat.reduceEqDiff, true_and, and_true, List.length_nil, List.length_cons, or_true, true_or, or_false, false_or, Option.some.injEq, Sum.inl.injEq, Sum.inr.injEq, exists_eq_left', exists_eq_left, Int.reduceLE, Int.reduceLT, Int.reduceNeg, Int.reduceAdd, Int.reduceMul, Int.reduceSub, Int.reduceToNat, inR, Nat.zero_ne_one, false_and, Nat.succ_ne_zero, reduceCtorEq, false_implies, true_implies, not_false_eq_true, not_true_eq_false, Int.reduceEq, KRE, C_RingDater_chance, c, c2]
        repeat (first | refine And.intro (by omega) ?_ | refine And.intro (fun _ _ => okt_nn (by omega)) ?_)
        try (first | omega | exact ⟨rfl, rfl⟩)
    · rw [if_neg c1]
      try simp (maxSteps := 2000000) only [↓reduceIte, wp_eq, wpd_eq, kont_eq, STP1, STP2, STP3, STP4, STP5, konM_eq, AMK, CZ, Option.map, List.getElem?_cons_zero, List.getElem?_cons_succ, List.mem_cons, List.not_mem_nil, if_false, if_true, Nat.reduceAdd, Nat.reduceLT, Nat.reduceLeDiff, Nat.reduceEqDiff, true_and, and_true, List.length_nil, List.length_cons, or_true, true_or, or_false, false_or, Option.some.injEq, Sum.inl.injEq, Sum.inr.injEq, exists_eq_left', exists_eq_left, Int.reduceLE, Int.reduceLT, Int.reduceNeg, Int.reduceAdd, Int.reduceMul, Int.reduceSub, Int.reduceToNat, inR, Nat.zero_ne_one, false_and, Nat.succ_ne_zero, reduceCtorEq, false_implies, true_implies, not_false_eq_true, not_true_eq_false, Int.reduceEq, KRE, C_RingDater_chance, FR]
      repeat (first | refine And.intro (by omega) ?_ | refine And.intro (fun _ _ => okt_nn (by omega)) ?_)
      try (first | omega | exact ⟨rfl, rfl⟩)
set_option maxHeartbeats 600000 in
set_option maxRecDepth 20000 in
theorem RingDater_chance_x1 {t : Nat} {n : Nat} {T : Nat → Rw} {Y : Nat → Int} {lap bnd mrg s m w : Int} {M : Mm} (h : cls M n T Y lap bnd mrg) (ht : t < n) (hw : 0 ≤ w ∧ w ≤ 2) (hm : inR m) (hx : m < 0 ∨ 40 < m) : ThrP m_RingDater_chance [.inr 0, .inl t, .inl s, .inl m, .inl w] M (fun q M' => q = 1 ∧ M' = M) := by
  have l0 := isStk_76.1
  have k0 : kc (lay 0) 11 = True := FR.1
  have k76 : kc (lay 76) 8 = True := by rw [l0]; exact eq_true rfl
  have n8 := h.2.1.2
  have w1 : ¬ w < 0 := by omega
  have w2 : w ≤ 2 := by omega
  simp only [inR] at hm
  refine ⟨60, by omega, ?_⟩
  rw [show lM m_RingDater_chance = 13 from rfl]
  simp (maxSteps := 2000000) only [↓reduceIte, wp_eq, wpd_eq, kont_eq, STP1, STP2, STP3, STP4, STP5, konM_eq, AMK, CZ, Option.map, List.getElem?_cons_zero, List.getElem?_cons_succ, List.mem_cons, List.not_mem_nil, if_false, if_true, Nat.reduceAdd, Nat.reduceLT, Nat.reduceLeDiff, Nat.reduceEqDiff, true_and, and_true, List.length_nil, List.length_cons, or_true, true_or, or_false, false_or, Option.some.injEq, Sum.inl.injEq, Sum.inr.injEq, exists_eq_left', exists_eq_left, Int.reduceLE, Int.reduceLT, Int.reduceNeg, Int.reduceAdd, Int.reduceMul, Int.reduceSub, Int.reduceToNat, inR, Nat.zero_ne_one, false_and, Nat.succ_ne_zero, reduceCtorEq, false_implies, true_implies, not_false_eq_true, not_true_eq_false, Int.reduceEq, KRE, C_RingDater_chance, FR, l0, k0, k76, w1, w2]
  refine (has_cls (t := (t : Int)) h ⟨by omega, by omega⟩).eq ?_
  rw [if_pos ⟨by omega, by omega⟩]
  by_cases c : m < 0
  · try simp (maxSteps := 2000000) only [↓reduceIte, wp_eq, wpd_eq, kont_eq, STP1, STP2, STP3, STP4, STP5, konM_eq, AMK, CZ, Option.map, List.getElem?_cons_zero, List.getElem?_cons_succ, List.mem_cons, List.not_mem_nil, if_false, if_true, Nat.reduceAdd, Nat.reduceLT, Nat.reduceLeDiff, Nat.reduceEqDiff, true_and, and_true, List.length_nil, List.length_cons, or_true, true_or, or_false, false_or, Option.some.injEq, Sum.inl.injEq, Sum.inr.injEq, exists_eq_left', exists_eq_left, Int.reduceLE, Int.reduceLT, Int.reduceNeg, Int.reduceAdd, Int.reduceMul, Int.reduceSub, Int.reduceToNat, inR, Nat.zero_ne_one, false_and, Nat.succ_ne_zero, reduceCtorEq, false_implies, true_implies, not_false_eq_true, not_true_eq_false, Int.reduceEq, KRE, C_RingDater_chance, c]
    repeat (first | refine And.intro (by omega) ?_ | refine And.intro (fun _ _ => okt_nn (by omega)) ?_)
    try (first | omega | exact ⟨rfl, rfl⟩)
  · have c2 : ¬ m ≤ 40 := by omega
    try simp (maxSteps := 2000000) only [↓reduceIte, wp_eq, wpd_eq, kont_eq, STP1, STP2, STP3, STP4, STP5, konM_eq, AMK, CZ, Option.map, List.getElem?_cons_zero, List.getElem?_cons_succ, List.mem_cons, List.not_mem_nil, if_false, if_true, Nat.reduceAdd, Nat.reduceLT, Nat.reduceLeDiff, Nat.reduceEqDiff, true_and, and_true, List.length_nil, List.length_cons, or_true, true_or, or_false, false_or, Option.some.injEq, Sum.inl.injEq, Sum.inr.injEq, exists_eq_left', exists_eq_left, Int.reduceLE, Int.reduceLT, Int.reduceNeg, Int.reduceAdd, Int.reduceMul, Int.reduceSub, Int.reduceToNat, inR, Nat.zero_ne_one, false_and, Nat.succ_ne_zero, reduceCtorEq, false_implies, true_implies, not_false_eq_true, not_true_eq_false, Int.reduceEq, KRE, C_RingDater_chance, c, c2]
    repeat (first | refine And.intro (by omega) ?_ | refine And.intro (fun _ _ => okt_nn (by omega)) ?_)
    try (first | omega | exact ⟨rfl, rfl⟩)
set_option maxHeartbeats 600000 in
set_option maxRecDepth 20000 in
theorem RingDater_slid_x0 {n : Nat} {T : Nat → Rw} {Y : Nat → Int} {lap bnd mrg t a x w : Int} {M : Mm} (h : cls M n T Y lap bnd mrg) (ht : inR t) (ha : inR a) (hw : inR w) (hx : ¬ (0 ≤ t ∧ t < n) ∨ ¬ (0 ≤ a ∧ a < n) ∨ w < 0 ∨ 3 < w) : ThrP m_RingDater_slid [.inr 0, .inl t, .inl a, .inl x, .inl w] M (fun q M' => q = 0 ∧ M' = M) := by
  have l0 := isStk_76.1
  have k0 : kc (lay 0) 11 = True := FR.1
  have k76 : kc (lay 76) 8 = True := by rw [l0]; exact eq_true rfl
  refine ⟨60, by omega, ?_⟩
  rw [show lM m_RingDater_slid = 6 from rfl]
  simp (maxSteps := 2000000) only [↓reduceIte, wp_eq, wpd_eq, kont_eq, STP1, STP2, STP3, STP4, STP5, konM_eq, AMK, CZ, Option.map, List.getElem?_cons_zero, List.getElem?_cons_succ, List.mem_cons, List.not_mem_nil, if_false, if_true, Nat.reduceAdd, Nat.reduceLT, Nat.reduceLeDiff, Nat.reduceEqDiff, true_and, and_true, List.length_nil, List.length_cons, or_true, true_or, or_false, false_or, Option.some.injEq, Sum.inl.injEq, Sum.inr.injEq, exists_eq_left', exists_eq_left, Int.reduceLE, Int.reduceLT, Int.reduceNeg, Int.reduceAdd, Int.reduceMul, Int.reduceSub, Int.reduceToNat, inR, Nat.zero_ne_one, false_and, Nat.succ_ne_zero, reduceCtorEq, false_implies, true_implies, not_false_eq_true, not_true_eq_false, Int.reduceEq, KRE, C_RingDater_slid, FR, l0, k0, k76]
  refine (has_cls h ht).eq ?_
  simp only [inR] at hw
  by_cases c1 : 0 ≤ t ∧ t < n
  · rw [if_pos c1]
    try simp (maxSteps := 2000000) only [↓reduceIte, wp_eq, wpd_eq, kont_eq, STP1, STP2, STP3, STP4, STP5, konM_eq, AMK, CZ, Option.map, List.getElem?_cons_zero, List.getElem?_cons_succ, List.mem_cons, List.not_mem_nil, if_false, if_true, Nat.reduceAdd, Nat.reduceLT, Nat.reduceLeDiff, Nat.reduceEqDiff, true_and, and_true, List.length_nil, List.length_cons, or_true, true_or, or_false, false_or, Option.some.injEq, Sum.inl.injEq, Sum.inr.injEq, exists_eq_left', exists_eq_left, Int.reduceLE, Int.reduceLT, Int.reduceNeg, Int.reduceAdd, Int.reduceMul, Int.reduceSub, Int.reduceToNat, inR, Nat.zero_ne_one, false_and, Nat.succ_ne_zero, reduceCtorEq, false_implies, true_implies, not_false_eq_true, not_true_eq_false, Int.reduceEq, KRE, C_RingDater_slid, k76]
    repeat (first | refine And.intro (by omega) ?_ | refine And.intro (fun _ _ => okt_nn (by omega)) ?_)
    refine (has_cls h ha).eq ?_
    by_cases c3 : 0 ≤ a ∧ a < n
    · rw [if_pos c3]
      by_cases c : w < 0
      · try simp (maxSteps := 2000000) only [↓reduceIte, wp_eq, wpd_eq, kont_eq, STP1, STP2, STP3, STP4, STP5, konM_eq, AMK, CZ, Option.map, List.getElem?_cons_zero, List.getElem?_cons_succ, List.mem_cons, List.not_mem_nil, if_false, if_true, Nat.reduceAdd, Nat.reduceLT, Nat.reduceLeDiff, Nat.reduceEqDiff, true_and, and_true, List.length_nil, List.length_cons, or_true, true_or, or_false, false_or, Option.some.injEq, Sum.inl.injEq, Sum.inr.injEq, exists_eq_left', exists_eq_left, Int.reduceLE, Int.reduceLT, Int.reduceNeg, Int.reduceAdd, Int.reduceMul, Int.reduceSub, Int.reduceToNat, inR, Nat.zero_ne_one, false_and, Nat.succ_ne_zero, reduceCtorEq, false_implies, true_implies, not_false_eq_true, not_true_eq_false, Int.reduceEq, KRE, C_RingDater_slid, c]
        repeat (first | refine And.intro (by omega) ?_ | refine And.intro (fun _ _ => okt_nn (by omega)) ?_)
        try (first | omega | exact ⟨rfl, rfl⟩)
      · have c2 : ¬ w ≤ 3 := by omega
        try simp (maxSteps := 2000000) only [↓reduceIte, wp_eq, wpd_eq, kont_eq, STP1, STP2, STP3, STP4, STP5, konM_eq, AMK, CZ, Option.map, List.getElem?_cons_zero, List.getElem?_cons_succ, List.mem_cons, List.not_mem_nil, if_false, if_true, Nat.reduceAdd, Nat.reduceLT, Nat.reduceLeDiff, Nat.reduceEqDiff, true_and, and_true, List.length_nil, List.length_cons, or_true, true_or, or_false, false_or, Option.some.injEq, Sum.inl.injEq, Sum.inr.injEq, exists_eq_left', exists_eq_left, Int.reduceLE, Int.reduceLT, Int.reduceNeg, Int.reduceAdd, Int.reduceMul, Int.reduceSub, Int.reduceToNat, inR, Nat.zero_ne_one, false_and, Nat.succ_ne_zero, reduceCtorEq, false_implies, true_implies, not_false_eq_true, not_true_eq_false, Int.reduceEq, KRE, C_RingDater_slid, c, c2]
        repeat (first | refine And.intro (by omega) ?_ | refine And.intro (fun _ _ => okt_nn (by omega)) ?_)
        try (first | omega | exact ⟨rfl, rfl⟩)
    · rw [if_neg c3]
      try simp (maxSteps := 2000000) only [↓reduceIte, wp_eq, wpd_eq, kont_eq, STP1, STP2, STP3, STP4, STP5, konM_eq, AMK, CZ, Option.map, List.getElem?_cons_zero, List.getElem?_cons_succ, List.mem_cons, List.not_mem_nil, if_false, if_true, Nat.reduceAdd, Nat.reduceLT, Nat.reduceLeDiff, Nat.reduceEqDiff, true_and, and_true, List.length_nil, List.length_cons, or_true, true_or, or_false, false_or, Option.some.injEq, Sum.inl.injEq, Sum.inr.injEq, exists_eq_left', exists_eq_left, Int.reduceLE, Int.reduceLT, Int.reduceNeg, Int.reduceAdd, Int.reduceMul, Int.reduceSub, Int.reduceToNat, inR, Nat.zero_ne_one, false_and, Nat.succ_ne_zero, reduceCtorEq, false_implies, true_implies, not_false_eq_true, not_true_eq_false, Int.reduceEq, KRE, C_RingDater_slid, FR]
      repeat (first | refine And.intro (by omega) ?_ | refine And.intro (fun _ _ => okt_nn (by omega)) ?_)
      try (first | omega | exact ⟨rfl, rfl⟩)
  · rw [if_neg c1]
    try simp (maxSteps := 2000000) only [↓reduceIte, wp_eq, wpd_eq, kont_eq, STP1, STP2, STP3, STP4, STP5, konM_eq, AMK, CZ, Option.map, List.getElem?_cons_zero, List.getElem?_cons_succ, List.mem_cons, List.not_mem_nil, if_false, if_true, Nat.reduceAdd, Nat.reduceLT, Nat.reduceLeDiff, Nat.reduceEqDiff, true_and, and_true, List.length_nil, List.length_cons, or_true, true_or, or_false, false_or, Option.some.injEq, Sum.inl.injEq, Sum.inr.injEq, exists_eq_left', exists_eq_left, Int.reduceLE, Int.reduceLT, Int.reduceNeg, Int.reduceAdd, Int.reduceMul, Int.reduceSub, Int.reduceToNat, inR, Nat.zero_ne_one, false_and, Nat.succ_ne_zero, reduceCtorEq, false_implies, true_implies, not_false_eq_true, not_true_eq_false, Int.reduceEq, KRE, C_RingDater_slid, FR]
    repeat (first | refine And.intro (by omega) ?_ | refine And.intro (fun _ _ => okt_nn (by omega)) ?_)
    try (first | omega | exact ⟨rfl, rfl⟩)
set_option maxHeartbeats 600000 in
set_option maxRecDepth 20000 in
theorem RingDater_slid_x1 {t : Nat} {n : Nat} {T : Nat → Rw} {Y : Nat → Int} {lap bnd mrg x w : Int} {M : Mm} (h : cls M n T Y lap bnd mrg) (ht : t < n) (hw : 0 ≤ w ∧ w ≤ 3) : ThrP m_RingDater_slid [.inr 0, .inl t, .inl t, .inl x, .inl w] M (fun q M' => q = 1 ∧ M' = M) := by
  have l0 := isStk_76.1
  have k0 : kc (lay 0) 11 = True := FR.1
  have k76 : kc (lay 76) 8 = True := by rw [l0]; exact eq_true rfl
  have n8 := h.2.1.2
  have w1 : ¬ w < 0 := by omega
  have w2 : w ≤ 3 := by omega
  refine ⟨60, by omega, ?_⟩
  rw [show lM m_RingDater_slid = 6 from rfl]
  simp (maxSteps := 2000000) only [↓reduceIte, wp_eq, wpd_eq, kont_eq, STP1, STP2, STP3, STP4, STP5, konM_eq, AMK, CZ, Option.map, List.getElem?_cons_zero, List.getElem?_cons_succ, List.mem_cons, List.not_mem_nil, if_false, if_true, Nat.reduceAdd, Nat.reduceLT, Nat.reduceLeDiff, Nat.reduceEqDiff, true_and, and_true, List.length_nil, List.length_cons, or_true, true_or, or_false, false_or, Option.some.injEq, Sum.inl.injEq, Sum.inr.injEq, exists_eq_left', exists_eq_left, Int.reduceLE, Int.reduceLT, Int.reduceNeg, Int.reduceAdd, Int.reduceMul, Int.reduceSub, Int.reduceToNat, inR, Nat.zero_ne_one, false_and, Nat.succ_ne_zero, reduceCtorEq, false_implies, true_implies, not_false_eq_true, not_true_eq_false, Int.reduceEq, KRE, C_RingDater_slid, FR, l0, k0, k76, w1, w2]
  refine (has_cls (t := (t : Int)) h ⟨by omega, by omega⟩).eq ?_
  rw [if_pos ⟨by omega, by omega⟩]
  try simp (maxSteps := 2000000) only [↓reduceIte, wp_eq, wpd_eq, kont_eq, STP1, STP2, STP3, STP4, STP5, konM_eq, AMK, CZ, Option.map, List.getElem?_cons_zero, List.getElem?_cons_succ, List.mem_cons, List.not_mem_nil, if_false, if_true, Nat.reduceAdd, Nat.reduceLT, Nat.reduceLeDiff, Nat.reduceEqDiff, true_and, and_true, List.length_nil, List.length_cons, or_true, true_or, or_false, false_or, Option.some.injEq, Sum.inl.injEq, Sum.inr.injEq, exists_eq_left', exists_eq_left, Int.reduceLE, Int.reduceLT, Int.reduceNeg, Int.reduceAdd, Int.reduceMul, Int.reduceSub, Int.reduceToNat, inR, Nat.zero_ne_one, false_and, Nat.succ_ne_zero, reduceCtorEq, false_implies, true_implies, not_false_eq_true, not_true_eq_false, Int.reduceEq, KRE, C_RingDater_slid, k76]
  repeat (first | refine And.intro (by omega) ?_ | refine And.intro (fun _ _ => okt_nn (by omega)) ?_)
  refine (has_cls (t := (t : Int)) h ⟨by omega, by omega⟩).eq ?_
  rw [if_pos ⟨by omega, by omega⟩]
  try simp (maxSteps := 2000000) only [↓reduceIte, wp_eq, wpd_eq, kont_eq, STP1, STP2, STP3, STP4, STP5, konM_eq, AMK, CZ, Option.map, List.getElem?_cons_zero, List.getElem?_cons_succ, List.mem_cons, List.not_mem_nil, if_false, if_true, Nat.reduceAdd, Nat.reduceLT, Nat.reduceLeDiff, Nat.reduceEqDiff, true_and, and_true, List.length_nil, List.length_cons, or_true, true_or, or_false, false_or, Option.some.injEq, Sum.inl.injEq, Sum.inr.injEq, exists_eq_left', exists_eq_left, Int.reduceLE, Int.reduceLT, Int.reduceNeg, Int.reduceAdd, Int.reduceMul, Int.reduceSub, Int.reduceToNat, inR, Nat.zero_ne_one, false_and, Nat.succ_ne_zero, reduceCtorEq, false_implies, true_implies, not_false_eq_true, not_true_eq_false, Int.reduceEq, KRE, C_RingDater_slid, FR]
  repeat (first | refine And.intro (by omega) ?_ | refine And.intro (fun _ _ => okt_nn (by omega)) ?_)
  try (first | omega | exact ⟨rfl, rfl⟩)
set_option maxHeartbeats 600000 in
set_option maxRecDepth 20000 in
theorem RingDater_best_x0 {n : Nat} {T : Nat → Rw} {Y : Nat → Int} {lap bnd mrg t a w : Int} {M : Mm} (h : cls M n T Y lap bnd mrg) (ht : inR t) (ha : inR a) (hw : inR w) (hx : ¬ (0 ≤ t ∧ t < n) ∨ (a ≠ -1 ∧ ¬ (0 ≤ a ∧ a < n)) ∨ w < 0 ∨ 4 < w) : ThrP m_RingDater_best [.inr 0, .inl t, .inl a, .inl w] M (fun q M' => q = 0 ∧ M' = M) := by
  have l0 := isStk_76.1
  have k0 : kc (lay 0) 11 = True := FR.1
  have k76 : kc (lay 76) 8 = True := by rw [l0]; exact eq_true rfl
  have ha' := ha
  simp only [inR] at hw ha'
  by_cases ca : a = -1
  · have ca' := eq_true ca
    refine ⟨80, by omega, ?_⟩
    rw [show lM m_RingDater_best = 5 from rfl]
    simp (maxSteps := 2000000) only [↓reduceIte, wp_eq, wpd_eq, kont_eq, STP1, STP2, STP3, STP4, STP5, konM_eq, AMK, CZ, Option.map, List.getElem?_cons_zero, List.getElem?_cons_succ, List.mem_cons, List.not_mem_nil, if_false, if_true, Nat.reduceAdd, Nat.reduceLT, Nat.reduceLeDiff, Nat.reduceEqDiff, true_and, and_true, List.length_nil, List.length_cons, or_true, true_or, or_false, false_or, Option.some.injEq, Sum.inl.injEq, Sum.inr.injEq, exists_eq_left', exists_eq_left, Int.reduceLE, Int.reduceLT, Int.reduceNeg, Int.reduceAdd, Int.reduceMul, Int.reduceSub, Int.reduceToNat, inR, Nat.zero_ne_one, false_and, Nat.succ_ne_zero, reduceCtorEq, false_implies, true_implies, not_false_eq_true, not_true_eq_false, Int.reduceEq, KRE, C_RingDater_best, FR, l0, k0, k76, ca']
    refine (has_cls h ht).eq ?_
    by_cases c1 : 0 ≤ t ∧ t < n
    · rw [if_pos c1]
      by_cases c : w < 0
      · try simp (maxSteps := 2000000) only [↓reduceIte, wp_eq, wpd_eq, kont_eq, STP1, STP2, STP3, STP4, STP5, konM_eq, AMK, CZ, Option.map, List.getElem?_cons_zero, List.getElem?_cons_succ, List.mem_cons, List.not_mem_nil, if_false, if_true, Nat.reduceAdd, Nat.reduceLT, Nat.reduceLeDiff, Nat.reduceEqDiff, true_and, and_true, List.length_nil, List.length_cons, or_true, true_or, or_false, false_or, Option.some.injEq, Sum.inl.injEq, Sum.inr.injEq, exists_eq_left', exists_eq_left, Int.reduceLE, Int.reduceLT, Int.reduceNeg, Int.reduceAdd, Int.reduceMul, Int.reduceSub, Int.reduceToNat, inR, Nat.zero_ne_one, false_and, Nat.succ_ne_zero, reduceCtorEq, false_implies, true_implies, not_false_eq_true, not_true_eq_false, Int.reduceEq, KRE, C_RingDater_best, c, ca']
        repeat (first | refine And.intro (by omega) ?_ | refine And.intro (fun _ _ => okt_nn (by omega)) ?_)
        try (first | omega | exact ⟨rfl, rfl⟩)
      · have c2 : ¬ w ≤ 4 := by omega
        try simp (maxSteps := 2000000) only [↓reduceIte, wp_eq, wpd_eq, kont_eq, STP1, STP2, STP3, STP4, STP5, konM_eq, AMK, CZ, Option.map, List.getElem?_cons_zero, List.getElem?_cons_succ, List.mem_cons, List.not_mem_nil, if_false, if_true, Nat.reduceAdd, Nat.reduceLT, Nat.reduceLeDiff, Nat.reduceEqDiff, true_and, and_true, List.length_nil, List.length_cons, or_true, true_or, or_false, false_or, Option.some.injEq, Sum.inl.injEq, Sum.inr.injEq, exists_eq_left', exists_eq_left, Int.reduceLE, Int.reduceLT, Int.reduceNeg, Int.reduceAdd, Int.reduceMul, Int.reduceSub, Int.reduceToNat, inR, Nat.zero_ne_one, false_and, Nat.succ_ne_zero, reduceCtorEq, false_implies, true_implies, not_false_eq_true, not_true_eq_false, Int.reduceEq, KRE, C_RingDater_best, c, c2, ca']
        repeat (first | refine And.intro (by omega) ?_ | refine And.intro (fun _ _ => okt_nn (by omega)) ?_)
        try (first | omega | exact ⟨rfl, rfl⟩)
    · rw [if_neg c1]
      try simp (maxSteps := 2000000) only [↓reduceIte, wp_eq, wpd_eq, kont_eq, STP1, STP2, STP3, STP4, STP5, konM_eq, AMK, CZ, Option.map, List.getElem?_cons_zero, List.getElem?_cons_succ, List.mem_cons, List.not_mem_nil, if_false, if_true, Nat.reduceAdd, Nat.reduceLT, Nat.reduceLeDiff, Nat.reduceEqDiff, true_and, and_true, List.length_nil, List.length_cons, or_true, true_or, or_false, false_or, Option.some.injEq, Sum.inl.injEq, Sum.inr.injEq, exists_eq_left', exists_eq_left, Int.reduceLE, Int.reduceLT, Int.reduceNeg, Int.reduceAdd, Int.reduceMul, Int.reduceSub, Int.reduceToNat, inR, Nat.zero_ne_one, false_and, Nat.succ_ne_zero, reduceCtorEq, false_implies, true_implies, not_false_eq_true, not_true_eq_false, Int.reduceEq, KRE, C_RingDater_best, FR]
      repeat (first | refine And.intro (by omega) ?_ | refine And.intro (fun _ _ => okt_nn (by omega)) ?_)
      try (first | omega | exact ⟨rfl, rfl⟩)
  · have ca' := eq_false ca
    refine ⟨80, by omega, ?_⟩
    rw [show lM m_RingDater_best = 5 from rfl]
    simp (maxSteps := 2000000) only [↓reduceIte, wp_eq, wpd_eq, kont_eq, STP1, STP2, STP3, STP4, STP5, konM_eq, AMK, CZ, Option.map, List.getElem?_cons_zero, List.getElem?_cons_succ, List.mem_cons, List.not_mem_nil, if_false, if_true, Nat.reduceAdd, Nat.reduceLT, Nat.reduceLeDiff, Nat.reduceEqDiff, true_and, and_true, List.length_nil, List.length_cons, or_true, true_or, or_false, false_or, Option.some.injEq, Sum.inl.injEq, Sum.inr.injEq, exists_eq_left', exists_eq_left, Int.reduceLE, Int.reduceLT, Int.reduceNeg, Int.reduceAdd, Int.reduceMul, Int.reduceSub, Int.reduceToNat, inR, Nat.zero_ne_one, false_and, Nat.succ_ne_zero, reduceCtorEq, false_implies, true_implies, not_false_eq_true, not_true_eq_false, Int.reduceEq, KRE, C_RingDater_best, FR, l0, k0, k76, ca']
    refine (has_cls h ht).eq ?_
    by_cases c1 : 0 ≤ t ∧ t < n
    · rw [if_pos c1]
      try simp (maxSteps := 2000000) only [↓reduceIte, wp_eq, wpd_eq, kont_eq, STP1, STP2, STP3, STP4, STP5, konM_eq, AMK, CZ, Option.map, List.getElem?_cons_zero, List.getElem?_cons_succ, List.mem_cons, List.not_mem_nil, if_false, if_true, Nat.reduceAdd, Nat.reduceLT, Nat.reduceLeDiff, Nat.reduceEqDiff, true_and, and_true, List.length_nil, List.length_cons, or_true, true_or, or_false, false_or, Option.some.injEq, Sum.inl.injEq, Sum.inr.injEq, exists_eq_left', exists_eq_left, Int.reduceLE, Int.reduceLT, Int.reduceNeg, Int.reduceAdd, Int.reduceMul, Int.reduceSub, Int.reduceToNat, inR, Nat.zero_ne_one, false_and, Nat.succ_ne_zero, reduceCtorEq, false_implies, true_implies, not_false_eq_true, not_true_eq_false, Int.reduceEq, KRE, C_RingDater_best, k76, ca']
      repeat (first | refine And.intro (by omega) ?_ | refine And.intro (fun _ _ => okt_nn (by omega)) ?_)
      refine (has_cls h ha).eq ?_
      by_cases c3 : 0 ≤ a ∧ a < n
      · rw [if_pos c3]
        by_cases c : w < 0
        · try simp (maxSteps := 2000000) only [↓reduceIte, wp_eq, wpd_eq, kont_eq, STP1, STP2, STP3, STP4, STP5, konM_eq, AMK, CZ, Option.map, List.getElem?_cons_zero, List.getElem?_cons_succ, List.mem_cons, List.not_mem_nil, if_false, if_true, Nat.reduceAdd, Nat.reduceLT, Nat.reduceLeDiff, Nat.reduceEqDiff, true_and, and_true, List.length_nil, List.length_cons, or_true, true_or, or_false, false_or, Option.some.injEq, Sum.inl.injEq, Sum.inr.injEq, exists_eq_left', exists_eq_left, Int.reduceLE, Int.reduceLT, Int.reduceNeg, Int.reduceAdd, Int.reduceMul, Int.reduceSub, Int.reduceToNat, inR, Nat.zero_ne_one, false_and, Nat.succ_ne_zero, reduceCtorEq, false_implies, true_implies, not_false_eq_true, not_true_eq_false, Int.reduceEq, KRE, C_RingDater_best, c]
          repeat (first | refine And.intro (by omega) ?_ | refine And.intro (fun _ _ => okt_nn (by omega)) ?_)
          try (first | omega | exact ⟨rfl, rfl⟩)
        · have c2 : ¬ w ≤ 4 := by omega
          try simp (maxSteps := 2000000) only [↓reduceIte, wp_eq, wpd_eq, kont_eq, STP1, STP2, STP3, STP4, STP5, konM_eq, AMK, CZ, Option.map, List.getElem?_cons_zero, List.getElem?_cons_succ, List.mem_cons, List.not_mem_nil, if_false, if_true, Nat.reduceAdd, Nat.reduceLT, Nat.reduceLeDiff, Nat.reduceEqDiff, true_and, and_true, List.length_nil, List.length_cons, or_true, true_or, or_false, false_or, Option.some.injEq, Sum.inl.injEq, Sum.inr.injEq, exists_eq_left', exists_eq_left, Int.reduceLE, Int.reduceLT, Int.reduceNeg, Int.reduceAdd, Int.reduceMul, Int.reduceSub, Int.reduceToNat, inR, Nat.zero_ne_one, false_and, Nat.succ_ne_zero, reduceCtorEq, false_implies, true_implies, not_false_eq_true, not_true_eq_false, Int.reduceEq, KRE, C_RingDater_best, c, c2]
          repeat (first | refine And.intro (by omega) ?_ | refine And.intro (fun _ _ => okt_nn (by omega)) ?_)
          try (first | omega | exact ⟨rfl, rfl⟩)
      · rw [if_neg c3]
        try simp (maxSteps := 2000000) only [↓reduceIte, wp_eq, wpd_eq, kont_eq, STP1, STP2, STP3, STP4, STP5, konM_eq, AMK, CZ, Option.map, List.getElem?_cons_zero, List.getElem?_cons_succ, List.mem_cons, List.not_mem_nil, if_false, if_true, Nat.reduceAdd, Nat.reduceLT, Nat.reduceLeDiff, Nat.reduceEqDiff, true_and, and_true, List.length_nil, List.length_cons, or_true, true_or, or_false, false_or, Option.some.injEq, Sum.inl.injEq, Sum.inr.injEq, exists_eq_left', exists_eq_left, Int.reduceLE, Int.reduceLT, Int.reduceNeg, Int.reduceAdd, Int.reduceMul, Int.reduceSub, Int.reduceToNat, inR, Nat.zero_ne_one, false_and, Nat.succ_ne_zero, reduceCtorEq, false_implies, true_implies, not_false_eq_true, not_true_eq_false, Int.reduceEq, KRE, C_RingDater_best, FR]
        repeat (first | refine And.intro (by omega) ?_ | refine And.intro (fun _ _ => okt_nn (by omega)) ?_)
        try (first | omega | exact ⟨rfl, rfl⟩)
    · rw [if_neg c1]
      try simp (maxSteps := 2000000) only [↓reduceIte, wp_eq, wpd_eq, kont_eq, STP1, STP2, STP3, STP4, STP5, konM_eq, AMK, CZ, Option.map, List.getElem?_cons_zero, List.getElem?_cons_succ, List.mem_cons, List.not_mem_nil, if_false, if_true, Nat.reduceAdd, Nat.reduceLT, Nat.reduceLeDiff, Nat.reduceEqDiff, true_and, and_true, List.length_nil, List.length_cons, or_true, true_or, or_false, false_or, Option.some.injEq, Sum.inl.injEq, Sum.inr.injEq, exists_eq_left', exists_eq_left, Int.reduceLE, Int.reduceLT, Int.reduceNeg, Int.reduceAdd, Int.reduceMul, Int.reduceSub, Int.reduceToNat, inR, Nat.zero_ne_one, false_and, Nat.succ_ne_zero, reduceCtorEq, false_implies, true_implies, not_false_eq_true, not_true_eq_false, Int.reduceEq, KRE, C_RingDater_best, FR]
      repeat (first | refine And.intro (by omega) ?_ | refine And.intro (fun _ _ => okt_nn (by omega)) ?_)
      try (first | omega | exact ⟨rfl, rfl⟩)
set_option maxHeartbeats 600000 in
set_option maxRecDepth 20000 in
theorem RingDater_best_x1 {t : Nat} {n : Nat} {T : Nat → Rw} {Y : Nat → Int} {lap bnd mrg w : Int} {M : Mm} (h : cls M n T Y lap bnd mrg) (ht : t < n) (hw : 0 ≤ w ∧ w ≤ 4) : ThrP m_RingDater_best [.inr 0, .inl t, .inl t, .inl w] M (fun q M' => q = 1 ∧ M' = M) := by
  have l0 := isStk_76.1
  have k0 : kc (lay 0) 11 = True := FR.1
  have k76 : kc (lay 76) 8 = True := by rw [l0]; exact eq_true rfl
  have n8 := h.2.1.2
  have w1 : ¬ w < 0 := by omega
  have w2 : w ≤ 4 := by omega
  have ne := eq_false (show ¬ (t : Int) = -1 by omega)
  refine ⟨80, by omega, ?_⟩
  rw [show lM m_RingDater_best = 5 from rfl]
  simp (maxSteps := 2000000) only [↓reduceIte, wp_eq, wpd_eq, kont_eq, STP1, STP2, STP3, STP4, STP5, konM_eq, AMK, CZ, Option.map, List.getElem?_cons_zero, List.getElem?_cons_succ, List.mem_cons, List.not_mem_nil, if_false, if_true, Nat.reduceAdd, Nat.reduceLT, Nat.reduceLeDiff, Nat.reduceEqDiff, true_and, and_true, List.length_nil, List.length_cons, or_true, true_or, or_false, false_or, Option.some.injEq, Sum.inl.injEq, Sum.inr.injEq, exists_eq_left', exists_eq_left, Int.reduceLE, Int.reduceLT, Int.reduceNeg, Int.reduceAdd, Int.reduceMul, Int.reduceSub, Int.reduceToNat, inR, Nat.zero_ne_one, false_and, Nat.succ_ne_zero, reduceCtorEq, false_implies, true_implies, not_false_eq_true, not_true_eq_false, Int.reduceEq, KRE, C_RingDater_best, FR, l0, k0, k76, w1, w2, ne]
  refine (has_cls (t := (t : Int)) h ⟨by omega, by omega⟩).eq ?_
  rw [if_pos ⟨by omega, by omega⟩]
  try simp (maxSteps := 2000000) only [↓reduceIte, wp_eq, wpd_eq, kont_eq, STP1, STP2, STP3, STP4, STP5, konM_eq, AMK, CZ, Option.map, List.getElem?_cons_zero, List.getElem?_cons_succ, List.mem_cons, List.not_mem_nil, if_false, if_true, Nat.reduceAdd, Nat.reduceLT, Nat.reduceLeDiff, Nat.reduceEqDiff, true_and, and_true, List.length_nil, List.length_cons, or_true, true_or, or_false, false_or, Option.some.injEq, Sum.inl.injEq, Sum.inr.injEq, exists_eq_left', exists_eq_left, Int.reduceLE, Int.reduceLT, Int.reduceNeg, Int.reduceAdd, Int.reduceMul, Int.reduceSub, Int.reduceToNat, inR, Nat.zero_ne_one, false_and, Nat.succ_ne_zero, reduceCtorEq, false_implies, true_implies, not_false_eq_true, not_true_eq_false, Int.reduceEq, KRE, C_RingDater_best, k76, ne]
  repeat (first | refine And.intro (by omega) ?_ | refine And.intro (fun _ _ => okt_nn (by omega)) ?_)
  refine (has_cls (t := (t : Int)) h ⟨by omega, by omega⟩).eq ?_
  rw [if_pos ⟨by omega, by omega⟩]
  try simp (maxSteps := 2000000) only [↓reduceIte, wp_eq, wpd_eq, kont_eq, STP1, STP2, STP3, STP4, STP5, konM_eq, AMK, CZ, Option.map, List.getElem?_cons_zero, List.getElem?_cons_succ, List.mem_cons, List.not_mem_nil, if_false, if_true, Nat.reduceAdd, Nat.reduceLT, Nat.reduceLeDiff, Nat.reduceEqDiff, true_and, and_true, List.length_nil, List.length_cons, or_true, true_or, or_false, false_or, Option.some.injEq, Sum.inl.injEq, Sum.inr.injEq, exists_eq_left', exists_eq_left, Int.reduceLE, Int.reduceLT, Int.reduceNeg, Int.reduceAdd, Int.reduceMul, Int.reduceSub, Int.reduceToNat, inR, Nat.zero_ne_one, false_and, Nat.succ_ne_zero, reduceCtorEq, false_implies, true_implies, not_false_eq_true, not_true_eq_false, Int.reduceEq, KRE, C_RingDater_best, FR]
  repeat (first | refine And.intro (by omega) ?_ | refine And.intro (fun _ _ => okt_nn (by omega)) ?_)
  try (first | omega | exact ⟨rfl, rfl⟩)
set_option maxHeartbeats 600000 in
set_option maxRecDepth 20000 in
theorem RingDater_ring_x {n : Nat} {T : Nat → Rw} {Y : Nat → Int} {lap bnd mrg t r w : Int} {M : Mm} (h : cls M n T Y lap bnd mrg) (ht : inR t) (hr : inR r) (hw : inR w) (hx : ¬ (0 ≤ t ∧ t < n) ∨ ¬ (0 ≤ r ∧ r < (T t.toNat).2.1) ∨ w < 0 ∨ 3 < w ∨ (w = 2 ∧ r = 0)) : ThrP m_RingDater_ring [.inr 0, .inl t, .inl r, .inl w] M (fun q M' => q = 0 ∧ M' = M) := by
  have l0 := isStk_76.1
  have k0 : kc (lay 0) 11 = True := FR.1
  have k76 : kc (lay 76) 8 = True := by rw [l0]; exact eq_true rfl
  have n8 := h.2.1.2
  have ht' := ht
  simp only [inR] at hw ht'
  refine ⟨60, by omega, ?_⟩
  rw [show lM m_RingDater_ring = 5 from rfl]
  simp (maxSteps := 2000000) only [↓reduceIte, wp_eq, wpd_eq, kont_eq, STP1, STP2, STP3, STP4, STP5, konM_eq, AMK, CZ, Option.map, List.getElem?_cons_zero, List.getElem?_cons_succ, List.mem_cons, List.not_mem_nil, if_false, if_true, Nat.reduceAdd, Nat.reduceLT, Nat.reduceLeDiff, Nat.reduceEqDiff, true_and, and_true, List.length_nil, List.length_cons, or_true, true_or, or_false, false_or, Option.some.injEq, Sum.inl.injEq, Sum.inr.injEq, exists_eq_left', exists_eq_left, Int.reduceLE, Int.reduceLT, Int.reduceNeg, Int.reduceAdd, Int.reduceMul, Int.reduceSub, Int.reduceToNat, inR, Nat.zero_ne_one, false_and, Nat.succ_ne_zero, reduceCtorEq, false_implies, true_implies, not_false_eq_true, not_true_eq_false, Int.reduceEq, KRE, C_RingDater_ring, FR, l0, k0, k76]
  refine (has_cls h ht).eq ?_
  by_cases c1 : 0 ≤ t ∧ t < n
  · rw [if_pos c1]
    obtain ⟨k, rfl⟩ : ∃ k : Nat, t = k := ⟨t.toNat, by omega⟩
    obtain ⟨t1, t2, t3, t4, t5, t6, t7⟩ := cls_tm h (show k < n by omega)
    have eR : M (82 + 3 * k) 2 = (T k).2.1 := by rw [← t4]; rfl
    rw [natT] at hx
    have l3 := t5.1
    try simp (maxSteps := 2000000) only [↓reduceIte, wp_eq, wpd_eq, kont_eq, STP1, STP2, STP3, STP4, STP5, konM_eq, AMK, CZ, Option.map, List.getElem?_cons_zero, List.getElem?_cons_succ, List.mem_cons, List.not_mem_nil, if_false, if_true, Nat.reduceAdd, Nat.reduceLT, Nat.reduceLeDiff, Nat.reduceEqDiff, true_and, and_true, List.length_nil, List.length_cons, or_true, true_or, or_false, false_or, Option.some.injEq, Sum.inl.injEq, Sum.inr.injEq, exists_eq_left', exists_eq_left, Int.reduceLE, Int.reduceLT, Int.reduceNeg, Int.reduceAdd, Int.reduceMul, Int.reduceSub, Int.reduceToNat, inR, Nat.zero_ne_one, false_and, Nat.succ_ne_zero, reduceCtorEq, false_implies, true_implies, not_false_eq_true, not_true_eq_false, Int.reduceEq, KRE, C_RingDater_ring, k76]
    repeat (first | refine And.intro (by omega) ?_ | refine And.intro (fun _ _ => okt_nn (by omega)) ?_)
    refine (Stock_timberAt_ok (t := (k : Int)) isStk_76 ⟨by omega, by omega⟩ h.1.1.1).eq ?_
    try rw [t1]
    try simp (maxSteps := 2000000) only [↓reduceIte, wp_eq, wpd_eq, kont_eq, STP1, STP2, STP3, STP4, STP5, konM_eq, AMK, CZ, Option.map, List.getElem?_cons_zero, List.getElem?_cons_succ, List.mem_cons, List.not_mem_nil, if_false, if_true, Nat.reduceAdd, Nat.reduceLT, Nat.reduceLeDiff, Nat.reduceEqDiff, true_and, and_true, List.length_nil, List.length_cons, or_true, true_or, or_false, false_or, Option.some.injEq, Sum.inl.injEq, Sum.inr.injEq, exists_eq_left', exists_eq_left, Int.reduceLE, Int.reduceLT, Int.reduceNeg, Int.reduceAdd, Int.reduceMul, Int.reduceSub, Int.reduceToNat, inR, Nat.zero_ne_one, false_and, Nat.succ_ne_zero, reduceCtorEq, false_implies, true_implies, not_false_eq_true, not_true_eq_false, Int.reduceEq, KRE, C_RingDater_ring, t2.1]
    repeat (first | refine And.intro (by omega) ?_ | refine And.intro (fun _ _ => okt_nn (by omega)) ?_)
    refine (Timber_has_ok (r := r) t2 hr t3).eq ?_
    by_cases c2 : 0 ≤ r ∧ r < (T k).2.1
    · rw [show vHas M (82 + 3 * k) r = 1 from if_pos (by omega)]
      by_cases c3 : w = 2
      · have c4 : r = 0 := by omega
        subst c3
        subst c4
        try simp (maxSteps := 2000000) only [↓reduceIte, wp_eq, wpd_eq, kont_eq, STP1, STP2, STP3, STP4, STP5, konM_eq, AMK, CZ, Option.map, List.getElem?_cons_zero, List.getElem?_cons_succ, List.mem_cons, List.not_mem_nil, if_false, if_true, Nat.reduceAdd, Nat.reduceLT, Nat.reduceLeDiff, Nat.reduceEqDiff, true_and, and_true, List.length_nil, List.length_cons, or_true, true_or, or_false, false_or, Option.some.injEq, Sum.inl.injEq, Sum.inr.injEq, exists_eq_left', exists_eq_left, Int.reduceLE, Int.reduceLT, Int.reduceNeg, Int.reduceAdd, Int.reduceMul, Int.reduceSub, Int.reduceToNat, inR, Nat.zero_ne_one, false_and, Nat.succ_ne_zero, reduceCtorEq, false_implies, true_implies, not_false_eq_true, not_true_eq_false, Int.reduceEq, KRE, C_RingDater_ring, FR, l0, k76]
        repeat (first | refine And.intro (by omega) ?_ | refine And.intro (fun _ _ => okt_nn (by omega)) ?_)
        refine (Stock_timberAt_ok (t := (k : Int)) isStk_76 ⟨by omega, by omega⟩ h.1.1.1).eq ?_
        try rw [t1]
        try simp (maxSteps := 2000000) only [↓reduceIte, wp_eq, wpd_eq, kont_eq, STP1, STP2, STP3, STP4, STP5, konM_eq, AMK, CZ, Option.map, List.getElem?_cons_zero, List.getElem?_cons_succ, List.mem_cons, List.not_mem_nil, if_false, if_true, Nat.reduceAdd, Nat.reduceLT, Nat.reduceLeDiff, Nat.reduceEqDiff, true_and, and_true, List.length_nil, List.length_cons, or_true, true_or, or_false, false_or, Option.some.injEq, Sum.inl.injEq, Sum.inr.injEq, exists_eq_left', exists_eq_left, Int.reduceLE, Int.reduceLT, Int.reduceNeg, Int.reduceAdd, Int.reduceMul, Int.reduceSub, Int.reduceToNat, inR, Nat.zero_ne_one, false_and, Nat.succ_ne_zero, reduceCtorEq, false_implies, true_implies, not_false_eq_true, not_true_eq_false, Int.reduceEq, KRE, C_RingDater_ring, FR, t2.1]
        repeat (first | refine And.intro (by omega) ?_ | refine And.intro (fun _ _ => okt_nn (by omega)) ?_)
        try (first | omega | exact ⟨rfl, rfl⟩ | exact fun f hf => okt_nn (by omega))
      · have nw : ∀ i : Int, 0 ≤ i → i ≤ 3 → (w = i) = False := fun i h1 h2 => eq_false (by omega)
        try simp (maxSteps := 2000000) only [↓reduceIte, wp_eq, wpd_eq, kont_eq, STP1, STP2, STP3, STP4, STP5, konM_eq, AMK, CZ, Option.map, List.getElem?_cons_zero, List.getElem?_cons_succ, List.mem_cons, List.not_mem_nil, if_false, if_true, Nat.reduceAdd, Nat.reduceLT, Nat.reduceLeDiff, Nat.reduceEqDiff, true_and, and_true, List.length_nil, List.length_cons, or_true, true_or, or_false, false_or, Option.some.injEq, Sum.inl.injEq, Sum.inr.injEq, exists_eq_left', exists_eq_left, Int.reduceLE, Int.reduceLT, Int.reduceNeg, Int.reduceAdd, Int.reduceMul, Int.reduceSub, Int.reduceToNat, inR, Nat.zero_ne_one, false_and, Nat.succ_ne_zero, reduceCtorEq, false_implies, true_implies, not_false_eq_true, not_true_eq_false, Int.reduceEq, KRE, C_RingDater_ring, FR, l0, k76, nw]
        repeat (first | refine And.intro (by omega) ?_ | refine And.intro (fun _ _ => okt_nn (by omega)) ?_)
        refine (Stock_timberAt_ok (t := (k : Int)) isStk_76 ⟨by omega, by omega⟩ h.1.1.1).eq ?_
        try rw [t1]
        try simp (maxSteps := 2000000) only [↓reduceIte, wp_eq, wpd_eq, kont_eq, STP1, STP2, STP3, STP4, STP5, konM_eq, AMK, CZ, Option.map, List.getElem?_cons_zero, List.getElem?_cons_succ, List.mem_cons, List.not_mem_nil, if_false, if_true, Nat.reduceAdd, Nat.reduceLT, Nat.reduceLeDiff, Nat.reduceEqDiff, true_and, and_true, List.length_nil, List.length_cons, or_true, true_or, or_false, false_or, Option.some.injEq, Sum.inl.injEq, Sum.inr.injEq, exists_eq_left', exists_eq_left, Int.reduceLE, Int.reduceLT, Int.reduceNeg, Int.reduceAdd, Int.reduceMul, Int.reduceSub, Int.reduceToNat, inR, Nat.zero_ne_one, false_and, Nat.succ_ne_zero, reduceCtorEq, false_implies, true_implies, not_false_eq_true, not_true_eq_false, Int.reduceEq, KRE, C_RingDater_ring, FR, t2.1, nw]
        repeat (first | refine And.intro (by omega) ?_ | refine And.intro (fun _ _ => okt_nn (by omega)) ?_)
        try exact fun _ => ⟨rfl, rfl⟩
        try exact fun _ => trivial
    · rw [show vHas M (82 + 3 * k) r = 0 from if_neg (by omega)]
      try simp (maxSteps := 2000000) only [↓reduceIte, wp_eq, wpd_eq, kont_eq, STP1, STP2, STP3, STP4, STP5, konM_eq, AMK, CZ, Option.map, List.getElem?_cons_zero, List.getElem?_cons_succ, List.mem_cons, List.not_mem_nil, if_false, if_true, Nat.reduceAdd, Nat.reduceLT, Nat.reduceLeDiff, Nat.reduceEqDiff, true_and, and_true, List.length_nil, List.length_cons, or_true, true_or, or_false, false_or, Option.some.injEq, Sum.inl.injEq, Sum.inr.injEq, exists_eq_left', exists_eq_left, Int.reduceLE, Int.reduceLT, Int.reduceNeg, Int.reduceAdd, Int.reduceMul, Int.reduceSub, Int.reduceToNat, inR, Nat.zero_ne_one, false_and, Nat.succ_ne_zero, reduceCtorEq, false_implies, true_implies, not_false_eq_true, not_true_eq_false, Int.reduceEq, KRE, C_RingDater_ring, FR]
      repeat (first | refine And.intro (by omega) ?_ | refine And.intro (fun _ _ => okt_nn (by omega)) ?_)
      try (first | omega | exact ⟨rfl, rfl⟩)
  · rw [if_neg c1]
    try simp (maxSteps := 2000000) only [↓reduceIte, wp_eq, wpd_eq, kont_eq, STP1, STP2, STP3, STP4, STP5, konM_eq, AMK, CZ, Option.map, List.getElem?_cons_zero, List.getElem?_cons_succ, List.mem_cons, List.not_mem_nil, if_false, if_true, Nat.reduceAdd, Nat.reduceLT, Nat.reduceLeDiff, Nat.reduceEqDiff, true_and, and_true, List.length_nil, List.length_cons, or_true, true_or, or_false, false_or, Option.some.injEq, Sum.inl.injEq, Sum.inr.injEq, exists_eq_left', exists_eq_left, Int.reduceLE, Int.reduceLT, Int.reduceNeg, Int.reduceAdd, Int.reduceMul, Int.reduceSub, Int.reduceToNat, inR, Nat.zero_ne_one, false_and, Nat.succ_ne_zero, reduceCtorEq, false_implies, true_implies, not_false_eq_true, not_true_eq_false, Int.reduceEq, KRE, C_RingDater_ring, FR]
    repeat (first | refine And.intro (by omega) ?_ | refine And.intro (fun _ _ => okt_nn (by omega)) ?_)
    try (first | omega | exact ⟨rfl, rfl⟩)
