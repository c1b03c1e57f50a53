/-! STOCK. -/
def tims (s : Nat) : List Nat := (List.range 8).map (fun t => s + 6 + 3 * t)
theorem tims_len (s : Nat) : (tims s).length = 8 := by simp [tims]
theorem tims_at {s i : Nat} (h : i < 8) : (tims s).getD i 0 = s + 6 + 3 * i := by
  simp [tims, List.getD_eq_getElem?_getD, List.getElem?_range h]
def isStk (s : Nat) : Prop := lay s = .inr (.inl (8, [some (s + 1), some (s + 2), some (s + 5), none, none, none, none])) ∧ lay (s + 1) = .inr (.inr (2, tims s)) ∧ lay (s + 5) = .inl (0, 8) ∧ isTim (s + 2) ∧ ∀ t, t < 8 → isTim (s + 6 + 3 * t)
def wfS (M : Mm) (s : Nat) : Prop := (0 ≤ M s 3 ∧ M s 3 ≤ 8) ∧ (50 ≤ M s 4 ∧ M s 4 ≤ 100) ∧ (3 ≤ M s 5 ∧ M s 5 ≤ 24) ∧ (0 ≤ M s 6 ∧ M s 6 ≤ 50) ∧ (∀ t, t < 8 → wfT M (s + 6 + 3 * t)) ∧ wfT M (s + 2) ∧ (∀ t, t < 8 → -1 ≤ M (s + 5) t ∧ M (s + 5) t ≤ 900)
/-- the timber at t -/
def tmA (M : Mm) (s : Nat) (t : Int) : Nat := if 0 ≤ t ∧ t < M s 3 then s + 6 + 3 * t.toNat else s + 2
def yrA (M : Mm) (s : Nat) (t : Int) : Int := if 0 ≤ t ∧ t < M s 3 then M (s + 5) t.toNat else -1
theorem isStk_3 : isStk 3 := ⟨rfl, rfl, rfl, ⟨rfl, rfl, rfl⟩, fun t ht => by
  match t, ht with
  | 0, _ => exact ⟨rfl, rfl, rfl⟩
  | 1, _ => exact ⟨rfl, rfl, rfl⟩
  | 2, _ => exact ⟨rfl, rfl, rfl⟩
  | 3, _ => exact ⟨rfl, rfl, rfl⟩
  | 4, _ => exact ⟨rfl, rfl, rfl⟩
  | 5, _ => exact ⟨rfl, rfl, rfl⟩
  | 6, _ => exact ⟨rfl, rfl, rfl⟩
  | 7, _ => exact ⟨rfl, rfl, rfl⟩⟩
theorem isStk_76 : isStk 76 := ⟨rfl, rfl, rfl, ⟨rfl, rfl, rfl⟩, fun t ht => by
  match t, ht with
  | 0, _ => exact ⟨rfl, rfl, rfl⟩
  | 1, _ => exact ⟨rfl, rfl, rfl⟩
  | 2, _ => exact ⟨rfl, rfl, rfl⟩
  | 3, _ => exact ⟨rfl, rfl, rfl⟩
  | 4, _ => exact ⟨rfl, rfl, rfl⟩
  | 5, _ => exact ⟨rfl, rfl, rfl⟩
  | 6, _ => exact ⟨rfl, rfl, rfl⟩
  | 7, _ => exact ⟨rfl, rfl, rfl⟩⟩
theorem isStk_115 : isStk 115 := ⟨rfl, rfl, rfl, ⟨rfl, rfl, rfl⟩, fun t ht => by
  match t, ht with
  | 0, _ => exact ⟨rfl, rfl, rfl⟩
  | 1, _ => exact ⟨rfl, rfl, rfl⟩
  | 2, _ => exact ⟨rfl, rfl, rfl⟩
  | 3, _ => exact ⟨rfl, rfl, rfl⟩
  | 4, _ => exact ⟨rfl, rfl, rfl⟩
  | 5, _ => exact ⟨rfl, rfl, rfl⟩
  | 6, _ => exact ⟨rfl, rfl, rfl⟩
  | 7, _ => exact ⟨rfl, rfl, rfl⟩⟩
theorem tmA_tim {M : Mm} {s : Nat} {t : Int} (hs : isStk s) (hw : wfS M s) : isTim (tmA M s t) ∧ wfT M (tmA M s t) := by
  unfold tmA
  split
  · exact ⟨hs.2.2.2.2 _ (by have := hw.1; omega), hw.2.2.2.2.1 _ (by have := hw.1; omega)⟩
  · exact ⟨hs.2.2.2.1, hw.2.2.2.2.2.1⟩
theorem yrA_in {M : Mm} {s : Nat} {t : Int} (hw : wfS M s) : -1 ≤ yrA M s t ∧ yrA M s t ≤ 900 := by
  unfold yrA
  split
  · exact hw.2.2.2.2.2.2 _ (by have := hw.1; omega)
  · omega
theorem tmA_k {M : Mm} {s k : Nat} (h : (k : Int) < M s 3) : tmA M s k = s + 6 + 3 * k := if_pos ⟨by omega, h⟩
theorem yrA_k {M : Mm} {s k : Nat} (h : (k : Int) < M s 3) : yrA M s k = M (s + 5) k := if_pos ⟨by omega, h⟩
set_option maxHeartbeats 4000000 in
set_option maxRecDepth 20000 in
theorem Stock_has_ok {s : Nat} {t : Int} {M : Mm} (hs : isStk s) (ht : inR t) (hw : wfS M s) : CallI m_Stock_has [.inr s, .inl t] M (fun x M' => x = (if 0 ≤ t ∧ t < M s 3 then 1 else 0) ∧ M' = M) := by
  have l0 := hs.1
  have w0 := hw.1
  refine callP_of (by decide) (by decide) (Nat.le_of_ble_eq_true rfl) (wpm_of (cuts := []) (by decide) 50 _ _ _ _ ?_)
  rw [show lM m_Stock_has = 2 from rfl]
  simp (maxSteps := 2000000) only [↓reduceIte, wp_eq, wpd_eq, kont_eq, STP1, STP2, STP3, STP4, STP5, konM_eq, AMK, CZ, Option.map, List.getElem?_cons_zero, List.getElem?_cons_succ, List.mem_cons, List.not_mem_nil, if_false, if_true, Nat.reduceAdd, Nat.reduceLT, Nat.reduceLeDiff, Nat.reduceEqDiff, true_and, and_true, List.length_nil, List.length_cons, or_true, true_or, or_false, false_or, Option.some.injEq, Sum.inl.injEq, Sum.inr.injEq, exists_eq_left', exists_eq_left, Int.reduceLE, Int.reduceLT, Int.reduceNeg, Int.reduceAdd, Int.reduceMul, Int.reduceSub, Int.reduceToNat, inR, Nat.zero_ne_one, false_and, Nat.succ_ne_zero, reduceCtorEq, false_implies, true_implies, not_false_eq_true, not_true_eq_false, Int.reduceEq, KRE, C_Stock_has, l0]
  simp only [inR] at *
  grind
set_option maxHeartbeats 4000000 in
set_option maxRecDepth 20000 in
theorem Stock_timberAt_ok {s : Nat} {t : Int} {M : Mm} (hs : isStk s) (ht : inR t) (hw : wfS M s) : CallR m_Stock_timberAt [.inr s, .inl t] M (fun x M' => x = tmA M s t ∧ M' = M) := by
  obtain ⟨l0, l1, l2, l3, l4⟩ := id hs
  have w0 := hw.1
  refine callP_of (by decide) (by decide) (Nat.le_of_ble_eq_true rfl) (wpm_of (cuts := []) (by decide) 50 _ _ _ _ ?_)
  rw [show lM m_Stock_timberAt = 2 from rfl]
  simp (maxSteps := 2000000) only [↓reduceIte, wp_eq, wpd_eq, kont_eq, STP1, STP2, STP3, STP4, STP5, konM_eq, AMK, CZ, Option.map, List.getElem?_cons_zero, List.getElem?_cons_succ, List.mem_cons, List.not_mem_nil, if_false, if_true, Nat.reduceAdd, Nat.reduceLT, Nat.reduceLeDiff, Nat.reduceEqDiff, true_and, and_true, List.length_nil, List.length_cons, or_true, true_or, or_false, false_or, Option.some.injEq, Sum.inl.injEq, Sum.inr.injEq, exists_eq_left', exists_eq_left, Int.reduceLE, Int.reduceLT, Int.reduceNeg, Int.reduceAdd, Int.reduceMul, Int.reduceSub, Int.reduceToNat, inR, Nat.zero_ne_one, false_and, Nat.succ_ne_zero, reduceCtorEq, false_implies, true_implies, not_false_eq_true, not_true_eq_false, Int.reduceEq, KRE, C_Stock_timberAt, l0, l1, tims_len]
  refine (Stock_has_ok hs ht hw).eq ?_
  by_cases h : 0 ≤ t ∧ t < M s 3
  · simp only [h, and_self, if_true]
    have e : (tims s).getD t.toNat 0 = tmA M s t := by rw [tims_at (by omega), tmA, if_pos h]
    have b1 := h.1
    have b2 : t < 8 := by omega
    rw [e]
    simp [b1, b2]
  · simp only [h, if_false]
    have e : s + 2 = tmA M s t := by rw [tmA, if_neg h]
    simp [e]
set_option maxHeartbeats 4000000 in
set_option maxRecDepth 20000 in
theorem Stock_yearOf_ok {s : Nat} {t : Int} {M : Mm} (hs : isStk s) (ht : inR t) (hw : wfS M s) : CallI m_Stock_yearOf [.inr s, .inl t] M (fun x M' => x = yrA M s t ∧ M' = M) := by
  obtain ⟨l0, l1, l2, l3, l4⟩ := id hs
  have w0 := hw.1
  have w6 := hw.2.2.2.2.2.2 t.toNat
  refine callP_of (by decide) (by decide) (Nat.le_of_ble_eq_true rfl) (wpm_of (cuts := []) (by decide) 50 _ _ _ _ ?_)
  rw [show lM m_Stock_yearOf = 2 from rfl]
  simp (maxSteps := 2000000) only [↓reduceIte, wp_eq, wpd_eq, kont_eq, STP1, STP2, STP3, STP4, STP5, konM_eq, AMK, CZ, Option.map, List.getElem?_cons_zero, List.getElem?_cons_succ, List.mem_cons, List.not_mem_nil, if_false, if_true, Nat.reduceAdd, Nat.reduceLT, Nat.reduceLeDiff, Nat.reduceEqDiff, true_and, and_true, List.length_nil, List.length_cons, or_true, true_or, or_false, false_or, Option.some.injEq, Sum.inl.injEq, Sum.inr.injEq, exists_eq_left', exists_eq_left, Int.reduceLE, Int.reduceLT, Int.reduceNeg, Int.reduceAdd, Int.reduceMul, Int.reduceSub, Int.reduceToNat, inR, Nat.zero_ne_one, false_and, Nat.succ_ne_zero, reduceCtorEq, false_implies, true_implies, not_false_eq_true, not_true_eq_false, Int.reduceEq, KRE, C_Stock_yearOf, l0, l2]
  simp only [inR, yrA] at *
  grind
set_option maxHeartbeats 4000000 in
set_option maxRecDepth 20000 in
theorem Stock_isDated_ok {s : Nat} {t : Int} {M : Mm} (hs : isStk s) (ht : inR t) (hw : wfS M s) : CallI m_Stock_isDated [.inr s, .inl t] M (fun x M' => x = (if yrA M s t ≠ -1 then 1 else 0) ∧ M' = M) := by
  obtain ⟨l0, l1, l2, l3, l4⟩ := id hs
  have w0 := yrA_in (t := t) hw
  refine callP_of (by decide) (by decide) (Nat.le_of_ble_eq_true rfl) (wpm_of (cuts := []) (by decide) 50 _ _ _ _ ?_)
  rw [show lM m_Stock_isDated = 2 from rfl]
  simp (maxSteps := 2000000) only [↓reduceIte, wp_eq, wpd_eq, kont_eq, STP1, STP2, STP3, STP4, STP5, konM_eq, AMK, CZ, Option.map, List.getElem?_cons_zero, List.getElem?_cons_succ, List.mem_cons, List.not_mem_nil, if_false, if_true, Nat.reduceAdd, Nat.reduceLT, Nat.reduceLeDiff, Nat.reduceEqDiff, true_and, and_true, List.length_nil, List.length_cons, or_true, true_or, or_false, false_or, Option.some.injEq, Sum.inl.injEq, Sum.inr.injEq, exists_eq_left', exists_eq_left, Int.reduceLE, Int.reduceLT, Int.reduceNeg, Int.reduceAdd, Int.reduceMul, Int.reduceSub, Int.reduceToNat, inR, Nat.zero_ne_one, false_and, Nat.succ_ne_zero, reduceCtorEq, false_implies, true_implies, not_false_eq_true, not_true_eq_false, Int.reduceEq, KRE, C_Stock_isDated, l0, l2]
  refine (Stock_yearOf_ok hs ht hw).eq ?_
  grind
set_option maxHeartbeats 4000000 in
set_option maxRecDepth 20000 in
theorem Stock_setYear_ok {s : Nat} {t y : Int} {M : Mm} (hs : isStk s) (ht : inR t) (hw : wfS M s) : CallV m_Stock_setYear [.inr s, .inl t, .inl y] M (fun M' => M' = if 0 ≤ t ∧ t < M s 3 then mset M (s + 5) t.toNat y else M) := by
  obtain ⟨l0, l1, l2, l3, l4⟩ := id hs
  have w0 := hw.1
  refine callP_of (by decide) (by decide) (Nat.le_of_ble_eq_true rfl) (wpm_of (cuts := []) (by decide) 50 _ _ _ _ ?_)
  rw [show lM m_Stock_setYear = 3 from rfl]
  simp (maxSteps := 2000000) only [↓reduceIte, wp_eq, wpd_eq, kont_eq, STP1, STP2, STP3, STP4, STP5, konM_eq, AMK, CZ, Option.map, List.getElem?_cons_zero, List.getElem?_cons_succ, List.mem_cons, List.not_mem_nil, if_false, if_true, Nat.reduceAdd, Nat.reduceLT, Nat.reduceLeDiff, Nat.reduceEqDiff, true_and, and_true, List.length_nil, List.length_cons, or_true, true_or, or_false, false_or, Option.some.injEq, Sum.inl.injEq, Sum.inr.injEq, exists_eq_left', exists_eq_left, Int.reduceLE, Int.reduceLT, Int.reduceNeg, Int.reduceAdd, Int.reduceMul, Int.reduceSub, Int.reduceToNat, inR, Nat.zero_ne_one, false_and, Nat.succ_ne_zero, reduceCtorEq, false_implies, true_implies, not_false_eq_true, not_true_eq_false, Int.reduceEq, KRE, C_Stock_setYear, l0, l2]
  refine (Stock_has_ok hs ht hw).eq ?_
  by_cases h : 0 ≤ t ∧ t < M s 3
  · simp [h, and_self, if_true]
    omega
  · simp [h]
set_option maxHeartbeats 4000000 in
set_option maxRecDepth 20000 in
theorem Stock_hasRingIn_ok {s : Nat} {t y : Int} {M : Mm} (hs : isStk s) (ht : inR t) (hy : inR y) (hw : wfS M s) : CallI m_Stock_hasRingIn [.inr s, .inl t, .inl y] M (fun x M' => x = (if yrA M s t ≠ -1 ∧ yrA M s t ≤ y ∧ y < yrA M s t + M (tmA M s t) 2 then 1 else 0) ∧ M' = M) := by
  obtain ⟨l0, l1, l2, l3, l4⟩ := id hs
  have w0 := yrA_in (t := t) hw
  obtain ⟨q1, q2⟩ := tmA_tim (t := t) hs hw
  have q3 := q2.1
  simp only [inR] at hy
  refine callP_of (by decide) (by decide) (Nat.le_of_ble_eq_true rfl) (wpm_of (cuts := []) (by decide) 50 _ _ _ _ ?_)
  rw [show lM m_Stock_hasRingIn = 4 from rfl]
  simp (maxSteps := 2000000) only [↓reduceIte, wp_eq, wpd_eq, kont_eq, STP1, STP2, STP3, STP4, STP5, konM_eq, AMK, CZ, Option.map, List.getElem?_cons_zero, List.getElem?_cons_succ, List.mem_cons, List.not_mem_nil, if_false, if_true, Nat.reduceAdd, Nat.reduceLT, Nat.reduceLeDiff, Nat.reduceEqDiff, true_and, and_true, List.length_nil, List.length_cons, or_true, true_or, or_false, false_or, Option.some.injEq, Sum.inl.injEq, Sum.inr.injEq, exists_eq_left', exists_eq_left, Int.reduceLE, Int.reduceLT, Int.reduceNeg, Int.reduceAdd, Int.reduceMul, Int.reduceSub, Int.reduceToNat, inR, Nat.zero_ne_one, false_and, Nat.succ_ne_zero, reduceCtorEq, false_implies, true_implies, not_false_eq_true, not_true_eq_false, Int.reduceEq, KRE, C_Stock_hasRingIn, l0, l2]
  refine (Stock_yearOf_ok hs ht hw).eq ?_
  by_cases h1 : yrA M s t = -1
  · simp [h1]
  · by_cases h2 : y < yrA M s t
    · have h3 : ¬ yrA M s t ≤ y := by omega
      simp only [h1, h2, h3, not_true_eq_false, not_false_eq_true, true_implies, false_implies, and_true, true_and, false_and, and_false, if_false]
      omega
    · simp only [h1, h2, not_true_eq_false, not_false_eq_true, true_implies, false_implies, and_true, true_and]
      refine ⟨by omega, by omega, by omega, ?_⟩
      refine (Stock_timberAt_ok hs ht hw).eq ?_
      simp (maxSteps := 2000000) only [↓reduceIte, wp_eq, wpd_eq, kont_eq, STP1, STP2, STP3, STP4, STP5, konM_eq, AMK, CZ, Option.map, List.getElem?_cons_zero, List.getElem?_cons_succ, List.mem_cons, List.not_mem_nil, if_false, if_true, Nat.reduceAdd, Nat.reduceLT, Nat.reduceLeDiff, Nat.reduceEqDiff, true_and, and_true, List.length_nil, List.length_cons, or_true, true_or, or_false, false_or, Option.some.injEq, Sum.inl.injEq, Sum.inr.injEq, exists_eq_left', exists_eq_left, Int.reduceLE, Int.reduceLT, Int.reduceNeg, Int.reduceAdd, Int.reduceMul, Int.reduceSub, Int.reduceToNat, inR, Nat.zero_ne_one, false_and, Nat.succ_ne_zero, reduceCtorEq, false_implies, true_implies, not_false_eq_true, not_true_eq_false, Int.reduceEq, KRE, C_Stock_hasRingIn, q1.1]
      grind
set_option maxHeartbeats 4000000 in
set_option maxRecDepth 20000 in
theorem Stock_felledFrom_ok {s : Nat} {t : Int} {M : Mm} (hs : isStk s) (ht : inR t) (hw : wfS M s) : CallI m_Stock_felledFrom [.inr s, .inl t] M (fun x M' => x = yrA M s t + M (tmA M s t) 2 - 1 + M (tmA M s t) 3 ∧ M' = M) := by
  obtain ⟨l0, l1, l2, l3, l4⟩ := id hs
  obtain ⟨q1, q2⟩ := tmA_tim (t := t) hs hw
  refine callP_of (by decide) (by decide) (Nat.le_of_ble_eq_true rfl) (wpm_of (cuts := []) (by decide) 50 _ _ _ _ ?_)
  rw [show lM m_Stock_felledFrom = 3 from rfl]
  simp (maxSteps := 2000000) only [↓reduceIte, wp_eq, wpd_eq, kont_eq, STP1, STP2, STP3, STP4, STP5, konM_eq, AMK, CZ, Option.map, List.getElem?_cons_zero, List.getElem?_cons_succ, List.mem_cons, List.not_mem_nil, if_false, if_true, Nat.reduceAdd, Nat.reduceLT, Nat.reduceLeDiff, Nat.reduceEqDiff, true_and, and_true, List.length_nil, List.length_cons, or_true, true_or, or_false, false_or, Option.some.injEq, Sum.inl.injEq, Sum.inr.injEq, exists_eq_left', exists_eq_left, Int.reduceLE, Int.reduceLT, Int.reduceNeg, Int.reduceAdd, Int.reduceMul, Int.reduceSub, Int.reduceToNat, inR, Nat.zero_ne_one, false_and, Nat.succ_ne_zero, reduceCtorEq, false_implies, true_implies, not_false_eq_true, not_true_eq_false, Int.reduceEq, KRE, C_Stock_felledFrom, l0, l2]
  refine (Stock_timberAt_ok hs ht hw).eq ?_
  refine (Stock_yearOf_ok hs ht hw).eq ?_
  simp (maxSteps := 2000000) only [↓reduceIte, wp_eq, wpd_eq, kont_eq, STP1, STP2, STP3, STP4, STP5, konM_eq, AMK, CZ, Option.map, List.getElem?_cons_zero, List.getElem?_cons_succ, List.mem_cons, List.not_mem_nil, if_false, if_true, Nat.reduceAdd, Nat.reduceLT, Nat.reduceLeDiff, Nat.reduceEqDiff, true_and, and_true, List.length_nil, List.length_cons, or_true, true_or, or_false, false_or, Option.some.injEq, Sum.inl.injEq, Sum.inr.injEq, exists_eq_left', exists_eq_left, Int.reduceLE, Int.reduceLT, Int.reduceNeg, Int.reduceAdd, Int.reduceMul, Int.reduceSub, Int.reduceToNat, inR, Nat.zero_ne_one, false_and, Nat.succ_ne_zero, reduceCtorEq, false_implies, true_implies, not_false_eq_true, not_true_eq_false, Int.reduceEq, KRE, C_Stock_felledFrom, q1.1]
set_option maxHeartbeats 4000000 in
set_option maxRecDepth 20000 in
theorem Stock_felledUntil_ok {s : Nat} {t : Int} {M : Mm} (hs : isStk s) (ht : inR t) (hw : wfS M s) : CallI m_Stock_felledUntil [.inr s, .inl t] M (fun x M' => x = yrA M s t + M (tmA M s t) 2 - 1 + M (tmA M s t) 4 ∧ M' = M) := by
  obtain ⟨l0, l1, l2, l3, l4⟩ := id hs
  obtain ⟨q1, q2⟩ := tmA_tim (t := t) hs hw
  refine callP_of (by decide) (by decide) (Nat.le_of_ble_eq_true rfl) (wpm_of (cuts := []) (by decide) 50 _ _ _ _ ?_)
  rw [show lM m_Stock_felledUntil = 3 from rfl]
  simp (maxSteps := 2000000) only [↓reduceIte, wp_eq, wpd_eq, kont_eq, STP1, STP2, STP3, STP4, STP5, konM_eq, AMK, CZ, Option.map, List.getElem?_cons_zero, List.getElem?_cons_succ, List.mem_cons, List.not_mem_nil, if_false, if_true, Nat.reduceAdd, Nat.reduceLT, Nat.reduceLeDiff, Nat.reduceEqDiff, true_and, and_true, List.length_nil, List.length_cons, or_true, true_or, or_false, false_or, Option.some.injEq, Sum.inl.injEq, Sum.inr.injEq, exists_eq_left', exists_eq_left, Int.reduceLE, Int.reduceLT, Int.reduceNeg, Int.reduceAdd, Int.reduceMul, Int.reduceSub, Int.reduceToNat, inR, Nat.zero_ne_one, false_and, Nat.succ_ne_zero, reduceCtorEq, false_implies, true_implies, not_false_eq_true, not_true_eq_false, Int.reduceEq, KRE, C_Stock_felledUntil, l0, l2]
  refine (Stock_timberAt_ok hs ht hw).eq ?_
  refine (Stock_yearOf_ok hs ht hw).eq ?_
  simp (maxSteps := 2000000) only [↓reduceIte, wp_eq, wpd_eq, kont_eq, STP1, STP2, STP3, STP4, STP5, konM_eq, AMK, CZ, Option.map, List.getElem?_cons_zero, List.getElem?_cons_succ, List.mem_cons, List.not_mem_nil, if_false, if_true, Nat.reduceAdd, Nat.reduceLT, Nat.reduceLeDiff, Nat.reduceEqDiff, true_and, and_true, List.length_nil, List.length_cons, or_true, true_or, or_false, false_or, Option.some.injEq, Sum.inl.injEq, Sum.inr.injEq, exists_eq_left', exists_eq_left, Int.reduceLE, Int.reduceLT, Int.reduceNeg, Int.reduceAdd, Int.reduceMul, Int.reduceSub, Int.reduceToNat, inR, Nat.zero_ne_one, false_and, Nat.succ_ne_zero, reduceCtorEq, false_implies, true_implies, not_false_eq_true, not_true_eq_false, Int.reduceEq, KRE, C_Stock_felledUntil, q1.1]
set_option maxHeartbeats 4000000 in
set_option maxRecDepth 20000 in
theorem Stock_isDatedIn_ok {s : Nat} {t h : Int} {M : Mm} (hs : isStk s) (ht : inR t) (hh : inR h) (hw : wfS M s) : CallI m_Stock_isDatedIn [.inr s, .inl t, .inl h] M (fun x M' => x = (if yrA M s t ≠ -1 ∧ M (tmA M s t) 5 = h then 1 else 0) ∧ M' = M) := by
  obtain ⟨l0, l1, l2, l3, l4⟩ := id hs
  obtain ⟨q1, q2⟩ := tmA_tim (t := t) hs hw
  have q3 := q2.2.2.2.2.2
  simp only [inR] at hh
  refine callP_of (by decide) (by decide) (Nat.le_of_ble_eq_true rfl) (wpm_of (cuts := []) (by decide) 50 _ _ _ _ ?_)
  rw [show lM m_Stock_isDatedIn = 3 from rfl]
  simp (maxSteps := 2000000) only [↓reduceIte, wp_eq, wpd_eq, kont_eq, STP1, STP2, STP3, STP4, STP5, konM_eq, AMK, CZ, Option.map, List.getElem?_cons_zero, List.getElem?_cons_succ, List.mem_cons, List.not_mem_nil, if_false, if_true, Nat.reduceAdd, Nat.reduceLT, Nat.reduceLeDiff, Nat.reduceEqDiff, true_and, and_true, List.length_nil, List.length_cons, or_true, true_or, or_false, false_or, Option.some.injEq, Sum.inl.injEq, Sum.inr.injEq, exists_eq_left', exists_eq_left, Int.reduceLE, Int.reduceLT, Int.reduceNeg, Int.reduceAdd, Int.reduceMul, Int.reduceSub, Int.reduceToNat, inR, Nat.zero_ne_one, false_and, Nat.succ_ne_zero, reduceCtorEq, false_implies, true_implies, not_false_eq_true, not_true_eq_false, Int.reduceEq, KRE, C_Stock_isDatedIn, l0, l2]
  refine (Stock_isDated_ok hs ht hw).eq ?_
  by_cases h1 : yrA M s t = -1
  · simp [h1]
  · simp only [h1, ne_eq, not_false_eq_true, if_true, true_and, Int.reduceEq, false_implies, true_implies]
    refine ⟨by omega, ?_⟩
    refine (Stock_timberAt_ok hs ht hw).eq ?_
    simp (maxSteps := 2000000) only [↓reduceIte, wp_eq, wpd_eq, kont_eq, STP1, STP2, STP3, STP4, STP5, konM_eq, AMK, CZ, Option.map, List.getElem?_cons_zero, List.getElem?_cons_succ, List.mem_cons, List.not_mem_nil, if_false, if_true, Nat.reduceAdd, Nat.reduceLT, Nat.reduceLeDiff, Nat.reduceEqDiff, true_and, and_true, List.length_nil, List.length_cons, or_true, true_or, or_false, false_or, Option.some.injEq, Sum.inl.injEq, Sum.inr.injEq, exists_eq_left', exists_eq_left, Int.reduceLE, Int.reduceLT, Int.reduceNeg, Int.reduceAdd, Int.reduceMul, Int.reduceSub, Int.reduceToNat, inR, Nat.zero_ne_one, false_and, Nat.succ_ne_zero, reduceCtorEq, false_implies, true_implies, not_false_eq_true, not_true_eq_false, Int.reduceEq, KRE, C_Stock_isDatedIn, q1.1]
    grind
/-! spec: a stock's timbers by n (how many), Y (years), N (rings), L, U (least, most), H (houses) -/
def fBit (p : Nat → Prop) [DecidablePred p] (n : Nat) : Int := foldN (fun t b => bOr b (if p t then bShl 1 t else 0)) 0 n
theorem fBit_succ {p : Nat → Prop} [DecidablePred p] {n : Nat} : fBit p (n + 1) = bOr (fBit p n) (if p n then bShl 1 n else 0) := rfl
def fMaxF (p : Nat → Prop) [DecidablePred p] (f : Nat → Int) (n : Nat) : Int := foldN (fun t b => if p t then max b (f t) else b) (-1) n
def fMinF (p : Nat → Prop) [DecidablePred p] (f : Nat → Int) (n : Nat) : Int := foldN (fun t b => if p t ∧ (b = -1 ∨ f t < b) then f t else b) (-1) n
theorem fMaxF_in {p : Nat → Prop} [DecidablePred p] {f : Nat → Int} {c : Int} (hc : -1 ≤ c) : ∀ {n : Nat}, (∀ t, t < n → f t ≤ c) → -1 ≤ fMaxF p f n ∧ fMaxF p f n ≤ c
  | 0, _ => ⟨Int.le_refl _, hc⟩
  | n + 1, h => by
    have h1 := fMaxF_in (p := p) (f := f) hc (n := n) (fun t ht => h t (by omega))
    have h2 := h n (by omega)
    unfold fMaxF at *
    rw [foldN]
    split <;> omega
theorem fMinF_in {p : Nat → Prop} [DecidablePred p] {f : Nat → Int} {c : Int} (hc : -1 ≤ c) : ∀ {n : Nat}, (∀ t, t < n → -1 ≤ f t ∧ f t ≤ c) → -1 ≤ fMinF p f n ∧ fMinF p f n ≤ c
  | 0, _ => ⟨Int.le_refl _, hc⟩
  | n + 1, h => by
    have h1 := fMinF_in (p := p) (f := f) hc (n := n) (fun t ht => h t (by omega))
    have h2 := h n (by omega)
    unfold fMinF at *
    rw [foldN]
    split <;> omega
set_option maxHeartbeats 4000000 in
set_option maxRecDepth 20000 in
theorem Stock_datedBits_ok {s : Nat} {M : Mm} (hs : isStk s) (hw : wfS M s) : CallI m_Stock_datedBits [.inr s] M (fun x M' => x = fBit (fun t => yrA M s t ≠ -1) (M s 3).toNat ∧ M' = M) := by
  obtain ⟨l0, l1, l2, l3, l4⟩ := id hs
  have w0 := hw.1
  refine callP_of (by decide) (by decide) (Nat.le_of_ble_eq_true rfl) (wpm_of (cuts := [4]) (by decide) 50 _ _ _ _ ?_)
  rw [show lM m_Stock_datedBits = 3 from rfl]
  simp (maxSteps := 2000000) only [↓reduceIte, wp_eq, wpd_eq, kont_eq, STP1, STP2, STP3, STP4, STP5, konM_eq, AMK, CZ, Option.map, List.getElem?_cons_zero, List.getElem?_cons_succ, List.mem_cons, List.not_mem_nil, if_false, if_true, Nat.reduceAdd, Nat.reduceLT, Nat.reduceLeDiff, Nat.reduceEqDiff, true_and, and_true, List.length_nil, List.length_cons, or_true, true_or, or_false, false_or, Option.some.injEq, Sum.inl.injEq, Sum.inr.injEq, exists_eq_left', exists_eq_left, Int.reduceLE, Int.reduceLT, Int.reduceNeg, Int.reduceAdd, Int.reduceMul, Int.reduceSub, Int.reduceToNat, inR, Nat.zero_ne_one, false_and, Nat.succ_ne_zero, reduceCtorEq, false_implies, true_implies, not_false_eq_true, not_true_eq_false, Int.reduceEq, KRE, C_Stock_datedBits, l0, l2]
  refine loopQ (M s 3).toNat (fun k ls M1 => M = M1 ∧ ls = [some (.inr s), some (.inl (fBit (fun t => yrA M s t ≠ -1) k)), some (.inl k)]) ?_ _ _ ⟨rfl, rfl⟩
  rintro k _ _ hk ⟨rfl, rfl⟩ K
  refine wpm_of (cuts := [4]) (by decide) 100 _ _ _ _ ?_
  simp (maxSteps := 2000000) only [↓reduceIte, wp_eq, wpd_eq, kont_eq, STP1, STP2, STP3, STP4, STP5, konM_eq, AMK, CZ, Option.map, List.getElem?_cons_zero, List.getElem?_cons_succ, List.mem_cons, List.not_mem_nil, if_false, if_true, Nat.reduceAdd, Nat.reduceLT, Nat.reduceLeDiff, Nat.reduceEqDiff, true_and, and_true, List.length_nil, List.length_cons, or_true, true_or, or_false, false_or, Option.some.injEq, Sum.inl.injEq, Sum.inr.injEq, exists_eq_left', exists_eq_left, Int.reduceLE, Int.reduceLT, Int.reduceNeg, Int.reduceAdd, Int.reduceMul, Int.reduceSub, Int.reduceToNat, inR, Nat.zero_ne_one, false_and, Nat.succ_ne_zero, reduceCtorEq, false_implies, true_implies, not_false_eq_true, not_true_eq_false, Int.reduceEq, KRE, C_Stock_datedBits, l0, l2]
  refine ⟨by omega, by omega, fun z => ?_, fun z => ?_⟩
  · rw [show k = (M s 3).toNat by omega]
  · refine (Stock_isDated_ok hs ⟨by omega, by omega⟩ hw).eq ?_
    have K' := K (by omega) _ _ ⟨rfl, rfl⟩
    rw [fBit_succ] at K'
    by_cases h : yrA M s k = -1
    · simp only [h, ne_eq, not_true_eq_false, if_false] at K' ⊢
      simpa using K'
    · simp only [h, ne_eq, not_false_eq_true, if_true] at K' ⊢
      simpa using K'
