/-! STOCK, 3: pointers, what is written. -/
/-- a timber's step in a year: its ring there and the one ahead -/
def hasS (T : Nat → Rw) (Y : Nat → Int) (y : Int) (t : Nat) : Prop := Y t ≠ -1 ∧ Y t < y ∧ y < Y t + (T t).2.1
def stpY (T : Nat → Rw) (Y : Nat → Int) (y : Int) (t : Nat) : Int := vCmp (sN (T t) (y - Y t)) (sN (T t) (y - Y t - 1))
def pAll (T : Nat → Rw) (Y : Nat → Int) (y : Int) (n : Nat) : Int := sumN (fun t => if Y t ≠ -1 ∧ Y t < y ∧ y < Y t + (T t).2.1 then 1 else 0) n
def pUp (T : Nat → Rw) (Y : Nat → Int) (y : Int) (n : Nat) : Int := sumN (fun t => if (Y t ≠ -1 ∧ Y t < y ∧ y < Y t + (T t).2.1) ∧ stpY T Y y t = 1 then 1 else 0) n
def pDn (T : Nat → Rw) (Y : Nat → Int) (y : Int) (n : Nat) : Int := sumN (fun t => if (Y t ≠ -1 ∧ Y t < y ∧ y < Y t + (T t).2.1) ∧ stpY T Y y t = -1 then 1 else 0) n
def ptr (T : Nat → Rw) (Y : Nat → Int) (y : Int) (n : Nat) : Int := if pAll T Y y n < 3 then 0 else if 3 * pAll T Y y n ≤ 4 * pUp T Y y n then 1 else if 3 * pAll T Y y n ≤ 4 * pDn T Y y n then -1 else 0
theorem p_in (T : Nat → Rw) (Y : Nat → Int) (y : Int) {n : Nat} (hn : n ≤ 8) : (0 ≤ pAll T Y y n ∧ pAll T Y y n ≤ 8) ∧ (0 ≤ pUp T Y y n ∧ pUp T Y y n ≤ 8) ∧ (0 ≤ pDn T Y y n ∧ pDn T Y y n ≤ 8) := by
  have a := sumN_in (f := fun t => if Y t ≠ -1 ∧ Y t < y ∧ y < Y t + (T t).2.1 then 1 else 0) (a := 0) (b := 1) (n := n) (fun j hj => by split <;> omega)
  have b := sumN_in (f := fun t => if (Y t ≠ -1 ∧ Y t < y ∧ y < Y t + (T t).2.1) ∧ stpY T Y y t = 1 then 1 else 0) (a := 0) (b := 1) (n := n) (fun j hj => by split <;> omega)
  have c := sumN_in (f := fun t => if (Y t ≠ -1 ∧ Y t < y ∧ y < Y t + (T t).2.1) ∧ stpY T Y y t = -1 then 1 else 0) (a := 0) (b := 1) (n := n) (fun j hj => by split <;> omega)
  unfold pAll pUp pDn
  omega
theorem ptr_congr {T T' : Nat → Rw} {Y Y' : Nat → Int} {y : Int} {n : Nat} (h : ∀ t, t < n → T t = T' t ∧ Y t = Y' t) : ptr T Y y n = ptr T' Y' y n := by
  have e1 : pAll T Y y n = pAll T' Y' y n := sumN_congr (fun t ht => by rw [(h t ht).1, (h t ht).2])
  have es : ∀ t, t < n → stpY T Y y t = stpY T' Y' y t := fun t ht => by unfold stpY; rw [(h t ht).1, (h t ht).2]
  have e2 : pUp T Y y n = pUp T' Y' y n := sumN_congr (fun t ht => by rw [es t ht, (h t ht).1, (h t ht).2])
  have e3 : pDn T Y y n = pDn T' Y' y n := sumN_congr (fun t ht => by rw [es t ht, (h t ht).1, (h t ht).2])
  unfold ptr
  rw [e1, e2, e3]
theorem vWid_N {M : Mm} {o : Nat} {r : Int} (hw : wfT M o) : vWid M o r = sN (tRw M o) r := by
  have := hw.1
  unfold vWid sN
  have e : (tRw M o).2.1 = M o 2 := rfl
  rw [e]
  by_cases h : 0 ≤ r ∧ r < M o 2
  · rw [if_pos (by omega), if_pos h]
    exact (if_pos (by omega)).symm
  · rw [if_neg (by omega), if_neg h]
set_option maxHeartbeats 4000000 in
set_option maxRecDepth 20000 in
theorem Stock_pointerStep_ok {s : Nat} {y : Int} {M : Mm} (hs : isStk s) (hw : wfS M s) (hy : -10 ≤ y ∧ y ≤ 2000) : CallI m_Stock_pointerStep [.inr s, .inl y] M (fun x M' => x = ptr (stT M s) (fun t => M (s + 5) t) y (M s 3).toNat ∧ M' = M) := by
  obtain ⟨l0, l1, l2, l3, l4⟩ := id hs
  have w0 := hw.1
  generalize hT : stT M s = T
  generalize hY : (fun t => M (s + 5) t) = Y
  refine callP_of (by decide) (by decide) (Nat.le_of_ble_eq_true rfl) (wpm_of (cuts := [10]) (by decide) 50 _ _ _ _ ?_)
  rw [show lM m_Stock_pointerStep = 7 from rfl]
  simp (maxSteps := 2000000) only [↓reduceIte, wp_eq, wpd_eq, kont_eq, STP1, STP2, STP3, STP4, STP5, konM_eq, AMK, CZ, Option.map, List.getElem?_cons_zero, List.getElem?_cons_succ, List.mem_cons, List.not_mem_nil, if_false, if_true, Nat.reduceAdd, Nat.reduceLT, Nat.reduceLeDiff, Nat.reduceEqDiff, true_and, and_true, List.length_nil, List.length_cons, or_true, true_or, or_false, false_or, Option.some.injEq, Sum.inl.injEq, Sum.inr.injEq, exists_eq_left', exists_eq_left, Int.reduceLE, Int.reduceLT, Int.reduceNeg, Int.reduceAdd, Int.reduceMul, Int.reduceSub, Int.reduceToNat, inR, Nat.zero_ne_one, false_and, Nat.succ_ne_zero, reduceCtorEq, false_implies, true_implies, not_false_eq_true, not_true_eq_false, Int.reduceEq, KRE, C_Stock_pointerStep, l0, l2]
  refine loopQ (M s 3).toNat (fun k ls M1 => M = M1 ∧ ∃ a6, ls = [some (.inr s), some (.inl y), some (.inl (pAll T Y y k)), some (.inl (pUp T Y y k)), some (.inl (pDn T Y y k)), some (.inl k), a6]) ?_ _ _ ⟨rfl, none, rfl⟩
  rintro k _ _ hk ⟨rfl, a6, rfl⟩ K
  obtain ⟨p1, p2, p3⟩ := p_in T Y y (n := k) (by omega)
  by_cases hz : M s 3 ≤ (k : Int)
  · rw [show k = (M s 3).toNat by omega] at p1 p2 p3 ⊢
    refine wpm_of (cuts := [10]) (by decide) 100 _ _ _ _ ?_
    simp (maxSteps := 2000000) only [↓reduceIte, wp_eq, wpd_eq, kont_eq, STP1, STP2, STP3, STP4, STP5, konM_eq, AMK, CZ, Option.map, List.getElem?_cons_zero, List.getElem?_cons_succ, List.mem_cons, List.not_mem_nil, if_false, if_true, Nat.reduceAdd, Nat.reduceLT, Nat.reduceLeDiff, Nat.reduceEqDiff, true_and, and_true, List.length_nil, List.length_cons, or_true, true_or, or_false, false_or, Option.some.injEq, Sum.inl.injEq, Sum.inr.injEq, exists_eq_left', exists_eq_left, Int.reduceLE, Int.reduceLT, Int.reduceNeg, Int.reduceAdd, Int.reduceMul, Int.reduceSub, Int.reduceToNat, inR, Nat.zero_ne_one, false_and, Nat.succ_ne_zero, reduceCtorEq, false_implies, true_implies, not_false_eq_true, not_true_eq_false, Int.reduceEq, KRE, C_Stock_pointerStep, l0, l2, hz]
    unfold ptr
    rw [show (((M s 3).toNat : Nat) : Int) = M s 3 by omega]
    generalize pAll T Y y (M s 3).toNat = a at *
    generalize pUp T Y y (M s 3).toNat = b at *
    generalize pDn T Y y (M s 3).toNat = c at *
    grind
  · refine wpm_of (cuts := [10]) (by decide) 100 _ _ _ _ ?_
    simp (maxSteps := 2000000) only [↓reduceIte, wp_eq, wpd_eq, kont_eq, STP1, STP2, STP3, STP4, STP5, konM_eq, AMK, CZ, Option.map, List.getElem?_cons_zero, List.getElem?_cons_succ, List.mem_cons, List.not_mem_nil, if_false, if_true, Nat.reduceAdd, Nat.reduceLT, Nat.reduceLeDiff, Nat.reduceEqDiff, true_and, and_true, List.length_nil, List.length_cons, or_true, true_or, or_false, false_or, Option.some.injEq, Sum.inl.injEq, Sum.inr.injEq, exists_eq_left', exists_eq_left, Int.reduceLE, Int.reduceLT, Int.reduceNeg, Int.reduceAdd, Int.reduceMul, Int.reduceSub, Int.reduceToNat, inR, Nat.zero_ne_one, false_and, Nat.succ_ne_zero, reduceCtorEq, false_implies, true_implies, not_false_eq_true, not_true_eq_false, Int.reduceEq, KRE, C_Stock_pointerStep, l0, l2, hz]
    repeat (refine ⟨by omega, ?_⟩)
    try (first | (show _ ≤ _; omega) | (show _ < _; omega))
    refine (Stock_hasRingIn_ok (t := (k : Int)) (y := y) hs ⟨by omega, by omega⟩ ⟨by omega, by omega⟩ hw).eq ?_
    have K' := fun a6 => K (by omega) _ _ ⟨rfl, a6, rfl⟩
    have eY : yrA M s k = Y k := by rw [yrA_k (by omega), ← hY]
    have eA := tmA_k (M := M) (s := s) (k := k) (by omega)
    have eT : tRw M (s + 6 + 3 * k) = T k := by rw [← hT]; rfl
    have eR : M (s + 6 + 3 * k) 2 = (T k).2.1 := by rw [← eT]; rfl
    have y1 := yrA_in (t := (k : Int)) hw
    have hT1 := l4 k (by omega)
    have hT2 := hw.2.2.2.2.1 k (by omega)
    have r0 := hT2.1
    rw [eY, eA, eR]
    rw [eY] at y1
    rw [eR] at r0
    rw [show pAll T Y y (k + 1) = pAll T Y y k + (if Y k ≠ -1 ∧ Y k < y ∧ y < Y k + (T k).2.1 then 1 else 0) from rfl, show pUp T Y y (k + 1) = pUp T Y y k + (if (Y k ≠ -1 ∧ Y k < y ∧ y < Y k + (T k).2.1) ∧ stpY T Y y k = 1 then 1 else 0) from rfl, show pDn T Y y (k + 1) = pDn T Y y k + (if (Y k ≠ -1 ∧ Y k < y ∧ y < Y k + (T k).2.1) ∧ stpY T Y y k = -1 then 1 else 0) from rfl] at K'
    by_cases h1 : Y k ≠ -1 ∧ Y k ≤ y ∧ y < Y k + (T k).2.1
    · rw [if_pos h1]
      simp (maxSteps := 2000000) only [↓reduceIte, wp_eq, wpd_eq, kont_eq, STP1, STP2, STP3, STP4, STP5, konM_eq, AMK, CZ, Option.map, List.getElem?_cons_zero, List.getElem?_cons_succ, List.mem_cons, List.not_mem_nil, if_false, if_true, Nat.reduceAdd, Nat.reduceLT, Nat.reduceLeDiff, Nat.reduceEqDiff, true_and, and_true, List.length_nil, List.length_cons, or_true, true_or, or_false, false_or, Option.some.injEq, Sum.inl.injEq, Sum.inr.injEq, exists_eq_left', exists_eq_left, Int.reduceLE, Int.reduceLT, Int.reduceNeg, Int.reduceAdd, Int.reduceMul, Int.reduceSub, Int.reduceToNat, inR, Nat.zero_ne_one, false_and, Nat.succ_ne_zero, reduceCtorEq, false_implies, true_implies, not_false_eq_true, not_true_eq_false, Int.reduceEq, KRE, C_Stock_pointerStep, l0]
      repeat (refine ⟨by omega, ?_⟩)
      try (first | (show _ ≤ _; omega) | (show _ < _; omega))
      refine (Stock_hasRingIn_ok (t := (k : Int)) (y := y - 1) hs ⟨by omega, by omega⟩ ⟨by omega, by omega⟩ hw).eq ?_
      rw [eY, eA, eR]
      by_cases h2 : Y k < y
      · rw [if_pos ⟨h1.1, by omega, by omega⟩]
        simp (maxSteps := 2000000) only [↓reduceIte, wp_eq, wpd_eq, kont_eq, STP1, STP2, STP3, STP4, STP5, konM_eq, AMK, CZ, Option.map, List.getElem?_cons_zero, List.getElem?_cons_succ, List.mem_cons, List.not_mem_nil, if_false, if_true, Nat.reduceAdd, Nat.reduceLT, Nat.reduceLeDiff, Nat.reduceEqDiff, true_and, and_true, List.length_nil, List.length_cons, or_true, true_or, or_false, false_or, Option.some.injEq, Sum.inl.injEq, Sum.inr.injEq, exists_eq_left', exists_eq_left, Int.reduceLE, Int.reduceLT, Int.reduceNeg, Int.reduceAdd, Int.reduceMul, Int.reduceSub, Int.reduceToNat, inR, Nat.zero_ne_one, false_and, Nat.succ_ne_zero, reduceCtorEq, false_implies, true_implies, not_false_eq_true, not_true_eq_false, Int.reduceEq, KRE, C_Stock_pointerStep, l0]
        repeat (refine ⟨by omega, ?_⟩)
        try (first | (show _ ≤ _; omega) | (show _ < _; omega))
        refine (Stock_timberAt_ok (t := (k : Int)) hs ⟨by omega, by omega⟩ hw).eq ?_
        refine (Stock_yearOf_ok (t := (k : Int)) hs ⟨by omega, by omega⟩ hw).eq ?_
        rw [eY, eA]
        simp (maxSteps := 2000000) only [↓reduceIte, wp_eq, wpd_eq, kont_eq, STP1, STP2, STP3, STP4, STP5, konM_eq, AMK, CZ, Option.map, List.getElem?_cons_zero, List.getElem?_cons_succ, List.mem_cons, List.not_mem_nil, if_false, if_true, Nat.reduceAdd, Nat.reduceLT, Nat.reduceLeDiff, Nat.reduceEqDiff, true_and, and_true, List.length_nil, List.length_cons, or_true, true_or, or_false, false_or, Option.some.injEq, Sum.inl.injEq, Sum.inr.injEq, exists_eq_left', exists_eq_left, Int.reduceLE, Int.reduceLT, Int.reduceNeg, Int.reduceAdd, Int.reduceMul, Int.reduceSub, Int.reduceToNat, inR, Nat.zero_ne_one, false_and, Nat.succ_ne_zero, reduceCtorEq, false_implies, true_implies, not_false_eq_true, not_true_eq_false, Int.reduceEq, KRE, C_Stock_pointerStep, hT1.1]
        repeat (refine ⟨by omega, ?_⟩)
        try (first | (show _ ≤ _; omega) | (show _ < _; omega))
        refine (Timber_stepOf_ok (r := y - Y k) hT1 ⟨by omega, by omega⟩ ⟨by omega, by omega⟩ hT2).eq ?_
        rw [vWid_N hT2, vWid_N hT2, eT, show vCmp (sN (T k) (y - Y k)) (sN (T k) (y - Y k - 1)) = stpY T Y y k from rfl]
        have s1 : -1 ≤ stpY T Y y k ∧ stpY T Y y k ≤ 1 := vCmp_in _ _
        have hh : Y k ≠ -1 ∧ Y k < y ∧ y < Y k + (T k).2.1 := ⟨h1.1, h2, h1.2.2⟩
        simp only [hh, true_and, and_self, not_false_eq_true, ne_eq, if_true] at K'
        generalize stpY T Y y k = S at *
        refine ⟨by omega, fun c1 => ⟨by omega, fun c2 => ?_, fun c2 => ?_⟩, fun c1 => ⟨by omega, fun c2 => ?_, fun c2 => ?_⟩⟩
        · rw [if_neg (by omega), if_neg (by omega)] at K'
          exact K' _
        · rw [if_neg (by omega), if_pos (by omega)] at K'
          exact K' _
        · rw [if_pos (by omega), if_neg (by omega)] at K'
          exact K' _
        · omega
      · rw [if_neg (by omega)]
        rw [if_neg (by omega), if_neg (fun z => by omega), if_neg (fun z => by omega)] at K'
        simp (maxSteps := 2000000) only [↓reduceIte, wp_eq, wpd_eq, kont_eq, STP1, STP2, STP3, STP4, STP5, konM_eq, AMK, CZ, Option.map, List.getElem?_cons_zero, List.getElem?_cons_succ, List.mem_cons, List.not_mem_nil, if_false, if_true, Nat.reduceAdd, Nat.reduceLT, Nat.reduceLeDiff, Nat.reduceEqDiff, true_and, and_true, List.length_nil, List.length_cons, or_true, true_or, or_false, false_or, Option.some.injEq, Sum.inl.injEq, Sum.inr.injEq, exists_eq_left', exists_eq_left, Int.reduceLE, Int.reduceLT, Int.reduceNeg, Int.reduceAdd, Int.reduceMul, Int.reduceSub, Int.reduceToNat, inR, Nat.zero_ne_one, false_and, Nat.succ_ne_zero, reduceCtorEq, false_implies, true_implies, not_false_eq_true, not_true_eq_false, Int.reduceEq, KRE, C_Stock_pointerStep, l0]
        simpa using K' _
    · rw [if_neg h1]
      rw [if_neg (by omega), if_neg (fun z => h1 ⟨z.1.1, by omega, z.1.2.2⟩), if_neg (fun z => h1 ⟨z.1.1, by omega, z.1.2.2⟩)] at K'
      simp (maxSteps := 2000000) only [↓reduceIte, wp_eq, wpd_eq, kont_eq, STP1, STP2, STP3, STP4, STP5, konM_eq, AMK, CZ, Option.map, List.getElem?_cons_zero, List.getElem?_cons_succ, List.mem_cons, List.not_mem_nil, if_false, if_true, Nat.reduceAdd, Nat.reduceLT, Nat.reduceLeDiff, Nat.reduceEqDiff, true_and, and_true, List.length_nil, List.length_cons, or_true, true_or, or_false, false_or, Option.some.injEq, Sum.inl.injEq, Sum.inr.injEq, exists_eq_left', exists_eq_left, Int.reduceLE, Int.reduceLT, Int.reduceNeg, Int.reduceAdd, Int.reduceMul, Int.reduceSub, Int.reduceToNat, inR, Nat.zero_ne_one, false_and, Nat.succ_ne_zero, reduceCtorEq, false_implies, true_implies, not_false_eq_true, not_true_eq_false, Int.reduceEq, KRE, C_Stock_pointerStep, l0]
      simpa using K' _
def mWip (M : Mm) (s : Nat) (i : Int) : Mm := fun b j => if b = s + 5 ∧ (j : Int) < i then -1 else M b j
set_option maxHeartbeats 4000000 in
set_option maxRecDepth 20000 in
theorem Stock_wipe_ok {s : Nat} {M : Mm} (hs : isStk s) : CallV m_Stock_wipe [.inr s] M (fun M' => M' = mset (mset (mset (mset (mWip M s 8) s 3 0) s 4 70) s 5 6) s 6 5) := by
  obtain ⟨l0, l1, l2, l3, l4⟩ := id hs
  refine callP_of (by decide) (by decide) (Nat.le_of_ble_eq_true rfl) (wpm_of (cuts := [2]) (by decide) 50 _ _ _ _ ?_)
  rw [show lM m_Stock_wipe = 2 from rfl]
  simp (maxSteps := 2000000) only [↓reduceIte, wp_eq, wpd_eq, kont_eq, STP1, STP2, STP3, STP4, STP5, konM_eq, AMK, CZ, Option.map, List.getElem?_cons_zero, List.getElem?_cons_succ, List.mem_cons, List.not_mem_nil, if_false, if_true, Nat.reduceAdd, Nat.reduceLT, Nat.reduceLeDiff, Nat.reduceEqDiff, true_and, and_true, List.length_nil, List.length_cons, or_true, true_or, or_false, false_or, Option.some.injEq, Sum.inl.injEq, Sum.inr.injEq, exists_eq_left', exists_eq_left, Int.reduceLE, Int.reduceLT, Int.reduceNeg, Int.reduceAdd, Int.reduceMul, Int.reduceSub, Int.reduceToNat, inR, Nat.zero_ne_one, false_and, Nat.succ_ne_zero, reduceCtorEq, false_implies, true_implies, not_false_eq_true, not_true_eq_false, Int.reduceEq, KRE, C_Stock_wipe, l0, l2]
  refine loopQ 8 (fun k ls M1 => M1 = mWip M s k ∧ ls = [some (.inr s), some (.inl k)]) ?_ _ _ ⟨?_, rfl⟩
  · rintro k _ _ hk ⟨rfl, rfl⟩ K
    by_cases hz : (8 : Int) ≤ k
    · refine wpm_of (cuts := [2]) (by decide) 100 _ _ _ _ ?_
      simp (maxSteps := 2000000) only [↓reduceIte, wp_eq, wpd_eq, kont_eq, STP1, STP2, STP3, STP4, STP5, konM_eq, AMK, CZ, Option.map, List.getElem?_cons_zero, List.getElem?_cons_succ, List.mem_cons, List.not_mem_nil, if_false, if_true, Nat.reduceAdd, Nat.reduceLT, Nat.reduceLeDiff, Nat.reduceEqDiff, true_and, and_true, List.length_nil, List.length_cons, or_true, true_or, or_false, false_or, Option.some.injEq, Sum.inl.injEq, Sum.inr.injEq, exists_eq_left', exists_eq_left, Int.reduceLE, Int.reduceLT, Int.reduceNeg, Int.reduceAdd, Int.reduceMul, Int.reduceSub, Int.reduceToNat, inR, Nat.zero_ne_one, false_and, Nat.succ_ne_zero, reduceCtorEq, false_implies, true_implies, not_false_eq_true, not_true_eq_false, Int.reduceEq, KRE, C_Stock_wipe, l0, l2, hz]
      repeat (refine ⟨by omega, ?_⟩)
      try (first | (show _ ≤ _; omega) | (show _ < _; omega))
      rw [show (k : Int) = 8 by omega]
    · refine wpm_of (cuts := [2]) (by decide) 100 _ _ _ _ ?_
      simp (maxSteps := 2000000) only [↓reduceIte, wp_eq, wpd_eq, kont_eq, STP1, STP2, STP3, STP4, STP5, konM_eq, AMK, CZ, Option.map, List.getElem?_cons_zero, List.getElem?_cons_succ, List.mem_cons, List.not_mem_nil, if_false, if_true, Nat.reduceAdd, Nat.reduceLT, Nat.reduceLeDiff, Nat.reduceEqDiff, true_and, and_true, List.length_nil, List.length_cons, or_true, true_or, or_false, false_or, Option.some.injEq, Sum.inl.injEq, Sum.inr.injEq, exists_eq_left', exists_eq_left, Int.reduceLE, Int.reduceLT, Int.reduceNeg, Int.reduceAdd, Int.reduceMul, Int.reduceSub, Int.reduceToNat, inR, Nat.zero_ne_one, false_and, Nat.succ_ne_zero, reduceCtorEq, false_implies, true_implies, not_false_eq_true, not_true_eq_false, Int.reduceEq, KRE, C_Stock_wipe, l0, l2, hz]
      repeat (refine ⟨by omega, ?_⟩)
      try (first | (show _ ≤ _; omega) | (show _ < _; omega))
      refine WPm.eqM (K (by omega) _ _ ⟨rfl, rfl⟩) ?_
      funext b j
      simp only [mset, mWip, natT]
      by_cases hj : j = k
      · subst hj
        grind
      · grind
  · funext b j
    simp only [mWip]
    grind
set_option maxHeartbeats 4000000 in
set_option maxRecDepth 20000 in
theorem Stock_change_ok {s : Nat} {c v : Int} {M : Mm} (hs : isStk s) (hc : 0 ≤ c ∧ c ≤ 2) : CallV m_Stock_change [.inr s, .inl c, .inl v] M (fun M' => M' = mset M s (4 + c.toNat) v) := by
  obtain ⟨l0, l1, l2, l3, l4⟩ := id hs
  refine callP_of (by decide) (by decide) (Nat.le_of_ble_eq_true rfl) (wpm_of (cuts := []) (by decide) 50 _ _ _ _ ?_)
  rw [show lM m_Stock_change = 3 from rfl]
  simp (maxSteps := 2000000) only [↓reduceIte, wp_eq, wpd_eq, kont_eq, STP1, STP2, STP3, STP4, STP5, konM_eq, AMK, CZ, Option.map, List.getElem?_cons_zero, List.getElem?_cons_succ, List.mem_cons, List.not_mem_nil, if_false, if_true, Nat.reduceAdd, Nat.reduceLT, Nat.reduceLeDiff, Nat.reduceEqDiff, true_and, and_true, List.length_nil, List.length_cons, or_true, true_or, or_false, false_or, Option.some.injEq, Sum.inl.injEq, Sum.inr.injEq, exists_eq_left', exists_eq_left, Int.reduceLE, Int.reduceLT, Int.reduceNeg, Int.reduceAdd, Int.reduceMul, Int.reduceSub, Int.reduceToNat, inR, Nat.zero_ne_one, false_and, Nat.succ_ne_zero, reduceCtorEq, false_implies, true_implies, not_false_eq_true, not_true_eq_false, Int.reduceEq, KRE, C_Stock_change, l0, l2]
  rcases (show c = 0 ∨ c = 1 ∨ c = 2 by omega) with e | e | e <;> subst e <;> simp
set_option maxHeartbeats 4000000 in
set_option maxRecDepth 20000 in
theorem Stock_addTimber_ok {s : Nat} {a c : Int} {M : Mm} (hs : isStk s) (hw : wfS M s) (h8 : M s 3 < 8) : CallR m_Stock_addTimber [.inr s, .inl a, .inl c] M (fun x M' => x = s + 6 + 3 * (M s 3).toNat ∧ M' = mset (mset (mset (mset (mset M s 3 (M s 3 + 1)) (s + 6 + 3 * (M s 3).toNat) 2 0) (s + 6 + 3 * (M s 3).toNat) 3 a) (s + 6 + 3 * (M s 3).toNat) 4 c) (s + 6 + 3 * (M s 3).toNat) 5 0) := by
  obtain ⟨l0, l1, l2, l3, l4⟩ := id hs
  have w0 := hw.1
  have ht := l4 (M s 3).toNat (by omega)
  have h8' : ¬ 8 ≤ M s 3 := by omega
  have h0' : ¬ M s 3 < 0 := by omega
  have ha := tims_at (s := s) (i := (M s 3).toNat) (by omega)
  have hl := tims_len s
  have e1 : M s 3 + 1 - 1 = M s 3 := by omega
  have e2 : ∀ j, ¬ (s = s + 6 + 3 * (M s 3).toNat ∧ j) := fun j z => by omega
  refine callP_of (by decide) (by decide) (Nat.le_of_ble_eq_true rfl) (wpm_of (cuts := []) (by decide) 100 _ _ _ _ ?_)
  rw [show lM m_Stock_addTimber = 3 from rfl]
  simp (maxSteps := 2000000) only [↓reduceIte, wp_eq, wpd_eq, kont_eq, STP1, STP2, STP3, STP4, STP5, konM_eq, AMK, CZ, Option.map, List.getElem?_cons_zero, List.getElem?_cons_succ, List.mem_cons, List.not_mem_nil, if_false, if_true, Nat.reduceAdd, Nat.reduceLT, Nat.reduceLeDiff, Nat.reduceEqDiff, true_and, and_true, List.length_nil, List.length_cons, or_true, true_or, or_false, false_or, Option.some.injEq, Sum.inl.injEq, Sum.inr.injEq, exists_eq_left', exists_eq_left, Int.reduceLE, Int.reduceLT, Int.reduceNeg, Int.reduceAdd, Int.reduceMul, Int.reduceSub, Int.reduceToNat, inR, Nat.zero_ne_one, false_and, Nat.succ_ne_zero, reduceCtorEq, false_implies, true_implies, not_false_eq_true, not_true_eq_false, Int.reduceEq, KRE, C_Stock_addTimber, l0, l1, MSE, h8', h0', hl, ha, ht.1, h8, e1]
  repeat (refine ⟨by omega, ?_⟩)
  try (first | (show _ ≤ _; omega) | (show _ < _; omega))
  refine (Timber_begin_ok ht).eq ?_
  simp (maxSteps := 2000000) only [↓reduceIte, wp_eq, wpd_eq, kont_eq, STP1, STP2, STP3, STP4, STP5, konM_eq, AMK, CZ, Option.map, List.getElem?_cons_zero, List.getElem?_cons_succ, List.mem_cons, List.not_mem_nil, if_false, if_true, Nat.reduceAdd, Nat.reduceLT, Nat.reduceLeDiff, Nat.reduceEqDiff, true_and, and_true, List.length_nil, List.length_cons, or_true, true_or, or_false, false_or, Option.some.injEq, Sum.inl.injEq, Sum.inr.injEq, exists_eq_left', exists_eq_left, Int.reduceLE, Int.reduceLT, Int.reduceNeg, Int.reduceAdd, Int.reduceMul, Int.reduceSub, Int.reduceToNat, inR, Nat.zero_ne_one, false_and, Nat.succ_ne_zero, reduceCtorEq, false_implies, true_implies, not_false_eq_true, not_true_eq_false, Int.reduceEq, KRE, C_Stock_addTimber, l0, l1, MSE, hl, ha, e1, e2]
  repeat (refine ⟨by omega, ?_⟩)
  try (first | (show _ ≤ _; omega) | (show _ < _; omega))
/-- a Timber holds what another one held -/
def tmEq (M' : Mm) (o : Nat) (M : Mm) (f : Nat) : Prop := (∀ j, j < 24 → M' (o + 1) j = M (f + 1) j) ∧ (∀ j, j < 24 → M' (o + 2) j = M (f + 2) j) ∧ M' o 2 = M f 2 ∧ M' o 3 = M f 3 ∧ M' o 4 = M f 4 ∧ M' o 5 = M f 5
def stEq (M' : Mm) (s : Nat) (M : Mm) (f : Nat) : Prop := (∀ t, t < 8 → tmEq M' (s + 6 + 3 * t) M (f + 6 + 3 * t)) ∧ (∀ t, t < 8 → M' (s + 5) t = M (f + 5) t) ∧ M' s 3 = M f 3 ∧ M' s 4 = M f 4 ∧ M' s 5 = M f 5 ∧ M' s 6 = M f 6
theorem tmEq_wf {M' M : Mm} {o f : Nat} (h : tmEq M' o M f) (hw : wfT M f) : wfT M' o := by
  obtain ⟨e1, e2, e3, e4, e5, e6⟩ := h
  obtain ⟨w0, w1, w2, w3, w4, w5⟩ := hw
  exact ⟨by rw [e3]; exact w0, fun j hj => by rw [e1 j hj]; exact w1 j hj, fun j hj => by rw [e2 j hj]; exact w2 j hj, by rw [e4]; exact w3, by rw [e5]; exact w4, by rw [e6]; exact w5⟩
theorem tmEq_rw {M' M : Mm} {o f : Nat} (h : tmEq M' o M f) (hw : wfT M f) : tRw M' o = tRw M f := by
  obtain ⟨e1, e2, e3, -⟩ := h
  have w0 := hw.1
  unfold tRw
  rw [e3]
  refine Prod.ext (funext fun j => ?_) (Prod.ext rfl (funext fun j => ?_))
  · simp only
    split
    · exact e1 j (by omega)
    · rfl
  · simp only
    split
    · exact e2 j (by omega)
    · rfl
theorem tmEq_fr {M2 M1 M : Mm} {o f : Nat} (h : tmEq M1 o M f) (e : ∀ b, o ≤ b → b < o + 3 → ∀ j, M2 b j = M1 b j) : tmEq M2 o M f := by
  obtain ⟨e1, e2, e3, e4, e5, e6⟩ := h
  exact ⟨fun j hj => by rw [e (o + 1) (by omega) (by omega)]; exact e1 j hj, fun j hj => by rw [e (o + 2) (by omega) (by omega)]; exact e2 j hj, by rw [e o (by omega) (by omega)]; exact e3, by rw [e o (by omega) (by omega)]; exact e4, by rw [e o (by omega) (by omega)]; exact e5, by rw [e o (by omega) (by omega)]; exact e6⟩
theorem stEq_wf {M' M : Mm} {s f : Nat} (h : stEq M' s M f) (hw : wfS M f) (hn : wfT M' (s + 2)) : wfS M' s := by
  obtain ⟨e1, e2, e3, e4, e5, e6⟩ := h
  obtain ⟨w0, w1, w2, w3, w4, w5, w6⟩ := hw
  exact ⟨by rw [e3]; exact w0, by rw [e4]; exact w1, by rw [e5]; exact w2, by rw [e6]; exact w3, fun t ht => tmEq_wf (e1 t ht) (w4 t ht), hn, fun t ht => by rw [e2 t ht]; exact w6 t ht⟩
set_option maxHeartbeats 4000000 in
set_option maxRecDepth 20000 in
theorem Stock_copyFrom_ok {s f : Nat} {M : Mm} (hs : isStk s) (hf : isStk f) (hw : wfS M f) (sep : s + 30 ≤ f ∨ f + 30 ≤ s) : CallV m_Stock_copyFrom [.inr s, .inr f] M (fun M' => stEq M' s M f ∧ Fr s (s + 30) M M' ∧ ∀ b, s + 1 ≤ b → b < s + 5 → ∀ j, M' b j = M b j) := by
  obtain ⟨l0, l1, l2, l3, l4⟩ := id hs
  obtain ⟨g0, g1, g2, g3, g4⟩ := id hf
  have hl := tims_len
  refine callP_of (by decide) (by decide) (Nat.le_of_ble_eq_true rfl) (wpm_of (cuts := [2]) (by decide) 50 _ _ _ _ ?_)
  rw [show lM m_Stock_copyFrom = 3 from rfl]
  simp (maxSteps := 2000000) only [↓reduceIte, wp_eq, wpd_eq, kont_eq, STP1, STP2, STP3, STP4, STP5, konM_eq, AMK, CZ, Option.map, List.getElem?_cons_zero, List.getElem?_cons_succ, List.mem_cons, List.not_mem_nil, if_false, if_true, Nat.reduceAdd, Nat.reduceLT, Nat.reduceLeDiff, Nat.reduceEqDiff, true_and, and_true, List.length_nil, List.length_cons, or_true, true_or, or_false, false_or, Option.some.injEq, Sum.inl.injEq, Sum.inr.injEq, exists_eq_left', exists_eq_left, Int.reduceLE, Int.reduceLT, Int.reduceNeg, Int.reduceAdd, Int.reduceMul, Int.reduceSub, Int.reduceToNat, inR, Nat.zero_ne_one, false_and, Nat.succ_ne_zero, reduceCtorEq, false_implies, true_implies, not_false_eq_true, not_true_eq_false, Int.reduceEq, KRE, C_Stock_copyFrom, l0, g0]
  refine loopQ 8 (fun k ls M1 => ((∀ t, t < k → tmEq M1 (s + 6 + 3 * t) M (f + 6 + 3 * t)) ∧ (∀ t, t < k → M1 (s + 5) t = M (f + 5) t) ∧ Fr (s + 5) (s + 30) M M1) ∧ ls = [some (.inr s), some (.inr f), some (.inl k)]) ?_ _ _ ⟨⟨fun t ht => absurd ht (by omega), fun t ht => absurd ht (by omega), Fr.rf⟩, rfl⟩
  rintro k _ M1 hk ⟨⟨i1, i2, i3⟩, rfl⟩ K
  have ff : ∀ j, M1 f j = M f j := fun j => i3 f (by omega) j
  by_cases hz : (8 : Int) ≤ k
  · have n1 : ¬ (f = s) := by omega
    refine wpm_of (cuts := [2]) (by decide) 100 _ _ _ _ ?_
    simp (maxSteps := 2000000) only [↓reduceIte, wp_eq, wpd_eq, kont_eq, STP1, STP2, STP3, STP4, STP5, konM_eq, AMK, CZ, Option.map, List.getElem?_cons_zero, List.getElem?_cons_succ, List.mem_cons, List.not_mem_nil, if_false, if_true, Nat.reduceAdd, Nat.reduceLT, Nat.reduceLeDiff, Nat.reduceEqDiff, true_and, and_true, List.length_nil, List.length_cons, or_true, true_or, or_false, false_or, Option.some.injEq, Sum.inl.injEq, Sum.inr.injEq, exists_eq_left', exists_eq_left, Int.reduceLE, Int.reduceLT, Int.reduceNeg, Int.reduceAdd, Int.reduceMul, Int.reduceSub, Int.reduceToNat, inR, Nat.zero_ne_one, false_and, Nat.succ_ne_zero, reduceCtorEq, false_implies, true_implies, not_false_eq_true, not_true_eq_false, Int.reduceEq, KRE, C_Stock_copyFrom, l0, g0, hz, MSE, ff, n1]
    repeat (refine ⟨by omega, ?_⟩)
    try (first | (show _ ≤ _; omega) | (show _ < _; omega))
    refine ⟨⟨fun t ht => tmEq_fr (i1 t (by omega)) (fun b b1 b2 j => ?_), fun t ht => ?_, ?_, ?_, ?_, ?_⟩, ?_, fun b b1 b2 j => ?_⟩
    · rw [mset_ne _ (by omega), mset_ne _ (by omega), mset_ne _ (by omega), mset_ne _ (by omega)]
    · rw [mset_ne _ (by omega), mset_ne _ (by omega), mset_ne _ (by omega), mset_ne _ (by omega)]
      exact i2 t (by omega)
    · simp [mset]
    · simp [mset]
    · simp [mset]
    · simp [mset]
    · exact ((((i3.wd (by omega) (Nat.le_refl _)).st (by omega) (by omega)).st (by omega) (by omega)).st (by omega) (by omega)).st (by omega) (by omega)
    · rw [if_neg (by omega), if_neg (by omega), if_neg (by omega), if_neg (by omega)]
      exact i3 b (by omega) j
  · have a1 := tims_at (s := s) (i := k) (by omega)
    have a2 := tims_at (s := f) (i := k) (by omega)
    have t1 := l4 k (by omega)
    have t2 := g4 k (by omega)
    refine wpm_of (cuts := [2]) (by decide) 100 _ _ _ _ ?_
    simp (maxSteps := 2000000) only [↓reduceIte, wp_eq, wpd_eq, kont_eq, STP1, STP2, STP3, STP4, STP5, konM_eq, AMK, CZ, Option.map, List.getElem?_cons_zero, List.getElem?_cons_succ, List.mem_cons, List.not_mem_nil, if_false, if_true, Nat.reduceAdd, Nat.reduceLT, Nat.reduceLeDiff, Nat.reduceEqDiff, true_and, and_true, List.length_nil, List.length_cons, or_true, true_or, or_false, false_or, Option.some.injEq, Sum.inl.injEq, Sum.inr.injEq, exists_eq_left', exists_eq_left, Int.reduceLE, Int.reduceLT, Int.reduceNeg, Int.reduceAdd, Int.reduceMul, Int.reduceSub, Int.reduceToNat, inR, Nat.zero_ne_one, false_and, Nat.succ_ne_zero, reduceCtorEq, false_implies, true_implies, not_false_eq_true, not_true_eq_false, Int.reduceEq, KRE, C_Stock_copyFrom, l0, g0, l1, g1, l2, g2, hz, hl, natT, a1, a2, t1.1]
    repeat (refine ⟨by omega, ?_⟩)
    try (first | (show _ ≤ _; omega) | (show _ < _; omega))
    have wf := wfT_cells (M := M) (M1 := M1) (o := f + 6 + 3 * k) (fun b b1 b2 j => i3 b (by omega) j) (hw.2.2.2.2.1 k (by omega))
    have ef : ∀ b, f + 6 + 3 * k ≤ b → b < f + 9 + 3 * k → ∀ j, M1 b j = M b j := fun b b1 b2 j => i3 b (by omega) j
    refine (Timber_copyFrom_ok t1 t2 wf).eq ?_
    repeat (refine ⟨by omega, ?_⟩)
    try (first | (show _ ≤ _; omega) | (show _ < _; omega))
    generalize hM2 : mset (mset (mset (mset (mCp M1 (s + 6 + 3 * k) (f + 6 + 3 * k) 24) (s + 6 + 3 * k) 2 (M1 (f + 6 + 3 * k) 2)) (s + 6 + 3 * k) 3 (M1 (f + 6 + 3 * k) 3)) (s + 6 + 3 * k) 4 (M1 (f + 6 + 3 * k) 4)) (s + 6 + 3 * k) 5 (M1 (f + 6 + 3 * k) 5) = M2
    have o2 : ∀ b, (b < s + 6 + 3 * k ∨ s + 9 + 3 * k ≤ b) → ∀ j, M2 b j = M1 b j := by
      intro b hb j
      rw [← hM2, mset_ne _ (by omega), mset_ne _ (by omega), mset_ne _ (by omega), mset_ne _ (by omega)]
      simp only [mCp]
      rw [if_neg (by omega), if_neg (by omega)]
    refine K (by omega) _ _ ⟨⟨fun t ht => ?_, fun t ht => ?_, ?_⟩, rfl⟩
    · by_cases e : t = k
      · subst e
        refine tmEq_fr (M1 := M2) ?_ (fun b b1 b2 j => mset_ne _ (by omega) _)
        rw [← hM2]
        refine ⟨fun j hj => ?_, fun j hj => ?_, ?_, ?_, ?_, ?_⟩
        · rw [← ef (f + 6 + 3 * t + 1) (by omega) (by omega)]
          rw [mset_ne _ (by omega), mset_ne _ (by omega), mset_ne _ (by omega), mset_ne _ (by omega)]
          exact if_pos ⟨rfl, by omega⟩
        · rw [← ef (f + 6 + 3 * t + 2) (by omega) (by omega)]
          rw [mset_ne _ (by omega), mset_ne _ (by omega), mset_ne _ (by omega), mset_ne _ (by omega)]
          exact (if_neg (by omega)).trans (if_pos ⟨rfl, by omega⟩)
        · rw [← ef (f + 6 + 3 * t) (by omega) (by omega)]
          simp [mset]
        · rw [← ef (f + 6 + 3 * t) (by omega) (by omega)]
          simp [mset]
        · rw [← ef (f + 6 + 3 * t) (by omega) (by omega)]
          simp [mset]
        · rw [← ef (f + 6 + 3 * t) (by omega) (by omega)]
          simp [mset]
      · refine tmEq_fr (i1 t (by omega)) (fun b b1 b2 j => ?_)
        rw [mset_ne _ (by omega)]
        exact o2 b (by omega) j
    · by_cases e : t = k
      · subst e
        refine (if_pos ⟨rfl, rfl⟩).trans ?_
        rw [o2 (f + 5) (by omega)]
        exact i3 (f + 5) (by omega) _
      · have : mset M2 (s + 5) k (M2 (f + 5) k) (s + 5) t = M2 (s + 5) t := if_neg (fun z => e z.2)
        rw [this, o2 (s + 5) (by omega)]
        exact i2 t (by omega)
    · intro b hb j
      rw [mset_ne _ (by omega), o2 b (by omega)]
      exact i3 b hb j
