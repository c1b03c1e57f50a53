/-! BENCH, 2: the chronology laid out. -/
def stT (M : Mm) (s : Nat) : Nat → Rw := fun t => tRw M (s + 6 + 3 * t)
theorem wfS_cells {M M1 : Mm} {s : Nat} (e : ∀ b, s ≤ b → b < s + 30 → ∀ j, M1 b j = M b j) (h : wfS M s) : wfS M1 s := by
  obtain ⟨w0, w1, w2, w3, w4, w5, w6⟩ := h
  have e0 := e s (by omega) (by omega)
  have e5 := e (s + 5) (by omega) (by omega)
  exact ⟨by rw [e0]; exact w0, by rw [e0]; exact w1, by rw [e0]; exact w2, by rw [e0]; exact w3, fun t ht => wfT_cells (fun b h1 h2 j => e b (by omega) (by omega) j) (w4 t ht), wfT_cells (fun b h1 h2 j => e b (by omega) (by omega) j) w5, fun t ht => by rw [e5]; exact w6 t ht⟩
theorem stT_cells {M M1 : Mm} {s t : Nat} (e : ∀ b, s ≤ b → b < s + 30 → ∀ j, M1 b j = M b j) (ht : t < 8) : stT M1 s t = stT M s t :=
  tRw_cells (fun b h1 h2 j => e b (by omega) (by omega) j)
theorem tmA_cells {M M1 : Mm} {s : Nat} {t : Int} (e : M1 s 3 = M s 3) : tmA M1 s t = tmA M s t := by
  unfold tmA
  rw [e]
theorem okC_cells {M M1 : Mm} {s : Nat} {Y : Nat → Int} {n : Nat} (e : ∀ b, s ≤ b → b < s + 30 → ∀ j, M1 b j = M b j) (h : okC (stT M s) Y n) : okC (stT M1 s) Y n :=
  ⟨h.1, fun t ht => by rw [stT_cells e (by have := h.1; omega)]; exact h.2 t ht⟩
set_option maxHeartbeats 4000000 in
set_option maxRecDepth 20000 in
theorem Bench_span_ok {ya : Nat} {wo : Int} {M : Mm} (hy : lay ya = .inl (0, 8)) (hy2 : ya ≠ 33) (hw : wfS M 76) (hc : okC (stT M 76) (M ya) (M 76 3).toNat) (hwo : inR wo) :
    CallV m_Bench_span [.inr 33, .inr 76, .inr ya, .inl wo] M (fun M' => M' = mset (mset M 33 7 (cSpan (stT M 76) (M ya) wo (M 76 3).toNat).1) 33 8 (cSpan (stT M 76) (M ya) wo (M 76 3).toNat).2) := by
  obtain ⟨l0, l1, l2, l3, l4⟩ := isStk_76
  have w0 := hw.1
  simp only [inR] at hwo
  refine callP_of (by decide) (by decide) (Nat.le_of_ble_eq_true rfl) (wpm_of (cuts := [13]) (by decide) 50 _ _ _ _ ?_)
  rw [show lM m_Bench_span = 6 from rfl]
  simp (maxSteps := 2000000) only [↓reduceIte, wp_eq, wpd_eq, kont_eq, STP1, STP2, STP3, STP4, STP5, konM_eq, AMK, CZ, Option.map, List.getElem?_cons_zero, List.getElem?_cons_succ, List.mem_cons, List.not_mem_nil, if_false, if_true, Nat.reduceAdd, Nat.reduceLT, Nat.reduceLeDiff, Nat.reduceEqDiff, true_and, and_true, List.length_nil, List.length_cons, or_true, true_or, or_false, false_or, Option.some.injEq, Sum.inl.injEq, Sum.inr.injEq, exists_eq_left', exists_eq_left, Int.reduceLE, Int.reduceLT, Int.reduceNeg, Int.reduceAdd, Int.reduceMul, Int.reduceSub, Int.reduceToNat, inR, Nat.zero_ne_one, false_and, Nat.succ_ne_zero, reduceCtorEq, false_implies, true_implies, not_false_eq_true, not_true_eq_false, Int.reduceEq, KRE, C_Bench_span, FB, l0, hy]
  refine loopQ (M 76 3).toNat (fun k ls M1 => M1 = mset (mset M 33 7 (cSpan (stT M 76) (M ya) wo k).1) 33 8 (cSpan (stT M 76) (M ya) wo k).2 ∧ ∃ a5, ls = [some (.inr 33), some (.inr 76), some (.inr ya), some (.inl wo), some (.inl k), a5]) ?_ _ _ ⟨rfl, none, rfl⟩
  rintro k _ _ hk ⟨rfl, a5, rfl⟩ K
  have c1 := (cSpan_in (wo := wo) (n := k) ⟨by have := hc.1; omega, fun t ht => hc.2 t (by omega)⟩).1
  by_cases hz : M 76 3 ≤ (k : Int)
  · refine wpm_of (cuts := [13]) (by decide) 100 _ _ _ _ ?_
    simp (maxSteps := 2000000) only [↓reduceIte, wp_eq, wpd_eq, kont_eq, STP1, STP2, STP3, STP4, STP5, konM_eq, AMK, CZ, Option.map, List.getElem?_cons_zero, List.getElem?_cons_succ, List.mem_cons, List.not_mem_nil, if_false, if_true, Nat.reduceAdd, Nat.reduceLT, Nat.reduceLeDiff, Nat.reduceEqDiff, true_and, and_true, List.length_nil, List.length_cons, or_true, true_or, or_false, false_or, Option.some.injEq, Sum.inl.injEq, Sum.inr.injEq, exists_eq_left', exists_eq_left, Int.reduceLE, Int.reduceLT, Int.reduceNeg, Int.reduceAdd, Int.reduceMul, Int.reduceSub, Int.reduceToNat, inR, Nat.zero_ne_one, false_and, Nat.succ_ne_zero, reduceCtorEq, false_implies, true_implies, not_false_eq_true, not_true_eq_false, Int.reduceEq, KRE, C_Bench_span, FB, l0, hy, MSE, hz]
    repeat (refine ⟨by omega, ?_⟩)
    try (first | (show _ ≤ _; omega) | (show _ < _; omega))
    rw [show k = (M 76 3).toNat by omega]
  · have hz2 : ¬ (8 : Int) ≤ k := by omega
    have hk2 : k < (M 76 3).toNat := by omega
    have K' := fun a5 => K hk2 _ _ ⟨rfl, a5, rfl⟩
    rw [cSpan_succ] at K'
    have c2 := (hc.2 k hk2).2
    have c3 := (hc.2 k hk2).1.1
    generalize hX : cSpan (stT M 76) (M ya) wo k = X at *
    have hm : ∀ j, mset (mset M 33 7 X.1) 33 8 X.2 ya j = M ya j := fun j => by simp [mset, hy2]
    have nY := eq_false hy2
    by_cases e : (k : Int) = wo
    · rw [if_neg (by omega)] at K'
      have e' := eq_true e
      refine wpm_of (cuts := [13]) (by decide) 100 _ _ _ _ ?_
      simp (maxSteps := 2000000) only [↓reduceIte, wp_eq, wpd_eq, kont_eq, STP1, STP2, STP3, STP4, STP5, konM_eq, AMK, CZ, Option.map, List.getElem?_cons_zero, List.getElem?_cons_succ, List.mem_cons, List.not_mem_nil, if_false, if_true, Nat.reduceAdd, Nat.reduceLT, Nat.reduceLeDiff, Nat.reduceEqDiff, true_and, and_true, List.length_nil, List.length_cons, or_true, true_or, or_false, false_or, Option.some.injEq, Sum.inl.injEq, Sum.inr.injEq, exists_eq_left', exists_eq_left, Int.reduceLE, Int.reduceLT, Int.reduceNeg, Int.reduceAdd, Int.reduceMul, Int.reduceSub, Int.reduceToNat, inR, Nat.zero_ne_one, false_and, Nat.succ_ne_zero, reduceCtorEq, false_implies, true_implies, not_false_eq_true, not_true_eq_false, Int.reduceEq, KRE, C_Bench_span, FB, l0, hy, MSE, hz, hz2, e']
      repeat (refine ⟨by omega, ?_⟩)
      try (first | (show _ ≤ _; omega) | (show _ < _; omega))
      exact K' _
    · have e' := eq_false e
      by_cases e2 : M ya k = -1
      · rw [if_neg (by omega)] at K'
        refine wpm_of (cuts := [13]) (by decide) 100 _ _ _ _ ?_
        simp (maxSteps := 2000000) only [↓reduceIte, wp_eq, wpd_eq, kont_eq, STP1, STP2, STP3, STP4, STP5, konM_eq, AMK, CZ, Option.map, List.getElem?_cons_zero, List.getElem?_cons_succ, List.mem_cons, List.not_mem_nil, if_false, if_true, Nat.reduceAdd, Nat.reduceLT, Nat.reduceLeDiff, Nat.reduceEqDiff, true_and, and_true, List.length_nil, List.length_cons, or_true, true_or, or_false, false_or, Option.some.injEq, Sum.inl.injEq, Sum.inr.injEq, exists_eq_left', exists_eq_left, Int.reduceLE, Int.reduceLT, Int.reduceNeg, Int.reduceAdd, Int.reduceMul, Int.reduceSub, Int.reduceToNat, inR, Nat.zero_ne_one, false_and, Nat.succ_ne_zero, reduceCtorEq, false_implies, true_implies, not_false_eq_true, not_true_eq_false, Int.reduceEq, KRE, C_Bench_span, FB, l0, hy, MSE, hz, hz2, e', hm, natT, nY, e2]
        repeat (refine ⟨by omega, ?_⟩)
        try (first | (show _ ≤ _; omega) | (show _ < _; omega))
        exact K' _
      · rw [if_pos ⟨e, e2⟩] at K'
        simp only at K'
        refine wpm_of (cuts := [13]) (by decide) 100 _ _ _ _ ?_
        simp (maxSteps := 2000000) only [↓reduceIte, wp_eq, wpd_eq, kont_eq, STP1, STP2, STP3, STP4, STP5, konM_eq, AMK, CZ, Option.map, List.getElem?_cons_zero, List.getElem?_cons_succ, List.mem_cons, List.not_mem_nil, if_false, if_true, Nat.reduceAdd, Nat.reduceLT, Nat.reduceLeDiff, Nat.reduceEqDiff, true_and, and_true, List.length_nil, List.length_cons, or_true, true_or, or_false, false_or, Option.some.injEq, Sum.inl.injEq, Sum.inr.injEq, exists_eq_left', exists_eq_left, Int.reduceLE, Int.reduceLT, Int.reduceNeg, Int.reduceAdd, Int.reduceMul, Int.reduceSub, Int.reduceToNat, inR, Nat.zero_ne_one, false_and, Nat.succ_ne_zero, reduceCtorEq, false_implies, true_implies, not_false_eq_true, not_true_eq_false, Int.reduceEq, KRE, C_Bench_span, FB, l0, hy, MSE, hz, hz2, e', hm, natT, nY, e2]
        repeat (refine ⟨by omega, ?_⟩)
        try (first | (show _ ≤ _; omega) | (show _ < _; omega))
        have hw1 : wfS (mset (mset M 33 7 X.1) 33 8 X.2) 76 := wfS_cells (fun b h1 h2 j => by simp [mset]; omega) hw
        refine (Stock_timberAt_ok (t := (k : Int)) isStk_76 ⟨by omega, by omega⟩ hw1).eq ?_
        have e3 : mset (mset M 33 7 X.1) 33 8 X.2 76 3 = M 76 3 := by simp [mset]
        rw [tmA_cells e3, tmA_k (by omega)]
        have lT := (l4 k (by omega)).1
        have eR : M (76 + 6 + 3 * k) 2 = (stT M 76 k).2.1 := rfl
        have nT : ¬ (76 + 6 + 3 * k = 33) := by omega
        have e4 : ¬ (33 = ya) := fun z => hy2 z.symm
        simp (maxSteps := 2000000) only [↓reduceIte, wp_eq, wpd_eq, kont_eq, STP1, STP2, STP3, STP4, STP5, konM_eq, AMK, CZ, Option.map, List.getElem?_cons_zero, List.getElem?_cons_succ, List.mem_cons, List.not_mem_nil, if_false, if_true, Nat.reduceAdd, Nat.reduceLT, Nat.reduceLeDiff, Nat.reduceEqDiff, true_and, and_true, List.length_nil, List.length_cons, or_true, true_or, or_false, false_or, Option.some.injEq, Sum.inl.injEq, Sum.inr.injEq, exists_eq_left', exists_eq_left, Int.reduceLE, Int.reduceLT, Int.reduceNeg, Int.reduceAdd, Int.reduceMul, Int.reduceSub, Int.reduceToNat, inR, Nat.zero_ne_one, false_and, Nat.succ_ne_zero, reduceCtorEq, false_implies, true_implies, not_false_eq_true, not_true_eq_false, Int.reduceEq, KRE, C_Bench_span, lT, FB, MSE, hy, natT, nT, eR, nY, e2]
        generalize (stT M 76 k).2.1 = L at *
        by_cases f : X.1 = -1
        · rw [if_pos f] at K'
          have f' := eq_true f
          simp (maxSteps := 2000000) only [↓reduceIte, wp_eq, wpd_eq, kont_eq, STP1, STP2, STP3, STP4, STP5, konM_eq, AMK, CZ, Option.map, List.getElem?_cons_zero, List.getElem?_cons_succ, List.mem_cons, List.not_mem_nil, if_false, if_true, Nat.reduceAdd, Nat.reduceLT, Nat.reduceLeDiff, Nat.reduceEqDiff, true_and, and_true, List.length_nil, List.length_cons, or_true, true_or, or_false, false_or, Option.some.injEq, Sum.inl.injEq, Sum.inr.injEq, exists_eq_left', exists_eq_left, Int.reduceLE, Int.reduceLT, Int.reduceNeg, Int.reduceAdd, Int.reduceMul, Int.reduceSub, Int.reduceToNat, inR, Nat.zero_ne_one, false_and, Nat.succ_ne_zero, reduceCtorEq, false_implies, true_implies, not_false_eq_true, not_true_eq_false, Int.reduceEq, KRE, C_Bench_span, f', MSE, FB, nY, nT, natT]
          repeat (refine ⟨by omega, ?_⟩)
          try (first | (show _ ≤ _; omega) | (show _ < _; omega))
          refine WPm.eqM (K' _) ?_
          funext b j
          simp only [mset]
          grind
        · rw [if_neg f] at K'
          have f' := eq_false f
          simp (maxSteps := 2000000) only [↓reduceIte, wp_eq, wpd_eq, kont_eq, STP1, STP2, STP3, STP4, STP5, konM_eq, AMK, CZ, Option.map, List.getElem?_cons_zero, List.getElem?_cons_succ, List.mem_cons, List.not_mem_nil, if_false, if_true, Nat.reduceAdd, Nat.reduceLT, Nat.reduceLeDiff, Nat.reduceEqDiff, true_and, and_true, List.length_nil, List.length_cons, or_true, true_or, or_false, false_or, Option.some.injEq, Sum.inl.injEq, Sum.inr.injEq, exists_eq_left', exists_eq_left, Int.reduceLE, Int.reduceLT, Int.reduceNeg, Int.reduceAdd, Int.reduceMul, Int.reduceSub, Int.reduceToNat, inR, Nat.zero_ne_one, false_and, Nat.succ_ne_zero, reduceCtorEq, false_implies, true_implies, not_false_eq_true, not_true_eq_false, Int.reduceEq, KRE, C_Bench_span, f', MSE, FB, nY, nT, natT]
          repeat (refine ⟨by omega, ?_⟩)
          try (first | (show _ ≤ _; omega) | (show _ < _; omega))
          refine WPm.eqM (K' _) ?_
          funext b j
          simp only [mset]
          grind
def mAdd (M : Mm) (A : Rw) (f i : Int) : Mm := fun b j => if b = 55 ∧ f ≤ j ∧ (j : Int) < f + i then M 55 j + ixF A (j - f) else if b = 56 ∧ f ≤ j ∧ (j : Int) < f + i then M 56 j + 1 else M b j
set_option maxHeartbeats 4000000 in
set_option maxRecDepth 20000 in
theorem Bench_addIndices_ok {o : Nat} {f : Int} {M : Mm} (ho : isTim o) (hw : wfT M o) (hT : okT (tRw M o)) (hn : 56 < o) (h0 : 0 ≤ f) (h1 : f + M o 2 ≤ 924) : CallV m_Bench_addIndices [.inr 33, .inr o, .inl f] M (fun M' => M' = mAdd M (tRw M o) f (M o 2)) := by
  obtain ⟨l0, l1, l2⟩ := id ho
  have w0 := hw.1
  have s1 : sumI (fun r => M (o + 1) r) (M o 2) = sumW (tRw M o) := sumN_congr (fun j hj => by simp only [tRw]; rw [if_pos (by omega)])
  have s2 := sumW_in hT
  have s3 : 3 ≤ M o 2 ∧ M o 2 ≤ 24 := hT.1
  have s4 : (tRw M o).2.1 = M o 2 := rfl
  have cc : ∀ i b, o ≤ b → ∀ j, mAdd M (tRw M o) f i b j = M b j := fun i b hb j => by
    simp only [mAdd]
    rw [if_neg (by omega), if_neg (by omega)]
  refine callP_of (by decide) (by decide) (Nat.le_of_ble_eq_true rfl) (wpm_of (cuts := [18]) (by decide) 60 _ _ _ _ ?_)
  rw [show lM m_Bench_addIndices = 5 from rfl]
  simp (maxSteps := 2000000) only [↓reduceIte, wp_eq, wpd_eq, kont_eq, STP1, STP2, STP3, STP4, STP5, konM_eq, AMK, CZ, Option.map, List.getElem?_cons_zero, List.getElem?_cons_succ, List.mem_cons, List.not_mem_nil, if_false, if_true, Nat.reduceAdd, Nat.reduceLT, Nat.reduceLeDiff, Nat.reduceEqDiff, true_and, and_true, List.length_nil, List.length_cons, or_true, true_or, or_false, false_or, Option.some.injEq, Sum.inl.injEq, Sum.inr.injEq, exists_eq_left', exists_eq_left, Int.reduceLE, Int.reduceLT, Int.reduceNeg, Int.reduceAdd, Int.reduceMul, Int.reduceSub, Int.reduceToNat, inR, Nat.zero_ne_one, false_and, Nat.succ_ne_zero, reduceCtorEq, false_implies, true_implies, not_false_eq_true, not_true_eq_false, Int.reduceEq, KRE, C_Bench_addIndices, FB, l0]
  refine (Timber_allWidths_ok ho hw).eq ?_
  rw [s1]
  have g1 : ¬ sumW (tRw M o) < 1 := by omega
  simp (maxSteps := 2000000) only [↓reduceIte, wp_eq, wpd_eq, kont_eq, STP1, STP2, STP3, STP4, STP5, konM_eq, AMK, CZ, Option.map, List.getElem?_cons_zero, List.getElem?_cons_succ, List.mem_cons, List.not_mem_nil, if_false, if_true, Nat.reduceAdd, Nat.reduceLT, Nat.reduceLeDiff, Nat.reduceEqDiff, true_and, and_true, List.length_nil, List.length_cons, or_true, true_or, or_false, false_or, Option.some.injEq, Sum.inl.injEq, Sum.inr.injEq, exists_eq_left', exists_eq_left, Int.reduceLE, Int.reduceLT, Int.reduceNeg, Int.reduceAdd, Int.reduceMul, Int.reduceSub, Int.reduceToNat, inR, Nat.zero_ne_one, false_and, Nat.succ_ne_zero, reduceCtorEq, false_implies, true_implies, not_false_eq_true, not_true_eq_false, Int.reduceEq, KRE, C_Bench_addIndices, g1, h0]
  repeat (refine ⟨by omega, ?_⟩)
  try (first | (show _ ≤ _; omega) | (show _ < _; omega))
  refine loopQ (M o 2).toNat (fun k ls M1 => M1 = mAdd M (tRw M o) f k ∧ ls = [some (.inr 33), some (.inr o), some (.inl f), some (.inl (sumW (tRw M o))), some (.inl k)]) ?_ _ _ ⟨?_, rfl⟩
  · rintro k _ _ hk ⟨rfl, rfl⟩ K
    have e2 : mAdd M (tRw M o) f k o 2 = M o 2 := cc k o (by omega) 2
    by_cases hz : M o 2 ≤ (k : Int)
    · refine wpm_of (cuts := [18]) (by decide) 100 _ _ _ _ ?_
      simp (maxSteps := 2000000) only [↓reduceIte, wp_eq, wpd_eq, kont_eq, STP1, STP2, STP3, STP4, STP5, konM_eq, AMK, CZ, Option.map, List.getElem?_cons_zero, List.getElem?_cons_succ, List.mem_cons, List.not_mem_nil, if_false, if_true, Nat.reduceAdd, Nat.reduceLT, Nat.reduceLeDiff, Nat.reduceEqDiff, true_and, and_true, List.length_nil, List.length_cons, or_true, true_or, or_false, false_or, Option.some.injEq, Sum.inl.injEq, Sum.inr.injEq, exists_eq_left', exists_eq_left, Int.reduceLE, Int.reduceLT, Int.reduceNeg, Int.reduceAdd, Int.reduceMul, Int.reduceSub, Int.reduceToNat, inR, Nat.zero_ne_one, false_and, Nat.succ_ne_zero, reduceCtorEq, false_implies, true_implies, not_false_eq_true, not_true_eq_false, Int.reduceEq, KRE, C_Bench_addIndices, FB, l0, e2, hz]
      repeat (refine ⟨by omega, ?_⟩)
      try (first | (show _ ≤ _; omega) | (show _ < _; omega))
      rw [show (k : Int) = M o 2 by omega]
    · have hz2 : ¬ (924 ≤ f + (k : Int)) := by omega
      refine wpm_of (cuts := [18]) (by decide) 100 _ _ _ _ ?_
      simp (maxSteps := 2000000) only [↓reduceIte, wp_eq, wpd_eq, kont_eq, STP1, STP2, STP3, STP4, STP5, konM_eq, AMK, CZ, Option.map, List.getElem?_cons_zero, List.getElem?_cons_succ, List.mem_cons, List.not_mem_nil, if_false, if_true, Nat.reduceAdd, Nat.reduceLT, Nat.reduceLeDiff, Nat.reduceEqDiff, true_and, and_true, List.length_nil, List.length_cons, or_true, true_or, or_false, false_or, Option.some.injEq, Sum.inl.injEq, Sum.inr.injEq, exists_eq_left', exists_eq_left, Int.reduceLE, Int.reduceLT, Int.reduceNeg, Int.reduceAdd, Int.reduceMul, Int.reduceSub, Int.reduceToNat, inR, Nat.zero_ne_one, false_and, Nat.succ_ne_zero, reduceCtorEq, false_implies, true_implies, not_false_eq_true, not_true_eq_false, Int.reduceEq, KRE, C_Bench_addIndices, FB, l0, e2, hz, hz2]
      repeat (refine ⟨by omega, ?_⟩)
      try (first | (show _ ≤ _; omega) | (show _ < _; omega))
      refine (Timber_widthOf_ok (r := k) ho ⟨by omega, by omega⟩ (wfT_cells (fun b b1 b2 j => cc k b b1 j) hw)).eq ?_
      have e3 : vWid (mAdd M (tRw M o) f k) o k = sN (tRw M o) k := by
        unfold vWid sN
        rw [e2, if_pos (by omega), if_pos (by rw [s4]; omega)]
        rw [cc k (o + 1) (by omega)]
        exact (if_pos (by simp only [natT]; omega)).symm
      have n1 := okT_N (r := k) hT
      have p1 : 0 ≤ 1000 * sN (tRw M o) k * M o 2 := Int.mul_nonneg (by omega) (by omega)
      have p2 : 1000 * sN (tRw M o) k * M o 2 ≤ 99000 * M o 2 := Int.mul_le_mul_of_nonneg_right (by omega) (by omega)
      simp (maxSteps := 2000000) only [↓reduceIte, wp_eq, wpd_eq, kont_eq, STP1, STP2, STP3, STP4, STP5, konM_eq, AMK, CZ, Option.map, List.getElem?_cons_zero, List.getElem?_cons_succ, List.mem_cons, List.not_mem_nil, if_false, if_true, Nat.reduceAdd, Nat.reduceLT, Nat.reduceLeDiff, Nat.reduceEqDiff, true_and, and_true, List.length_nil, List.length_cons, or_true, true_or, or_false, false_or, Option.some.injEq, Sum.inl.injEq, Sum.inr.injEq, exists_eq_left', exists_eq_left, Int.reduceLE, Int.reduceLT, Int.reduceNeg, Int.reduceAdd, Int.reduceMul, Int.reduceSub, Int.reduceToNat, inR, Nat.zero_ne_one, false_and, Nat.succ_ne_zero, reduceCtorEq, false_implies, true_implies, not_false_eq_true, not_true_eq_false, Int.reduceEq, KRE, C_Bench_addIndices, e2, e3, MSE]
      repeat (refine ⟨by omega, ?_⟩)
      try (first | (show _ ≤ _; omega) | (show _ < _; omega))
      refine WPm.eqM (K (by omega) _ _ ⟨rfl, rfl⟩) ?_
      have ei : (1000 * sN (tRw M o) k * M o 2).tdiv (sumW (tRw M o)) = ixF (tRw M o) k := rfl
      rw [ei]
      generalize tRw M o = A at *
      funext b j
      simp only [mset, mAdd]
      by_cases hj : j = (f + k).toNat
      · subst hj
        have ej : (((f + k).toNat : Nat) : Int) - f = k := by omega
        rw [ej]
        grind
      · grind
  · funext b j
    simp only [mAdd]
    rw [if_neg (by omega), if_neg (by omega)]
def mChr (M : Mm) (a z n : Int) (g s d : Nat → Int) : Mm := fun b j => if b = 33 ∧ j = 7 then a else if b = 33 ∧ j = 8 then z else if b = 48 ∧ j = 7 then n else if b = 49 ∧ (j : Int) < n then g j else if b = 50 ∧ (j : Int) < n then 0 else if b = 55 ∧ (j : Int) < n then s j else if b = 56 ∧ (j : Int) < n then d j else M b j
theorem mChr_out {M : Mm} {a z n : Int} {g s d : Nat → Int} {b j : Nat} (h1 : b ≠ 33) (h2 : b < 48 ∨ 56 < b) : mChr M a z n g s d b j = M b j := by
  simp only [mChr]
  grind
theorem mChr_get (M : Mm) (a z n : Int) (g s d : Nat → Int) : mChr M a z n g s d 33 7 = a ∧ mChr M a z n g s d 33 8 = z ∧ mChr M a z n g s d 48 7 = n ∧ ∀ j : Nat, (j : Int) < n → mChr M a z n g s d 49 j = g j ∧ mChr M a z n g s d 55 j = s j ∧ mChr M a z n g s d 56 j = d j := by
  refine ⟨by simp [mChr], by simp [mChr], by simp [mChr], fun j hj => ?_⟩
  simp [mChr, hj]
theorem mChr_row {M : Mm} {a z n : Int} {g s d : Nat → Int} (h : rowOK M 48 924) (hn : 0 ≤ n ∧ n ≤ 924) (hg : ∀ j : Nat, (j : Int) < n → 0 ≤ g j ∧ g j ≤ 100000000) : rowOK (mChr M a z n g s d) 48 924 := by
  obtain ⟨⟨w0, w1, w2, w3, w4⟩, w5⟩ := h
  refine ⟨⟨?_, w1, ?_, fun j hj => ?_, fun j hj => ?_⟩, fun j hj => ?_⟩
  · simp [mChr]; exact w0
  · simp [mChr]; omega
  · have := w3 j hj
    simp only [mChr, Nat.reduceAdd]; grind
  · have := w4 j hj
    have := hg j
    simp only [mChr, Nat.reduceAdd]; grind
  · have := w5 j hj
    simp only [mChr, Nat.reduceAdd]; grind
theorem cSum_succ {T : Nat → Rw} {Y : Nat → Int} {wo y : Int} {n : Nat} : cSum T Y wo (n + 1) y = cSum T Y wo n y + (if (n : Int) ≠ wo ∧ Y n ≠ -1 ∧ Y n ≤ y ∧ y < Y n + (T n).2.1 then ixF (T n) (y - Y n) else 0) := rfl
theorem cDep_succ {T : Nat → Rw} {Y : Nat → Int} {wo y : Int} {n : Nat} : cDep T Y wo (n + 1) y = cDep T Y wo n y + (if (n : Int) ≠ wo ∧ Y n ≠ -1 ∧ Y n ≤ y ∧ y < Y n + (T n).2.1 then 1 else 0) := rfl
set_option maxHeartbeats 4000000 in
set_option maxRecDepth 20000 in
theorem Bench_layC_3 {ya : Nat} {wo a z n : Int} {g s d : Nat → Int} {M : Mm} {Qc : Option AV → Mm → Prop} {M0 : Mm} (hn : 0 ≤ n ∧ n ≤ 924) (hM : M = mChr M0 a z n (fun _ => 0) s d) (hr : rowOK M0 48 924)
    (hd : ∀ j : Nat, (j : Int) < n → 0 ≤ d j ∧ d j ≤ 8) (hs : ∀ j : Nat, (j : Int) < n → d j ≤ s j ∧ s j ≤ 99000 * d j)
    (hg : ∀ j : Nat, (j : Int) < n → g j = if d j < 1 then 0 else (s j).tdiv (d j))
    (hq : ∀ M', M' = mChr M0 a z n g s d → Qc none (mFin M' 48 n)) :
    WPm m_Bench_layChronology Qc 143 [some (.inr 33), some (.inr 76), some (.inr ya), some (.inl wo), some (.inl 0)] [] M := by
  have hr1 := isRow_48.1
  refine loopQ n.toNat (fun k ls M1 => M1 = mChr M0 a z n (fun j => if (j : Int) < k then g j else 0) s d ∧ ls = [some (.inr 33), some (.inr 76), some (.inr ya), some (.inl wo), some (.inl k)]) ?_ _ _ ⟨?_, rfl⟩
  · rintro k _ _ hk ⟨rfl, rfl⟩ K
    obtain ⟨q1, q2, q3, q4⟩ := mChr_get M0 a z n (fun j => if (j : Int) < k then g j else 0) s d
    have gin : ∀ j : Nat, (j : Int) < n → 0 ≤ g j ∧ g j ≤ 99000 := by
      intro j hj
      have h1 := hd j hj
      have h2 := hs j hj
      rw [hg j hj]
      split
      · omega
      · rw [Int.tdiv_eq_ediv_of_nonneg (by omega)]
        have a1 : 1 ≤ s j / d j := Int.le_ediv_of_mul_le (by omega) (by omega)
        have a2 : s j / d j < 99001 := Int.ediv_lt_of_lt_mul (by omega) (by omega)
        omega
    have rK : rowOK (mChr M0 a z n (fun j => if (j : Int) < k then g j else 0) s d) 48 924 := mChr_row hr hn (fun j hj => by
      have := gin j hj
      split <;> omega)
    by_cases hz : n ≤ (k : Int)
    · refine wpm_of (cuts := [143]) (by decide) 100 _ _ _ _ ?_
      simp (maxSteps := 2000000) only [↓reduceIte, wp_eq, wpd_eq, kont_eq, STP1, STP2, STP3, STP4, STP5, konM_eq, AMK, CZ, Option.map, List.getElem?_cons_zero, List.getElem?_cons_succ, List.mem_cons, List.not_mem_nil, if_false, if_true, Nat.reduceAdd, Nat.reduceLT, Nat.reduceLeDiff, Nat.reduceEqDiff, true_and, and_true, List.length_nil, List.length_cons, or_true, true_or, or_false, false_or, Option.some.injEq, Sum.inl.injEq, Sum.inr.injEq, exists_eq_left', exists_eq_left, Int.reduceLE, Int.reduceLT, Int.reduceNeg, Int.reduceAdd, Int.reduceMul, Int.reduceSub, Int.reduceToNat, inR, Nat.zero_ne_one, false_and, Nat.succ_ne_zero, reduceCtorEq, false_implies, true_implies, not_false_eq_true, not_true_eq_false, Int.reduceEq, KRE, C_Bench_layChronology, FB, hr1, q3, hz]
      repeat (refine ⟨by omega, ?_⟩)
      try (first | (show _ ≤ _; omega) | (show _ < _; omega))
      refine (Row_finish_ok isRow_48 rK.1).mono (fun M' e => ?_)
      rw [e, q3]
      refine hq _ ?_
      funext b j
      simp only [mChr]
      grind
    · have hz2 : ¬ (924 : Int) ≤ k := by omega
      obtain ⟨q5, q6, q7⟩ := q4 k (by omega)
      have d1 := hd k (by omega)
      have s1 := hs k (by omega)
      have g1 := hg k (by omega)
      by_cases e : d k ≤ 0
      · rw [if_pos (by omega)] at g1
        refine wpm_of (cuts := [143]) (by decide) 100 _ _ _ _ ?_
        simp (maxSteps := 2000000) only [↓reduceIte, wp_eq, wpd_eq, kont_eq, STP1, STP2, STP3, STP4, STP5, konM_eq, AMK, CZ, Option.map, List.getElem?_cons_zero, List.getElem?_cons_succ, List.mem_cons, List.not_mem_nil, if_false, if_true, Nat.reduceAdd, Nat.reduceLT, Nat.reduceLeDiff, Nat.reduceEqDiff, true_and, and_true, List.length_nil, List.length_cons, or_true, true_or, or_false, false_or, Option.some.injEq, Sum.inl.injEq, Sum.inr.injEq, exists_eq_left', exists_eq_left, Int.reduceLE, Int.reduceLT, Int.reduceNeg, Int.reduceAdd, Int.reduceMul, Int.reduceSub, Int.reduceToNat, inR, Nat.zero_ne_one, false_and, Nat.succ_ne_zero, reduceCtorEq, false_implies, true_implies, not_false_eq_true, not_true_eq_false, Int.reduceEq, KRE, C_Bench_layChronology, FB, hr1, q3, hz, hz2, natT, q7, e]
        repeat (refine ⟨by omega, ?_⟩)
        try (first | (show _ ≤ _; omega) | (show _ < _; omega))
        refine WPm.eqM (K (by omega) _ _ ⟨rfl, rfl⟩) ?_
        congr 1
        funext j
        by_cases hj : j = k
        · subst hj
          grind
        · grind
      · rw [if_neg (by omega)] at g1
        refine wpm_of (cuts := [143]) (by decide) 100 _ _ _ _ ?_
        simp (maxSteps := 2000000) only [↓reduceIte, wp_eq, wpd_eq, kont_eq, STP1, STP2, STP3, STP4, STP5, konM_eq, AMK, CZ, Option.map, List.getElem?_cons_zero, List.getElem?_cons_succ, List.mem_cons, List.not_mem_nil, if_false, if_true, Nat.reduceAdd, Nat.reduceLT, Nat.reduceLeDiff, Nat.reduceEqDiff, true_and, and_true, List.length_nil, List.length_cons, or_true, true_or, or_false, false_or, Option.some.injEq, Sum.inl.injEq, Sum.inr.injEq, exists_eq_left', exists_eq_left, Int.reduceLE, Int.reduceLT, Int.reduceNeg, Int.reduceAdd, Int.reduceMul, Int.reduceSub, Int.reduceToNat, inR, Nat.zero_ne_one, false_and, Nat.succ_ne_zero, reduceCtorEq, false_implies, true_implies, not_false_eq_true, not_true_eq_false, Int.reduceEq, KRE, C_Bench_layChronology, FB, hr1, q3, hz, hz2, natT, q7, q6, e]
        repeat (refine ⟨by omega, ?_⟩)
        try (first | (show _ ≤ _; omega) | (show _ < _; omega))
        refine (Row_put_ok (c := 924) (k := k) isRow_48 (by omega) (by rw [q3]; omega) (by rw [q3]; omega) ⟨by omega, by omega⟩ (Or.inl rfl)).eq ?_
        rw [q3, if_pos (by omega)]
        refine WPm.eqM (K (by omega) _ _ ⟨rfl, rfl⟩) ?_
        rw [← g1]
        funext b j
        simp only [mset, mChr, natT]
        by_cases hj : j = k
        · subst hj
          grind
        · grind
  · subst hM
    funext b j
    simp only [mChr]
    grind
set_option maxHeartbeats 4000000 in
set_option maxRecDepth 20000 in
theorem Bench_layC_2 {ya : Nat} {wo a z n : Int} {M : Mm} {Qc : Option AV → Mm → Prop} {M0 : Mm} {T : Nat → Rw} {Y : Nat → Int} (hy : lay ya = .inl (0, 8)) (hy2 : 57 ≤ ya) (hw : wfS M0 76) (hT : T = stT M0 76) (hY : Y = M0 ya) (hc : okC T Y (M0 76 3).toNat) (hwo : inR wo)
    (ha : a = (cSpan T Y wo (M0 76 3).toNat).1) (hn : n = cLen T Y wo (M0 76 3).toNat) (hM : M = mChr M0 a z n (fun _ => 0) (fun _ => 0) (fun _ => 0))
    (hq : ∀ M', M' = mChr M0 a z n (fun _ => 0) (fun j => cSum T Y wo (M0 76 3).toNat (a + j)) (fun j => cDep T Y wo (M0 76 3).toNat (a + j)) → WPm m_Bench_layChronology Qc 143 [some (.inr 33), some (.inr 76), some (.inr ya), some (.inl wo), some (.inl 0)] [] M') :
    WPm m_Bench_layChronology Qc 85 [some (.inr 33), some (.inr 76), some (.inr ya), some (.inl wo), some (.inl 0)] [] M := by
  obtain ⟨l0, l1, l2, l3, l4⟩ := isStk_76
  have w0 := hw.1
  have hnn := cLen_in (wo := wo) hc
  obtain ⟨sp1, sp2⟩ := cSpan_in (wo := wo) hc
  simp only [inR] at hwo
  refine loopQ (M0 76 3).toNat (fun k ls M1 => M1 = mChr M0 a z n (fun _ => 0) (fun j => cSum T Y wo k (a + j)) (fun j => cDep T Y wo k (a + j)) ∧ ls = [some (.inr 33), some (.inr 76), some (.inr ya), some (.inl wo), some (.inl k)]) ?_ _ _ ⟨hM, rfl⟩
  rintro k _ _ hk ⟨rfl, rfl⟩ K
  have out := fun b j h1 h2 => mChr_out (M := M0) (a := a) (z := z) (n := n) (g := fun _ => 0) (s := fun j => cSum T Y wo k (a + j)) (d := fun j => cDep T Y wo k (a + j)) (b := b) (j := j) h1 h2
  obtain ⟨q1, q2, q3, q4⟩ := mChr_get M0 a z n (fun _ => 0) (fun j => cSum T Y wo k (a + j)) (fun j => cDep T Y wo k (a + j))
  have e3 := out 76 3 (by omega) (by omega)
  have ey : ∀ j, mChr M0 a z n (fun _ => 0) (fun j => cSum T Y wo k (a + j)) (fun j => cDep T Y wo k (a + j)) ya j = Y j := fun j => (out ya j (by omega) (by omega)).trans (by rw [hY])
  by_cases hz : M0 76 3 ≤ (k : Int)
  · refine wpm_of (cuts := [85, 143]) (by decide) 100 _ _ _ _ ?_
    simp (maxSteps := 2000000) only [↓reduceIte, wp_eq, wpd_eq, kont_eq, STP1, STP2, STP3, STP4, STP5, konM_eq, AMK, CZ, Option.map, List.getElem?_cons_zero, List.getElem?_cons_succ, List.mem_cons, List.not_mem_nil, if_false, if_true, Nat.reduceAdd, Nat.reduceLT, Nat.reduceLeDiff, Nat.reduceEqDiff, true_and, and_true, List.length_nil, List.length_cons, or_true, true_or, or_false, false_or, Option.some.injEq, Sum.inl.injEq, Sum.inr.injEq, exists_eq_left', exists_eq_left, Int.reduceLE, Int.reduceLT, Int.reduceNeg, Int.reduceAdd, Int.reduceMul, Int.reduceSub, Int.reduceToNat, inR, Nat.zero_ne_one, false_and, Nat.succ_ne_zero, reduceCtorEq, false_implies, true_implies, not_false_eq_true, not_true_eq_false, Int.reduceEq, KRE, C_Bench_layChronology, FB, l0, hy, e3, hz]
    repeat (refine ⟨by omega, ?_⟩)
    try (first | (show _ ≤ _; omega) | (show _ < _; omega))
    have ek : k = (M0 76 3).toNat := by omega
    subst ek
    exact hq _ rfl
  · have hz2 : ¬ (8 : Int) ≤ k := by omega
    have hk2 : k < (M0 76 3).toNat := by omega
    have K' := K hk2 _ _ ⟨rfl, rfl⟩
    have c2 := (hc.2 k hk2).2
    have c3 := (hc.2 k hk2).1
    have skip : (k : Int) = wo ∨ Y k = -1 → mChr M0 a z n (fun _ => 0) (fun j => cSum T Y wo (k + 1) (a + j)) (fun j => cDep T Y wo (k + 1) (a + j)) = mChr M0 a z n (fun _ => 0) (fun j => cSum T Y wo k (a + j)) (fun j => cDep T Y wo k (a + j)) := by
      intro h
      congr 1
      · funext j
        rw [cSum_succ, if_neg (by omega)]
        omega
      · funext j
        rw [cDep_succ, if_neg (by omega)]
        omega
    by_cases e : (k : Int) = wo
    · rw [skip (Or.inl e)] at K'
      have e' := eq_true e
      refine wpm_of (cuts := [85, 143]) (by decide) 100 _ _ _ _ ?_
      simp (maxSteps := 2000000) only [↓reduceIte, wp_eq, wpd_eq, kont_eq, STP1, STP2, STP3, STP4, STP5, konM_eq, AMK, CZ, Option.map, List.getElem?_cons_zero, List.getElem?_cons_succ, List.mem_cons, List.not_mem_nil, if_false, if_true, Nat.reduceAdd, Nat.reduceLT, Nat.reduceLeDiff, Nat.reduceEqDiff, true_and, and_true, List.length_nil, List.length_cons, or_true, true_or, or_false, false_or, Option.some.injEq, Sum.inl.injEq, Sum.inr.injEq, exists_eq_left', exists_eq_left, Int.reduceLE, Int.reduceLT, Int.reduceNeg, Int.reduceAdd, Int.reduceMul, Int.reduceSub, Int.reduceToNat, inR, Nat.zero_ne_one, false_and, Nat.succ_ne_zero, reduceCtorEq, false_implies, true_implies, not_false_eq_true, not_true_eq_false, Int.reduceEq, KRE, C_Bench_layChronology, FB, l0, hy, e3, hz, hz2, e']
      repeat (refine ⟨by omega, ?_⟩)
      try (first | (show _ ≤ _; omega) | (show _ < _; omega))
      exact K'
    · have e' := eq_false e
      by_cases e2 : Y k = -1
      · rw [skip (Or.inr e2)] at K'
        refine wpm_of (cuts := [85, 143]) (by decide) 100 _ _ _ _ ?_
        simp (maxSteps := 2000000) only [↓reduceIte, wp_eq, wpd_eq, kont_eq, STP1, STP2, STP3, STP4, STP5, konM_eq, AMK, CZ, Option.map, List.getElem?_cons_zero, List.getElem?_cons_succ, List.mem_cons, List.not_mem_nil, if_false, if_true, Nat.reduceAdd, Nat.reduceLT, Nat.reduceLeDiff, Nat.reduceEqDiff, true_and, and_true, List.length_nil, List.length_cons, or_true, true_or, or_false, false_or, Option.some.injEq, Sum.inl.injEq, Sum.inr.injEq, exists_eq_left', exists_eq_left, Int.reduceLE, Int.reduceLT, Int.reduceNeg, Int.reduceAdd, Int.reduceMul, Int.reduceSub, Int.reduceToNat, inR, Nat.zero_ne_one, false_and, Nat.succ_ne_zero, reduceCtorEq, false_implies, true_implies, not_false_eq_true, not_true_eq_false, Int.reduceEq, KRE, C_Bench_layChronology, FB, l0, hy, e3, hz, hz2, e', ey, natT, e2]
        repeat (refine ⟨by omega, ?_⟩)
        try (first | (show _ ≤ _; omega) | (show _ < _; omega))
        exact K'
      · refine wpm_of (cuts := [85, 143]) (by decide) 100 _ _ _ _ ?_
        simp (maxSteps := 2000000) only [↓reduceIte, wp_eq, wpd_eq, kont_eq, STP1, STP2, STP3, STP4, STP5, konM_eq, AMK, CZ, Option.map, List.getElem?_cons_zero, List.getElem?_cons_succ, List.mem_cons, List.not_mem_nil, if_false, if_true, Nat.reduceAdd, Nat.reduceLT, Nat.reduceLeDiff, Nat.reduceEqDiff, true_and, and_true, List.length_nil, List.length_cons, or_true, true_or, or_false, false_or, Option.some.injEq, Sum.inl.injEq, Sum.inr.injEq, exists_eq_left', exists_eq_left, Int.reduceLE, Int.reduceLT, Int.reduceNeg, Int.reduceAdd, Int.reduceMul, Int.reduceSub, Int.reduceToNat, inR, Nat.zero_ne_one, false_and, Nat.succ_ne_zero, reduceCtorEq, false_implies, true_implies, not_false_eq_true, not_true_eq_false, Int.reduceEq, KRE, C_Bench_layChronology, FB, l0, hy, e3, hz, hz2, e', ey, natT, e2]
        repeat (refine ⟨by omega, ?_⟩)
        try (first | (show _ ≤ _; omega) | (show _ < _; omega))
        have hw1 := wfS_cells (M := M0) (M1 := mChr M0 a z n (fun _ => 0) (fun j => cSum T Y wo k (a + j)) (fun j => cDep T Y wo k (a + j))) (s := 76) (fun b h1 h2 j => out b j (by omega) (by omega)) hw
        refine (Stock_timberAt_ok (t := (k : Int)) isStk_76 ⟨by omega, by omega⟩ hw1).eq ?_
        rw [tmA_cells e3, tmA_k (by omega)]
        obtain ⟨sp3, sp4, sp5⟩ := sp2 k hk2 e e2
        have hn2 : n = (cSpan T Y wo (M0 76 3).toNat).2 - a + 1 := by rw [hn, cLen, if_neg sp3, ha]
        have eT : T k = tRw (mChr M0 a z n (fun _ => 0) (fun j => cSum T Y wo k (a + j)) (fun j => cDep T Y wo k (a + j))) (76 + 6 + 3 * k) := (congrFun hT k).trans (tRw_cells (M := M0) (o := 76 + 6 + 3 * k) (fun b h1 h2 j => out b j (by omega) (by omega))).symm
        have eR : mChr M0 a z n (fun _ => 0) (fun j => cSum T Y wo k (a + j)) (fun j => cDep T Y wo k (a + j)) (76 + 6 + 3 * k) 2 = (T k).2.1 := by rw [eT]; rfl
        simp (maxSteps := 2000000) only [↓reduceIte, wp_eq, wpd_eq, kont_eq, STP1, STP2, STP3, STP4, STP5, konM_eq, AMK, CZ, Option.map, List.getElem?_cons_zero, List.getElem?_cons_succ, List.mem_cons, List.not_mem_nil, if_false, if_true, Nat.reduceAdd, Nat.reduceLT, Nat.reduceLeDiff, Nat.reduceEqDiff, true_and, and_true, List.length_nil, List.length_cons, or_true, true_or, or_false, false_or, Option.some.injEq, Sum.inl.injEq, Sum.inr.injEq, exists_eq_left', exists_eq_left, Int.reduceLE, Int.reduceLT, Int.reduceNeg, Int.reduceAdd, Int.reduceMul, Int.reduceSub, Int.reduceToNat, inR, Nat.zero_ne_one, false_and, Nat.succ_ne_zero, reduceCtorEq, false_implies, true_implies, not_false_eq_true, not_true_eq_false, Int.reduceEq, KRE, C_Bench_layChronology, FB, q1, ey, natT, hy]
        repeat (refine ⟨by omega, ?_⟩)
        try (first | (show _ ≤ _; omega) | (show _ < _; omega))
        refine (Bench_addIndices_ok (f := Y k - a) (l4 k (by omega)) (hw1.2.2.2.2.1 k (by omega)) (by rw [← eT]; exact c3) (by omega) (by omega) (by rw [eR]; omega)).eq ?_
        refine WPm.eqM K' ?_
        rw [← eT, eR]
        have y3 := c3.1
        funext b j
        simp only [mAdd, mChr, cSum_succ, cDep_succ]
        have ix : (j : Int) - (Y k - a) = a + j - Y k := by omega
        rw [ix]
        generalize ixF (T k) (a + j - Y k) = I
        generalize cSum T Y wo k (a + j) = S1
        generalize cDep T Y wo k (a + j) = D1
        generalize (T k).2.1 = L at *
        by_cases hr : Y k ≤ a + j ∧ a + j < Y k + L
        · have r1 : Y k - a ≤ j := by omega
          have r2 : (j : Int) < Y k - a + L := by omega
          have r3 : (j : Int) < n := by omega
          simp only [r1, r2, r3, and_true, hr, e, e2, ne_eq, not_false_eq_true, and_self, if_true]
          grind
        · have r1 : ¬ (Y k - a ≤ j ∧ (j : Int) < Y k - a + L) := by omega
          have r2 : ¬ ((k : Int) ≠ wo ∧ Y k ≠ -1 ∧ Y k ≤ a + j ∧ a + j < Y k + L) := fun q => hr q.2.2
          rw [if_neg r2, if_neg r2]
          simp only [r1, and_false, if_false]
          grind
theorem mChr_z {M : Mm} {a z x : Int} {k : Nat} (hk : (k : Int) < x) : mset (mset (mChr M a z x (fun _ => 0) (fun j => if (j : Int) < k then 0 else M 55 j) (fun j => if (j : Int) < k then 0 else M 56 j)) 55 (k : Int).toNat 0) 56 (k : Int).toNat 0 = mChr M a z x (fun _ => 0) (fun j => if (j : Int) < (k + 1 : Nat) then 0 else M 55 j) (fun j => if (j : Int) < (k + 1 : Nat) then 0 else M 56 j) := by
  funext b j
  simp only [mset, mChr, natT]
  by_cases h5 : b = 55
  · subst h5
    by_cases hj : j = k
    · subst hj
      simp [hk]
      omega
    · have e : ((j : Int) < (k : Int)) = ((j : Int) < ((k + 1 : Nat) : Int)) := propext ⟨fun z => by omega, fun z => by omega⟩
      simp [hj, e]
  · by_cases h6 : b = 56
    · subst h6
      by_cases hj : j = k
      · subst hj
        simp [hk]
        omega
      · have e : ((j : Int) < (k : Int)) = ((j : Int) < ((k + 1 : Nat) : Int)) := propext ⟨fun z => by omega, fun z => by omega⟩
        simp [hj, e]
    · simp [h5, h6]
set_option maxHeartbeats 4000000 in
set_option maxRecDepth 20000 in
theorem Bench_layChronology_ok {ya : Nat} {wo : Int} {M : Mm} (hy : lay ya = .inl (0, 8)) (hy2 : 57 ≤ ya) (hw : wfS M 76) (hc : okC (stT M 76) (M ya) (M 76 3).toNat) (hb : benOK M) (hwo : inR wo) :
    CallV m_Bench_layChronology [.inr 33, .inr 76, .inr ya, .inl wo] M (fun M' => finR M' 48 924 (chr (stT M 76) (M ya) wo (M 76 3).toNat) ∧ rowOK M' 48 924 ∧ M' 33 7 = (cSpan (stT M 76) (M ya) wo (M 76 3).toNat).1 ∧ M' 33 8 = (cSpan (stT M 76) (M ya) wo (M 76 3).toNat).2 ∧ FrP (fun b _ => b = 33 ∨ 48 ≤ b ∧ b < 57) M M') := by
  obtain ⟨l0, l1, l2, l3, l4⟩ := isStk_76
  have hr1 := isRow_48.1
  have w0 := hw.1
  have hnn := cLen_in (wo := wo) hc
  obtain ⟨sp1, sp2⟩ := cSpan_in (wo := wo) hc
  have hc48 := hb.2.2.1.1
  refine callP_of (by decide) (by decide) (Nat.le_of_ble_eq_true rfl) (wpm_of (cuts := [40]) (by decide) 100 _ _ _ _ ?_)
  rw [show lM m_Bench_layChronology = 5 from rfl]
  simp (maxSteps := 2000000) only [↓reduceIte, wp_eq, wpd_eq, kont_eq, STP1, STP2, STP3, STP4, STP5, konM_eq, AMK, CZ, Option.map, List.getElem?_cons_zero, List.getElem?_cons_succ, List.mem_cons, List.not_mem_nil, if_false, if_true, Nat.reduceAdd, Nat.reduceLT, Nat.reduceLeDiff, Nat.reduceEqDiff, true_and, and_true, List.length_nil, List.length_cons, or_true, true_or, or_false, false_or, Option.some.injEq, Sum.inl.injEq, Sum.inr.injEq, exists_eq_left', exists_eq_left, Int.reduceLE, Int.reduceLT, Int.reduceNeg, Int.reduceAdd, Int.reduceMul, Int.reduceSub, Int.reduceToNat, inR, Nat.zero_ne_one, false_and, Nat.succ_ne_zero, reduceCtorEq, false_implies, true_implies, not_false_eq_true, not_true_eq_false, Int.reduceEq, KRE, C_Bench_layChronology, FB, l0, hy]
  refine (Bench_span_ok hy (by omega) hw hc hwo).eq ?_
  generalize hT : stT M 76 = T at *
  generalize hY : M ya = Y at *
  generalize ha : (cSpan T Y wo (M 76 3).toNat).1 = a at *
  generalize hz : (cSpan T Y wo (M 76 3).toNat).2 = z at *
  generalize hn : cLen T Y wo (M 76 3).toNat = n at *
  have eL : n = if a = -1 then 0 else z - a + 1 := by rw [← hn, cLen, ha, hz]
  have goal1 : ∀ x, x = n → CallV m_Row_begin [.inr 48, .inl x] (mset (mset M 33 7 a) 33 8 z) (fun M' => WPm m_Bench_layChronology (fun v M' => v = none ∧ finR M' 48 924 (chr T Y wo (M 76 3).toNat) ∧ rowOK M' 48 924 ∧ M' 33 7 = a ∧ M' 33 8 = z ∧ FrP (fun b _ => b = 33 ∨ 48 ≤ b ∧ b < 57) M M') 40 [some (.inr 33), some (.inr 76), some (.inr ya), some (.inl wo), some (.inl 0)] [] M') := by
    intro x hx
    subst hx
    refine (Row_begin_ok (c := 924) isRow_48 (by simp [mset]; exact hc48) (by omega) ⟨by omega, by omega⟩).eq ?_
    rw [show max 0 (min x ((924 : Nat) : Int)) = x by omega]
    refine loopQ x.toNat (fun k ls M1 => M1 = mChr M a z x (fun _ => 0) (fun j => if (j : Int) < k then 0 else M 55 j) (fun j => if (j : Int) < k then 0 else M 56 j) ∧ ls = [some (.inr 33), some (.inr 76), some (.inr ya), some (.inl wo), some (.inl k)]) ?_ _ _ ⟨?_, rfl⟩
    · rintro k _ _ hk ⟨rfl, rfl⟩ K
      obtain ⟨q1, q2, q3, q4⟩ := mChr_get M a z x (fun _ => 0) (fun j => if (j : Int) < k then 0 else M 55 j) (fun j => if (j : Int) < k then 0 else M 56 j)
      by_cases hz1 : x ≤ (k : Int)
      · refine wpm_of (cuts := [40, 85]) (by decide) 100 _ _ _ _ ?_
        simp (maxSteps := 2000000) only [↓reduceIte, wp_eq, wpd_eq, kont_eq, STP1, STP2, STP3, STP4, STP5, konM_eq, AMK, CZ, Option.map, List.getElem?_cons_zero, List.getElem?_cons_succ, List.mem_cons, List.not_mem_nil, if_false, if_true, Nat.reduceAdd, Nat.reduceLT, Nat.reduceLeDiff, Nat.reduceEqDiff, true_and, and_true, List.length_nil, List.length_cons, or_true, true_or, or_false, false_or, Option.some.injEq, Sum.inl.injEq, Sum.inr.injEq, exists_eq_left', exists_eq_left, Int.reduceLE, Int.reduceLT, Int.reduceNeg, Int.reduceAdd, Int.reduceMul, Int.reduceSub, Int.reduceToNat, inR, Nat.zero_ne_one, false_and, Nat.succ_ne_zero, reduceCtorEq, false_implies, true_implies, not_false_eq_true, not_true_eq_false, Int.reduceEq, KRE, C_Bench_layChronology, FB, hr1, q3, hz1]
        repeat (refine ⟨by omega, ?_⟩)
        try (first | (show _ ≤ _; omega) | (show _ < _; omega))
        refine Bench_layC_2 (T := T) (Y := Y) (M0 := M) (a := a) (z := z) (n := x) hy hy2 hw hT.symm hY.symm hc hwo ha.symm hn.symm ?_ (fun M2 e2 => ?_)
        · funext b j
          simp only [mChr]
          grind
        · refine Bench_layC_3 (M0 := M) (a := a) (z := z) (n := x) (g := fun j => cNum T Y wo (M 76 3).toNat (a + j)) (s := fun j => cSum T Y wo (M 76 3).toNat (a + j)) (d := fun j => cDep T Y wo (M 76 3).toNat (a + j)) hnn e2 hb.2.2 (fun j _ => cDep_in hc) (fun j _ => cSum_in hc) (fun j _ => rfl) (fun M3 e3 => ?_)
          have rK : rowOK M3 48 924 := by
            rw [e3]
            exact mChr_row hb.2.2 hnn (fun j _ => by have := cNum_in (wo := wo) (y := a + j) hc; omega)
          obtain ⟨p1, p2, p3, p4⟩ := mChr_get M a z x (fun j => cNum T Y wo (M 76 3).toNat (a + j)) (fun j => cSum T Y wo (M 76 3).toNat (a + j)) (fun j => cDep T Y wo (M 76 3).toNat (a + j))
          rw [← e3] at p1 p2 p3
          have p4' : ∀ j : Nat, (j : Int) < x → M3 49 j = cNum T Y wo (M 76 3).toNat (a + j) ∧ M3 50 j = 0 := fun j hj => by
            rw [e3]
            refine ⟨(p4 j hj).1, by simp [mChr, hj]⟩
          have m1 := mFin_fin rK.1 rK.2
          have m2 := rowOK_fin rK
          have m3 := mFin_fr M3 48 (M3 48 7)
          rw [p3] at m1 m2 m3
          refine ⟨rfl, finR_eq m1 ⟨p3.trans hn.symm, fun j hj => ?_⟩, m2, ?_, ?_, ?_⟩
          · have hj2 : (j : Int) < x := by
              have : (j : Int) < M3 48 7 := hj
              omega
            refine ⟨(p4' j hj2).1.trans ?_, (p4' j hj2).2⟩
            simp only [chr]
            rw [hn, if_pos hj2, ha]
          · rw [m3 33 (by omega)]; exact p1
          · rw [m3 33 (by omega)]; exact p2
          · intro b j hbj
            rw [m3 b (by omega), e3]
            exact mChr_out (by omega) (by omega)
      · have hz2 : ¬ (924 : Int) ≤ k := by omega
        refine wpm_of (cuts := [40, 85]) (by decide) 100 _ _ _ _ ?_
        simp (maxSteps := 2000000) only [↓reduceIte, wp_eq, wpd_eq, kont_eq, STP1, STP2, STP3, STP4, STP5, konM_eq, AMK, CZ, Option.map, List.getElem?_cons_zero, List.getElem?_cons_succ, List.mem_cons, List.not_mem_nil, if_false, if_true, Nat.reduceAdd, Nat.reduceLT, Nat.reduceLeDiff, Nat.reduceEqDiff, true_and, and_true, List.length_nil, List.length_cons, or_true, true_or, or_false, false_or, Option.some.injEq, Sum.inl.injEq, Sum.inr.injEq, exists_eq_left', exists_eq_left, Int.reduceLE, Int.reduceLT, Int.reduceNeg, Int.reduceAdd, Int.reduceMul, Int.reduceSub, Int.reduceToNat, inR, Nat.zero_ne_one, false_and, Nat.succ_ne_zero, reduceCtorEq, false_implies, true_implies, not_false_eq_true, not_true_eq_false, Int.reduceEq, KRE, C_Bench_layChronology, FB, hr1, q3, hz1, hz2]
        repeat (refine ⟨by omega, ?_⟩)
        try (first | (show _ ≤ _; omega) | (show _ < _; omega))
        exact WPm.eqM (K (by omega) _ _ ⟨rfl, rfl⟩) (mChr_z (by omega)).symm
    · funext b j
      simp only [mset, mBeg, mChr]
      grind
  by_cases f : a = -1
  · have f' := eq_true f
    simp (maxSteps := 2000000) only [↓reduceIte, wp_eq, wpd_eq, kont_eq, STP1, STP2, STP3, STP4, STP5, konM_eq, AMK, CZ, Option.map, List.getElem?_cons_zero, List.getElem?_cons_succ, List.mem_cons, List.not_mem_nil, if_false, if_true, Nat.reduceAdd, Nat.reduceLT, Nat.reduceLeDiff, Nat.reduceEqDiff, true_and, and_true, List.length_nil, List.length_cons, or_true, true_or, or_false, false_or, Option.some.injEq, Sum.inl.injEq, Sum.inr.injEq, exists_eq_left', exists_eq_left, Int.reduceLE, Int.reduceLT, Int.reduceNeg, Int.reduceAdd, Int.reduceMul, Int.reduceSub, Int.reduceToNat, inR, Nat.zero_ne_one, false_and, Nat.succ_ne_zero, reduceCtorEq, false_implies, true_implies, not_false_eq_true, not_true_eq_false, Int.reduceEq, KRE, C_Bench_layChronology, MSE, FB, f', hr1]
    repeat (refine ⟨by omega, ?_⟩)
    try (first | (show _ ≤ _; omega) | (show _ < _; omega))
    exact goal1 _ (by rw [eL, if_pos f])
  · have f' := eq_false f
    simp (maxSteps := 2000000) only [↓reduceIte, wp_eq, wpd_eq, kont_eq, STP1, STP2, STP3, STP4, STP5, konM_eq, AMK, CZ, Option.map, List.getElem?_cons_zero, List.getElem?_cons_succ, List.mem_cons, List.not_mem_nil, if_false, if_true, Nat.reduceAdd, Nat.reduceLT, Nat.reduceLeDiff, Nat.reduceEqDiff, true_and, and_true, List.length_nil, List.length_cons, or_true, true_or, or_false, false_or, Option.some.injEq, Sum.inl.injEq, Sum.inr.injEq, exists_eq_left', exists_eq_left, Int.reduceLE, Int.reduceLT, Int.reduceNeg, Int.reduceAdd, Int.reduceMul, Int.reduceSub, Int.reduceToNat, inR, Nat.zero_ne_one, false_and, Nat.succ_ne_zero, reduceCtorEq, false_implies, true_implies, not_false_eq_true, not_true_eq_false, Int.reduceEq, KRE, C_Bench_layChronology, MSE, FB, f', hr1]
    repeat (refine ⟨by omega, ?_⟩)
    try (first | (show _ ≤ _; omega) | (show _ < _; omega))
    exact goal1 _ (by rw [eL, if_neg f])
