/-! BENCH, 3: slides and the best place. -/
set_option maxHeartbeats 4000000 in
set_option maxRecDepth 20000 in
theorem Bench_laidOut_ok {o : Nat} {M : Mm} (ho : isTim o) (hb : benOK M) (hw : wfT M o) (h60 : 60 ≤ o) : CallR m_Bench_laidOut [.inr 33, .inr o] M (fun x M' => x = 41 ∧ finR M' 41 24 (tRw M o) ∧ benOK M' ∧ Fr 41 48 M M') := by
  have r1 := isRow_41.1
  refine callP_of (by decide) (by decide) (Nat.le_of_ble_eq_true rfl) (wpm_of (cuts := []) (by decide) 50 _ _ _ _ ?_)
  rw [show lM m_Bench_laidOut = 2 from rfl]
  simp (maxSteps := 2000000) only [↓reduceIte, wp_eq, wpd_eq, kont_eq, STP1, STP2, STP3, STP4, STP5, konM_eq, AMK, CZ, Option.map, List.getElem?_cons_zero, List.getElem?_cons_succ, List.mem_cons, List.not_mem_nil, if_false, if_true, Nat.reduceAdd, Nat.reduceLT, Nat.reduceLeDiff, Nat.reduceEqDiff, true_and, and_true, List.length_nil, List.length_cons, or_true, true_or, or_false, false_or, Option.some.injEq, Sum.inl.injEq, Sum.inr.injEq, exists_eq_left', exists_eq_left, Int.reduceLE, Int.reduceLT, Int.reduceNeg, Int.reduceAdd, Int.reduceMul, Int.reduceSub, Int.reduceToNat, inR, Nat.zero_ne_one, false_and, Nat.succ_ne_zero, reduceCtorEq, false_implies, true_implies, not_false_eq_true, not_true_eq_false, Int.reduceEq, KRE, C_Bench_laidOut, FB, r1]
  refine (Bench_lay_ok isRow_41 ho hb.2.1 hw (by omega)).mono (fun M' z => ?_)
  obtain ⟨z1, z2, z3⟩ := z
  exact ⟨z1, ⟨rowOK_cells (fun b h1 h2 j => z3 b (by omega) j) hb.1, z2, rowOK_cells (fun b h1 h2 j => z3 b (by omega) j) hb.2.2⟩, z3⟩
set_option maxHeartbeats 4000000 in
set_option maxRecDepth 20000 in
theorem Bench_measureWithin_ok {r1 c1 : Nat} {A B : Rw} {x : Int} {M : Mm} (h1 : isRow r1 c1) (f1 : finR M r1 c1 A) (f2 : finR M 41 24 B) (hx : inR x) : CallV m_Bench_measureWithin [.inr 33, .inr r1, .inl x] M (fun M' => M' = mSl M 57 A B (max (-24) (min x 924))) := by
  have s1 : lay 57 = .inr (.inl (7, [none, none, none, none])) := isSld_57
  simp only [inR] at hx
  refine callP_of (by decide) (by decide) (Nat.le_of_ble_eq_true rfl) (wpm_of (cuts := []) (by decide) 50 _ _ _ _ ?_)
  rw [show lM m_Bench_measureWithin = 3 from rfl]
  simp (maxSteps := 2000000) only [↓reduceIte, wp_eq, wpd_eq, kont_eq, STP1, STP2, STP3, STP4, STP5, konM_eq, AMK, CZ, Option.map, List.getElem?_cons_zero, List.getElem?_cons_succ, List.mem_cons, List.not_mem_nil, if_false, if_true, Nat.reduceAdd, Nat.reduceLT, Nat.reduceLeDiff, Nat.reduceEqDiff, true_and, and_true, List.length_nil, List.length_cons, or_true, true_or, or_false, false_or, Option.some.injEq, Sum.inl.injEq, Sum.inr.injEq, exists_eq_left', exists_eq_left, Int.reduceLE, Int.reduceLT, Int.reduceNeg, Int.reduceAdd, Int.reduceMul, Int.reduceSub, Int.reduceToNat, inR, Nat.zero_ne_one, false_and, Nat.succ_ne_zero, reduceCtorEq, false_implies, true_implies, not_false_eq_true, not_true_eq_false, Int.reduceEq, KRE, C_Bench_measureWithin, FB, s1]
  repeat (refine ⟨by omega, ?_⟩)
  try (first | (show _ ≤ _; omega) | (show _ < _; omega))
  exact Slide_measure_ok isSld_57 h1 isRow_41 f1 f2 (by omega)
def sldIs (M : Mm) (A B : Rw) (x : Int) : Prop := M 57 0 = slPairs A B x ∧ M 57 1 = slSigns A B x ∧ M 57 2 = slRanks A B x ∧ M 57 3 = slScore A B x
theorem mSl_is (M : Mm) (A B : Rw) (x : Int) : sldIs (mSl M 57 A B x) A B x := by
  refine ⟨?_, ?_, ?_, ?_⟩ <;> simp [mSl, mset]
theorem mSl_fr (M : Mm) (A B : Rw) (x : Int) : Fr 57 58 M (mSl M 57 A B x) := (((Fr.rf.st (by omega) (by omega)).st (by omega) (by omega)).st (by omega) (by omega)).st (by omega) (by omega)
set_option maxHeartbeats 4000000 in
set_option maxRecDepth 20000 in
theorem Bench_slideAlong_ok {o p : Nat} {x : Int} {M : Mm} (ho : isTim o) (hp : isTim p) (hb : benOK M) (hw : wfT M o) (hv : wfT M p) (h1 : 60 ≤ o) (h2 : 60 ≤ p) (hx : inR x) :
    CallR m_Bench_slideAlong [.inr 33, .inr o, .inr p, .inl x] M (fun y M' => y = 57 ∧ sldIs M' (tRw M p) (tRw M o) (max (-24) (min x 924)) ∧ benOK M' ∧ FrP (fun b _ => 34 ≤ b ∧ b < 48 ∨ b = 57) M M') := by
  have k1 : kc (lay 33) 0 = True := FB.1
  refine callP_of (by decide) (by decide) (Nat.le_of_ble_eq_true rfl) (wpm_of (cuts := []) (by decide) 50 _ _ _ _ ?_)
  rw [show lM m_Bench_slideAlong = 4 from rfl]
  simp (maxSteps := 2000000) only [↓reduceIte, wp_eq, wpd_eq, kont_eq, STP1, STP2, STP3, STP4, STP5, konM_eq, AMK, CZ, Option.map, List.getElem?_cons_zero, List.getElem?_cons_succ, List.mem_cons, List.not_mem_nil, if_false, if_true, Nat.reduceAdd, Nat.reduceLT, Nat.reduceLeDiff, Nat.reduceEqDiff, true_and, and_true, List.length_nil, List.length_cons, or_true, true_or, or_false, false_or, Option.some.injEq, Sum.inl.injEq, Sum.inr.injEq, exists_eq_left', exists_eq_left, Int.reduceLE, Int.reduceLT, Int.reduceNeg, Int.reduceAdd, Int.reduceMul, Int.reduceSub, Int.reduceToNat, inR, Nat.zero_ne_one, false_and, Nat.succ_ne_zero, reduceCtorEq, false_implies, true_implies, not_false_eq_true, not_true_eq_false, Int.reduceEq, KRE, C_Bench_slideAlong, FB]
  refine (Bench_lay_ok isRow_34 hp hb.1 hv (by omega)).mono (fun M1 z => ?_)
  obtain ⟨z1, z2, z3⟩ := z
  have t1 : tRw M1 o = tRw M o := tRw_cells (fun b p1 p2 j => z3 b (by omega) j)
  refine (Bench_lay_ok isRow_41 ho (rowOK_cells (fun b p1 p2 j => z3 b (by omega) j) hb.2.1) (wfT_cells (fun b p1 p2 j => z3 b (by omega) j) hw) (by omega)).mono (fun M2 y => ?_)
  obtain ⟨y1, y2, y3⟩ := y
  rw [t1] at y1
  refine (Bench_measureWithin_ok isRow_34 (finR_cells (fun b p1 p2 j => y3 b (by omega) j) z1) y1 hx).eq ?_
  have e := mSl_fr M2 (tRw M p) (tRw M o) (max (-24) (min x 924))
  refine ⟨mSl_is _ _ _ _, ⟨rowOK_cells (fun b p1 p2 j => (e b (by omega) j).trans (y3 b (by omega) j)) z2, rowOK_cells (fun b p1 p2 j => e b (by omega) j) y2, rowOK_cells (fun b p1 p2 j => ((e b (by omega) j).trans (y3 b (by omega) j)).trans (z3 b (by omega) j)) hb.2.2⟩, fun b j hbj => ((e b (by omega) j).trans (y3 b (by omega) j)).trans (z3 b (by omega) j)⟩
set_option maxHeartbeats 4000000 in
set_option maxRecDepth 20000 in
theorem Bench_slideAlongChronology_ok {o : Nat} {x : Int} {A : Rw} {M : Mm} (ho : isTim o) (hb : benOK M) (hA : finR M 48 924 A) (hw : wfT M o) (h1 : 60 ≤ o) (hx : inR x) :
    CallR m_Bench_slideAlongChronology [.inr 33, .inr o, .inl x] M (fun y M' => y = 57 ∧ sldIs M' A (tRw M o) (max (-24) (min x 924)) ∧ benOK M' ∧ FrP (fun b _ => 41 ≤ b ∧ b < 48 ∨ b = 57) M M') := by
  refine callP_of (by decide) (by decide) (Nat.le_of_ble_eq_true rfl) (wpm_of (cuts := []) (by decide) 50 _ _ _ _ ?_)
  rw [show lM m_Bench_slideAlongChronology = 3 from rfl]
  simp (maxSteps := 2000000) only [↓reduceIte, wp_eq, wpd_eq, kont_eq, STP1, STP2, STP3, STP4, STP5, konM_eq, AMK, CZ, Option.map, List.getElem?_cons_zero, List.getElem?_cons_succ, List.mem_cons, List.not_mem_nil, if_false, if_true, Nat.reduceAdd, Nat.reduceLT, Nat.reduceLeDiff, Nat.reduceEqDiff, true_and, and_true, List.length_nil, List.length_cons, or_true, true_or, or_false, false_or, Option.some.injEq, Sum.inl.injEq, Sum.inr.injEq, exists_eq_left', exists_eq_left, Int.reduceLE, Int.reduceLT, Int.reduceNeg, Int.reduceAdd, Int.reduceMul, Int.reduceSub, Int.reduceToNat, inR, Nat.zero_ne_one, false_and, Nat.succ_ne_zero, reduceCtorEq, false_implies, true_implies, not_false_eq_true, not_true_eq_false, Int.reduceEq, KRE, C_Bench_slideAlongChronology, FB]
  refine (Bench_lay_ok isRow_41 ho hb.2.1 hw (by omega)).mono (fun M2 y => ?_)
  obtain ⟨y1, y2, y3⟩ := y
  refine (Bench_measureWithin_ok isRow_48 (finR_cells (fun b p1 p2 j => y3 b (by omega) j) hA) y1 hx).eq ?_
  have e := mSl_fr M2 A (tRw M o) (max (-24) (min x 924))
  refine ⟨mSl_is _ _ _ _, ⟨rowOK_cells (fun b p1 p2 j => (e b (by omega) j).trans (y3 b (by omega) j)) hb.1, rowOK_cells (fun b p1 p2 j => e b (by omega) j) y2, rowOK_cells (fun b p1 p2 j => (e b (by omega) j).trans (y3 b (by omega) j)) hb.2.2⟩, fun b j hbj => (e b (by omega) j).trans (y3 b (by omega) j)⟩
set_option maxHeartbeats 4000000 in
set_option maxRecDepth 20000 in
theorem Bench_seekOn_ok {o p : Nat} {lap : Int} {M : Mm} (ho : isTim o) (hp : isTim p) (hb : benOK M) (hw : wfT M o) (hT : okT (tRw M o)) (hv : wfT M p) (h1 : 60 ≤ o) (h2 : 60 ≤ p) (hl : 1 ≤ lap ∧ lap ≤ 100) :
    CallR m_Bench_seekOn [.inr 33, .inr o, .inr p, .inl lap] M (fun y M' => y = 58 ∧ fndIs M' 58 (best (tRw M p) (tRw M o) lap) ∧ benOK M' ∧ FrP (fun b _ => 34 ≤ b ∧ b < 48 ∨ 58 ≤ b ∧ b < 60) M M') := by
  have f1 : lay 58 = .inr (.inl (1, [some (58 + 1), none, none, none, none, none])) := isFnd_58.1
  refine callP_of (by decide) (by decide) (Nat.le_of_ble_eq_true rfl) (wpm_of (cuts := []) (by decide) 50 _ _ _ _ ?_)
  rw [show lM m_Bench_seekOn = 4 from rfl]
  simp (maxSteps := 2000000) only [↓reduceIte, wp_eq, wpd_eq, kont_eq, STP1, STP2, STP3, STP4, STP5, konM_eq, AMK, CZ, Option.map, List.getElem?_cons_zero, List.getElem?_cons_succ, List.mem_cons, List.not_mem_nil, if_false, if_true, Nat.reduceAdd, Nat.reduceLT, Nat.reduceLeDiff, Nat.reduceEqDiff, true_and, and_true, List.length_nil, List.length_cons, or_true, true_or, or_false, false_or, Option.some.injEq, Sum.inl.injEq, Sum.inr.injEq, exists_eq_left', exists_eq_left, Int.reduceLE, Int.reduceLT, Int.reduceNeg, Int.reduceAdd, Int.reduceMul, Int.reduceSub, Int.reduceToNat, inR, Nat.zero_ne_one, false_and, Nat.succ_ne_zero, reduceCtorEq, false_implies, true_implies, not_false_eq_true, not_true_eq_false, Int.reduceEq, KRE, C_Bench_seekOn, FB]
  refine (Bench_lay_ok isRow_34 hp hb.1 hv (by omega)).mono (fun M1 z => ?_)
  obtain ⟨z1, z2, z3⟩ := z
  have t1 : tRw M1 o = tRw M o := tRw_cells (fun b p1 p2 j => z3 b (by omega) j)
  refine (Bench_lay_ok isRow_41 ho (rowOK_cells (fun b p1 p2 j => z3 b (by omega) j) hb.2.1) (wfT_cells (fun b p1 p2 j => z3 b (by omega) j) hw) (by omega)).mono (fun M2 y => ?_)
  obtain ⟨y1, y2, y3⟩ := y
  rw [t1] at y1
  have l3 := hT.1
  refine (Finding_seek_ok isFnd_58 isRow_34 isRow_41 (finR_cells (fun b p1 p2 j => y3 b (by omega) j) z1) y1 (okT_full hT) (by omega) (by omega) (by omega) hl).mono (fun M3 x => ?_)
  obtain ⟨x1, e⟩ := x
  refine ⟨x1, ⟨rowOK_cells (fun b p1 p2 j => (e b (by omega) j).trans (y3 b (by omega) j)) z2, rowOK_cells (fun b p1 p2 j => e b (by omega) j) y2, rowOK_cells (fun b p1 p2 j => ((e b (by omega) j).trans (y3 b (by omega) j)).trans (z3 b (by omega) j)) hb.2.2⟩, fun b j hbj => ((e b (by omega) j).trans (y3 b (by omega) j)).trans (z3 b (by omega) j)⟩
set_option maxHeartbeats 4000000 in
set_option maxRecDepth 20000 in
theorem Bench_seekOnChronology_ok {o : Nat} {lap : Int} {A : Rw} {M : Mm} (ho : isTim o) (hb : benOK M) (hA : finR M 48 924 A) (hw : wfT M o) (hT : okT (tRw M o)) (h1 : 60 ≤ o) (hl : 1 ≤ lap ∧ lap ≤ 100) :
    CallR m_Bench_seekOnChronology [.inr 33, .inr o, .inl lap] M (fun y M' => y = 58 ∧ fndIs M' 58 (best A (tRw M o) lap) ∧ benOK M' ∧ FrP (fun b _ => 41 ≤ b ∧ b < 48 ∨ 58 ≤ b ∧ b < 60) M M') := by
  refine callP_of (by decide) (by decide) (Nat.le_of_ble_eq_true rfl) (wpm_of (cuts := []) (by decide) 50 _ _ _ _ ?_)
  rw [show lM m_Bench_seekOnChronology = 3 from rfl]
  simp (maxSteps := 2000000) only [↓reduceIte, wp_eq, wpd_eq, kont_eq, STP1, STP2, STP3, STP4, STP5, konM_eq, AMK, CZ, Option.map, List.getElem?_cons_zero, List.getElem?_cons_succ, List.mem_cons, List.not_mem_nil, if_false, if_true, Nat.reduceAdd, Nat.reduceLT, Nat.reduceLeDiff, Nat.reduceEqDiff, true_and, and_true, List.length_nil, List.length_cons, or_true, true_or, or_false, false_or, Option.some.injEq, Sum.inl.injEq, Sum.inr.injEq, exists_eq_left', exists_eq_left, Int.reduceLE, Int.reduceLT, Int.reduceNeg, Int.reduceAdd, Int.reduceMul, Int.reduceSub, Int.reduceToNat, inR, Nat.zero_ne_one, false_and, Nat.succ_ne_zero, reduceCtorEq, false_implies, true_implies, not_false_eq_true, not_true_eq_false, Int.reduceEq, KRE, C_Bench_seekOnChronology, FB]
  refine (Bench_lay_ok isRow_41 ho hb.2.1 hw (by omega)).mono (fun M2 y => ?_)
  obtain ⟨y1, y2, y3⟩ := y
  have l3 := hT.1
  refine (Finding_seek_ok isFnd_58 isRow_48 isRow_41 (finR_cells (fun b p1 p2 j => y3 b (by omega) j) hA) y1 (okT_full hT) (by omega) (by omega) (by omega) hl).mono (fun M3 x => ?_)
  obtain ⟨x1, e⟩ := x
  refine ⟨x1, ⟨rowOK_cells (fun b p1 p2 j => (e b (by omega) j).trans (y3 b (by omega) j)) hb.1, rowOK_cells (fun b p1 p2 j => e b (by omega) j) y2, rowOK_cells (fun b p1 p2 j => (e b (by omega) j).trans (y3 b (by omega) j)) hb.2.2⟩, fun b j hbj => (e b (by omega) j).trans (y3 b (by omega) j)⟩
theorem finR_N {M : Mm} {r c : Nat} {A : Rw} (h : finR M r c A) (k : Int) : sN (rwOf M r) k = sN A k := by
  obtain ⟨w0, w1, w2, w3, w4⟩ := h
  unfold sN
  have e : (rwOf M r).2.1 = A.2.1 := w0
  rw [e]
  split
  · exact (w4 k.toNat (by omega)).1
  · rfl
set_option maxHeartbeats 4000000 in
set_option maxRecDepth 20000 in
theorem Bench_indexOf_ok {y a z : Int} {A : Rw} {M : Mm} (hb : rowOK M 48 924) (hA : finR M 48 924 A) (ha : M 33 7 = a) (hz : M 33 8 = z) (hy : inR y) (b1 : -1 ≤ a ∧ a ≤ 1000) (b2 : -1 ≤ z ∧ z ≤ 1000) :
    CallI m_Bench_indexOf [.inr 33, .inl y] M (fun x M' => x = (if a = -1 ∨ y < a ∨ z < y ∨ sN A (y - a) = 0 then -1 else sN A (y - a)) ∧ M' = M) := by
  have r1 := isRow_48.1
  simp only [inR] at hy
  by_cases c1 : a = -1
  · rw [if_pos (Or.inl c1)]
    have c1' := eq_true c1
    refine callP_of (by decide) (by decide) (Nat.le_of_ble_eq_true rfl) (wpm_of (cuts := []) (by decide) 50 _ _ _ _ ?_)
    rw [show lM m_Bench_indexOf = 3 from rfl]
    simp (maxSteps := 2000000) only [↓reduceIte, wp_eq, wpd_eq, kont_eq, STP1, STP2, STP3, STP4, STP5, konM_eq, AMK, CZ, Option.map, List.getElem?_cons_zero, List.getElem?_cons_succ, List.mem_cons, List.not_mem_nil, if_false, if_true, Nat.reduceAdd, Nat.reduceLT, Nat.reduceLeDiff, Nat.reduceEqDiff, true_and, and_true, List.length_nil, List.length_cons, or_true, true_or, or_false, false_or, Option.some.injEq, Sum.inl.injEq, Sum.inr.injEq, exists_eq_left', exists_eq_left, Int.reduceLE, Int.reduceLT, Int.reduceNeg, Int.reduceAdd, Int.reduceMul, Int.reduceSub, Int.reduceToNat, inR, Nat.zero_ne_one, false_and, Nat.succ_ne_zero, reduceCtorEq, false_implies, true_implies, not_false_eq_true, not_true_eq_false, Int.reduceEq, KRE, C_Bench_indexOf, FB, ha, hz, r1, c1']
    repeat (refine ⟨by omega, ?_⟩)
    try (first | (show _ ≤ _; omega) | (show _ < _; omega))
  · have c1' := eq_false c1
    by_cases c2 : y < a
    · rw [if_pos (Or.inr (Or.inl c2))]
      refine callP_of (by decide) (by decide) (Nat.le_of_ble_eq_true rfl) (wpm_of (cuts := []) (by decide) 50 _ _ _ _ ?_)
      rw [show lM m_Bench_indexOf = 3 from rfl]
      simp (maxSteps := 2000000) only [↓reduceIte, wp_eq, wpd_eq, kont_eq, STP1, STP2, STP3, STP4, STP5, konM_eq, AMK, CZ, Option.map, List.getElem?_cons_zero, List.getElem?_cons_succ, List.mem_cons, List.not_mem_nil, if_false, if_true, Nat.reduceAdd, Nat.reduceLT, Nat.reduceLeDiff, Nat.reduceEqDiff, true_and, and_true, List.length_nil, List.length_cons, or_true, true_or, or_false, false_or, Option.some.injEq, Sum.inl.injEq, Sum.inr.injEq, exists_eq_left', exists_eq_left, Int.reduceLE, Int.reduceLT, Int.reduceNeg, Int.reduceAdd, Int.reduceMul, Int.reduceSub, Int.reduceToNat, inR, Nat.zero_ne_one, false_and, Nat.succ_ne_zero, reduceCtorEq, false_implies, true_implies, not_false_eq_true, not_true_eq_false, Int.reduceEq, KRE, C_Bench_indexOf, FB, ha, hz, r1, c1', c2]
      repeat (refine ⟨by omega, ?_⟩)
      try (first | (show _ ≤ _; omega) | (show _ < _; omega))
    · by_cases c3 : z < y
      · rw [if_pos (Or.inr (Or.inr (Or.inl c3)))]
        have c3' : ¬ y ≤ z := by omega
        refine callP_of (by decide) (by decide) (Nat.le_of_ble_eq_true rfl) (wpm_of (cuts := []) (by decide) 50 _ _ _ _ ?_)
        rw [show lM m_Bench_indexOf = 3 from rfl]
        simp (maxSteps := 2000000) only [↓reduceIte, wp_eq, wpd_eq, kont_eq, STP1, STP2, STP3, STP4, STP5, konM_eq, AMK, CZ, Option.map, List.getElem?_cons_zero, List.getElem?_cons_succ, List.mem_cons, List.not_mem_nil, if_false, if_true, Nat.reduceAdd, Nat.reduceLT, Nat.reduceLeDiff, Nat.reduceEqDiff, true_and, and_true, List.length_nil, List.length_cons, or_true, true_or, or_false, false_or, Option.some.injEq, Sum.inl.injEq, Sum.inr.injEq, exists_eq_left', exists_eq_left, Int.reduceLE, Int.reduceLT, Int.reduceNeg, Int.reduceAdd, Int.reduceMul, Int.reduceSub, Int.reduceToNat, inR, Nat.zero_ne_one, false_and, Nat.succ_ne_zero, reduceCtorEq, false_implies, true_implies, not_false_eq_true, not_true_eq_false, Int.reduceEq, KRE, C_Bench_indexOf, FB, ha, hz, r1, c1', c2, c3']
        repeat (refine ⟨by omega, ?_⟩)
        try (first | (show _ ≤ _; omega) | (show _ < _; omega))
      · have c3' : y ≤ z := by omega
        refine callP_of (by decide) (by decide) (Nat.le_of_ble_eq_true rfl) (wpm_of (cuts := []) (by decide) 50 _ _ _ _ ?_)
        rw [show lM m_Bench_indexOf = 3 from rfl]
        simp (maxSteps := 2000000) only [↓reduceIte, wp_eq, wpd_eq, kont_eq, STP1, STP2, STP3, STP4, STP5, konM_eq, AMK, CZ, Option.map, List.getElem?_cons_zero, List.getElem?_cons_succ, List.mem_cons, List.not_mem_nil, if_false, if_true, Nat.reduceAdd, Nat.reduceLT, Nat.reduceLeDiff, Nat.reduceEqDiff, true_and, and_true, List.length_nil, List.length_cons, or_true, true_or, or_false, false_or, Option.some.injEq, Sum.inl.injEq, Sum.inr.injEq, exists_eq_left', exists_eq_left, Int.reduceLE, Int.reduceLT, Int.reduceNeg, Int.reduceAdd, Int.reduceMul, Int.reduceSub, Int.reduceToNat, inR, Nat.zero_ne_one, false_and, Nat.succ_ne_zero, reduceCtorEq, false_implies, true_implies, not_false_eq_true, not_true_eq_false, Int.reduceEq, KRE, C_Bench_indexOf, FB, ha, hz, r1, c1', c2, c3']
        repeat (refine ⟨by omega, ?_⟩)
        try (first | (show _ ≤ _; omega) | (show _ < _; omega))
        refine (Row_numberAt_ok isRow_48 hb.1 ⟨by omega, by omega⟩).eq ?_
        rw [finR_N hA]
        have v := sN_in (k := y - a) (wfR_ok hb.1)
        rw [finR_N hA] at v
        refine ⟨by omega, fun c => ⟨?_, rfl⟩, fun c => ⟨?_, rfl⟩⟩
        · rw [if_neg (by omega)]
        · rw [if_pos (by omega)]
