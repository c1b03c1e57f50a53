/-! BENCH, 1: rows laid out. -/
def mLay (M : Mm) (r o : Nat) (i : Int) : Mm := fun b j => if b = r ∧ j = 7 then M o 2 else if b = r + 1 ∧ (j : Int) < M o 2 then (if (j : Int) < i then M (o + 1) j else 0) else if b = r + 2 ∧ (j : Int) < M o 2 then (if (j : Int) < i then M (o + 2) j else 0) else M b j
theorem mLay_fr (M : Mm) (r o : Nat) (i : Int) : Fr r (r + 7) M (mLay M r o i) := by
  intro b hb j
  simp only [mLay]
  grind
theorem mLay_ok {M : Mm} {r o : Nat} {i : Int} (hr : rowOK M r 24) (hw : wfT M o) : rowOK (mLay M r o i) r 24 := by
  obtain ⟨⟨w0, w1, w2, w3, w4⟩, w5⟩ := hr
  obtain ⟨v0, v1, v2, -⟩ := hw
  refine ⟨⟨?_, w1, ?_, fun j hj => ?_, fun j hj => ?_⟩, fun j hj => ?_⟩
  · simp only [mLay]; grind
  · simp only [mLay]; grind
  · have := w3 j hj
    have := v2 j hj
    simp only [mLay]; grind
  · have := w4 j hj
    have := v1 j hj
    simp only [mLay]; grind
  · have := w5 j hj
    simp only [mLay]; grind
set_option maxHeartbeats 4000000 in
set_option maxRecDepth 20000 in
theorem Bench_lay_ok {r o : Nat} {M : Mm} (hr : isRow r 24) (ho : isTim o) (hk : rowOK M r 24) (hw : wfT M o) (sep : o + 3 ≤ r ∨ r + 7 ≤ o) : CallV m_Bench_lay [.inr r, .inr o] M (fun M' => finR M' r 24 (tRw M o) ∧ rowOK M' r 24 ∧ Fr r (r + 7) M M') := by
  have l0 := ho.1
  have r0 := hr.1
  have w0 := hw.1
  have c0 := hk.1.1
  have cc : ∀ i b, o ≤ b → b < o + 3 → ∀ j, mLay M r o i b j = M b j := fun i b h1 h2 j => mLay_fr M r o i b (by omega) j
  have e2 : ∀ i, mLay M r o i o 2 = M o 2 := fun i => cc i o (by omega) (by omega) 2
  have ed : max 0 (min (M o 2) (24 : Nat)) = M o 2 := by omega
  refine callP_of (by decide) (by decide) (Nat.le_of_ble_eq_true rfl) (wpm_of (cuts := [10]) (by decide) 50 _ _ _ _ ?_)
  rw [show lM m_Bench_lay = 3 from rfl]
  simp (maxSteps := 2000000) only [↓reduceIte, wp_eq, wpd_eq, kont_eq, STP1, STP2, STP3, STP4, STP5, konM_eq, AMK, CZ, Option.map, List.getElem?_cons_zero, List.getElem?_cons_succ, List.mem_cons, List.not_mem_nil, if_false, if_true, Nat.reduceAdd, Nat.reduceLT, Nat.reduceLeDiff, Nat.reduceEqDiff, true_and, and_true, List.length_nil, List.length_cons, or_true, true_or, or_false, false_or, Option.some.injEq, Sum.inl.injEq, Sum.inr.injEq, exists_eq_left', exists_eq_left, Int.reduceLE, Int.reduceLT, Int.reduceNeg, Int.reduceAdd, Int.reduceMul, Int.reduceSub, Int.reduceToNat, inR, Nat.zero_ne_one, false_and, Nat.succ_ne_zero, reduceCtorEq, false_implies, true_implies, not_false_eq_true, not_true_eq_false, Int.reduceEq, KRE, C_Bench_lay, l0, r0]
  refine (Row_begin_ok hr c0 (by omega) ⟨by omega, by omega⟩).eq ?_
  rw [ed]
  refine loopQ (M o 2).toNat (fun k ls M1 => M1 = mLay M r o k ∧ ls = [some (.inr r), some (.inr o), some (.inl k)]) ?_ _ _ ⟨?_, rfl⟩
  · rintro k _ _ hk2 ⟨rfl, rfl⟩ K
    have wL := mLay_ok (i := k) hk hw
    have wT := wfT_cells (cc k) hw
    refine wpm_of (cuts := [10]) (by decide) 100 _ _ _ _ ?_
    simp (maxSteps := 2000000) only [↓reduceIte, wp_eq, wpd_eq, kont_eq, STP1, STP2, STP3, STP4, STP5, konM_eq, AMK, CZ, Option.map, List.getElem?_cons_zero, List.getElem?_cons_succ, List.mem_cons, List.not_mem_nil, if_false, if_true, Nat.reduceAdd, Nat.reduceLT, Nat.reduceLeDiff, Nat.reduceEqDiff, true_and, and_true, List.length_nil, List.length_cons, or_true, true_or, or_false, false_or, Option.some.injEq, Sum.inl.injEq, Sum.inr.injEq, exists_eq_left', exists_eq_left, Int.reduceLE, Int.reduceLT, Int.reduceNeg, Int.reduceAdd, Int.reduceMul, Int.reduceSub, Int.reduceToNat, inR, Nat.zero_ne_one, false_and, Nat.succ_ne_zero, reduceCtorEq, false_implies, true_implies, not_false_eq_true, not_true_eq_false, Int.reduceEq, KRE, C_Bench_lay, l0, r0, e2]
    refine ⟨by omega, by omega, fun z => ?_, fun z => ?_⟩
    · refine (Row_finish_ok hr wL.1).mono (fun M' z' => ?_)
      subst z'
      have e7 : mLay M r o k r 7 = M o 2 := if_pos ⟨rfl, rfl⟩
      refine ⟨finR_eq (mFin_fin wL.1 wL.2) ⟨e7, fun j hj => ?_⟩, rowOK_fin wL, (mLay_fr M r o k).tr (mFin_fr _ _ _)⟩
      have hj2 : (j : Int) < M o 2 := by
        have : (j : Int) < mLay M r o k r 7 := hj
        omega
      simp only [rwOf, tRw, mLay]
      grind
    · refine (Timber_widthOf_ok ho ⟨by omega, by omega⟩ wT).eq ?_
      refine (Timber_isDoubtful_ok ho ⟨by omega, by omega⟩ wT).eq ?_
      have d1 := vDou_in (r := k) wT
      have e7 : mLay M r o k r 7 = M o 2 := if_pos ⟨rfl, rfl⟩
      refine (Row_put_ok hr (by omega) (by omega) (by omega) ⟨by omega, by omega⟩ d1).eq ?_
      refine K (by omega) _ _ ⟨?_, rfl⟩
      rw [e7, if_pos (by omega), vWid, vDou, e2, if_pos (by omega), if_pos (by omega), cc k (o + 1) (by omega) (by omega), cc k (o + 2) (by omega) (by omega)]
      simp only [natT]
      funext b j
      simp only [mset, mLay]
      by_cases hj : j = k
      · subst hj
        grind
      · grind
  · funext b j
    simp only [mBeg, mLay]
    grind
def benOK (M : Mm) : Prop := rowOK M 34 24 ∧ rowOK M 41 24 ∧ rowOK M 48 924
theorem isRow_34 : isRow 34 24 := ⟨rfl, rfl, rfl, rfl, rfl, rfl, rfl⟩
theorem isRow_41 : isRow 41 24 := ⟨rfl, rfl, rfl, rfl, rfl, rfl, rfl⟩
theorem isRow_48 : isRow 48 924 := ⟨rfl, rfl, rfl, rfl, rfl, rfl, rfl⟩
theorem isSld_57 : isSld 57 := rfl
theorem isFnd_58 : isFnd 58 := ⟨rfl, rfl⟩
