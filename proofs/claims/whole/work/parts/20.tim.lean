/-! TIMBER. -/
/-- a Timber's cells: the object, its widths, its doubts -/
def isTim (o : Nat) : Prop := lay o = .inr (.inl (9, [some (o + 1), some (o + 2), none, none, none, none])) ∧ lay (o + 1) = .inl (0, 24) ∧ lay (o + 2) = .inl (1, 24)
theorem isTim.ne {o f : Nat} (h : isTim o) (g : isTim f) : o ≠ f + 1 ∧ o ≠ f + 2 ∧ o + 1 ≠ f ∧ o + 1 ≠ f + 2 ∧ o + 2 ≠ f ∧ o + 2 ≠ f + 1 := by
  obtain ⟨h0, h1, h2⟩ := h
  obtain ⟨g0, g1, g2⟩ := g
  refine ⟨?_, ?_, ?_, ?_, ?_, ?_⟩ <;> intro e
  · rw [e, g1] at h0; cases h0
  · rw [e, g2] at h0; cases h0
  · rw [e, g0] at h1; cases h1
  · rw [e, g2] at h1; cases h1
  · rw [e, g0] at h2; cases h2
  · rw [e, g1] at h2; cases h2
/-- what a Timber's cells hold is in range -/
def wfT (M : Mm) (o : Nat) : Prop := (0 ≤ M o 2 ∧ M o 2 ≤ 24) ∧ (∀ j, j < 24 → 0 ≤ M (o + 1) j ∧ M (o + 1) j ≤ 99) ∧ (∀ j, j < 24 → M (o + 2) j = 0 ∨ M (o + 2) j = 1) ∧ (0 ≤ M o 3 ∧ M o 3 ≤ 30) ∧ (0 ≤ M o 4 ∧ M o 4 ≤ 30) ∧ (0 ≤ M o 5 ∧ M o 5 ≤ 3)
def vHas (M : Mm) (o : Nat) (r : Int) : Int := if 0 ≤ r ∧ r < M o 2 ∧ r < 24 then 1 else 0
def vWid (M : Mm) (o : Nat) (r : Int) : Int := if 0 ≤ r ∧ r < M o 2 ∧ r < 24 then M (o + 1) r.toNat else 0
def vDou (M : Mm) (o : Nat) (r : Int) : Int := if 0 ≤ r ∧ r < M o 2 ∧ r < 24 then M (o + 2) r.toNat else 0

set_option maxHeartbeats 4000000 in
set_option maxRecDepth 20000 in
theorem Timber_has_ok {o : Nat} {r : Int} {M : Mm} (ho : isTim o) (hr : inR r) (hw : wfT M o) : CallI m_Timber_has [.inr o, .inl r] M (fun x M' => x = vHas M o r ∧ M' = M) := by
  obtain ⟨l0, l1, l2⟩ := ho
  obtain ⟨w0, -⟩ := hw
  refine callP_of (by decide) (by decide) (Nat.le_of_ble_eq_true rfl) (wpm_of (cuts := []) (by decide) 50 _ _ _ _ ?_)
  rw [show lM m_Timber_has = 2 from rfl]
  simp (maxSteps := 2000000) only [↓reduceIte, wp_eq, wpd_eq, kont_eq, STP1, STP2, STP3, STP4, STP5, konM_eq, AMK, CZ, Option.map, List.getElem?_cons_zero, List.getElem?_cons_succ, List.mem_cons, List.not_mem_nil, if_false, if_true, Nat.reduceAdd, Nat.reduceLT, Nat.reduceLeDiff, Nat.reduceEqDiff, true_and, and_true, List.length_nil, List.length_cons, or_true, true_or, or_false, false_or, Option.some.injEq, Sum.inl.injEq, Sum.inr.injEq, exists_eq_left', exists_eq_left, Int.reduceLE, Int.reduceLT, Int.reduceNeg, Int.reduceAdd, Int.reduceMul, Int.reduceSub, Int.reduceToNat, inR, Nat.zero_ne_one, false_and, Nat.succ_ne_zero, reduceCtorEq, false_implies, true_implies, not_false_eq_true, not_true_eq_false, Int.reduceEq, C_Timber_has, l0, l1, l2]
  simp only [inR, vHas] at *
  grind
set_option maxHeartbeats 4000000 in
set_option maxRecDepth 20000 in
theorem Timber_widthOf_ok {o : Nat} {r : Int} {M : Mm} (ho : isTim o) (hr : inR r) (hw : wfT M o) : CallI m_Timber_widthOf [.inr o, .inl r] M (fun x M' => x = vWid M o r ∧ M' = M) := by
  obtain ⟨l0, l1, l2⟩ := ho
  obtain ⟨w0, -⟩ := hw
  refine callP_of (by decide) (by decide) (Nat.le_of_ble_eq_true rfl) (wpm_of (cuts := []) (by decide) 50 _ _ _ _ ?_)
  rw [show lM m_Timber_widthOf = 2 from rfl]
  simp (maxSteps := 2000000) only [↓reduceIte, wp_eq, wpd_eq, kont_eq, STP1, STP2, STP3, STP4, STP5, konM_eq, AMK, CZ, Option.map, List.getElem?_cons_zero, List.getElem?_cons_succ, List.mem_cons, List.not_mem_nil, if_false, if_true, Nat.reduceAdd, Nat.reduceLT, Nat.reduceLeDiff, Nat.reduceEqDiff, true_and, and_true, List.length_nil, List.length_cons, or_true, true_or, or_false, false_or, Option.some.injEq, Sum.inl.injEq, Sum.inr.injEq, exists_eq_left', exists_eq_left, Int.reduceLE, Int.reduceLT, Int.reduceNeg, Int.reduceAdd, Int.reduceMul, Int.reduceSub, Int.reduceToNat, inR, Nat.zero_ne_one, false_and, Nat.succ_ne_zero, reduceCtorEq, false_implies, true_implies, not_false_eq_true, not_true_eq_false, Int.reduceEq, C_Timber_widthOf, l0, l1, l2]
  simp only [inR, vWid] at *
  grind
set_option maxHeartbeats 4000000 in
set_option maxRecDepth 20000 in
theorem Timber_isDoubtful_ok {o : Nat} {r : Int} {M : Mm} (ho : isTim o) (hr : inR r) (hw : wfT M o) : CallI m_Timber_isDoubtful [.inr o, .inl r] M (fun x M' => x = vDou M o r ∧ M' = M) := by
  obtain ⟨l0, l1, l2⟩ := ho
  obtain ⟨w0, -, w2, -⟩ := hw
  refine callP_of (by decide) (by decide) (Nat.le_of_ble_eq_true rfl) (wpm_of (cuts := []) (by decide) 50 _ _ _ _ ?_)
  rw [show lM m_Timber_isDoubtful = 2 from rfl]
  simp (maxSteps := 2000000) only [↓reduceIte, wp_eq, wpd_eq, kont_eq, STP1, STP2, STP3, STP4, STP5, konM_eq, AMK, CZ, Option.map, List.getElem?_cons_zero, List.getElem?_cons_succ, List.mem_cons, List.not_mem_nil, if_false, if_true, Nat.reduceAdd, Nat.reduceLT, Nat.reduceLeDiff, Nat.reduceEqDiff, true_and, and_true, List.length_nil, List.length_cons, or_true, true_or, or_false, false_or, Option.some.injEq, Sum.inl.injEq, Sum.inr.injEq, exists_eq_left', exists_eq_left, Int.reduceLE, Int.reduceLT, Int.reduceNeg, Int.reduceAdd, Int.reduceMul, Int.reduceSub, Int.reduceToNat, inR, Nat.zero_ne_one, false_and, Nat.succ_ne_zero, reduceCtorEq, false_implies, true_implies, not_false_eq_true, not_true_eq_false, Int.reduceEq, C_Timber_isDoubtful, l0, l1, l2]
  have h9 := w2 r.toNat
  simp only [inR, vDou] at *
  grind
set_option maxHeartbeats 4000000 in
set_option maxRecDepth 20000 in
theorem Integer_compare_ok {x y : Int} {M : Mm} (hx : inR x) (hy : inR y) : CallI m_Integer_compare [.inl x, .inl y] M (fun z M' => z = vCmp x y ∧ M' = M) := by
  refine callP_of (by decide) (by decide) (Nat.le_of_ble_eq_true rfl) (wpm_of (cuts := []) (by decide) 50 _ _ _ _ ?_)
  rw [show lM m_Integer_compare = 2 from rfl]
  simp (maxSteps := 2000000) only [↓reduceIte, wp_eq, wpd_eq, kont_eq, STP1, STP2, STP3, STP4, STP5, konM_eq, AMK, CZ, Option.map, List.getElem?_cons_zero, List.getElem?_cons_succ, List.mem_cons, List.not_mem_nil, if_false, if_true, Nat.reduceAdd, Nat.reduceLT, Nat.reduceLeDiff, Nat.reduceEqDiff, true_and, and_true, List.length_nil, List.length_cons, or_true, true_or, or_false, false_or, Option.some.injEq, Sum.inl.injEq, Sum.inr.injEq, exists_eq_left', exists_eq_left, Int.reduceLE, Int.reduceLT, Int.reduceNeg, Int.reduceAdd, Int.reduceMul, Int.reduceSub, Int.reduceToNat, inR, Nat.zero_ne_one, false_and, Nat.succ_ne_zero, reduceCtorEq, false_implies, true_implies, not_false_eq_true, not_true_eq_false, Int.reduceEq, C_Integer_compare]
  simp only [inR, vCmp] at *
  grind
theorem vWid_in {M : Mm} {o : Nat} {r : Int} (hw : wfT M o) : 0 ≤ vWid M o r ∧ vWid M o r ≤ 99 := by
  unfold vWid
  split
  · exact hw.2.1 _ (by omega)
  · omega
theorem vDou_in {M : Mm} {o : Nat} {r : Int} (hw : wfT M o) : vDou M o r = 0 ∨ vDou M o r = 1 := by
  unfold vDou
  split
  · exact hw.2.2.1 _ (by omega)
  · exact Or.inl rfl
set_option maxHeartbeats 4000000 in
set_option maxRecDepth 20000 in
theorem Timber_stepOf_ok {o : Nat} {r : Int} {M : Mm} (ho : isTim o) (hr : inR r) (hr1 : inR (r - 1)) (hw : wfT M o) : CallI m_Timber_stepOf [.inr o, .inl r] M (fun x M' => x = vCmp (vWid M o r) (vWid M o (r - 1)) ∧ M' = M) := by
  have l0 := ho.1
  refine callP_of (by decide) (by decide) (Nat.le_of_ble_eq_true rfl) (wpm_of (cuts := []) (by decide) 50 _ _ _ _ ?_)
  rw [show lM m_Timber_stepOf = 2 from rfl]
  simp (maxSteps := 2000000) only [↓reduceIte, wp_eq, wpd_eq, kont_eq, STP1, STP2, STP3, STP4, STP5, konM_eq, AMK, CZ, Option.map, List.getElem?_cons_zero, List.getElem?_cons_succ, List.mem_cons, List.not_mem_nil, if_false, if_true, Nat.reduceAdd, Nat.reduceLT, Nat.reduceLeDiff, Nat.reduceEqDiff, true_and, and_true, List.length_nil, List.length_cons, or_true, true_or, or_false, false_or, Option.some.injEq, Sum.inl.injEq, Sum.inr.injEq, exists_eq_left', exists_eq_left, Int.reduceLE, Int.reduceLT, Int.reduceNeg, Int.reduceAdd, Int.reduceMul, Int.reduceSub, Int.reduceToNat, inR, Nat.zero_ne_one, false_and, Nat.succ_ne_zero, reduceCtorEq, false_implies, true_implies, not_false_eq_true, not_true_eq_false, Int.reduceEq, C_Timber_stepOf, l0]
  have h1 := vWid_in (r := r) hw
  have h2 := vWid_in (r := r - 1) hw
  refine (Timber_widthOf_ok ho hr hw).mono (fun x M' z => ?_)
  obtain ⟨rfl, rfl⟩ := z
  refine (Timber_widthOf_ok ho hr1 hw).mono (fun x M' z => ?_)
  obtain ⟨rfl, rfl⟩ := z
  refine (Integer_compare_ok ⟨by omega, by omega⟩ ⟨by omega, by omega⟩).mono (fun x M' z => ?_)
  exact z
set_option maxHeartbeats 4000000 in
set_option maxRecDepth 20000 in
theorem Timber_begin_ok {o : Nat} {a b : Int} {M : Mm} (ho : isTim o) : CallV m_Timber_begin [.inr o, .inl a, .inl b] M (fun M' => M' = mset (mset (mset (mset M o 2 0) o 3 a) o 4 b) o 5 0) := by
  obtain ⟨l0, l1, l2⟩ := ho
  refine callP_of (by decide) (by decide) (Nat.le_of_ble_eq_true rfl) (wpm_of (cuts := []) (by decide) 50 _ _ _ _ ?_)
  rw [show lM m_Timber_begin = 3 from rfl]
  simp (maxSteps := 2000000) only [↓reduceIte, wp_eq, wpd_eq, kont_eq, STP1, STP2, STP3, STP4, STP5, konM_eq, AMK, CZ, Option.map, List.getElem?_cons_zero, List.getElem?_cons_succ, List.mem_cons, List.not_mem_nil, if_false, if_true, Nat.reduceAdd, Nat.reduceLT, Nat.reduceLeDiff, Nat.reduceEqDiff, true_and, and_true, List.length_nil, List.length_cons, or_true, true_or, or_false, false_or, Option.some.injEq, Sum.inl.injEq, Sum.inr.injEq, exists_eq_left', exists_eq_left, Int.reduceLE, Int.reduceLT, Int.reduceNeg, Int.reduceAdd, Int.reduceMul, Int.reduceSub, Int.reduceToNat, inR, Nat.zero_ne_one, false_and, Nat.succ_ne_zero, reduceCtorEq, false_implies, true_implies, not_false_eq_true, not_true_eq_false, Int.reduceEq, C_Timber_begin, l0, l1, l2]
/-- widths and doubts of the places below i out of f, the rest as it was -/
def mCp (M : Mm) (o f : Nat) (i : Int) : Mm := fun b j => if b = o + 1 ∧ (j : Int) < i then M (f + 1) j else if b = o + 2 ∧ (j : Int) < i then M (f + 2) j else M b j
set_option maxHeartbeats 4000000 in
set_option maxRecDepth 20000 in
theorem Timber_copyFrom_lp {o f : Nat} {M : Mm} {Qc : Option AV → Mm → Prop} (ho : isTim o) (hf : isTim f) (hw : wfT M f) (hq : Qc none (mset (mset (mset (mset (mCp M o f 24) o 2 (M f 2)) o 3 (M f 3)) o 4 (M f 4)) o 5 (M f 5))) :
    ∀ (n : Nat) (i : Int) (M1 : Mm), (24 - i).toNat ≤ n → 0 ≤ i → i ≤ 24 → M1 = mCp M o f i → WPm m_Timber_copyFrom Qc 2 [some (.inr o), some (.inr f), some (.inl i)] [] M1 := by
  obtain ⟨l0, l1, l2⟩ := id ho
  obtain ⟨g0, g1, g2⟩ := id hf
  have ne := ho.ne hf
  have ne2 := hf.ne ho
  intro n
  induction n with
  | zero =>
    intro i M1 hn h0 h1 hM
    obtain rfl : i = 24 := by omega
    refine wpm_of (cuts := [2]) (by decide) 100 _ _ _ _ ?_
    simp (maxSteps := 2000000) only [↓reduceIte, wp_eq, wpd_eq, kont_eq, STP1, STP2, STP3, STP4, STP5, konM_eq, AMK, CZ, Option.map, List.getElem?_cons_zero, List.getElem?_cons_succ, List.mem_cons, List.not_mem_nil, if_false, if_true, Nat.reduceAdd, Nat.reduceLT, Nat.reduceLeDiff, Nat.reduceEqDiff, true_and, and_true, List.length_nil, List.length_cons, or_true, true_or, or_false, false_or, Option.some.injEq, Sum.inl.injEq, Sum.inr.injEq, exists_eq_left', exists_eq_left, Int.reduceLE, Int.reduceLT, Int.reduceNeg, Int.reduceAdd, Int.reduceMul, Int.reduceSub, Int.reduceToNat, inR, Nat.zero_ne_one, false_and, Nat.succ_ne_zero, reduceCtorEq, false_implies, true_implies, not_false_eq_true, not_true_eq_false, Int.reduceEq, C_Timber_copyFrom, l0, l1, l2, g0, g1, g2]
    subst hM
    refine cast (congrArg (Qc none) ?_) hq
    funext b j
    simp only [mset, mCp]
    grind
  | succ n ih =>
    intro i M1 hn h0 h1 hM
    refine wpm_of (cuts := [2]) (by decide) 100 _ _ _ _ ?_
    simp (maxSteps := 2000000) only [↓reduceIte, wp_eq, wpd_eq, kont_eq, STP1, STP2, STP3, STP4, STP5, konM_eq, AMK, CZ, Option.map, List.getElem?_cons_zero, List.getElem?_cons_succ, List.mem_cons, List.not_mem_nil, if_false, if_true, Nat.reduceAdd, Nat.reduceLT, Nat.reduceLeDiff, Nat.reduceEqDiff, true_and, and_true, List.length_nil, List.length_cons, or_true, true_or, or_false, false_or, Option.some.injEq, Sum.inl.injEq, Sum.inr.injEq, exists_eq_left', exists_eq_left, Int.reduceLE, Int.reduceLT, Int.reduceNeg, Int.reduceAdd, Int.reduceMul, Int.reduceSub, Int.reduceToNat, inR, Nat.zero_ne_one, false_and, Nat.succ_ne_zero, reduceCtorEq, false_implies, true_implies, not_false_eq_true, not_true_eq_false, Int.reduceEq, C_Timber_copyFrom, l0, l1, l2, g0, g1, g2]
    subst hM
    have w2 := hw.2.2.1 i.toNat
    refine ⟨by omega, fun z => ?_, fun z => ⟨by omega, by omega, by omega, by omega, ?_, ?_⟩⟩
    · refine cast (congrArg (Qc none) ?_) hq
      funext b j
      simp only [mset, mCp]
      grind
    · simp only [mset, mCp]
      grind
    · refine ih (i + 1) _ (by omega) (by omega) (by omega) ?_
      funext b j
      simp only [mset, mCp]
      grind
set_option maxHeartbeats 4000000 in
set_option maxRecDepth 20000 in
theorem Timber_copyFrom_ok {o f : Nat} {M : Mm} (ho : isTim o) (hf : isTim f) (hw : wfT M f) : CallV m_Timber_copyFrom [.inr o, .inr f] M (fun M' => M' = mset (mset (mset (mset (mCp M o f 24) o 2 (M f 2)) o 3 (M f 3)) o 4 (M f 4)) o 5 (M f 5)) := by
  obtain ⟨l0, l1, l2⟩ := id ho
  refine callP_of (by decide) (by decide) (Nat.le_of_ble_eq_true rfl) (wpm_of (cuts := [2]) (by decide) 50 _ _ _ _ ?_)
  rw [show lM m_Timber_copyFrom = 3 from rfl]
  simp (maxSteps := 2000000) only [↓reduceIte, wp_eq, wpd_eq, kont_eq, STP1, STP2, STP3, STP4, STP5, konM_eq, AMK, CZ, Option.map, List.getElem?_cons_zero, List.getElem?_cons_succ, List.mem_cons, List.not_mem_nil, if_false, if_true, Nat.reduceAdd, Nat.reduceLT, Nat.reduceLeDiff, Nat.reduceEqDiff, true_and, and_true, List.length_nil, List.length_cons, or_true, true_or, or_false, false_or, Option.some.injEq, Sum.inl.injEq, Sum.inr.injEq, exists_eq_left', exists_eq_left, Int.reduceLE, Int.reduceLT, Int.reduceNeg, Int.reduceAdd, Int.reduceMul, Int.reduceSub, Int.reduceToNat, inR, Nat.zero_ne_one, false_and, Nat.succ_ne_zero, reduceCtorEq, false_implies, true_implies, not_false_eq_true, not_true_eq_false, Int.reduceEq, C_Timber_copyFrom, l0, l1, l2]
  refine Timber_copyFrom_lp ho hf hw ⟨rfl, rfl⟩ 24 0 M (by omega) (by omega) (by omega) ?_
  funext b j
  simp only [mCp]
  grind
set_option maxHeartbeats 4000000 in
set_option maxRecDepth 20000 in
theorem Timber_canLose_ok {o : Nat} {r : Int} {M : Mm} (ho : isTim o) (hr : inR r) (hw : wfT M o) : CallI m_Timber_canLose [.inr o, .inl r] M (fun x M' => x = (if 3 < M o 2 then vDou M o r else 0) ∧ M' = M) := by
  have l0 := ho.1
  have w0 := hw.1
  refine callP_of (by decide) (by decide) (Nat.le_of_ble_eq_true rfl) (wpm_of (cuts := []) (by decide) 50 _ _ _ _ ?_)
  rw [show lM m_Timber_canLose = 2 from rfl]
  simp (maxSteps := 2000000) only [↓reduceIte, wp_eq, wpd_eq, kont_eq, STP1, STP2, STP3, STP4, STP5, konM_eq, AMK, CZ, Option.map, List.getElem?_cons_zero, List.getElem?_cons_succ, List.mem_cons, List.not_mem_nil, if_false, if_true, Nat.reduceAdd, Nat.reduceLT, Nat.reduceLeDiff, Nat.reduceEqDiff, true_and, and_true, List.length_nil, List.length_cons, or_true, true_or, or_false, false_or, Option.some.injEq, Sum.inl.injEq, Sum.inr.injEq, exists_eq_left', exists_eq_left, Int.reduceLE, Int.reduceLT, Int.reduceNeg, Int.reduceAdd, Int.reduceMul, Int.reduceSub, Int.reduceToNat, inR, Nat.zero_ne_one, false_and, Nat.succ_ne_zero, reduceCtorEq, false_implies, true_implies, not_false_eq_true, not_true_eq_false, Int.reduceEq, C_Timber_canLose, l0]
  have h1 := vDou_in (r := r) hw
  refine ⟨by omega, fun z => by rw [if_neg (by omega)], fun z => ?_⟩
  refine (Timber_isDoubtful_ok ho hr hw).mono (fun x M' z => ?_)
  obtain ⟨rfl, rfl⟩ := z
  grind
set_option maxHeartbeats 4000000 in
set_option maxRecDepth 20000 in
theorem Timber_canGain_ok {o : Nat} {r : Int} {M : Mm} (ho : isTim o) (hr : inR r) (hw : wfT M o) : CallI m_Timber_canGain [.inr o, .inl r] M (fun x M' => x = (if M o 2 < 24 ∧ 1 ≤ r ∧ r < M o 2 then 1 else 0) ∧ M' = M) := by
  have l0 := ho.1
  have w0 := hw.1
  refine callP_of (by decide) (by decide) (Nat.le_of_ble_eq_true rfl) (wpm_of (cuts := []) (by decide) 50 _ _ _ _ ?_)
  rw [show lM m_Timber_canGain = 2 from rfl]
  simp (maxSteps := 2000000) only [↓reduceIte, wp_eq, wpd_eq, kont_eq, STP1, STP2, STP3, STP4, STP5, konM_eq, AMK, CZ, Option.map, List.getElem?_cons_zero, List.getElem?_cons_succ, List.mem_cons, List.not_mem_nil, if_false, if_true, Nat.reduceAdd, Nat.reduceLT, Nat.reduceLeDiff, Nat.reduceEqDiff, true_and, and_true, List.length_nil, List.length_cons, or_true, true_or, or_false, false_or, Option.some.injEq, Sum.inl.injEq, Sum.inr.injEq, exists_eq_left', exists_eq_left, Int.reduceLE, Int.reduceLT, Int.reduceNeg, Int.reduceAdd, Int.reduceMul, Int.reduceSub, Int.reduceToNat, inR, Nat.zero_ne_one, false_and, Nat.succ_ne_zero, reduceCtorEq, false_implies, true_implies, not_false_eq_true, not_true_eq_false, Int.reduceEq, C_Timber_canGain, l0]
  simp only [inR] at hr
  repeat' (first | omega | with_reducible apply And.intro | with_reducible intro _ | with_reducible rfl)
  refine (Timber_has_ok ho hr hw).mono (fun x M' z => ?_)
  obtain ⟨rfl, rfl⟩ := z
  simp only [vHas]
  grind
set_option maxHeartbeats 4000000 in
set_option maxRecDepth 20000 in
theorem Timber_turnDoubt_ok {o : Nat} {r : Int} {M : Mm} (ho : isTim o) (hr : inR r) (hw : wfT M o) : CallV m_Timber_turnDoubt [.inr o, .inl r] M (fun M' => M' = if 0 ≤ r ∧ r < M o 2 ∧ r < 24 then mset M (o + 2) r.toNat (1 - M (o + 2) r.toNat) else M) := by
  obtain ⟨l0, l1, l2⟩ := id ho
  have w0 := hw.1
  have w2 := hw.2.2.1 r.toNat
  refine callP_of (by decide) (by decide) (Nat.le_of_ble_eq_true rfl) (wpm_of (cuts := []) (by decide) 50 _ _ _ _ ?_)
  rw [show lM m_Timber_turnDoubt = 2 from rfl]
  simp (maxSteps := 2000000) only [↓reduceIte, wp_eq, wpd_eq, kont_eq, STP1, STP2, STP3, STP4, STP5, konM_eq, AMK, CZ, Option.map, List.getElem?_cons_zero, List.getElem?_cons_succ, List.mem_cons, List.not_mem_nil, if_false, if_true, Nat.reduceAdd, Nat.reduceLT, Nat.reduceLeDiff, Nat.reduceEqDiff, true_and, and_true, List.length_nil, List.length_cons, or_true, true_or, or_false, false_or, Option.some.injEq, Sum.inl.injEq, Sum.inr.injEq, exists_eq_left', exists_eq_left, Int.reduceLE, Int.reduceLT, Int.reduceNeg, Int.reduceAdd, Int.reduceMul, Int.reduceSub, Int.reduceToNat, inR, Nat.zero_ne_one, false_and, Nat.succ_ne_zero, reduceCtorEq, false_implies, true_implies, not_false_eq_true, not_true_eq_false, Int.reduceEq, C_Timber_turnDoubt, l0, l1, l2]
  refine (Timber_has_ok ho hr hw).mono (fun x M' z => ?_)
  obtain ⟨rfl, rfl⟩ := z
  simp only [vHas]
  grind
set_option maxHeartbeats 4000000 in
set_option maxRecDepth 20000 in
theorem Timber_addRing_ok {o : Nat} {x y : Int} {M : Mm} (ho : isTim o) (hw : wfT M o) (hy : y = 0 ∨ y = 1) : CallV m_Timber_addRing [.inr o, .inl x, .inl y] M (fun M' => M' = if M o 2 < 24 then mset (mset (mset M (o + 1) (M o 2).toNat x) (o + 2) (M o 2).toNat y) o 2 (M o 2 + 1) else M) := by
  obtain ⟨l0, l1, l2⟩ := id ho
  have w0 := hw.1
  have ne := ho.ne ho
  refine callP_of (by decide) (by decide) (Nat.le_of_ble_eq_true rfl) (wpm_of (cuts := []) (by decide) 50 _ _ _ _ ?_)
  rw [show lM m_Timber_addRing = 3 from rfl]
  simp (maxSteps := 2000000) only [↓reduceIte, wp_eq, wpd_eq, kont_eq, STP1, STP2, STP3, STP4, STP5, konM_eq, AMK, CZ, Option.map, List.getElem?_cons_zero, List.getElem?_cons_succ, List.mem_cons, List.not_mem_nil, if_false, if_true, Nat.reduceAdd, Nat.reduceLT, Nat.reduceLeDiff, Nat.reduceEqDiff, true_and, and_true, List.length_nil, List.length_cons, or_true, true_or, or_false, false_or, Option.some.injEq, Sum.inl.injEq, Sum.inr.injEq, exists_eq_left', exists_eq_left, Int.reduceLE, Int.reduceLT, Int.reduceNeg, Int.reduceAdd, Int.reduceMul, Int.reduceSub, Int.reduceToNat, inR, Nat.zero_ne_one, false_and, Nat.succ_ne_zero, reduceCtorEq, false_implies, true_implies, not_false_eq_true, not_true_eq_false, Int.reduceEq, C_Timber_addRing, l0, l1, l2]
  have e1 : mset M (o + 1) (M o 2).toNat x o 2 = M o 2 := by simp only [mset]; grind
  have e2 : mset (mset M (o + 1) (M o 2).toNat x) (o + 2) (M o 2).toNat y o 2 = M o 2 := by simp only [mset]; grind
  rw [e1, e2]
  grind
set_option maxHeartbeats 4000000 in
set_option maxRecDepth 20000 in
theorem Timber_allWidths_lp {o : Nat} {M : Mm} {Qc : Option AV → Mm → Prop} (ho : isTim o) (hw : wfT M o) (hq : Qc (some (.inl (sumI (fun r => M (o + 1) r) (M o 2)))) M) :
    ∀ (n : Nat) (i : Int), (M o 2 - i).toNat ≤ n → 0 ≤ i → i ≤ M o 2 → WPm m_Timber_allWidths Qc 4 [some (.inr o), some (.inl (sumI (fun r => M (o + 1) r) i)), some (.inl i)] [] M := by
  have l0 := ho.1
  have w0 := hw.1
  intro n
  induction n with
  | zero =>
    intro i hn h0 h1
    refine wpm_of (cuts := [4]) (by decide) 100 _ _ _ _ ?_
    simp (maxSteps := 2000000) only [↓reduceIte, wp_eq, wpd_eq, kont_eq, STP1, STP2, STP3, STP4, STP5, konM_eq, AMK, CZ, Option.map, List.getElem?_cons_zero, List.getElem?_cons_succ, List.mem_cons, List.not_mem_nil, if_false, if_true, Nat.reduceAdd, Nat.reduceLT, Nat.reduceLeDiff, Nat.reduceEqDiff, true_and, and_true, List.length_nil, List.length_cons, or_true, true_or, or_false, false_or, Option.some.injEq, Sum.inl.injEq, Sum.inr.injEq, exists_eq_left', exists_eq_left, Int.reduceLE, Int.reduceLT, Int.reduceNeg, Int.reduceAdd, Int.reduceMul, Int.reduceSub, Int.reduceToNat, inR, Nat.zero_ne_one, false_and, Nat.succ_ne_zero, reduceCtorEq, false_implies, true_implies, not_false_eq_true, not_true_eq_false, Int.reduceEq, C_Timber_allWidths, l0]
    refine ⟨by omega, by omega, fun z => ?_, fun z => absurd z (by omega)⟩
    rw [show i = M o 2 by omega]
    exact hq
  | succ n ih =>
    intro i hn h0 h1
    refine wpm_of (cuts := [4]) (by decide) 100 _ _ _ _ ?_
    simp (maxSteps := 2000000) only [↓reduceIte, wp_eq, wpd_eq, kont_eq, STP1, STP2, STP3, STP4, STP5, konM_eq, AMK, CZ, Option.map, List.getElem?_cons_zero, List.getElem?_cons_succ, List.mem_cons, List.not_mem_nil, if_false, if_true, Nat.reduceAdd, Nat.reduceLT, Nat.reduceLeDiff, Nat.reduceEqDiff, true_and, and_true, List.length_nil, List.length_cons, or_true, true_or, or_false, false_or, Option.some.injEq, Sum.inl.injEq, Sum.inr.injEq, exists_eq_left', exists_eq_left, Int.reduceLE, Int.reduceLT, Int.reduceNeg, Int.reduceAdd, Int.reduceMul, Int.reduceSub, Int.reduceToNat, inR, Nat.zero_ne_one, false_and, Nat.succ_ne_zero, reduceCtorEq, false_implies, true_implies, not_false_eq_true, not_true_eq_false, Int.reduceEq, C_Timber_allWidths, l0]
    refine ⟨by omega, by omega, fun z => ?_, fun z => ?_⟩
    · rw [show i = M o 2 by omega]
      exact hq
    · refine (Timber_widthOf_ok ho ⟨by omega, by omega⟩ hw).mono (fun x M' z => ?_)
      obtain ⟨rfl, rfl⟩ := z
      have e : sumI (fun r => M' (o + 1) r) i + vWid M' o i = sumI (fun r => M' (o + 1) r) (i + 1) := by
        rw [sumI_succ _ h0, vWid, if_pos (by omega)]
      rw [e]
      exact ih (i + 1) (by omega) (by omega) (by omega)
set_option maxHeartbeats 4000000 in
set_option maxRecDepth 20000 in
theorem Timber_allWidths_ok {o : Nat} {M : Mm} (ho : isTim o) (hw : wfT M o) : CallI m_Timber_allWidths [.inr o] M (fun x M' => x = sumI (fun r => M (o + 1) r) (M o 2) ∧ M' = M) := by
  have l0 := ho.1
  have w0 := hw.1
  refine callP_of (by decide) (by decide) (Nat.le_of_ble_eq_true rfl) (wpm_of (cuts := [4]) (by decide) 50 _ _ _ _ ?_)
  rw [show lM m_Timber_allWidths = 3 from rfl]
  simp (maxSteps := 2000000) only [↓reduceIte, wp_eq, wpd_eq, kont_eq, STP1, STP2, STP3, STP4, STP5, konM_eq, AMK, CZ, Option.map, List.getElem?_cons_zero, List.getElem?_cons_succ, List.mem_cons, List.not_mem_nil, if_false, if_true, Nat.reduceAdd, Nat.reduceLT, Nat.reduceLeDiff, Nat.reduceEqDiff, true_and, and_true, List.length_nil, List.length_cons, or_true, true_or, or_false, false_or, Option.some.injEq, Sum.inl.injEq, Sum.inr.injEq, exists_eq_left', exists_eq_left, Int.reduceLE, Int.reduceLT, Int.reduceNeg, Int.reduceAdd, Int.reduceMul, Int.reduceSub, Int.reduceToNat, inR, Nat.zero_ne_one, false_and, Nat.succ_ne_zero, reduceCtorEq, false_implies, true_implies, not_false_eq_true, not_true_eq_false, Int.reduceEq, C_Timber_allWidths, l0]
  exact Timber_allWidths_lp ho hw ⟨_, rfl, rfl, rfl⟩ _ 0 (Nat.le_refl _) (by omega) (by omega)
set_option maxHeartbeats 4000000 in
set_option maxRecDepth 20000 in
theorem Timber_countDoubtful_lp {o : Nat} {M : Mm} {Qc : Option AV → Mm → Prop} (ho : isTim o) (hw : wfT M o) (hq : Qc (some (.inl (sumI (fun r => M (o + 2) r) (M o 2)))) M) :
    ∀ (n : Nat) (i : Int), (M o 2 - i).toNat ≤ n → 0 ≤ i → i ≤ M o 2 → WPm m_Timber_countDoubtful Qc 4 [some (.inr o), some (.inl (sumI (fun r => M (o + 2) r) i)), some (.inl i)] [] M := by
  have l0 := ho.1
  have w0 := hw.1
  intro n
  induction n with
  | zero =>
    intro i hn h0 h1
    refine wpm_of (cuts := [4]) (by decide) 100 _ _ _ _ ?_
    simp (maxSteps := 2000000) only [↓reduceIte, wp_eq, wpd_eq, kont_eq, STP1, STP2, STP3, STP4, STP5, konM_eq, AMK, CZ, Option.map, List.getElem?_cons_zero, List.getElem?_cons_succ, List.mem_cons, List.not_mem_nil, if_false, if_true, Nat.reduceAdd, Nat.reduceLT, Nat.reduceLeDiff, Nat.reduceEqDiff, true_and, and_true, List.length_nil, List.length_cons, or_true, true_or, or_false, false_or, Option.some.injEq, Sum.inl.injEq, Sum.inr.injEq, exists_eq_left', exists_eq_left, Int.reduceLE, Int.reduceLT, Int.reduceNeg, Int.reduceAdd, Int.reduceMul, Int.reduceSub, Int.reduceToNat, inR, Nat.zero_ne_one, false_and, Nat.succ_ne_zero, reduceCtorEq, false_implies, true_implies, not_false_eq_true, not_true_eq_false, Int.reduceEq, C_Timber_countDoubtful, l0]
    refine ⟨by omega, by omega, fun z => ?_, fun z => absurd z (by omega)⟩
    rw [show i = M o 2 by omega]
    exact hq
  | succ n ih =>
    intro i hn h0 h1
    refine wpm_of (cuts := [4]) (by decide) 100 _ _ _ _ ?_
    simp (maxSteps := 2000000) only [↓reduceIte, wp_eq, wpd_eq, kont_eq, STP1, STP2, STP3, STP4, STP5, konM_eq, AMK, CZ, Option.map, List.getElem?_cons_zero, List.getElem?_cons_succ, List.mem_cons, List.not_mem_nil, if_false, if_true, Nat.reduceAdd, Nat.reduceLT, Nat.reduceLeDiff, Nat.reduceEqDiff, true_and, and_true, List.length_nil, List.length_cons, or_true, true_or, or_false, false_or, Option.some.injEq, Sum.inl.injEq, Sum.inr.injEq, exists_eq_left', exists_eq_left, Int.reduceLE, Int.reduceLT, Int.reduceNeg, Int.reduceAdd, Int.reduceMul, Int.reduceSub, Int.reduceToNat, inR, Nat.zero_ne_one, false_and, Nat.succ_ne_zero, reduceCtorEq, false_implies, true_implies, not_false_eq_true, not_true_eq_false, Int.reduceEq, C_Timber_countDoubtful, l0]
    refine ⟨by omega, by omega, fun z => ?_, fun z => ?_⟩
    · rw [show i = M o 2 by omega]
      exact hq
    · refine (Timber_isDoubtful_ok ho ⟨by omega, by omega⟩ hw).mono (fun x M' z => ?_)
      obtain ⟨rfl, rfl⟩ := z
      have hd := vDou_in (r := i) hw
      have e : sumI (fun r => M' (o + 2) r) i + vDou M' o i = sumI (fun r => M' (o + 2) r) (i + 1) := by
        rw [sumI_succ _ h0, vDou, if_pos (by omega)]
      have K := ih (i + 1) (by omega) (by omega) (by omega)
      rw [← e] at K
      repeat (refine ⟨by omega, ?_⟩)
      refine ⟨fun z => ?_, fun z => ?_⟩
      · rw [z] at K
        exact K
      · rw [show vDou M' o i = 1 by omega] at K
        exact K
set_option maxHeartbeats 4000000 in
set_option maxRecDepth 20000 in
theorem Timber_countDoubtful_ok {o : Nat} {M : Mm} (ho : isTim o) (hw : wfT M o) : CallI m_Timber_countDoubtful [.inr o] M (fun x M' => x = sumI (fun r => M (o + 2) r) (M o 2) ∧ M' = M) := by
  have l0 := ho.1
  have w0 := hw.1
  refine callP_of (by decide) (by decide) (Nat.le_of_ble_eq_true rfl) (wpm_of (cuts := [4]) (by decide) 50 _ _ _ _ ?_)
  rw [show lM m_Timber_countDoubtful = 3 from rfl]
  simp (maxSteps := 2000000) only [↓reduceIte, wp_eq, wpd_eq, kont_eq, STP1, STP2, STP3, STP4, STP5, konM_eq, AMK, CZ, Option.map, List.getElem?_cons_zero, List.getElem?_cons_succ, List.mem_cons, List.not_mem_nil, if_false, if_true, Nat.reduceAdd, Nat.reduceLT, Nat.reduceLeDiff, Nat.reduceEqDiff, true_and, and_true, List.length_nil, List.length_cons, or_true, true_or, or_false, false_or, Option.some.injEq, Sum.inl.injEq, Sum.inr.injEq, exists_eq_left', exists_eq_left, Int.reduceLE, Int.reduceLT, Int.reduceNeg, Int.reduceAdd, Int.reduceMul, Int.reduceSub, Int.reduceToNat, inR, Nat.zero_ne_one, false_and, Nat.succ_ne_zero, reduceCtorEq, false_implies, true_implies, not_false_eq_true, not_true_eq_false, Int.reduceEq, C_Timber_countDoubtful, l0]
  exact Timber_countDoubtful_lp ho hw ⟨_, rfl, rfl, rfl⟩ _ 0 (Nat.le_refl _) (by omega) (by omega)
/-- a ring out -/
def mRem (M : Mm) (o : Nat) (r : Int) : Mm := fun b j => if b = o + 1 ∧ r ≤ j ∧ (j : Int) + 1 < M o 2 then M (o + 1) (j + 1) else if b = o + 2 ∧ r ≤ j ∧ (j : Int) + 1 < M o 2 then M (o + 2) (j + 1) else if b = o ∧ j = 2 then M o 2 - 1 else M b j
def mRemI (M : Mm) (o : Nat) (r i : Int) : Mm := fun b j => if b = o + 1 ∧ r ≤ j ∧ (j : Int) + 1 < i then M (o + 1) (j + 1) else if b = o + 2 ∧ r ≤ j ∧ (j : Int) + 1 < i then M (o + 2) (j + 1) else M b j
set_option maxHeartbeats 4000000 in
set_option maxRecDepth 20000 in
theorem Timber_removeRing_lp {o : Nat} {r : Int} {M : Mm} {Qc : Option AV → Mm → Prop} (ho : isTim o) (hw : wfT M o) (h0 : 0 ≤ r) (h1 : r < M o 2) (hq : Qc none (mRem M o r)) :
    ∀ (n : Nat) (i : Int) (M1 : Mm), (M o 2 - i).toNat ≤ n → r < i → i ≤ M o 2 → M1 = mRemI M o r i → WPm m_Timber_removeRing Qc 13 [some (.inr o), some (.inl r), some (.inl i)] [] M1 := by
  obtain ⟨l0, l1, l2⟩ := id ho
  have ne := ho.ne ho
  have w0 := hw.1
  have fin : mset (mRemI M o r (M o 2)) o 2 (mRemI M o r (M o 2) o 2 - 1) = mRem M o r := by
    funext b j
    simp only [mset, mRemI, mRem]
    grind
  have e2 : ∀ i, mRemI M o r i o 2 = M o 2 := by
    intro i
    simp only [mRemI]
    grind
  intro n
  induction n with
  | zero =>
    intro i M1 hn h2 h3 hM
    subst hM
    obtain rfl : i = M o 2 := by omega
    refine wpm_of (cuts := [13]) (by decide) 100 _ _ _ _ ?_
    simp (maxSteps := 2000000) only [↓reduceIte, wp_eq, wpd_eq, kont_eq, STP1, STP2, STP3, STP4, STP5, konM_eq, AMK, CZ, Option.map, List.getElem?_cons_zero, List.getElem?_cons_succ, List.mem_cons, List.not_mem_nil, if_false, if_true, Nat.reduceAdd, Nat.reduceLT, Nat.reduceLeDiff, Nat.reduceEqDiff, true_and, and_true, List.length_nil, List.length_cons, or_true, true_or, or_false, false_or, Option.some.injEq, Sum.inl.injEq, Sum.inr.injEq, exists_eq_left', exists_eq_left, Int.reduceLE, Int.reduceLT, Int.reduceNeg, Int.reduceAdd, Int.reduceMul, Int.reduceSub, Int.reduceToNat, inR, Nat.zero_ne_one, false_and, Nat.succ_ne_zero, reduceCtorEq, false_implies, true_implies, not_false_eq_true, not_true_eq_false, Int.reduceEq, C_Timber_removeRing, l0, l1, l2, e2]
    rw [e2] at fin
    rw [fin]
    repeat' (first | omega | with_reducible apply And.intro | with_reducible intro _ | with_reducible rfl)
  | succ n ih =>
    intro i M1 hn h2 h3 hM
    subst hM
    have w2 := hw.2.2.1 i.toNat
    refine wpm_of (cuts := [13]) (by decide) 100 _ _ _ _ ?_
    simp (maxSteps := 2000000) only [↓reduceIte, wp_eq, wpd_eq, kont_eq, STP1, STP2, STP3, STP4, STP5, konM_eq, AMK, CZ, Option.map, List.getElem?_cons_zero, List.getElem?_cons_succ, List.mem_cons, List.not_mem_nil, if_false, if_true, Nat.reduceAdd, Nat.reduceLT, Nat.reduceLeDiff, Nat.reduceEqDiff, true_and, and_true, List.length_nil, List.length_cons, or_true, true_or, or_false, false_or, Option.some.injEq, Sum.inl.injEq, Sum.inr.injEq, exists_eq_left', exists_eq_left, Int.reduceLE, Int.reduceLT, Int.reduceNeg, Int.reduceAdd, Int.reduceMul, Int.reduceSub, Int.reduceToNat, inR, Nat.zero_ne_one, false_and, Nat.succ_ne_zero, reduceCtorEq, false_implies, true_implies, not_false_eq_true, not_true_eq_false, Int.reduceEq, C_Timber_removeRing, l0, l1, l2, e2]
    repeat' (first | omega | with_reducible apply And.intro | with_reducible intro _ | with_reducible rfl)
    · rw [e2] at fin
      rw [show i = M o 2 by omega, fin]
      exact hq
    · simp only [mset, mRemI]
      grind
    · refine ih (i + 1) _ (by omega) (by omega) (by omega) ?_
      funext b j
      simp only [mset, mRemI]
      grind
set_option maxHeartbeats 4000000 in
set_option maxRecDepth 20000 in
theorem Timber_removeRing_ok {o : Nat} {r : Int} {M : Mm} (ho : isTim o) (hr : inR r) (hw : wfT M o) : CallV m_Timber_removeRing [.inr o, .inl r] M (fun M' => M' = if 0 ≤ r ∧ r < M o 2 then mRem M o r else M) := by
  obtain ⟨l0, l1, l2⟩ := id ho
  have w0 := hw.1
  have ne := ho.ne ho
  refine callP_of (by decide) (by decide) (Nat.le_of_ble_eq_true rfl) (wpm_of (cuts := [13]) (by decide) 50 _ _ _ _ ?_)
  rw [show lM m_Timber_removeRing = 3 from rfl]
  simp (maxSteps := 2000000) only [↓reduceIte, wp_eq, wpd_eq, kont_eq, STP1, STP2, STP3, STP4, STP5, konM_eq, AMK, CZ, Option.map, List.getElem?_cons_zero, List.getElem?_cons_succ, List.mem_cons, List.not_mem_nil, if_false, if_true, Nat.reduceAdd, Nat.reduceLT, Nat.reduceLeDiff, Nat.reduceEqDiff, true_and, and_true, List.length_nil, List.length_cons, or_true, true_or, or_false, false_or, Option.some.injEq, Sum.inl.injEq, Sum.inr.injEq, exists_eq_left', exists_eq_left, Int.reduceLE, Int.reduceLT, Int.reduceNeg, Int.reduceAdd, Int.reduceMul, Int.reduceSub, Int.reduceToNat, inR, Nat.zero_ne_one, false_and, Nat.succ_ne_zero, reduceCtorEq, false_implies, true_implies, not_false_eq_true, not_true_eq_false, Int.reduceEq, C_Timber_removeRing, l0]
  refine (Timber_has_ok ho hr hw).mono (fun x M' z => ?_)
  obtain ⟨rfl, rfl⟩ := z
  simp only [vHas]
  repeat' (first | omega | with_reducible apply And.intro | with_reducible intro _ | with_reducible rfl)
  · refine Timber_removeRing_lp ho hw (by omega) (by omega) ⟨rfl, by rw [if_pos (by omega)]⟩ _ (r + 1) _ (Nat.le_refl _) (by omega) (by omega) ?_
    funext b j
    simp only [mRemI]
    grind
  · grind
/-- a ring in -/
def mIns (M : Mm) (o : Nat) (r x : Int) : Mm := fun b j => if b = o + 1 ∧ (j : Int) = r then x else if b = o + 2 ∧ (j : Int) = r then 1 else if b = o + 1 ∧ r < j ∧ (j : Int) ≤ M o 2 then M (o + 1) (j - 1) else if b = o + 2 ∧ r < j ∧ (j : Int) ≤ M o 2 then M (o + 2) (j - 1) else if b = o ∧ j = 2 then M o 2 + 1 else M b j
def mInsI (M : Mm) (o : Nat) (i : Int) : Mm := fun b j => if b = o + 1 ∧ i < j ∧ (j : Int) ≤ M o 2 then M (o + 1) (j - 1) else if b = o + 2 ∧ i < j ∧ (j : Int) ≤ M o 2 then M (o + 2) (j - 1) else M b j
set_option maxHeartbeats 4000000 in
set_option maxRecDepth 20000 in
theorem Timber_insertRing_lp {o : Nat} {r x : Int} {M : Mm} {Qc : Option AV → Mm → Prop} (ho : isTim o) (hw : wfT M o) (h0 : 0 ≤ r) (h1 : r ≤ M o 2) (h24 : M o 2 < 24) (hq : Qc none (mIns M o r x)) :
    ∀ (n : Nat) (i : Int) (M1 : Mm), (i - r).toNat ≤ n → r ≤ i → i ≤ M o 2 → M1 = mInsI M o i → WPm m_Timber_insertRing Qc 27 [some (.inr o), some (.inl r), some (.inl x), some (.inl i)] [] M1 := by
  obtain ⟨l0, l1, l2⟩ := id ho
  have ne := ho.ne ho
  have w0 := hw.1
  have e2 : ∀ i, mInsI M o i o 2 = M o 2 := by
    intro i
    simp only [mInsI]
    grind
  have e3 : mset (mset (mInsI M o r) (o + 1) r.toNat x) (o + 2) r.toNat 1 o 2 = M o 2 := by
    simp only [mset, mInsI]
    grind
  have fin : mset (mset (mset (mInsI M o r) (o + 1) r.toNat x) (o + 2) r.toNat 1) o 2 (M o 2 + 1) = mIns M o r x := by
    funext b j
    simp only [mset, mInsI, mIns]
    grind
  intro n
  induction n with
  | zero =>
    intro i M1 hn h2 h3 hM
    subst hM
    obtain rfl : i = r := by omega
    refine wpm_of (cuts := [27]) (by decide) 100 _ _ _ _ ?_
    simp (maxSteps := 2000000) only [↓reduceIte, wp_eq, wpd_eq, kont_eq, STP1, STP2, STP3, STP4, STP5, konM_eq, AMK, CZ, Option.map, List.getElem?_cons_zero, List.getElem?_cons_succ, List.mem_cons, List.not_mem_nil, if_false, if_true, Nat.reduceAdd, Nat.reduceLT, Nat.reduceLeDiff, Nat.reduceEqDiff, true_and, and_true, List.length_nil, List.length_cons, or_true, true_or, or_false, false_or, Option.some.injEq, Sum.inl.injEq, Sum.inr.injEq, exists_eq_left', exists_eq_left, Int.reduceLE, Int.reduceLT, Int.reduceNeg, Int.reduceAdd, Int.reduceMul, Int.reduceSub, Int.reduceToNat, inR, Nat.zero_ne_one, false_and, Nat.succ_ne_zero, reduceCtorEq, false_implies, true_implies, not_false_eq_true, not_true_eq_false, Int.reduceEq, C_Timber_insertRing, l0, l1, l2, e2, e3, fin]
    repeat' (first | omega | with_reducible apply And.intro | with_reducible intro _ | with_reducible rfl)
    all_goals exact hq
  | succ n ih =>
    intro i M1 hn h2 h3 hM
    subst hM
    have w2 := hw.2.2.1 (i - 1).toNat
    refine wpm_of (cuts := [27]) (by decide) 100 _ _ _ _ ?_
    simp (maxSteps := 2000000) only [↓reduceIte, wp_eq, wpd_eq, kont_eq, STP1, STP2, STP3, STP4, STP5, konM_eq, AMK, CZ, Option.map, List.getElem?_cons_zero, List.getElem?_cons_succ, List.mem_cons, List.not_mem_nil, if_false, if_true, Nat.reduceAdd, Nat.reduceLT, Nat.reduceLeDiff, Nat.reduceEqDiff, true_and, and_true, List.length_nil, List.length_cons, or_true, true_or, or_false, false_or, Option.some.injEq, Sum.inl.injEq, Sum.inr.injEq, exists_eq_left', exists_eq_left, Int.reduceLE, Int.reduceLT, Int.reduceNeg, Int.reduceAdd, Int.reduceMul, Int.reduceSub, Int.reduceToNat, inR, Nat.zero_ne_one, false_and, Nat.succ_ne_zero, reduceCtorEq, false_implies, true_implies, not_false_eq_true, not_true_eq_false, Int.reduceEq, C_Timber_insertRing, l0, l1, l2, e2]
    repeat' (first | omega | with_reducible apply And.intro | with_reducible intro _ | with_reducible rfl)
    · rw [show i = r by omega, e3, fin]
      exact hq
    · simp only [mset, mInsI]
      grind
    · refine ih (i + -1) _ (by omega) (by omega) (by omega) ?_
      funext b j
      simp only [mset, mInsI]
      grind
set_option maxHeartbeats 4000000 in
set_option maxRecDepth 20000 in
theorem Timber_insertRing_ok {o : Nat} {r x : Int} {M : Mm} (ho : isTim o) (hr : inR r) (hw : wfT M o) : CallV m_Timber_insertRing [.inr o, .inl r, .inl x] M (fun M' => M' = if 0 ≤ r ∧ r ≤ M o 2 ∧ M o 2 < 24 then mIns M o r x else M) := by
  obtain ⟨l0, l1, l2⟩ := id ho
  have w0 := hw.1
  have ne := ho.ne ho
  simp only [inR] at hr
  refine callP_of (by decide) (by decide) (Nat.le_of_ble_eq_true rfl) (wpm_of (cuts := [27]) (by decide) 50 _ _ _ _ ?_)
  rw [show lM m_Timber_insertRing = 4 from rfl]
  simp (maxSteps := 2000000) only [↓reduceIte, wp_eq, wpd_eq, kont_eq, STP1, STP2, STP3, STP4, STP5, konM_eq, AMK, CZ, Option.map, List.getElem?_cons_zero, List.getElem?_cons_succ, List.mem_cons, List.not_mem_nil, if_false, if_true, Nat.reduceAdd, Nat.reduceLT, Nat.reduceLeDiff, Nat.reduceEqDiff, true_and, and_true, List.length_nil, List.length_cons, or_true, true_or, or_false, false_or, Option.some.injEq, Sum.inl.injEq, Sum.inr.injEq, exists_eq_left', exists_eq_left, Int.reduceLE, Int.reduceLT, Int.reduceNeg, Int.reduceAdd, Int.reduceMul, Int.reduceSub, Int.reduceToNat, inR, Nat.zero_ne_one, false_and, Nat.succ_ne_zero, reduceCtorEq, false_implies, true_implies, not_false_eq_true, not_true_eq_false, Int.reduceEq, C_Timber_insertRing, l0, l1, l2]
  repeat' (first | omega | with_reducible apply And.intro | with_reducible intro _ | with_reducible rfl)
  · rw [if_neg (by omega)]
  · rw [if_neg (by omega)]
  · refine Timber_insertRing_lp ho hw (by omega) (by omega) (by omega) ⟨rfl, by rw [if_pos (by omega)]⟩ _ (M o 2) _ (Nat.le_refl _) (by omega) (by omega) ?_
    funext b j
    simp only [mInsI]
    grind
  · rw [if_neg (by omega)]
/-- n drawn rings -/
def mDrw (M : Mm) (o : Nat) (g : Nat → Int) (i : Int) : Mm := fun b j => if b = o + 1 ∧ (j : Int) < i then g j else if b = o + 2 ∧ (j : Int) < i then 0 else if b = o ∧ j = 2 then i else if b = o ∧ (j = 3 ∨ j = 4 ∨ j = 5) then 0 else M b j
/-- the rings drawn from a seed -/
def drG (x : Int) : Nat → Int := fun j => drw (lcgN (j + 1) x)
theorem mDrw_wf {M : Mm} {o : Nat} {g : Nat → Int} {i : Int} (ho : isTim o) (hw : wfT M o) (h0 : 0 ≤ i) (h1 : i ≤ 24) (hg : ∀ j, 1 ≤ g j ∧ g j ≤ 99) : wfT (mDrw M o g i) o := by
  have ne := ho.ne ho
  obtain ⟨w0, w1, w2, w3⟩ := hw
  refine ⟨?_, fun j hj => ?_, fun j hj => ?_, ?_⟩
  · simp only [mDrw]; grind
  · have := hg j
    have := w1 j hj
    simp only [mDrw]; grind
  · have := w2 j hj
    simp only [mDrw]; grind
  · simp only [mDrw]; grind
set_option maxHeartbeats 4000000 in
set_option maxRecDepth 20000 in
theorem Timber_drawRings_lp {o : Nat} {x c : Int} {M : Mm} {Qc : Option AV → Mm → Prop} (ho : isTim o) (hw : wfT M o) (hc : 0 ≤ c) (hc2 : c ≤ 24) (hq : Qc (some (.inl (lcgN c.toNat x))) (mDrw M o (drG x) c)) :
    ∀ (n : Nat) (i : Int) (M1 : Mm), (c - i).toNat ≤ n → 0 ≤ i → i ≤ c → M1 = mDrw M o (drG x) i → WPm m_Timber_drawRings Qc 11 [some (.inr o), some (.inl c), some (.inl x), some (.inl (lcgN i.toNat x)), some (.inl i)] [] M1 := by
  obtain ⟨l0, l1, l2⟩ := id ho
  have ne := ho.ne ho
  intro n
  induction n with
  | zero =>
    intro i M1 hn h2 h3 hM
    subst hM
    obtain rfl : i = c := by omega
    refine wpm_of (cuts := [11]) (by decide) 100 _ _ _ _ ?_
    simp (maxSteps := 2000000) only [↓reduceIte, wp_eq, wpd_eq, kont_eq, STP1, STP2, STP3, STP4, STP5, konM_eq, AMK, CZ, Option.map, List.getElem?_cons_zero, List.getElem?_cons_succ, List.mem_cons, List.not_mem_nil, if_false, if_true, Nat.reduceAdd, Nat.reduceLT, Nat.reduceLeDiff, Nat.reduceEqDiff, true_and, and_true, List.length_nil, List.length_cons, or_true, true_or, or_false, false_or, Option.some.injEq, Sum.inl.injEq, Sum.inr.injEq, exists_eq_left', exists_eq_left, Int.reduceLE, Int.reduceLT, Int.reduceNeg, Int.reduceAdd, Int.reduceMul, Int.reduceSub, Int.reduceToNat, inR, Nat.zero_ne_one, false_and, Nat.succ_ne_zero, reduceCtorEq, false_implies, true_implies, not_false_eq_true, not_true_eq_false, Int.reduceEq, C_Timber_drawRings, l0, l1, l2]
    repeat' (first | omega | with_reducible apply And.intro | with_reducible intro _ | with_reducible rfl)
    all_goals exact hq
  | succ n ih =>
    intro i M1 hn h2 h3 hM
    subst hM
    have hm := bAnd_mask (bUshr (lcgN i.toNat x * 1103515245 + 12345) 16)
    refine wpm_of (cuts := [11]) (by decide) 100 _ _ _ _ ?_
    simp (maxSteps := 2000000) only [↓reduceIte, wp_eq, wpd_eq, kont_eq, STP1, STP2, STP3, STP4, STP5, konM_eq, AMK, CZ, Option.map, List.getElem?_cons_zero, List.getElem?_cons_succ, List.mem_cons, List.not_mem_nil, if_false, if_true, Nat.reduceAdd, Nat.reduceLT, Nat.reduceLeDiff, Nat.reduceEqDiff, true_and, and_true, List.length_nil, List.length_cons, or_true, true_or, or_false, false_or, Option.some.injEq, Sum.inl.injEq, Sum.inr.injEq, exists_eq_left', exists_eq_left, Int.reduceLE, Int.reduceLT, Int.reduceNeg, Int.reduceAdd, Int.reduceMul, Int.reduceSub, Int.reduceToNat, inR, Nat.zero_ne_one, false_and, Nat.succ_ne_zero, reduceCtorEq, false_implies, true_implies, not_false_eq_true, not_true_eq_false, Int.reduceEq, C_Timber_drawRings, l0, l1, l2]
    repeat' (first | omega | with_reducible apply And.intro | with_reducible intro _ | with_reducible rfl)
    · rw [show i = c by omega]
      exact hq
    · have e5 : mDrw M o (drG x) i o 2 = i := by simp only [mDrw]; grind
      refine (Timber_addRing_ok ho (mDrw_wf ho hw h2 (by omega) (fun j => drw_in _)) (Or.inl rfl)).mono (fun M2 hM2 => ?_)
      have K := ih (i + 1) M2 (by omega) (by omega) (by omega) ?_
      · rw [show (i + 1).toNat = i.toNat + 1 by omega] at K
        exact K
      · rw [hM2, show (fun j => drw (lcgN (j + 1) x)) = drG x from rfl, e5, if_pos (by omega)]
        have ed : (bAnd (bUshr (lcgN i.toNat x * 1103515245 + 12345) 16) 32767).tmod 99 + 1 = drG x i.toNat := rfl
        rw [ed]
        clear ed hM2 hm ih hq
        generalize drG x = g
        funext b j
        simp only [mset, mDrw]
        grind
set_option maxHeartbeats 4000000 in
set_option maxRecDepth 20000 in
theorem Timber_drawRings_ok {o : Nat} {x c : Int} {M : Mm} (ho : isTim o) (hw : wfT M o) (hc : 0 ≤ c) (hc2 : c ≤ 24) : CallI m_Timber_drawRings [.inr o, .inl c, .inl x] M (fun y M' => y = lcgN c.toNat x ∧ M' = mDrw M o (drG x) c) := by
  obtain ⟨l0, l1, l2⟩ := id ho
  refine callP_of (by decide) (by decide) (Nat.le_of_ble_eq_true rfl) (wpm_of (cuts := [11]) (by decide) 50 _ _ _ _ ?_)
  rw [show lM m_Timber_drawRings = 5 from rfl]
  simp (maxSteps := 2000000) only [↓reduceIte, wp_eq, wpd_eq, kont_eq, STP1, STP2, STP3, STP4, STP5, konM_eq, AMK, CZ, Option.map, List.getElem?_cons_zero, List.getElem?_cons_succ, List.mem_cons, List.not_mem_nil, if_false, if_true, Nat.reduceAdd, Nat.reduceLT, Nat.reduceLeDiff, Nat.reduceEqDiff, true_and, and_true, List.length_nil, List.length_cons, or_true, true_or, or_false, false_or, Option.some.injEq, Sum.inl.injEq, Sum.inr.injEq, exists_eq_left', exists_eq_left, Int.reduceLE, Int.reduceLT, Int.reduceNeg, Int.reduceAdd, Int.reduceMul, Int.reduceSub, Int.reduceToNat, inR, Nat.zero_ne_one, false_and, Nat.succ_ne_zero, reduceCtorEq, false_implies, true_implies, not_false_eq_true, not_true_eq_false, Int.reduceEq, C_Timber_drawRings, l0, l1, l2]
  refine (Timber_begin_ok ho).mono (fun M' z => ?_)
  refine Timber_drawRings_lp ho hw hc hc2 ⟨_, rfl, rfl, rfl⟩ _ 0 _ (Nat.le_refl _) (by omega) (by omega) ?_
  rw [z]
  have ne := ho.ne ho
  funext b j
  simp only [mset, mDrw]
  grind
