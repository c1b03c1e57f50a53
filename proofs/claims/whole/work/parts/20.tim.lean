/-! TIMBER. -/
/-- a Timber's cells: the object, its widths, its doubts -/
def isTim (o : Nat) : Prop := lay o = .inr (.inl (9, [some (o + 1), some (o + 2), none, none, none, none])) ∧ lay (o + 1) = .inl (0, 24) ∧ lay (o + 2) = .inl (1, 24)
theorem isTim.ne {o f : Nat} (h : isTim o) (g : isTim f) : o ≠ f + 1 ∧ o ≠ f + 2 ∧ o + 1 ≠ f ∧ o + 1 ≠ f + 2 ∧ o + 2 ≠ f ∧ o + 2 ≠ f + 1 := by
  obtain ⟨h0, h1, h2⟩ := h
  obtain ⟨g0, g1, g2⟩ := g
  refine ⟨?_, ?_, ?_, ?_, ?_, ?_⟩ <;> intro e
  · rw [e, g1] at h0; cases h0
  · rw [e, g2] at h0; cases h0
  · rw [e, g0] at h1; cases h1
  · rw [e, g2] at h1; cases h1
  · rw [e, g0] at h2; cases h2
  · rw [e, g1] at h2; cases h2
/-- what a Timber's cells hold is in range -/
def wfT (M : Mm) (o : Nat) : Prop := (0 ≤ M o 2 ∧ M o 2 ≤ 24) ∧ (∀ j, j < 24 → 0 ≤ M (o + 1) j ∧ M (o + 1) j ≤ 99) ∧ (∀ j, j < 24 → M (o + 2) j = 0 ∨ M (o + 2) j = 1) ∧ (0 ≤ M o 3 ∧ M o 3 ≤ 30) ∧ (0 ≤ M o 4 ∧ M o 4 ≤ 30) ∧ (0 ≤ M o 5 ∧ M o 5 ≤ 3)
def vHas (M : Mm) (o : Nat) (r : Int) : Int := if 0 ≤ r ∧ r < M o 2 ∧ r < 24 then 1 else 0
def vWid (M : Mm) (o : Nat) (r : Int) : Int := if 0 ≤ r ∧ r < M o 2 ∧ r < 24 then M (o + 1) r.toNat else 0
def vDou (M : Mm) (o : Nat) (r : Int) : Int := if 0 ≤ r ∧ r < M o 2 ∧ r < 24 then M (o + 2) r.toNat else 0
def vCmp (x y : Int) : Int := if x < y then -1 else if x = y then 0 else 1
set_option maxHeartbeats 4000000 in
theorem Timber_has_ok {o : Nat} {r : Int} {M : Mm} (ho : isTim o) (hr : inR r) (hw : wfT M o) : CallI m_Timber_has [.inr o, .inl r] M (fun x M' => x = vHas M o r ∧ M' = M) := by
  obtain ⟨l0, l1, l2⟩ := ho
  obtain ⟨w0, -⟩ := hw
  refine callP_of (by decide) (by decide) (Nat.le_of_ble_eq_true rfl) (wpm_of (cuts := []) (by decide) 50 _ _ _ _ ?_)
  rw [show lM m_Timber_has = 2 from rfl]
  simp only [wp_eq, wpd_eq, kont_eq, STP1, STP2, STP3, AMK, CZ, Option.map, List.getElem?_cons_zero, List.getElem?_cons_succ, List.mem_cons, List.not_mem_nil, if_false, if_true, Nat.reduceAdd, Nat.reduceLT, Nat.reduceLeDiff, Nat.reduceEqDiff, true_and, and_true, List.length_nil, List.length_cons, or_true, true_or, or_false, false_or, Option.some.injEq, Sum.inl.injEq, Sum.inr.injEq, exists_eq_left', exists_eq_left, Int.reduceLE, Int.reduceLT, Int.reduceNeg, Int.reduceAdd, Int.reduceMul, Int.reduceSub, Int.reduceToNat, inR, Nat.zero_ne_one, false_and, Nat.succ_ne_zero, reduceCtorEq, false_implies, true_implies, not_false_eq_true, not_true_eq_false, Int.reduceEq, C_Timber_has, l0, l1, l2]
  simp only [inR, vHas] at *
  grind
set_option maxHeartbeats 4000000 in
theorem Timber_widthOf_ok {o : Nat} {r : Int} {M : Mm} (ho : isTim o) (hr : inR r) (hw : wfT M o) : CallI m_Timber_widthOf [.inr o, .inl r] M (fun x M' => x = vWid M o r ∧ M' = M) := by
  obtain ⟨l0, l1, l2⟩ := ho
  obtain ⟨w0, -⟩ := hw
  refine callP_of (by decide) (by decide) (Nat.le_of_ble_eq_true rfl) (wpm_of (cuts := []) (by decide) 50 _ _ _ _ ?_)
  rw [show lM m_Timber_widthOf = 2 from rfl]
  simp only [wp_eq, wpd_eq, kont_eq, STP1, STP2, STP3, AMK, CZ, Option.map, List.getElem?_cons_zero, List.getElem?_cons_succ, List.mem_cons, List.not_mem_nil, if_false, if_true, Nat.reduceAdd, Nat.reduceLT, Nat.reduceLeDiff, Nat.reduceEqDiff, true_and, and_true, List.length_nil, List.length_cons, or_true, true_or, or_false, false_or, Option.some.injEq, Sum.inl.injEq, Sum.inr.injEq, exists_eq_left', exists_eq_left, Int.reduceLE, Int.reduceLT, Int.reduceNeg, Int.reduceAdd, Int.reduceMul, Int.reduceSub, Int.reduceToNat, inR, Nat.zero_ne_one, false_and, Nat.succ_ne_zero, reduceCtorEq, false_implies, true_implies, not_false_eq_true, not_true_eq_false, Int.reduceEq, C_Timber_widthOf, l0, l1, l2]
  simp only [inR, vWid] at *
  grind
set_option maxHeartbeats 4000000 in
theorem Timber_isDoubtful_ok {o : Nat} {r : Int} {M : Mm} (ho : isTim o) (hr : inR r) (hw : wfT M o) : CallI m_Timber_isDoubtful [.inr o, .inl r] M (fun x M' => x = vDou M o r ∧ M' = M) := by
  obtain ⟨l0, l1, l2⟩ := ho
  obtain ⟨w0, -, w2, -⟩ := hw
  refine callP_of (by decide) (by decide) (Nat.le_of_ble_eq_true rfl) (wpm_of (cuts := []) (by decide) 50 _ _ _ _ ?_)
  rw [show lM m_Timber_isDoubtful = 2 from rfl]
  simp only [wp_eq, wpd_eq, kont_eq, STP1, STP2, STP3, AMK, CZ, Option.map, List.getElem?_cons_zero, List.getElem?_cons_succ, List.mem_cons, List.not_mem_nil, if_false, if_true, Nat.reduceAdd, Nat.reduceLT, Nat.reduceLeDiff, Nat.reduceEqDiff, true_and, and_true, List.length_nil, List.length_cons, or_true, true_or, or_false, false_or, Option.some.injEq, Sum.inl.injEq, Sum.inr.injEq, exists_eq_left', exists_eq_left, Int.reduceLE, Int.reduceLT, Int.reduceNeg, Int.reduceAdd, Int.reduceMul, Int.reduceSub, Int.reduceToNat, inR, Nat.zero_ne_one, false_and, Nat.succ_ne_zero, reduceCtorEq, false_implies, true_implies, not_false_eq_true, not_true_eq_false, Int.reduceEq, C_Timber_isDoubtful, l0, l1, l2]
  have h9 := w2 r.toNat
  simp only [inR, vDou] at *
  grind
set_option maxHeartbeats 4000000 in
theorem Integer_compare_ok {x y : Int} {M : Mm} (hx : inR x) (hy : inR y) : CallI m_Integer_compare [.inl x, .inl y] M (fun z M' => z = vCmp x y ∧ M' = M) := by
  refine callP_of (by decide) (by decide) (Nat.le_of_ble_eq_true rfl) (wpm_of (cuts := []) (by decide) 50 _ _ _ _ ?_)
  rw [show lM m_Integer_compare = 2 from rfl]
  simp only [wp_eq, wpd_eq, kont_eq, STP1, STP2, STP3, AMK, CZ, Option.map, List.getElem?_cons_zero, List.getElem?_cons_succ, List.mem_cons, List.not_mem_nil, if_false, if_true, Nat.reduceAdd, Nat.reduceLT, Nat.reduceLeDiff, Nat.reduceEqDiff, true_and, and_true, List.length_nil, List.length_cons, or_true, true_or, or_false, false_or, Option.some.injEq, Sum.inl.injEq, Sum.inr.injEq, exists_eq_left', exists_eq_left, Int.reduceLE, Int.reduceLT, Int.reduceNeg, Int.reduceAdd, Int.reduceMul, Int.reduceSub, Int.reduceToNat, inR, Nat.zero_ne_one, false_and, Nat.succ_ne_zero, reduceCtorEq, false_implies, true_implies, not_false_eq_true, not_true_eq_false, Int.reduceEq, C_Integer_compare]
  simp only [inR, vCmp] at *
  grind
theorem vWid_in {M : Mm} {o : Nat} {r : Int} (hw : wfT M o) : 0 ≤ vWid M o r ∧ vWid M o r ≤ 99 := by
  unfold vWid
  split
  · exact hw.2.1 _ (by omega)
  · omega
theorem vDou_in {M : Mm} {o : Nat} {r : Int} (hw : wfT M o) : vDou M o r = 0 ∨ vDou M o r = 1 := by
  unfold vDou
  split
  · exact hw.2.2.1 _ (by omega)
  · exact Or.inl rfl
set_option maxHeartbeats 4000000 in
theorem Timber_stepOf_ok {o : Nat} {r : Int} {M : Mm} (ho : isTim o) (hr : inR r) (hr1 : inR (r - 1)) (hw : wfT M o) : CallI m_Timber_stepOf [.inr o, .inl r] M (fun x M' => x = vCmp (vWid M o r) (vWid M o (r - 1)) ∧ M' = M) := by
  have l0 := ho.1
  refine callP_of (by decide) (by decide) (Nat.le_of_ble_eq_true rfl) (wpm_of (cuts := []) (by decide) 50 _ _ _ _ ?_)
  rw [show lM m_Timber_stepOf = 2 from rfl]
  simp only [wp_eq, wpd_eq, kont_eq, STP1, STP2, STP3, AMK, CZ, Option.map, List.getElem?_cons_zero, List.getElem?_cons_succ, List.mem_cons, List.not_mem_nil, if_false, if_true, Nat.reduceAdd, Nat.reduceLT, Nat.reduceLeDiff, Nat.reduceEqDiff, true_and, and_true, List.length_nil, List.length_cons, or_true, true_or, or_false, false_or, Option.some.injEq, Sum.inl.injEq, Sum.inr.injEq, exists_eq_left', exists_eq_left, Int.reduceLE, Int.reduceLT, Int.reduceNeg, Int.reduceAdd, Int.reduceMul, Int.reduceSub, Int.reduceToNat, inR, Nat.zero_ne_one, false_and, Nat.succ_ne_zero, reduceCtorEq, false_implies, true_implies, not_false_eq_true, not_true_eq_false, Int.reduceEq, C_Timber_stepOf, l0]
  have h1 := vWid_in (r := r) hw
  have h2 := vWid_in (r := r - 1) hw
  refine (Timber_widthOf_ok ho hr hw).mono (fun x M' z => ?_)
  obtain ⟨rfl, rfl⟩ := z
  refine (Timber_widthOf_ok ho hr1 hw).mono (fun x M' z => ?_)
  obtain ⟨rfl, rfl⟩ := z
  refine (Integer_compare_ok ⟨by omega, by omega⟩ ⟨by omega, by omega⟩).mono (fun x M' z => ?_)
  exact z
set_option maxHeartbeats 4000000 in
theorem Timber_begin_ok {o : Nat} {a b : Int} {M : Mm} (ho : isTim o) : CallV m_Timber_begin [.inr o, .inl a, .inl b] M (fun M' => M' = mset (mset (mset (mset M o 2 0) o 3 a) o 4 b) o 5 0) := by
  obtain ⟨l0, l1, l2⟩ := ho
  refine callP_of (by decide) (by decide) (Nat.le_of_ble_eq_true rfl) (wpm_of (cuts := []) (by decide) 50 _ _ _ _ ?_)
  rw [show lM m_Timber_begin = 3 from rfl]
  simp only [wp_eq, wpd_eq, kont_eq, STP1, STP2, STP3, AMK, CZ, Option.map, List.getElem?_cons_zero, List.getElem?_cons_succ, List.mem_cons, List.not_mem_nil, if_false, if_true, Nat.reduceAdd, Nat.reduceLT, Nat.reduceLeDiff, Nat.reduceEqDiff, true_and, and_true, List.length_nil, List.length_cons, or_true, true_or, or_false, false_or, Option.some.injEq, Sum.inl.injEq, Sum.inr.injEq, exists_eq_left', exists_eq_left, Int.reduceLE, Int.reduceLT, Int.reduceNeg, Int.reduceAdd, Int.reduceMul, Int.reduceSub, Int.reduceToNat, inR, Nat.zero_ne_one, false_and, Nat.succ_ne_zero, reduceCtorEq, false_implies, true_implies, not_false_eq_true, not_true_eq_false, Int.reduceEq, C_Timber_begin, l0, l1, l2]
/-- widths and doubts of the places below i out of f, the rest as it was -/
def mCp (M : Mm) (o f : Nat) (i : Int) : Mm := fun b j => if b = o + 1 ∧ (j : Int) < i then M (f + 1) j else if b = o + 2 ∧ (j : Int) < i then M (f + 2) j else M b j
set_option maxHeartbeats 4000000 in
theorem Timber_copyFrom_lp {o f : Nat} {M : Mm} {Qc : Option AV → Mm → Prop} (ho : isTim o) (hf : isTim f) (hw : wfT M f) (hq : Qc none (mset (mset (mset (mset (mCp M o f 24) o 2 (M f 2)) o 3 (M f 3)) o 4 (M f 4)) o 5 (M f 5))) :
    ∀ (n : Nat) (i : Int) (M1 : Mm), (24 - i).toNat ≤ n → 0 ≤ i → i ≤ 24 → M1 = mCp M o f i → WPm m_Timber_copyFrom Qc 2 [some (.inr o), some (.inr f), some (.inl i)] [] M1 := by
  obtain ⟨l0, l1, l2⟩ := id ho
  obtain ⟨g0, g1, g2⟩ := id hf
  have ne := ho.ne hf
  have ne2 := hf.ne ho
  intro n
  induction n with
  | zero =>
    intro i M1 hn h0 h1 hM
    obtain rfl : i = 24 := by omega
    refine wpm_of (cuts := [2]) (by decide) 100 _ _ _ _ ?_
    simp only [wp_eq, wpd_eq, kont_eq, STP1, STP2, STP3, AMK, CZ, Option.map, List.getElem?_cons_zero, List.getElem?_cons_succ, List.mem_cons, List.not_mem_nil, if_false, if_true, Nat.reduceAdd, Nat.reduceLT, Nat.reduceLeDiff, Nat.reduceEqDiff, true_and, and_true, List.length_nil, List.length_cons, or_true, true_or, or_false, false_or, Option.some.injEq, Sum.inl.injEq, Sum.inr.injEq, exists_eq_left', exists_eq_left, Int.reduceLE, Int.reduceLT, Int.reduceNeg, Int.reduceAdd, Int.reduceMul, Int.reduceSub, Int.reduceToNat, inR, Nat.zero_ne_one, false_and, Nat.succ_ne_zero, reduceCtorEq, false_implies, true_implies, not_false_eq_true, not_true_eq_false, Int.reduceEq, C_Timber_copyFrom, l0, l1, l2, g0, g1, g2]
    subst hM
    refine cast (congrArg (Qc none) ?_) hq
    funext b j
    simp only [mset, mCp]
    grind
  | succ n ih =>
    intro i M1 hn h0 h1 hM
    refine wpm_of (cuts := [2]) (by decide) 100 _ _ _ _ ?_
    simp only [wp_eq, wpd_eq, kont_eq, STP1, STP2, STP3, AMK, CZ, Option.map, List.getElem?_cons_zero, List.getElem?_cons_succ, List.mem_cons, List.not_mem_nil, if_false, if_true, Nat.reduceAdd, Nat.reduceLT, Nat.reduceLeDiff, Nat.reduceEqDiff, true_and, and_true, List.length_nil, List.length_cons, or_true, true_or, or_false, false_or, Option.some.injEq, Sum.inl.injEq, Sum.inr.injEq, exists_eq_left', exists_eq_left, Int.reduceLE, Int.reduceLT, Int.reduceNeg, Int.reduceAdd, Int.reduceMul, Int.reduceSub, Int.reduceToNat, inR, Nat.zero_ne_one, false_and, Nat.succ_ne_zero, reduceCtorEq, false_implies, true_implies, not_false_eq_true, not_true_eq_false, Int.reduceEq, C_Timber_copyFrom, l0, l1, l2, g0, g1, g2]
    subst hM
    have w2 := hw.2.2.1 i.toNat
    refine ⟨by omega, fun z => ?_, fun z => ⟨by omega, by omega, by omega, by omega, ?_, ?_⟩⟩
    · refine cast (congrArg (Qc none) ?_) hq
      funext b j
      simp only [mset, mCp]
      grind
    · simp only [mset, mCp]
      grind
    · refine ih (i + 1) _ (by omega) (by omega) (by omega) ?_
      funext b j
      simp only [mset, mCp]
      grind
