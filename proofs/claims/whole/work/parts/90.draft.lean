/-! THE REFERENCE, 1: rows. f : Nat → Int is a row of 240 numbers (30 of a timber). -/
/-- what the numbers of a row of the reference are: -1 for none -/
def mV (A : Rw) (k : Int) : Int := if sN A k = 0 then -1 else sN A k
def mRk (A : Rw) (k : Int) : Int := if sN A k = 0 then 0 else sRank A k
def numM (M : Mm) (v : Nat) (A : Rw) : Prop := 0 ≤ A.2.1 ∧ okR A ∧ ∀ j : Nat, (j : Int) < A.2.1 → M v j = mV A j
def finM (M : Mm) (v : Nat) (A : Rw) : Prop := numM M v A ∧ ∀ j : Nat, (j : Int) < A.2.1 → M (v + 1) j = sStep A j ∧ M (v + 2) j = mRk A j
theorem mV_in {A : Rw} {k : Int} (h : okR A) : -1 ≤ mV A k ∧ mV A k ≤ 100000000 ∧ (mV A k = -1 ↔ sN A k = 0) ∧ mV A k ≠ 0 := by
  have := sN_in (k := k) h
  unfold mV
  split <;> omega
set_option maxHeartbeats 600000 in
set_option maxRecDepth 20000 in
theorem Model_of_ok {t k : Int} {M : Mm} (ht : 0 ≤ 30 * t + k ∧ 30 * t + k < 240) : CallI m_Model_of [.inr 154, .inl t, .inl k] M (fun x M' => x = M 158 (30 * t + k).toNat ∧ M' = M) := by
  refine callP_of (by decide) (by decide) (Nat.le_of_ble_eq_true rfl) (wpm_of (cuts := []) (by decide) 50 _ _ _ _ ?_)
  rw [show lM m_Model_of = 3 from rfl]
  simp (maxSteps := 2000000) only [↓reduceIte, wp_eq, wpd_eq, kont_eq, STP1, STP2, STP3, STP4, STP5, konM_eq, AMK, CZ, Option.map, List.getElem?_cons_zero, List.getElem?_cons_succ, List.mem_cons, List.not_mem_nil, if_false, if_true, Nat.reduceAdd, Nat.reduceLT, Nat.reduceLeDiff, Nat.reduceEqDiff, true_and, and_true, List.length_nil, List.length_cons, or_true, true_or, or_false, false_or, Option.some.injEq, Sum.inl.injEq, Sum.inr.injEq, exists_eq_left', exists_eq_left, Int.reduceLE, Int.reduceLT, Int.reduceNeg, Int.reduceAdd, Int.reduceMul, Int.reduceSub, Int.reduceToNat, inR, Nat.zero_ne_one, false_and, Nat.succ_ne_zero, reduceCtorEq, false_implies, true_implies, not_false_eq_true, not_true_eq_false, Int.reduceEq, KRE, C_Model_of, FM]
  exact ht
set_option maxHeartbeats 600000 in
set_option maxRecDepth 20000 in
theorem Model_isDated_ok {t : Int} {M : Mm} (ht : 0 ≤ t ∧ t < 8) (hi : inR (M 158 (30 * t + 4).toNat)) : CallI m_Model_isDated [.inr 154, .inl t] M (fun x M' => x = (if M 158 (30 * t + 4).toNat ≠ -1 then 1 else 0) ∧ M' = M) := by
  simp only [inR] at hi
  refine callP_of (by decide) (by decide) (Nat.le_of_ble_eq_true rfl) (wpm_of (cuts := []) (by decide) 50 _ _ _ _ ?_)
  rw [show lM m_Model_isDated = 2 from rfl]
  simp (maxSteps := 2000000) only [↓reduceIte, wp_eq, wpd_eq, kont_eq, STP1, STP2, STP3, STP4, STP5, konM_eq, AMK, CZ, Option.map, List.getElem?_cons_zero, List.getElem?_cons_succ, List.mem_cons, List.not_mem_nil, if_false, if_true, Nat.reduceAdd, Nat.reduceLT, Nat.reduceLeDiff, Nat.reduceEqDiff, true_and, and_true, List.length_nil, List.length_cons, or_true, true_or, or_false, false_or, Option.some.injEq, Sum.inl.injEq, Sum.inr.injEq, exists_eq_left', exists_eq_left, Int.reduceLE, Int.reduceLT, Int.reduceNeg, Int.reduceAdd, Int.reduceMul, Int.reduceSub, Int.reduceToNat, inR, Nat.zero_ne_one, false_and, Nat.succ_ne_zero, reduceCtorEq, false_implies, true_implies, not_false_eq_true, not_true_eq_false, Int.reduceEq, KRE, C_Model_isDated, FM]
  refine (Model_of_ok ⟨by omega, by omega⟩).eq ?_
  grind
set_option maxHeartbeats 600000 in
set_option maxRecDepth 20000 in
theorem Model_numberAt_ok {a len : Nat} {n k : Int} {A : Rw} {M : Mm} (la : lay a = .inl (0, len)) (hn : n = A.2.1) (hl : n ≤ len) (hl2 : len ≤ 1000) (hk : inR k) (h : numM M a A) : CallI m_Model_numberAt [.inr a, .inl n, .inl k] M (fun x M' => x = mV A k ∧ M' = M) := by
  obtain ⟨h1, h2, h3⟩ := h
  have h4 := h3 k.toNat
  have h5 : ¬ (0 ≤ k ∧ k < A.2.1) → mV A k = -1 := by
    intro z
    unfold mV sN
    rw [if_neg z]
    rfl
  simp only [inR] at hk
  refine callP_of (by decide) (by decide) (Nat.le_of_ble_eq_true rfl) (wpm_of (cuts := []) (by decide) 50 _ _ _ _ ?_)
  rw [show lM m_Model_numberAt = 3 from rfl]
  simp (maxSteps := 2000000) only [↓reduceIte, wp_eq, wpd_eq, kont_eq, STP1, STP2, STP3, STP4, STP5, konM_eq, AMK, CZ, Option.map, List.getElem?_cons_zero, List.getElem?_cons_succ, List.mem_cons, List.not_mem_nil, if_false, if_true, Nat.reduceAdd, Nat.reduceLT, Nat.reduceLeDiff, Nat.reduceEqDiff, true_and, and_true, List.length_nil, List.length_cons, or_true, true_or, or_false, false_or, Option.some.injEq, Sum.inl.injEq, Sum.inr.injEq, exists_eq_left', exists_eq_left, Int.reduceLE, Int.reduceLT, Int.reduceNeg, Int.reduceAdd, Int.reduceMul, Int.reduceSub, Int.reduceToNat, inR, Nat.zero_ne_one, false_and, Nat.succ_ne_zero, reduceCtorEq, false_implies, true_implies, not_false_eq_true, not_true_eq_false, Int.reduceEq, KRE, C_Model_numberAt, la]
  grind
set_option maxHeartbeats 600000 in
set_option maxRecDepth 20000 in
theorem Model_stepAt_ok {a len : Nat} {n k : Int} {A : Rw} {M : Mm} (la : lay a = .inl (0, len)) (hn : n = A.2.1) (hl : n ≤ len) (hl2 : len ≤ 1000) (hk : -10 ≤ k ∧ k ≤ 2000) (h : numM M a A) : CallI m_Model_stepAt [.inr a, .inl n, .inl k] M (fun x M' => x = sStep A k ∧ M' = M) := by
  have v1 := mV_in (k := k) h.2.1
  have v2 := mV_in (k := k - 1) h.2.1
  refine callP_of (by decide) (by decide) (Nat.le_of_ble_eq_true rfl) (wpm_of (cuts := []) (by decide) 50 _ _ _ _ ?_)
  rw [show lM m_Model_stepAt = 5 from rfl]
  simp (maxSteps := 2000000) only [↓reduceIte, wp_eq, wpd_eq, kont_eq, STP1, STP2, STP3, STP4, STP5, konM_eq, AMK, CZ, Option.map, List.getElem?_cons_zero, List.getElem?_cons_succ, List.mem_cons, List.not_mem_nil, if_false, if_true, Nat.reduceAdd, Nat.reduceLT, Nat.reduceLeDiff, Nat.reduceEqDiff, true_and, and_true, List.length_nil, List.length_cons, or_true, true_or, or_false, false_or, Option.some.injEq, Sum.inl.injEq, Sum.inr.injEq, exists_eq_left', exists_eq_left, Int.reduceLE, Int.reduceLT, Int.reduceNeg, Int.reduceAdd, Int.reduceMul, Int.reduceSub, Int.reduceToNat, inR, Nat.zero_ne_one, false_and, Nat.succ_ne_zero, reduceCtorEq, false_implies, true_implies, not_false_eq_true, not_true_eq_false, Int.reduceEq, KRE, C_Model_stepAt, la]
  refine (Model_numberAt_ok la hn hl hl2 ⟨by omega, by omega⟩ h).eq ?_
  refine (Model_numberAt_ok la hn hl hl2 ⟨by omega, by omega⟩ h).eq ?_
  have e : sStep A k = if mV A k = -1 ∨ mV A (k - 1) = -1 then 2 else vCmp (mV A k) (mV A (k - 1)) := by
    unfold sStep
    by_cases z1 : sN A k = 0
    · rw [if_neg (fun q => q.1 z1), if_pos (Or.inl (v1.2.2.1.mpr z1))]
    · by_cases z2 : sN A (k - 1) = 0
      · rw [if_neg (fun q => q.2 z2), if_pos (Or.inr (v2.2.2.1.mpr z2))]
      · rw [if_pos ⟨z1, z2⟩, if_neg (by omega)]
        unfold mV
        rw [if_neg z1, if_neg z2]
  rw [e]
  generalize mV A k = x at *
  generalize mV A (k - 1) = y at *
  by_cases z1 : x = -1
  · simp [z1]
  · by_cases z2 : y = -1
    · simp only [z1, z2, false_or, if_true, if_pos, not_true_eq_false, not_false_eq_true, true_implies, false_implies, and_true, true_and]
      omega
    · simp only [z1, z2, false_or, if_false, not_true_eq_false, not_false_eq_true, true_implies, false_implies, and_true, true_and]
      refine ⟨by omega, by omega, ?_⟩
      exact (Integer_compare_ok ⟨by omega, by omega⟩ ⟨by omega, by omega⟩).eq ⟨rfl, rfl⟩
def mLs (A : Rw) (k d : Int) : Int := if d ≠ 0 ∧ mV A (k + d) ≠ -1 ∧ mV A (k + d) < mV A k then 1 else 0
theorem mLs_sum {A : Rw} {k : Int} (h : okR A) : sumR (mLs A k) (-2) 3 = mRk A k := by
  have v0 := mV_in (k := k) h
  have e : ∀ d, mLs A k d = if sN A k = 0 then 0 else if d = 0 then 0 else less1 (sN A k) (sN A (k + d)) := by
    intro d
    have v1 := mV_in (k := k + d) h
    have b1 := sN_in (k := k + d) h
    unfold mLs less1
    unfold mV at *
    grind
  rw [show (3 : Int) = -2 + 1 + 1 + 1 + 1 + 1 by omega, sumR_succ _ (by omega), sumR_succ _ (by omega), sumR_succ _ (by omega), sumR_succ _ (by omega), sumR_succ _ (by omega), sumR_0]
  simp only [e]
  unfold mRk sRank
  have e2 : k - 2 = k + -2 := by omega
  have e1 : k - 1 = k + (-2 + 1) := by omega
  by_cases z : sN A k = 0
  · simp [z]
  · simp only [z, if_false, ne_eq, not_false_eq_true, if_true]
    rw [e2, e1]
    simp
set_option maxHeartbeats 600000 in
set_option maxRecDepth 20000 in
theorem Model_rankAt_ok {a len : Nat} {n k : Int} {A : Rw} {M : Mm} (la : lay a = .inl (0, len)) (hn : n = A.2.1) (hl : n ≤ len) (hl2 : len ≤ 1000) (hk : -10 ≤ k ∧ k ≤ 2000) (h : numM M a A) : CallI m_Model_rankAt [.inr a, .inl n, .inl k] M (fun x M' => x = mRk A k ∧ M' = M) := by
  have v1 := mV_in (k := k) h.2.1
  refine callP_of (by decide) (by decide) (Nat.le_of_ble_eq_true rfl) (wpm_of (cuts := [14]) (by decide) 50 _ _ _ _ ?_)
  rw [show lM m_Model_rankAt = 7 from rfl]
  simp (maxSteps := 2000000) only [↓reduceIte, wp_eq, wpd_eq, kont_eq, STP1, STP2, STP3, STP4, STP5, konM_eq, AMK, CZ, Option.map, List.getElem?_cons_zero, List.getElem?_cons_succ, List.mem_cons, List.not_mem_nil, if_false, if_true, Nat.reduceAdd, Nat.reduceLT, Nat.reduceLeDiff, Nat.reduceEqDiff, true_and, and_true, List.length_nil, List.length_cons, or_true, true_or, or_false, false_or, Option.some.injEq, Sum.inl.injEq, Sum.inr.injEq, exists_eq_left', exists_eq_left, Int.reduceLE, Int.reduceLT, Int.reduceNeg, Int.reduceAdd, Int.reduceMul, Int.reduceSub, Int.reduceToNat, inR, Nat.zero_ne_one, false_and, Nat.succ_ne_zero, reduceCtorEq, false_implies, true_implies, not_false_eq_true, not_true_eq_false, Int.reduceEq, KRE, C_Model_rankAt, la]
  refine (Model_numberAt_ok la hn hl hl2 ⟨by omega, by omega⟩ h).eq ?_
  refine loopQ 5 (fun i ls M1 => M = M1 ∧ ∃ a6, ls = [some (.inr a), some (.inl n), some (.inl k), some (.inl (mV A k)), some (.inl (sumR (mLs A k) (-2) (-2 + i))), some (.inl (-2 + i)), a6]) ?_ _ _ ⟨rfl, none, rfl⟩
  rintro i _ _ hi ⟨rfl, a6, rfl⟩ K
  have v2 := mV_in (k := k + (-2 + i)) h.2.1
  refine wpm_of (cuts := [14]) (by decide) 100 _ _ _ _ ?_
  simp (maxSteps := 2000000) only [↓reduceIte, wp_eq, wpd_eq, kont_eq, STP1, STP2, STP3, STP4, STP5, konM_eq, AMK, CZ, Option.map, List.getElem?_cons_zero, List.getElem?_cons_succ, List.mem_cons, List.not_mem_nil, if_false, if_true, Nat.reduceAdd, Nat.reduceLT, Nat.reduceLeDiff, Nat.reduceEqDiff, true_and, and_true, List.length_nil, List.length_cons, or_true, true_or, or_false, false_or, Option.some.injEq, Sum.inl.injEq, Sum.inr.injEq, exists_eq_left', exists_eq_left, Int.reduceLE, Int.reduceLT, Int.reduceNeg, Int.reduceAdd, Int.reduceMul, Int.reduceSub, Int.reduceToNat, inR, Nat.zero_ne_one, false_and, Nat.succ_ne_zero, reduceCtorEq, false_implies, true_implies, not_false_eq_true, not_true_eq_false, Int.reduceEq, KRE, C_Model_rankAt, la]
  refine ⟨by omega, fun z => ?_, fun z => ?_⟩
  · rw [show (-2 + (i : Int)) = 3 by omega, mLs_sum h.2.1]
  · refine (Model_numberAt_ok la hn hl hl2 ⟨by omega, by omega⟩ h).eq ?_
    have K' := fun a6 => K (by omega) _ _ ⟨rfl, a6, rfl⟩
    rw [show (-2 + ((i + 1 : Nat) : Int)) = -2 + i + 1 by omega, sumR_succ _ (by omega)] at K'
    rw [show mLs A k (-2 + i) = if (-2 + i : Int) ≠ 0 ∧ mV A (k + (-2 + i)) ≠ -1 ∧ mV A (k + (-2 + i)) < mV A k then 1 else 0 from rfl] at K'
    refine ⟨by omega, fun c1 => ?_, fun c1 => ⟨by omega, fun c2 => ?_, fun c2 => ⟨by omega, by omega, fun c3 => ?_, fun c3 => ?_⟩⟩⟩
    · rw [if_neg (by omega)] at K'
      exact K' _
    · rw [if_neg (by omega)] at K'
      exact K' _
    · rw [if_neg (by omega)] at K'
      exact K' _
    · rw [if_pos (by omega)] at K'
      exact K' _
def mTell (M : Mm) (s r : Nat) (A : Rw) (n : Int) : Mm := fun b j => if b = s ∧ (j : Int) < n then sStep A j else if b = r ∧ (j : Int) < n then mRk A j else M b j
set_option maxHeartbeats 600000 in
set_option maxRecDepth 20000 in
theorem Model_tellRow_ok {a s r len : Nat} {n : Int} {A : Rw} {M : Mm} (la : lay a = .inl (0, len)) (ls : lay s = .inl (0, len)) (lr : lay r = .inl (0, len)) (ne : s ≠ a ∧ r ≠ a ∧ r ≠ s) (hn : n = A.2.1) (hl : n ≤ len) (hl2 : len ≤ 1000) (h : numM M a A) : CallV m_Model_tellRow [.inr a, .inr s, .inr r, .inl n] M (fun M' => M' = mTell M s r A n) := by
  have h0 := h.1
  have hk : ∀ (M1 : Mm), (∀ j, M1 a j = M a j) → numM M1 a A := fun M1 e => ⟨h.1, h.2.1, fun j hj => by rw [e]; exact h.2.2 j hj⟩
  refine callP_of (by decide) (by decide) (Nat.le_of_ble_eq_true rfl) (wpm_of (cuts := [3]) (by decide) 50 _ _ _ _ ?_)
  rw [show lM m_Model_tellRow = 5 from rfl]
  simp (maxSteps := 2000000) only [↓reduceIte, wp_eq, wpd_eq, kont_eq, STP1, STP2, STP3, STP4, STP5, konM_eq, AMK, CZ, Option.map, List.getElem?_cons_zero, List.getElem?_cons_succ, List.mem_cons, List.not_mem_nil, if_false, if_true, Nat.reduceAdd, Nat.reduceLT, Nat.reduceLeDiff, Nat.reduceEqDiff, true_and, and_true, List.length_nil, List.length_cons, or_true, true_or, or_false, false_or, Option.some.injEq, Sum.inl.injEq, Sum.inr.injEq, exists_eq_left', exists_eq_left, Int.reduceLE, Int.reduceLT, Int.reduceNeg, Int.reduceAdd, Int.reduceMul, Int.reduceSub, Int.reduceToNat, inR, Nat.zero_ne_one, false_and, Nat.succ_ne_zero, reduceCtorEq, false_implies, true_implies, not_false_eq_true, not_true_eq_false, Int.reduceEq, KRE, C_Model_tellRow, la, ls, lr]
  refine loopQ n.toNat (fun i ls M1 => M1 = mTell M s r A i ∧ ls = [some (.inr a), some (.inr s), some (.inr r), some (.inl n), some (.inl i)]) ?_ _ _ ⟨?_, rfl⟩
  · rintro i _ _ hi ⟨rfl, rfl⟩ K
    refine wpm_of (cuts := [3]) (by decide) 100 _ _ _ _ ?_
    simp (maxSteps := 2000000) only [↓reduceIte, wp_eq, wpd_eq, kont_eq, STP1, STP2, STP3, STP4, STP5, konM_eq, AMK, CZ, Option.map, List.getElem?_cons_zero, List.getElem?_cons_succ, List.mem_cons, List.not_mem_nil, if_false, if_true, Nat.reduceAdd, Nat.reduceLT, Nat.reduceLeDiff, Nat.reduceEqDiff, true_and, and_true, List.length_nil, List.length_cons, or_true, true_or, or_false, false_or, Option.some.injEq, Sum.inl.injEq, Sum.inr.injEq, exists_eq_left', exists_eq_left, Int.reduceLE, Int.reduceLT, Int.reduceNeg, Int.reduceAdd, Int.reduceMul, Int.reduceSub, Int.reduceToNat, inR, Nat.zero_ne_one, false_and, Nat.succ_ne_zero, reduceCtorEq, false_implies, true_implies, not_false_eq_true, not_true_eq_false, Int.reduceEq, KRE, C_Model_tellRow, la, ls, lr]
    refine ⟨by omega, by omega, fun z => ?_, fun z => ?_⟩
    · rw [show (i : Int) = n by omega]
    · refine (Model_stepAt_ok la hn hl hl2 ⟨by omega, by omega⟩ (hk _ (fun j => ?_))).eq ?_
      · simp [mTell, Ne.symm ne.1, Ne.symm ne.2.1]
      · refine ⟨by omega, ?_⟩
        refine (Model_rankAt_ok la hn hl hl2 ⟨by omega, by omega⟩ (hk _ (fun j => ?_))).eq ?_
        · simp [mset, mTell, Ne.symm ne.1, Ne.symm ne.2.1]
        · refine ⟨by omega, ?_⟩
          refine K (by omega) _ _ ⟨?_, rfl⟩
          funext b j
          simp only [mset, mTell, natT]
          by_cases hj : j = i
          · subst hj
            grind
          · grind
  · funext b j
    simp only [mTell]
    grind

/-! THE REFERENCE, 2: slides and the best place. -/
/-- the doubts of a row as bits -/
abbrev isD (D k : Int) : Prop := k < 24 ∧ (btI D k.toNat = true ∨ 0 < k ∧ btI D (k - 1).toNat = true)
def dbM (D : Int) (A : Rw) : Prop := inR D ∧ ∀ k : Int, 0 ≤ k → k < A.2.1 → (sShk A k ≠ 0 ↔ isD D k)
theorem isD_0 (k : Int) : ¬ isD 0 k := by
  unfold isD
  rw [btI_0, btI_0]
  simp
set_option maxHeartbeats 600000 in
set_option maxRecDepth 20000 in
theorem Model_isDoubtful_ok {D k : Int} {M : Mm} (hk : 0 ≤ k ∧ k ≤ 1000) : CallI m_Model_isDoubtful [.inl D, .inl k] M (fun x M' => x = (if isD D k then 1 else 0) ∧ M' = M) := by
  unfold isD
  by_cases c1 : 24 ≤ k
  · rw [if_neg (by omega)]
    have c1' := eq_true c1
    refine callP_of (by decide) (by decide) (Nat.le_of_ble_eq_true rfl) (wpm_of (cuts := []) (by decide) 50 _ _ _ _ ?_)
    rw [show lM m_Model_isDoubtful = 2 from rfl]
    simp (maxSteps := 2000000) only [↓reduceIte, wp_eq, wpd_eq, kont_eq, STP1, STP2, STP3, STP4, STP5, konM_eq, AMK, CZ, Option.map, List.getElem?_cons_zero, List.getElem?_cons_succ, List.mem_cons, List.not_mem_nil, if_false, if_true, Nat.reduceAdd, Nat.reduceLT, Nat.reduceLeDiff, Nat.reduceEqDiff, true_and, and_true, List.length_nil, List.length_cons, or_true, true_or, or_false, false_or, Option.some.injEq, Sum.inl.injEq, Sum.inr.injEq, exists_eq_left', exists_eq_left, Int.reduceLE, Int.reduceLT, Int.reduceNeg, Int.reduceAdd, Int.reduceMul, Int.reduceSub, Int.reduceToNat, inR, Nat.zero_ne_one, false_and, Nat.succ_ne_zero, reduceCtorEq, false_implies, true_implies, not_false_eq_true, not_true_eq_false, Int.reduceEq, KRE, C_Model_isDoubtful, c1']
    repeat (first | refine ⟨by omega, ?_⟩ | refine ⟨fun _ _ => okt_nn (by omega), ?_⟩)
    try (first | (show _ ≤ _; omega) | (show _ < _; omega))
  · have c1' := eq_false c1
    have e1 := bit_testI D (k := k) (by omega) (by omega)
    by_cases c2 : btI D k.toNat = true
    · rw [if_pos ⟨by omega, Or.inl c2⟩]
      rw [if_pos c2] at e1
      refine callP_of (by decide) (by decide) (Nat.le_of_ble_eq_true rfl) (wpm_of (cuts := []) (by decide) 50 _ _ _ _ ?_)
      rw [show lM m_Model_isDoubtful = 2 from rfl]
      simp (maxSteps := 2000000) only [↓reduceIte, wp_eq, wpd_eq, kont_eq, STP1, STP2, STP3, STP4, STP5, konM_eq, AMK, CZ, Option.map, List.getElem?_cons_zero, List.getElem?_cons_succ, List.mem_cons, List.not_mem_nil, if_false, if_true, Nat.reduceAdd, Nat.reduceLT, Nat.reduceLeDiff, Nat.reduceEqDiff, true_and, and_true, List.length_nil, List.length_cons, or_true, true_or, or_false, false_or, Option.some.injEq, Sum.inl.injEq, Sum.inr.injEq, exists_eq_left', exists_eq_left, Int.reduceLE, Int.reduceLT, Int.reduceNeg, Int.reduceAdd, Int.reduceMul, Int.reduceSub, Int.reduceToNat, inR, Nat.zero_ne_one, false_and, Nat.succ_ne_zero, reduceCtorEq, false_implies, true_implies, not_false_eq_true, not_true_eq_false, Int.reduceEq, KRE, C_Model_isDoubtful, c1', e1]
      repeat (first | refine ⟨by omega, ?_⟩ | refine ⟨fun _ _ => okt_nn (by omega), ?_⟩)
      try (first | (show _ ≤ _; omega) | (show _ < _; omega))
    · rw [if_neg c2] at e1
      by_cases c3 : k ≤ 0
      · rw [if_neg (fun z => by rcases z.2 with z | z; exact c2 z; omega)]
        have c3' := eq_true c3
        refine callP_of (by decide) (by decide) (Nat.le_of_ble_eq_true rfl) (wpm_of (cuts := []) (by decide) 50 _ _ _ _ ?_)
        rw [show lM m_Model_isDoubtful = 2 from rfl]
        simp (maxSteps := 2000000) only [↓reduceIte, wp_eq, wpd_eq, kont_eq, STP1, STP2, STP3, STP4, STP5, konM_eq, AMK, CZ, Option.map, List.getElem?_cons_zero, List.getElem?_cons_succ, List.mem_cons, List.not_mem_nil, if_false, if_true, Nat.reduceAdd, Nat.reduceLT, Nat.reduceLeDiff, Nat.reduceEqDiff, true_and, and_true, List.length_nil, List.length_cons, or_true, true_or, or_false, false_or, Option.some.injEq, Sum.inl.injEq, Sum.inr.injEq, exists_eq_left', exists_eq_left, Int.reduceLE, Int.reduceLT, Int.reduceNeg, Int.reduceAdd, Int.reduceMul, Int.reduceSub, Int.reduceToNat, inR, Nat.zero_ne_one, false_and, Nat.succ_ne_zero, reduceCtorEq, false_implies, true_implies, not_false_eq_true, not_true_eq_false, Int.reduceEq, KRE, C_Model_isDoubtful, c1', e1, c3']
        repeat (first | refine ⟨by omega, ?_⟩ | refine ⟨fun _ _ => okt_nn (by omega), ?_⟩)
        try (first | (show _ ≤ _; omega) | (show _ < _; omega))
      · have e2 := bit_testI D (k := k - 1) (by omega) (by omega)
        have c3' := eq_false c3
        by_cases c4 : btI D (k - 1).toNat = true
        · rw [if_pos ⟨by omega, Or.inr ⟨by omega, c4⟩⟩]
          rw [if_pos c4] at e2
          refine callP_of (by decide) (by decide) (Nat.le_of_ble_eq_true rfl) (wpm_of (cuts := []) (by decide) 50 _ _ _ _ ?_)
          rw [show lM m_Model_isDoubtful = 2 from rfl]
          simp (maxSteps := 2000000) only [↓reduceIte, wp_eq, wpd_eq, kont_eq, STP1, STP2, STP3, STP4, STP5, konM_eq, AMK, CZ, Option.map, List.getElem?_cons_zero, List.getElem?_cons_succ, List.mem_cons, List.not_mem_nil, if_false, if_true, Nat.reduceAdd, Nat.reduceLT, Nat.reduceLeDiff, Nat.reduceEqDiff, true_and, and_true, List.length_nil, List.length_cons, or_true, true_or, or_false, false_or, Option.some.injEq, Sum.inl.injEq, Sum.inr.injEq, exists_eq_left', exists_eq_left, Int.reduceLE, Int.reduceLT, Int.reduceNeg, Int.reduceAdd, Int.reduceMul, Int.reduceSub, Int.reduceToNat, inR, Nat.zero_ne_one, false_and, Nat.succ_ne_zero, reduceCtorEq, false_implies, true_implies, not_false_eq_true, not_true_eq_false, Int.reduceEq, KRE, C_Model_isDoubtful, c1', e1, c3', e2]
          repeat (first | refine ⟨by omega, ?_⟩ | refine ⟨fun _ _ => okt_nn (by omega), ?_⟩)
          try (first | (show _ ≤ _; omega) | (show _ < _; omega))
        · rw [if_neg (fun z => by rcases z.2 with z | z; exact c2 z; exact c4 z.2)]
          rw [if_neg c4] at e2
          refine callP_of (by decide) (by decide) (Nat.le_of_ble_eq_true rfl) (wpm_of (cuts := []) (by decide) 50 _ _ _ _ ?_)
          rw [show lM m_Model_isDoubtful = 2 from rfl]
          simp (maxSteps := 2000000) only [↓reduceIte, wp_eq, wpd_eq, kont_eq, STP1, STP2, STP3, STP4, STP5, konM_eq, AMK, CZ, Option.map, List.getElem?_cons_zero, List.getElem?_cons_succ, List.mem_cons, List.not_mem_nil, if_false, if_true, Nat.reduceAdd, Nat.reduceLT, Nat.reduceLeDiff, Nat.reduceEqDiff, true_and, and_true, List.length_nil, List.length_cons, or_true, true_or, or_false, false_or, Option.some.injEq, Sum.inl.injEq, Sum.inr.injEq, exists_eq_left', exists_eq_left, Int.reduceLE, Int.reduceLT, Int.reduceNeg, Int.reduceAdd, Int.reduceMul, Int.reduceSub, Int.reduceToNat, inR, Nat.zero_ne_one, false_and, Nat.succ_ne_zero, reduceCtorEq, false_implies, true_implies, not_false_eq_true, not_true_eq_false, Int.reduceEq, KRE, C_Model_isDoubtful, c1', e1, c3', e2]
          repeat (first | refine ⟨by omega, ?_⟩ | refine ⟨fun _ _ => okt_nn (by omega), ?_⟩)
          try (first | (show _ ≤ _; omega) | (show _ < _; omega))
/-- row A and row B of the reference -/
def rowA (M : Mm) (A : Rw) : Prop := M 154 26 = A.2.1 ∧ A.2.1 ≤ 924 ∧ finM M 162 A ∧ dbM (M 154 27) A
def rowB (M : Mm) (B : Rw) : Prop := M 154 28 = B.2.1 ∧ B.2.1 ≤ 24 ∧ finM M 165 B ∧ dbM (M 154 29) B ∧ fullR B
theorem finM_cells {M M1 : Mm} {v : Nat} {A : Rw} (e : ∀ b, v ≤ b → b < v + 3 → ∀ j, M1 b j = M b j) (h : finM M v A) : finM M1 v A := by
  obtain ⟨⟨h1, h2, h3⟩, h4⟩ := h
  refine ⟨⟨h1, h2, fun j hj => ?_⟩, fun j hj => ?_⟩
  · rw [e v (by omega) (by omega)]; exact h3 j hj
  · rw [e (v + 1) (by omega) (by omega), e (v + 2) (by omega) (by omega)]; exact h4 j hj
theorem rowA_cells {M M1 : Mm} {A : Rw} (e : ∀ b, 162 ≤ b → b < 165 → ∀ j, M1 b j = M b j) (e1 : M1 154 26 = M 154 26) (e2 : M1 154 27 = M 154 27) (h : rowA M A) : rowA M1 A := by
  obtain ⟨h1, h2, h3, h4⟩ := h
  exact ⟨by rw [e1]; exact h1, h2, finM_cells (fun b a1 a2 j => e b a1 (by omega) j) h3, by rw [e2]; exact h4⟩
theorem rowB_cells {M M1 : Mm} {A : Rw} (e : ∀ b, 165 ≤ b → b < 168 → ∀ j, M1 b j = M b j) (e1 : M1 154 28 = M 154 28) (e2 : M1 154 29 = M 154 29) (h : rowB M A) : rowB M1 A := by
  obtain ⟨h1, h2, h3, h4, h5⟩ := h
  exact ⟨by rw [e1]; exact h1, h2, finM_cells (fun b a1 a2 j => e b a1 (by omega) j) h3, by rw [e2]; exact h4, h5⟩
def mSlM (M : Mm) (A B : Rw) (x : Int) : Mm := mset (mset (mset (mset M 154 32 (slPairs A B x)) 154 33 (slSigns A B x)) 154 34 (slRanks A B x)) 154 35 (slScore A B x)
set_option maxHeartbeats 600000 in
set_option maxRecDepth 20000 in
theorem Model_slide_e {x1 x5 x6 x7 : Option AV} {P O S Z : Int} {M : Mm} {Qc : Option AV → Mm → Prop} (hp : M 154 32 = P) (b1 : 0 ≤ P ∧ P ≤ 924) (b2 : 0 ≤ S ∧ S ≤ P) (b3 : 0 ≤ O ∧ O ≤ 4620) (b4 : 0 ≤ Z ∧ Z ≤ 1848)
    (hq : ∀ sg rk : Int, sg = (if S < 1 then 0 else (Z * 100).tdiv (2 * S)) → rk = (if P < 1 then 0 else 100 - (O * 25).tdiv P) → Qc none (mset (mset (mset M 154 33 sg) 154 34 rk) 154 35 ((2 * sg + rk).tdiv 3))) :
    WPm m_Model_slide Qc 223 [some (.inr 154), x1, some (.inl S), some (.inl Z), some (.inl O), x5, x6, x7] [] M := by
  have d1 : 0 ≤ (Z * 100).tdiv (2 * S) ∧ (Z * 100).tdiv (2 * S) ≤ 184800 := by
    rw [Int.tdiv_eq_ediv_of_nonneg (by omega)]
    refine ⟨Int.ediv_nonneg (by omega) (by omega), ?_⟩
    by_cases h : S = 0
    · rw [h]; simp
    · exact Int.le_trans (Int.ediv_le_self _ (by omega)) (by omega)
  have d2 : 0 ≤ (O * 25).tdiv P ∧ (O * 25).tdiv P ≤ 115500 := by
    rw [Int.tdiv_eq_ediv_of_nonneg (by omega)]
    refine ⟨Int.ediv_nonneg (by omega) (by omega), ?_⟩
    by_cases h : P = 0
    · rw [h]; simp
    · exact Int.le_trans (Int.ediv_le_self _ (by omega)) (by omega)
  have K := hq _ _ rfl rfl
  by_cases cs : S = 0
  · rw [if_pos (by omega)] at K
    have cs' := eq_true cs
    by_cases cp : P = 0
    · rw [if_pos (by omega)] at K
      have cp' := eq_true cp
      refine wpm_of (cuts := []) (by decide) 300 _ _ _ _ ?_
      simp (maxSteps := 2000000) only [↓reduceIte, wp_eq, wpd_eq, kont_eq, STP1, STP2, STP3, STP4, STP5, konM_eq, AMK, CZ, Option.map, List.getElem?_cons_zero, List.getElem?_cons_succ, List.mem_cons, List.not_mem_nil, if_false, if_true, Nat.reduceAdd, Nat.reduceLT, Nat.reduceLeDiff, Nat.reduceEqDiff, true_and, and_true, List.length_nil, List.length_cons, or_true, true_or, or_false, false_or, Option.some.injEq, Sum.inl.injEq, Sum.inr.injEq, exists_eq_left', exists_eq_left, Int.reduceLE, Int.reduceLT, Int.reduceNeg, Int.reduceAdd, Int.reduceMul, Int.reduceSub, Int.reduceToNat, inR, Nat.zero_ne_one, false_and, Nat.succ_ne_zero, reduceCtorEq, false_implies, true_implies, not_false_eq_true, not_true_eq_false, Int.reduceEq, KRE, C_Model_slide, FM, MSE, hp, cs', cp']
      repeat (first | refine ⟨by omega, ?_⟩ | refine ⟨fun _ _ => okt_nn (by omega), ?_⟩)
      try (first | (show _ ≤ _; omega) | (show _ < _; omega))
      exact K
    · rw [if_neg (by omega)] at K
      have cp' := eq_false cp
      refine wpm_of (cuts := []) (by decide) 300 _ _ _ _ ?_
      simp (maxSteps := 2000000) only [↓reduceIte, wp_eq, wpd_eq, kont_eq, STP1, STP2, STP3, STP4, STP5, konM_eq, AMK, CZ, Option.map, List.getElem?_cons_zero, List.getElem?_cons_succ, List.mem_cons, List.not_mem_nil, if_false, if_true, Nat.reduceAdd, Nat.reduceLT, Nat.reduceLeDiff, Nat.reduceEqDiff, true_and, and_true, List.length_nil, List.length_cons, or_true, true_or, or_false, false_or, Option.some.injEq, Sum.inl.injEq, Sum.inr.injEq, exists_eq_left', exists_eq_left, Int.reduceLE, Int.reduceLT, Int.reduceNeg, Int.reduceAdd, Int.reduceMul, Int.reduceSub, Int.reduceToNat, inR, Nat.zero_ne_one, false_and, Nat.succ_ne_zero, reduceCtorEq, false_implies, true_implies, not_false_eq_true, not_true_eq_false, Int.reduceEq, KRE, C_Model_slide, FM, MSE, hp, cs', cp']
      repeat (first | refine ⟨by omega, ?_⟩ | refine ⟨fun _ _ => okt_nn (by omega), ?_⟩)
      try (first | (show _ ≤ _; omega) | (show _ < _; omega))
      exact K
  · rw [if_neg (by omega)] at K
    have cs' := eq_false cs
    have cp' := eq_false (show ¬ P = 0 by omega)
    rw [if_neg (by omega)] at K
    generalize (Z * 100).tdiv (2 * S) = e1 at d1 K ⊢
    generalize he2 : (O * 25).tdiv P = e2 at d2 K ⊢
    refine wpm_of (cuts := []) (by decide) 300 _ _ _ _ ?_
    simp (maxSteps := 2000000) only [↓reduceIte, wp_eq, wpd_eq, kont_eq, STP1, STP2, STP3, STP4, STP5, konM_eq, AMK, CZ, Option.map, List.getElem?_cons_zero, List.getElem?_cons_succ, List.mem_cons, List.not_mem_nil, if_false, if_true, Nat.reduceAdd, Nat.reduceLT, Nat.reduceLeDiff, Nat.reduceEqDiff, true_and, and_true, List.length_nil, List.length_cons, or_true, true_or, or_false, false_or, Option.some.injEq, Sum.inl.injEq, Sum.inr.injEq, exists_eq_left', exists_eq_left, Int.reduceLE, Int.reduceLT, Int.reduceNeg, Int.reduceAdd, Int.reduceMul, Int.reduceSub, Int.reduceToNat, inR, Nat.zero_ne_one, false_and, Nat.succ_ne_zero, reduceCtorEq, false_implies, true_implies, not_false_eq_true, not_true_eq_false, Int.reduceEq, KRE, C_Model_slide, FM, MSE, hp, cs', cp']
    repeat (first | refine ⟨by omega, ?_⟩ | refine ⟨fun _ _ => okt_nn (by omega), ?_⟩)
    try (first | (show _ ≤ _; omega) | (show _ < _; omega))
    exact K
theorem slBoth_in {A B : Rw} {s : Int} : 0 ≤ slBoth A B s ∧ slBoth A B s ≤ slPairs A B s := by
  have := sumN_mul (f := fun k => mS A B s (slF s + k)) (g := fun k => mP A B s (slF s + k)) (c := 1) (n := (slT A B s - slF s).toNat) (fun j _ => by
    have := mS_in A B s (slF s + j)
    have := mP_in A B s (slF s + j)
    by_cases e : mP A B s (slF s + j) = 1
    · omega
    · have e2 : mS A B s (slF s + j) = 0 := if_neg (fun z => e z.1)
      omega)
  have h' : 0 ≤ slBoth A B s ∧ slBoth A B s ≤ 1 * slPairs A B s := this
  omega
set_option maxHeartbeats 600000 in
set_option maxRecDepth 20000 in
theorem Model_slide_ok {A B : Rw} {x : Int} {M : Mm} (hA : rowA M A) (hB : rowB M B) (hx : -1000 ≤ x ∧ x ≤ 1000) : CallV m_Model_slide [.inr 154, .inl x] M (fun M' => M' = mSlM M A B x) := by
  obtain ⟨a1, a2, ⟨⟨a3, a4, a5⟩, a6⟩, a7, a8⟩ := hA
  obtain ⟨b1, b2, ⟨⟨b3, b4, b5⟩, b6⟩, ⟨b7, b8⟩, b9⟩ := hB
  have bF : slF x = max 0 (-x) := rfl
  have bT : slT A B x = min B.2.1 (A.2.1 - x) := rfl
  have bnd : (0 ≤ slPairs A B x ∧ slPairs A B x ≤ 924) ∧ (0 ≤ slBoth A B x ∧ slBoth A B x ≤ slPairs A B x) ∧ (0 ≤ sumR (mO A B x) (slF x) (slT A B x) ∧ sumR (mO A B x) (slF x) (slT A B x) ≤ 4620) ∧ (0 ≤ sumR (mA A B x) (slF x) (slT A B x) ∧ sumR (mA A B x) (slF x) (slT A B x) ≤ 1848) := by
    refine ⟨slP_in ⟨a3, a2⟩, slBoth_in, ?_⟩
    by_cases hle : slF x ≤ slT A B x
    · have q3 := sumR_in hle (f := mO A B x) (fun j _ _ => mO_in A B x j)
      have q4 := sumR_in hle (f := mA A B x) (fun j _ _ => mA_in A B x j)
      omega
    · rw [sumR_e (by omega), sumR_e (by omega)]
      omega
  have s0 := sumR_0 (mP A B x) (slF x)
  refine callP_of (by decide) (by decide) (Nat.le_of_ble_eq_true rfl) (wpm_of (cuts := [20]) (by decide) 50 _ _ _ _ ?_)
  rw [show lM m_Model_slide = 8 from rfl]
  simp (maxSteps := 2000000) only [↓reduceIte, wp_eq, wpd_eq, kont_eq, STP1, STP2, STP3, STP4, STP5, konM_eq, AMK, CZ, Option.map, List.getElem?_cons_zero, List.getElem?_cons_succ, List.mem_cons, List.not_mem_nil, if_false, if_true, Nat.reduceAdd, Nat.reduceLT, Nat.reduceLeDiff, Nat.reduceEqDiff, true_and, and_true, List.length_nil, List.length_cons, or_true, true_or, or_false, false_or, Option.some.injEq, Sum.inl.injEq, Sum.inr.injEq, exists_eq_left', exists_eq_left, Int.reduceLE, Int.reduceLT, Int.reduceNeg, Int.reduceAdd, Int.reduceMul, Int.reduceSub, Int.reduceToNat, inR, Nat.zero_ne_one, false_and, Nat.succ_ne_zero, reduceCtorEq, false_implies, true_implies, not_false_eq_true, not_true_eq_false, Int.reduceEq, KRE, C_Model_slide, FM]
  refine ⟨by omega, by omega, ?_⟩
  refine loopQ (slT A B x - slF x).toNat (fun k ls M1 => M1 = mset M 154 32 (sumR (mP A B x) (slF x) (slF x + k)) ∧ ∃ a6 a7, ls = [some (.inr 154), some (.inl x), some (.inl (sumR (mS A B x) (slF x) (slF x + k))), some (.inl (sumR (mA A B x) (slF x) (slF x + k))), some (.inl (sumR (mO A B x) (slF x) (slF x + k))), some (.inl (slF x + k)), a6, a7]) ?_ _ _ ⟨?_, none, none, ?_⟩
  · rintro k _ _ hk ⟨rfl, a6', a7', rfl⟩ K
    have ms0 : ∀ v, mset M 154 32 v 154 32 = v := fun v => if_pos ⟨rfl, rfl⟩
    have e26 : ∀ v, mset M 154 32 v 154 26 = A.2.1 := fun v => by rw [← a1]; exact if_neg (fun z => absurd z.2 (by decide))
    have e28 : ∀ v, mset M 154 32 v 154 28 = B.2.1 := fun v => by rw [← b1]; exact if_neg (fun z => absurd z.2 (by decide))
    have e27 : ∀ v, mset M 154 32 v 154 27 = M 154 27 := fun v => if_neg (fun z => absurd z.2 (by decide))
    have e29 : ∀ v, mset M 154 32 v 154 29 = M 154 29 := fun v => if_neg (fun z => absurd z.2 (by decide))
    have eo : ∀ v b j, b ≠ 154 → mset M 154 32 v b j = M b j := fun v b j hb => mset_ne b hb j
    have eo1 : ∀ v j, mset M 154 32 v 162 j = M 162 j := fun v j => eo v 162 j (by decide)
    have eo2 : ∀ v j, mset M 154 32 v 163 j = M 163 j := fun v j => eo v 163 j (by decide)
    have eo3 : ∀ v j, mset M 154 32 v 164 j = M 164 j := fun v j => eo v 164 j (by decide)
    have eo4 : ∀ v j, mset M 154 32 v 166 j = M 166 j := fun v j => eo v 166 j (by decide)
    have eo5 : ∀ v j, mset M 154 32 v 167 j = M 167 j := fun v j => eo v 167 j (by decide)
    by_cases hj : slT A B x ≤ slF x + k
    · have out : ∀ a5 a6 a7, WPm m_Model_slide (fun v M' => v = none ∧ M' = mSlM M A B x) 223 [some (.inr 154), some (.inl x), some (.inl (sumR (mS A B x) (slF x) (slF x + k))), some (.inl (sumR (mA A B x) (slF x) (slF x + k))), some (.inl (sumR (mO A B x) (slF x) (slF x + k))), a5, a6, a7] [] (mset M 154 32 (sumR (mP A B x) (slF x) (slF x + k))) := by
        intro a5 a6 a7
        have fin : sumR (mP A B x) (slF x) (slF x + k) = slPairs A B x ∧ sumR (mS A B x) (slF x) (slF x + k) = slBoth A B x ∧ sumR (mO A B x) (slF x) (slF x + k) = sumR (mO A B x) (slF x) (slT A B x) ∧ sumR (mA A B x) (slF x) (slF x + k) = sumR (mA A B x) (slF x) (slT A B x) := by
          unfold slPairs slBoth
          by_cases hz : slF x ≤ slT A B x
          · rw [show slF x + (k : Int) = slT A B x by omega]
            exact ⟨rfl, rfl, rfl, rfl⟩
          · rw [show slF x + (k : Int) = slF x by omega, sumR_0, sumR_0, sumR_0, sumR_0, sumR_e (by omega), sumR_e (by omega), sumR_e (by omega), sumR_e (by omega)]
            exact ⟨rfl, rfl, rfl, rfl⟩
        obtain ⟨f1, f2, f3, f4⟩ := fin
        rw [f1, f2, f3, f4]
        refine Model_slide_e (P := slPairs A B x) (ms0 _) bnd.1 bnd.2.1 bnd.2.2.1 bnd.2.2.2 (fun sg rk h1 h2 => ?_)
        subst h1; subst h2
        exact ⟨rfl, rfl⟩
      by_cases c1 : B.2.1 ≤ slF x + k
      · have c1' := eq_true c1
        refine wpm_of (cuts := [20, 217, 223]) (by decide) 100 _ _ _ _ ?_
        simp (maxSteps := 2000000) only [↓reduceIte, wp_eq, wpd_eq, kont_eq, STP1, STP2, STP3, STP4, STP5, konM_eq, AMK, CZ, Option.map, List.getElem?_cons_zero, List.getElem?_cons_succ, List.mem_cons, List.not_mem_nil, if_false, if_true, Nat.reduceAdd, Nat.reduceLT, Nat.reduceLeDiff, Nat.reduceEqDiff, true_and, and_true, List.length_nil, List.length_cons, or_true, true_or, or_false, false_or, Option.some.injEq, Sum.inl.injEq, Sum.inr.injEq, exists_eq_left', exists_eq_left, Int.reduceLE, Int.reduceLT, Int.reduceNeg, Int.reduceAdd, Int.reduceMul, Int.reduceSub, Int.reduceToNat, inR, Nat.zero_ne_one, false_and, Nat.succ_ne_zero, reduceCtorEq, false_implies, true_implies, not_false_eq_true, not_true_eq_false, Int.reduceEq, KRE, C_Model_slide, FM, e28, c1']
        exact ⟨by omega, by omega, out _ _ _⟩
      · have c1' := eq_false c1
        have c2' := eq_true (show A.2.1 ≤ slF x + k + x by omega)
        refine wpm_of (cuts := [20, 217, 223]) (by decide) 100 _ _ _ _ ?_
        simp (maxSteps := 2000000) only [↓reduceIte, wp_eq, wpd_eq, kont_eq, STP1, STP2, STP3, STP4, STP5, konM_eq, AMK, CZ, Option.map, List.getElem?_cons_zero, List.getElem?_cons_succ, List.mem_cons, List.not_mem_nil, if_false, if_true, Nat.reduceAdd, Nat.reduceLT, Nat.reduceLeDiff, Nat.reduceEqDiff, true_and, and_true, List.length_nil, List.length_cons, or_true, true_or, or_false, false_or, Option.some.injEq, Sum.inl.injEq, Sum.inr.injEq, exists_eq_left', exists_eq_left, Int.reduceLE, Int.reduceLT, Int.reduceNeg, Int.reduceAdd, Int.reduceMul, Int.reduceSub, Int.reduceToNat, inR, Nat.zero_ne_one, false_and, Nat.succ_ne_zero, reduceCtorEq, false_implies, true_implies, not_false_eq_true, not_true_eq_false, Int.reduceEq, KRE, C_Model_slide, FM, e28, e26, c1', c2']
        exact ⟨by omega, by omega, by omega, by omega, out _ _ _⟩
    · have c1' := eq_false (show ¬ B.2.1 ≤ slF x + k by omega)
      have c2' := eq_false (show ¬ A.2.1 ≤ slF x + k + x by omega)
      generalize hj9 : slF x + (k : Int) = j at *
      have KK : ∀ a6 a7 : Option AV, WPm m_Model_slide (fun v M' => v = none ∧ M' = mSlM M A B x) 217 [some (.inr 154), some (.inl x), some (.inl (sumR (mS A B x) (slF x) j + mS A B x j)), some (.inl (sumR (mA A B x) (slF x) j + mA A B x j)), some (.inl (sumR (mO A B x) (slF x) j + mO A B x j)), some (.inl j), a6, a7] [] (mset M 154 32 (sumR (mP A B x) (slF x) j + mP A B x j)) := by
        intro a6 a7
        have K1 := K (by omega) _ _ ⟨rfl, a6, a7, rfl⟩
        rw [natI, ← Int.add_assoc, hj9, sumR_succ _ (by omega), sumR_succ _ (by omega), sumR_succ _ (by omega), sumR_succ _ (by omega)] at K1
        refine wpm_of (cuts := [20]) (by decide) 300 _ _ _ _ ?_
        simp (maxSteps := 2000000) only [↓reduceIte, wp_eq, wpd_eq, kont_eq, STP1, STP2, STP3, STP4, STP5, konM_eq, AMK, CZ, Option.map, List.getElem?_cons_zero, List.getElem?_cons_succ, List.mem_cons, List.not_mem_nil, if_false, if_true, Nat.reduceAdd, Nat.reduceLT, Nat.reduceLeDiff, Nat.reduceEqDiff, true_and, and_true, List.length_nil, List.length_cons, or_true, true_or, or_false, false_or, Option.some.injEq, Sum.inl.injEq, Sum.inr.injEq, exists_eq_left', exists_eq_left, Int.reduceLE, Int.reduceLT, Int.reduceNeg, Int.reduceAdd, Int.reduceMul, Int.reduceSub, Int.reduceToNat, inR, Nat.zero_ne_one, false_and, Nat.succ_ne_zero, reduceCtorEq, false_implies, true_implies, not_false_eq_true, not_true_eq_false, Int.reduceEq, KRE, C_Model_slide, FM]
        exact K1
      have i1 := sRank_in A (j + x)
      have i2 := sRank_in B j
      have i3 := sStep_in A (j + x)
      have i4 := sStep_in B j
      have n2 : sN B j ≠ 0 := b9 j (by omega) (by omega)
      have w1 := a5 (j + x).toNat (by omega)
      have w2 := a6 (j + x).toNat (by omega)
      have w3 := b6 j.toNat (by omega)
      rw [show (((j + x).toNat : Nat) : Int) = j + x by omega] at w1 w2
      rw [show ((j.toNat : Nat) : Int) = j by omega] at w3
      have d1 := a8 (j + x) (by omega) (by omega)
      have d2 := b8 j (by omega) (by omega)
      obtain ⟨w4, w5⟩ := w2
      obtain ⟨w6, w7⟩ := w3
      have rB : mRk B j = sRank B j := if_neg n2
      rw [rB] at w7
      have vP : mP A B x j = if sN A (j + x) ≠ 0 then 1 else 0 := by
        unfold mP
        by_cases h : sN A (j + x) = 0 <;> simp [h, n2]
      have vO : mO A B x j = if mP A B x j = 1 then max (sRank A (j + x) - sRank B j) (-(sRank A (j + x) - sRank B j)) else 0 := rfl
      have vS : mS A B x j = if mP A B x j = 1 ∧ sStep A (j + x) ≠ 2 ∧ sStep B j ≠ 2 then 1 else 0 := rfl
      have vA : mA A B x j = if mS A B x j = 1 then (if sShk A (j + x) ≠ 0 ∨ sShk B j ≠ 0 then 1 else like (sStep A (j + x)) (sStep B j)) else 0 := rfl
      have mv := mV_in (k := j + x) a4
      by_cases hp : sN A (j + x) = 0
      · rw [if_neg (by omega)] at vP
        rw [vP, if_neg (by omega)] at vO
        rw [vP, if_neg (by omega)] at vS
        rw [vS, if_neg (by omega)] at vA
        rw [vO, vS, vA, vP] at KK
        simp only [Int.add_zero] at KK
        have w1' : mV A (j + x) = -1 := mv.2.2.1.mpr hp
        refine wpm_of (cuts := [20, 217, 223]) (by decide) 300 _ _ _ _ ?_
        simp (maxSteps := 2000000) only [↓reduceIte, wp_eq, wpd_eq, kont_eq, STP1, STP2, STP3, STP4, STP5, konM_eq, AMK, CZ, Option.map, List.getElem?_cons_zero, List.getElem?_cons_succ, List.mem_cons, List.not_mem_nil, if_false, if_true, Nat.reduceAdd, Nat.reduceLT, Nat.reduceLeDiff, Nat.reduceEqDiff, true_and, and_true, List.length_nil, List.length_cons, or_true, true_or, or_false, false_or, Option.some.injEq, Sum.inl.injEq, Sum.inr.injEq, exists_eq_left', exists_eq_left, Int.reduceLE, Int.reduceLT, Int.reduceNeg, Int.reduceAdd, Int.reduceMul, Int.reduceSub, Int.reduceToNat, inR, Nat.zero_ne_one, false_and, Nat.succ_ne_zero, reduceCtorEq, false_implies, true_implies, not_false_eq_true, not_true_eq_false, Int.reduceEq, KRE, C_Model_slide, FM, e28, e26, c1', c2', eo1, w1, w1']
        exact ⟨by omega, by omega, by omega, by omega, ⟨by omega, by omega⟩, KK _ _⟩
      · rw [if_pos hp] at vP
        rw [vP, if_pos rfl] at vO
        rw [vP] at vS
        rw [vO, vP] at KK
        have w1' : ¬ mV A (j + x) = -1 := fun z => hp (mv.2.2.1.mp z)
        have w1'' := eq_false w1'
        have rA : mRk A (j + x) = sRank A (j + x) := if_neg hp
        rw [rA] at w5
        by_cases hs1 : sStep A (j + x) = 2
        · rw [if_neg (by omega)] at vS
          rw [vS, if_neg (by omega)] at vA
          rw [vS, vA] at KK
          simp only [Int.add_zero] at KK
          refine wpm_of (cuts := [20, 217, 223]) (by decide) 300 _ _ _ _ ?_
          simp (maxSteps := 2000000) only [↓reduceIte, wp_eq, wpd_eq, kont_eq, STP1, STP2, STP3, STP4, STP5, konM_eq, AMK, CZ, Option.map, List.getElem?_cons_zero, List.getElem?_cons_succ, List.mem_cons, List.not_mem_nil, if_false, if_true, Nat.reduceAdd, Nat.reduceLT, Nat.reduceLeDiff, Nat.reduceEqDiff, true_and, and_true, List.length_nil, List.length_cons, or_true, true_or, or_false, false_or, Option.some.injEq, Sum.inl.injEq, Sum.inr.injEq, exists_eq_left', exists_eq_left, Int.reduceLE, Int.reduceLT, Int.reduceNeg, Int.reduceAdd, Int.reduceMul, Int.reduceSub, Int.reduceToNat, inR, Nat.zero_ne_one, false_and, Nat.succ_ne_zero, reduceCtorEq, false_implies, true_implies, not_false_eq_true, not_true_eq_false, Int.reduceEq, KRE, C_Model_slide, FM, e28, e26, c1', c2', eo1, eo2, eo3, eo5, w1, w1'', ms0, mset_mset, w4, w5, w7, hs1]
          repeat (first | refine ⟨by omega, ?_⟩ | refine ⟨fun _ _ => okt_nn (by omega), ?_⟩)
          try (first | (show _ ≤ _; omega) | (show _ < _; omega))
          exact KK _ _
        · have hs1' := eq_false hs1
          by_cases hs2 : sStep B j = 2
          · rw [if_neg (by omega)] at vS
            rw [vS, if_neg (by omega)] at vA
            rw [vS, vA] at KK
            simp only [Int.add_zero] at KK
            refine wpm_of (cuts := [20, 217, 223]) (by decide) 300 _ _ _ _ ?_
            simp (maxSteps := 2000000) only [↓reduceIte, wp_eq, wpd_eq, kont_eq, STP1, STP2, STP3, STP4, STP5, konM_eq, AMK, CZ, Option.map, List.getElem?_cons_zero, List.getElem?_cons_succ, List.mem_cons, List.not_mem_nil, if_false, if_true, Nat.reduceAdd, Nat.reduceLT, Nat.reduceLeDiff, Nat.reduceEqDiff, true_and, and_true, List.length_nil, List.length_cons, or_true, true_or, or_false, false_or, Option.some.injEq, Sum.inl.injEq, Sum.inr.injEq, exists_eq_left', exists_eq_left, Int.reduceLE, Int.reduceLT, Int.reduceNeg, Int.reduceAdd, Int.reduceMul, Int.reduceSub, Int.reduceToNat, inR, Nat.zero_ne_one, false_and, Nat.succ_ne_zero, reduceCtorEq, false_implies, true_implies, not_false_eq_true, not_true_eq_false, Int.reduceEq, KRE, C_Model_slide, FM, e28, e26, c1', c2', eo1, eo2, eo3, eo4, eo5, w1, w1'', ms0, mset_mset, w4, w5, w6, w7, hs1', hs2]
            repeat (first | refine ⟨by omega, ?_⟩ | refine ⟨fun _ _ => okt_nn (by omega), ?_⟩)
            try (first | (show _ ≤ _; omega) | (show _ < _; omega))
            exact KK _ _
          · have hs2' := eq_false hs2
            rw [if_pos ⟨rfl, hs1, hs2⟩] at vS
            rw [vS, if_pos rfl] at vA
            rw [vS] at KK
            refine wpm_of (cuts := [20, 152, 156, 217, 223]) (by decide) 300 _ _ _ _ ?_
            simp (maxSteps := 2000000) only [↓reduceIte, wp_eq, wpd_eq, kont_eq, STP1, STP2, STP3, STP4, STP5, konM_eq, AMK, CZ, Option.map, List.getElem?_cons_zero, List.getElem?_cons_succ, List.mem_cons, List.not_mem_nil, if_false, if_true, Nat.reduceAdd, Nat.reduceLT, Nat.reduceLeDiff, Nat.reduceEqDiff, true_and, and_true, List.length_nil, List.length_cons, or_true, true_or, or_false, false_or, Option.some.injEq, Sum.inl.injEq, Sum.inr.injEq, exists_eq_left', exists_eq_left, Int.reduceLE, Int.reduceLT, Int.reduceNeg, Int.reduceAdd, Int.reduceMul, Int.reduceSub, Int.reduceToNat, inR, Nat.zero_ne_one, false_and, Nat.succ_ne_zero, reduceCtorEq, false_implies, true_implies, not_false_eq_true, not_true_eq_false, Int.reduceEq, KRE, C_Model_slide, FM, e28, e26, e27, e29, c1', c2', eo1, eo2, eo3, eo4, eo5, w1, w1'', ms0, mset_mset, w4, w5, w6, w7, hs1', hs2']
            repeat (first | refine ⟨by omega, ?_⟩ | refine ⟨fun _ _ => okt_nn (by omega), ?_⟩)
            try (first | (show _ ≤ _; omega) | (show _ < _; omega))
            refine (Model_isDoubtful_ok ⟨by omega, by omega⟩).eq ?_
            have lk : ∀ a6, (¬ (sShk A (j + x) ≠ 0 ∨ sShk B j ≠ 0)) → WPm m_Model_slide (fun v M' => v = none ∧ M' = mSlM M A B x) 156 [some (.inr 154), some (.inl x), some (.inl (sumR (mS A B x) (slF x) j + 1)), some (.inl (sumR (mA A B x) (slF x) j)), some (.inl (sumR (mO A B x) (slF x) j + max (sRank A (j + x) - sRank B j) (-(sRank A (j + x) - sRank B j)))), some (.inl j), some (.inl (j + x)), a6] [] (mset M 154 32 (sumR (mP A B x) (slF x) j + 1)) := by
              intro a6 hn
              rw [if_neg hn] at vA
              rw [vA] at KK
              by_cases q1 : sStep A (j + x) = sStep B j
              · rw [show like (sStep A (j + x)) (sStep B j) = 2 from if_pos q1] at KK
                have q1' := eq_true q1
                refine wpm_of (cuts := [20, 217, 223]) (by decide) 300 _ _ _ _ ?_
                simp (maxSteps := 2000000) only [↓reduceIte, wp_eq, wpd_eq, kont_eq, STP1, STP2, STP3, STP4, STP5, konM_eq, AMK, CZ, Option.map, List.getElem?_cons_zero, List.getElem?_cons_succ, List.mem_cons, List.not_mem_nil, if_false, if_true, Nat.reduceAdd, Nat.reduceLT, Nat.reduceLeDiff, Nat.reduceEqDiff, true_and, and_true, List.length_nil, List.length_cons, or_true, true_or, or_false, false_or, Option.some.injEq, Sum.inl.injEq, Sum.inr.injEq, exists_eq_left', exists_eq_left, Int.reduceLE, Int.reduceLT, Int.reduceNeg, Int.reduceAdd, Int.reduceMul, Int.reduceSub, Int.reduceToNat, inR, Nat.zero_ne_one, false_and, Nat.succ_ne_zero, reduceCtorEq, false_implies, true_implies, not_false_eq_true, not_true_eq_false, Int.reduceEq, KRE, C_Model_slide, FM, eo2, eo4, w4, w6, q1']
                repeat (first | refine ⟨by omega, ?_⟩ | refine ⟨fun _ _ => okt_nn (by omega), ?_⟩)
                try (first | (show _ ≤ _; omega) | (show _ < _; omega))
                exact KK _ _
              · have q1' := eq_false q1
                by_cases q2 : sStep A (j + x) = 0
                · rw [show like (sStep A (j + x)) (sStep B j) = 1 by unfold like; rw [if_neg q1, if_pos (Or.inl q2)]] at KK
                  rw [q2] at q1'
                  refine wpm_of (cuts := [20, 217, 223]) (by decide) 300 _ _ _ _ ?_
                  simp (maxSteps := 2000000) only [↓reduceIte, wp_eq, wpd_eq, kont_eq, STP1, STP2, STP3, STP4, STP5, konM_eq, AMK, CZ, Option.map, List.getElem?_cons_zero, List.getElem?_cons_succ, List.mem_cons, List.not_mem_nil, if_false, if_true, Nat.reduceAdd, Nat.reduceLT, Nat.reduceLeDiff, Nat.reduceEqDiff, true_and, and_true, List.length_nil, List.length_cons, or_true, true_or, or_false, false_or, Option.some.injEq, Sum.inl.injEq, Sum.inr.injEq, exists_eq_left', exists_eq_left, Int.reduceLE, Int.reduceLT, Int.reduceNeg, Int.reduceAdd, Int.reduceMul, Int.reduceSub, Int.reduceToNat, inR, Nat.zero_ne_one, false_and, Nat.succ_ne_zero, reduceCtorEq, false_implies, true_implies, not_false_eq_true, not_true_eq_false, Int.reduceEq, KRE, C_Model_slide, FM, eo2, eo4, w4, w6, q2, q1']
                  repeat (first | refine ⟨by omega, ?_⟩ | refine ⟨fun _ _ => okt_nn (by omega), ?_⟩)
                  try (first | (show _ ≤ _; omega) | (show _ < _; omega))
                  exact KK _ _
                · have q2' := eq_false q2
                  by_cases q3 : sStep B j = 0
                  · rw [show like (sStep A (j + x)) (sStep B j) = 1 by unfold like; rw [if_neg q1, if_pos (Or.inr q3)]] at KK
                    refine wpm_of (cuts := [20, 217, 223]) (by decide) 300 _ _ _ _ ?_
                    simp (maxSteps := 2000000) only [↓reduceIte, wp_eq, wpd_eq, kont_eq, STP1, STP2, STP3, STP4, STP5, konM_eq, AMK, CZ, Option.map, List.getElem?_cons_zero, List.getElem?_cons_succ, List.mem_cons, List.not_mem_nil, if_false, if_true, Nat.reduceAdd, Nat.reduceLT, Nat.reduceLeDiff, Nat.reduceEqDiff, true_and, and_true, List.length_nil, List.length_cons, or_true, true_or, or_false, false_or, Option.some.injEq, Sum.inl.injEq, Sum.inr.injEq, exists_eq_left', exists_eq_left, Int.reduceLE, Int.reduceLT, Int.reduceNeg, Int.reduceAdd, Int.reduceMul, Int.reduceSub, Int.reduceToNat, inR, Nat.zero_ne_one, false_and, Nat.succ_ne_zero, reduceCtorEq, false_implies, true_implies, not_false_eq_true, not_true_eq_false, Int.reduceEq, KRE, C_Model_slide, FM, eo2, eo4, w4, w6, q2', q3]
                    repeat (first | refine ⟨by omega, ?_⟩ | refine ⟨fun _ _ => okt_nn (by omega), ?_⟩)
                    try (first | (show _ ≤ _; omega) | (show _ < _; omega))
                    exact KK _ _
                  · have q3' := eq_false q3
                    rw [show like (sStep A (j + x)) (sStep B j) = 0 by unfold like; rw [if_neg q1, if_neg (by omega)], Int.add_zero] at KK
                    refine wpm_of (cuts := [20, 217, 223]) (by decide) 300 _ _ _ _ ?_
                    simp (maxSteps := 2000000) only [↓reduceIte, wp_eq, wpd_eq, kont_eq, STP1, STP2, STP3, STP4, STP5, konM_eq, AMK, CZ, Option.map, List.getElem?_cons_zero, List.getElem?_cons_succ, List.mem_cons, List.not_mem_nil, if_false, if_true, Nat.reduceAdd, Nat.reduceLT, Nat.reduceLeDiff, Nat.reduceEqDiff, true_and, and_true, List.length_nil, List.length_cons, or_true, true_or, or_false, false_or, Option.some.injEq, Sum.inl.injEq, Sum.inr.injEq, exists_eq_left', exists_eq_left, Int.reduceLE, Int.reduceLT, Int.reduceNeg, Int.reduceAdd, Int.reduceMul, Int.reduceSub, Int.reduceToNat, inR, Nat.zero_ne_one, false_and, Nat.succ_ne_zero, reduceCtorEq, false_implies, true_implies, not_false_eq_true, not_true_eq_false, Int.reduceEq, KRE, C_Model_slide, FM, eo2, eo4, w4, w6, q2', q3', q1']
                    repeat (first | refine ⟨by omega, ?_⟩ | refine ⟨fun _ _ => okt_nn (by omega), ?_⟩)
                    try (first | (show _ ≤ _; omega) | (show _ < _; omega))
                    exact KK _ _
            have yes : ∀ a6, (sShk A (j + x) ≠ 0 ∨ sShk B j ≠ 0) → WPm m_Model_slide (fun v M' => v = none ∧ M' = mSlM M A B x) 152 [some (.inr 154), some (.inl x), some (.inl (sumR (mS A B x) (slF x) j + 1)), some (.inl (sumR (mA A B x) (slF x) j)), some (.inl (sumR (mO A B x) (slF x) j + max (sRank A (j + x) - sRank B j) (-(sRank A (j + x) - sRank B j)))), some (.inl j), some (.inl (j + x)), a6] [] (mset M 154 32 (sumR (mP A B x) (slF x) j + 1)) := by
              intro a6 hn
              rw [if_pos hn] at vA
              rw [vA] at KK
              refine wpm_of (cuts := [20, 217, 223]) (by decide) 300 _ _ _ _ ?_
              simp (maxSteps := 2000000) only [↓reduceIte, wp_eq, wpd_eq, kont_eq, STP1, STP2, STP3, STP4, STP5, konM_eq, AMK, CZ, Option.map, List.getElem?_cons_zero, List.getElem?_cons_succ, List.mem_cons, List.not_mem_nil, if_false, if_true, Nat.reduceAdd, Nat.reduceLT, Nat.reduceLeDiff, Nat.reduceEqDiff, true_and, and_true, List.length_nil, List.length_cons, or_true, true_or, or_false, false_or, Option.some.injEq, Sum.inl.injEq, Sum.inr.injEq, exists_eq_left', exists_eq_left, Int.reduceLE, Int.reduceLT, Int.reduceNeg, Int.reduceAdd, Int.reduceMul, Int.reduceSub, Int.reduceToNat, inR, Nat.zero_ne_one, false_and, Nat.succ_ne_zero, reduceCtorEq, false_implies, true_implies, not_false_eq_true, not_true_eq_false, Int.reduceEq, KRE, C_Model_slide, FM]
              repeat (first | refine ⟨by omega, ?_⟩ | refine ⟨fun _ _ => okt_nn (by omega), ?_⟩)
              try (first | (show _ ≤ _; omega) | (show _ < _; omega))
              exact KK _ _
            by_cases t1 : isD (M 154 29) j
            · rw [if_pos t1]
              simp (maxSteps := 2000000) only [↓reduceIte, wp_eq, wpd_eq, kont_eq, STP1, STP2, STP3, STP4, STP5, konM_eq, AMK, CZ, Option.map, List.getElem?_cons_zero, List.getElem?_cons_succ, List.mem_cons, List.not_mem_nil, if_false, if_true, Nat.reduceAdd, Nat.reduceLT, Nat.reduceLeDiff, Nat.reduceEqDiff, true_and, and_true, List.length_nil, List.length_cons, or_true, true_or, or_false, false_or, Option.some.injEq, Sum.inl.injEq, Sum.inr.injEq, exists_eq_left', exists_eq_left, Int.reduceLE, Int.reduceLT, Int.reduceNeg, Int.reduceAdd, Int.reduceMul, Int.reduceSub, Int.reduceToNat, inR, Nat.zero_ne_one, false_and, Nat.succ_ne_zero, reduceCtorEq, false_implies, true_implies, not_false_eq_true, not_true_eq_false, Int.reduceEq, KRE, C_Model_slide]
              refine ⟨by omega, ?_⟩
              exact yes _ (Or.inr (d2.mpr t1))
            · rw [if_neg t1]
              have a7' := a7
              simp only [inR] at a7'
              by_cases t2 : M 154 27 = 0
              · have t2' := eq_true t2
                rw [t2] at d1
                simp (maxSteps := 2000000) only [↓reduceIte, wp_eq, wpd_eq, kont_eq, STP1, STP2, STP3, STP4, STP5, konM_eq, AMK, CZ, Option.map, List.getElem?_cons_zero, List.getElem?_cons_succ, List.mem_cons, List.not_mem_nil, if_false, if_true, Nat.reduceAdd, Nat.reduceLT, Nat.reduceLeDiff, Nat.reduceEqDiff, true_and, and_true, List.length_nil, List.length_cons, or_true, true_or, or_false, false_or, Option.some.injEq, Sum.inl.injEq, Sum.inr.injEq, exists_eq_left', exists_eq_left, Int.reduceLE, Int.reduceLT, Int.reduceNeg, Int.reduceAdd, Int.reduceMul, Int.reduceSub, Int.reduceToNat, inR, Nat.zero_ne_one, false_and, Nat.succ_ne_zero, reduceCtorEq, false_implies, true_implies, not_false_eq_true, not_true_eq_false, Int.reduceEq, KRE, C_Model_slide, FM, e27, t2']
                refine ⟨by omega, by omega, ?_⟩
                exact lk _ (fun z => by rcases z with z | z; exact isD_0 _ (d1.mp z); exact t1 (d2.mp z))
              · have t2' := eq_false t2
                simp (maxSteps := 2000000) only [↓reduceIte, wp_eq, wpd_eq, kont_eq, STP1, STP2, STP3, STP4, STP5, konM_eq, AMK, CZ, Option.map, List.getElem?_cons_zero, List.getElem?_cons_succ, List.mem_cons, List.not_mem_nil, if_false, if_true, Nat.reduceAdd, Nat.reduceLT, Nat.reduceLeDiff, Nat.reduceEqDiff, true_and, and_true, List.length_nil, List.length_cons, or_true, true_or, or_false, false_or, Option.some.injEq, Sum.inl.injEq, Sum.inr.injEq, exists_eq_left', exists_eq_left, Int.reduceLE, Int.reduceLT, Int.reduceNeg, Int.reduceAdd, Int.reduceMul, Int.reduceSub, Int.reduceToNat, inR, Nat.zero_ne_one, false_and, Nat.succ_ne_zero, reduceCtorEq, false_implies, true_implies, not_false_eq_true, not_true_eq_false, Int.reduceEq, KRE, C_Model_slide, FM, e27, t2']
                refine ⟨by omega, by omega, ?_⟩
                refine (Model_isDoubtful_ok ⟨by omega, by omega⟩).eq ?_
                by_cases t3 : isD (M 154 27) (j + x)
                · rw [if_pos t3]
                  simp (maxSteps := 2000000) only [↓reduceIte, wp_eq, wpd_eq, kont_eq, STP1, STP2, STP3, STP4, STP5, konM_eq, AMK, CZ, Option.map, List.getElem?_cons_zero, List.getElem?_cons_succ, List.mem_cons, List.not_mem_nil, if_false, if_true, Nat.reduceAdd, Nat.reduceLT, Nat.reduceLeDiff, Nat.reduceEqDiff, true_and, and_true, List.length_nil, List.length_cons, or_true, true_or, or_false, false_or, Option.some.injEq, Sum.inl.injEq, Sum.inr.injEq, exists_eq_left', exists_eq_left, Int.reduceLE, Int.reduceLT, Int.reduceNeg, Int.reduceAdd, Int.reduceMul, Int.reduceSub, Int.reduceToNat, inR, Nat.zero_ne_one, false_and, Nat.succ_ne_zero, reduceCtorEq, false_implies, true_implies, not_false_eq_true, not_true_eq_false, Int.reduceEq, KRE, C_Model_slide]
                  refine ⟨by omega, ?_⟩
                  exact yes _ (Or.inl (d1.mpr t3))
                · rw [if_neg t3]
                  simp (maxSteps := 2000000) only [↓reduceIte, wp_eq, wpd_eq, kont_eq, STP1, STP2, STP3, STP4, STP5, konM_eq, AMK, CZ, Option.map, List.getElem?_cons_zero, List.getElem?_cons_succ, List.mem_cons, List.not_mem_nil, if_false, if_true, Nat.reduceAdd, Nat.reduceLT, Nat.reduceLeDiff, Nat.reduceEqDiff, true_and, and_true, List.length_nil, List.length_cons, or_true, true_or, or_false, false_or, Option.some.injEq, Sum.inl.injEq, Sum.inr.injEq, exists_eq_left', exists_eq_left, Int.reduceLE, Int.reduceLT, Int.reduceNeg, Int.reduceAdd, Int.reduceMul, Int.reduceSub, Int.reduceToNat, inR, Nat.zero_ne_one, false_and, Nat.succ_ne_zero, reduceCtorEq, false_implies, true_implies, not_false_eq_true, not_true_eq_false, Int.reduceEq, KRE, C_Model_slide]
                  refine ⟨by omega, ?_⟩
                  exact lk _ (fun z => by rcases z with z | z; exact t3 (d1.mp z); exact t1 (d2.mp z))
  · rw [show slF x + ((0 : Nat) : Int) = slF x by omega, sumR_0]
  · rw [show slF x + ((0 : Nat) : Int) = slF x by omega, sumR_0, sumR_0, sumR_0]
    rfl

/-! THE REFERENCE, 3: the settings, the best place. -/
def setM (M : Mm) (lap bnd mrg : Int) : Prop := ((if M 156 1 = -1 then 70 else M 156 1) = bnd ∧ 50 ≤ bnd ∧ bnd ≤ 100) ∧ ((if M 156 2 = -1 then 6 else M 156 2) = lap ∧ 3 ≤ lap ∧ lap ≤ 24) ∧ ((if M 156 3 = -1 then 5 else M 156 3) = mrg ∧ 0 ≤ mrg ∧ mrg ≤ 50)
theorem setM_cells {M M1 : Mm} {lap bnd mrg : Int} (e : ∀ j, M1 156 j = M 156 j) (h : setM M lap bnd mrg) : setM M1 lap bnd mrg := by
  unfold setM at *
  rw [e, e, e]
  exact h
set_option maxHeartbeats 600000 in
set_option maxRecDepth 20000 in
theorem Model_bound_ok {lap bnd mrg : Int} {M : Mm} (h : setM M lap bnd mrg) : CallI m_Model_bound [.inr 154] M (fun x M' => x = bnd ∧ M' = M) := by
  obtain ⟨⟨h1, h2⟩, -, -⟩ := h
  by_cases c : M 156 1 = -1
  · rw [if_pos c] at h1
    refine callP_of (by decide) (by decide) (Nat.le_of_ble_eq_true rfl) (wpm_of (cuts := []) (by decide) 50 _ _ _ _ ?_)
    rw [show lM m_Model_bound = 1 from rfl]
    simp (maxSteps := 2000000) only [↓reduceIte, wp_eq, wpd_eq, kont_eq, STP1, STP2, STP3, STP4, STP5, konM_eq, AMK, CZ, Option.map, List.getElem?_cons_zero, List.getElem?_cons_succ, List.mem_cons, List.not_mem_nil, if_false, if_true, Nat.reduceAdd, Nat.reduceLT, Nat.reduceLeDiff, Nat.reduceEqDiff, true_and, and_true, List.length_nil, List.length_cons, or_true, true_or, or_false, false_or, Option.some.injEq, Sum.inl.injEq, Sum.inr.injEq, exists_eq_left', exists_eq_left, Int.reduceLE, Int.reduceLT, Int.reduceNeg, Int.reduceAdd, Int.reduceMul, Int.reduceSub, Int.reduceToNat, inR, Nat.zero_ne_one, false_and, Nat.succ_ne_zero, reduceCtorEq, false_implies, true_implies, not_false_eq_true, not_true_eq_false, Int.reduceEq, KRE, C_Model_bound, FM, c]
    repeat (first | refine ⟨by omega, ?_⟩ | refine ⟨fun _ _ => okt_nn (by omega), ?_⟩)
    try (first | (show _ ≤ _; omega) | (show _ < _; omega))
    exact h1
  · rw [if_neg c] at h1
    have c' := eq_false c
    refine callP_of (by decide) (by decide) (Nat.le_of_ble_eq_true rfl) (wpm_of (cuts := []) (by decide) 50 _ _ _ _ ?_)
    rw [show lM m_Model_bound = 1 from rfl]
    simp (maxSteps := 2000000) only [↓reduceIte, wp_eq, wpd_eq, kont_eq, STP1, STP2, STP3, STP4, STP5, konM_eq, AMK, CZ, Option.map, List.getElem?_cons_zero, List.getElem?_cons_succ, List.mem_cons, List.not_mem_nil, if_false, if_true, Nat.reduceAdd, Nat.reduceLT, Nat.reduceLeDiff, Nat.reduceEqDiff, true_and, and_true, List.length_nil, List.length_cons, or_true, true_or, or_false, false_or, Option.some.injEq, Sum.inl.injEq, Sum.inr.injEq, exists_eq_left', exists_eq_left, Int.reduceLE, Int.reduceLT, Int.reduceNeg, Int.reduceAdd, Int.reduceMul, Int.reduceSub, Int.reduceToNat, inR, Nat.zero_ne_one, false_and, Nat.succ_ne_zero, reduceCtorEq, false_implies, true_implies, not_false_eq_true, not_true_eq_false, Int.reduceEq, KRE, C_Model_bound, FM, c']
    refine ⟨by omega, by omega, h1⟩
set_option maxHeartbeats 600000 in
set_option maxRecDepth 20000 in
theorem Model_lap_ok {lap bnd mrg : Int} {M : Mm} (h : setM M lap bnd mrg) : CallI m_Model_lap [.inr 154] M (fun x M' => x = lap ∧ M' = M) := by
  obtain ⟨-, ⟨h1, h2⟩, -⟩ := h
  by_cases c : M 156 2 = -1
  · rw [if_pos c] at h1
    refine callP_of (by decide) (by decide) (Nat.le_of_ble_eq_true rfl) (wpm_of (cuts := []) (by decide) 50 _ _ _ _ ?_)
    rw [show lM m_Model_lap = 1 from rfl]
    simp (maxSteps := 2000000) only [↓reduceIte, wp_eq, wpd_eq, kont_eq, STP1, STP2, STP3, STP4, STP5, konM_eq, AMK, CZ, Option.map, List.getElem?_cons_zero, List.getElem?_cons_succ, List.mem_cons, List.not_mem_nil, if_false, if_true, Nat.reduceAdd, Nat.reduceLT, Nat.reduceLeDiff, Nat.reduceEqDiff, true_and, and_true, List.length_nil, List.length_cons, or_true, true_or, or_false, false_or, Option.some.injEq, Sum.inl.injEq, Sum.inr.injEq, exists_eq_left', exists_eq_left, Int.reduceLE, Int.reduceLT, Int.reduceNeg, Int.reduceAdd, Int.reduceMul, Int.reduceSub, Int.reduceToNat, inR, Nat.zero_ne_one, false_and, Nat.succ_ne_zero, reduceCtorEq, false_implies, true_implies, not_false_eq_true, not_true_eq_false, Int.reduceEq, KRE, C_Model_lap, FM, c]
    repeat (first | refine ⟨by omega, ?_⟩ | refine ⟨fun _ _ => okt_nn (by omega), ?_⟩)
    try (first | (show _ ≤ _; omega) | (show _ < _; omega))
    exact h1
  · rw [if_neg c] at h1
    have c' := eq_false c
    refine callP_of (by decide) (by decide) (Nat.le_of_ble_eq_true rfl) (wpm_of (cuts := []) (by decide) 50 _ _ _ _ ?_)
    rw [show lM m_Model_lap = 1 from rfl]
    simp (maxSteps := 2000000) only [↓reduceIte, wp_eq, wpd_eq, kont_eq, STP1, STP2, STP3, STP4, STP5, konM_eq, AMK, CZ, Option.map, List.getElem?_cons_zero, List.getElem?_cons_succ, List.mem_cons, List.not_mem_nil, if_false, if_true, Nat.reduceAdd, Nat.reduceLT, Nat.reduceLeDiff, Nat.reduceEqDiff, true_and, and_true, List.length_nil, List.length_cons, or_true, true_or, or_false, false_or, Option.some.injEq, Sum.inl.injEq, Sum.inr.injEq, exists_eq_left', exists_eq_left, Int.reduceLE, Int.reduceLT, Int.reduceNeg, Int.reduceAdd, Int.reduceMul, Int.reduceSub, Int.reduceToNat, inR, Nat.zero_ne_one, false_and, Nat.succ_ne_zero, reduceCtorEq, false_implies, true_implies, not_false_eq_true, not_true_eq_false, Int.reduceEq, KRE, C_Model_lap, FM, c']
    refine ⟨by omega, by omega, h1⟩
set_option maxHeartbeats 600000 in
set_option maxRecDepth 20000 in
theorem Model_margin_ok {lap bnd mrg : Int} {M : Mm} (h : setM M lap bnd mrg) : CallI m_Model_margin [.inr 154] M (fun x M' => x = mrg ∧ M' = M) := by
  obtain ⟨-, -, h1, h2⟩ := h
  by_cases c : M 156 3 = -1
  · rw [if_pos c] at h1
    refine callP_of (by decide) (by decide) (Nat.le_of_ble_eq_true rfl) (wpm_of (cuts := []) (by decide) 50 _ _ _ _ ?_)
    rw [show lM m_Model_margin = 1 from rfl]
    simp (maxSteps := 2000000) only [↓reduceIte, wp_eq, wpd_eq, kont_eq, STP1, STP2, STP3, STP4, STP5, konM_eq, AMK, CZ, Option.map, List.getElem?_cons_zero, List.getElem?_cons_succ, List.mem_cons, List.not_mem_nil, if_false, if_true, Nat.reduceAdd, Nat.reduceLT, Nat.reduceLeDiff, Nat.reduceEqDiff, true_and, and_true, List.length_nil, List.length_cons, or_true, true_or, or_false, false_or, Option.some.injEq, Sum.inl.injEq, Sum.inr.injEq, exists_eq_left', exists_eq_left, Int.reduceLE, Int.reduceLT, Int.reduceNeg, Int.reduceAdd, Int.reduceMul, Int.reduceSub, Int.reduceToNat, inR, Nat.zero_ne_one, false_and, Nat.succ_ne_zero, reduceCtorEq, false_implies, true_implies, not_false_eq_true, not_true_eq_false, Int.reduceEq, KRE, C_Model_margin, FM, c]
    repeat (first | refine ⟨by omega, ?_⟩ | refine ⟨fun _ _ => okt_nn (by omega), ?_⟩)
    try (first | (show _ ≤ _; omega) | (show _ < _; omega))
    exact h1
  · rw [if_neg c] at h1
    have c' := eq_false c
    refine callP_of (by decide) (by decide) (Nat.le_of_ble_eq_true rfl) (wpm_of (cuts := []) (by decide) 50 _ _ _ _ ?_)
    rw [show lM m_Model_margin = 1 from rfl]
    simp (maxSteps := 2000000) only [↓reduceIte, wp_eq, wpd_eq, kont_eq, STP1, STP2, STP3, STP4, STP5, konM_eq, AMK, CZ, Option.map, List.getElem?_cons_zero, List.getElem?_cons_succ, List.mem_cons, List.not_mem_nil, if_false, if_true, Nat.reduceAdd, Nat.reduceLT, Nat.reduceLeDiff, Nat.reduceEqDiff, true_and, and_true, List.length_nil, List.length_cons, or_true, true_or, or_false, false_or, Option.some.injEq, Sum.inl.injEq, Sum.inr.injEq, exists_eq_left', exists_eq_left, Int.reduceLE, Int.reduceLT, Int.reduceNeg, Int.reduceAdd, Int.reduceMul, Int.reduceSub, Int.reduceToNat, inR, Nat.zero_ne_one, false_and, Nat.succ_ne_zero, reduceCtorEq, false_implies, true_implies, not_false_eq_true, not_true_eq_false, Int.reduceEq, KRE, C_Model_margin, FM, c']
    refine ⟨by omega, by omega, h1⟩
def bstM (M : Mm) (x : Bst) : Prop := M 154 41 = x.1 ∧ M 154 39 = x.2.2.2.2 ∧ (x.1 ≠ 0 → M 154 36 = x.2.1 ∧ M 154 37 = x.2.2.1 ∧ M 154 38 = x.2.2.2.1)
def bestP : Nat → Nat → Prop := fun b j => b = 154 ∧ 32 ≤ j ∧ j ≤ 41
theorem mSlM_fr (M : Mm) (A B : Rw) (x : Int) : FrP (fun b j => b = 154 ∧ 32 ≤ j ∧ j ≤ 35) M (mSlM M A B x) := by
  intro b j h
  simp only [mSlM, mset]
  grind
theorem mSlM_get (M : Mm) (A B : Rw) (x : Int) : mSlM M A B x 154 32 = slPairs A B x ∧ mSlM M A B x 154 33 = slSigns A B x ∧ mSlM M A B x 154 34 = slRanks A B x ∧ mSlM M A B x 154 35 = slScore A B x := by
  simp [mSlM, mset]
theorem rowAB_fr {P : Nat → Nat → Prop} {M M1 : Mm} {A B : Rw} (f : FrP P M M1) (hP : ∀ b j, P b j → b = 154 ∧ 32 ≤ j) (hA : rowA M A) (hB : rowB M B) : rowA M1 A ∧ rowB M1 B :=
  ⟨rowA_cells (fun b h1 h2 j => f b j (fun z => by have := hP b j z; omega)) (f _ _ (fun z => by have := hP _ _ z; omega)) (f _ _ (fun z => by have := hP _ _ z; omega)) hA,
   rowB_cells (fun b h1 h2 j => f b j (fun z => by have := hP b j z; omega)) (f _ _ (fun z => by have := hP _ _ z; omega)) (f _ _ (fun z => by have := hP _ _ z; omega)) hB⟩
set_option maxHeartbeats 600000 in
set_option maxRecDepth 20000 in
theorem Model_tellBest_s {A B : Rw} {least lap bnd mrg s : Int} {x : Bst} {a3 : Option AV} {M : Mm} {Qc : Option AV → Mm → Prop} (hst : setM M lap bnd mrg) (hA : rowA M A) (hB : rowB M B) (hs : -1000 ≤ s ∧ s ≤ 999) (hlt : s < A.2.1) (hx : okB x) (hi : bstM M x)
    (K : ∀ a3 M', bstM M' (bstS A B lap s x) → FrP bestP M M' → WPm m_Model_tellBest Qc 17 [some (.inr 154), some (.inl least), some (.inl (s + 1)), a3] [] M') :
    WPm m_Model_tellBest Qc 17 [some (.inr 154), some (.inl least), some (.inl s), a3] [] M := by
  have a1 := hA.1
  have a2 := hA.2.1
  have a3' := hA.2.2.1.1.1
  have hst2 := hst.2.1
  have c1' := eq_false (show ¬ A.2.1 ≤ s by omega)
  refine wpm_of (cuts := [17, 160]) (by decide) 100 _ _ _ _ ?_
  simp (maxSteps := 2000000) only [↓reduceIte, wp_eq, wpd_eq, kont_eq, STP1, STP2, STP3, STP4, STP5, konM_eq, AMK, CZ, Option.map, List.getElem?_cons_zero, List.getElem?_cons_succ, List.mem_cons, List.not_mem_nil, if_false, if_true, Nat.reduceAdd, Nat.reduceLT, Nat.reduceLeDiff, Nat.reduceEqDiff, true_and, and_true, List.length_nil, List.length_cons, or_true, true_or, or_false, false_or, Option.some.injEq, Sum.inl.injEq, Sum.inr.injEq, exists_eq_left', exists_eq_left, Int.reduceLE, Int.reduceLT, Int.reduceNeg, Int.reduceAdd, Int.reduceMul, Int.reduceSub, Int.reduceToNat, inR, Nat.zero_ne_one, false_and, Nat.succ_ne_zero, reduceCtorEq, false_implies, true_implies, not_false_eq_true, not_true_eq_false, Int.reduceEq, KRE, C_Model_tellBest, FM, a1, c1']
  refine ⟨by omega, by omega, ?_⟩
  refine (Model_slide_ok hA hB ⟨by omega, by omega⟩).eq ?_
  have F1 : FrP bestP M (mSlM M A B s) := (mSlM_fr M A B s).wd (fun b j z => ⟨z.1, by omega, by omega⟩)
  obtain ⟨g1, -, -, g4⟩ := mSlM_get M A B s
  have v1 := slP_in (B := B) (s := s) ⟨a3', a2⟩
  have v2 := (slS_in A B s).2.2
  have h41 : mSlM M A B s 154 41 = M 154 41 := mSlM_fr M A B s _ _ (by omega)
  have h36 : mSlM M A B s 154 36 = M 154 36 := mSlM_fr M A B s _ _ (by omega)
  have h37 : mSlM M A B s 154 37 = M 154 37 := mSlM_fr M A B s _ _ (by omega)
  have h38 : mSlM M A B s 154 38 = M 154 38 := mSlM_fr M A B s _ _ (by omega)
  have h39 : mSlM M A B s 154 39 = M 154 39 := mSlM_fr M A B s _ _ (by omega)
  have hst1 : setM (mSlM M A B s) lap bnd mrg := setM_cells (fun j => mSlM_fr M A B s _ _ (by omega)) hst
  have KS : ∀ a3 M', bstM M' (bstS A B lap s x) → FrP bestP M M' → WPm m_Model_tellBest Qc 160 [some (.inr 154), some (.inl least), some (.inl s), a3] [] M' := by
    intro a3 M' z1 z2
    refine wpm_of (cuts := [17]) (by decide) 50 _ _ _ _ ?_
    simp (maxSteps := 2000000) only [↓reduceIte, wp_eq, wpd_eq, kont_eq, STP1, STP2, STP3, STP4, STP5, konM_eq, AMK, CZ, Option.map, List.getElem?_cons_zero, List.getElem?_cons_succ, List.mem_cons, List.not_mem_nil, if_false, if_true, Nat.reduceAdd, Nat.reduceLT, Nat.reduceLeDiff, Nat.reduceEqDiff, true_and, and_true, List.length_nil, List.length_cons, or_true, true_or, or_false, false_or, Option.some.injEq, Sum.inl.injEq, Sum.inr.injEq, exists_eq_left', exists_eq_left, Int.reduceLE, Int.reduceLT, Int.reduceNeg, Int.reduceAdd, Int.reduceMul, Int.reduceSub, Int.reduceToNat, inR, Nat.zero_ne_one, false_and, Nat.succ_ne_zero, reduceCtorEq, false_implies, true_implies, not_false_eq_true, not_true_eq_false, Int.reduceEq, KRE, C_Model_tellBest]
    exact K _ _ z1 z2
  clear K
  unfold bstS at KS
  generalize mSlM M A B s = M1 at *
  simp (maxSteps := 2000000) only [↓reduceIte, wp_eq, wpd_eq, kont_eq, STP1, STP2, STP3, STP4, STP5, konM_eq, AMK, CZ, Option.map, List.getElem?_cons_zero, List.getElem?_cons_succ, List.mem_cons, List.not_mem_nil, if_false, if_true, Nat.reduceAdd, Nat.reduceLT, Nat.reduceLeDiff, Nat.reduceEqDiff, true_and, and_true, List.length_nil, List.length_cons, or_true, true_or, or_false, false_or, Option.some.injEq, Sum.inl.injEq, Sum.inr.injEq, exists_eq_left', exists_eq_left, Int.reduceLE, Int.reduceLT, Int.reduceNeg, Int.reduceAdd, Int.reduceMul, Int.reduceSub, Int.reduceToNat, inR, Nat.zero_ne_one, false_and, Nat.succ_ne_zero, reduceCtorEq, false_implies, true_implies, not_false_eq_true, not_true_eq_false, Int.reduceEq, KRE, C_Model_tellBest, FM, g1]
  refine (Model_lap_ok hst1).eq ?_
  obtain ⟨x1, x2, x3, x4, x5⟩ := x
  obtain ⟨i1, i2, i3⟩ := hi
  obtain ⟨o1, o2, o3, o4⟩ := hx
  simp only at i1 i2 i3 o1 o2 o3 o4 KS
  generalize slScore A B s = S at *
  generalize slPairs A B s = P at *
  by_cases c2 : P < lap
  · rw [if_pos c2] at KS
    have c2' := eq_false (show ¬ lap ≤ P by omega)
    simp (maxSteps := 2000000) only [↓reduceIte, wp_eq, wpd_eq, kont_eq, STP1, STP2, STP3, STP4, STP5, konM_eq, AMK, CZ, Option.map, List.getElem?_cons_zero, List.getElem?_cons_succ, List.mem_cons, List.not_mem_nil, if_false, if_true, Nat.reduceAdd, Nat.reduceLT, Nat.reduceLeDiff, Nat.reduceEqDiff, true_and, and_true, List.length_nil, List.length_cons, or_true, true_or, or_false, false_or, Option.some.injEq, Sum.inl.injEq, Sum.inr.injEq, exists_eq_left', exists_eq_left, Int.reduceLE, Int.reduceLT, Int.reduceNeg, Int.reduceAdd, Int.reduceMul, Int.reduceSub, Int.reduceToNat, inR, Nat.zero_ne_one, false_and, Nat.succ_ne_zero, reduceCtorEq, false_implies, true_implies, not_false_eq_true, not_true_eq_false, Int.reduceEq, KRE, C_Model_tellBest, FM, c2']
    refine ⟨by omega, by omega, ?_⟩
    refine KS _ _ ⟨?_, ?_, fun z => ⟨?_, ?_, ?_⟩⟩ F1
    · rw [h41]; exact i1
    · rw [h39]; exact i2
    · rw [h36]; exact (i3 z).1
    · rw [h37]; exact (i3 z).2.1
    · rw [h38]; exact (i3 z).2.2
  · rw [if_neg c2] at KS
    have c2' := eq_true (show lap ≤ P by omega)
    have yes : ∀ v : Int, bstM (mset (mset (mset (mset (mset M1 154 39 v) 154 41 1) 154 36 s) 154 37 S) 154 38 P) (1, s, S, P, v) ∧ FrP bestP M (mset (mset (mset (mset (mset M1 154 39 v) 154 41 1) 154 36 s) 154 37 S) 154 38 P) := by
      intro v
      refine ⟨⟨?_, ?_, fun _ => ⟨?_, ?_, ?_⟩⟩, ((((F1.st ⟨rfl, by omega, by omega⟩).st ⟨rfl, by omega, by omega⟩).st ⟨rfl, by omega, by omega⟩).st ⟨rfl, by omega, by omega⟩).st ⟨rfl, by omega, by omega⟩⟩ <;> simp [mset]
    rcases o1 with o1 | o1
    · subst o1
      have e5 := o4 rfl
      subst e5
      rw [if_neg (fun z => z.1 rfl), if_neg (fun z => z rfl)] at KS
      rw [i1] at h41
      rw [i2] at h39
      simp (maxSteps := 2000000) only [↓reduceIte, wp_eq, wpd_eq, kont_eq, STP1, STP2, STP3, STP4, STP5, konM_eq, AMK, CZ, Option.map, List.getElem?_cons_zero, List.getElem?_cons_succ, List.mem_cons, List.not_mem_nil, if_false, if_true, Nat.reduceAdd, Nat.reduceLT, Nat.reduceLeDiff, Nat.reduceEqDiff, true_and, and_true, List.length_nil, List.length_cons, or_true, true_or, or_false, false_or, Option.some.injEq, Sum.inl.injEq, Sum.inr.injEq, exists_eq_left', exists_eq_left, Int.reduceLE, Int.reduceLT, Int.reduceNeg, Int.reduceAdd, Int.reduceMul, Int.reduceSub, Int.reduceToNat, inR, Nat.zero_ne_one, false_and, Nat.succ_ne_zero, reduceCtorEq, false_implies, true_implies, not_false_eq_true, not_true_eq_false, Int.reduceEq, KRE, C_Model_tellBest, FM, MSE, c2', h41, h39, g1, g4]
      repeat (first | refine ⟨by omega, ?_⟩ | refine ⟨fun _ _ => okt_nn (by omega), ?_⟩)
      try (first | (show _ ≤ _; omega) | (show _ < _; omega))
      exact KS _ _ (yes (-1)).1 (yes (-1)).2
    · subst o1
      obtain ⟨j1, j2, j3⟩ := i3 (by omega)
      obtain ⟨o3, p3, q3, r3⟩ := o3 (by omega)
      rw [i1] at h41
      rw [i2] at h39
      rw [j1] at h36
      rw [j2] at h37
      rw [j3] at h38
      have one0 := eq_false (show ¬ (1 : Int) = 0 by omega)
      by_cases d1 : x3 < S
      · rw [if_neg (by omega), if_pos (by omega)] at KS
        have d1' := eq_true d1
        simp (maxSteps := 2000000) only [↓reduceIte, wp_eq, wpd_eq, kont_eq, STP1, STP2, STP3, STP4, STP5, konM_eq, AMK, CZ, Option.map, List.getElem?_cons_zero, List.getElem?_cons_succ, List.mem_cons, List.not_mem_nil, if_false, if_true, Nat.reduceAdd, Nat.reduceLT, Nat.reduceLeDiff, Nat.reduceEqDiff, true_and, and_true, List.length_nil, List.length_cons, or_true, true_or, or_false, false_or, Option.some.injEq, Sum.inl.injEq, Sum.inr.injEq, exists_eq_left', exists_eq_left, Int.reduceLE, Int.reduceLT, Int.reduceNeg, Int.reduceAdd, Int.reduceMul, Int.reduceSub, Int.reduceToNat, inR, Nat.zero_ne_one, false_and, Nat.succ_ne_zero, reduceCtorEq, false_implies, true_implies, not_false_eq_true, not_true_eq_false, Int.reduceEq, KRE, C_Model_tellBest, FM, MSE, c2', h41, h39, g1, g4, h37, d1', one0]
        repeat (first | refine ⟨by omega, ?_⟩ | refine ⟨fun _ _ => okt_nn (by omega), ?_⟩)
        try (first | (show _ ≤ _; omega) | (show _ < _; omega))
        rw [show max x5 x3 = x3 by omega]
        exact KS _ _ (yes x3).1 (yes x3).2
      · have d1' := eq_false d1
        by_cases d2 : S = x3 ∧ x4 < P
        · rw [if_neg (by omega), if_pos (by omega)] at KS
          obtain ⟨d2, d3⟩ := d2
          have d2' := eq_true d2
          have d3' := eq_false (show ¬ P ≤ x4 by omega)
          simp (maxSteps := 2000000) only [↓reduceIte, wp_eq, wpd_eq, kont_eq, STP1, STP2, STP3, STP4, STP5, konM_eq, AMK, CZ, Option.map, List.getElem?_cons_zero, List.getElem?_cons_succ, List.mem_cons, List.not_mem_nil, if_false, if_true, Nat.reduceAdd, Nat.reduceLT, Nat.reduceLeDiff, Nat.reduceEqDiff, true_and, and_true, List.length_nil, List.length_cons, or_true, true_or, or_false, false_or, Option.some.injEq, Sum.inl.injEq, Sum.inr.injEq, exists_eq_left', exists_eq_left, Int.reduceLE, Int.reduceLT, Int.reduceNeg, Int.reduceAdd, Int.reduceMul, Int.reduceSub, Int.reduceToNat, inR, Nat.zero_ne_one, false_and, Nat.succ_ne_zero, reduceCtorEq, false_implies, true_implies, not_false_eq_true, not_true_eq_false, Int.reduceEq, KRE, C_Model_tellBest, FM, MSE, c2', h41, h39, g1, g4, h37, h38, d1', d2', d3', one0]
          repeat (first | refine ⟨by omega, ?_⟩ | refine ⟨fun _ _ => okt_nn (by omega), ?_⟩)
          try (first | (show _ ≤ _; omega) | (show _ < _; omega))
          rw [show max x5 x3 = x3 by omega]
          exact KS _ _ (yes x3).1 (yes x3).2
        · rw [if_pos (by omega)] at KS
          have no : bstM (mset M1 154 39 (max x5 S)) (1, x2, x3, x4, max x5 S) ∧ FrP bestP M (mset M1 154 39 (max x5 S)) := by
            refine ⟨⟨?_, ?_, fun _ => ⟨?_, ?_, ?_⟩⟩, F1.st ⟨rfl, by omega, by omega⟩⟩ <;> simp [mset, h41, h36, h37, h38]
          by_cases d4 : S = x3
          · have d2' := eq_true d4
            have d3' := eq_true (show P ≤ x4 by omega)
            simp (maxSteps := 2000000) only [↓reduceIte, wp_eq, wpd_eq, kont_eq, STP1, STP2, STP3, STP4, STP5, konM_eq, AMK, CZ, Option.map, List.getElem?_cons_zero, List.getElem?_cons_succ, List.mem_cons, List.not_mem_nil, if_false, if_true, Nat.reduceAdd, Nat.reduceLT, Nat.reduceLeDiff, Nat.reduceEqDiff, true_and, and_true, List.length_nil, List.length_cons, or_true, true_or, or_false, false_or, Option.some.injEq, Sum.inl.injEq, Sum.inr.injEq, exists_eq_left', exists_eq_left, Int.reduceLE, Int.reduceLT, Int.reduceNeg, Int.reduceAdd, Int.reduceMul, Int.reduceSub, Int.reduceToNat, inR, Nat.zero_ne_one, false_and, Nat.succ_ne_zero, reduceCtorEq, false_implies, true_implies, not_false_eq_true, not_true_eq_false, Int.reduceEq, KRE, C_Model_tellBest, FM, MSE, c2', h41, h39, g1, g4, h37, h38, d1', d2', d3', one0]
            repeat (first | refine ⟨by omega, ?_⟩ | refine ⟨fun _ _ => okt_nn (by omega), ?_⟩)
            try (first | (show _ ≤ _; omega) | (show _ < _; omega))
            exact KS _ _ no.1 no.2
          · have d2' := eq_false d4
            simp (maxSteps := 2000000) only [↓reduceIte, wp_eq, wpd_eq, kont_eq, STP1, STP2, STP3, STP4, STP5, konM_eq, AMK, CZ, Option.map, List.getElem?_cons_zero, List.getElem?_cons_succ, List.mem_cons, List.not_mem_nil, if_false, if_true, Nat.reduceAdd, Nat.reduceLT, Nat.reduceLeDiff, Nat.reduceEqDiff, true_and, and_true, List.length_nil, List.length_cons, or_true, true_or, or_false, false_or, Option.some.injEq, Sum.inl.injEq, Sum.inr.injEq, exists_eq_left', exists_eq_left, Int.reduceLE, Int.reduceLT, Int.reduceNeg, Int.reduceAdd, Int.reduceMul, Int.reduceSub, Int.reduceToNat, inR, Nat.zero_ne_one, false_and, Nat.succ_ne_zero, reduceCtorEq, false_implies, true_implies, not_false_eq_true, not_true_eq_false, Int.reduceEq, KRE, C_Model_tellBest, FM, MSE, c2', h41, h39, g1, g4, h37, h38, d1', d2', one0]
            repeat (first | refine ⟨by omega, ?_⟩ | refine ⟨fun _ _ => okt_nn (by omega), ?_⟩)
            try (first | (show _ ≤ _; omega) | (show _ < _; omega))
            exact KS _ _ no.1 no.2
set_option maxHeartbeats 600000 in
set_option maxRecDepth 20000 in
theorem Model_tellBest_e {least lap bnd mrg : Int} {x : Bst} {a2 a3 : Option AV} {M : Mm} {Qc : Option AV → Mm → Prop} (hst : setM M lap bnd mrg) (hx : okB x) (hi : bstM M x) (hl : 0 ≤ least ∧ least ≤ 1000) (hq : Qc none (mset M 154 40 (why x least mrg))) :
    WPm m_Model_tellBest Qc 166 [some (.inr 154), some (.inl least), a2, a3] [] M := by
  obtain ⟨x1, x2, x3, x4, x5⟩ := x
  obtain ⟨i1, i2, i3⟩ := hi
  obtain ⟨o1, o2, o3, o4⟩ := hx
  have hm := hst.2.2
  simp only at i1 i2 i3 o1 o2 o3 o4
  unfold why at hq
  simp only at hq
  rcases o1 with o1 | o1
  · subst o1
    rw [if_pos rfl] at hq
    refine wpm_of (cuts := []) (by decide) 100 _ _ _ _ ?_
    simp (maxSteps := 2000000) only [↓reduceIte, wp_eq, wpd_eq, kont_eq, STP1, STP2, STP3, STP4, STP5, konM_eq, AMK, CZ, Option.map, List.getElem?_cons_zero, List.getElem?_cons_succ, List.mem_cons, List.not_mem_nil, if_false, if_true, Nat.reduceAdd, Nat.reduceLT, Nat.reduceLeDiff, Nat.reduceEqDiff, true_and, and_true, List.length_nil, List.length_cons, or_true, true_or, or_false, false_or, Option.some.injEq, Sum.inl.injEq, Sum.inr.injEq, exists_eq_left', exists_eq_left, Int.reduceLE, Int.reduceLT, Int.reduceNeg, Int.reduceAdd, Int.reduceMul, Int.reduceSub, Int.reduceToNat, inR, Nat.zero_ne_one, false_and, Nat.succ_ne_zero, reduceCtorEq, false_implies, true_implies, not_false_eq_true, not_true_eq_false, Int.reduceEq, KRE, C_Model_tellBest, FM, i1]
    repeat (first | refine ⟨by omega, ?_⟩ | refine ⟨fun _ _ => okt_nn (by omega), ?_⟩)
    try (first | (show _ ≤ _; omega) | (show _ < _; omega))
    exact hq
  · subst o1
    obtain ⟨j1, j2, j3⟩ := i3 (by omega)
    obtain ⟨o3, p3, q3, r3⟩ := o3 (by omega)
    have one0 := eq_false (show ¬ (1 : Int) = 0 by omega)
    rw [if_neg (by omega)] at hq
    by_cases c1 : x3 < least
    · rw [if_pos c1] at hq
      have c1' := eq_false (show ¬ least ≤ x3 by omega)
      refine wpm_of (cuts := []) (by decide) 100 _ _ _ _ ?_
      simp (maxSteps := 2000000) only [↓reduceIte, wp_eq, wpd_eq, kont_eq, STP1, STP2, STP3, STP4, STP5, konM_eq, AMK, CZ, Option.map, List.getElem?_cons_zero, List.getElem?_cons_succ, List.mem_cons, List.not_mem_nil, if_false, if_true, Nat.reduceAdd, Nat.reduceLT, Nat.reduceLeDiff, Nat.reduceEqDiff, true_and, and_true, List.length_nil, List.length_cons, or_true, true_or, or_false, false_or, Option.some.injEq, Sum.inl.injEq, Sum.inr.injEq, exists_eq_left', exists_eq_left, Int.reduceLE, Int.reduceLT, Int.reduceNeg, Int.reduceAdd, Int.reduceMul, Int.reduceSub, Int.reduceToNat, inR, Nat.zero_ne_one, false_and, Nat.succ_ne_zero, reduceCtorEq, false_implies, true_implies, not_false_eq_true, not_true_eq_false, Int.reduceEq, KRE, C_Model_tellBest, FM, i1, j2, one0, c1']
      repeat (first | refine ⟨by omega, ?_⟩ | refine ⟨fun _ _ => okt_nn (by omega), ?_⟩)
      try (first | (show _ ≤ _; omega) | (show _ < _; omega))
      exact hq
    · rw [if_neg c1] at hq
      have c1' := eq_true (show least ≤ x3 by omega)
      by_cases c2 : x5 = -1
      · rw [if_neg (fun z => z.1 c2)] at hq
        rw [c2] at i2
        refine wpm_of (cuts := []) (by decide) 100 _ _ _ _ ?_
        simp (maxSteps := 2000000) only [↓reduceIte, wp_eq, wpd_eq, kont_eq, STP1, STP2, STP3, STP4, STP5, konM_eq, AMK, CZ, Option.map, List.getElem?_cons_zero, List.getElem?_cons_succ, List.mem_cons, List.not_mem_nil, if_false, if_true, Nat.reduceAdd, Nat.reduceLT, Nat.reduceLeDiff, Nat.reduceEqDiff, true_and, and_true, List.length_nil, List.length_cons, or_true, true_or, or_false, false_or, Option.some.injEq, Sum.inl.injEq, Sum.inr.injEq, exists_eq_left', exists_eq_left, Int.reduceLE, Int.reduceLT, Int.reduceNeg, Int.reduceAdd, Int.reduceMul, Int.reduceSub, Int.reduceToNat, inR, Nat.zero_ne_one, false_and, Nat.succ_ne_zero, reduceCtorEq, false_implies, true_implies, not_false_eq_true, not_true_eq_false, Int.reduceEq, KRE, C_Model_tellBest, FM, i1, j2, i2, one0, c1']
        repeat (first | refine ⟨by omega, ?_⟩ | refine ⟨fun _ _ => okt_nn (by omega), ?_⟩)
        try (first | (show _ ≤ _; omega) | (show _ < _; omega))
        exact hq
      · have c2' := eq_false c2
        by_cases c3 : x3 - x5 < mrg
        · rw [if_pos ⟨c2, c3⟩] at hq
          have c3' := eq_false (show ¬ mrg ≤ x3 - x5 by omega)
          refine wpm_of (cuts := []) (by decide) 100 _ _ _ _ ?_
          simp (maxSteps := 2000000) only [↓reduceIte, wp_eq, wpd_eq, kont_eq, STP1, STP2, STP3, STP4, STP5, konM_eq, AMK, CZ, Option.map, List.getElem?_cons_zero, List.getElem?_cons_succ, List.mem_cons, List.not_mem_nil, if_false, if_true, Nat.reduceAdd, Nat.reduceLT, Nat.reduceLeDiff, Nat.reduceEqDiff, true_and, and_true, List.length_nil, List.length_cons, or_true, true_or, or_false, false_or, Option.some.injEq, Sum.inl.injEq, Sum.inr.injEq, exists_eq_left', exists_eq_left, Int.reduceLE, Int.reduceLT, Int.reduceNeg, Int.reduceAdd, Int.reduceMul, Int.reduceSub, Int.reduceToNat, inR, Nat.zero_ne_one, false_and, Nat.succ_ne_zero, reduceCtorEq, false_implies, true_implies, not_false_eq_true, not_true_eq_false, Int.reduceEq, KRE, C_Model_tellBest, FM, i1, j2, i2, one0, c1', c2']
          repeat (first | refine ⟨by omega, ?_⟩ | refine ⟨fun _ _ => okt_nn (by omega), ?_⟩)
          try (first | (show _ ≤ _; omega) | (show _ < _; omega))
          refine (Model_margin_ok hst).eq ?_
          simp (maxSteps := 2000000) only [↓reduceIte, wp_eq, wpd_eq, kont_eq, STP1, STP2, STP3, STP4, STP5, konM_eq, AMK, CZ, Option.map, List.getElem?_cons_zero, List.getElem?_cons_succ, List.mem_cons, List.not_mem_nil, if_false, if_true, Nat.reduceAdd, Nat.reduceLT, Nat.reduceLeDiff, Nat.reduceEqDiff, true_and, and_true, List.length_nil, List.length_cons, or_true, true_or, or_false, false_or, Option.some.injEq, Sum.inl.injEq, Sum.inr.injEq, exists_eq_left', exists_eq_left, Int.reduceLE, Int.reduceLT, Int.reduceNeg, Int.reduceAdd, Int.reduceMul, Int.reduceSub, Int.reduceToNat, inR, Nat.zero_ne_one, false_and, Nat.succ_ne_zero, reduceCtorEq, false_implies, true_implies, not_false_eq_true, not_true_eq_false, Int.reduceEq, KRE, C_Model_tellBest, c3', FM]
          repeat (first | refine ⟨by omega, ?_⟩ | refine ⟨fun _ _ => okt_nn (by omega), ?_⟩)
          try (first | (show _ ≤ _; omega) | (show _ < _; omega))
          exact hq
        · rw [if_neg (fun z => c3 z.2)] at hq
          have c3' := eq_true (show mrg ≤ x3 - x5 by omega)
          refine wpm_of (cuts := []) (by decide) 100 _ _ _ _ ?_
          simp (maxSteps := 2000000) only [↓reduceIte, wp_eq, wpd_eq, kont_eq, STP1, STP2, STP3, STP4, STP5, konM_eq, AMK, CZ, Option.map, List.getElem?_cons_zero, List.getElem?_cons_succ, List.mem_cons, List.not_mem_nil, if_false, if_true, Nat.reduceAdd, Nat.reduceLT, Nat.reduceLeDiff, Nat.reduceEqDiff, true_and, and_true, List.length_nil, List.length_cons, or_true, true_or, or_false, false_or, Option.some.injEq, Sum.inl.injEq, Sum.inr.injEq, exists_eq_left', exists_eq_left, Int.reduceLE, Int.reduceLT, Int.reduceNeg, Int.reduceAdd, Int.reduceMul, Int.reduceSub, Int.reduceToNat, inR, Nat.zero_ne_one, false_and, Nat.succ_ne_zero, reduceCtorEq, false_implies, true_implies, not_false_eq_true, not_true_eq_false, Int.reduceEq, KRE, C_Model_tellBest, FM, i1, j2, i2, one0, c1', c2']
          repeat (first | refine ⟨by omega, ?_⟩ | refine ⟨fun _ _ => okt_nn (by omega), ?_⟩)
          try (first | (show _ ≤ _; omega) | (show _ < _; omega))
          refine (Model_margin_ok hst).eq ?_
          simp (maxSteps := 2000000) only [↓reduceIte, wp_eq, wpd_eq, kont_eq, STP1, STP2, STP3, STP4, STP5, konM_eq, AMK, CZ, Option.map, List.getElem?_cons_zero, List.getElem?_cons_succ, List.mem_cons, List.not_mem_nil, if_false, if_true, Nat.reduceAdd, Nat.reduceLT, Nat.reduceLeDiff, Nat.reduceEqDiff, true_and, and_true, List.length_nil, List.length_cons, or_true, true_or, or_false, false_or, Option.some.injEq, Sum.inl.injEq, Sum.inr.injEq, exists_eq_left', exists_eq_left, Int.reduceLE, Int.reduceLT, Int.reduceNeg, Int.reduceAdd, Int.reduceMul, Int.reduceSub, Int.reduceToNat, inR, Nat.zero_ne_one, false_and, Nat.succ_ne_zero, reduceCtorEq, false_implies, true_implies, not_false_eq_true, not_true_eq_false, Int.reduceEq, KRE, C_Model_tellBest, c3', FM]
          repeat (first | refine ⟨by omega, ?_⟩ | refine ⟨fun _ _ => okt_nn (by omega), ?_⟩)
          try (first | (show _ ≤ _; omega) | (show _ < _; omega))
          exact hq
/-- what tellBest leaves: the best x, why by least -/
set_option maxHeartbeats 600000 in
set_option maxRecDepth 20000 in
theorem Model_tellBest_ok {A B : Rw} {least lap bnd mrg : Int} {M : Mm} (hst : setM M lap bnd mrg) (hA : rowA M A) (hB : rowB M B) (hl : 0 ≤ least ∧ least ≤ 1000) : CallV m_Model_tellBest [.inr 154, .inl least] M (fun M' => bstM M' (best A B lap) ∧ M' 154 40 = why (best A B lap) least mrg ∧ FrP bestP M M') := by
  have a1 := hA.1
  have a2 := hA.2.1
  have a3 := hA.2.2.1.1.1
  have b1 := hB.1
  have b2 := hB.2.1
  have b3 := hB.2.2.1.1.1
  have F0 : FrP bestP M (mset (mset M 154 41 0) 154 39 (-1)) := (FrP.rf.st ⟨rfl, by omega, by omega⟩).st ⟨rfl, by omega, by omega⟩
  refine callP_of (by decide) (by decide) (Nat.le_of_ble_eq_true rfl) (wpm_of (cuts := [17]) (by decide) 50 _ _ _ _ ?_)
  rw [show lM m_Model_tellBest = 4 from rfl]
  simp (maxSteps := 2000000) only [↓reduceIte, wp_eq, wpd_eq, kont_eq, STP1, STP2, STP3, STP4, STP5, konM_eq, AMK, CZ, Option.map, List.getElem?_cons_zero, List.getElem?_cons_succ, List.mem_cons, List.not_mem_nil, if_false, if_true, Nat.reduceAdd, Nat.reduceLT, Nat.reduceLeDiff, Nat.reduceEqDiff, true_and, and_true, List.length_nil, List.length_cons, or_true, true_or, or_false, false_or, Option.some.injEq, Sum.inl.injEq, Sum.inr.injEq, exists_eq_left', exists_eq_left, Int.reduceLE, Int.reduceLT, Int.reduceNeg, Int.reduceAdd, Int.reduceMul, Int.reduceSub, Int.reduceToNat, inR, Nat.zero_ne_one, false_and, Nat.succ_ne_zero, reduceCtorEq, false_implies, true_implies, not_false_eq_true, not_true_eq_false, Int.reduceEq, KRE, C_Model_tellBest, FM, MSE, b1]
  refine loopQ (A.2.1 - (1 - B.2.1)).toNat (fun k ls M1 => bstM M1 (bstN A B lap k) ∧ FrP bestP M M1 ∧ ∃ a3, ls = [some (.inr 154), some (.inl least), some (.inl (1 - B.2.1 + k)), a3]) ?_ _ _ ⟨?_, F0, none, by simp⟩
  · rintro k _ M1 hk ⟨hi, hF, a3', rfl⟩ K
    have hst1 : setM M1 lap bnd mrg := setM_cells (fun j => hF _ _ (fun z => by have := z.1; omega)) hst
    obtain ⟨hA1, hB1⟩ := rowAB_fr hF (fun b j z => ⟨z.1, z.2.1⟩) hA hB
    have ok := okB_N (A := A) (B := B) (lap := lap) ⟨a3, a2⟩ ⟨b3, by omega⟩ k (by omega)
    by_cases c : A.2.1 ≤ 1 - B.2.1 + k
    · have e26 := hA1.1
      have E := fun a2 a3 => Model_tellBest_e (a2 := a2) (a3 := a3) (least := least) (Qc := fun v M' => v = none ∧ bstM M' (best A B lap) ∧ M' 154 40 = why (best A B lap) least mrg ∧ FrP bestP M M') hst1 ok hi hl ⟨rfl, by
        have eb : best A B lap = bstN A B lap k := by
          rw [best, ← show k = (A.2.1 - (1 - B.2.1)).toNat by omega]
        rw [eb]
        refine ⟨?_, ?_, hF.st ⟨rfl, by omega, by omega⟩⟩
        · obtain ⟨i1, i2, i3⟩ := hi
          refine ⟨?_, ?_, fun z => ⟨?_, ?_, ?_⟩⟩
          · simp only [mset]; simpa using i1
          · simp only [mset]; simpa using i2
          · simp only [mset]; simpa using (i3 z).1
          · simp only [mset]; simpa using (i3 z).2.1
          · simp only [mset]; simpa using (i3 z).2.2
        · simp [mset]⟩
      have c' := eq_true c
      refine wpm_of (cuts := [17, 166]) (by decide) 50 _ _ _ _ ?_
      simp (maxSteps := 2000000) only [↓reduceIte, wp_eq, wpd_eq, kont_eq, STP1, STP2, STP3, STP4, STP5, konM_eq, AMK, CZ, Option.map, List.getElem?_cons_zero, List.getElem?_cons_succ, List.mem_cons, List.not_mem_nil, if_false, if_true, Nat.reduceAdd, Nat.reduceLT, Nat.reduceLeDiff, Nat.reduceEqDiff, true_and, and_true, List.length_nil, List.length_cons, or_true, true_or, or_false, false_or, Option.some.injEq, Sum.inl.injEq, Sum.inr.injEq, exists_eq_left', exists_eq_left, Int.reduceLE, Int.reduceLT, Int.reduceNeg, Int.reduceAdd, Int.reduceMul, Int.reduceSub, Int.reduceToNat, inR, Nat.zero_ne_one, false_and, Nat.succ_ne_zero, reduceCtorEq, false_implies, true_implies, not_false_eq_true, not_true_eq_false, Int.reduceEq, KRE, C_Model_tellBest, FM, e26, c']
      exact ⟨by omega, by omega, E _ _⟩
    · refine Model_tellBest_s hst1 hA1 hB1 ⟨by omega, by omega⟩ (by omega) ok hi (fun a4 M' z1 z2 => ?_)
      refine K (by omega) _ _ ⟨z1, hF.tr z2, a4, by rw [natI, Int.add_assoc]⟩
  · refine ⟨?_, ?_, fun z => absurd rfl z⟩ <;> simp [mset, bstN]

/-! THE REFERENCE, 4: its timbers, the rows laid out, the chronology. -/
theorem WPm.wrapL {mi : Nat} {Qc : Option AV → Mm → Prop} {pc : Nat} {ls ls1 : AL} {st : List AV} {M : Mm} (h : WPm mi Qc pc ls1 st M) (el : ls1.length = ls.length) (ev : ∀ i v, am_ld ls1 i = some v → ∃ w, am_ld ls i = some w ∧ ∀ adr, cvA adr w = cvA adr v) : WPm mi Qc pc ls st M := by
  intro p l e R s m args below meth c D tA adr adV F hr hlk H locs lsC g hl
  refine h p l e R s m args below meth c D tA adr adV F hr hlk H locs lsC g ⟨hl.1, hl.2.1, el.trans hl.2.2.1, fun i v q => ?_⟩
  obtain ⟨w, hw, e2⟩ := ev i v q
  rw [← e2 adr]
  exact hl.2.2.2 i w hw
theorem iN_wrapE (x : Int) : iN (iN x).toInt = iN x := iN_ti _
/-- a wrapped number: inside by 2^32 times something -/
theorem wrap_far {x : Int} (h : 2147483648 ≤ x) (h2 : x ≤ 2147490000) : (iN x).toInt = x - 4294967296 := by
  rw [iN, Int32.toInt_ofInt]
  have e : (Int32.size : Int) = 4294967296 := rfl
  have e2 := Int.bmod_eq_of_le (n := x - 4294967296) (m := Int32.size) (by rw [e]; omega) (by rw [e]; omega)
  rw [← e2]
  rw [Int.bmod_def, Int.bmod_def, e]
  omega
theorem wrap_neg {x : Int} (h : x < -2147483648) (h2 : -2147490000 ≤ x) : (iN x).toInt = x + 4294967296 := by
  rw [iN, Int32.toInt_ofInt]
  have e : (Int32.size : Int) = 4294967296 := rfl
  have e2 := Int.bmod_eq_of_le (n := x + 4294967296) (m := Int32.size) (by rw [e]; omega) (by rw [e]; omega)
  rw [← e2]
  rw [Int.bmod_def, Int.bmod_def, e]
  omega
/-- a timber of a row of 240 -/
def mRw (f : Nat → Int) (t : Nat) : Rw := (fun j => if (j : Int) < f (30 * t) then f (30 * t + 6 + j) else 0, f (30 * t), fun j => if (j : Int) < f (30 * t) then (if btI (f (30 * t + 5)) j = true then 1 else 0) else 0)
def wfM (f : Nat → Int) (t : Nat) : Prop := (0 ≤ f (30 * t + 1) ∧ f (30 * t + 1) ≤ 30) ∧ (0 ≤ f (30 * t + 2) ∧ f (30 * t + 2) ≤ 30) ∧ (0 ≤ f (30 * t + 3) ∧ f (30 * t + 3) ≤ 3) ∧ inR (f (30 * t + 5)) ∧ ∀ i : Nat, f (30 * t) ≤ i → btI (f (30 * t + 5)) i = false
/-- the reference's timbers: n, their rows T, years Y, lap, bound, margin -/
def mdl (M : Mm) (n : Nat) (T : Nat → Rw) (Y : Nat → Int) (lap bnd mrg : Int) : Prop := (M 156 0 = n ∧ n ≤ 8) ∧ (∀ t, t < n → mRw (M 158) t = T t ∧ M 158 (30 * t + 4) = Y t ∧ wfM (M 158) t) ∧ setM M lap bnd mrg ∧ okC T Y n
def scrM : Nat → Nat → Prop := fun b j => b = 154 ∧ (j = 1 ∨ 26 ≤ j ∧ j ≤ 57 ∨ 63 ≤ j ∧ j ≤ 68) ∨ 162 ≤ b ∧ b ≤ 180 ∨ b = 184 ∨ b = 185
theorem mdl_fr {n : Nat} {T : Nat → Rw} {Y : Nat → Int} {lap bnd mrg : Int} {P : Nat → Nat → Prop} {M M1 : Mm} (h : mdl M n T Y lap bnd mrg) (f : FrP P M M1) (hP : ∀ b j, P b j → b ≠ 156 ∧ b ≠ 158) : mdl M1 n T Y lap bnd mrg := by
  obtain ⟨h1, h2, h3, h4⟩ := h
  have e6 : ∀ j, M1 156 j = M 156 j := fun j => f _ _ (fun z => (hP _ _ z).1 rfl)
  have e8 : M1 158 = M 158 := funext (fun j => f _ _ (fun z => (hP _ _ z).2 rfl))
  exact ⟨by rw [e6]; exact h1, by rw [e8]; exact h2, setM_cells e6 h3, h4⟩
theorem scr_mdl : ∀ b j, scrM b j → b ≠ 156 ∧ b ≠ 158 := fun b j h => by unfold scrM at h; omega
theorem mdl_t {n t : Nat} {T : Nat → Rw} {Y : Nat → Int} {lap bnd mrg : Int} {M : Mm} (h : mdl M n T Y lap bnd mrg) (ht : t < n) : (n ≤ 8 ∧ M 158 (30 * t) = (T t).2.1) ∧ M 158 (30 * t + 4) = Y t ∧ (∀ j : Nat, (j : Int) < (T t).2.1 → M 158 (30 * t + 6 + j) = sN (T t) j) ∧ okT (T t) ∧ (-1 ≤ Y t ∧ Y t ≤ 900) ∧ wfM (M 158) t ∧ dbM (M 158 (30 * t + 5)) (T t) := by
  obtain ⟨h1, h2, h3, h4⟩ := h
  obtain ⟨e, e4, w⟩ := h2 t ht
  obtain ⟨o1, o2⟩ := h4.2 t ht
  have em : M 158 (30 * t) = (T t).2.1 := by rw [← e]; rfl
  refine ⟨⟨h1.2, em⟩, e4, fun j hj => ?_, o1, o2, w, w.2.2.2.1, fun k k0 k1 => ?_⟩
  · rw [← e] at hj ⊢
    unfold sN
    rw [if_pos ⟨by omega, hj⟩]
    show _ = if ((j : Int).toNat : Int) < M 158 (30 * t) then M 158 (30 * t + 6 + (j : Int).toNat) else 0
    have hj' : (j : Int) < M 158 (30 * t) := hj
    rw [natT, if_pos hj']
  · have o3 := o1.1
    have d : ∀ q : Int, 0 ≤ q → q < (T t).2.1 → (sD (T t) q ≠ 0 ↔ btI (M 158 (30 * t + 5)) q.toNat = true) := by
      intro q q0 q1
      rw [← e] at q1 ⊢
      unfold sD
      rw [if_pos ⟨q0, q1⟩]
      show (if (q.toNat : Int) < M 158 (30 * t) then (if btI (M 158 (30 * t + 5)) q.toNat = true then (1 : Int) else 0) else 0) ≠ 0 ↔ _
      have q1' : q < M 158 (30 * t) := q1
      rw [if_pos (by omega)]
      split <;> simp_all
    have d1 := d k k0 k1
    unfold sShk isD
    rw [if_congr (show (0 ≤ k ∧ k < (T t).2.1 ∧ (sD (T t) k ≠ 0 ∨ sD (T t) (k - 1) ≠ 0)) ↔ (k < 24 ∧ (btI (M 158 (30 * t + 5)) k.toNat = true ∨ 0 < k ∧ btI (M 158 (30 * t + 5)) (k - 1).toNat = true)) from ?_) rfl rfl]
    · split
      · exact ⟨fun _ => by assumption, fun _ => by omega⟩
      · exact ⟨fun z => absurd rfl z, fun z => absurd z (by assumption)⟩
    · by_cases k2 : 0 < k
      · have d2 := d (k - 1) (by omega) (by omega)
        rw [d1, d2]
        constructor
        · rintro ⟨-, -, z⟩
          exact ⟨by omega, z.imp_right (fun z => ⟨k2, z⟩)⟩
        · rintro ⟨-, z⟩
          exact ⟨k0, k1, z.imp_right (fun z => z.2)⟩
      · have d3 : sD (T t) (k - 1) = 0 := if_neg (by omega)
        rw [d1, d3]
        constructor
        · rintro ⟨-, -, z | z⟩
          · exact ⟨by omega, Or.inl z⟩
          · exact absurd rfl z
        · rintro ⟨-, z | z⟩
          · exact ⟨k0, k1, Or.inl z⟩
          · exact absurd z.1 k2
section OFM
variable {n t : Nat} {T : Nat → Rw} {Y : Nat → Int} {lap bnd mrg : Int} {M : Mm}
theorem of_k (ht : t < 8) (k : Nat) (hk : k < 30) {x : Int} (hx : x = k) : CallI m_Model_of [.inr 154, .inl (t : Int), .inl x] M (fun y M' => y = M 158 (30 * t + k) ∧ M' = M) := by
  subst hx
  have := Model_of_ok (t := (t : Int)) (k := (k : Int)) (M := M) ⟨by omega, by omega⟩
  rw [show (30 * (t : Int) + (k : Int)).toNat = 30 * t + k by omega] at this
  exact this
theorem of_many (h : mdl M n T Y lap bnd mrg) (ht : t < n) : CallI m_Model_of [.inr 154, .inl (t : Int), .inl 0] M (fun y M' => y = (T t).2.1 ∧ M' = M) := by
  have g := mdl_t h ht
  rw [← g.1.2]
  exact of_k (by omega) 0 (by omega) rfl
theorem of_year (h : mdl M n T Y lap bnd mrg) (ht : t < n) : CallI m_Model_of [.inr 154, .inl (t : Int), .inl 4] M (fun y M' => y = Y t ∧ M' = M) := by
  have g := mdl_t h ht
  rw [← g.2.1]
  exact of_k (by omega) 4 (by omega) rfl
theorem of_width (h : mdl M n T Y lap bnd mrg) (ht : t < n) {r : Int} (r0 : 0 ≤ r) (r1 : r < (T t).2.1) : CallI m_Model_of [.inr 154, .inl (t : Int), .inl (6 + r)] M (fun y M' => y = sN (T t) r ∧ M' = M) := by
  have g := mdl_t h ht
  have o := g.2.2.2.1.1
  have e := g.2.2.1 r.toNat (by omega)
  rw [show ((r.toNat : Nat) : Int) = r by omega] at e
  rw [← e]
  have := of_k (M := M) (t := t) (by omega) (6 + r.toNat) (by omega) (x := 6 + r) (by omega)
  rw [show 30 * t + (6 + r.toNat) = 30 * t + 6 + r.toNat by omega] at this
  exact this
theorem dated_m (h : mdl M n T Y lap bnd mrg) (ht : t < n) : CallI m_Model_isDated [.inr 154, .inl (t : Int)] M (fun y M' => y = (if Y t ≠ -1 then 1 else 0) ∧ M' = M) := by
  have g := mdl_t h ht
  have gy := g.2.2.2.2.1
  have e : (30 * (t : Int) + 4).toNat = 30 * t + 4 := by omega
  have := Model_isDated_ok (t := (t : Int)) (M := M) ⟨by omega, by omega⟩ (by rw [e, g.2.1]; exact ⟨by omega, by omega⟩)
  rw [e, g.2.1] at this
  exact this
end OFM
def mFil (M : Mm) (v : Nat) (g : Nat → Int) (i : Nat) : Mm := fun b j => if b = v ∧ j < i then g j else M b j
theorem mFil_s {M : Mm} {v : Nat} {g : Nat → Int} {i : Nat} : mset (mFil M v g i) v i (g i) = mFil M v g (i + 1) := by
  funext b j
  simp only [mset, mFil]
  grind
theorem mFil_0 {M : Mm} {v : Nat} {g : Nat → Int} : mFil M v g 0 = M := by
  funext b j
  simp [mFil]
theorem mTell_fin {M : Mm} {v : Nat} {A : Rw} (h : numM M v A) : finM (mTell M (v + 1) (v + 2) A A.2.1) v A := by
  obtain ⟨h1, h2, h3⟩ := h
  refine ⟨⟨h1, h2, fun j hj => ?_⟩, fun j hj => ⟨?_, ?_⟩⟩
  · rw [← h3 j hj]
    simp [mTell]
  · simp [mTell, hj]
  · simp [mTell, hj]
theorem mTell_fr {M : Mm} {s r : Nat} {A : Rw} {n : Int} : FrP (fun b _ => b = s ∨ b = r) M (mTell M s r A n) := by
  intro b j h
  simp only [mTell]
  grind
theorem mV_full {A : Rw} {k : Int} (h : fullR A) (h0 : 0 ≤ k) (h1 : k < A.2.1) : mV A k = sN A k := if_neg (h k h0 h1)
def layAP : Nat → Nat → Prop := fun b j => b = 154 ∧ (j = 26 ∨ j = 27 ∨ j = 30) ∨ 162 ≤ b ∧ b ≤ 164
def layBP : Nat → Nat → Prop := fun b j => b = 154 ∧ (j = 28 ∨ j = 29) ∨ 165 ≤ b ∧ b ≤ 167
set_option maxHeartbeats 600000 in
set_option maxRecDepth 20000 in
theorem Model_layA_ok {n t : Nat} {T : Nat → Rw} {Y : Nat → Int} {lap bnd mrg : Int} {M : Mm} (h : mdl M n T Y lap bnd mrg) (ht : t < n) : CallV m_Model_layA [.inr 154, .inl (t : Int)] M (fun M' => rowA M' (T t) ∧ M' 154 30 = 0 ∧ FrP layAP M M') := by
  have g := mdl_t h ht
  have o := g.2.2.2.1
  have o1 := o.1
  have f0 : FrP layAP M (mset M 154 26 (T t).2.1) := FrP.rf.st (Or.inl ⟨rfl, Or.inl rfl⟩)
  have f1 : FrP layAP M (mset (mset M 154 26 (T t).2.1) 154 27 (M 158 (30 * t + 5))) := f0.st (Or.inl ⟨rfl, Or.inr (Or.inl rfl)⟩)
  have f2 : FrP layAP M (mset (mset (mset M 154 26 (T t).2.1) 154 27 (M 158 (30 * t + 5))) 154 30 0) := f1.st (Or.inl ⟨rfl, Or.inr (Or.inr rfl)⟩)
  have sep : ∀ b j, layAP b j → b ≠ 156 ∧ b ≠ 158 := fun b j z => by unfold layAP at z; omega
  refine callP_of (by decide) (by decide) (Nat.le_of_ble_eq_true rfl) (wpm_of (cuts := [27]) (by decide) 50 _ _ _ _ ?_)
  rw [show lM m_Model_layA = 3 from rfl]
  simp (maxSteps := 2000000) only [↓reduceIte, wp_eq, wpd_eq, kont_eq, STP1, STP2, STP3, STP4, STP5, konM_eq, AMK, CZ, Option.map, List.getElem?_cons_zero, List.getElem?_cons_succ, List.mem_cons, List.not_mem_nil, if_false, if_true, Nat.reduceAdd, Nat.reduceLT, Nat.reduceLeDiff, Nat.reduceEqDiff, true_and, and_true, List.length_nil, List.length_cons, or_true, true_or, or_false, false_or, Option.some.injEq, Sum.inl.injEq, Sum.inr.injEq, exists_eq_left', exists_eq_left, Int.reduceLE, Int.reduceLT, Int.reduceNeg, Int.reduceAdd, Int.reduceMul, Int.reduceSub, Int.reduceToNat, inR, Nat.zero_ne_one, false_and, Nat.succ_ne_zero, reduceCtorEq, false_implies, true_implies, not_false_eq_true, not_true_eq_false, Int.reduceEq, KRE, C_Model_layA, FM]
  refine (of_many h ht).eq ?_
  simp (maxSteps := 2000000) only [↓reduceIte, wp_eq, wpd_eq, kont_eq, STP1, STP2, STP3, STP4, STP5, konM_eq, AMK, CZ, Option.map, List.getElem?_cons_zero, List.getElem?_cons_succ, List.mem_cons, List.not_mem_nil, if_false, if_true, Nat.reduceAdd, Nat.reduceLT, Nat.reduceLeDiff, Nat.reduceEqDiff, true_and, and_true, List.length_nil, List.length_cons, or_true, true_or, or_false, false_or, Option.some.injEq, Sum.inl.injEq, Sum.inr.injEq, exists_eq_left', exists_eq_left, Int.reduceLE, Int.reduceLT, Int.reduceNeg, Int.reduceAdd, Int.reduceMul, Int.reduceSub, Int.reduceToNat, inR, Nat.zero_ne_one, false_and, Nat.succ_ne_zero, reduceCtorEq, false_implies, true_implies, not_false_eq_true, not_true_eq_false, Int.reduceEq, KRE, C_Model_layA, FM]
  have e5 : M 158 (30 * t + 5) = mset M 154 26 (T t).2.1 158 (30 * t + 5) := (f0 _ _ (by unfold layAP; omega)).symm
  refine (of_k (by omega) 5 (by omega) rfl).eq ?_
  rw [← e5]
  simp (maxSteps := 2000000) only [↓reduceIte, wp_eq, wpd_eq, kont_eq, STP1, STP2, STP3, STP4, STP5, konM_eq, AMK, CZ, Option.map, List.getElem?_cons_zero, List.getElem?_cons_succ, List.mem_cons, List.not_mem_nil, if_false, if_true, Nat.reduceAdd, Nat.reduceLT, Nat.reduceLeDiff, Nat.reduceEqDiff, true_and, and_true, List.length_nil, List.length_cons, or_true, true_or, or_false, false_or, Option.some.injEq, Sum.inl.injEq, Sum.inr.injEq, exists_eq_left', exists_eq_left, Int.reduceLE, Int.reduceLT, Int.reduceNeg, Int.reduceAdd, Int.reduceMul, Int.reduceSub, Int.reduceToNat, inR, Nat.zero_ne_one, false_and, Nat.succ_ne_zero, reduceCtorEq, false_implies, true_implies, not_false_eq_true, not_true_eq_false, Int.reduceEq, KRE, C_Model_layA, FM]
  refine loopQ (T t).2.1.toNat (fun k ls M1 => M1 = mFil (mset (mset (mset M 154 26 (T t).2.1) 154 27 (M 158 (30 * t + 5))) 154 30 0) 162 (fun j => sN (T t) j) k ∧ ls = [some (.inr 154), some (.inl (t : Int)), some (.inl k)]) ?_ _ _ ⟨mFil_0.symm, rfl⟩
  rintro k _ _ hk ⟨rfl, rfl⟩ K
  have e26 : mFil (mset (mset (mset M 154 26 (T t).2.1) 154 27 (M 158 (30 * t + 5))) 154 30 0) 162 (fun j => sN (T t) j) k 154 26 = (T t).2.1 := by simp [mFil, mset]
  have f3 : FrP layAP M (mFil (mset (mset (mset M 154 26 (T t).2.1) 154 27 (M 158 (30 * t + 5))) 154 30 0) 162 (fun j => sN (T t) j) k) := by
    intro b j z
    rw [← f2 b j z]
    unfold layAP at z
    simp only [mFil]
    rw [if_neg (by omega)]
  by_cases c : (T t).2.1 ≤ k
  · have c' := eq_true c
    have hk9 : (k : Int) = (T t).2.1 := by omega
    have e27 : mFil (mset (mset (mset M 154 26 (T t).2.1) 154 27 (M 158 (30 * t + 5))) 154 30 0) 162 (fun j => sN (T t) j) k 154 27 = M 158 (30 * t + 5) := by simp [mFil, mset]
    have e30 : mFil (mset (mset (mset M 154 26 (T t).2.1) 154 27 (M 158 (30 * t + 5))) 154 30 0) 162 (fun j => sN (T t) j) k 154 30 = 0 := by simp [mFil, mset]
    have num : numM (mFil (mset (mset (mset M 154 26 (T t).2.1) 154 27 (M 158 (30 * t + 5))) 154 30 0) 162 (fun j => sN (T t) j) k) 162 (T t) := by
      refine ⟨by omega, okT_R o, fun j hj => ?_⟩
      rw [mV_full (okT_full o) (by omega) hj]
      simp only [mFil]
      rw [if_pos ⟨rfl, by omega⟩]
    generalize mFil (mset (mset (mset M 154 26 (T t).2.1) 154 27 (M 158 (30 * t + 5))) 154 30 0) 162 (fun j => sN (T t) j) k = M1 at *
    refine wpm_of (cuts := [27]) (by decide) 50 _ _ _ _ ?_
    simp (maxSteps := 2000000) only [↓reduceIte, wp_eq, wpd_eq, kont_eq, STP1, STP2, STP3, STP4, STP5, konM_eq, AMK, CZ, Option.map, List.getElem?_cons_zero, List.getElem?_cons_succ, List.mem_cons, List.not_mem_nil, if_false, if_true, Nat.reduceAdd, Nat.reduceLT, Nat.reduceLeDiff, Nat.reduceEqDiff, true_and, and_true, List.length_nil, List.length_cons, or_true, true_or, or_false, false_or, Option.some.injEq, Sum.inl.injEq, Sum.inr.injEq, exists_eq_left', exists_eq_left, Int.reduceLE, Int.reduceLT, Int.reduceNeg, Int.reduceAdd, Int.reduceMul, Int.reduceSub, Int.reduceToNat, inR, Nat.zero_ne_one, false_and, Nat.succ_ne_zero, reduceCtorEq, false_implies, true_implies, not_false_eq_true, not_true_eq_false, Int.reduceEq, KRE, C_Model_layA, FM, e26, c']
    refine ⟨by omega, by omega, ?_⟩
    refine (Model_tellRow_ok (a := 162) (s := 163) (r := 164) (len := 1000) (by simp only [FM]) (by simp only [FM]) (by simp only [FM]) (by omega) rfl (by omega) (by omega) num).eq ?_
    have f4 := mTell_fr (M := M1) (s := 163) (r := 164) (A := T t) (n := (T t).2.1)
    refine ⟨⟨?_, by omega, mTell_fin num, ?_⟩, ?_, f3.tr (f4.wd (fun b j z => Or.inr (by omega)))⟩
    · rw [f4 _ _ (by omega), e26]
    · rw [f4 _ _ (by omega), e27]; exact g.2.2.2.2.2.2
    · rw [f4 _ _ (by omega), e30]
  · have c' := eq_false c
    have h3 := mdl_fr h f3 sep
    have K' := K (by omega) _ _ ⟨rfl, rfl⟩
    rw [← mFil_s] at K'
    refine wpm_of (cuts := [27]) (by decide) 50 _ _ _ _ ?_
    simp (maxSteps := 2000000) only [↓reduceIte, wp_eq, wpd_eq, kont_eq, STP1, STP2, STP3, STP4, STP5, konM_eq, AMK, CZ, Option.map, List.getElem?_cons_zero, List.getElem?_cons_succ, List.mem_cons, List.not_mem_nil, if_false, if_true, Nat.reduceAdd, Nat.reduceLT, Nat.reduceLeDiff, Nat.reduceEqDiff, true_and, and_true, List.length_nil, List.length_cons, or_true, true_or, or_false, false_or, Option.some.injEq, Sum.inl.injEq, Sum.inr.injEq, exists_eq_left', exists_eq_left, Int.reduceLE, Int.reduceLT, Int.reduceNeg, Int.reduceAdd, Int.reduceMul, Int.reduceSub, Int.reduceToNat, inR, Nat.zero_ne_one, false_and, Nat.succ_ne_zero, reduceCtorEq, false_implies, true_implies, not_false_eq_true, not_true_eq_false, Int.reduceEq, KRE, C_Model_layA, FM, e26, c']
    refine ⟨by omega, by omega, ?_⟩
    refine (of_width h3 ht (by omega) (by omega)).eq ?_
    simp (maxSteps := 2000000) only [↓reduceIte, wp_eq, wpd_eq, kont_eq, STP1, STP2, STP3, STP4, STP5, konM_eq, AMK, CZ, Option.map, List.getElem?_cons_zero, List.getElem?_cons_succ, List.mem_cons, List.not_mem_nil, if_false, if_true, Nat.reduceAdd, Nat.reduceLT, Nat.reduceLeDiff, Nat.reduceEqDiff, true_and, and_true, List.length_nil, List.length_cons, or_true, true_or, or_false, false_or, Option.some.injEq, Sum.inl.injEq, Sum.inr.injEq, exists_eq_left', exists_eq_left, Int.reduceLE, Int.reduceLT, Int.reduceNeg, Int.reduceAdd, Int.reduceMul, Int.reduceSub, Int.reduceToNat, inR, Nat.zero_ne_one, false_and, Nat.succ_ne_zero, reduceCtorEq, false_implies, true_implies, not_false_eq_true, not_true_eq_false, Int.reduceEq, KRE, C_Model_layA, FM]
    exact ⟨by omega, by omega, K'⟩
set_option maxHeartbeats 600000 in
set_option maxRecDepth 20000 in
theorem Model_tellB_ok {B : Rw} {M : Mm} (h1 : M 154 28 = B.2.1) (h2 : B.2.1 ≤ 24) (num : numM M 165 B) : CallV m_Model_tellB [.inr 154] M (fun M' => M' = mTell M 166 167 B B.2.1) := by
  refine callP_of (by decide) (by decide) (Nat.le_of_ble_eq_true rfl) (wpm_of (cuts := []) (by decide) 50 _ _ _ _ ?_)
  rw [show lM m_Model_tellB = 1 from rfl]
  simp (maxSteps := 2000000) only [↓reduceIte, wp_eq, wpd_eq, kont_eq, STP1, STP2, STP3, STP4, STP5, konM_eq, AMK, CZ, Option.map, List.getElem?_cons_zero, List.getElem?_cons_succ, List.mem_cons, List.not_mem_nil, if_false, if_true, Nat.reduceAdd, Nat.reduceLT, Nat.reduceLeDiff, Nat.reduceEqDiff, true_and, and_true, List.length_nil, List.length_cons, or_true, true_or, or_false, false_or, Option.some.injEq, Sum.inl.injEq, Sum.inr.injEq, exists_eq_left', exists_eq_left, Int.reduceLE, Int.reduceLT, Int.reduceNeg, Int.reduceAdd, Int.reduceMul, Int.reduceSub, Int.reduceToNat, inR, Nat.zero_ne_one, false_and, Nat.succ_ne_zero, reduceCtorEq, false_implies, true_implies, not_false_eq_true, not_true_eq_false, Int.reduceEq, KRE, C_Model_tellB, FM, h1]
  exact Model_tellRow_ok (a := 165) (s := 166) (r := 167) (len := 25) (by simp only [FM]) (by simp only [FM]) (by simp only [FM]) (by omega) rfl (by omega) (by omega) num
set_option maxHeartbeats 600000 in
set_option maxRecDepth 20000 in
theorem Model_layB_ok {n t : Nat} {T : Nat → Rw} {Y : Nat → Int} {lap bnd mrg : Int} {M : Mm} (h : mdl M n T Y lap bnd mrg) (ht : t < n) : CallV m_Model_layB [.inr 154, .inl (t : Int)] M (fun M' => rowB M' (T t) ∧ FrP layBP M M') := by
  have g := mdl_t h ht
  have o := g.2.2.2.1
  have o1 := o.1
  have f0 : FrP layBP M (mset M 154 28 (T t).2.1) := FrP.rf.st (Or.inl ⟨rfl, Or.inl rfl⟩)
  have f2 : FrP layBP M (mset (mset M 154 28 (T t).2.1) 154 29 (M 158 (30 * t + 5))) := f0.st (Or.inl ⟨rfl, Or.inr rfl⟩)
  have sep : ∀ b j, layBP b j → b ≠ 156 ∧ b ≠ 158 := fun b j z => by unfold layBP at z; omega
  refine callP_of (by decide) (by decide) (Nat.le_of_ble_eq_true rfl) (wpm_of (cuts := [22]) (by decide) 50 _ _ _ _ ?_)
  rw [show lM m_Model_layB = 3 from rfl]
  simp (maxSteps := 2000000) only [↓reduceIte, wp_eq, wpd_eq, kont_eq, STP1, STP2, STP3, STP4, STP5, konM_eq, AMK, CZ, Option.map, List.getElem?_cons_zero, List.getElem?_cons_succ, List.mem_cons, List.not_mem_nil, if_false, if_true, Nat.reduceAdd, Nat.reduceLT, Nat.reduceLeDiff, Nat.reduceEqDiff, true_and, and_true, List.length_nil, List.length_cons, or_true, true_or, or_false, false_or, Option.some.injEq, Sum.inl.injEq, Sum.inr.injEq, exists_eq_left', exists_eq_left, Int.reduceLE, Int.reduceLT, Int.reduceNeg, Int.reduceAdd, Int.reduceMul, Int.reduceSub, Int.reduceToNat, inR, Nat.zero_ne_one, false_and, Nat.succ_ne_zero, reduceCtorEq, false_implies, true_implies, not_false_eq_true, not_true_eq_false, Int.reduceEq, KRE, C_Model_layB, FM]
  refine (of_many h ht).eq ?_
  simp (maxSteps := 2000000) only [↓reduceIte, wp_eq, wpd_eq, kont_eq, STP1, STP2, STP3, STP4, STP5, konM_eq, AMK, CZ, Option.map, List.getElem?_cons_zero, List.getElem?_cons_succ, List.mem_cons, List.not_mem_nil, if_false, if_true, Nat.reduceAdd, Nat.reduceLT, Nat.reduceLeDiff, Nat.reduceEqDiff, true_and, and_true, List.length_nil, List.length_cons, or_true, true_or, or_false, false_or, Option.some.injEq, Sum.inl.injEq, Sum.inr.injEq, exists_eq_left', exists_eq_left, Int.reduceLE, Int.reduceLT, Int.reduceNeg, Int.reduceAdd, Int.reduceMul, Int.reduceSub, Int.reduceToNat, inR, Nat.zero_ne_one, false_and, Nat.succ_ne_zero, reduceCtorEq, false_implies, true_implies, not_false_eq_true, not_true_eq_false, Int.reduceEq, KRE, C_Model_layB, FM]
  have e5 : M 158 (30 * t + 5) = mset M 154 28 (T t).2.1 158 (30 * t + 5) := (f0 _ _ (by unfold layBP; omega)).symm
  refine (of_k (by omega) 5 (by omega) rfl).eq ?_
  rw [← e5]
  simp (maxSteps := 2000000) only [↓reduceIte, wp_eq, wpd_eq, kont_eq, STP1, STP2, STP3, STP4, STP5, konM_eq, AMK, CZ, Option.map, List.getElem?_cons_zero, List.getElem?_cons_succ, List.mem_cons, List.not_mem_nil, if_false, if_true, Nat.reduceAdd, Nat.reduceLT, Nat.reduceLeDiff, Nat.reduceEqDiff, true_and, and_true, List.length_nil, List.length_cons, or_true, true_or, or_false, false_or, Option.some.injEq, Sum.inl.injEq, Sum.inr.injEq, exists_eq_left', exists_eq_left, Int.reduceLE, Int.reduceLT, Int.reduceNeg, Int.reduceAdd, Int.reduceMul, Int.reduceSub, Int.reduceToNat, inR, Nat.zero_ne_one, false_and, Nat.succ_ne_zero, reduceCtorEq, false_implies, true_implies, not_false_eq_true, not_true_eq_false, Int.reduceEq, KRE, C_Model_layB, FM]
  refine loopQ (T t).2.1.toNat (fun k ls M1 => M1 = mFil (mset (mset M 154 28 (T t).2.1) 154 29 (M 158 (30 * t + 5))) 165 (fun j => sN (T t) j) k ∧ ls = [some (.inr 154), some (.inl (t : Int)), some (.inl k)]) ?_ _ _ ⟨mFil_0.symm, rfl⟩
  rintro k _ _ hk ⟨rfl, rfl⟩ K
  have e26 : mFil (mset (mset M 154 28 (T t).2.1) 154 29 (M 158 (30 * t + 5))) 165 (fun j => sN (T t) j) k 154 28 = (T t).2.1 := by simp [mFil, mset]
  have f3 : FrP layBP M (mFil (mset (mset M 154 28 (T t).2.1) 154 29 (M 158 (30 * t + 5))) 165 (fun j => sN (T t) j) k) := by
    intro b j z
    rw [← f2 b j z]
    unfold layBP at z
    simp only [mFil]
    rw [if_neg (by omega)]
  by_cases c : (T t).2.1 ≤ k
  · have c' := eq_true c
    have hk9 : (k : Int) = (T t).2.1 := by omega
    have e27 : mFil (mset (mset M 154 28 (T t).2.1) 154 29 (M 158 (30 * t + 5))) 165 (fun j => sN (T t) j) k 154 29 = M 158 (30 * t + 5) := by simp [mFil, mset]
    have num : numM (mFil (mset (mset M 154 28 (T t).2.1) 154 29 (M 158 (30 * t + 5))) 165 (fun j => sN (T t) j) k) 165 (T t) := by
      refine ⟨by omega, okT_R o, fun j hj => ?_⟩
      rw [mV_full (okT_full o) (by omega) hj]
      simp only [mFil]
      rw [if_pos ⟨rfl, by omega⟩]
    generalize mFil (mset (mset M 154 28 (T t).2.1) 154 29 (M 158 (30 * t + 5))) 165 (fun j => sN (T t) j) k = M1 at *
    refine wpm_of (cuts := [22]) (by decide) 50 _ _ _ _ ?_
    simp (maxSteps := 2000000) only [↓reduceIte, wp_eq, wpd_eq, kont_eq, STP1, STP2, STP3, STP4, STP5, konM_eq, AMK, CZ, Option.map, List.getElem?_cons_zero, List.getElem?_cons_succ, List.mem_cons, List.not_mem_nil, if_false, if_true, Nat.reduceAdd, Nat.reduceLT, Nat.reduceLeDiff, Nat.reduceEqDiff, true_and, and_true, List.length_nil, List.length_cons, or_true, true_or, or_false, false_or, Option.some.injEq, Sum.inl.injEq, Sum.inr.injEq, exists_eq_left', exists_eq_left, Int.reduceLE, Int.reduceLT, Int.reduceNeg, Int.reduceAdd, Int.reduceMul, Int.reduceSub, Int.reduceToNat, inR, Nat.zero_ne_one, false_and, Nat.succ_ne_zero, reduceCtorEq, false_implies, true_implies, not_false_eq_true, not_true_eq_false, Int.reduceEq, KRE, C_Model_layB, FM, e26, c']
    refine ⟨by omega, by omega, ?_⟩
    refine (Model_tellB_ok e26 (by omega) num).eq ?_
    have f4 := mTell_fr (M := M1) (s := 166) (r := 167) (A := T t) (n := (T t).2.1)
    refine ⟨⟨?_, by omega, mTell_fin num, ?_, okT_full o⟩, f3.tr (f4.wd (fun b j z => Or.inr (by omega)))⟩
    · rw [f4 _ _ (by omega), e26]
    · rw [f4 _ _ (by omega), e27]; exact g.2.2.2.2.2.2
  · have c' := eq_false c
    have h3 := mdl_fr h f3 sep
    have K' := K (by omega) _ _ ⟨rfl, rfl⟩
    rw [← mFil_s] at K'
    refine wpm_of (cuts := [22]) (by decide) 50 _ _ _ _ ?_
    simp (maxSteps := 2000000) only [↓reduceIte, wp_eq, wpd_eq, kont_eq, STP1, STP2, STP3, STP4, STP5, konM_eq, AMK, CZ, Option.map, List.getElem?_cons_zero, List.getElem?_cons_succ, List.mem_cons, List.not_mem_nil, if_false, if_true, Nat.reduceAdd, Nat.reduceLT, Nat.reduceLeDiff, Nat.reduceEqDiff, true_and, and_true, List.length_nil, List.length_cons, or_true, true_or, or_false, false_or, Option.some.injEq, Sum.inl.injEq, Sum.inr.injEq, exists_eq_left', exists_eq_left, Int.reduceLE, Int.reduceLT, Int.reduceNeg, Int.reduceAdd, Int.reduceMul, Int.reduceSub, Int.reduceToNat, inR, Nat.zero_ne_one, false_and, Nat.succ_ne_zero, reduceCtorEq, false_implies, true_implies, not_false_eq_true, not_true_eq_false, Int.reduceEq, KRE, C_Model_layB, FM, e26, c']
    refine ⟨by omega, by omega, ?_⟩
    refine (of_width h3 ht (by omega) (by omega)).eq ?_
    simp (maxSteps := 2000000) only [↓reduceIte, wp_eq, wpd_eq, kont_eq, STP1, STP2, STP3, STP4, STP5, konM_eq, AMK, CZ, Option.map, List.getElem?_cons_zero, List.getElem?_cons_succ, List.mem_cons, List.not_mem_nil, if_false, if_true, Nat.reduceAdd, Nat.reduceLT, Nat.reduceLeDiff, Nat.reduceEqDiff, true_and, and_true, List.length_nil, List.length_cons, or_true, true_or, or_false, false_or, Option.some.injEq, Sum.inl.injEq, Sum.inr.injEq, exists_eq_left', exists_eq_left, Int.reduceLE, Int.reduceLT, Int.reduceNeg, Int.reduceAdd, Int.reduceMul, Int.reduceSub, Int.reduceToNat, inR, Nat.zero_ne_one, false_and, Nat.succ_ne_zero, reduceCtorEq, false_implies, true_implies, not_false_eq_true, not_true_eq_false, Int.reduceEq, KRE, C_Model_layB, FM]
    exact ⟨by omega, by omega, K'⟩

