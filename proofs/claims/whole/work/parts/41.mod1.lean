/-! THE REFERENCE, 1: rows. f : Nat → Int is a row of 240 numbers (30 of a timber). -/
/-- what the numbers of a row of the reference are: -1 for none -/
def mV (A : Rw) (k : Int) : Int := if sN A k = 0 then -1 else sN A k
def mRk (A : Rw) (k : Int) : Int := if sN A k = 0 then 0 else sRank A k
def numM (M : Mm) (v : Nat) (A : Rw) : Prop := 0 ≤ A.2.1 ∧ okR A ∧ ∀ j : Nat, (j : Int) < A.2.1 → M v j = mV A j
def finM (M : Mm) (v : Nat) (A : Rw) : Prop := numM M v A ∧ ∀ j : Nat, (j : Int) < A.2.1 → M (v + 1) j = sStep A j ∧ M (v + 2) j = mRk A j
theorem mV_in {A : Rw} {k : Int} (h : okR A) : -1 ≤ mV A k ∧ mV A k ≤ 100000000 ∧ (mV A k = -1 ↔ sN A k = 0) ∧ mV A k ≠ 0 := by
  have := sN_in (k := k) h
  unfold mV
  split <;> omega
set_option maxHeartbeats 600000 in
set_option maxRecDepth 20000 in
theorem Model_of_ok {t k : Int} {M : Mm} (ht : 0 ≤ 30 * t + k ∧ 30 * t + k < 240) : CallI m_Model_of [.inr 154, .inl t, .inl k] M (fun x M' => x = M 158 (30 * t + k).toNat ∧ M' = M) := by
  refine callP_of (by decide) (by decide) (Nat.le_of_ble_eq_true rfl) (wpm_of (cuts := []) (by decide) 50 _ _ _ _ ?_)
  rw [show lM m_Model_of = 3 from rfl]
  simp (maxSteps := 2000000) only [↓reduceIte, wp_eq, wpd_eq, kont_eq, STP1, STP2, STP3, STP4, STP5, konM_eq, AMK, CZ, Option.map, List.getElem?_cons_zero, List.getElem?_cons_succ, List.mem_cons, List.not_mem_nil, if_false, if_true, Nat.reduceAdd, Nat.reduceLT, Nat.reduceLeDiff, Nat.reduceEqDiff, true_and, and_true, List.length_nil, List.length_cons, or_true, true_or, or_false, false_or, Option.some.injEq, Sum.inl.injEq, Sum.inr.injEq, exists_eq_left', exists_eq_left, Int.reduceLE, Int.reduceLT, Int.reduceNeg, Int.reduceAdd, Int.reduceMul, Int.reduceSub, Int.reduceToNat, inR, Nat.zero_ne_one, false_and, Nat.succ_ne_zero, reduceCtorEq, false_implies, true_implies, not_false_eq_true, not_true_eq_false, Int.reduceEq, KRE, C_Model_of, FM]
  exact ht
set_option maxHeartbeats 600000 in
set_option maxRecDepth 20000 in
theorem Model_isDated_ok {t : Int} {M : Mm} (ht : 0 ≤ t ∧ t < 8) (hi : inR (M 158 (30 * t + 4).toNat)) : CallI m_Model_isDated [.inr 154, .inl t] M (fun x M' => x = (if M 158 (30 * t + 4).toNat ≠ -1 then 1 else 0) ∧ M' = M) := by
  simp only [inR] at hi
  refine callP_of (by decide) (by decide) (Nat.le_of_ble_eq_true rfl) (wpm_of (cuts := []) (by decide) 50 _ _ _ _ ?_)
  rw [show lM m_Model_isDated = 2 from rfl]
  simp (maxSteps := 2000000) only [↓reduceIte, wp_eq, wpd_eq, kont_eq, STP1, STP2, STP3, STP4, STP5, konM_eq, AMK, CZ, Option.map, List.getElem?_cons_zero, List.getElem?_cons_succ, List.mem_cons, List.not_mem_nil, if_false, if_true, Nat.reduceAdd, Nat.reduceLT, Nat.reduceLeDiff, Nat.reduceEqDiff, true_and, and_true, List.length_nil, List.length_cons, or_true, true_or, or_false, false_or, Option.some.injEq, Sum.inl.injEq, Sum.inr.injEq, exists_eq_left', exists_eq_left, Int.reduceLE, Int.reduceLT, Int.reduceNeg, Int.reduceAdd, Int.reduceMul, Int.reduceSub, Int.reduceToNat, inR, Nat.zero_ne_one, false_and, Nat.succ_ne_zero, reduceCtorEq, false_implies, true_implies, not_false_eq_true, not_true_eq_false, Int.reduceEq, KRE, C_Model_isDated, FM]
  refine (Model_of_ok ⟨by omega, by omega⟩).eq ?_
  grind
set_option maxHeartbeats 600000 in
set_option maxRecDepth 20000 in
theorem Model_numberAt_ok {a len : Nat} {n k : Int} {A : Rw} {M : Mm} (la : lay a = .inl (0, len)) (hn : n = A.2.1) (hl : n ≤ len) (hl2 : len ≤ 1000) (hk : inR k) (h : numM M a A) : CallI m_Model_numberAt [.inr a, .inl n, .inl k] M (fun x M' => x = mV A k ∧ M' = M) := by
  obtain ⟨h1, h2, h3⟩ := h
  have h4 := h3 k.toNat
  have h5 : ¬ (0 ≤ k ∧ k < A.2.1) → mV A k = -1 := by
    intro z
    unfold mV sN
    rw [if_neg z]
    rfl
  simp only [inR] at hk
  refine callP_of (by decide) (by decide) (Nat.le_of_ble_eq_true rfl) (wpm_of (cuts := []) (by decide) 50 _ _ _ _ ?_)
  rw [show lM m_Model_numberAt = 3 from rfl]
  simp (maxSteps := 2000000) only [↓reduceIte, wp_eq, wpd_eq, kont_eq, STP1, STP2, STP3, STP4, STP5, konM_eq, AMK, CZ, Option.map, List.getElem?_cons_zero, List.getElem?_cons_succ, List.mem_cons, List.not_mem_nil, if_false, if_true, Nat.reduceAdd, Nat.reduceLT, Nat.reduceLeDiff, Nat.reduceEqDiff, true_and, and_true, List.length_nil, List.length_cons, or_true, true_or, or_false, false_or, Option.some.injEq, Sum.inl.injEq, Sum.inr.injEq, exists_eq_left', exists_eq_left, Int.reduceLE, Int.reduceLT, Int.reduceNeg, Int.reduceAdd, Int.reduceMul, Int.reduceSub, Int.reduceToNat, inR, Nat.zero_ne_one, false_and, Nat.succ_ne_zero, reduceCtorEq, false_implies, true_implies, not_false_eq_true, not_true_eq_false, Int.reduceEq, KRE, C_Model_numberAt, la]
  grind
set_option maxHeartbeats 600000 in
set_option maxRecDepth 20000 in
theorem Model_stepAt_ok {a len : Nat} {n k : Int} {A : Rw} {M : Mm} (la : lay a = .inl (0, len)) (hn : n = A.2.1) (hl : n ≤ len) (hl2 : len ≤ 1000) (hk : -10 ≤ k ∧ k ≤ 2000) (h : numM M a A) : CallI m_Model_stepAt [.inr a, .inl n, .inl k] M (fun x M' => x = sStep A k ∧ M' = M) := by
  have v1 := mV_in (k := k) h.2.1
  have v2 := mV_in (k := k - 1) h.2.1
  refine callP_of (by decide) (by decide) (Nat.le_of_ble_eq_true rfl) (wpm_of (cuts := []) (by decide) 50 _ _ _ _ ?_)
  rw [show lM m_Model_stepAt = 5 from rfl]
  simp (maxSteps := 2000000) only [↓reduceIte, wp_eq, wpd_eq, kont_eq, STP1, STP2, STP3, STP4, STP5, konM_eq, AMK, CZ, Option.map, List.getElem?_cons_zero, List.getElem?_cons_succ, List.mem_cons, List.not_mem_nil, if_false, if_true, Nat.reduceAdd, Nat.reduceLT, Nat.reduceLeDiff, Nat.reduceEqDiff, true_and, and_true, List.length_nil, List.length_cons, or_true, true_or, or_false, false_or, Option.some.injEq, Sum.inl.injEq, Sum.inr.injEq, exists_eq_left', exists_eq_left, Int.reduceLE, Int.reduceLT, Int.reduceNeg, Int.reduceAdd, Int.reduceMul, Int.reduceSub, Int.reduceToNat, inR, Nat.zero_ne_one, false_and, Nat.succ_ne_zero, reduceCtorEq, false_implies, true_implies, not_false_eq_true, not_true_eq_false, Int.reduceEq, KRE, C_Model_stepAt, la]
  refine (Model_numberAt_ok la hn hl hl2 ⟨by omega, by omega⟩ h).eq ?_
  refine (Model_numberAt_ok la hn hl hl2 ⟨by omega, by omega⟩ h).eq ?_
  have e : sStep A k = if mV A k = -1 ∨ mV A (k - 1) = -1 then 2 else vCmp (mV A k) (mV A (k - 1)) := by
    unfold sStep
    by_cases z1 : sN A k = 0
    · rw [if_neg (fun q => q.1 z1), if_pos (Or.inl (v1.2.2.1.mpr z1))]
    · by_cases z2 : sN A (k - 1) = 0
      · rw [if_neg (fun q => q.2 z2), if_pos (Or.inr (v2.2.2.1.mpr z2))]
      · rw [if_pos ⟨z1, z2⟩, if_neg (by omega)]
        unfold mV
        rw [if_neg z1, if_neg z2]
  rw [e]
  generalize mV A k = x at *
  generalize mV A (k - 1) = y at *
  by_cases z1 : x = -1
  · simp [z1]
  · by_cases z2 : y = -1
    · simp only [z1, z2, false_or, if_true, if_pos, not_true_eq_false, not_false_eq_true, true_implies, false_implies, and_true, true_and]
      omega
    · simp only [z1, z2, false_or, if_false, not_true_eq_false, not_false_eq_true, true_implies, false_implies, and_true, true_and]
      refine ⟨by omega, by omega, ?_⟩
      exact (Integer_compare_ok ⟨by omega, by omega⟩ ⟨by omega, by omega⟩).eq ⟨rfl, rfl⟩
def mLs (A : Rw) (k d : Int) : Int := if d ≠ 0 ∧ mV A (k + d) ≠ -1 ∧ mV A (k + d) < mV A k then 1 else 0
theorem mLs_sum {A : Rw} {k : Int} (h : okR A) : sumR (mLs A k) (-2) 3 = mRk A k := by
  have v0 := mV_in (k := k) h
  have e : ∀ d, mLs A k d = if sN A k = 0 then 0 else if d = 0 then 0 else less1 (sN A k) (sN A (k + d)) := by
    intro d
    have v1 := mV_in (k := k + d) h
    have b1 := sN_in (k := k + d) h
    unfold mLs less1
    unfold mV at *
    grind
  rw [show (3 : Int) = -2 + 1 + 1 + 1 + 1 + 1 by omega, sumR_succ _ (by omega), sumR_succ _ (by omega), sumR_succ _ (by omega), sumR_succ _ (by omega), sumR_succ _ (by omega), sumR_0]
  simp only [e]
  unfold mRk sRank
  have e2 : k - 2 = k + -2 := by omega
  have e1 : k - 1 = k + (-2 + 1) := by omega
  by_cases z : sN A k = 0
  · simp [z]
  · simp only [z, if_false, ne_eq, not_false_eq_true, if_true]
    rw [e2, e1]
    simp
set_option maxHeartbeats 600000 in
set_option maxRecDepth 20000 in
theorem Model_rankAt_ok {a len : Nat} {n k : Int} {A : Rw} {M : Mm} (la : lay a = .inl (0, len)) (hn : n = A.2.1) (hl : n ≤ len) (hl2 : len ≤ 1000) (hk : -10 ≤ k ∧ k ≤ 2000) (h : numM M a A) : CallI m_Model_rankAt [.inr a, .inl n, .inl k] M (fun x M' => x = mRk A k ∧ M' = M) := by
  have v1 := mV_in (k := k) h.2.1
  refine callP_of (by decide) (by decide) (Nat.le_of_ble_eq_true rfl) (wpm_of (cuts := [14]) (by decide) 50 _ _ _ _ ?_)
  rw [show lM m_Model_rankAt = 7 from rfl]
  simp (maxSteps := 2000000) only [↓reduceIte, wp_eq, wpd_eq, kont_eq, STP1, STP2, STP3, STP4, STP5, konM_eq, AMK, CZ, Option.map, List.getElem?_cons_zero, List.getElem?_cons_succ, List.mem_cons, List.not_mem_nil, if_false, if_true, Nat.reduceAdd, Nat.reduceLT, Nat.reduceLeDiff, Nat.reduceEqDiff, true_and, and_true, List.length_nil, List.length_cons, or_true, true_or, or_false, false_or, Option.some.injEq, Sum.inl.injEq, Sum.inr.injEq, exists_eq_left', exists_eq_left, Int.reduceLE, Int.reduceLT, Int.reduceNeg, Int.reduceAdd, Int.reduceMul, Int.reduceSub, Int.reduceToNat, inR, Nat.zero_ne_one, false_and, Nat.succ_ne_zero, reduceCtorEq, false_implies, true_implies, not_false_eq_true, not_true_eq_false, Int.reduceEq, KRE, C_Model_rankAt, la]
  refine (Model_numberAt_ok la hn hl hl2 ⟨by omega, by omega⟩ h).eq ?_
  refine loopQ 5 (fun i ls M1 => M = M1 ∧ ∃ a6, ls = [some (.inr a), some (.inl n), some (.inl k), some (.inl (mV A k)), some (.inl (sumR (mLs A k) (-2) (-2 + i))), some (.inl (-2 + i)), a6]) ?_ _ _ ⟨rfl, none, rfl⟩
  rintro i _ _ hi ⟨rfl, a6, rfl⟩ K
  have v2 := mV_in (k := k + (-2 + i)) h.2.1
  refine wpm_of (cuts := [14]) (by decide) 100 _ _ _ _ ?_
  simp (maxSteps := 2000000) only [↓reduceIte, wp_eq, wpd_eq, kont_eq, STP1, STP2, STP3, STP4, STP5, konM_eq, AMK, CZ, Option.map, List.getElem?_cons_zero, List.getElem?_cons_succ, List.mem_cons, List.not_mem_nil, if_false, if_true, Nat.reduceAdd, Nat.reduceLT, Nat.reduceLeDiff, Nat.reduceEqDiff, true_and, and_true, List.length_nil, List.length_cons, or_true, true_or, or_false, false_or, Option.some.injEq, Sum.inl.injEq, Sum.inr.injEq, exists_eq_left', exists_eq_left, Int.reduceLE, Int.reduceLT, Int.reduceNeg, Int.reduceAdd, Int.reduceMul, Int.reduceSub, Int.reduceToNat, inR, Nat.zero_ne_one, false_and, Nat.succ_ne_zero, reduceCtorEq, false_implies, true_implies, not_false_eq_true, not_true_eq_false, Int.reduceEq, KRE, C_Model_rankAt, la]
  refine ⟨by omega, fun z => ?_, fun z => ?_⟩
  · rw [show (-2 + (i : Int)) = 3 by omega, mLs_sum h.2.1]
  · refine (Model_numberAt_ok la hn hl hl2 ⟨by omega, by omega⟩ h).eq ?_
    have K' := fun a6 => K (by omega) _ _ ⟨rfl, a6, rfl⟩
    rw [show (-2 + ((i + 1 : Nat) : Int)) = -2 + i + 1 by omega, sumR_succ _ (by omega)] at K'
    rw [show mLs A k (-2 + i) = if (-2 + i : Int) ≠ 0 ∧ mV A (k + (-2 + i)) ≠ -1 ∧ mV A (k + (-2 + i)) < mV A k then 1 else 0 from rfl] at K'
    refine ⟨by omega, fun c1 => ?_, fun c1 => ⟨by omega, fun c2 => ?_, fun c2 => ⟨by omega, by omega, fun c3 => ?_, fun c3 => ?_⟩⟩⟩
    · rw [if_neg (by omega)] at K'
      exact K' _
    · rw [if_neg (by omega)] at K'
      exact K' _
    · rw [if_neg (by omega)] at K'
      exact K' _
    · rw [if_pos (by omega)] at K'
      exact K' _
def mTell (M : Mm) (s r : Nat) (A : Rw) (n : Int) : Mm := fun b j => if b = s ∧ (j : Int) < n then sStep A j else if b = r ∧ (j : Int) < n then mRk A j else M b j
set_option maxHeartbeats 600000 in
set_option maxRecDepth 20000 in
theorem Model_tellRow_ok {a s r len : Nat} {n : Int} {A : Rw} {M : Mm} (la : lay a = .inl (0, len)) (ls : lay s = .inl (0, len)) (lr : lay r = .inl (0, len)) (ne : s ≠ a ∧ r ≠ a ∧ r ≠ s) (hn : n = A.2.1) (hl : n ≤ len) (hl2 : len ≤ 1000) (h : numM M a A) : CallV m_Model_tellRow [.inr a, .inr s, .inr r, .inl n] M (fun M' => M' = mTell M s r A n) := by
  have h0 := h.1
  have hk : ∀ (M1 : Mm), (∀ j, M1 a j = M a j) → numM M1 a A := fun M1 e => ⟨h.1, h.2.1, fun j hj => by rw [e]; exact h.2.2 j hj⟩
  refine callP_of (by decide) (by decide) (Nat.le_of_ble_eq_true rfl) (wpm_of (cuts := [3]) (by decide) 50 _ _ _ _ ?_)
  rw [show lM m_Model_tellRow = 5 from rfl]
  simp (maxSteps := 2000000) only [↓reduceIte, wp_eq, wpd_eq, kont_eq, STP1, STP2, STP3, STP4, STP5, konM_eq, AMK, CZ, Option.map, List.getElem?_cons_zero, List.getElem?_cons_succ, List.mem_cons, List.not_mem_nil, if_false, if_true, Nat.reduceAdd, Nat.reduceLT, Nat.reduceLeDiff, Nat.reduceEqDiff, true_and, and_true, List.length_nil, List.length_cons, or_true, true_or, or_false, false_or, Option.some.injEq, Sum.inl.injEq, Sum.inr.injEq, exists_eq_left', exists_eq_left, Int.reduceLE, Int.reduceLT, Int.reduceNeg, Int.reduceAdd, Int.reduceMul, Int.reduceSub, Int.reduceToNat, inR, Nat.zero_ne_one, false_and, Nat.succ_ne_zero, reduceCtorEq, false_implies, true_implies, not_false_eq_true, not_true_eq_false, Int.reduceEq, KRE, C_Model_tellRow, la, ls, lr]
  refine loopQ n.toNat (fun i ls M1 => M1 = mTell M s r A i ∧ ls = [some (.inr a), some (.inr s), some (.inr r), some (.inl n), some (.inl i)]) ?_ _ _ ⟨?_, rfl⟩
  · rintro i _ _ hi ⟨rfl, rfl⟩ K
    refine wpm_of (cuts := [3]) (by decide) 100 _ _ _ _ ?_
    simp (maxSteps := 2000000) only [↓reduceIte, wp_eq, wpd_eq, kont_eq, STP1, STP2, STP3, STP4, STP5, konM_eq, AMK, CZ, Option.map, List.getElem?_cons_zero, List.getElem?_cons_succ, List.mem_cons, List.not_mem_nil, if_false, if_true, Nat.reduceAdd, Nat.reduceLT, Nat.reduceLeDiff, Nat.reduceEqDiff, true_and, and_true, List.length_nil, List.length_cons, or_true, true_or, or_false, false_or, Option.some.injEq, Sum.inl.injEq, Sum.inr.injEq, exists_eq_left', exists_eq_left, Int.reduceLE, Int.reduceLT, Int.reduceNeg, Int.reduceAdd, Int.reduceMul, Int.reduceSub, Int.reduceToNat, inR, Nat.zero_ne_one, false_and, Nat.succ_ne_zero, reduceCtorEq, false_implies, true_implies, not_false_eq_true, not_true_eq_false, Int.reduceEq, KRE, C_Model_tellRow, la, ls, lr]
    refine ⟨by omega, by omega, fun z => ?_, fun z => ?_⟩
    · rw [show (i : Int) = n by omega]
    · refine (Model_stepAt_ok la hn hl hl2 ⟨by omega, by omega⟩ (hk _ (fun j => ?_))).eq ?_
      · simp [mTell, Ne.symm ne.1, Ne.symm ne.2.1]
      · refine ⟨by omega, ?_⟩
        refine (Model_rankAt_ok la hn hl hl2 ⟨by omega, by omega⟩ (hk _ (fun j => ?_))).eq ?_
        · simp [mset, mTell, Ne.symm ne.1, Ne.symm ne.2.1]
        · refine ⟨by omega, ?_⟩
          refine K (by omega) _ _ ⟨?_, rfl⟩
          funext b j
          simp only [mset, mTell, natT]
          by_cases hj : j = i
          · subst hj
            grind
          · grind
  · funext b j
    simp only [mTell]
    grind
