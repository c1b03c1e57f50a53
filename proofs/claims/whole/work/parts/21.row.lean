/-! ROW. -/
def isRow (r c : Nat) : Prop := lay r = .inr (.inl (6, [none, some (r + 1), some (r + 2), some (r + 3), some (r + 4), some (r + 5), some (r + 6), none])) ∧ lay (r + 1) = .inl (0, c) ∧ lay (r + 2) = .inl (1, c) ∧ lay (r + 3) = .inl (1, c) ∧ lay (r + 4) = .inl (0, c) ∧ lay (r + 5) = .inl (0, c) ∧ lay (r + 6) = .inl (0, c + 1)
/-- a Row that is laid out: its own numbers and doubts -/
def rwOf (M : Mm) (r : Nat) : Rw := (fun j => M (r + 1) j, M r 7, fun j => M (r + 2) j)
def wfR (M : Mm) (r c : Nat) : Prop := M r 0 = c ∧ c ≤ 924 ∧ (0 ≤ M r 7 ∧ M r 7 ≤ c) ∧ (∀ j, j < c → M (r + 2) j = 0 ∨ M (r + 2) j = 1) ∧ (∀ j, j < c → 0 ≤ M (r + 1) j ∧ M (r + 1) j ≤ 100000000)
/-- .. and finished: A is what stands in it -/
def finR (M : Mm) (r c : Nat) (A : Rw) : Prop := M r 7 = A.2.1 ∧ (0 ≤ A.2.1 ∧ A.2.1 ≤ c) ∧ c ≤ 924 ∧ (∀ j, j < c → M (r + 3) j = 0 ∨ M (r + 3) j = 1) ∧
  ∀ j : Nat, (j : Int) < A.2.1 → M (r + 1) j = A.1 j ∧ M (r + 3) j = sShk A j ∧ M (r + 4) j = sStep A j ∧ M (r + 5) j = sRank A j ∧ M (r + 6) j = sCnt A j ∧ M (r + 6) (j + 1) = sCnt A (j + 1)
set_option maxHeartbeats 4000000 in
set_option maxRecDepth 20000 in
theorem Row_numberAt_ok {r c : Nat} {k : Int} {M : Mm} (ho : isRow r c) (hw : wfR M r c) (hk : inR k) : CallI m_Row_numberAt [.inr r, .inl k] M (fun x M' => x = sN (rwOf M r) k ∧ M' = M) := by
  obtain ⟨l0, l1, l2, l3, l4, l5, l6⟩ := ho
  obtain ⟨w0, w1, w2, w3, w4⟩ := hw
  refine callP_of (by decide) (by decide) (Nat.le_of_ble_eq_true rfl) (wpm_of (cuts := []) (by decide) 50 _ _ _ _ ?_)
  rw [show lM m_Row_numberAt = 2 from rfl]
  simp (maxSteps := 2000000) only [↓reduceIte, wp_eq, wpd_eq, kont_eq, STP1, STP2, STP3, STP4, STP5, konM_eq, AMK, CZ, Option.map, List.getElem?_cons_zero, List.getElem?_cons_succ, List.mem_cons, List.not_mem_nil, if_false, if_true, Nat.reduceAdd, Nat.reduceLT, Nat.reduceLeDiff, Nat.reduceEqDiff, true_and, and_true, List.length_nil, List.length_cons, or_true, true_or, or_false, false_or, Option.some.injEq, Sum.inl.injEq, Sum.inr.injEq, exists_eq_left', exists_eq_left, Int.reduceLE, Int.reduceLT, Int.reduceNeg, Int.reduceAdd, Int.reduceMul, Int.reduceSub, Int.reduceToNat, inR, Nat.zero_ne_one, false_and, Nat.succ_ne_zero, reduceCtorEq, false_implies, true_implies, not_false_eq_true, not_true_eq_false, Int.reduceEq, C_Row_numberAt, l0, l1, l2, l3, l4, l5, l6]
  simp only [inR, sN, rwOf] at *
  grind
set_option maxHeartbeats 4000000 in
set_option maxRecDepth 20000 in
theorem Row_rankAt_ok {r c : Nat} {k : Int} {M : Mm} {A : Rw} (ho : isRow r c) (hw : finR M r c A) (hk : inR k) : CallI m_Row_rankAt [.inr r, .inl k] M (fun x M' => x = sRank A k ∧ M' = M) := by
  obtain ⟨l0, l1, l2, l3, l4, l5, l6⟩ := ho
  obtain ⟨w0, w1, w2, w3, w4⟩ := hw
  have h9 := w4 k.toNat
  have h8 := (sRank_none A k).mpr
  refine callP_of (by decide) (by decide) (Nat.le_of_ble_eq_true rfl) (wpm_of (cuts := []) (by decide) 50 _ _ _ _ ?_)
  rw [show lM m_Row_rankAt = 2 from rfl]
  simp (maxSteps := 2000000) only [↓reduceIte, wp_eq, wpd_eq, kont_eq, STP1, STP2, STP3, STP4, STP5, konM_eq, AMK, CZ, Option.map, List.getElem?_cons_zero, List.getElem?_cons_succ, List.mem_cons, List.not_mem_nil, if_false, if_true, Nat.reduceAdd, Nat.reduceLT, Nat.reduceLeDiff, Nat.reduceEqDiff, true_and, and_true, List.length_nil, List.length_cons, or_true, true_or, or_false, false_or, Option.some.injEq, Sum.inl.injEq, Sum.inr.injEq, exists_eq_left', exists_eq_left, Int.reduceLE, Int.reduceLT, Int.reduceNeg, Int.reduceAdd, Int.reduceMul, Int.reduceSub, Int.reduceToNat, inR, Nat.zero_ne_one, false_and, Nat.succ_ne_zero, reduceCtorEq, false_implies, true_implies, not_false_eq_true, not_true_eq_false, Int.reduceEq, C_Row_rankAt, l0, l1, l2, l3, l4, l5, l6]
  simp only [inR, sN] at *
  grind
set_option maxHeartbeats 4000000 in
set_option maxRecDepth 20000 in
theorem Row_stepAt_ok {r c : Nat} {k : Int} {M : Mm} {A : Rw} (ho : isRow r c) (hw : finR M r c A) (hk : inR k) : CallI m_Row_stepAt [.inr r, .inl k] M (fun x M' => x = sStep A k ∧ M' = M) := by
  obtain ⟨l0, l1, l2, l3, l4, l5, l6⟩ := ho
  obtain ⟨w0, w1, w2, w3, w4⟩ := hw
  have h9 := w4 k.toNat
  have h8 : ¬ (0 ≤ k ∧ k < A.2.1) → sStep A k = 2 := by
    intro h
    unfold sStep sN
    rw [if_neg h]
    simp
  refine callP_of (by decide) (by decide) (Nat.le_of_ble_eq_true rfl) (wpm_of (cuts := []) (by decide) 50 _ _ _ _ ?_)
  rw [show lM m_Row_stepAt = 2 from rfl]
  simp (maxSteps := 2000000) only [↓reduceIte, wp_eq, wpd_eq, kont_eq, STP1, STP2, STP3, STP4, STP5, konM_eq, AMK, CZ, Option.map, List.getElem?_cons_zero, List.getElem?_cons_succ, List.mem_cons, List.not_mem_nil, if_false, if_true, Nat.reduceAdd, Nat.reduceLT, Nat.reduceLeDiff, Nat.reduceEqDiff, true_and, and_true, List.length_nil, List.length_cons, or_true, true_or, or_false, false_or, Option.some.injEq, Sum.inl.injEq, Sum.inr.injEq, exists_eq_left', exists_eq_left, Int.reduceLE, Int.reduceLT, Int.reduceNeg, Int.reduceAdd, Int.reduceMul, Int.reduceSub, Int.reduceToNat, inR, Nat.zero_ne_one, false_and, Nat.succ_ne_zero, reduceCtorEq, false_implies, true_implies, not_false_eq_true, not_true_eq_false, Int.reduceEq, C_Row_stepAt, l0, l1, l2, l3, l4, l5, l6]
  simp only [inR] at *
  grind
set_option maxHeartbeats 4000000 in
set_option maxRecDepth 20000 in
theorem Row_isShaky_ok {r c : Nat} {k : Int} {M : Mm} {A : Rw} (ho : isRow r c) (hw : finR M r c A) (hk : inR k) : CallI m_Row_isShaky [.inr r, .inl k] M (fun x M' => x = sShk A k ∧ M' = M) := by
  obtain ⟨l0, l1, l2, l3, l4, l5, l6⟩ := ho
  obtain ⟨w0, w1, w2, w3, w4⟩ := hw
  have h9 := w4 k.toNat
  have h7 := w3 k.toNat
  have h8 : ¬ (0 ≤ k ∧ k < A.2.1) → sShk A k = 0 := by
    intro h
    unfold sShk
    rw [if_neg (fun z => h ⟨z.1, z.2.1⟩)]
  refine callP_of (by decide) (by decide) (Nat.le_of_ble_eq_true rfl) (wpm_of (cuts := []) (by decide) 50 _ _ _ _ ?_)
  rw [show lM m_Row_isShaky = 2 from rfl]
  simp (maxSteps := 2000000) only [↓reduceIte, wp_eq, wpd_eq, kont_eq, STP1, STP2, STP3, STP4, STP5, konM_eq, AMK, CZ, Option.map, List.getElem?_cons_zero, List.getElem?_cons_succ, List.mem_cons, List.not_mem_nil, if_false, if_true, Nat.reduceAdd, Nat.reduceLT, Nat.reduceLeDiff, Nat.reduceEqDiff, true_and, and_true, List.length_nil, List.length_cons, or_true, true_or, or_false, false_or, Option.some.injEq, Sum.inl.injEq, Sum.inr.injEq, exists_eq_left', exists_eq_left, Int.reduceLE, Int.reduceLT, Int.reduceNeg, Int.reduceAdd, Int.reduceMul, Int.reduceSub, Int.reduceToNat, inR, Nat.zero_ne_one, false_and, Nat.succ_ne_zero, reduceCtorEq, false_implies, true_implies, not_false_eq_true, not_true_eq_false, Int.reduceEq, C_Row_isShaky, l0, l1, l2, l3, l4, l5, l6]
  simp only [inR] at *
  grind
set_option maxHeartbeats 4000000 in
set_option maxRecDepth 20000 in
theorem Row_numbersFrom_ok {r c : Nat} {a b : Int} {M : Mm} {A : Rw} (ho : isRow r c) (hw : finR M r c A) (ha : inR a) (hb : inR b) : CallI m_Row_numbersFrom [.inr r, .inl a, .inl b] M (fun x M' => x = (if 0 ≤ a ∧ b ≤ A.2.1 ∧ a < b then sCnt A b - sCnt A a else 0) ∧ M' = M) := by
  obtain ⟨l0, l1, l2, l3, l4, l5, l6⟩ := ho
  obtain ⟨w0, w1, w2, w3, w4⟩ := hw
  have h9 := w4 a.toNat
  have h8 := w4 (b - 1).toNat
  refine callP_of (by decide) (by decide) (Nat.le_of_ble_eq_true rfl) (wpm_of (cuts := []) (by decide) 50 _ _ _ _ ?_)
  rw [show lM m_Row_numbersFrom = 3 from rfl]
  simp (maxSteps := 2000000) only [↓reduceIte, wp_eq, wpd_eq, kont_eq, STP1, STP2, STP3, STP4, STP5, konM_eq, AMK, CZ, Option.map, List.getElem?_cons_zero, List.getElem?_cons_succ, List.mem_cons, List.not_mem_nil, if_false, if_true, Nat.reduceAdd, Nat.reduceLT, Nat.reduceLeDiff, Nat.reduceEqDiff, true_and, and_true, List.length_nil, List.length_cons, or_true, true_or, or_false, false_or, Option.some.injEq, Sum.inl.injEq, Sum.inr.injEq, exists_eq_left', exists_eq_left, Int.reduceLE, Int.reduceLT, Int.reduceNeg, Int.reduceAdd, Int.reduceMul, Int.reduceSub, Int.reduceToNat, inR, Nat.zero_ne_one, false_and, Nat.succ_ne_zero, reduceCtorEq, false_implies, true_implies, not_false_eq_true, not_true_eq_false, Int.reduceEq, C_Row_numbersFrom, l0, l1, l2, l3, l4, l5, l6]
  simp only [inR] at *
  grind
def mBeg (M : Mm) (r : Nat) (n i : Int) : Mm := fun b j => if b = r ∧ j = 7 then n else if b = r + 1 ∧ (j : Int) < i then 0 else if b = r + 2 ∧ (j : Int) < i then 0 else M b j
set_option maxHeartbeats 4000000 in
set_option maxRecDepth 20000 in
theorem Row_begin_lp {r c : Nat} {x n : Int} {M : Mm} {Qc : Option AV → Mm → Prop} (ho : isRow r c) (hc : c ≤ 924) (h0 : 0 ≤ n) (h1 : n ≤ c) (hq : Qc none (mBeg M r n n)) :
    ∀ (k : Nat) (i : Int) (M1 : Mm), (n - i).toNat ≤ k → 0 ≤ i → i ≤ n → M1 = mBeg M r n i → WPm m_Row_begin Qc 18 [some (.inr r), some (.inl x), some (.inl i)] [] M1 := by
  obtain ⟨l0, l1, l2, l3, l4, l5, l6⟩ := ho
  have e : ∀ i, mBeg M r n i r 7 = n := by intro i; simp only [mBeg]; grind
  intro k
  induction k with
  | zero =>
    intro i M1 hn h2 h3 hM
    subst hM
    obtain rfl : i = n := by omega
    refine wpm_of (cuts := [18]) (by decide) 100 _ _ _ _ ?_
    simp (maxSteps := 2000000) only [↓reduceIte, wp_eq, wpd_eq, kont_eq, STP1, STP2, STP3, STP4, STP5, konM_eq, AMK, CZ, Option.map, List.getElem?_cons_zero, List.getElem?_cons_succ, List.mem_cons, List.not_mem_nil, if_false, if_true, Nat.reduceAdd, Nat.reduceLT, Nat.reduceLeDiff, Nat.reduceEqDiff, true_and, and_true, List.length_nil, List.length_cons, or_true, true_or, or_false, false_or, Option.some.injEq, Sum.inl.injEq, Sum.inr.injEq, exists_eq_left', exists_eq_left, Int.reduceLE, Int.reduceLT, Int.reduceNeg, Int.reduceAdd, Int.reduceMul, Int.reduceSub, Int.reduceToNat, inR, Nat.zero_ne_one, false_and, Nat.succ_ne_zero, reduceCtorEq, false_implies, true_implies, not_false_eq_true, not_true_eq_false, Int.reduceEq, C_Row_begin, l0, l1, l2, l3, l4, l5, l6, e]
    repeat' (first | omega | with_reducible apply And.intro | with_reducible intro _ | with_reducible rfl)
    all_goals exact hq
  | succ k ih =>
    intro i M1 hn h2 h3 hM
    subst hM
    refine wpm_of (cuts := [18]) (by decide) 100 _ _ _ _ ?_
    simp (maxSteps := 2000000) only [↓reduceIte, wp_eq, wpd_eq, kont_eq, STP1, STP2, STP3, STP4, STP5, konM_eq, AMK, CZ, Option.map, List.getElem?_cons_zero, List.getElem?_cons_succ, List.mem_cons, List.not_mem_nil, if_false, if_true, Nat.reduceAdd, Nat.reduceLT, Nat.reduceLeDiff, Nat.reduceEqDiff, true_and, and_true, List.length_nil, List.length_cons, or_true, true_or, or_false, false_or, Option.some.injEq, Sum.inl.injEq, Sum.inr.injEq, exists_eq_left', exists_eq_left, Int.reduceLE, Int.reduceLT, Int.reduceNeg, Int.reduceAdd, Int.reduceMul, Int.reduceSub, Int.reduceToNat, inR, Nat.zero_ne_one, false_and, Nat.succ_ne_zero, reduceCtorEq, false_implies, true_implies, not_false_eq_true, not_true_eq_false, Int.reduceEq, C_Row_begin, l0, l1, l2, l3, l4, l5, l6, e]
    repeat' (first | omega | with_reducible apply And.intro | with_reducible intro _ | with_reducible rfl)
    · rw [show i = n by omega]
      exact hq
    · refine ih (i + 1) _ (by omega) (by omega) (by omega) ?_
      funext b j
      simp only [mset, mBeg]
      grind
set_option maxHeartbeats 4000000 in
set_option maxRecDepth 20000 in
theorem Row_begin_ok {r c : Nat} {x : Int} {M : Mm} (ho : isRow r c) (hm : M r 0 = c) (hc : c ≤ 924) (hx : inR x) : CallV m_Row_begin [.inr r, .inl x] M (fun M' => M' = mBeg M r (max 0 (min x c)) (max 0 (min x c))) := by
  obtain ⟨l0, l1, l2, l3, l4, l5, l6⟩ := id ho
  simp only [inR] at hx
  refine callP_of (by decide) (by decide) (Nat.le_of_ble_eq_true rfl) (wpm_of (cuts := [18]) (by decide) 50 _ _ _ _ ?_)
  rw [show lM m_Row_begin = 3 from rfl]
  simp (maxSteps := 2000000) only [↓reduceIte, wp_eq, wpd_eq, kont_eq, STP1, STP2, STP3, STP4, STP5, konM_eq, AMK, CZ, Option.map, List.getElem?_cons_zero, List.getElem?_cons_succ, List.mem_cons, List.not_mem_nil, if_false, if_true, Nat.reduceAdd, Nat.reduceLT, Nat.reduceLeDiff, Nat.reduceEqDiff, true_and, and_true, List.length_nil, List.length_cons, or_true, true_or, or_false, false_or, Option.some.injEq, Sum.inl.injEq, Sum.inr.injEq, exists_eq_left', exists_eq_left, Int.reduceLE, Int.reduceLT, Int.reduceNeg, Int.reduceAdd, Int.reduceMul, Int.reduceSub, Int.reduceToNat, inR, Nat.zero_ne_one, false_and, Nat.succ_ne_zero, reduceCtorEq, false_implies, true_implies, not_false_eq_true, not_true_eq_false, Int.reduceEq, C_Row_begin, l0, l1, l2, l3, l4, l5, l6, hm]
  repeat' (first | omega | with_reducible apply And.intro | with_reducible intro _ | with_reducible rfl)
  refine Row_begin_lp ho hc (by omega) (by omega) ⟨rfl, rfl⟩ _ 0 _ (Nat.le_refl _) (by omega) (by omega) ?_
  funext b j
  simp only [mset, mBeg]
  grind
set_option maxHeartbeats 4000000 in
set_option maxRecDepth 20000 in
theorem Row_put_ok {r c : Nat} {k x y : Int} {M : Mm} (ho : isRow r c) (hc : c ≤ 924) (hl : M r 7 ≤ c) (hl2 : 0 ≤ M r 7) (hk : inR k) (hy : y = 0 ∨ y = 1) : CallV m_Row_put [.inr r, .inl k, .inl x, .inl y] M (fun M' => M' = if 0 ≤ k ∧ k < M r 7 then mset (mset M (r + 1) k.toNat x) (r + 2) k.toNat y else M) := by
  obtain ⟨l0, l1, l2, l3, l4, l5, l6⟩ := id ho
  simp only [inR] at hk
  refine callP_of (by decide) (by decide) (Nat.le_of_ble_eq_true rfl) (wpm_of (cuts := []) (by decide) 50 _ _ _ _ ?_)
  rw [show lM m_Row_put = 4 from rfl]
  simp (maxSteps := 2000000) only [↓reduceIte, wp_eq, wpd_eq, kont_eq, STP1, STP2, STP3, STP4, STP5, konM_eq, AMK, CZ, Option.map, List.getElem?_cons_zero, List.getElem?_cons_succ, List.mem_cons, List.not_mem_nil, if_false, if_true, Nat.reduceAdd, Nat.reduceLT, Nat.reduceLeDiff, Nat.reduceEqDiff, true_and, and_true, List.length_nil, List.length_cons, or_true, true_or, or_false, false_or, Option.some.injEq, Sum.inl.injEq, Sum.inr.injEq, exists_eq_left', exists_eq_left, Int.reduceLE, Int.reduceLT, Int.reduceNeg, Int.reduceAdd, Int.reduceMul, Int.reduceSub, Int.reduceToNat, inR, Nat.zero_ne_one, false_and, Nat.succ_ne_zero, reduceCtorEq, false_implies, true_implies, not_false_eq_true, not_true_eq_false, Int.reduceEq, C_Row_put, l0, l1, l2, l3, l4, l5, l6]
  grind
theorem wfR_ok {M : Mm} {r c : Nat} (h : wfR M r c) : okR (rwOf M r) := by
  obtain ⟨w0, w1, w2, w3, w4⟩ := h
  exact ⟨w2.1, fun j hj => w4 j (by have : (j : Int) < M r 7 := hj; omega)⟩
theorem sN_rw {M : Mm} {r : Nat} {k : Int} (h0 : 0 ≤ k) (h1 : k < M r 7) : sN (rwOf M r) k = M (r + 1) k.toNat := by
  unfold sN
  exact if_pos ⟨h0, h1⟩
theorem sD_rw {M : Mm} {r : Nat} {k : Int} (h0 : 0 ≤ k) (h1 : k < M r 7) : sD (rwOf M r) k = M (r + 2) k.toNat := by
  unfold sD
  exact if_pos ⟨h0, h1⟩
/-- how many at the two places ahead and behind are less -/
def fLess (A : Rw) (k p : Int) : Int := less1 (sN A k) (sN A p)
theorem fLess_sum {A : Rw} {k : Int} (hk : sN A k ≠ 0) : sumR (fLess A k) (k - 2) (k + 3) = sRank A k := by
  have e0 : fLess A k k = 0 := by
    unfold fLess less1
    rw [if_neg (by omega)]
  unfold sRank
  rw [if_pos hk, show k + 3 = k - 2 + 1 + 1 + 1 + 1 + 1 by omega, sumR_succ _ (by omega), sumR_succ _ (by omega), sumR_succ _ (by omega), sumR_succ _ (by omega), sumR_succ _ (by omega), sumR_0, show k - 2 + 1 + 1 = k by omega, e0, show k - 2 + 1 = k - 1 by omega, show k + 1 + 1 = k + 2 by omega]
  unfold fLess
  omega
theorem fLess_out {A : Rw} {k p : Int} (h : ¬ (0 ≤ p ∧ p < A.2.1)) : fLess A k p = 0 := by
  unfold fLess less1 sN
  rw [if_neg h, if_neg (by simp)]
set_option maxHeartbeats 4000000 in
set_option maxRecDepth 20000 in
theorem Row_countLess_lp {r c : Nat} {k : Int} {M : Mm} {Qc : Option AV → Mm → Prop} (ho : isRow r c) (hw : wfR M r c) (h0 : 0 ≤ k) (h1 : k < M r 7) (hn0 : sN (rwOf M r) k ≠ 0) (hq : Qc (some (.inl (sRank (rwOf M r) k))) M) :
    ∀ (n : Nat) (a i : Int), (k + 3 - i).toNat ≤ n → max 0 (k - 2) ≤ i → i ≤ k + 3 → i ≤ M r 7 → WPm m_Row_countLess Qc 13 [some (.inr r), some (.inl k), some (.inl (sumR (fLess (rwOf M r) k) (k - 2) i)), some (.inl a), some (.inl i)] [] M := by
  obtain ⟨l0, l1, l2, l3, l4, l5, l6⟩ := id ho
  obtain ⟨w0, w1, w2, w3, w4⟩ := hw
  have fin : ∀ i, i ≤ k + 3 → max 0 (k - 2) ≤ i → (M r 7 ≤ i ∨ k + 2 < i) → sumR (fLess (rwOf M r) k) (k - 2) i = sRank (rwOf M r) k := by
    intro i g1 g2 g3
    rw [← fLess_sum hn0, sumR_split _ (a := k - 2) (b := i) (c := k + 3) (by omega) g1, sumR_zero (a := i) (b := k + 3), Int.add_zero]
    intro j j1 j2
    exact fLess_out (fun z => by have : j < M r 7 := z.2; omega)
  intro n
  induction n with
  | zero =>
    intro a i hn g1 g2 g3
    have v1 := w4 i.toNat
    refine wpm_of (cuts := [13]) (by decide) 100 _ _ _ _ ?_
    simp (maxSteps := 2000000) only [↓reduceIte, wp_eq, wpd_eq, kont_eq, STP1, STP2, STP3, STP4, STP5, konM_eq, AMK, CZ, Option.map, List.getElem?_cons_zero, List.getElem?_cons_succ, List.mem_cons, List.not_mem_nil, if_false, if_true, Nat.reduceAdd, Nat.reduceLT, Nat.reduceLeDiff, Nat.reduceEqDiff, true_and, and_true, List.length_nil, List.length_cons, or_true, true_or, or_false, false_or, Option.some.injEq, Sum.inl.injEq, Sum.inr.injEq, exists_eq_left', exists_eq_left, Int.reduceLE, Int.reduceLT, Int.reduceNeg, Int.reduceAdd, Int.reduceMul, Int.reduceSub, Int.reduceToNat, inR, Nat.zero_ne_one, false_and, Nat.succ_ne_zero, reduceCtorEq, false_implies, true_implies, not_false_eq_true, not_true_eq_false, Int.reduceEq, C_Row_countLess, l0, l1, l2, l3, l4, l5, l6]
    repeat' (first | omega | with_reducible apply And.intro | with_reducible intro _ | with_reducible rfl)
    all_goals (rw [fin i (by omega) (by omega) (by omega)]; exact hq)
  | succ n ih =>
    intro a i hn g1 g2 g3
    have v1 := w4 i.toNat
    have v2 := w4 k.toNat
    refine wpm_of (cuts := [13]) (by decide) 100 _ _ _ _ ?_
    simp (maxSteps := 2000000) only [↓reduceIte, wp_eq, wpd_eq, kont_eq, STP1, STP2, STP3, STP4, STP5, konM_eq, AMK, CZ, Option.map, List.getElem?_cons_zero, List.getElem?_cons_succ, List.mem_cons, List.not_mem_nil, if_false, if_true, Nat.reduceAdd, Nat.reduceLT, Nat.reduceLeDiff, Nat.reduceEqDiff, true_and, and_true, List.length_nil, List.length_cons, or_true, true_or, or_false, false_or, Option.some.injEq, Sum.inl.injEq, Sum.inr.injEq, exists_eq_left', exists_eq_left, Int.reduceLE, Int.reduceLT, Int.reduceNeg, Int.reduceAdd, Int.reduceMul, Int.reduceSub, Int.reduceToNat, inR, Nat.zero_ne_one, false_and, Nat.succ_ne_zero, reduceCtorEq, false_implies, true_implies, not_false_eq_true, not_true_eq_false, Int.reduceEq, C_Row_countLess, l0, l1, l2, l3, l4, l5, l6]
    by_cases hf : M r 7 ≤ i ∨ k + 2 < i
    · repeat' (first | omega | with_reducible apply And.intro | with_reducible intro _ | with_reducible rfl)
      all_goals (rw [fin i (by omega) (by omega) (by omega)]; exact hq)
    · have K := ih a (i + 1) (by omega) (by omega) (by omega) (by omega)
      rw [sumR_succ _ (by omega)] at K
      have e : fLess (rwOf M r) k i = if M (r + 1) i.toNat ≠ 0 ∧ M (r + 1) i.toNat < M (r + 1) k.toNat then 1 else 0 := by
        unfold fLess less1
        rw [sN_rw (by omega) (by omega), sN_rw (by omega) (by omega)]
      rw [e] at K
      repeat' (first | omega | with_reducible apply And.intro | with_reducible intro _ | with_reducible rfl)
      · rw [if_neg (by omega)] at K; exact K
      · rw [if_neg (by omega)] at K; exact K
      · rw [if_pos (by omega)] at K; exact K
set_option maxHeartbeats 4000000 in
set_option maxRecDepth 20000 in
theorem Row_countLess_ok {r c : Nat} {k : Int} {M : Mm} (ho : isRow r c) (hw : wfR M r c) (h0 : 0 ≤ k) (h1 : k < M r 7) (hn0 : sN (rwOf M r) k ≠ 0) : CallI m_Row_countLess [.inr r, .inl k] M (fun x M' => x = sRank (rwOf M r) k ∧ M' = M) := by
  obtain ⟨l0, l1, l2, l3, l4, l5, l6⟩ := id ho
  obtain ⟨w0, w1, w2, w3, w4⟩ := id hw
  refine callP_of (by decide) (by decide) (Nat.le_of_ble_eq_true rfl) (wpm_of (cuts := [13]) (by decide) 50 _ _ _ _ ?_)
  rw [show lM m_Row_countLess = 5 from rfl]
  simp (maxSteps := 2000000) only [↓reduceIte, wp_eq, wpd_eq, kont_eq, STP1, STP2, STP3, STP4, STP5, konM_eq, AMK, CZ, Option.map, List.getElem?_cons_zero, List.getElem?_cons_succ, List.mem_cons, List.not_mem_nil, if_false, if_true, Nat.reduceAdd, Nat.reduceLT, Nat.reduceLeDiff, Nat.reduceEqDiff, true_and, and_true, List.length_nil, List.length_cons, or_true, true_or, or_false, false_or, Option.some.injEq, Sum.inl.injEq, Sum.inr.injEq, exists_eq_left', exists_eq_left, Int.reduceLE, Int.reduceLT, Int.reduceNeg, Int.reduceAdd, Int.reduceMul, Int.reduceSub, Int.reduceToNat, inR, Nat.zero_ne_one, false_and, Nat.succ_ne_zero, reduceCtorEq, false_implies, true_implies, not_false_eq_true, not_true_eq_false, Int.reduceEq, C_Row_countLess, l0, l1, l2, l3, l4, l5, l6]
  repeat' (first | omega | with_reducible apply And.intro | with_reducible intro _ | with_reducible rfl)
  have K := Row_countLess_lp (Qc := fun v M' => ∃ x, v = some (.inl x) ∧ x = sRank (rwOf M r) k ∧ M' = M) ho hw h0 h1 hn0 ⟨_, rfl, rfl, rfl⟩ _ (max 0 (k - 2)) (max 0 (k - 2)) (Nat.le_refl _) (by omega) (by omega) (by omega)
  rw [sumR_zero] at K
  · exact K
  · intro j j1 j2
    exact fLess_out (fun z => by omega)
def mFin (M : Mm) (r : Nat) (i : Int) : Mm := fun b j => if b = r + 6 ∧ (j : Int) ≤ i then sCnt (rwOf M r) j else if b = r + 4 ∧ (j : Int) < i then sStep (rwOf M r) j else if b = r + 5 ∧ (j : Int) < i then sRank (rwOf M r) j else if b = r + 3 ∧ (j : Int) < i then sShk (rwOf M r) j else M b j
theorem mFin_in (M : Mm) (r : Nat) (i : Int) : (∀ j, mFin M r i (r + 1) j = M (r + 1) j) ∧ (∀ j, mFin M r i (r + 2) j = M (r + 2) j) ∧ ∀ j, mFin M r i r j = M r j := by
  refine ⟨?_, ?_, ?_⟩ <;> (intro j; simp only [mFin]; grind)
theorem mFin_rw (M : Mm) (r : Nat) (i : Int) : rwOf (mFin M r i) r = rwOf M r := by
  obtain ⟨h1, h2, h3⟩ := mFin_in M r i
  unfold rwOf
  rw [h3, funext h1, funext h2]
theorem mFin_wf {M : Mm} {r c : Nat} {i : Int} (h : wfR M r c) : wfR (mFin M r i) r c := by
  obtain ⟨h1, h2, h3⟩ := mFin_in M r i
  obtain ⟨w0, w1, w2, w3, w4⟩ := h
  exact ⟨by rw [h3]; exact w0, w1, by rw [h3]; exact w2, fun j hj => by rw [h2]; exact w3 j hj, fun j hj => by rw [h1]; exact w4 j hj⟩
theorem sCnt_in {A : Rw} {n : Int} (h : 0 ≤ n) : 0 ≤ sCnt A n ∧ sCnt A n ≤ n := by
  unfold sCnt sumI
  have := sumN_in (f := fun k => one (A.1 k)) (a := 0) (b := 1) (n := n.toNat) (fun j _ => by unfold one; split <;> omega)
  omega
set_option maxHeartbeats 4000000 in
set_option maxRecDepth 20000 in
theorem Row_finish_b {r c : Nat} {M : Mm} {Qc : Option AV → Mm → Prop} {i : Int} {a2 a3 : Option AV} (ho : isRow r c) (hw : wfR M r c) (h0 : 0 ≤ i) (h1 : i < M r 7) (hq : WPm m_Row_finish Qc 9 [some (.inr r), some (.inl (i + 1)), a2, a3] [] (mset M (r + 3) i.toNat (sShk (rwOf M r) i))) :
    WPm m_Row_finish Qc 111 [some (.inr r), some (.inl i), a2, a3] [] M := by
  obtain ⟨l0, l1, l2, l3, l4, l5, l6⟩ := id ho
  obtain ⟨w0, w1, w2, w3, w4⟩ := id hw
  have d1 := w3 i.toNat (by omega)
  have d2 := w3 (i - 1).toNat
  have e : sShk (rwOf M r) i = if M (r + 2) i.toNat ≠ 0 ∨ (0 < i ∧ M (r + 2) (i - 1).toNat ≠ 0) then 1 else 0 := by
    unfold sShk
    rw [sD_rw h0 h1]
    by_cases hp : 0 < i
    · rw [sD_rw (k := i - 1) (by omega) (by omega)]
      have : i < (rwOf M r).2.1 := h1
      grind
    · have z : sD (rwOf M r) (i - 1) = 0 := by
        unfold sD
        exact if_neg (fun z => by omega)
      rw [z]
      have : i < (rwOf M r).2.1 := h1
      grind
  rw [e] at hq
  refine wpm_of (cuts := [9]) (by decide) 200 _ _ _ _ ?_
  simp (maxSteps := 2000000) only [↓reduceIte, wp_eq, wpd_eq, kont_eq, STP1, STP2, STP3, STP4, STP5, konM_eq, AMK, CZ, Option.map, List.getElem?_cons_zero, List.getElem?_cons_succ, List.mem_cons, List.not_mem_nil, if_false, if_true, Nat.reduceAdd, Nat.reduceLT, Nat.reduceLeDiff, Nat.reduceEqDiff, true_and, and_true, List.length_nil, List.length_cons, or_true, true_or, or_false, false_or, Option.some.injEq, Sum.inl.injEq, Sum.inr.injEq, exists_eq_left', exists_eq_left, Int.reduceLE, Int.reduceLT, Int.reduceNeg, Int.reduceAdd, Int.reduceMul, Int.reduceSub, Int.reduceToNat, inR, Nat.zero_ne_one, false_and, Nat.succ_ne_zero, reduceCtorEq, false_implies, true_implies, not_false_eq_true, not_true_eq_false, Int.reduceEq, C_Row_finish, l0, l1, l2, l3, l4, l5, l6, MSE]
  repeat' (first | omega | with_reducible apply And.intro | with_reducible intro _ | with_reducible rfl)
  · rw [if_pos (by omega)] at hq; exact hq
  · rw [if_neg (by omega)] at hq; exact hq
  · rw [if_neg (by omega)] at hq; exact hq
  · rw [if_pos (by omega)] at hq; exact hq
theorem rw_mset {M : Mm} {r a k : Nat} {v : Int} (h : a ≠ r ∧ a ≠ r + 1 ∧ a ≠ r + 2) : rwOf (mset M a k v) r = rwOf M r := by
  unfold rwOf
  refine Prod.ext (funext fun j => ?_) (Prod.ext ?_ (funext fun j => ?_))
  · exact mset_ne _ (fun z => h.2.1 z.symm) _
  · exact mset_ne _ (fun z => h.1 z.symm) _
  · exact mset_ne _ (fun z => h.2.2 z.symm) _
theorem wfR_mset {M : Mm} {r c a k : Nat} {v : Int} (h : a ≠ r ∧ a ≠ r + 1 ∧ a ≠ r + 2) (hw : wfR M r c) : wfR (mset M a k v) r c := by
  obtain ⟨w0, w1, w2, w3, w4⟩ := hw
  have e0 : ∀ j, mset M a k v r j = M r j := fun j => mset_ne _ (fun z => h.1 z.symm) _
  have e1 : ∀ j, mset M a k v (r + 1) j = M (r + 1) j := fun j => mset_ne _ (fun z => h.2.1 z.symm) _
  have e2 : ∀ j, mset M a k v (r + 2) j = M (r + 2) j := fun j => mset_ne _ (fun z => h.2.2 z.symm) _
  exact ⟨by rw [e0]; exact w0, w1, by rw [e0]; exact w2, fun j hj => by rw [e2]; exact w3 j hj, fun j hj => by rw [e1]; exact w4 j hj⟩
theorem sCnt_succ {A : Rw} {i : Int} (h : 0 ≤ i) : sCnt A (i + 1) = sCnt A i + one (A.1 i.toNat) := by
  unfold sCnt
  exact sumI_succ _ h
set_option maxHeartbeats 4000000 in
set_option maxRecDepth 20000 in
theorem Row_finish_c {r c : Nat} {M : Mm} {Qc : Option AV → Mm → Prop} {i : Int} {a2 a3 : Option AV} (ho : isRow r c) (hw : wfR M r c) (h0 : 0 ≤ i) (h1 : i < M r 7) (hq : WPm m_Row_finish Qc 9 [some (.inr r), some (.inl (i + 1)), a2, a3] [] (mFin M r (i + 1))) :
    WPm m_Row_finish Qc 111 [some (.inr r), some (.inl i), a2, a3] [] (mset (mset (mset (mFin M r i) (r + 6) (i + 1).toNat (sCnt (rwOf M r) (i + 1))) (r + 4) i.toNat (sStep (rwOf M r) i)) (r + 5) i.toNat (sRank (rwOf M r) i)) := by
  have n6 : r + 6 ≠ r ∧ r + 6 ≠ r + 1 ∧ r + 6 ≠ r + 2 := by omega
  have n5 : r + 5 ≠ r ∧ r + 5 ≠ r + 1 ∧ r + 5 ≠ r + 2 := by omega
  have n4 : r + 4 ≠ r ∧ r + 4 ≠ r + 1 ∧ r + 4 ≠ r + 2 := by omega
  refine Row_finish_b ho (wfR_mset n5 (wfR_mset n4 (wfR_mset n6 (mFin_wf hw)))) h0 ?_ ?_
  · obtain ⟨-, -, h3⟩ := mFin_in M r i
    rw [mset_ne _ (by omega), mset_ne _ (by omega), mset_ne _ (by omega), h3]
    exact h1
  · rw [rw_mset n5, rw_mset n4, rw_mset n6, mFin_rw]
    refine cast (congrArg _ ?_) hq
    generalize hA : rwOf M r = A
    funext b j
    simp only [mset, mFin, hA]
    by_cases hj : (j : Int) = i
    · obtain rfl : j = i.toNat := by omega
      rw [show ((i.toNat : Nat) : Int) = i by omega]
      grind
    · by_cases hj2 : (j : Int) = i + 1
      · obtain rfl : j = (i + 1).toNat := by omega
        rw [show (((i + 1).toNat : Nat) : Int) = i + 1 by omega]
        grind (splits := 20)
      · grind (splits := 20)
set_option maxHeartbeats 4000000 in
set_option maxRecDepth 20000 in
theorem Row_finish_lp {r c : Nat} {M : Mm} {Qc : Option AV → Mm → Prop} (ho : isRow r c) (hw : wfR M r c) (hq : Qc none (mFin M r (M r 7))) :
    ∀ (n : Nat) (i : Int) (M1 : Mm) (a2 a3 : Option AV), (M r 7 - i).toNat ≤ n → 0 ≤ i → i ≤ M r 7 → M1 = mFin M r i → WPm m_Row_finish Qc 9 [some (.inr r), some (.inl i), a2, a3] [] M1 := by
  obtain ⟨l0, l1, l2, l3, l4, l5, l6⟩ := id ho
  obtain ⟨w0, w1, w2, w3, w4⟩ := id hw
  intro n
  induction n with
  | zero =>
    intro i M1 a2 a3 hn g1 g2 hM
    subst hM
    obtain ⟨h1, h2, h3⟩ := mFin_in M r i
    refine wpm_of (cuts := [9, 111]) (by decide) 200 _ _ _ _ ?_
    simp (maxSteps := 2000000) only [↓reduceIte, wp_eq, wpd_eq, kont_eq, STP1, STP2, STP3, STP4, STP5, konM_eq, AMK, CZ, Option.map, List.getElem?_cons_zero, List.getElem?_cons_succ, List.mem_cons, List.not_mem_nil, if_false, if_true, Nat.reduceAdd, Nat.reduceLT, Nat.reduceLeDiff, Nat.reduceEqDiff, true_and, and_true, List.length_nil, List.length_cons, or_true, true_or, or_false, false_or, Option.some.injEq, Sum.inl.injEq, Sum.inr.injEq, exists_eq_left', exists_eq_left, Int.reduceLE, Int.reduceLT, Int.reduceNeg, Int.reduceAdd, Int.reduceMul, Int.reduceSub, Int.reduceToNat, inR, Nat.zero_ne_one, false_and, Nat.succ_ne_zero, reduceCtorEq, false_implies, true_implies, not_false_eq_true, not_true_eq_false, Int.reduceEq, C_Row_finish, l0, l1, l2, l3, l4, l5, l6, MSE, h1, h2, h3]
    have e : i = M r 7 := by omega
    refine ⟨by omega, by omega, fun _ => by rw [e]; exact hq, fun z => absurd z (by omega)⟩
  | succ n ih =>
    intro i M1 a2 a3 hn g1 g2 hM
    subst hM
    obtain ⟨h1, h2, h3⟩ := mFin_in M r i
    by_cases hlt : i < M r 7
    · have v := w4 i.toNat (by omega)
      have n4 : r + 4 ≠ r ∧ r + 4 ≠ r + 1 ∧ r + 4 ≠ r + 2 := by omega
      have n6 : r + 6 ≠ r ∧ r + 6 ≠ r + 1 ∧ r + 6 ≠ r + 2 := by omega
      have e6 : mFin M r i (r + 6) i.toNat = sCnt (rwOf M r) i := by
        show (if r + 6 = r + 6 ∧ ((i.toNat : Nat) : Int) ≤ i then sCnt (rwOf M r) ((i.toNat : Nat) : Int) else _) = _
        rw [if_pos ⟨rfl, by omega⟩, show ((i.toNat : Nat) : Int) = i by omega]
      have es := sCnt_succ (A := rwOf M r) g1
      have eo : one ((rwOf M r).1 i.toNat) = one (M (r + 1) i.toNat) := rfl
      rw [eo] at es
      have KK : ∀ a2 a3 : Option AV, WPm m_Row_finish Qc 111 [some (.inr r), some (.inl i), a2, a3] [] (mset (mset (mset (mFin M r i) (r + 6) (i + 1).toNat (sCnt (rwOf M r) (i + 1))) (r + 4) i.toNat (sStep (rwOf M r) i)) (r + 5) i.toNat (sRank (rwOf M r) i)) := fun a2 a3 =>
        Row_finish_c ho hw g1 hlt (ih (i + 1) _ a2 a3 (by omega) (by omega) (by omega) rfl)
      have ek : sN (rwOf M r) i = M (r + 1) i.toNat := sN_rw g1 hlt
      have vk := sN_in (A := rwOf (mFin M r i) r) (k := i - 1) (wfR_ok (mFin_wf hw))
      refine wpm_of (cuts := [9, 111]) (by decide) 200 _ _ _ _ ?_
      simp (maxSteps := 2000000) only [↓reduceIte, wp_eq, wpd_eq, kont_eq, STP1, STP2, STP3, STP4, STP5, konM_eq, AMK, CZ, Option.map, List.getElem?_cons_zero, List.getElem?_cons_succ, List.mem_cons, List.not_mem_nil, if_false, if_true, Nat.reduceAdd, Nat.reduceLT, Nat.reduceLeDiff, Nat.reduceEqDiff, true_and, and_true, List.length_nil, List.length_cons, or_true, true_or, or_false, false_or, Option.some.injEq, Sum.inl.injEq, Sum.inr.injEq, exists_eq_left', exists_eq_left, Int.reduceLE, Int.reduceLT, Int.reduceNeg, Int.reduceAdd, Int.reduceMul, Int.reduceSub, Int.reduceToNat, inR, Nat.zero_ne_one, false_and, Nat.succ_ne_zero, reduceCtorEq, false_implies, true_implies, not_false_eq_true, not_true_eq_false, Int.reduceEq, C_Row_finish, l0, l1, l2, l3, l4, l5, l6, MSE, h1, h2, h3]
      repeat' (first | omega | with_reducible apply And.intro | with_reducible intro _ | with_reducible rfl)
      · refine (Row_numberAt_ok ho (mFin_wf hw) ⟨by omega, by omega⟩).mono (fun x M' z => ?_)
        obtain ⟨rfl, rfl⟩ := z
        rw [e6]
        have hz : M (r + 1) i.toNat = 0 := by assumption
        have s1 : sStep (rwOf M r) i = 2 := by unfold sStep; rw [if_neg (by rw [ek]; omega)]
        have s2 : sRank (rwOf M r) i = -1 := by rw [sRank_none, ek, hz]
        rw [s1, s2, es, hz] at KK
        have o0 : one 0 = 0 := rfl
        rw [o0] at KK
        repeat' (first | omega | with_reducible apply And.intro | with_reducible intro _ | with_reducible rfl)
        exact KK _ _
      · refine (Row_numberAt_ok ho (mFin_wf hw) ⟨by omega, by omega⟩).mono (fun x M' z => ?_)
        obtain ⟨rfl, rfl⟩ := z
        rw [e6]
        have hz : ¬ M (r + 1) i.toNat = 0 := by assumption
        have o1 : one (M (r + 1) i.toNat) = 1 := by unfold one; rw [if_pos hz]
        have rw4 : ∀ v w, rwOf (mset (mset (mFin M r i) (r + 6) (i + 1).toNat v) (r + 4) i.toNat w) r = rwOf M r := fun v w => by rw [rw_mset n4, rw_mset n6, mFin_rw]
        rw [mFin_rw] at vk
        rw [mFin_rw]
        rw [es, o1] at KK
        have hN : sN (rwOf M r) i ≠ 0 := by rw [ek]; exact hz
        repeat' (first | omega | with_reducible apply And.intro | with_reducible intro _ | with_reducible rfl)
        · refine (Row_countLess_ok ho (wfR_mset n4 (wfR_mset n6 (mFin_wf hw))) g1 (by rw [mset_ne _ (by omega), mset_ne _ (by omega), h3]; exact hlt) (by rw [rw4]; exact hN)).mono (fun x M' z => ?_)
          obtain ⟨rfl, rfl⟩ := z
          have s1 : sStep (rwOf M r) i = 2 := by unfold sStep; rw [if_neg (by omega)]
          rw [s1] at KK
          repeat' (first | omega | with_reducible apply And.intro | with_reducible intro _ | with_reducible rfl)
          rw [rw4]
          exact KK _ _
        · refine (Integer_compare_ok ⟨by rw [h1]; omega, by rw [h1]; omega⟩ ⟨by omega, by omega⟩).mono (fun x M' z => ?_)
          obtain ⟨rfl, rfl⟩ := z
          repeat' (first | omega | with_reducible apply And.intro | with_reducible intro _ | with_reducible rfl)
          refine (Row_countLess_ok ho (wfR_mset n4 (wfR_mset n6 (mFin_wf hw))) g1 (by rw [mset_ne _ (by omega), mset_ne _ (by omega), h3]; exact hlt) (by rw [rw4]; exact hN)).mono (fun x M' z => ?_)
          obtain ⟨rfl, rfl⟩ := z
          have s1 : sStep (rwOf M r) i = vCmp (M (r + 1) i.toNat) (sN (rwOf M r) (i - 1)) := by unfold sStep; rw [if_pos (by omega), ek]
          rw [s1, ← h1] at KK
          repeat' (first | omega | with_reducible apply And.intro | with_reducible intro _ | with_reducible rfl)
          rw [rw4]
          exact KK _ _
    · refine wpm_of (cuts := [9, 111]) (by decide) 200 _ _ _ _ ?_
      simp (maxSteps := 2000000) only [↓reduceIte, wp_eq, wpd_eq, kont_eq, STP1, STP2, STP3, STP4, STP5, konM_eq, AMK, CZ, Option.map, List.getElem?_cons_zero, List.getElem?_cons_succ, List.mem_cons, List.not_mem_nil, if_false, if_true, Nat.reduceAdd, Nat.reduceLT, Nat.reduceLeDiff, Nat.reduceEqDiff, true_and, and_true, List.length_nil, List.length_cons, or_true, true_or, or_false, false_or, Option.some.injEq, Sum.inl.injEq, Sum.inr.injEq, exists_eq_left', exists_eq_left, Int.reduceLE, Int.reduceLT, Int.reduceNeg, Int.reduceAdd, Int.reduceMul, Int.reduceSub, Int.reduceToNat, inR, Nat.zero_ne_one, false_and, Nat.succ_ne_zero, reduceCtorEq, false_implies, true_implies, not_false_eq_true, not_true_eq_false, Int.reduceEq, C_Row_finish, l0, l1, l2, l3, l4, l5, l6, MSE, h1, h2, h3]
      have e : i = M r 7 := by omega
      refine ⟨by omega, by omega, fun _ => by rw [e]; exact hq, fun z => absurd z (by omega)⟩
set_option maxHeartbeats 4000000 in
set_option maxRecDepth 20000 in
theorem Row_finish_ok {r c : Nat} {M : Mm} (ho : isRow r c) (hw : wfR M r c) : CallV m_Row_finish [.inr r] M (fun M' => M' = mFin M r (M r 7)) := by
  obtain ⟨l0, l1, l2, l3, l4, l5, l6⟩ := id ho
  obtain ⟨w0, w1, w2, w3, w4⟩ := id hw
  refine callP_of (by decide) (by decide) (Nat.le_of_ble_eq_true rfl) (wpm_of (cuts := [9]) (by decide) 50 _ _ _ _ ?_)
  rw [show lM m_Row_finish = 4 from rfl]
  simp (maxSteps := 2000000) only [↓reduceIte, wp_eq, wpd_eq, kont_eq, STP1, STP2, STP3, STP4, STP5, konM_eq, AMK, CZ, Option.map, List.getElem?_cons_zero, List.getElem?_cons_succ, List.mem_cons, List.not_mem_nil, if_false, if_true, Nat.reduceAdd, Nat.reduceLT, Nat.reduceLeDiff, Nat.reduceEqDiff, true_and, and_true, List.length_nil, List.length_cons, or_true, true_or, or_false, false_or, Option.some.injEq, Sum.inl.injEq, Sum.inr.injEq, exists_eq_left', exists_eq_left, Int.reduceLE, Int.reduceLT, Int.reduceNeg, Int.reduceAdd, Int.reduceMul, Int.reduceSub, Int.reduceToNat, inR, Nat.zero_ne_one, false_and, Nat.succ_ne_zero, reduceCtorEq, false_implies, true_implies, not_false_eq_true, not_true_eq_false, Int.reduceEq, C_Row_finish, l0, l1, l2, l3, l4, l5, l6]
  repeat' (first | omega | with_reducible apply And.intro | with_reducible intro _ | with_reducible rfl)
  refine Row_finish_lp ho hw ⟨rfl, rfl⟩ _ 0 _ _ _ (Nat.le_refl _) (by omega) (by omega) ?_
  funext b j
  simp only [mset, mFin]
  have e : sCnt (rwOf M r) 0 = 0 := rfl
  grind
theorem mFin_fin {M : Mm} {r c : Nat} (hw : wfR M r c) (h3 : ∀ j, j < c → M (r + 3) j = 0 ∨ M (r + 3) j = 1) : finR (mFin M r (M r 7)) r c (rwOf M r) := by
  obtain ⟨w0, w1, w2, w3, w4⟩ := hw
  obtain ⟨h1, h2, h0⟩ := mFin_in M r (M r 7)
  refine ⟨by rw [h0]; rfl, w2, w1, fun j hj => ?_, fun j hj => ?_⟩
  · have := h3 j hj
    have e : sShk (rwOf M r) j = 0 ∨ sShk (rwOf M r) j = 1 := by unfold sShk; split <;> omega
    simp only [mFin]
    grind
  · have hj' : (j : Int) < M r 7 := hj
    refine ⟨by rw [h1]; rfl, ?_, ?_, ?_, ?_, ?_⟩ <;> (simp only [mFin]; grind)
