/-! THE REFERENCE, D: a ring in or out. -/
theorem bLow : ∀ i, i < 24 → ∀ j, j < 32 → btI (bShl 1 (i : Nat) - 1) j = decide (j < i) := by decide +kernel
/-- the doubts with one more at i; without the one at i -/
def dG (D i : Int) : Int := bOr (bOr (bAnd D (bShl 1 i - 1)) (bShl 1 i)) (bShl (bShr D i) (i + 1))
def dL (D i : Int) : Int := bOr (bAnd D (bShl 1 i - 1)) (bShl (bShr D (i + 1)) i)
theorem dG_bt {D : Int} {i j : Nat} (hi : i < 24) (hj : j < 32) : btI (dG D (i : Int)) j = if j < i then btI D j else if j = i then true else btI D (j - 1) := by
  unfold dG
  rw [show ((i : Int) + 1) = ((i + 1 : Nat) : Int) by omega]
  rw [btI_or, btI_or, btI_and, bLow i hi j hj, btI_shl (by omega) _ hj, btI_shl (n := i + 1) (by omega) _ hj, btI_1 (by omega)]
  by_cases c1 : j < i
  · rw [if_pos c1]
    have c2 : ¬ i ≤ j := by omega
    have c3 : ¬ i + 1 ≤ j := by omega
    simp [c1, c2, c3]
  · rw [if_neg c1]
    by_cases c2 : j = i
    · subst c2
      simp
    · rw [if_neg c2]
      have c3 : i + 1 ≤ j := by omega
      have c4 : ¬ j - i = 0 := by omega
      rw [btI_shr (by omega) _ (by omega), if_pos (by omega)]
      rw [show i + (j - (i + 1)) = j - 1 by omega]
      simp [c1, c3, c4]
theorem dL_bt {D : Int} {i j : Nat} (hi : i < 24) (hj : j < 32) : btI (dL D (i : Int)) j = if j < i then btI D j else if j + 1 < 32 then btI D (j + 1) else btI D 31 := by
  unfold dL
  rw [show ((i : Int) + 1) = ((i + 1 : Nat) : Int) by omega]
  rw [btI_or, btI_and, bLow i hi j hj, btI_shl (by omega) _ hj]
  by_cases c1 : j < i
  · rw [if_pos c1]
    have c2 : ¬ i ≤ j := by omega
    simp [c1, c2]
  · rw [if_neg c1]
    have c2 : i ≤ j := by omega
    rw [btI_shr (by omega) _ (by omega)]
    rw [show i + 1 + (j - i) = j + 1 by omega]
    by_cases c3 : j + 1 < 32
    · simp [c1, c2, c3]
    · simp [c1, c2, c3]
def mMdG (M : Mm) (t n i : Nat) : Mm := fun b j => if b = 158 ∧ j = 30 * t then (n : Int) + 1 else if b = 158 ∧ j = 30 * t + 5 then dG (M 158 (30 * t + 5)) i else if b = 158 ∧ j = 30 * t + 6 + i then 1 else if b = 158 ∧ 30 * t + 6 + i < j ∧ j ≤ 30 * t + 6 + n then M 158 (j - 1) else M b j
def mMdL (M : Mm) (t n i : Nat) : Mm := fun b j => if b = 158 ∧ j = 30 * t then (n : Int) - 1 else if b = 158 ∧ j = 30 * t + 5 then dL (M 158 (30 * t + 5)) i else if b = 158 ∧ j = 30 * t + 6 + n - 1 then 0 else if b = 158 ∧ 30 * t + 6 + i ≤ j ∧ j < 30 * t + 6 + n - 1 then M 158 (j + 1) else M b j
def mShG (M : Mm) (t n r : Nat) : Mm := fun b j => if b = 158 ∧ 30 * t + 6 + r < j ∧ j ≤ 30 * t + 6 + n then M 158 (j - 1) else M b j
def mShL (M : Mm) (t i r : Nat) : Mm := fun b j => if b = 158 ∧ 30 * t + 6 + i ≤ j ∧ j + 1 < 30 * t + 6 + r then M 158 (j + 1) else M b j
set_option maxHeartbeats 600000 in
set_option maxRecDepth 20000 in
theorem Model_mendNow_G {t n i : Nat} {M : Mm} (ht : t < 8) (hn : M 158 (30 * t) = n) (n24 : n < 24) (hi : i ≤ n) : CallV m_Model_mendNow [.inr 154, .inl (t : Int), .inl (i : Int), .inl 1] M (fun M' => M' = mMdG M t n i) := by
  have ix0 : (30 * (t : Int) + 0).toNat = 30 * t := by omega
  have ix5 : (30 * (t : Int) + 5).toNat = 30 * t + 5 := by omega
  have ix : ∀ q : Nat, (30 * (t : Int) + 6 + (q : Int)).toNat = 30 * t + 6 + q := fun q => by omega
  have one0 := eq_false (show ¬ (1 : Int) = 0 by omega)
  refine callP_of (by decide) (by decide) (Nat.le_of_ble_eq_true rfl) (wpm_of (cuts := [42]) (by decide) 80 _ _ _ _ ?_)
  rw [show lM m_Model_mendNow = 8 from rfl]
  simp (maxSteps := 2000000) only [↓reduceIte, wp_eq, wpd_eq, kont_eq, STP1, STP2, STP3, STP4, STP5, konM_eq, AMK, CZ, Option.map, List.getElem?_cons_zero, List.getElem?_cons_succ, List.mem_cons, List.not_mem_nil, if_false, if_true, Nat.reduceAdd, Nat.reduceLT, Nat.reduceLeDiff, Nat.reduceEqDiff, true_and, and_true, List.length_nil, List.length_cons, or_true, true_or, or_false, false_or, Option.some.injEq, Sum.inl.injEq, Sum.inr.injEq, exists_eq_left', exists_eq_left, Int.reduceLE, Int.reduceLT, Int.reduceNeg, Int.reduceAdd, Int.reduceMul, Int.reduceSub, Int.reduceToNat, inR, Nat.zero_ne_one, false_and, Nat.succ_ne_zero, reduceCtorEq, false_implies, true_implies, not_false_eq_true, not_true_eq_false, Int.reduceEq, KRE, C_Model_mendNow, FM, ix0, ix5, hn, one0]
  repeat (first | refine ⟨by omega, ?_⟩ | refine ⟨fun _ _ => okt_nn (by omega), ?_⟩)
  try (first | (show _ ≤ _; omega) | (show _ < _; omega))
  refine loopQ (n - i) (fun d ls M1 => M1 = mShG M t n (n - d) ∧ ls = [some (.inr 154), some (.inl (t : Int)), some (.inl (i : Int)), some (.inl 1), some (.inl (30 * (t : Int))), some (.inl (n : Int)), some (.inl (bAnd (M 158 (30 * t + 5)) (bShl 1 i - 1))), some (.inl ((n - d : Nat) : Int))]) ?_ _ _ ⟨?_, by rw [Nat.sub_zero]⟩
  · rintro d _ _ hd ⟨rfl, rfl⟩ K
    generalize hr : n - d = r at *
    have e5 : mShG M t n r 158 (30 * t + 5) = M 158 (30 * t + 5) := by
      simp only [mShG]
      rw [if_neg (by omega)]
    by_cases c : r = i
    · subst c
      have c' := eq_true (show (r : Int) ≤ r by omega)
      have fin : mset (mset (mset (mShG M t n r) 158 (30 * t + 6 + r) 1) 158 (30 * t + 5) (bOr (bOr (bAnd (M 158 (30 * t + 5)) (bShl 1 r - 1)) (bShl 1 r)) (bShl (bShr (M 158 (30 * t + 5)) r) ((r : Int) + 1)))) 158 (30 * t) ((n : Int) + 1) = mMdG M t n r := by
        funext b j
        simp only [mset, mShG, mMdG, dG]
        all_goals grind
      have e6 : mset (mShG M t n r) 158 (30 * t + 6 + r) 1 158 (30 * t + 5) = M 158 (30 * t + 5) := by
        rw [← e5]
        simp only [mset]
        rw [if_neg (by omega)]
      refine wpm_of (cuts := [42]) (by decide) 80 _ _ _ _ ?_
      simp (maxSteps := 2000000) only [↓reduceIte, wp_eq, wpd_eq, kont_eq, STP1, STP2, STP3, STP4, STP5, konM_eq, AMK, CZ, Option.map, List.getElem?_cons_zero, List.getElem?_cons_succ, List.mem_cons, List.not_mem_nil, if_false, if_true, Nat.reduceAdd, Nat.reduceLT, Nat.reduceLeDiff, Nat.reduceEqDiff, true_and, and_true, List.length_nil, List.length_cons, or_true, true_or, or_false, false_or, Option.some.injEq, Sum.inl.injEq, Sum.inr.injEq, exists_eq_left', exists_eq_left, Int.reduceLE, Int.reduceLT, Int.reduceNeg, Int.reduceAdd, Int.reduceMul, Int.reduceSub, Int.reduceToNat, inR, Nat.zero_ne_one, false_and, Nat.succ_ne_zero, reduceCtorEq, false_implies, true_implies, not_false_eq_true, not_true_eq_false, Int.reduceEq, KRE, C_Model_mendNow, FM, ix0, ix5, ix, e5, e6, one0, c', fin]
      repeat (first | refine ⟨by omega, ?_⟩ | refine ⟨fun _ _ => okt_nn (by omega), ?_⟩)
      try (first | (show _ ≤ _; omega) | (show _ < _; omega))
    · have hri : i < r := by omega
      have c' := eq_false (show ¬ (r : Int) ≤ i by omega)
      have K' := K (by omega)
      rw [show n - (d + 1) = r - 1 by omega] at K'
      have K'' := K' _ _ ⟨rfl, rfl⟩
      have ix1 : (30 * (t : Int) + 6 + (r : Int) - 1).toNat = 30 * t + 6 + (r - 1) := by omega
      have er : mShG M t n r 158 (30 * t + 6 + (r - 1)) = M 158 (30 * t + 6 + (r - 1)) := by
        simp only [mShG]
        rw [if_neg (by omega)]
      refine wpm_of (cuts := [42]) (by decide) 80 _ _ _ _ ?_
      simp (maxSteps := 2000000) only [↓reduceIte, wp_eq, wpd_eq, kont_eq, STP1, STP2, STP3, STP4, STP5, konM_eq, AMK, CZ, Option.map, List.getElem?_cons_zero, List.getElem?_cons_succ, List.mem_cons, List.not_mem_nil, if_false, if_true, Nat.reduceAdd, Nat.reduceLT, Nat.reduceLeDiff, Nat.reduceEqDiff, true_and, and_true, List.length_nil, List.length_cons, or_true, true_or, or_false, false_or, Option.some.injEq, Sum.inl.injEq, Sum.inr.injEq, exists_eq_left', exists_eq_left, Int.reduceLE, Int.reduceLT, Int.reduceNeg, Int.reduceAdd, Int.reduceMul, Int.reduceSub, Int.reduceToNat, inR, Nat.zero_ne_one, false_and, Nat.succ_ne_zero, reduceCtorEq, false_implies, true_implies, not_false_eq_true, not_true_eq_false, Int.reduceEq, KRE, C_Model_mendNow, FM, ix, ix1, er, c']
      repeat (first | refine ⟨by omega, ?_⟩ | refine ⟨fun _ _ => okt_nn (by omega), ?_⟩)
      try (first | (show _ ≤ _; omega) | (show _ < _; omega))
      refine WPm.eqL K'' ?_ rfl ?_
      · rw [show ((r - 1 : Nat) : Int) = r + -1 by omega]
      · funext b j
        show (if b = 158 ∧ 30 * t + 6 + (r - 1) < j ∧ j ≤ 30 * t + 6 + n then M 158 (j - 1) else M b j) = (if b = 158 ∧ j = 30 * t + 6 + r then M 158 (30 * t + 6 + (r - 1)) else if b = 158 ∧ 30 * t + 6 + r < j ∧ j ≤ 30 * t + 6 + n then M 158 (j - 1) else M b j)
        by_cases h1 : b = 158 ∧ j = 30 * t + 6 + r
        · rw [if_pos h1, if_pos (by omega)]
          congr 1
          omega
        · rw [if_neg h1]
          exact if_cg (by omega) rfl rfl
  · funext b j
    simp only [mShG]
    rw [if_neg (by omega)]
set_option maxHeartbeats 600000 in
set_option maxRecDepth 20000 in
theorem Model_mendNow_L {t n i : Nat} {M : Mm} (ht : t < 8) (hn : M 158 (30 * t) = n) (n24 : n ≤ 24) (n3 : 3 < n) (hi : i < n) : CallV m_Model_mendNow [.inr 154, .inl (t : Int), .inl (i : Int), .inl 0] M (fun M' => M' = mMdL M t n i) := by
  have ix0 : (30 * (t : Int) + 0).toNat = 30 * t := by omega
  have ix5 : (30 * (t : Int) + 5).toNat = 30 * t + 5 := by omega
  have ix : ∀ q : Nat, (30 * (t : Int) + 6 + (q : Int)).toNat = 30 * t + 6 + q := fun q => by omega
  refine callP_of (by decide) (by decide) (Nat.le_of_ble_eq_true rfl) (wpm_of (cuts := [134]) (by decide) 80 _ _ _ _ ?_)
  rw [show lM m_Model_mendNow = 8 from rfl]
  simp (maxSteps := 2000000) only [↓reduceIte, wp_eq, wpd_eq, kont_eq, STP1, STP2, STP3, STP4, STP5, konM_eq, AMK, CZ, Option.map, List.getElem?_cons_zero, List.getElem?_cons_succ, List.mem_cons, List.not_mem_nil, if_false, if_true, Nat.reduceAdd, Nat.reduceLT, Nat.reduceLeDiff, Nat.reduceEqDiff, true_and, and_true, List.length_nil, List.length_cons, or_true, true_or, or_false, false_or, Option.some.injEq, Sum.inl.injEq, Sum.inr.injEq, exists_eq_left', exists_eq_left, Int.reduceLE, Int.reduceLT, Int.reduceNeg, Int.reduceAdd, Int.reduceMul, Int.reduceSub, Int.reduceToNat, inR, Nat.zero_ne_one, false_and, Nat.succ_ne_zero, reduceCtorEq, false_implies, true_implies, not_false_eq_true, not_true_eq_false, Int.reduceEq, KRE, C_Model_mendNow, FM, ix0, ix5, hn]
  repeat (first | refine ⟨by omega, ?_⟩ | refine ⟨fun _ _ => okt_nn (by omega), ?_⟩)
  try (first | (show _ ≤ _; omega) | (show _ < _; omega))
  refine loopQ (n - (i + 1)) (fun d ls M1 => M1 = mShL M t i (i + 1 + d) ∧ ls = [some (.inr 154), some (.inl (t : Int)), some (.inl (i : Int)), some (.inl 0), some (.inl (30 * (t : Int))), some (.inl (n : Int)), some (.inl (bAnd (M 158 (30 * t + 5)) (bShl 1 i - 1))), some (.inl ((i + 1 + d : Nat) : Int))]) ?_ _ _ ⟨?_, rfl⟩
  · rintro d _ _ hd ⟨rfl, rfl⟩ K
    have e5 : mShL M t i (i + 1 + d) 158 (30 * t + 5) = M 158 (30 * t + 5) := by
      simp only [mShL]
      rw [if_neg (by omega)]
    by_cases c : i + 1 + d = n
    · rw [c] at e5 ⊢
      have c' := eq_true (show (n : Int) ≤ n by omega)
      have ixn : (30 * (t : Int) + 6 + (n : Int) - 1).toNat = 30 * t + 6 + n - 1 := by omega
      have fin : mset (mset (mset (mShL M t i n) 158 (30 * t + 6 + n - 1) 0) 158 (30 * t + 5) (bOr (bAnd (M 158 (30 * t + 5)) (bShl 1 i - 1)) (bShl (bShr (M 158 (30 * t + 5)) ((i : Int) + 1)) i))) 158 (30 * t) ((n : Int) - 1) = mMdL M t n i := by
        funext b j
        simp only [mset, mShL, mMdL, dL]
        all_goals grind
      have e6 : mset (mShL M t i n) 158 (30 * t + 6 + n - 1) 0 158 (30 * t + 5) = M 158 (30 * t + 5) := by
        rw [← e5]
        simp only [mset]
        rw [if_neg (by omega)]
      refine wpm_of (cuts := [134]) (by decide) 80 _ _ _ _ ?_
      simp (maxSteps := 2000000) only [↓reduceIte, wp_eq, wpd_eq, kont_eq, STP1, STP2, STP3, STP4, STP5, konM_eq, AMK, CZ, Option.map, List.getElem?_cons_zero, List.getElem?_cons_succ, List.mem_cons, List.not_mem_nil, if_false, if_true, Nat.reduceAdd, Nat.reduceLT, Nat.reduceLeDiff, Nat.reduceEqDiff, true_and, and_true, List.length_nil, List.length_cons, or_true, true_or, or_false, false_or, Option.some.injEq, Sum.inl.injEq, Sum.inr.injEq, exists_eq_left', exists_eq_left, Int.reduceLE, Int.reduceLT, Int.reduceNeg, Int.reduceAdd, Int.reduceMul, Int.reduceSub, Int.reduceToNat, inR, Nat.zero_ne_one, false_and, Nat.succ_ne_zero, reduceCtorEq, false_implies, true_implies, not_false_eq_true, not_true_eq_false, Int.reduceEq, KRE, C_Model_mendNow, FM, ix0, ix5, ix, ixn, e5, e6, c', fin]
      repeat (first | refine ⟨by omega, ?_⟩ | refine ⟨fun _ _ => okt_nn (by omega), ?_⟩)
      try (first | (show _ ≤ _; omega) | (show _ < _; omega))
    · have c' := eq_false (show ¬ (n : Int) ≤ (i + 1 + d : Nat) by omega)
      have K' := K (by omega) _ _ ⟨rfl, rfl⟩
      generalize hr : i + 1 + d = r at *
      rw [show i + 1 + (d + 1) = r + 1 by omega] at K'
      have ix1 : (30 * (t : Int) + 6 + (r : Int) - 1).toNat = 30 * t + 6 + (r - 1) := by omega
      have er : mShL M t i r 158 (30 * t + 6 + r) = M 158 (30 * t + 6 + r) := by
        simp only [mShL]
        rw [if_neg (by omega)]
      refine wpm_of (cuts := [134]) (by decide) 80 _ _ _ _ ?_
      simp (maxSteps := 2000000) only [↓reduceIte, wp_eq, wpd_eq, kont_eq, STP1, STP2, STP3, STP4, STP5, konM_eq, AMK, CZ, Option.map, List.getElem?_cons_zero, List.getElem?_cons_succ, List.mem_cons, List.not_mem_nil, if_false, if_true, Nat.reduceAdd, Nat.reduceLT, Nat.reduceLeDiff, Nat.reduceEqDiff, true_and, and_true, List.length_nil, List.length_cons, or_true, true_or, or_false, false_or, Option.some.injEq, Sum.inl.injEq, Sum.inr.injEq, exists_eq_left', exists_eq_left, Int.reduceLE, Int.reduceLT, Int.reduceNeg, Int.reduceAdd, Int.reduceMul, Int.reduceSub, Int.reduceToNat, inR, Nat.zero_ne_one, false_and, Nat.succ_ne_zero, reduceCtorEq, false_implies, true_implies, not_false_eq_true, not_true_eq_false, Int.reduceEq, KRE, C_Model_mendNow, FM, ix, ix1, er, c']
      repeat (first | refine ⟨by omega, ?_⟩ | refine ⟨fun _ _ => okt_nn (by omega), ?_⟩)
      try (first | (show _ ≤ _; omega) | (show _ < _; omega))
      refine WPm.eqM K' ?_
      funext b j
      show (if b = 158 ∧ 30 * t + 6 + i ≤ j ∧ j + 1 < 30 * t + 6 + (r + 1) then M 158 (j + 1) else M b j) = (if b = 158 ∧ j = 30 * t + 6 + (r - 1) then M 158 (30 * t + 6 + r) else if b = 158 ∧ 30 * t + 6 + i ≤ j ∧ j + 1 < 30 * t + 6 + r then M 158 (j + 1) else M b j)
      by_cases h1 : b = 158 ∧ j = 30 * t + 6 + (r - 1)
      · rw [if_pos h1, if_pos (by omega)]
        congr 1
        omega
      · rw [if_neg h1]
        exact if_cg (by omega) rfl rfl
  · funext b j
    simp only [mShL]
    rw [if_neg (by omega)]
/-- one timber's row in place of another -/
def updR (T : Nat → Rw) (t : Nat) (A : Rw) : Nat → Rw := fun s => if s = t then A else T s
theorem mRw_G {M : Mm} {t n i : Nat} (hn : M 158 (30 * t) = n) (n24 : n < 24) (hi : i ≤ n) : mRw (mMdG M t n i 158) t = rwIns (mRw (M 158) t) i 1 := by
  have e0 : mMdG M t n i 158 (30 * t) = (n : Int) + 1 := by simp [mMdG]
  have e5 : mMdG M t n i 158 (30 * t + 5) = dG (M 158 (30 * t + 5)) i := by simp [mMdG]
  unfold mRw rwIns
  simp only [e0, e5, hn]
  refine Prod.ext (funext fun j => ?_) (Prod.ext rfl (funext fun j => ?_))
  · simp only
    by_cases c : (j : Int) < (n : Int) + 1
    · rw [if_pos c, if_pos c]
      have h1 : mMdG M t n i 158 (30 * t + 6 + j) = if j = i then 1 else if i < j then M 158 (30 * t + 6 + (j - 1)) else M 158 (30 * t + 6 + j) := by
        simp only [mMdG]
        rw [if_neg (by omega), if_neg (by omega)]
        by_cases c1 : j = i
        · rw [if_pos (by first | exact ⟨rfl, by omega⟩ | exact ⟨trivial, by omega⟩ | (simp; omega)), if_pos c1]
        · rw [if_neg (by omega), if_neg c1]
          by_cases c2 : i < j
          · rw [if_pos (by first | exact ⟨rfl, by omega, by omega⟩ | exact ⟨trivial, by omega, by omega⟩ | (simp; omega)), if_pos c2]
            congr 1
            omega
          · rw [if_neg (by omega), if_neg c2]
      rw [h1]
      rcases Nat.lt_trichotomy j i with c1 | c1 | c1
      · have a1 : ¬ ((j : Int) = i) := by omega
        have a2 : ¬ ((i : Int) < j) := by omega
        have a3 : (j : Int) < n := by omega
        have a4 : ¬ j = i := by omega
        have a5 : ¬ i < j := by omega
        simp only [a1, a2, a3, a4, a5, if_true, if_false]
      · subst c1
        simp
      · have a1 : ¬ ((j : Int) = i) := by omega
        have a2 : (i : Int) < j := by omega
        have a3 : ((j - 1 : Nat) : Int) < n := by omega
        have a4 : ¬ j = i := by omega
        simp only [a1, a2, a3, a4, c1, if_true, if_false]
    · rw [if_neg c, if_neg c]
  · simp only
    by_cases c : (j : Int) < (n : Int) + 1
    · rw [if_pos c, if_pos c, dG_bt (by omega) (by omega)]
      rcases Nat.lt_trichotomy j i with c1 | c1 | c1
      · have a1 : ¬ ((j : Int) = i) := by omega
        have a2 : ¬ ((i : Int) < j) := by omega
        have a3 : (j : Int) < n := by omega
        simp only [a1, a2, a3, c1, if_true, if_false]
      · subst c1
        simp
      · have a1 : ¬ ((j : Int) = i) := by omega
        have a2 : (i : Int) < j := by omega
        have a3 : ((j - 1 : Nat) : Int) < n := by omega
        have a4 : ¬ j = i := by omega
        have a5 : ¬ j < i := by omega
        simp only [a1, a2, a3, a4, a5, if_true, if_false]
    · rw [if_neg c, if_neg c]
theorem mRw_L {M : Mm} {t n i : Nat} (hn : M 158 (30 * t) = n) (n24 : n ≤ 24) (n3 : 3 < n) (hi : i < n) : mRw (mMdL M t n i 158) t = rwRem (mRw (M 158) t) i := by
  have e0 : mMdL M t n i 158 (30 * t) = (n : Int) - 1 := by simp [mMdL]
  have e5 : mMdL M t n i 158 (30 * t + 5) = dL (M 158 (30 * t + 5)) i := by simp [mMdL]
  unfold mRw rwRem
  simp only [e0, e5, hn]
  refine Prod.ext (funext fun j => ?_) (Prod.ext rfl (funext fun j => ?_))
  · simp only
    by_cases c : (j : Int) < (n : Int) - 1
    · rw [if_pos c, if_pos c]
      have h1 : mMdL M t n i 158 (30 * t + 6 + j) = if i ≤ j then M 158 (30 * t + 6 + (j + 1)) else M 158 (30 * t + 6 + j) := by
        simp only [mMdL]
        rw [if_neg (by omega), if_neg (by omega), if_neg (by omega)]
        by_cases c2 : i ≤ j
        · rw [if_pos (by first | exact ⟨rfl, by omega, by omega⟩ | exact ⟨trivial, by omega, by omega⟩ | (simp; omega)), if_pos c2]
          congr 1
        · rw [if_neg (by omega), if_neg c2]
      rw [h1]
      by_cases c2 : i ≤ j
      · rw [if_pos c2, if_pos (by omega), if_pos (by omega)]
      · rw [if_neg c2, if_neg (by omega), if_pos (by omega)]
    · rw [if_neg c, if_neg c]
  · simp only
    by_cases c : (j : Int) < (n : Int) - 1
    · rw [if_pos c, if_pos c, dL_bt (by omega) (by omega)]
      have a6 : j + 1 < 32 := by omega
      by_cases c2 : i ≤ j
      · have a1 : (i : Int) ≤ j := by omega
        have a3 : ((j + 1 : Nat) : Int) < n := by omega
        have a5 : ¬ j < i := by omega
        simp only [a1, a3, a5, a6, if_true, if_false]
      · have a1 : ¬ (i : Int) ≤ j := by omega
        have a3 : (j : Int) < n := by omega
        have a5 : j < i := by omega
        simp only [a1, a3, a5, if_true, if_false]
    · rw [if_neg c, if_neg c]
theorem wfM_G {M : Mm} {t n i : Nat} (hn : M 158 (30 * t) = n) (n24 : n < 24) (hi : i ≤ n) (hw : wfM (M 158) t) : wfM (mMdG M t n i 158) t := by
  have e0 : mMdG M t n i 158 (30 * t) = (n : Int) + 1 := by simp [mMdG]
  have e5 : mMdG M t n i 158 (30 * t + 5) = dG (M 158 (30 * t + 5)) i := by simp [mMdG]
  obtain ⟨w1, w2, w3, w4, w5⟩ := hw
  have o : ∀ k, 0 < k → k < 5 → mMdG M t n i 158 (30 * t + k) = M 158 (30 * t + k) := by
    intro k k0 k5
    simp only [mMdG]
    rw [if_neg (by omega), if_neg (by omega), if_neg (by omega), if_neg (by omega)]
  unfold wfM
  rw [e0, e5, o 1 (by omega) (by omega), o 2 (by omega) (by omega), o 3 (by omega) (by omega)]
  refine ⟨w1, w2, w3, bOr_in _ _, fun j hj => ?_⟩
  by_cases cj : j < 32
  · rw [dG_bt (by omega) cj, if_neg (by omega), if_neg (by omega)]
    exact w5 _ (by omega)
  · exact btI_big (by omega)
theorem wfM_L {M : Mm} {t n i : Nat} (hn : M 158 (30 * t) = n) (n24 : n ≤ 24) (n3 : 3 < n) (hi : i < n) (hw : wfM (M 158) t) : wfM (mMdL M t n i 158) t := by
  have e0 : mMdL M t n i 158 (30 * t) = (n : Int) - 1 := by simp [mMdL]
  have e5 : mMdL M t n i 158 (30 * t + 5) = dL (M 158 (30 * t + 5)) i := by simp [mMdL]
  obtain ⟨w1, w2, w3, w4, w5⟩ := hw
  have o : ∀ k, 0 < k → k < 5 → mMdL M t n i 158 (30 * t + k) = M 158 (30 * t + k) := by
    intro k k0 k5
    simp only [mMdL]
    rw [if_neg (by omega), if_neg (by omega), if_neg (by omega), if_neg (by omega)]
  unfold wfM
  rw [e0, e5, o 1 (by omega) (by omega), o 2 (by omega) (by omega), o 3 (by omega) (by omega)]
  refine ⟨w1, w2, w3, bOr_in _ _, fun j hj => ?_⟩
  by_cases cj : j < 32
  · rw [dL_bt (by omega) cj, if_neg (by omega)]
    split
    · exact w5 _ (by omega)
    · exact w5 _ (by omega)
  · exact btI_big (by omega)
/-- a change of one timber in the row -/
theorem mdl_one {n t : Nat} {T : Nat → Rw} {Y : Nat → Int} {lap bnd mrg : Int} {M M1 : Mm} {A : Rw} (h : mdl M n T Y lap bnd mrg) (ht : t < n) (e6 : ∀ j, M1 156 j = M 156 j) (eo : ∀ j, j < 30 * t ∨ 30 * t + 30 ≤ j → M1 158 j = M 158 j) (eA : mRw (M1 158) t = A) (e4 : M1 158 (30 * t + 4) = M 158 (30 * t + 4)) (hw : wfM (M1 158) t) (hA : okT A) : mdl M1 n (updR T t A) Y lap bnd mrg := by
  obtain ⟨h1, h2, h3, h4⟩ := id h
  refine ⟨by rw [e6]; exact h1, fun s hs => ?_, setM_cells e6 h3, h4.1, fun s hs => ?_⟩
  · unfold updR
    by_cases c : s = t
    · subst c
      rw [if_pos rfl, e4]
      exact ⟨eA, (h2 s hs).2.1, hw⟩
    · rw [if_neg c]
      have gl := (mdl_t h hs).2.2.2.1.1
      have gm := (mdl_t h hs).1.2
      obtain ⟨p1, p2, p3⟩ := h2 s hs
      have e : ∀ k, k < 30 → M1 158 (30 * s + k) = M 158 (30 * s + k) := fun k hk => eo _ (by omega)
      exact ⟨(mRw_eq (fun k hk _ => e k hk) (by omega)).trans p1, (e 4 (by omega)).trans p2, wfM_eq (fun k hk _ => e k hk) p3⟩
  · unfold updR
    by_cases c : s = t
    · rw [if_pos c]
      exact ⟨hA, (h4.2 s hs).2⟩
    · rw [if_neg c]
      exact h4.2 s hs
theorem mdl_G {n t i : Nat} {T : Nat → Rw} {Y : Nat → Int} {lap bnd mrg : Int} {M : Mm} (h : mdl M n T Y lap bnd mrg) (ht : t < n) (h24 : (T t).2.1 < 24) (hi : (i : Int) ≤ (T t).2.1) : mdl (mMdG M t (T t).2.1.toNat i) n (updR T t (rwIns (T t) i 1)) Y lap bnd mrg := by
  have g := mdl_t h ht
  have o := g.2.2.2.1
  have hn : M 158 (30 * t) = ((T t).2.1.toNat : Nat) := by have := g.1.2; have := o.1; omega
  refine mdl_one h ht (fun j => by simp [mMdG]) (fun j hj => ?_) ?_ ?_ (wfM_G hn (by omega) (by omega) g.2.2.2.2.2.1) (okT_ins o h24 (by omega) hi (by omega))
  · simp only [mMdG]
    rw [if_neg (by omega), if_neg (by omega), if_neg (by omega), if_neg (by omega)]
  · rw [mRw_G hn (by omega) (by omega), (h.2.1 t ht).1]
  · simp only [mMdG]
    rw [if_neg (by omega), if_neg (by omega), if_neg (by omega), if_neg (by omega)]
theorem mdl_L {n t i : Nat} {T : Nat → Rw} {Y : Nat → Int} {lap bnd mrg : Int} {M : Mm} (h : mdl M n T Y lap bnd mrg) (ht : t < n) (h3 : 3 < (T t).2.1) (hi : (i : Int) < (T t).2.1) : mdl (mMdL M t (T t).2.1.toNat i) n (updR T t (rwRem (T t) i)) Y lap bnd mrg := by
  have g := mdl_t h ht
  have o := g.2.2.2.1
  have o1 := o.1
  have hn : M 158 (30 * t) = ((T t).2.1.toNat : Nat) := by have := g.1.2; omega
  refine mdl_one h ht (fun j => by simp [mMdL]) (fun j hj => ?_) ?_ ?_ (wfM_L hn (by omega) (by omega) (by omega) g.2.2.2.2.2.1) (okT_rem o h3 (by omega) hi)
  · simp only [mMdL]
    rw [if_neg (by omega), if_neg (by omega), if_neg (by omega), if_neg (by omega)]
  · rw [mRw_L hn (by omega) (by omega) (by omega), (h.2.1 t ht).1]
  · simp only [mMdL]
    rw [if_neg (by omega), if_neg (by omega), if_neg (by omega), if_neg (by omega)]
