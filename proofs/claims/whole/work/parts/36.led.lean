/-! NOTES, LEDGER. -/
def isNts (o : Nat) : Prop := lay o = .inr (.inl (4, [some (o + 1), some (o + 2), none])) ∧ lay (o + 1) = .inl (0, 8) ∧ lay (o + 2) = .inl (0, 8)
def isLed (o : Nat) : Prop := lay o = .inr (.inl (3, [some (o + 1), some (o + 2), some (o + 3), some (o + 4), none])) ∧ lay (o + 1) = .inl (0, 40) ∧ lay (o + 2) = .inl (0, 40) ∧ lay (o + 3) = .inl (0, 40) ∧ lay (o + 4) = .inl (0, 40)
theorem isNts_111 : isNts 111 := ⟨rfl, rfl, rfl⟩
theorem isNts_150 : isNts 150 := ⟨rfl, rfl, rfl⟩
theorem isLed_106 : isLed 106 := ⟨rfl, rfl, rfl, rfl, rfl⟩
theorem isLed_145 : isLed 145 := ⟨rfl, rfl, rfl, rfl, rfl⟩
set_option maxHeartbeats 4000000 in
set_option maxRecDepth 20000 in
theorem Notes_add_ok {o : Nat} {t y : Int} {M : Mm} (ho : isNts o) (h0 : 0 ≤ M o 2) (h8 : M o 2 < 8) : CallV m_Notes_add [.inr o, .inl t, .inl y] M (fun M' => M' = mset (mset (mset M (o + 1) (M o 2).toNat t) (o + 2) (M o 2).toNat y) o 2 (M o 2 + 1)) := by
  obtain ⟨l0, l1, l2⟩ := ho
  have e1 : ¬ M o 2 < 0 := by omega
  have e2 : ¬ 8 ≤ M o 2 := by omega
  refine callP_of (by decide) (by decide) (Nat.le_of_ble_eq_true rfl) (wpm_of (cuts := []) (by decide) 60 _ _ _ _ ?_)
  rw [show lM m_Notes_add = 3 from rfl]
  simp (maxSteps := 2000000) only [↓reduceIte, wp_eq, wpd_eq, kont_eq, STP1, STP2, STP3, STP4, STP5, konM_eq, AMK, CZ, Option.map, List.getElem?_cons_zero, List.getElem?_cons_succ, List.mem_cons, List.not_mem_nil, if_false, if_true, Nat.reduceAdd, Nat.reduceLT, Nat.reduceLeDiff, Nat.reduceEqDiff, true_and, and_true, List.length_nil, List.length_cons, or_true, true_or, or_false, false_or, Option.some.injEq, Sum.inl.injEq, Sum.inr.injEq, exists_eq_left', exists_eq_left, Int.reduceLE, Int.reduceLT, Int.reduceNeg, Int.reduceAdd, Int.reduceMul, Int.reduceSub, Int.reduceToNat, inR, Nat.zero_ne_one, false_and, Nat.succ_ne_zero, reduceCtorEq, false_implies, true_implies, not_false_eq_true, not_true_eq_false, Int.reduceEq, KRE, C_Notes_add, l0, l1, l2, MSE, e1, e2]
  repeat (first | refine ⟨by omega, ?_⟩ | refine ⟨fun _ _ => okt_nn (by omega), ?_⟩)
  try (first | (show _ ≤ _; omega) | (show _ < _; omega))
set_option maxHeartbeats 4000000 in
set_option maxRecDepth 20000 in
theorem Notes_copyFrom_ok {o f : Nat} {M : Mm} (ho : isNts o) (hf : isNts f) (sep : o + 3 ≤ f ∨ f + 3 ≤ o) : CallV m_Notes_copyFrom [.inr o, .inr f] M (fun M' => M' = mset (mCpR (mCpR M (o + 1) (f + 1) 8) (o + 2) (f + 2) 8) o 2 (M f 2)) := by
  obtain ⟨l0, l1, l2⟩ := ho
  obtain ⟨g0, g1, g2⟩ := hf
  refine callP_of (by decide) (by decide) (Nat.le_of_ble_eq_true rfl) (wpm_of (cuts := []) (by decide) 60 _ _ _ _ ?_)
  rw [show lM m_Notes_copyFrom = 2 from rfl]
  simp (maxSteps := 2000000) only [↓reduceIte, wp_eq, wpd_eq, kont_eq, STP1, STP2, STP3, STP4, STP5, konM_eq, AMK, CZ, Option.map, List.getElem?_cons_zero, List.getElem?_cons_succ, List.mem_cons, List.not_mem_nil, if_false, if_true, Nat.reduceAdd, Nat.reduceLT, Nat.reduceLeDiff, Nat.reduceEqDiff, true_and, and_true, List.length_nil, List.length_cons, or_true, true_or, or_false, false_or, Option.some.injEq, Sum.inl.injEq, Sum.inr.injEq, exists_eq_left', exists_eq_left, Int.reduceLE, Int.reduceLT, Int.reduceNeg, Int.reduceAdd, Int.reduceMul, Int.reduceSub, Int.reduceToNat, inR, Nat.zero_ne_one, false_and, Nat.succ_ne_zero, reduceCtorEq, false_implies, true_implies, not_false_eq_true, not_true_eq_false, Int.reduceEq, KRE, C_Notes_copyFrom, l0, g0]
  refine (RingDater_copyRow_ok (a := o + 1) (f := f + 1) (n := 8) l1 g1 (by omega) (by omega)).eq ?_
  refine (RingDater_copyRow_ok (a := o + 2) (f := f + 2) (n := 8) l2 g2 (by omega) (by omega)).eq ?_
  have e : mCpR (mCpR M (o + 1) (f + 1) 8) (o + 2) (f + 2) 8 f 2 = M f 2 := (if_neg (by omega)).trans (if_neg (by omega))
  rw [e]
set_option maxHeartbeats 4000000 in
set_option maxRecDepth 20000 in
theorem Notes_agree_ok {o m c : Nat} {bnd : Int} {M : Mm} (ho : isNts o) (hw : wfS M 76) (hc : M 68 6 = c) (h8 : c ≤ 8) (hS : ∀ i, i < c → (0 ≤ M 71 i ∧ M 71 i ≤ 100) ∧ (0 ≤ M 69 i ∧ M 69 i ≤ 7)) (hZ : ∀ i, i < c → -1 ≤ M 70 i ∧ M 70 i ≤ 900) (hb : inR bnd) (hm : M o 2 = m) (hm8 : m ≤ 8) (hN : ∀ i, i < m → inR (M (o + 1) i) ∧ inR (M (o + 2) i)) :
    CallI m_Notes_agree [.inr o, .inr 76, .inr 68, .inl bnd] M (fun x M' => x = (if ∀ i, i < m → yb M c (M (o + 1) i) bnd = M (o + 2) i then 1 else 0) ∧ M' = M) := by
  obtain ⟨l0, l1, l2⟩ := ho
  have k68 : kc (lay 68) 2 = True := FG.1
  have ybr : ∀ d i, i + d = c → ∀ t, -1 ≤ ybR (M 69) (M 70) (M 71) t bnd d i ∧ ybR (M 69) (M 70) (M 71) t bnd d i ≤ 900 := by
    intro d
    induction d with
    | zero => exact fun i hi t => ⟨by show (-1 : Int) ≤ -1; omega, by show (-1 : Int) ≤ 900; omega⟩
    | succ d ih =>
      intro i hi t
      rw [ybR]
      have := hZ i (by omega)
      have := ih (i + 1) (by omega) t
      split
      · omega
      · split <;> omega
  refine callP_of (by decide) (by decide) (Nat.le_of_ble_eq_true rfl) (wpm_of (cuts := [3]) (by decide) 50 _ _ _ _ ?_)
  rw [show lM m_Notes_agree = 5 from rfl]
  simp (maxSteps := 2000000) only [↓reduceIte, wp_eq, wpd_eq, kont_eq, STP1, STP2, STP3, STP4, STP5, konM_eq, AMK, CZ, Option.map, List.getElem?_cons_zero, List.getElem?_cons_succ, List.mem_cons, List.not_mem_nil, if_false, if_true, Nat.reduceAdd, Nat.reduceLT, Nat.reduceLeDiff, Nat.reduceEqDiff, true_and, and_true, List.length_nil, List.length_cons, or_true, true_or, or_false, false_or, Option.some.injEq, Sum.inl.injEq, Sum.inr.injEq, exists_eq_left', exists_eq_left, Int.reduceLE, Int.reduceLT, Int.reduceNeg, Int.reduceAdd, Int.reduceMul, Int.reduceSub, Int.reduceToNat, inR, Nat.zero_ne_one, false_and, Nat.succ_ne_zero, reduceCtorEq, false_implies, true_implies, not_false_eq_true, not_true_eq_false, Int.reduceEq, KRE, C_Notes_agree, l0]
  refine loopQ m (fun k ls M1 => M = M1 ∧ (∀ i, i < k → yb M c (M (o + 1) i) bnd = M (o + 2) i) ∧ ls = [some (.inr o), some (.inr 76), some (.inr 68), some (.inl bnd), some (.inl k)]) ?_ _ _ ⟨rfl, fun i hi => absurd hi (by omega), rfl⟩
  rintro k _ _ hk ⟨rfl, hI, rfl⟩ K
  by_cases hz : (m : Int) ≤ k
  · refine wpm_of (cuts := [3]) (by decide) 100 _ _ _ _ ?_
    simp (maxSteps := 2000000) only [↓reduceIte, wp_eq, wpd_eq, kont_eq, STP1, STP2, STP3, STP4, STP5, konM_eq, AMK, CZ, Option.map, List.getElem?_cons_zero, List.getElem?_cons_succ, List.mem_cons, List.not_mem_nil, if_false, if_true, Nat.reduceAdd, Nat.reduceLT, Nat.reduceLeDiff, Nat.reduceEqDiff, true_and, and_true, List.length_nil, List.length_cons, or_true, true_or, or_false, false_or, Option.some.injEq, Sum.inl.injEq, Sum.inr.injEq, exists_eq_left', exists_eq_left, Int.reduceLE, Int.reduceLT, Int.reduceNeg, Int.reduceAdd, Int.reduceMul, Int.reduceSub, Int.reduceToNat, inR, Nat.zero_ne_one, false_and, Nat.succ_ne_zero, reduceCtorEq, false_implies, true_implies, not_false_eq_true, not_true_eq_false, Int.reduceEq, KRE, C_Notes_agree, l0, hm, hz]
    repeat (first | refine ⟨by omega, ?_⟩ | refine ⟨fun _ _ => okt_nn (by omega), ?_⟩)
    try (first | (show _ ≤ _; omega) | (show _ < _; omega))
    rw [if_pos (fun i hi => hI i (by omega))]
  · have hz2 : ¬ (8 : Int) ≤ k := by omega
    obtain ⟨n1, n2⟩ := hN k (by omega)
    refine wpm_of (cuts := [3]) (by decide) 100 _ _ _ _ ?_
    simp (maxSteps := 2000000) only [↓reduceIte, wp_eq, wpd_eq, kont_eq, STP1, STP2, STP3, STP4, STP5, konM_eq, AMK, CZ, Option.map, List.getElem?_cons_zero, List.getElem?_cons_succ, List.mem_cons, List.not_mem_nil, if_false, if_true, Nat.reduceAdd, Nat.reduceLT, Nat.reduceLeDiff, Nat.reduceEqDiff, true_and, and_true, List.length_nil, List.length_cons, or_true, true_or, or_false, false_or, Option.some.injEq, Sum.inl.injEq, Sum.inr.injEq, exists_eq_left', exists_eq_left, Int.reduceLE, Int.reduceLT, Int.reduceNeg, Int.reduceAdd, Int.reduceMul, Int.reduceSub, Int.reduceToNat, inR, Nat.zero_ne_one, false_and, Nat.succ_ne_zero, reduceCtorEq, false_implies, true_implies, not_false_eq_true, not_true_eq_false, Int.reduceEq, KRE, C_Notes_agree, l0, l1, l2, hm, hz, hz2, natT, k68]
    repeat (first | refine ⟨by omega, ?_⟩ | refine ⟨fun _ _ => okt_nn (by omega), ?_⟩)
    try (first | (show _ ≤ _; omega) | (show _ < _; omega))
    refine (Growth_yearBy_ok (c := c) (t := M (o + 1) k) hw hc h8 hS n1 hb).eq ?_
    have yr := yrA_in (t := M (o + 1) k) hw
    have r1 : -1 ≤ yb M c (M (o + 1) k) bnd ∧ yb M c (M (o + 1) k) bnd ≤ 900 := by
      unfold yb
      split
      · exact yr
      · exact ybr c 0 (by omega) _
    simp only [inR] at n2
    refine ⟨⟨by omega, by omega⟩, by omega, by omega, fun e => ?_, fun e => ?_⟩
    · refine K (by omega) _ _ ⟨rfl, fun i hi => ?_, rfl⟩
      by_cases ei : i = k
      · rw [ei]; exact e
      · exact hI i (by omega)
    · rw [if_neg (fun z => e (z k (by omega)))]
      exact ⟨rfl, rfl⟩
def mDrp (M : Mm) (o i : Nat) : Mm := fun b j => if o + 1 ≤ b ∧ b < o + 5 ∧ j + 1 < i then M b (j + 1) else M b j
set_option maxHeartbeats 4000000 in
set_option maxRecDepth 20000 in
theorem Ledger_dropFirst_ok {o : Nat} {M : Mm} (ho : isLed o) : CallV m_Ledger_dropFirst [.inr o] M (fun M' => M' = mset (mDrp M o 40) o 4 39) := by
  obtain ⟨l0, l1, l2, l3, l4⟩ := ho
  refine callP_of (by decide) (by decide) (Nat.le_of_ble_eq_true rfl) (wpm_of (cuts := [2]) (by decide) 50 _ _ _ _ ?_)
  rw [show lM m_Ledger_dropFirst = 2 from rfl]
  simp (maxSteps := 2000000) only [↓reduceIte, wp_eq, wpd_eq, kont_eq, STP1, STP2, STP3, STP4, STP5, konM_eq, AMK, CZ, Option.map, List.getElem?_cons_zero, List.getElem?_cons_succ, List.mem_cons, List.not_mem_nil, if_false, if_true, Nat.reduceAdd, Nat.reduceLT, Nat.reduceLeDiff, Nat.reduceEqDiff, true_and, and_true, List.length_nil, List.length_cons, or_true, true_or, or_false, false_or, Option.some.injEq, Sum.inl.injEq, Sum.inr.injEq, exists_eq_left', exists_eq_left, Int.reduceLE, Int.reduceLT, Int.reduceNeg, Int.reduceAdd, Int.reduceMul, Int.reduceSub, Int.reduceToNat, inR, Nat.zero_ne_one, false_and, Nat.succ_ne_zero, reduceCtorEq, false_implies, true_implies, not_false_eq_true, not_true_eq_false, Int.reduceEq, KRE, C_Ledger_dropFirst, l0]
  refine loopQ 39 (fun k ls M1 => M1 = mDrp M o (k + 1) ∧ ls = [some (.inr o), some (.inl (1 + k))]) ?_ _ _ ⟨?_, rfl⟩
  · rintro k _ _ hk ⟨rfl, rfl⟩ K
    by_cases hz : (40 : Int) ≤ 1 + k
    · refine wpm_of (cuts := [2]) (by decide) 100 _ _ _ _ ?_
      simp (maxSteps := 2000000) only [↓reduceIte, wp_eq, wpd_eq, kont_eq, STP1, STP2, STP3, STP4, STP5, konM_eq, AMK, CZ, Option.map, List.getElem?_cons_zero, List.getElem?_cons_succ, List.mem_cons, List.not_mem_nil, if_false, if_true, Nat.reduceAdd, Nat.reduceLT, Nat.reduceLeDiff, Nat.reduceEqDiff, true_and, and_true, List.length_nil, List.length_cons, or_true, true_or, or_false, false_or, Option.some.injEq, Sum.inl.injEq, Sum.inr.injEq, exists_eq_left', exists_eq_left, Int.reduceLE, Int.reduceLT, Int.reduceNeg, Int.reduceAdd, Int.reduceMul, Int.reduceSub, Int.reduceToNat, inR, Nat.zero_ne_one, false_and, Nat.succ_ne_zero, reduceCtorEq, false_implies, true_implies, not_false_eq_true, not_true_eq_false, Int.reduceEq, KRE, C_Ledger_dropFirst, l0, hz]
      repeat (first | refine ⟨by omega, ?_⟩ | refine ⟨fun _ _ => okt_nn (by omega), ?_⟩)
      try (first | (show _ ≤ _; omega) | (show _ < _; omega))
      rw [show k + 1 = 40 by omega]
    · have t1 : ((1 : Int) + k).toNat = k + 1 := by omega
      have t2 : ((1 : Int) + k - 1).toNat = k := by omega
      refine wpm_of (cuts := [2]) (by decide) 200 _ _ _ _ ?_
      simp (maxSteps := 2000000) only [↓reduceIte, wp_eq, wpd_eq, kont_eq, STP1, STP2, STP3, STP4, STP5, konM_eq, AMK, CZ, Option.map, List.getElem?_cons_zero, List.getElem?_cons_succ, List.mem_cons, List.not_mem_nil, if_false, if_true, Nat.reduceAdd, Nat.reduceLT, Nat.reduceLeDiff, Nat.reduceEqDiff, true_and, and_true, List.length_nil, List.length_cons, or_true, true_or, or_false, false_or, Option.some.injEq, Sum.inl.injEq, Sum.inr.injEq, exists_eq_left', exists_eq_left, Int.reduceLE, Int.reduceLT, Int.reduceNeg, Int.reduceAdd, Int.reduceMul, Int.reduceSub, Int.reduceToNat, inR, Nat.zero_ne_one, false_and, Nat.succ_ne_zero, reduceCtorEq, false_implies, true_implies, not_false_eq_true, not_true_eq_false, Int.reduceEq, KRE, C_Ledger_dropFirst, l0, l1, l2, l3, l4, hz, t1, t2, MSE]
      repeat (first | refine ⟨by omega, ?_⟩ | refine ⟨fun _ _ => okt_nn (by omega), ?_⟩)
      try (first | (show _ ≤ _; omega) | (show _ < _; omega))
      refine WPm.eqL (K (by omega) _ _ ⟨rfl, rfl⟩) ?_ rfl ?_
      · rw [natI, Int.add_assoc]
      · have g : ∀ q, q < 4 → mDrp M o (k + 1) (o + 1 + q) (k + 1) = M (o + 1 + q) (k + 1) := fun q hq => if_neg (by omega)
        have g0 := g 0 (by omega)
        have g1 := g 1 (by omega)
        have g2 := g 2 (by omega)
        have g3 := g 3 (by omega)
        simp only [Nat.add_zero, Nat.add_assoc, Nat.reduceAdd] at g0 g1 g2 g3
        rw [g0, g1, g2, g3]
        funext b j
        simp only [mset, mDrp]
        by_cases hb : o + 1 ≤ b ∧ b < o + 5
        · rcases (show b = o + 1 ∨ b = o + 2 ∨ b = o + 3 ∨ b = o + 4 by omega) with rfl | rfl | rfl | rfl
          all_goals
            by_cases hj : j = k
            · subst hj
              simp
            · by_cases hj2 : j + 1 < k + 1
              · have : j + 1 < k + 1 + 1 := by omega
                simp [hj, hj2, this]
              · have : ¬ j + 1 < k + 1 + 1 := by omega
                simp [hj, hj2, this]
        · have n1 : ¬ b = o + 1 := by omega
          have n2 : ¬ b = o + 2 := by omega
          have n3 : ¬ b = o + 3 := by omega
          have n4 : ¬ b = o + 4 := by omega
          have n5 : ∀ z, ¬ (o + 1 ≤ b ∧ b < o + 5 ∧ z) := fun z q => hb ⟨q.1, q.2.1⟩
          simp [n1, n2, n3, n4, n5]
  · funext b j
    simp only [mDrp]
    rw [if_neg (by omega)]
/-- room for one more -/
def mLedR (M : Mm) (o : Nat) : Mm := if M o 4 < 40 then M else mset (mDrp M o 40) o 4 39
def mRec (M : Mm) (o : Nat) (a b c d : Int) : Mm := mset (mset (mset (mset (mset (mLedR M o) (o + 1) (mLedR M o o 4).toNat a) (o + 2) (mLedR M o o 4).toNat b) (o + 3) (mLedR M o o 4).toNat c) (o + 4) (mLedR M o o 4).toNat d) o 4 (mLedR M o o 4 + 1)
set_option maxHeartbeats 4000000 in
set_option maxRecDepth 20000 in
theorem Ledger_record_ok {o : Nat} {a b c d : Int} {M : Mm} (ho : isLed o) (h0 : 0 ≤ M o 4) (h4 : M o 4 ≤ 40) : CallV m_Ledger_record [.inr o, .inl a, .inl b, .inl c, .inl d] M (fun M' => M' = mRec M o a b c d) := by
  obtain ⟨l0, l1, l2, l3, l4⟩ := id ho
  unfold mRec
  have e : mLedR M o = if M o 4 < 40 then M else mset (mDrp M o 40) o 4 39 := rfl
  by_cases hc : M o 4 < 40
  · rw [if_pos hc] at e
    rw [e]
    have c1 : ¬ M o 4 < 0 := by omega
    have c2 : ¬ 40 ≤ M o 4 := by omega
    refine callP_of (by decide) (by decide) (Nat.le_of_ble_eq_true rfl) (wpm_of (cuts := []) (by decide) 100 _ _ _ _ ?_)
    rw [show lM m_Ledger_record = 5 from rfl]
    simp (maxSteps := 2000000) only [↓reduceIte, wp_eq, wpd_eq, kont_eq, STP1, STP2, STP3, STP4, STP5, konM_eq, AMK, CZ, Option.map, List.getElem?_cons_zero, List.getElem?_cons_succ, List.mem_cons, List.not_mem_nil, if_false, if_true, Nat.reduceAdd, Nat.reduceLT, Nat.reduceLeDiff, Nat.reduceEqDiff, true_and, and_true, List.length_nil, List.length_cons, or_true, true_or, or_false, false_or, Option.some.injEq, Sum.inl.injEq, Sum.inr.injEq, exists_eq_left', exists_eq_left, Int.reduceLE, Int.reduceLT, Int.reduceNeg, Int.reduceAdd, Int.reduceMul, Int.reduceSub, Int.reduceToNat, inR, Nat.zero_ne_one, false_and, Nat.succ_ne_zero, reduceCtorEq, false_implies, true_implies, not_false_eq_true, not_true_eq_false, Int.reduceEq, KRE, C_Ledger_record, l0, l1, l2, l3, l4, hc, c1, c2, MSE]
    repeat (first | refine ⟨by omega, ?_⟩ | refine ⟨fun _ _ => okt_nn (by omega), ?_⟩)
    try (first | (show _ ≤ _; omega) | (show _ < _; omega))
  · rw [if_neg hc] at e
    have e4 : mLedR M o o 4 = 39 := by rw [e]; simp [mset]
    rw [e4]
    rw [e]
    refine callP_of (by decide) (by decide) (Nat.le_of_ble_eq_true rfl) (wpm_of (cuts := []) (by decide) 100 _ _ _ _ ?_)
    rw [show lM m_Ledger_record = 5 from rfl]
    simp (maxSteps := 2000000) only [↓reduceIte, wp_eq, wpd_eq, kont_eq, STP1, STP2, STP3, STP4, STP5, konM_eq, AMK, CZ, Option.map, List.getElem?_cons_zero, List.getElem?_cons_succ, List.mem_cons, List.not_mem_nil, if_false, if_true, Nat.reduceAdd, Nat.reduceLT, Nat.reduceLeDiff, Nat.reduceEqDiff, true_and, and_true, List.length_nil, List.length_cons, or_true, true_or, or_false, false_or, Option.some.injEq, Sum.inl.injEq, Sum.inr.injEq, exists_eq_left', exists_eq_left, Int.reduceLE, Int.reduceLT, Int.reduceNeg, Int.reduceAdd, Int.reduceMul, Int.reduceSub, Int.reduceToNat, inR, Nat.zero_ne_one, false_and, Nat.succ_ne_zero, reduceCtorEq, false_implies, true_implies, not_false_eq_true, not_true_eq_false, Int.reduceEq, KRE, C_Ledger_record, l0, l1, l2, l3, l4, hc]
    repeat (first | refine ⟨by omega, ?_⟩ | refine ⟨fun _ _ => okt_nn (by omega), ?_⟩)
    try (first | (show _ ≤ _; omega) | (show _ < _; omega))
    refine (Ledger_dropFirst_ok ho).eq ?_
    simp (maxSteps := 2000000) only [↓reduceIte, wp_eq, wpd_eq, kont_eq, STP1, STP2, STP3, STP4, STP5, konM_eq, AMK, CZ, Option.map, List.getElem?_cons_zero, List.getElem?_cons_succ, List.mem_cons, List.not_mem_nil, if_false, if_true, Nat.reduceAdd, Nat.reduceLT, Nat.reduceLeDiff, Nat.reduceEqDiff, true_and, and_true, List.length_nil, List.length_cons, or_true, true_or, or_false, false_or, Option.some.injEq, Sum.inl.injEq, Sum.inr.injEq, exists_eq_left', exists_eq_left, Int.reduceLE, Int.reduceLT, Int.reduceNeg, Int.reduceAdd, Int.reduceMul, Int.reduceSub, Int.reduceToNat, inR, Nat.zero_ne_one, false_and, Nat.succ_ne_zero, reduceCtorEq, false_implies, true_implies, not_false_eq_true, not_true_eq_false, Int.reduceEq, KRE, C_Ledger_record, l0, l1, l2, l3, l4, MSE]
set_option maxHeartbeats 4000000 in
set_option maxRecDepth 20000 in
theorem Ledger_copyFrom_ok {o f : Nat} {M : Mm} (ho : isLed o) (hf : isLed f) (sep : o + 5 ≤ f ∨ f + 5 ≤ o) : CallV m_Ledger_copyFrom [.inr o, .inr f] M (fun M' => M' = mset (mCpR (mCpR (mCpR (mCpR M (o + 1) (f + 1) 40) (o + 2) (f + 2) 40) (o + 3) (f + 3) 40) (o + 4) (f + 4) 40) o 4 (M f 4)) := by
  obtain ⟨l0, l1, l2, l3, l4⟩ := ho
  obtain ⟨g0, g1, g2, g3, g4⟩ := hf
  refine callP_of (by decide) (by decide) (Nat.le_of_ble_eq_true rfl) (wpm_of (cuts := []) (by decide) 60 _ _ _ _ ?_)
  rw [show lM m_Ledger_copyFrom = 2 from rfl]
  simp (maxSteps := 2000000) only [↓reduceIte, wp_eq, wpd_eq, kont_eq, STP1, STP2, STP3, STP4, STP5, konM_eq, AMK, CZ, Option.map, List.getElem?_cons_zero, List.getElem?_cons_succ, List.mem_cons, List.not_mem_nil, if_false, if_true, Nat.reduceAdd, Nat.reduceLT, Nat.reduceLeDiff, Nat.reduceEqDiff, true_and, and_true, List.length_nil, List.length_cons, or_true, true_or, or_false, false_or, Option.some.injEq, Sum.inl.injEq, Sum.inr.injEq, exists_eq_left', exists_eq_left, Int.reduceLE, Int.reduceLT, Int.reduceNeg, Int.reduceAdd, Int.reduceMul, Int.reduceSub, Int.reduceToNat, inR, Nat.zero_ne_one, false_and, Nat.succ_ne_zero, reduceCtorEq, false_implies, true_implies, not_false_eq_true, not_true_eq_false, Int.reduceEq, KRE, C_Ledger_copyFrom, l0, g0]
  refine (RingDater_copyRow_ok (a := o + 1) (f := f + 1) (n := 40) l1 g1 (by omega) (by omega)).eq ?_
  refine (RingDater_copyRow_ok (a := o + 2) (f := f + 2) (n := 40) l2 g2 (by omega) (by omega)).eq ?_
  refine (RingDater_copyRow_ok (a := o + 3) (f := f + 3) (n := 40) l3 g3 (by omega) (by omega)).eq ?_
  refine (RingDater_copyRow_ok (a := o + 4) (f := f + 4) (n := 40) l4 g4 (by omega) (by omega)).eq ?_
  have e : mCpR (mCpR (mCpR (mCpR M (o + 1) (f + 1) 40) (o + 2) (f + 2) 40) (o + 3) (f + 3) 40) (o + 4) (f + 4) 40 f 4 = M f 4 := (if_neg (by omega)).trans ((if_neg (by omega)).trans ((if_neg (by omega)).trans (if_neg (by omega))))
  rw [e]
/-- the years of a set of timbers gone -/
def mUnd (M : Mm) (B : Int) (k : Nat) : Mm := fun b j => if b = 81 ∧ j < k ∧ (j : Int) < M 76 3 ∧ btI B j = true then -1 else M b j
set_option maxHeartbeats 4000000 in
set_option maxRecDepth 20000 in
theorem Ledger_undateAll_ok {B : Int} {M : Mm} (hw : wfS M 76) : CallV m_Ledger_undateAll [.inr 76, .inl B] M (fun M' => M' = mUnd M B 8) := by
  obtain ⟨l0, l1, l2, l3, l4⟩ := isStk_76
  have w0 := hw.1
  refine callP_of (by decide) (by decide) (Nat.le_of_ble_eq_true rfl) (wpm_of (cuts := [2]) (by decide) 50 _ _ _ _ ?_)
  rw [show lM m_Ledger_undateAll = 3 from rfl]
  simp (maxSteps := 2000000) only [↓reduceIte, wp_eq, wpd_eq, kont_eq, STP1, STP2, STP3, STP4, STP5, konM_eq, AMK, CZ, Option.map, List.getElem?_cons_zero, List.getElem?_cons_succ, List.mem_cons, List.not_mem_nil, if_false, if_true, Nat.reduceAdd, Nat.reduceLT, Nat.reduceLeDiff, Nat.reduceEqDiff, true_and, and_true, List.length_nil, List.length_cons, or_true, true_or, or_false, false_or, Option.some.injEq, Sum.inl.injEq, Sum.inr.injEq, exists_eq_left', exists_eq_left, Int.reduceLE, Int.reduceLT, Int.reduceNeg, Int.reduceAdd, Int.reduceMul, Int.reduceSub, Int.reduceToNat, inR, Nat.zero_ne_one, false_and, Nat.succ_ne_zero, reduceCtorEq, false_implies, true_implies, not_false_eq_true, not_true_eq_false, Int.reduceEq, KRE, C_Ledger_undateAll, l0]
  refine loopQ 8 (fun k ls M1 => M1 = mUnd M B k ∧ ls = [some (.inr 76), some (.inl B), some (.inl k)]) ?_ _ _ ⟨?_, rfl⟩
  · rintro k _ _ hk ⟨rfl, rfl⟩ K
    by_cases hz : (8 : Int) ≤ k
    · refine wpm_of (cuts := [2]) (by decide) 100 _ _ _ _ ?_
      simp (maxSteps := 2000000) only [↓reduceIte, wp_eq, wpd_eq, kont_eq, STP1, STP2, STP3, STP4, STP5, konM_eq, AMK, CZ, Option.map, List.getElem?_cons_zero, List.getElem?_cons_succ, List.mem_cons, List.not_mem_nil, if_false, if_true, Nat.reduceAdd, Nat.reduceLT, Nat.reduceLeDiff, Nat.reduceEqDiff, true_and, and_true, List.length_nil, List.length_cons, or_true, true_or, or_false, false_or, Option.some.injEq, Sum.inl.injEq, Sum.inr.injEq, exists_eq_left', exists_eq_left, Int.reduceLE, Int.reduceLT, Int.reduceNeg, Int.reduceAdd, Int.reduceMul, Int.reduceSub, Int.reduceToNat, inR, Nat.zero_ne_one, false_and, Nat.succ_ne_zero, reduceCtorEq, false_implies, true_implies, not_false_eq_true, not_true_eq_false, Int.reduceEq, KRE, C_Ledger_undateAll, l0, hz]
      repeat (first | refine ⟨by omega, ?_⟩ | refine ⟨fun _ _ => okt_nn (by omega), ?_⟩)
      try (first | (show _ ≤ _; omega) | (show _ < _; omega))
      rw [show k = 8 by omega]
    · have bt1 := bit_test B (k := k) (by omega)
      have K' := K (by omega) _ _ ⟨rfl, rfl⟩
      have e3 : mUnd M B k 76 3 = M 76 3 := if_neg (by omega)
      have hw1 : wfS (mUnd M B k) 76 := by
        obtain ⟨v0, v1, v2, v3, v4, v5, v6⟩ := hw
        have out : ∀ b j, b ≠ 81 → mUnd M B k b j = M b j := fun b j h => if_neg (fun z => h z.1)
        refine ⟨by rw [out 76 _ (by omega)]; exact v0, by rw [out 76 _ (by omega)]; exact v1, by rw [out 76 _ (by omega)]; exact v2, by rw [out 76 _ (by omega)]; exact v3, fun t ht => wfT_cells (fun b p1 p2 j => out b j (by omega)) (v4 t ht), wfT_cells (fun b p1 p2 j => out b j (by omega)) v5, fun t ht => ?_⟩
        have := v6 t ht
        simp only [mUnd, Nat.reduceAdd]
        split <;> omega
      cases hb : btI B k
      · rw [hb] at bt1
        refine wpm_of (cuts := [2]) (by decide) 100 _ _ _ _ ?_
        simp (maxSteps := 2000000) only [↓reduceIte, wp_eq, wpd_eq, kont_eq, STP1, STP2, STP3, STP4, STP5, konM_eq, AMK, CZ, Option.map, List.getElem?_cons_zero, List.getElem?_cons_succ, List.mem_cons, List.not_mem_nil, if_false, if_true, Nat.reduceAdd, Nat.reduceLT, Nat.reduceLeDiff, Nat.reduceEqDiff, true_and, and_true, List.length_nil, List.length_cons, or_true, true_or, or_false, false_or, Option.some.injEq, Sum.inl.injEq, Sum.inr.injEq, exists_eq_left', exists_eq_left, Int.reduceLE, Int.reduceLT, Int.reduceNeg, Int.reduceAdd, Int.reduceMul, Int.reduceSub, Int.reduceToNat, inR, Nat.zero_ne_one, false_and, Nat.succ_ne_zero, reduceCtorEq, false_implies, true_implies, not_false_eq_true, not_true_eq_false, Int.reduceEq, KRE, C_Ledger_undateAll, l0, hz, bt1, Bool.false_eq_true]
        repeat (first | refine ⟨by omega, ?_⟩ | refine ⟨fun _ _ => okt_nn (by omega), ?_⟩)
        try (first | (show _ ≤ _; omega) | (show _ < _; omega))
        refine WPm.eqM K' ?_
        funext b j
        simp only [mUnd]
        by_cases hj : j = k
        · subst hj
          simp [hb]
        · have : (j < k + 1) = (j < k) := propext ⟨fun z => by omega, fun z => by omega⟩
          simp [this]
      · rw [hb] at bt1
        refine wpm_of (cuts := [2]) (by decide) 100 _ _ _ _ ?_
        simp (maxSteps := 2000000) only [↓reduceIte, wp_eq, wpd_eq, kont_eq, STP1, STP2, STP3, STP4, STP5, konM_eq, AMK, CZ, Option.map, List.getElem?_cons_zero, List.getElem?_cons_succ, List.mem_cons, List.not_mem_nil, if_false, if_true, Nat.reduceAdd, Nat.reduceLT, Nat.reduceLeDiff, Nat.reduceEqDiff, true_and, and_true, List.length_nil, List.length_cons, or_true, true_or, or_false, false_or, Option.some.injEq, Sum.inl.injEq, Sum.inr.injEq, exists_eq_left', exists_eq_left, Int.reduceLE, Int.reduceLT, Int.reduceNeg, Int.reduceAdd, Int.reduceMul, Int.reduceSub, Int.reduceToNat, inR, Nat.zero_ne_one, false_and, Nat.succ_ne_zero, reduceCtorEq, false_implies, true_implies, not_false_eq_true, not_true_eq_false, Int.reduceEq, KRE, C_Ledger_undateAll, l0, hz, bt1]
        repeat (first | refine ⟨by omega, ?_⟩ | refine ⟨fun _ _ => okt_nn (by omega), ?_⟩)
        try (first | (show _ ≤ _; omega) | (show _ < _; omega))
        refine (Stock_setYear_ok (t := (k : Int)) isStk_76 ⟨by omega, by omega⟩ hw1).eq ?_
        refine WPm.eqM K' ?_
        rw [e3]
        funext b j
        by_cases hb81 : b = 81
        · subst hb81
          by_cases hj : j = k
          · subst hj
            by_cases hn : (j : Int) < M 76 3
            · have : 0 ≤ (j : Int) := by omega
              simp [mUnd, mset, hb, hn, this]
            · simp [mUnd, hn]
          · have e9 : (j < k + 1) = (j < k) := propext ⟨fun z => by omega, fun z => by omega⟩
            by_cases hn : (k : Int) < M 76 3
            · have : 0 ≤ (k : Int) := by omega
              simp [mUnd, mset, hn, this, hj, e9]
            · simp [mUnd, hn, e9]
        · by_cases hn : (k : Int) < M 76 3
          · have : 0 ≤ (k : Int) := by omega
            simp [mUnd, mset, hn, this, hb81]
          · simp [mUnd, hn, hb81]
  · funext b j
    simp only [mUnd]
    rw [if_neg (by omega)]
/-- an act taken back -/
def mTkB (M : Mm) (kind subj ring bef : Int) : Mm :=
  if kind = 0 then (if 0 ≤ subj ∧ subj < M 76 3 then mset M 81 subj.toNat bef else M)
  else if kind = 1 then mUnd M subj 8
  else if kind = 2 then (if 0 ≤ ring ∧ ring < M (tmA M 76 subj) 2 then mRem M (tmA M 76 subj) ring else M)
  else if kind = 3 then (if 0 ≤ ring ∧ ring ≤ M (tmA M 76 subj) 2 ∧ M (tmA M 76 subj) 2 < 24 then mIns M (tmA M 76 subj) ring bef else M)
  else if kind = 4 then (if 0 ≤ ring ∧ ring < M (tmA M 76 subj) 2 ∧ ring < 24 then mset M (tmA M 76 subj + 2) ring.toNat (1 - M (tmA M 76 subj + 2) ring.toNat) else M)
  else mset M (tmA M 76 subj) 5 bef
theorem mTkB_out {M : Mm} {kind subj ring bef : Int} (b j : Nat) (hw : wfS M 76) (h : b < 76 ∨ 106 ≤ b) : mTkB M kind subj ring bef b j = M b j := by
  have ha : 76 + 2 ≤ tmA M 76 subj ∧ tmA M 76 subj ≤ 103 := by
    have := hw.1
    unfold tmA
    split <;> omega
  unfold mTkB
  generalize tmA M 76 subj = o at *
  split
  · split
    · exact mset_ne _ (by omega) _
    · rfl
  · split
    · exact if_neg (by omega)
    · split
      · split
        · simp only [mRem]
          rw [if_neg (by omega), if_neg (by omega), if_neg (by omega)]
        · rfl
      · split
        · split
          · simp only [mIns]
            rw [if_neg (by omega), if_neg (by omega), if_neg (by omega), if_neg (by omega), if_neg (by omega)]
          · rfl
        · split
          · split
            · exact mset_ne _ (by omega) _
            · rfl
          · exact mset_ne _ (by omega) _
set_option maxHeartbeats 4000000 in
set_option maxRecDepth 20000 in
theorem Ledger_takeBack_ok {k : Nat} {kind subj ring bef : Int} {M : Mm} (hw : wfS M 76) (hk : M 106 4 = k + 1) (h40 : k < 40) (h0 : M 107 k = kind) (h1 : M 108 k = subj) (h2 : M 109 k = ring) (h3 : M 110 k = bef) (r0 : 0 ≤ kind ∧ kind ≤ 5) (r1 : inR subj) (r2 : inR ring) :
    CallI m_Ledger_takeBack [.inr 106, .inr 76] M (fun x M' => x = k ∧ M' = mTkB (mset M 106 4 k) kind subj ring bef) := by
  obtain ⟨l0, l1, l2, l3, l4⟩ := isLed_106
  have g0 := isStk_76.1
  have w0 := hw.1
  have c1 : ¬ (k : Int) + 1 < 1 := by omega
  have c2 : (k : Int) + 1 ≤ 40 := by omega
  have c3 : (k : Int) + 1 - 1 = k := by omega
  have out : ∀ b j, b ≠ 106 → mset M 106 4 k b j = M b j := fun b j h => mset_ne b h j
  have hw1 : wfS (mset M 106 4 k) 76 := wfS_cells (fun b p1 p2 j => out b j (by omega)) hw
  have eS : tmA (mset M 106 4 k) 76 subj = tmA M 76 subj := tmA_cells (out 76 3 (by omega))
  obtain ⟨t1, t2⟩ := tmA_tim (t := subj) isStk_76 hw1
  have i4 : mset M 106 4 k 106 4 = k := if_pos ⟨rfl, rfl⟩
  have q0 : mset M 106 4 k 107 k = kind := (out 107 k (by omega)).trans h0
  have q2 : mset M 106 4 k 109 k = ring := (out 109 k (by omega)).trans h2
  have q3 : mset M 106 4 k 110 k = bef := (out 110 k (by omega)).trans h3
  have fin : mTkB (mset M 106 4 k) kind subj ring bef 106 4 = k := (mTkB_out 106 4 hw1 (by omega)).trans i4
  refine callP_of (by decide) (by decide) (Nat.le_of_ble_eq_true rfl) (wpm_of (cuts := [183]) (by decide) 100 _ _ _ _ ?_)
  rw [show lM m_Ledger_takeBack = 4 from rfl]
  simp (maxSteps := 2000000) only [↓reduceIte, wp_eq, wpd_eq, kont_eq, STP1, STP2, STP3, STP4, STP5, konM_eq, AMK, CZ, Option.map, List.getElem?_cons_zero, List.getElem?_cons_succ, List.mem_cons, List.not_mem_nil, if_false, if_true, Nat.reduceAdd, Nat.reduceLT, Nat.reduceLeDiff, Nat.reduceEqDiff, true_and, and_true, List.length_nil, List.length_cons, or_true, true_or, or_false, false_or, Option.some.injEq, Sum.inl.injEq, Sum.inr.injEq, exists_eq_left', exists_eq_left, Int.reduceLE, Int.reduceLT, Int.reduceNeg, Int.reduceAdd, Int.reduceMul, Int.reduceSub, Int.reduceToNat, inR, Nat.zero_ne_one, false_and, Nat.succ_ne_zero, reduceCtorEq, false_implies, true_implies, not_false_eq_true, not_true_eq_false, Int.reduceEq, KRE, C_Ledger_takeBack, l0, l1, l2, l3, l4, g0, hk, c1, c2, c3, MSE, natT, h1]
  repeat (first | refine ⟨by omega, ?_⟩ | refine ⟨fun _ _ => okt_nn (by omega), ?_⟩)
  try (first | (show _ ≤ _; omega) | (show _ < _; omega))
  refine (Stock_timberAt_ok (t := subj) isStk_76 r1 hw1).eq ?_
  have done : ∀ (M2 : Mm) a2 a3, M2 = mTkB (mset M 106 4 k) kind subj ring bef → WPm m_Ledger_takeBack (fun v M' => ∃ x, v = some (.inl x) ∧ x = k ∧ M' = mTkB (mset M 106 4 k) kind subj ring bef) 183 [some (.inr 106), some (.inr 76), a2, a3] [] M2 := by
    intro M2 a2 a3 e
    subst e
    refine wpm_of (cuts := []) (by decide) 100 _ _ _ _ ?_
    simp (maxSteps := 2000000) only [↓reduceIte, wp_eq, wpd_eq, kont_eq, STP1, STP2, STP3, STP4, STP5, konM_eq, AMK, CZ, Option.map, List.getElem?_cons_zero, List.getElem?_cons_succ, List.mem_cons, List.not_mem_nil, if_false, if_true, Nat.reduceAdd, Nat.reduceLT, Nat.reduceLeDiff, Nat.reduceEqDiff, true_and, and_true, List.length_nil, List.length_cons, or_true, true_or, or_false, false_or, Option.some.injEq, Sum.inl.injEq, Sum.inr.injEq, exists_eq_left', exists_eq_left, Int.reduceLE, Int.reduceLT, Int.reduceNeg, Int.reduceAdd, Int.reduceMul, Int.reduceSub, Int.reduceToNat, inR, Nat.zero_ne_one, false_and, Nat.succ_ne_zero, reduceCtorEq, false_implies, true_implies, not_false_eq_true, not_true_eq_false, Int.reduceEq, KRE, C_Ledger_takeBack, l0, fin]
  generalize mset M 106 4 k = M1 at *
  unfold mTkB at done
  rcases (show kind = 0 ∨ kind = 1 ∨ kind = 2 ∨ kind = 3 ∨ kind = 4 ∨ kind = 5 by omega) with e | e | e | e | e | e
  · subst e
    simp (maxSteps := 2000000) only [↓reduceIte, wp_eq, wpd_eq, kont_eq, STP1, STP2, STP3, STP4, STP5, konM_eq, AMK, CZ, Option.map, List.getElem?_cons_zero, List.getElem?_cons_succ, List.mem_cons, List.not_mem_nil, if_false, if_true, Nat.reduceAdd, Nat.reduceLT, Nat.reduceLeDiff, Nat.reduceEqDiff, true_and, and_true, List.length_nil, List.length_cons, or_true, true_or, or_false, false_or, Option.some.injEq, Sum.inl.injEq, Sum.inr.injEq, exists_eq_left', exists_eq_left, Int.reduceLE, Int.reduceLT, Int.reduceNeg, Int.reduceAdd, Int.reduceMul, Int.reduceSub, Int.reduceToNat, inR, Nat.zero_ne_one, false_and, Nat.succ_ne_zero, reduceCtorEq, false_implies, true_implies, not_false_eq_true, not_true_eq_false, Int.reduceEq, KRE, C_Ledger_takeBack, l0, l1, l2, l3, l4, g0, i4, natT, q0, q3]
    repeat (first | refine ⟨by omega, ?_⟩ | refine ⟨fun _ _ => okt_nn (by omega), ?_⟩)
    try (first | (show _ ≤ _; omega) | (show _ < _; omega))
    refine (Stock_setYear_ok (t := subj) isStk_76 r1 hw1).eq ?_
    exact done _ _ _ rfl
  · subst e
    simp (maxSteps := 2000000) only [↓reduceIte, wp_eq, wpd_eq, kont_eq, STP1, STP2, STP3, STP4, STP5, konM_eq, AMK, CZ, Option.map, List.getElem?_cons_zero, List.getElem?_cons_succ, List.mem_cons, List.not_mem_nil, if_false, if_true, Nat.reduceAdd, Nat.reduceLT, Nat.reduceLeDiff, Nat.reduceEqDiff, true_and, and_true, List.length_nil, List.length_cons, or_true, true_or, or_false, false_or, Option.some.injEq, Sum.inl.injEq, Sum.inr.injEq, exists_eq_left', exists_eq_left, Int.reduceLE, Int.reduceLT, Int.reduceNeg, Int.reduceAdd, Int.reduceMul, Int.reduceSub, Int.reduceToNat, inR, Nat.zero_ne_one, false_and, Nat.succ_ne_zero, reduceCtorEq, false_implies, true_implies, not_false_eq_true, not_true_eq_false, Int.reduceEq, KRE, C_Ledger_takeBack, l0, l1, l2, l3, l4, g0, i4, natT, q0, q3]
    repeat (first | refine ⟨by omega, ?_⟩ | refine ⟨fun _ _ => okt_nn (by omega), ?_⟩)
    try (first | (show _ ≤ _; omega) | (show _ < _; omega))
    refine (Ledger_undateAll_ok hw1).eq ?_
    exact done _ _ _ (by simp)
  · subst e
    simp (maxSteps := 2000000) only [↓reduceIte, wp_eq, wpd_eq, kont_eq, STP1, STP2, STP3, STP4, STP5, konM_eq, AMK, CZ, Option.map, List.getElem?_cons_zero, List.getElem?_cons_succ, List.mem_cons, List.not_mem_nil, if_false, if_true, Nat.reduceAdd, Nat.reduceLT, Nat.reduceLeDiff, Nat.reduceEqDiff, true_and, and_true, List.length_nil, List.length_cons, or_true, true_or, or_false, false_or, Option.some.injEq, Sum.inl.injEq, Sum.inr.injEq, exists_eq_left', exists_eq_left, Int.reduceLE, Int.reduceLT, Int.reduceNeg, Int.reduceAdd, Int.reduceMul, Int.reduceSub, Int.reduceToNat, inR, Nat.zero_ne_one, false_and, Nat.succ_ne_zero, reduceCtorEq, false_implies, true_implies, not_false_eq_true, not_true_eq_false, Int.reduceEq, KRE, C_Ledger_takeBack, l0, l1, l2, l3, l4, g0, i4, natT, q0, q2, t1.1]
    repeat (first | refine ⟨by omega, ?_⟩ | refine ⟨fun _ _ => okt_nn (by omega), ?_⟩)
    try (first | (show _ ≤ _; omega) | (show _ < _; omega))
    refine (Timber_removeRing_ok t1 r2 t2).eq ?_
    exact done _ _ _ (by simp)
  · subst e
    simp (maxSteps := 2000000) only [↓reduceIte, wp_eq, wpd_eq, kont_eq, STP1, STP2, STP3, STP4, STP5, konM_eq, AMK, CZ, Option.map, List.getElem?_cons_zero, List.getElem?_cons_succ, List.mem_cons, List.not_mem_nil, if_false, if_true, Nat.reduceAdd, Nat.reduceLT, Nat.reduceLeDiff, Nat.reduceEqDiff, true_and, and_true, List.length_nil, List.length_cons, or_true, true_or, or_false, false_or, Option.some.injEq, Sum.inl.injEq, Sum.inr.injEq, exists_eq_left', exists_eq_left, Int.reduceLE, Int.reduceLT, Int.reduceNeg, Int.reduceAdd, Int.reduceMul, Int.reduceSub, Int.reduceToNat, inR, Nat.zero_ne_one, false_and, Nat.succ_ne_zero, reduceCtorEq, false_implies, true_implies, not_false_eq_true, not_true_eq_false, Int.reduceEq, KRE, C_Ledger_takeBack, l0, l1, l2, l3, l4, g0, i4, natT, q0, q2, q3, t1.1]
    repeat (first | refine ⟨by omega, ?_⟩ | refine ⟨fun _ _ => okt_nn (by omega), ?_⟩)
    try (first | (show _ ≤ _; omega) | (show _ < _; omega))
    refine (Timber_insertRing_ok t1 r2 t2).eq ?_
    exact done _ _ _ (by simp)
  · subst e
    simp (maxSteps := 2000000) only [↓reduceIte, wp_eq, wpd_eq, kont_eq, STP1, STP2, STP3, STP4, STP5, konM_eq, AMK, CZ, Option.map, List.getElem?_cons_zero, List.getElem?_cons_succ, List.mem_cons, List.not_mem_nil, if_false, if_true, Nat.reduceAdd, Nat.reduceLT, Nat.reduceLeDiff, Nat.reduceEqDiff, true_and, and_true, List.length_nil, List.length_cons, or_true, true_or, or_false, false_or, Option.some.injEq, Sum.inl.injEq, Sum.inr.injEq, exists_eq_left', exists_eq_left, Int.reduceLE, Int.reduceLT, Int.reduceNeg, Int.reduceAdd, Int.reduceMul, Int.reduceSub, Int.reduceToNat, inR, Nat.zero_ne_one, false_and, Nat.succ_ne_zero, reduceCtorEq, false_implies, true_implies, not_false_eq_true, not_true_eq_false, Int.reduceEq, KRE, C_Ledger_takeBack, l0, l1, l2, l3, l4, g0, i4, natT, q0, q2, t1.1]
    repeat (first | refine ⟨by omega, ?_⟩ | refine ⟨fun _ _ => okt_nn (by omega), ?_⟩)
    try (first | (show _ ≤ _; omega) | (show _ < _; omega))
    refine (Timber_turnDoubt_ok t1 r2 t2).eq ?_
    exact done _ _ _ (by simp)
  · subst e
    simp (maxSteps := 2000000) only [↓reduceIte, wp_eq, wpd_eq, kont_eq, STP1, STP2, STP3, STP4, STP5, konM_eq, AMK, CZ, Option.map, List.getElem?_cons_zero, List.getElem?_cons_succ, List.mem_cons, List.not_mem_nil, if_false, if_true, Nat.reduceAdd, Nat.reduceLT, Nat.reduceLeDiff, Nat.reduceEqDiff, true_and, and_true, List.length_nil, List.length_cons, or_true, true_or, or_false, false_or, Option.some.injEq, Sum.inl.injEq, Sum.inr.injEq, exists_eq_left', exists_eq_left, Int.reduceLE, Int.reduceLT, Int.reduceNeg, Int.reduceAdd, Int.reduceMul, Int.reduceSub, Int.reduceToNat, inR, Nat.zero_ne_one, false_and, Nat.succ_ne_zero, reduceCtorEq, false_implies, true_implies, not_false_eq_true, not_true_eq_false, Int.reduceEq, KRE, C_Ledger_takeBack, l0, l1, l2, l3, l4, g0, i4, natT, q0, q3, t1.1]
    repeat (first | refine ⟨by omega, ?_⟩ | refine ⟨fun _ _ => okt_nn (by omega), ?_⟩)
    try (first | (show _ ≤ _; omega) | (show _ < _; omega))
    exact done _ _ _ (by simp)
