/-! THE CLASS'S OWN HELPERS, 2. -/
def cntP (T : Nat → Rw) (Y : Nat → Int) (n k : Nat) : Int := sumN (fun y => if ptr T Y y n ≠ 0 then 1 else 0) k
theorem ptr_out {T : Nat → Rw} {Y : Nat → Int} {n : Nat} {y : Int} (h : okC T Y n) (hy : (cSpan T Y (-1) n).1 = -1 ∨ y < (cSpan T Y (-1) n).1 ∨ (cSpan T Y (-1) n).2 < y) : ptr T Y y n = 0 := by
  have sp := (cSpan_in (wo := -1) h).2
  have e : pAll T Y y n = 0 := by
    have : pAll T Y y n = sumN (fun _ => 0) n := sumN_congr (fun t ht => if_neg (fun z => by
      have := sp t ht (by omega) z.1
      omega))
    rw [this]
    clear this sp h hy
    induction n with
    | zero => rfl
    | succ n ih => rw [sumN, ih]; rfl
  unfold ptr
  rw [if_pos (by omega)]
theorem ptr_v (T : Nat → Rw) (Y : Nat → Int) (y : Int) (n : Nat) : ptr T Y y n = 0 ∨ ptr T Y y n = 1 ∨ ptr T Y y n = -1 := by
  unfold ptr
  split
  · exact Or.inl rfl
  · split
    · exact Or.inr (Or.inl rfl)
    · split
      · exact Or.inr (Or.inr rfl)
      · exact Or.inl rfl
theorem cntP_same {T : Nat → Rw} {Y : Nat → Int} {n a b : Nat} (hab : a ≤ b) (h : ∀ y, a ≤ y → y < b → ptr T Y y n = 0) : cntP T Y n b = cntP T Y n a := by
  induction b with
  | zero =>
    obtain rfl : a = 0 := by omega
    rfl
  | succ b ih =>
    by_cases e : a = b + 1
    · rw [e]
    · unfold cntP at *
      rw [sumN, ih (by omega) (fun y h1 h2 => h y h1 (by omega)), if_neg (fun z => z (h b (by omega) (by omega)))]
      omega
theorem cntP_in (T : Nat → Rw) (Y : Nat → Int) (n k : Nat) : 0 ≤ cntP T Y n k ∧ cntP T Y n k ≤ k := by
  have := sumN_in (f := fun y => if ptr T Y (y : Nat) n ≠ 0 then 1 else 0) (a := 0) (b := 1) (n := k) (fun j hj => by split <;> omega)
  unfold cntP
  omega
theorem cntP_0 {T : Nat → Rw} {Y : Nat → Int} {n k : Nat} (h : ∀ y, y < k → ptr T Y (y : Nat) n = 0) : cntP T Y n k = 0 := cntP_same (a := 0) (by omega) (fun y _ hy => h y hy)
theorem cntP_succ {T : Nat → Rw} {Y : Nat → Int} {n k : Nat} : cntP T Y n (k + 1) = cntP T Y n k + if ptr T Y k n ≠ 0 then 1 else 0 := rfl
theorem cntP_mono {T : Nat → Rw} {Y : Nat → Int} {n a b : Nat} (h : a ≤ b) : cntP T Y n a ≤ cntP T Y n b := by
  induction b with
  | zero =>
    obtain rfl : a = 0 := by omega
    exact Int.le_refl _
  | succ b ih =>
    by_cases e : a = b + 1
    · rw [e]; exact Int.le_refl _
    · have := ih (by omega)
      rw [cntP_succ]
      split <;> omega
/-- the i-th pointer's year -/
def isPy (T : Nat → Rw) (Y : Nat → Int) (n : Nat) (i x : Int) : Prop := (∃ y : Nat, y < 1000 ∧ ptr T Y y n ≠ 0 ∧ cntP T Y n y = i ∧ x = y) ∨ (x = -1 ∧ ∀ y : Nat, y < 1000 → ptr T Y y n ≠ 0 → cntP T Y n y ≠ i)
theorem isPy_u {T : Nat → Rw} {Y : Nat → Int} {n : Nat} {i x z : Int} (h : isPy T Y n i x) (g : isPy T Y n i z) : x = z := by
  rcases h with ⟨y, h1, h2, h3, rfl⟩ | ⟨rfl, h⟩
  · rcases g with ⟨w, g1, g2, g3, rfl⟩ | ⟨rfl, g⟩
    · rcases Nat.lt_trichotomy y w with l | l | l
      · have a := cntP_mono (T := T) (Y := Y) (n := n) (show y + 1 ≤ w from l)
        rw [cntP_succ, if_pos h2] at a
        omega
      · rw [l]
      · have a := cntP_mono (T := T) (Y := Y) (n := n) (show w + 1 ≤ y from l)
        rw [cntP_succ, if_pos g2] at a
        omega
    · exact absurd h3 (g y h1 h2)
  · rcases g with ⟨w, g1, g2, g3, rfl⟩ | ⟨rfl, g⟩
    · exact absurd g3 (h w g1 g2)
    · rfl
theorem ptr_cls {n : Nat} {T : Nat → Rw} {Y : Nat → Int} {lap bnd mrg y : Int} {M : Mm} (h : cls M n T Y lap bnd mrg) (hy : -10 ≤ y ∧ y ≤ 2000) : CallI m_Stock_pointerStep [.inr 76, .inl y] M (fun x M' => x = ptr T Y y n ∧ M' = M) := by
  obtain ⟨s1, s2, s3, s4⟩ := cls_st h
  have := Stock_pointerStep_ok (s := 76) (y := y) isStk_76 s1 hy
  rw [s3, ptr_congr s4] at this
  exact this
set_option maxHeartbeats 600000 in
set_option maxRecDepth 20000 in
theorem RingDater_countPointers_ok {n : Nat} {T : Nat → Rw} {Y : Nat → Int} {lap bnd mrg : Int} {M : Mm} (h : cls M n T Y lap bnd mrg) : CallI m_RingDater_countPointers [.inr 0] M (fun x M' => x = cntP T Y n 1000 ∧ cls M' n T Y lap bnd mrg ∧ FrP scrF M M') := by
  have k0 : kc (lay 0) 11 = True := FR.1
  have l0 := isStk_76.1
  refine callP_of (by decide) (by decide) (Nat.le_of_ble_eq_true rfl) (wpm_of (cuts := [18]) (by decide) 50 _ _ _ _ ?_)
  rw [show lM m_RingDater_countPointers = 3 from rfl]
  simp (maxSteps := 2000000) only [↓reduceIte, wp_eq, wpd_eq, kont_eq, STP1, STP2, STP3, STP4, STP5, konM_eq, AMK, CZ, Option.map, List.getElem?_cons_zero, List.getElem?_cons_succ, List.mem_cons, List.not_mem_nil, if_false, if_true, Nat.reduceAdd, Nat.reduceLT, Nat.reduceLeDiff, Nat.reduceEqDiff, true_and, and_true, List.length_nil, List.length_cons, or_true, true_or, or_false, false_or, Option.some.injEq, Sum.inl.injEq, Sum.inr.injEq, exists_eq_left', exists_eq_left, Int.reduceLE, Int.reduceLT, Int.reduceNeg, Int.reduceAdd, Int.reduceMul, Int.reduceSub, Int.reduceToNat, inR, Nat.zero_ne_one, false_and, Nat.succ_ne_zero, reduceCtorEq, false_implies, true_implies, not_false_eq_true, not_true_eq_false, Int.reduceEq, KRE, C_RingDater_countPointers, FR, FB, k0, l0]
  refine (RingDater_layChronology_ok h).mono (fun M1 z => ?_)
  obtain ⟨z1, z2, z3, z4, z5⟩ := z
  have k76 : kc (lay 76) 8 = True := by rw [l0]; exact eq_true rfl
  have sp := (cSpan_in (wo := -1) h.2.2.2.2.2.2).1
  have po := fun y => ptr_out (y := y) h.2.2.2.2.2.2
  generalize (cSpan T Y (-1) n).1 = f at *
  generalize (cSpan T Y (-1) n).2 = g at *
  simp (maxSteps := 2000000) only [↓reduceIte, wp_eq, wpd_eq, kont_eq, STP1, STP2, STP3, STP4, STP5, konM_eq, AMK, CZ, Option.map, List.getElem?_cons_zero, List.getElem?_cons_succ, List.mem_cons, List.not_mem_nil, if_false, if_true, Nat.reduceAdd, Nat.reduceLT, Nat.reduceLeDiff, Nat.reduceEqDiff, true_and, and_true, List.length_nil, List.length_cons, or_true, true_or, or_false, false_or, Option.some.injEq, Sum.inl.injEq, Sum.inr.injEq, exists_eq_left', exists_eq_left, Int.reduceLE, Int.reduceLT, Int.reduceNeg, Int.reduceAdd, Int.reduceMul, Int.reduceSub, Int.reduceToNat, inR, Nat.zero_ne_one, false_and, Nat.succ_ne_zero, reduceCtorEq, false_implies, true_implies, not_false_eq_true, not_true_eq_false, Int.reduceEq, KRE, C_RingDater_countPointers, FR, FB, z2]
  repeat (first | refine ⟨by omega, ?_⟩ | refine ⟨fun _ _ => okt_nn (by omega), ?_⟩)
  try (first | (show _ ≤ _; omega) | (show _ < _; omega))
  refine loopQ (g + 1 - max 0 f).toNat (fun k ls M2 => M1 = M2 ∧ ls = [some (.inr 0), some (.inl (cntP T Y n ((max 0 f).toNat + k))), some (.inl ((max 0 f).toNat + k : Nat))]) ?_ _ _ ⟨rfl, ?_⟩
  · rintro k _ _ hk ⟨rfl, rfl⟩ K
    generalize hy : (max 0 f).toNat + k = y at *
    by_cases hz : g < (y : Int)
    · refine wpm_of (cuts := [18]) (by decide) 100 _ _ _ _ ?_
      simp (maxSteps := 2000000) only [↓reduceIte, wp_eq, wpd_eq, kont_eq, STP1, STP2, STP3, STP4, STP5, konM_eq, AMK, CZ, Option.map, List.getElem?_cons_zero, List.getElem?_cons_succ, List.mem_cons, List.not_mem_nil, if_false, if_true, Nat.reduceAdd, Nat.reduceLT, Nat.reduceLeDiff, Nat.reduceEqDiff, true_and, and_true, List.length_nil, List.length_cons, or_true, true_or, or_false, false_or, Option.some.injEq, Sum.inl.injEq, Sum.inr.injEq, exists_eq_left', exists_eq_left, Int.reduceLE, Int.reduceLT, Int.reduceNeg, Int.reduceAdd, Int.reduceMul, Int.reduceSub, Int.reduceToNat, inR, Nat.zero_ne_one, false_and, Nat.succ_ne_zero, reduceCtorEq, false_implies, true_implies, not_false_eq_true, not_true_eq_false, Int.reduceEq, KRE, C_RingDater_countPointers, FR, FB, z3, hz]
      repeat (first | refine ⟨by omega, ?_⟩ | refine ⟨fun _ _ => okt_nn (by omega), ?_⟩)
      try (first | (show _ ≤ _; omega) | (show _ < _; omega))
      exact ⟨(cntP_same (b := 1000) (by omega) (fun w p1 p2 => po w (by omega))).symm, z4, z5⟩
    · have hz2 : ¬ (924 : Int) ≤ y := by omega
      have K' := K (by omega) _ _ ⟨rfl, rfl⟩
      rw [← Nat.add_assoc, hy, cntP_succ (k := y)] at K'
      have pv := ptr_v T Y y n
      refine wpm_of (cuts := [18]) (by decide) 100 _ _ _ _ ?_
      simp (maxSteps := 2000000) only [↓reduceIte, wp_eq, wpd_eq, kont_eq, STP1, STP2, STP3, STP4, STP5, konM_eq, AMK, CZ, Option.map, List.getElem?_cons_zero, List.getElem?_cons_succ, List.mem_cons, List.not_mem_nil, if_false, if_true, Nat.reduceAdd, Nat.reduceLT, Nat.reduceLeDiff, Nat.reduceEqDiff, true_and, and_true, List.length_nil, List.length_cons, or_true, true_or, or_false, false_or, Option.some.injEq, Sum.inl.injEq, Sum.inr.injEq, exists_eq_left', exists_eq_left, Int.reduceLE, Int.reduceLT, Int.reduceNeg, Int.reduceAdd, Int.reduceMul, Int.reduceSub, Int.reduceToNat, inR, Nat.zero_ne_one, false_and, Nat.succ_ne_zero, reduceCtorEq, false_implies, true_implies, not_false_eq_true, not_true_eq_false, Int.reduceEq, KRE, C_RingDater_countPointers, FR, FB, z3, hz, hz2, k76]
      repeat (first | refine ⟨by omega, ?_⟩ | refine ⟨fun _ _ => okt_nn (by omega), ?_⟩)
      try (first | (show _ ≤ _; omega) | (show _ < _; omega))
      refine (ptr_cls (y := (y : Int)) z4 (by omega)).eq ?_
      by_cases c : ptr T Y y n = 0
      · rw [if_neg (fun z => z c)] at K'
        have c' := eq_true c
        simp (maxSteps := 2000000) only [↓reduceIte, wp_eq, wpd_eq, kont_eq, STP1, STP2, STP3, STP4, STP5, konM_eq, AMK, CZ, Option.map, List.getElem?_cons_zero, List.getElem?_cons_succ, List.mem_cons, List.not_mem_nil, if_false, if_true, Nat.reduceAdd, Nat.reduceLT, Nat.reduceLeDiff, Nat.reduceEqDiff, true_and, and_true, List.length_nil, List.length_cons, or_true, true_or, or_false, false_or, Option.some.injEq, Sum.inl.injEq, Sum.inr.injEq, exists_eq_left', exists_eq_left, Int.reduceLE, Int.reduceLT, Int.reduceNeg, Int.reduceAdd, Int.reduceMul, Int.reduceSub, Int.reduceToNat, inR, Nat.zero_ne_one, false_and, Nat.succ_ne_zero, reduceCtorEq, false_implies, true_implies, not_false_eq_true, not_true_eq_false, Int.reduceEq, KRE, C_RingDater_countPointers, c']
        repeat (first | refine ⟨by omega, ?_⟩ | refine ⟨fun _ _ => okt_nn (by omega), ?_⟩)
        try (first | (show _ ≤ _; omega) | (show _ < _; omega))
        rw [Int.add_zero] at K'
        exact K'
      · rw [if_pos c] at K'
        have c' := eq_false c
        simp (maxSteps := 2000000) only [↓reduceIte, wp_eq, wpd_eq, kont_eq, STP1, STP2, STP3, STP4, STP5, konM_eq, AMK, CZ, Option.map, List.getElem?_cons_zero, List.getElem?_cons_succ, List.mem_cons, List.not_mem_nil, if_false, if_true, Nat.reduceAdd, Nat.reduceLT, Nat.reduceLeDiff, Nat.reduceEqDiff, true_and, and_true, List.length_nil, List.length_cons, or_true, true_or, or_false, false_or, Option.some.injEq, Sum.inl.injEq, Sum.inr.injEq, exists_eq_left', exists_eq_left, Int.reduceLE, Int.reduceLT, Int.reduceNeg, Int.reduceAdd, Int.reduceMul, Int.reduceSub, Int.reduceToNat, inR, Nat.zero_ne_one, false_and, Nat.succ_ne_zero, reduceCtorEq, false_implies, true_implies, not_false_eq_true, not_true_eq_false, Int.reduceEq, KRE, C_RingDater_countPointers, c']
        repeat (first | refine ⟨by omega, ?_⟩ | refine ⟨fun _ _ => okt_nn (by omega), ?_⟩)
        try (first | (show _ ≤ _; omega) | (show _ < _; omega))
        exact K'
  · rw [Nat.add_zero, cntP_0 (fun w hw => po w (by omega))]
    simp
set_option maxHeartbeats 600000 in
set_option maxRecDepth 20000 in
theorem RingDater_pointerYear_ok {n : Nat} {T : Nat → Rw} {Y : Nat → Int} {lap bnd mrg i : Int} {M : Mm} (h : cls M n T Y lap bnd mrg) (hi : inR i) : CallI m_RingDater_pointerYear [.inr 0, .inl i] M (fun x M' => isPy T Y n i x ∧ cls M' n T Y lap bnd mrg ∧ FrP scrF M M') := by
  have k0 : kc (lay 0) 11 = True := FR.1
  have l0 := isStk_76.1
  simp only [inR] at hi
  refine callP_of (by decide) (by decide) (Nat.le_of_ble_eq_true rfl) (wpm_of (cuts := [18]) (by decide) 50 _ _ _ _ ?_)
  rw [show lM m_RingDater_pointerYear = 4 from rfl]
  simp (maxSteps := 2000000) only [↓reduceIte, wp_eq, wpd_eq, kont_eq, STP1, STP2, STP3, STP4, STP5, konM_eq, AMK, CZ, Option.map, List.getElem?_cons_zero, List.getElem?_cons_succ, List.mem_cons, List.not_mem_nil, if_false, if_true, Nat.reduceAdd, Nat.reduceLT, Nat.reduceLeDiff, Nat.reduceEqDiff, true_and, and_true, List.length_nil, List.length_cons, or_true, true_or, or_false, false_or, Option.some.injEq, Sum.inl.injEq, Sum.inr.injEq, exists_eq_left', exists_eq_left, Int.reduceLE, Int.reduceLT, Int.reduceNeg, Int.reduceAdd, Int.reduceMul, Int.reduceSub, Int.reduceToNat, inR, Nat.zero_ne_one, false_and, Nat.succ_ne_zero, reduceCtorEq, false_implies, true_implies, not_false_eq_true, not_true_eq_false, Int.reduceEq, KRE, C_RingDater_pointerYear, FR, FB, k0, l0]
  refine (RingDater_layChronology_ok h).mono (fun M1 z => ?_)
  obtain ⟨z1, z2, z3, z4, z5⟩ := z
  have k76 : kc (lay 76) 8 = True := by rw [l0]; exact eq_true rfl
  have sp := (cSpan_in (wo := -1) h.2.2.2.2.2.2).1
  have po := fun y => ptr_out (y := y) h.2.2.2.2.2.2
  generalize (cSpan T Y (-1) n).1 = f at *
  generalize (cSpan T Y (-1) n).2 = g at *
  simp (maxSteps := 2000000) only [↓reduceIte, wp_eq, wpd_eq, kont_eq, STP1, STP2, STP3, STP4, STP5, konM_eq, AMK, CZ, Option.map, List.getElem?_cons_zero, List.getElem?_cons_succ, List.mem_cons, List.not_mem_nil, if_false, if_true, Nat.reduceAdd, Nat.reduceLT, Nat.reduceLeDiff, Nat.reduceEqDiff, true_and, and_true, List.length_nil, List.length_cons, or_true, true_or, or_false, false_or, Option.some.injEq, Sum.inl.injEq, Sum.inr.injEq, exists_eq_left', exists_eq_left, Int.reduceLE, Int.reduceLT, Int.reduceNeg, Int.reduceAdd, Int.reduceMul, Int.reduceSub, Int.reduceToNat, inR, Nat.zero_ne_one, false_and, Nat.succ_ne_zero, reduceCtorEq, false_implies, true_implies, not_false_eq_true, not_true_eq_false, Int.reduceEq, KRE, C_RingDater_pointerYear, FR, FB, z2]
  repeat (first | refine ⟨by omega, ?_⟩ | refine ⟨fun _ _ => okt_nn (by omega), ?_⟩)
  try (first | (show _ ≤ _; omega) | (show _ < _; omega))
  refine loopQ (g + 1 - max 0 f).toNat (fun k ls M2 => M1 = M2 ∧ (∀ w : Nat, w < (max 0 f).toNat + k → ptr T Y w n ≠ 0 → cntP T Y n w ≠ i) ∧ ls = [some (.inr 0), some (.inl i), some (.inl (cntP T Y n ((max 0 f).toNat + k))), some (.inl ((max 0 f).toNat + k : Nat))]) ?_ _ _ ⟨rfl, fun w hw c => absurd (po w (by omega)) c, ?_⟩
  · rintro k _ _ hk ⟨rfl, hI, rfl⟩ K
    generalize hy : (max 0 f).toNat + k = y at *
    have cy := cntP_in T Y n y
    by_cases hz : g < (y : Int)
    · refine wpm_of (cuts := [18]) (by decide) 100 _ _ _ _ ?_
      simp (maxSteps := 2000000) only [↓reduceIte, wp_eq, wpd_eq, kont_eq, STP1, STP2, STP3, STP4, STP5, konM_eq, AMK, CZ, Option.map, List.getElem?_cons_zero, List.getElem?_cons_succ, List.mem_cons, List.not_mem_nil, if_false, if_true, Nat.reduceAdd, Nat.reduceLT, Nat.reduceLeDiff, Nat.reduceEqDiff, true_and, and_true, List.length_nil, List.length_cons, or_true, true_or, or_false, false_or, Option.some.injEq, Sum.inl.injEq, Sum.inr.injEq, exists_eq_left', exists_eq_left, Int.reduceLE, Int.reduceLT, Int.reduceNeg, Int.reduceAdd, Int.reduceMul, Int.reduceSub, Int.reduceToNat, inR, Nat.zero_ne_one, false_and, Nat.succ_ne_zero, reduceCtorEq, false_implies, true_implies, not_false_eq_true, not_true_eq_false, Int.reduceEq, KRE, C_RingDater_pointerYear, FR, FB, z3, hz]
      repeat (first | refine ⟨by omega, ?_⟩ | refine ⟨fun _ _ => okt_nn (by omega), ?_⟩)
      try (first | (show _ ≤ _; omega) | (show _ < _; omega))
      refine ⟨Or.inr ⟨rfl, fun w hw c => ?_⟩, z4, z5⟩
      by_cases l : w < y
      · exact hI w l c
      · exact absurd (po w (by omega)) c
    · have hz2 : ¬ (924 : Int) ≤ y := by omega
      have pv := ptr_v T Y y n
      refine wpm_of (cuts := [18]) (by decide) 100 _ _ _ _ ?_
      simp (maxSteps := 2000000) only [↓reduceIte, wp_eq, wpd_eq, kont_eq, STP1, STP2, STP3, STP4, STP5, konM_eq, AMK, CZ, Option.map, List.getElem?_cons_zero, List.getElem?_cons_succ, List.mem_cons, List.not_mem_nil, if_false, if_true, Nat.reduceAdd, Nat.reduceLT, Nat.reduceLeDiff, Nat.reduceEqDiff, true_and, and_true, List.length_nil, List.length_cons, or_true, true_or, or_false, false_or, Option.some.injEq, Sum.inl.injEq, Sum.inr.injEq, exists_eq_left', exists_eq_left, Int.reduceLE, Int.reduceLT, Int.reduceNeg, Int.reduceAdd, Int.reduceMul, Int.reduceSub, Int.reduceToNat, inR, Nat.zero_ne_one, false_and, Nat.succ_ne_zero, reduceCtorEq, false_implies, true_implies, not_false_eq_true, not_true_eq_false, Int.reduceEq, KRE, C_RingDater_pointerYear, FR, FB, z3, hz, hz2, k76]
      repeat (first | refine ⟨by omega, ?_⟩ | refine ⟨fun _ _ => okt_nn (by omega), ?_⟩)
      try (first | (show _ ≤ _; omega) | (show _ < _; omega))
      refine (ptr_cls (y := (y : Int)) z4 (by omega)).eq ?_
      by_cases c : ptr T Y y n = 0
      · have K' := fun q => K (by omega) _ _ ⟨rfl, q, rfl⟩
        rw [← Nat.add_assoc, hy, cntP_succ (k := y), if_neg (fun z => z c)] at K'
        have c' := eq_true c
        simp (maxSteps := 2000000) only [↓reduceIte, wp_eq, wpd_eq, kont_eq, STP1, STP2, STP3, STP4, STP5, konM_eq, AMK, CZ, Option.map, List.getElem?_cons_zero, List.getElem?_cons_succ, List.mem_cons, List.not_mem_nil, if_false, if_true, Nat.reduceAdd, Nat.reduceLT, Nat.reduceLeDiff, Nat.reduceEqDiff, true_and, and_true, List.length_nil, List.length_cons, or_true, true_or, or_false, false_or, Option.some.injEq, Sum.inl.injEq, Sum.inr.injEq, exists_eq_left', exists_eq_left, Int.reduceLE, Int.reduceLT, Int.reduceNeg, Int.reduceAdd, Int.reduceMul, Int.reduceSub, Int.reduceToNat, inR, Nat.zero_ne_one, false_and, Nat.succ_ne_zero, reduceCtorEq, false_implies, true_implies, not_false_eq_true, not_true_eq_false, Int.reduceEq, KRE, C_RingDater_pointerYear, c']
        repeat (first | refine ⟨by omega, ?_⟩ | refine ⟨fun _ _ => okt_nn (by omega), ?_⟩)
        try (first | (show _ ≤ _; omega) | (show _ < _; omega))
        have K2 := K' (fun w hw cc => by
          by_cases e : w = y
          · exact absurd (e ▸ c) cc
          · exact hI w (by omega) cc)
        rw [Int.add_zero] at K2
        exact K2
      · have c' := eq_false c
        by_cases ci : cntP T Y n y = i
        · have ci' := eq_true ci
          simp (maxSteps := 2000000) only [↓reduceIte, wp_eq, wpd_eq, kont_eq, STP1, STP2, STP3, STP4, STP5, konM_eq, AMK, CZ, Option.map, List.getElem?_cons_zero, List.getElem?_cons_succ, List.mem_cons, List.not_mem_nil, if_false, if_true, Nat.reduceAdd, Nat.reduceLT, Nat.reduceLeDiff, Nat.reduceEqDiff, true_and, and_true, List.length_nil, List.length_cons, or_true, true_or, or_false, false_or, Option.some.injEq, Sum.inl.injEq, Sum.inr.injEq, exists_eq_left', exists_eq_left, Int.reduceLE, Int.reduceLT, Int.reduceNeg, Int.reduceAdd, Int.reduceMul, Int.reduceSub, Int.reduceToNat, inR, Nat.zero_ne_one, false_and, Nat.succ_ne_zero, reduceCtorEq, false_implies, true_implies, not_false_eq_true, not_true_eq_false, Int.reduceEq, KRE, C_RingDater_pointerYear, c', ci']
          repeat (first | refine ⟨by omega, ?_⟩ | refine ⟨fun _ _ => okt_nn (by omega), ?_⟩)
          try (first | (show _ ≤ _; omega) | (show _ < _; omega))
          exact ⟨Or.inl ⟨y, by omega, c, ci, rfl⟩, z4, z5⟩
        · have K' := fun q => K (by omega) _ _ ⟨rfl, q, rfl⟩
          rw [← Nat.add_assoc, hy, cntP_succ (k := y), if_pos c] at K'
          have ci' := eq_false ci
          simp (maxSteps := 2000000) only [↓reduceIte, wp_eq, wpd_eq, kont_eq, STP1, STP2, STP3, STP4, STP5, konM_eq, AMK, CZ, Option.map, List.getElem?_cons_zero, List.getElem?_cons_succ, List.mem_cons, List.not_mem_nil, if_false, if_true, Nat.reduceAdd, Nat.reduceLT, Nat.reduceLeDiff, Nat.reduceEqDiff, true_and, and_true, List.length_nil, List.length_cons, or_true, true_or, or_false, false_or, Option.some.injEq, Sum.inl.injEq, Sum.inr.injEq, exists_eq_left', exists_eq_left, Int.reduceLE, Int.reduceLT, Int.reduceNeg, Int.reduceAdd, Int.reduceMul, Int.reduceSub, Int.reduceToNat, inR, Nat.zero_ne_one, false_and, Nat.succ_ne_zero, reduceCtorEq, false_implies, true_implies, not_false_eq_true, not_true_eq_false, Int.reduceEq, KRE, C_RingDater_pointerYear, c', ci']
          repeat (first | refine ⟨by omega, ?_⟩ | refine ⟨fun _ _ => okt_nn (by omega), ?_⟩)
          try (first | (show _ ≤ _; omega) | (show _ < _; omega))
          exact K' (fun w hw cc => by
            by_cases e : w = y
            · rw [e]; exact ci
            · exact hI w (by omega) cc)
  · rw [Nat.add_zero, cntP_0 (fun w hw => po w (by omega))]
    simp
theorem slP_far {A B : Rw} {x : Int} (hx : x ≤ -24) (hB : B.2.1 ≤ 24) : slPairs A B x = 0 := by
  have bF : slF x = max 0 (-x) := rfl
  have bT : slT A B x = min B.2.1 (A.2.1 - x) := rfl
  exact sumR_e (by omega)
theorem slS_clamp {A B : Rw} {x : Int} (hx : x ≤ 924) (hB : B.2.1 ≤ 24) : slScore A B (max (-24) (min x 924)) = slScore A B x ∧ slPairs A B (max (-24) (min x 924)) = slPairs A B x := by
  by_cases h : -24 ≤ x
  · rw [show max (-24) (min x 924) = x by omega]
    exact ⟨rfl, rfl⟩
  · rw [show max (-24) (min x 924) = -24 by omega]
    have a := slP_far (A := A) (x := x) (by omega) hB
    have b := slP_far (A := A) (x := -24) (by omega) hB
    rw [(slP_none (A := A) (B := B) (s := x) (by omega)).2.2, (slP_none (A := A) (B := B) (s := -24) (by omega)).2.2, a, b]
    exact ⟨rfl, rfl⟩
def fitS (T : Nat → Rw) (Y : Nat → Int) (n t : Nat) : Int := if (cSpan T Y t n).1 = -1 then 0 else slScore (chr T Y t n) (T t) (Y t - (cSpan T Y t n).1)
theorem fitS_in (T : Nat → Rw) (Y : Nat → Int) (n t : Nat) : 0 ≤ fitS T Y n t ∧ fitS T Y n t ≤ 100 := by
  unfold fitS
  split
  · omega
  · exact (slS_in _ _ _).2.2
set_option maxHeartbeats 600000 in
set_option maxRecDepth 20000 in
theorem RingDater_fitOf_ok {n t : Nat} {T : Nat → Rw} {Y : Nat → Int} {lap bnd mrg : Int} {M : Mm} (h : cls M n T Y lap bnd mrg) (ht : t < n) : CallI m_RingDater_fitOf [.inr 0, .inl t] M (fun x M' => x = fitS T Y n t ∧ cls M' n T Y lap bnd mrg ∧ FrP scrF M M') := by
  have k33 : kc (lay 33) 0 = True := FB.1
  have l0 := isStk_76.1
  have n8 := h.2.1.2
  have s1 : lay 57 = .inr (.inl (7, [none, none, none, none])) := isSld_57
  refine callP_of (by decide) (by decide) (Nat.le_of_ble_eq_true rfl) (wpm_of (cuts := []) (by decide) 100 _ _ _ _ ?_)
  rw [show lM m_RingDater_fitOf = 4 from rfl]
  simp (maxSteps := 2000000) only [↓reduceIte, wp_eq, wpd_eq, kont_eq, STP1, STP2, STP3, STP4, STP5, konM_eq, AMK, CZ, Option.map, List.getElem?_cons_zero, List.getElem?_cons_succ, List.mem_cons, List.not_mem_nil, if_false, if_true, Nat.reduceAdd, Nat.reduceLT, Nat.reduceLeDiff, Nat.reduceEqDiff, true_and, and_true, List.length_nil, List.length_cons, or_true, true_or, or_false, false_or, Option.some.injEq, Sum.inl.injEq, Sum.inr.injEq, exists_eq_left', exists_eq_left, Int.reduceLE, Int.reduceLT, Int.reduceNeg, Int.reduceAdd, Int.reduceMul, Int.reduceSub, Int.reduceToNat, inR, Nat.zero_ne_one, false_and, Nat.succ_ne_zero, reduceCtorEq, false_implies, true_implies, not_false_eq_true, not_true_eq_false, Int.reduceEq, KRE, C_RingDater_fitOf, FR, FB, k33, l0]
  refine (layC_cls (wo := t) h ⟨by omega, by omega⟩).mono (fun M1 z => ?_)
  obtain ⟨z1, z2, z3, h1, z5⟩ := z
  have sp := (cSpan_in (wo := t) h.2.2.2.2.2.2).1
  have f5 : FrP scrF M M1 := z5.wd (fun b j q => by unfold scrF; omega)
  unfold fitS
  generalize hf : (cSpan T Y t n).1 = f at *
  by_cases c : f = -1
  · rw [if_pos c]
    have c' := eq_true c
    simp (maxSteps := 2000000) only [↓reduceIte, wp_eq, wpd_eq, kont_eq, STP1, STP2, STP3, STP4, STP5, konM_eq, AMK, CZ, Option.map, List.getElem?_cons_zero, List.getElem?_cons_succ, List.mem_cons, List.not_mem_nil, if_false, if_true, Nat.reduceAdd, Nat.reduceLT, Nat.reduceLeDiff, Nat.reduceEqDiff, true_and, and_true, List.length_nil, List.length_cons, or_true, true_or, or_false, false_or, Option.some.injEq, Sum.inl.injEq, Sum.inr.injEq, exists_eq_left', exists_eq_left, Int.reduceLE, Int.reduceLT, Int.reduceNeg, Int.reduceAdd, Int.reduceMul, Int.reduceSub, Int.reduceToNat, inR, Nat.zero_ne_one, false_and, Nat.succ_ne_zero, reduceCtorEq, false_implies, true_implies, not_false_eq_true, not_true_eq_false, Int.reduceEq, KRE, C_RingDater_fitOf, FR, FB, z2, c']
    repeat (first | refine ⟨by omega, ?_⟩ | refine ⟨fun _ _ => okt_nn (by omega), ?_⟩)
    try (first | (show _ ≤ _; omega) | (show _ < _; omega))
    exact f5
  · rw [if_neg c]
    have c' := eq_false c
    simp (maxSteps := 2000000) only [↓reduceIte, wp_eq, wpd_eq, kont_eq, STP1, STP2, STP3, STP4, STP5, konM_eq, AMK, CZ, Option.map, List.getElem?_cons_zero, List.getElem?_cons_succ, List.mem_cons, List.not_mem_nil, if_false, if_true, Nat.reduceAdd, Nat.reduceLT, Nat.reduceLeDiff, Nat.reduceEqDiff, true_and, and_true, List.length_nil, List.length_cons, or_true, true_or, or_false, false_or, Option.some.injEq, Sum.inl.injEq, Sum.inr.injEq, exists_eq_left', exists_eq_left, Int.reduceLE, Int.reduceLT, Int.reduceNeg, Int.reduceAdd, Int.reduceMul, Int.reduceSub, Int.reduceToNat, inR, Nat.zero_ne_one, false_and, Nat.succ_ne_zero, reduceCtorEq, false_implies, true_implies, not_false_eq_true, not_true_eq_false, Int.reduceEq, KRE, C_RingDater_fitOf, FR, FB, z2, c']
    repeat (first | refine ⟨by omega, ?_⟩ | refine ⟨fun _ _ => okt_nn (by omega), ?_⟩)
    try (first | (show _ ≤ _; omega) | (show _ < _; omega))
    obtain ⟨t1, t2, t3, t4, t5, t6, t7⟩ := cls_tm h1 ht
    refine (Stock_yearOf_ok (t := (t : Int)) isStk_76 ⟨by omega, by omega⟩ h1.1.1.1).eq ?_
    rw [t6]
    simp (maxSteps := 2000000) only [↓reduceIte, wp_eq, wpd_eq, kont_eq, STP1, STP2, STP3, STP4, STP5, konM_eq, AMK, CZ, Option.map, List.getElem?_cons_zero, List.getElem?_cons_succ, List.mem_cons, List.not_mem_nil, if_false, if_true, Nat.reduceAdd, Nat.reduceLT, Nat.reduceLeDiff, Nat.reduceEqDiff, true_and, and_true, List.length_nil, List.length_cons, or_true, true_or, or_false, false_or, Option.some.injEq, Sum.inl.injEq, Sum.inr.injEq, exists_eq_left', exists_eq_left, Int.reduceLE, Int.reduceLT, Int.reduceNeg, Int.reduceAdd, Int.reduceMul, Int.reduceSub, Int.reduceToNat, inR, Nat.zero_ne_one, false_and, Nat.succ_ne_zero, reduceCtorEq, false_implies, true_implies, not_false_eq_true, not_true_eq_false, Int.reduceEq, KRE, C_RingDater_fitOf, FR, FB, z2, k33]
    refine (Stock_timberAt_ok (t := (t : Int)) isStk_76 ⟨by omega, by omega⟩ h1.1.1.1).eq ?_
    rw [t1]
    refine (Bench_slideAlongChronology_ok (x := Y t - f) t2 h1.1.2.1 z1 t3 (by omega) ⟨by omega, by omega⟩).mono (fun y M3 q => ?_)
    obtain ⟨rfl, q1, q2, q3⟩ := q
    rw [t4] at q1
    have l3 := t5.1
    obtain ⟨e1, e2⟩ := slS_clamp (A := chr T Y t n) (B := T t) (x := Y t - f) (by omega) (by omega)
    obtain ⟨p0, p1, p2, p3⟩ := q1
    rw [e2] at p0
    rw [e1] at p3
    have cc := cls_f3 h1 q3 (fun b j q => by omega) q2
    have v1 := slP_in (A := chr T Y t n) (B := T t) (s := Y t - f) (chr_R h.2.2.2.2.2.2).2
    by_cases c2 : slPairs (chr T Y t n) (T t) (Y t - f) < 1
    · have c3 : ¬ 1 ≤ slPairs (chr T Y t n) (T t) (Y t - f) := by omega
      simp (maxSteps := 2000000) only [↓reduceIte, wp_eq, wpd_eq, kont_eq, STP1, STP2, STP3, STP4, STP5, konM_eq, AMK, CZ, Option.map, List.getElem?_cons_zero, List.getElem?_cons_succ, List.mem_cons, List.not_mem_nil, if_false, if_true, Nat.reduceAdd, Nat.reduceLT, Nat.reduceLeDiff, Nat.reduceEqDiff, true_and, and_true, List.length_nil, List.length_cons, or_true, true_or, or_false, false_or, Option.some.injEq, Sum.inl.injEq, Sum.inr.injEq, exists_eq_left', exists_eq_left, Int.reduceLE, Int.reduceLT, Int.reduceNeg, Int.reduceAdd, Int.reduceMul, Int.reduceSub, Int.reduceToNat, inR, Nat.zero_ne_one, false_and, Nat.succ_ne_zero, reduceCtorEq, false_implies, true_implies, not_false_eq_true, not_true_eq_false, Int.reduceEq, KRE, C_RingDater_fitOf, s1, p0, p3, c3]
      repeat (first | refine ⟨by omega, ?_⟩ | refine ⟨fun _ _ => okt_nn (by omega), ?_⟩)
      try (first | (show _ ≤ _; omega) | (show _ < _; omega))
      exact ⟨(slP_none c2).2.2.symm, cc.1, f5.tr cc.2⟩
    · have c3 : 1 ≤ slPairs (chr T Y t n) (T t) (Y t - f) := by omega
      simp (maxSteps := 2000000) only [↓reduceIte, wp_eq, wpd_eq, kont_eq, STP1, STP2, STP3, STP4, STP5, konM_eq, AMK, CZ, Option.map, List.getElem?_cons_zero, List.getElem?_cons_succ, List.mem_cons, List.not_mem_nil, if_false, if_true, Nat.reduceAdd, Nat.reduceLT, Nat.reduceLeDiff, Nat.reduceEqDiff, true_and, and_true, List.length_nil, List.length_cons, or_true, true_or, or_false, false_or, Option.some.injEq, Sum.inl.injEq, Sum.inr.injEq, exists_eq_left', exists_eq_left, Int.reduceLE, Int.reduceLT, Int.reduceNeg, Int.reduceAdd, Int.reduceMul, Int.reduceSub, Int.reduceToNat, inR, Nat.zero_ne_one, false_and, Nat.succ_ne_zero, reduceCtorEq, false_implies, true_implies, not_false_eq_true, not_true_eq_false, Int.reduceEq, KRE, C_RingDater_fitOf, s1, p0, p3, c3]
      repeat (first | refine ⟨by omega, ?_⟩ | refine ⟨fun _ _ => okt_nn (by omega), ?_⟩)
      try (first | (show _ ≤ _; omega) | (show _ < _; omega))
      exact ⟨cc.1, f5.tr cc.2⟩
def oddS (F : Nat → Int) (Y : Nat → Int) (n : Nat) : Int × Int := foldN (fun t x => if Y t ≠ -1 ∧ (x.1 = -1 ∨ F t < x.2) then ((t : Int), F t) else x) (-1, 0) n
theorem oddS_in {F Y : Nat → Int} (hF : ∀ t, 0 ≤ F t ∧ F t ≤ 100) : ∀ n : Nat, (-1 ≤ (oddS F Y n).1 ∧ (oddS F Y n).1 < n) ∧ (0 ≤ (oddS F Y n).2 ∧ (oddS F Y n).2 ≤ 100)
  | 0 => ⟨⟨show (-1 : Int) ≤ -1 by decide, show (-1 : Int) < 0 by decide⟩, ⟨show (0 : Int) ≤ 0 by decide, show (0 : Int) ≤ 100 by decide⟩⟩
  | n + 1 => by
    have i := oddS_in (Y := Y) hF n
    have f := hF n
    unfold oddS at *
    rw [foldN]
    split
    · simp only
      omega
    · omega
set_option maxHeartbeats 600000 in
set_option maxRecDepth 20000 in
theorem RingDater_oddTimber_ok {n : Nat} {T : Nat → Rw} {Y : Nat → Int} {lap bnd mrg : Int} {M : Mm} (h : cls M n T Y lap bnd mrg) : CallI m_RingDater_oddTimber [.inr 0] M (fun x M' => x = (oddS (fitS T Y n) Y n).1 ∧ cls M' n T Y lap bnd mrg ∧ FrP scrF M M') := by
  have k0 : kc (lay 0) 11 = True := FR.1
  have l0 := isStk_76.1
  refine callP_of (by decide) (by decide) (Nat.le_of_ble_eq_true rfl) (wpm_of (cuts := [6]) (by decide) 50 _ _ _ _ ?_)
  rw [show lM m_RingDater_oddTimber = 5 from rfl]
  simp (maxSteps := 2000000) only [↓reduceIte, wp_eq, wpd_eq, kont_eq, STP1, STP2, STP3, STP4, STP5, konM_eq, AMK, CZ, Option.map, List.getElem?_cons_zero, List.getElem?_cons_succ, List.mem_cons, List.not_mem_nil, if_false, if_true, Nat.reduceAdd, Nat.reduceLT, Nat.reduceLeDiff, Nat.reduceEqDiff, true_and, and_true, List.length_nil, List.length_cons, or_true, true_or, or_false, false_or, Option.some.injEq, Sum.inl.injEq, Sum.inr.injEq, exists_eq_left', exists_eq_left, Int.reduceLE, Int.reduceLT, Int.reduceNeg, Int.reduceAdd, Int.reduceMul, Int.reduceSub, Int.reduceToNat, inR, Nat.zero_ne_one, false_and, Nat.succ_ne_zero, reduceCtorEq, false_implies, true_implies, not_false_eq_true, not_true_eq_false, Int.reduceEq, KRE, C_RingDater_oddTimber, FR, l0, k0]
  refine loopQ n (fun k ls M1 => (cls M1 n T Y lap bnd mrg ∧ FrP scrF M M1) ∧ ∃ a4, ls = [some (.inr 0), some (.inl (oddS (fitS T Y n) Y k).1), some (.inl (oddS (fitS T Y n) Y k).2), some (.inl k), a4]) ?_ _ _ ⟨⟨h, FrP.rf⟩, none, rfl⟩
  rintro k _ M1 hk ⟨⟨h1, f1⟩, a4, rfl⟩ K
  have e3 := h1.2.1.1
  have n8 := h1.2.1.2
  have oi := oddS_in (Y := Y) (fitS_in T Y n) k
  by_cases hz : (n : Int) ≤ k
  · refine wpm_of (cuts := [6]) (by decide) 100 _ _ _ _ ?_
    simp (maxSteps := 2000000) only [↓reduceIte, wp_eq, wpd_eq, kont_eq, STP1, STP2, STP3, STP4, STP5, konM_eq, AMK, CZ, Option.map, List.getElem?_cons_zero, List.getElem?_cons_succ, List.mem_cons, List.not_mem_nil, if_false, if_true, Nat.reduceAdd, Nat.reduceLT, Nat.reduceLeDiff, Nat.reduceEqDiff, true_and, and_true, List.length_nil, List.length_cons, or_true, true_or, or_false, false_or, Option.some.injEq, Sum.inl.injEq, Sum.inr.injEq, exists_eq_left', exists_eq_left, Int.reduceLE, Int.reduceLT, Int.reduceNeg, Int.reduceAdd, Int.reduceMul, Int.reduceSub, Int.reduceToNat, inR, Nat.zero_ne_one, false_and, Nat.succ_ne_zero, reduceCtorEq, false_implies, true_implies, not_false_eq_true, not_true_eq_false, Int.reduceEq, KRE, C_RingDater_oddTimber, FR, l0, e3, hz]
    repeat (first | refine ⟨by omega, ?_⟩ | refine ⟨fun _ _ => okt_nn (by omega), ?_⟩)
    try (first | (show _ ≤ _; omega) | (show _ < _; omega))
    rw [show k = n by omega]
    exact ⟨rfl, h1, f1⟩
  · refine wpm_of (cuts := [6]) (by decide) 100 _ _ _ _ ?_
    simp (maxSteps := 2000000) only [↓reduceIte, wp_eq, wpd_eq, kont_eq, STP1, STP2, STP3, STP4, STP5, konM_eq, AMK, CZ, Option.map, List.getElem?_cons_zero, List.getElem?_cons_succ, List.mem_cons, List.not_mem_nil, if_false, if_true, Nat.reduceAdd, Nat.reduceLT, Nat.reduceLeDiff, Nat.reduceEqDiff, true_and, and_true, List.length_nil, List.length_cons, or_true, true_or, or_false, false_or, Option.some.injEq, Sum.inl.injEq, Sum.inr.injEq, exists_eq_left', exists_eq_left, Int.reduceLE, Int.reduceLT, Int.reduceNeg, Int.reduceAdd, Int.reduceMul, Int.reduceSub, Int.reduceToNat, inR, Nat.zero_ne_one, false_and, Nat.succ_ne_zero, reduceCtorEq, false_implies, true_implies, not_false_eq_true, not_true_eq_false, Int.reduceEq, KRE, C_RingDater_oddTimber, FR, l0, e3, hz, k0]
    repeat (first | refine ⟨by omega, ?_⟩ | refine ⟨fun _ _ => okt_nn (by omega), ?_⟩)
    try (first | (show _ ≤ _; omega) | (show _ < _; omega))
    refine (Stock_isDated_ok (t := (k : Int)) isStk_76 ⟨by omega, by omega⟩ h1.1.1.1).eq ?_
    obtain ⟨t1, t2, t3, t4, t5, t6, t7⟩ := cls_tm h1 (show k < n by omega)
    rw [t6]
    have eO : oddS (fitS T Y n) Y (k + 1) = if Y k ≠ -1 ∧ ((oddS (fitS T Y n) Y k).1 = -1 ∨ fitS T Y n k < (oddS (fitS T Y n) Y k).2) then ((k : Int), fitS T Y n k) else oddS (fitS T Y n) Y k := rfl
    have fi := fitS_in T Y n k
    generalize oddS (fitS T Y n) Y k = X at *
    by_cases c : Y k ≠ -1
    · rw [if_pos c]
      simp (maxSteps := 2000000) only [↓reduceIte, wp_eq, wpd_eq, kont_eq, STP1, STP2, STP3, STP4, STP5, konM_eq, AMK, CZ, Option.map, List.getElem?_cons_zero, List.getElem?_cons_succ, List.mem_cons, List.not_mem_nil, if_false, if_true, Nat.reduceAdd, Nat.reduceLT, Nat.reduceLeDiff, Nat.reduceEqDiff, true_and, and_true, List.length_nil, List.length_cons, or_true, true_or, or_false, false_or, Option.some.injEq, Sum.inl.injEq, Sum.inr.injEq, exists_eq_left', exists_eq_left, Int.reduceLE, Int.reduceLT, Int.reduceNeg, Int.reduceAdd, Int.reduceMul, Int.reduceSub, Int.reduceToNat, inR, Nat.zero_ne_one, false_and, Nat.succ_ne_zero, reduceCtorEq, false_implies, true_implies, not_false_eq_true, not_true_eq_false, Int.reduceEq, KRE, C_RingDater_oddTimber, FR, l0, k0]
      repeat (first | refine ⟨by omega, ?_⟩ | refine ⟨fun _ _ => okt_nn (by omega), ?_⟩)
      try (first | (show _ ≤ _; omega) | (show _ < _; omega))
      refine (RingDater_fitOf_ok h1 (show k < n by omega)).mono (fun y M2 q => ?_)
      obtain ⟨rfl, q1, q2⟩ := q
      have K' := fun a4 => K (by omega) _ M2 ⟨⟨q1, f1.tr q2⟩, a4, rfl⟩
      rw [eO] at K'
      refine ⟨⟨by omega, by omega⟩, fun e => ?_, fun e => ⟨by omega, by omega, fun e2 => ?_, fun e2 => ?_⟩⟩
      · rw [if_pos ⟨c, Or.inl e⟩] at K'
        exact K' _
      · rw [if_neg (by omega)] at K'
        exact K' _
      · rw [if_pos ⟨c, Or.inr (by omega)⟩] at K'
        exact K' _
    · rw [if_neg c]
      have K' := fun a4 => K (by omega) _ M1 ⟨⟨h1, f1⟩, a4, rfl⟩
      rw [eO, if_neg (fun z => c z.1)] at K'
      simp (maxSteps := 2000000) only [↓reduceIte, wp_eq, wpd_eq, kont_eq, STP1, STP2, STP3, STP4, STP5, konM_eq, AMK, CZ, Option.map, List.getElem?_cons_zero, List.getElem?_cons_succ, List.mem_cons, List.not_mem_nil, if_false, if_true, Nat.reduceAdd, Nat.reduceLT, Nat.reduceLeDiff, Nat.reduceEqDiff, true_and, and_true, List.length_nil, List.length_cons, or_true, true_or, or_false, false_or, Option.some.injEq, Sum.inl.injEq, Sum.inr.injEq, exists_eq_left', exists_eq_left, Int.reduceLE, Int.reduceLT, Int.reduceNeg, Int.reduceAdd, Int.reduceMul, Int.reduceSub, Int.reduceToNat, inR, Nat.zero_ne_one, false_and, Nat.succ_ne_zero, reduceCtorEq, false_implies, true_implies, not_false_eq_true, not_true_eq_false, Int.reduceEq, KRE, C_RingDater_oddTimber, FR, l0, k0]
      exact K' _
