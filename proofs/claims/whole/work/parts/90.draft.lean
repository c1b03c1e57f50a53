/-! THE REFERENCE, 2: slides and the best place. -/
theorem if_cg {α : Type} {p q : Prop} [Decidable p] [Decidable q] {a b c d : α} (h : p ↔ q) (e : a = c) (f : b = d) : (if p then a else b) = if q then c else d := by
  subst e; subst f
  by_cases z : p
  · rw [if_pos z, if_pos (h.mp z)]
  · rw [if_neg z, if_neg (fun w => z (h.mpr w))]
/-- the doubts of a row as bits -/
abbrev isD (D k : Int) : Prop := k < 24 ∧ (btI D k.toNat = true ∨ 0 < k ∧ btI D (k - 1).toNat = true)
def dbM (D : Int) (A : Rw) : Prop := inR D ∧ ∀ k : Int, 0 ≤ k → k < A.2.1 → (sShk A k ≠ 0 ↔ isD D k)
theorem isD_0 (k : Int) : ¬ isD 0 k := by
  unfold isD
  rw [btI_0, btI_0]
  simp
set_option maxHeartbeats 600000 in
set_option maxRecDepth 20000 in
theorem Model_isDoubtful_ok {D k : Int} {M : Mm} (hk : 0 ≤ k ∧ k ≤ 1000) : CallI m_Model_isDoubtful [.inl D, .inl k] M (fun x M' => x = (if isD D k then 1 else 0) ∧ M' = M) := by
  unfold isD
  by_cases c1 : 24 ≤ k
  · rw [if_neg (by omega)]
    have c1' := eq_true c1
    refine callP_of (by decide) (by decide) (Nat.le_of_ble_eq_true rfl) (wpm_of (cuts := []) (by decide) 50 _ _ _ _ ?_)
    rw [show lM m_Model_isDoubtful = 2 from rfl]
    simp (maxSteps := 2000000) only [↓reduceIte, wp_eq, wpd_eq, kont_eq, STP1, STP2, STP3, STP4, STP5, konM_eq, AMK, CZ, Option.map, List.getElem?_cons_zero, List.getElem?_cons_succ, List.mem_cons, List.not_mem_nil, if_false, if_true, Nat.reduceAdd, Nat.reduceLT, Nat.reduceLeDiff, Nat.reduceEqDiff, true_and, and_true, List.length_nil, List.length_cons, or_true, true_or, or_false, false_or, Option.some.injEq, Sum.inl.injEq, Sum.inr.injEq, exists_eq_left', exists_eq_left, Int.reduceLE, Int.reduceLT, Int.reduceNeg, Int.reduceAdd, Int.reduceMul, Int.reduceSub, Int.reduceToNat, inR, Nat.zero_ne_one, false_and, Nat.succ_ne_zero, reduceCtorEq, false_implies, true_implies, not_false_eq_true, not_true_eq_false, Int.reduceEq, KRE, C_Model_isDoubtful, c1']
    repeat (first | refine ⟨by omega, ?_⟩ | refine ⟨fun _ _ => okt_nn (by omega), ?_⟩)
    try (first | (show _ ≤ _; omega) | (show _ < _; omega))
  · have c1' := eq_false c1
    have e1 := bit_testI D (k := k) (by omega) (by omega)
    by_cases c2 : btI D k.toNat = true
    · rw [if_pos ⟨by omega, Or.inl c2⟩]
      rw [if_pos c2] at e1
      refine callP_of (by decide) (by decide) (Nat.le_of_ble_eq_true rfl) (wpm_of (cuts := []) (by decide) 50 _ _ _ _ ?_)
      rw [show lM m_Model_isDoubtful = 2 from rfl]
      simp (maxSteps := 2000000) only [↓reduceIte, wp_eq, wpd_eq, kont_eq, STP1, STP2, STP3, STP4, STP5, konM_eq, AMK, CZ, Option.map, List.getElem?_cons_zero, List.getElem?_cons_succ, List.mem_cons, List.not_mem_nil, if_false, if_true, Nat.reduceAdd, Nat.reduceLT, Nat.reduceLeDiff, Nat.reduceEqDiff, true_and, and_true, List.length_nil, List.length_cons, or_true, true_or, or_false, false_or, Option.some.injEq, Sum.inl.injEq, Sum.inr.injEq, exists_eq_left', exists_eq_left, Int.reduceLE, Int.reduceLT, Int.reduceNeg, Int.reduceAdd, Int.reduceMul, Int.reduceSub, Int.reduceToNat, inR, Nat.zero_ne_one, false_and, Nat.succ_ne_zero, reduceCtorEq, false_implies, true_implies, not_false_eq_true, not_true_eq_false, Int.reduceEq, KRE, C_Model_isDoubtful, c1', e1]
      repeat (first | refine ⟨by omega, ?_⟩ | refine ⟨fun _ _ => okt_nn (by omega), ?_⟩)
      try (first | (show _ ≤ _; omega) | (show _ < _; omega))
    · rw [if_neg c2] at e1
      by_cases c3 : k ≤ 0
      · rw [if_neg (fun z => by rcases z.2 with z | z; exact c2 z; omega)]
        have c3' := eq_true c3
        refine callP_of (by decide) (by decide) (Nat.le_of_ble_eq_true rfl) (wpm_of (cuts := []) (by decide) 50 _ _ _ _ ?_)
        rw [show lM m_Model_isDoubtful = 2 from rfl]
        simp (maxSteps := 2000000) only [↓reduceIte, wp_eq, wpd_eq, kont_eq, STP1, STP2, STP3, STP4, STP5, konM_eq, AMK, CZ, Option.map, List.getElem?_cons_zero, List.getElem?_cons_succ, List.mem_cons, List.not_mem_nil, if_false, if_true, Nat.reduceAdd, Nat.reduceLT, Nat.reduceLeDiff, Nat.reduceEqDiff, true_and, and_true, List.length_nil, List.length_cons, or_true, true_or, or_false, false_or, Option.some.injEq, Sum.inl.injEq, Sum.inr.injEq, exists_eq_left', exists_eq_left, Int.reduceLE, Int.reduceLT, Int.reduceNeg, Int.reduceAdd, Int.reduceMul, Int.reduceSub, Int.reduceToNat, inR, Nat.zero_ne_one, false_and, Nat.succ_ne_zero, reduceCtorEq, false_implies, true_implies, not_false_eq_true, not_true_eq_false, Int.reduceEq, KRE, C_Model_isDoubtful, c1', e1, c3']
        repeat (first | refine ⟨by omega, ?_⟩ | refine ⟨fun _ _ => okt_nn (by omega), ?_⟩)
        try (first | (show _ ≤ _; omega) | (show _ < _; omega))
      · have e2 := bit_testI D (k := k - 1) (by omega) (by omega)
        have c3' := eq_false c3
        by_cases c4 : btI D (k - 1).toNat = true
        · rw [if_pos ⟨by omega, Or.inr ⟨by omega, c4⟩⟩]
          rw [if_pos c4] at e2
          refine callP_of (by decide) (by decide) (Nat.le_of_ble_eq_true rfl) (wpm_of (cuts := []) (by decide) 50 _ _ _ _ ?_)
          rw [show lM m_Model_isDoubtful = 2 from rfl]
          simp (maxSteps := 2000000) only [↓reduceIte, wp_eq, wpd_eq, kont_eq, STP1, STP2, STP3, STP4, STP5, konM_eq, AMK, CZ, Option.map, List.getElem?_cons_zero, List.getElem?_cons_succ, List.mem_cons, List.not_mem_nil, if_false, if_true, Nat.reduceAdd, Nat.reduceLT, Nat.reduceLeDiff, Nat.reduceEqDiff, true_and, and_true, List.length_nil, List.length_cons, or_true, true_or, or_false, false_or, Option.some.injEq, Sum.inl.injEq, Sum.inr.injEq, exists_eq_left', exists_eq_left, Int.reduceLE, Int.reduceLT, Int.reduceNeg, Int.reduceAdd, Int.reduceMul, Int.reduceSub, Int.reduceToNat, inR, Nat.zero_ne_one, false_and, Nat.succ_ne_zero, reduceCtorEq, false_implies, true_implies, not_false_eq_true, not_true_eq_false, Int.reduceEq, KRE, C_Model_isDoubtful, c1', e1, c3', e2]
          repeat (first | refine ⟨by omega, ?_⟩ | refine ⟨fun _ _ => okt_nn (by omega), ?_⟩)
          try (first | (show _ ≤ _; omega) | (show _ < _; omega))
        · rw [if_neg (fun z => by rcases z.2 with z | z; exact c2 z; exact c4 z.2)]
          rw [if_neg c4] at e2
          refine callP_of (by decide) (by decide) (Nat.le_of_ble_eq_true rfl) (wpm_of (cuts := []) (by decide) 50 _ _ _ _ ?_)
          rw [show lM m_Model_isDoubtful = 2 from rfl]
          simp (maxSteps := 2000000) only [↓reduceIte, wp_eq, wpd_eq, kont_eq, STP1, STP2, STP3, STP4, STP5, konM_eq, AMK, CZ, Option.map, List.getElem?_cons_zero, List.getElem?_cons_succ, List.mem_cons, List.not_mem_nil, if_false, if_true, Nat.reduceAdd, Nat.reduceLT, Nat.reduceLeDiff, Nat.reduceEqDiff, true_and, and_true, List.length_nil, List.length_cons, or_true, true_or, or_false, false_or, Option.some.injEq, Sum.inl.injEq, Sum.inr.injEq, exists_eq_left', exists_eq_left, Int.reduceLE, Int.reduceLT, Int.reduceNeg, Int.reduceAdd, Int.reduceMul, Int.reduceSub, Int.reduceToNat, inR, Nat.zero_ne_one, false_and, Nat.succ_ne_zero, reduceCtorEq, false_implies, true_implies, not_false_eq_true, not_true_eq_false, Int.reduceEq, KRE, C_Model_isDoubtful, c1', e1, c3', e2]
          repeat (first | refine ⟨by omega, ?_⟩ | refine ⟨fun _ _ => okt_nn (by omega), ?_⟩)
          try (first | (show _ ≤ _; omega) | (show _ < _; omega))
/-- row A and row B of the reference -/
def rowA (M : Mm) (A : Rw) : Prop := M 154 26 = A.2.1 ∧ A.2.1 ≤ 924 ∧ finM M 162 A ∧ dbM (M 154 27) A
def rowB (M : Mm) (B : Rw) : Prop := M 154 28 = B.2.1 ∧ B.2.1 ≤ 24 ∧ finM M 165 B ∧ dbM (M 154 29) B ∧ fullR B
theorem finM_cells {M M1 : Mm} {v : Nat} {A : Rw} (e : ∀ b, v ≤ b → b < v + 3 → ∀ j, M1 b j = M b j) (h : finM M v A) : finM M1 v A := by
  obtain ⟨⟨h1, h2, h3⟩, h4⟩ := h
  refine ⟨⟨h1, h2, fun j hj => ?_⟩, fun j hj => ?_⟩
  · rw [e v (by omega) (by omega)]; exact h3 j hj
  · rw [e (v + 1) (by omega) (by omega), e (v + 2) (by omega) (by omega)]; exact h4 j hj
theorem rowA_cells {M M1 : Mm} {A : Rw} (e : ∀ b, 162 ≤ b → b < 165 → ∀ j, M1 b j = M b j) (e1 : M1 154 26 = M 154 26) (e2 : M1 154 27 = M 154 27) (h : rowA M A) : rowA M1 A := by
  obtain ⟨h1, h2, h3, h4⟩ := h
  exact ⟨by rw [e1]; exact h1, h2, finM_cells (fun b a1 a2 j => e b a1 (by omega) j) h3, by rw [e2]; exact h4⟩
theorem rowB_cells {M M1 : Mm} {A : Rw} (e : ∀ b, 165 ≤ b → b < 168 → ∀ j, M1 b j = M b j) (e1 : M1 154 28 = M 154 28) (e2 : M1 154 29 = M 154 29) (h : rowB M A) : rowB M1 A := by
  obtain ⟨h1, h2, h3, h4, h5⟩ := h
  exact ⟨by rw [e1]; exact h1, h2, finM_cells (fun b a1 a2 j => e b a1 (by omega) j) h3, by rw [e2]; exact h4, h5⟩
def mSlM (M : Mm) (A B : Rw) (x : Int) : Mm := mset (mset (mset (mset M 154 32 (slPairs A B x)) 154 33 (slSigns A B x)) 154 34 (slRanks A B x)) 154 35 (slScore A B x)
set_option maxHeartbeats 600000 in
set_option maxRecDepth 20000 in
theorem Model_slide_e {x1 x5 x6 x7 : Option AV} {P O S Z : Int} {M : Mm} {Qc : Option AV → Mm → Prop} (hp : M 154 32 = P) (b1 : 0 ≤ P ∧ P ≤ 924) (b2 : 0 ≤ S ∧ S ≤ P) (b3 : 0 ≤ O ∧ O ≤ 4620) (b4 : 0 ≤ Z ∧ Z ≤ 1848)
    (hq : ∀ sg rk : Int, sg = (if S < 1 then 0 else (Z * 100).tdiv (2 * S)) → rk = (if P < 1 then 0 else 100 - (O * 25).tdiv P) → Qc none (mset (mset (mset M 154 33 sg) 154 34 rk) 154 35 ((2 * sg + rk).tdiv 3))) :
    WPm m_Model_slide Qc 223 [some (.inr 154), x1, some (.inl S), some (.inl Z), some (.inl O), x5, x6, x7] [] M := by
  have d1 : 0 ≤ (Z * 100).tdiv (2 * S) ∧ (Z * 100).tdiv (2 * S) ≤ 184800 := by
    rw [Int.tdiv_eq_ediv_of_nonneg (by omega)]
    refine ⟨Int.ediv_nonneg (by omega) (by omega), ?_⟩
    by_cases h : S = 0
    · rw [h]; simp
    · exact Int.le_trans (Int.ediv_le_self _ (by omega)) (by omega)
  have d2 : 0 ≤ (O * 25).tdiv P ∧ (O * 25).tdiv P ≤ 115500 := by
    rw [Int.tdiv_eq_ediv_of_nonneg (by omega)]
    refine ⟨Int.ediv_nonneg (by omega) (by omega), ?_⟩
    by_cases h : P = 0
    · rw [h]; simp
    · exact Int.le_trans (Int.ediv_le_self _ (by omega)) (by omega)
  have K := hq _ _ rfl rfl
  by_cases cs : S = 0
  · rw [if_pos (by omega)] at K
    have cs' := eq_true cs
    by_cases cp : P = 0
    · rw [if_pos (by omega)] at K
      have cp' := eq_true cp
      refine wpm_of (cuts := []) (by decide) 300 _ _ _ _ ?_
      simp (maxSteps := 2000000) only [↓reduceIte, wp_eq, wpd_eq, kont_eq, STP1, STP2, STP3, STP4, STP5, konM_eq, AMK, CZ, Option.map, List.getElem?_cons_zero, List.getElem?_cons_succ, List.mem_cons, List.not_mem_nil, if_false, if_true, Nat.reduceAdd, Nat.reduceLT, Nat.reduceLeDiff, Nat.reduceEqDiff, true_and, and_true, List.length_nil, List.length_cons, or_true, true_or, or_false, false_or, Option.some.injEq, Sum.inl.injEq, Sum.inr.injEq, exists_eq_left', exists_eq_left, Int.reduceLE, Int.reduceLT, Int.reduceNeg, Int.reduceAdd, Int.reduceMul, Int.reduceSub, Int.reduceToNat, inR, Nat.zero_ne_one, false_and, Nat.succ_ne_zero, reduceCtorEq, false_implies, true_implies, not_false_eq_true, not_true_eq_false, Int.reduceEq, KRE, C_Model_slide, FM, MSE, hp, cs', cp']
      repeat (first | refine ⟨by omega, ?_⟩ | refine ⟨fun _ _ => okt_nn (by omega), ?_⟩)
      try (first | (show _ ≤ _; omega) | (show _ < _; omega))
      exact K
    · rw [if_neg (by omega)] at K
      have cp' := eq_false cp
      refine wpm_of (cuts := []) (by decide) 300 _ _ _ _ ?_
      simp (maxSteps := 2000000) only [↓reduceIte, wp_eq, wpd_eq, kont_eq, STP1, STP2, STP3, STP4, STP5, konM_eq, AMK, CZ, Option.map, List.getElem?_cons_zero, List.getElem?_cons_succ, List.mem_cons, List.not_mem_nil, if_false, if_true, Nat.reduceAdd, Nat.reduceLT, Nat.reduceLeDiff, Nat.reduceEqDiff, true_and, and_true, List.length_nil, List.length_cons, or_true, true_or, or_false, false_or, Option.some.injEq, Sum.inl.injEq, Sum.inr.injEq, exists_eq_left', exists_eq_left, Int.reduceLE, Int.reduceLT, Int.reduceNeg, Int.reduceAdd, Int.reduceMul, Int.reduceSub, Int.reduceToNat, inR, Nat.zero_ne_one, false_and, Nat.succ_ne_zero, reduceCtorEq, false_implies, true_implies, not_false_eq_true, not_true_eq_false, Int.reduceEq, KRE, C_Model_slide, FM, MSE, hp, cs', cp']
      repeat (first | refine ⟨by omega, ?_⟩ | refine ⟨fun _ _ => okt_nn (by omega), ?_⟩)
      try (first | (show _ ≤ _; omega) | (show _ < _; omega))
      exact K
  · rw [if_neg (by omega)] at K
    have cs' := eq_false cs
    have cp' := eq_false (show ¬ P = 0 by omega)
    rw [if_neg (by omega)] at K
    have d3 : -2147483648 ≤ 2 * (Z * 100).tdiv (2 * S) + (100 - (O * 25).tdiv P) ∧ 2 * (Z * 100).tdiv (2 * S) + (100 - (O * 25).tdiv P) ≤ 2147483647 := by omega
    have d4 : inR (Z * 100) ∧ inR (2 * S) ∧ inR (O * 25) := by simp only [inR]; omega
    simp only [inR] at d4
    refine wpm_of (cuts := []) (by decide) 300 _ _ _ _ ?_
    simp (maxSteps := 2000000) only [↓reduceIte, wp_eq, wpd_eq, kont_eq, STP1, STP2, STP3, STP4, STP5, konM_eq, AMK, CZ, Option.map, List.getElem?_cons_zero, List.getElem?_cons_succ, List.mem_cons, List.not_mem_nil, if_false, if_true, Nat.reduceAdd, Nat.reduceLT, Nat.reduceLeDiff, Nat.reduceEqDiff, true_and, and_true, List.length_nil, List.length_cons, or_true, true_or, or_false, false_or, Option.some.injEq, Sum.inl.injEq, Sum.inr.injEq, exists_eq_left', exists_eq_left, Int.reduceLE, Int.reduceLT, Int.reduceNeg, Int.reduceAdd, Int.reduceMul, Int.reduceSub, Int.reduceToNat, inR, Nat.zero_ne_one, false_and, Nat.succ_ne_zero, reduceCtorEq, false_implies, true_implies, not_false_eq_true, not_true_eq_false, Int.reduceEq, KRE, C_Model_slide, FM, MSE, hp, cs', cp']
    clear hq
    repeat' (first | with_reducible apply And.intro | with_reducible intro _)
    all_goals first | exact K | exact d3 | omega
theorem slBoth_in {A B : Rw} {s : Int} : 0 ≤ slBoth A B s ∧ slBoth A B s ≤ slPairs A B s := by
  have := sumN_mul (f := fun k => mS A B s (slF s + k)) (g := fun k => mP A B s (slF s + k)) (c := 1) (n := (slT A B s - slF s).toNat) (fun j _ => by
    have := mS_in A B s (slF s + j)
    have := mP_in A B s (slF s + j)
    by_cases e : mP A B s (slF s + j) = 1
    · omega
    · have e2 : mS A B s (slF s + j) = 0 := if_neg (fun z => e z.1)
      omega)
  have h' : 0 ≤ slBoth A B s ∧ slBoth A B s ≤ 1 * slPairs A B s := this
  omega
set_option maxRecDepth 20000 in
set_option maxHeartbeats 3999999 in
theorem Model_slide_ok {A B : Rw} {x : Int} {M : Mm} (hA : rowA M A) (hB : rowB M B) (hx : -1000 ≤ x ∧ x ≤ 1000) : CallV m_Model_slide [.inr 154, .inl x] M (fun M' => M' = mSlM M A B x) := by
  obtain ⟨a1, a2, ⟨⟨a3, a4, a5⟩, a6⟩, a7, a8⟩ := hA
  obtain ⟨b1, b2, ⟨⟨b3, b4, b5⟩, b6⟩, ⟨b7, b8⟩, b9⟩ := hB
  have bF : slF x = max 0 (-x) := rfl
  have bT : slT A B x = min B.2.1 (A.2.1 - x) := rfl
  have bnd : (0 ≤ slPairs A B x ∧ slPairs A B x ≤ 924) ∧ (0 ≤ slBoth A B x ∧ slBoth A B x ≤ slPairs A B x) ∧ (0 ≤ sumR (mO A B x) (slF x) (slT A B x) ∧ sumR (mO A B x) (slF x) (slT A B x) ≤ 4620) ∧ (0 ≤ sumR (mA A B x) (slF x) (slT A B x) ∧ sumR (mA A B x) (slF x) (slT A B x) ≤ 1848) := by
    refine ⟨slP_in ⟨a3, a2⟩, slBoth_in, ?_⟩
    by_cases hle : slF x ≤ slT A B x
    · have q3 := sumR_in hle (f := mO A B x) (fun j _ _ => mO_in A B x j)
      have q4 := sumR_in hle (f := mA A B x) (fun j _ _ => mA_in A B x j)
      omega
    · rw [sumR_e (by omega), sumR_e (by omega)]
      omega
  have s0 := sumR_0 (mP A B x) (slF x)
  refine callP_of (by decide) (by decide) (Nat.le_of_ble_eq_true rfl) (wpm_of (cuts := [20]) (by decide) 50 _ _ _ _ ?_)
  rw [show lM m_Model_slide = 8 from rfl]
  simp (maxSteps := 2000000) only [↓reduceIte, wp_eq, wpd_eq, kont_eq, STP1, STP2, STP3, STP4, STP5, konM_eq, AMK, CZ, Option.map, List.getElem?_cons_zero, List.getElem?_cons_succ, List.mem_cons, List.not_mem_nil, if_false, if_true, Nat.reduceAdd, Nat.reduceLT, Nat.reduceLeDiff, Nat.reduceEqDiff, true_and, and_true, List.length_nil, List.length_cons, or_true, true_or, or_false, false_or, Option.some.injEq, Sum.inl.injEq, Sum.inr.injEq, exists_eq_left', exists_eq_left, Int.reduceLE, Int.reduceLT, Int.reduceNeg, Int.reduceAdd, Int.reduceMul, Int.reduceSub, Int.reduceToNat, inR, Nat.zero_ne_one, false_and, Nat.succ_ne_zero, reduceCtorEq, false_implies, true_implies, not_false_eq_true, not_true_eq_false, Int.reduceEq, KRE, C_Model_slide, FM]
  repeat (first | refine ⟨by omega, ?_⟩ | refine ⟨fun _ _ => okt_nn (by omega), ?_⟩)
  try (first | (show _ ≤ _; omega) | (show _ < _; omega))
  refine loopQ (slT A B x - slF x).toNat (fun k ls M1 => M1 = mset M 154 32 (sumR (mP A B x) (slF x) (slF x + k)) ∧ ∃ a6 a7, ls = [some (.inr 154), some (.inl x), some (.inl (sumR (mS A B x) (slF x) (slF x + k))), some (.inl (sumR (mA A B x) (slF x) (slF x + k))), some (.inl (sumR (mO A B x) (slF x) (slF x + k))), some (.inl (slF x + k)), a6, a7]) ?_ _ _ ⟨?_, none, none, ?_⟩
  · rintro k _ _ hk ⟨rfl, a6', a7', rfl⟩ K
    have ms0 : ∀ v, mset M 154 32 v 154 32 = v := fun v => if_pos ⟨rfl, rfl⟩
    have e26 : ∀ v, mset M 154 32 v 154 26 = A.2.1 := fun v => by rw [← a1]; exact if_neg (fun z => absurd z.2 (by decide))
    have e28 : ∀ v, mset M 154 32 v 154 28 = B.2.1 := fun v => by rw [← b1]; exact if_neg (fun z => absurd z.2 (by decide))
    have e27 : ∀ v, mset M 154 32 v 154 27 = M 154 27 := fun v => if_neg (fun z => absurd z.2 (by decide))
    have e29 : ∀ v, mset M 154 32 v 154 29 = M 154 29 := fun v => if_neg (fun z => absurd z.2 (by decide))
    have eo : ∀ v b j, b ≠ 154 → mset M 154 32 v b j = M b j := fun v b j hb => mset_ne b hb j
    have eo1 : ∀ v j, mset M 154 32 v 162 j = M 162 j := fun v j => eo v 162 j (by decide)
    have eo2 : ∀ v j, mset M 154 32 v 163 j = M 163 j := fun v j => eo v 163 j (by decide)
    have eo3 : ∀ v j, mset M 154 32 v 164 j = M 164 j := fun v j => eo v 164 j (by decide)
    have eo4 : ∀ v j, mset M 154 32 v 166 j = M 166 j := fun v j => eo v 166 j (by decide)
    have eo5 : ∀ v j, mset M 154 32 v 167 j = M 167 j := fun v j => eo v 167 j (by decide)
    by_cases hj : slT A B x ≤ slF x + k
    · have out : ∀ a5 a6 a7, WPm m_Model_slide (fun v M' => v = none ∧ M' = mSlM M A B x) 223 [some (.inr 154), some (.inl x), some (.inl (sumR (mS A B x) (slF x) (slF x + k))), some (.inl (sumR (mA A B x) (slF x) (slF x + k))), some (.inl (sumR (mO A B x) (slF x) (slF x + k))), a5, a6, a7] [] (mset M 154 32 (sumR (mP A B x) (slF x) (slF x + k))) := by
        intro a5 a6 a7
        have fin : sumR (mP A B x) (slF x) (slF x + k) = slPairs A B x ∧ sumR (mS A B x) (slF x) (slF x + k) = slBoth A B x ∧ sumR (mO A B x) (slF x) (slF x + k) = sumR (mO A B x) (slF x) (slT A B x) ∧ sumR (mA A B x) (slF x) (slF x + k) = sumR (mA A B x) (slF x) (slT A B x) := by
          unfold slPairs slBoth
          by_cases hz : slF x ≤ slT A B x
          · rw [show slF x + (k : Int) = slT A B x by omega]
            exact ⟨rfl, rfl, rfl, rfl⟩
          · rw [show slF x + (k : Int) = slF x by omega, sumR_0, sumR_0, sumR_0, sumR_0, sumR_e (by omega), sumR_e (by omega), sumR_e (by omega), sumR_e (by omega)]
            exact ⟨rfl, rfl, rfl, rfl⟩
        obtain ⟨f1, f2, f3, f4⟩ := fin
        rw [f1, f2, f3, f4]
        refine Model_slide_e (P := slPairs A B x) (ms0 _) bnd.1 bnd.2.1 bnd.2.2.1 bnd.2.2.2 (fun sg rk h1 h2 => ?_)
        subst h1; subst h2
        exact ⟨rfl, rfl⟩
      by_cases c1 : B.2.1 ≤ slF x + k
      · have c1' := eq_true c1
        refine wpm_of (cuts := [20, 217, 223]) (by decide) 100 _ _ _ _ ?_
        simp (maxSteps := 2000000) only [↓reduceIte, wp_eq, wpd_eq, kont_eq, STP1, STP2, STP3, STP4, STP5, konM_eq, AMK, CZ, Option.map, List.getElem?_cons_zero, List.getElem?_cons_succ, List.mem_cons, List.not_mem_nil, if_false, if_true, Nat.reduceAdd, Nat.reduceLT, Nat.reduceLeDiff, Nat.reduceEqDiff, true_and, and_true, List.length_nil, List.length_cons, or_true, true_or, or_false, false_or, Option.some.injEq, Sum.inl.injEq, Sum.inr.injEq, exists_eq_left', exists_eq_left, Int.reduceLE, Int.reduceLT, Int.reduceNeg, Int.reduceAdd, Int.reduceMul, Int.reduceSub, Int.reduceToNat, inR, Nat.zero_ne_one, false_and, Nat.succ_ne_zero, reduceCtorEq, false_implies, true_implies, not_false_eq_true, not_true_eq_false, Int.reduceEq, KRE, C_Model_slide, FM, e28, c1']
        repeat (first | refine ⟨by omega, ?_⟩ | refine ⟨fun _ _ => okt_nn (by omega), ?_⟩)
        try (first | (show _ ≤ _; omega) | (show _ < _; omega))
        exact out _ _ _
      · have c1' := eq_false c1
        have c2' := eq_true (show A.2.1 ≤ slF x + k + x by omega)
        refine wpm_of (cuts := [20, 217, 223]) (by decide) 100 _ _ _ _ ?_
        simp (maxSteps := 2000000) only [↓reduceIte, wp_eq, wpd_eq, kont_eq, STP1, STP2, STP3, STP4, STP5, konM_eq, AMK, CZ, Option.map, List.getElem?_cons_zero, List.getElem?_cons_succ, List.mem_cons, List.not_mem_nil, if_false, if_true, Nat.reduceAdd, Nat.reduceLT, Nat.reduceLeDiff, Nat.reduceEqDiff, true_and, and_true, List.length_nil, List.length_cons, or_true, true_or, or_false, false_or, Option.some.injEq, Sum.inl.injEq, Sum.inr.injEq, exists_eq_left', exists_eq_left, Int.reduceLE, Int.reduceLT, Int.reduceNeg, Int.reduceAdd, Int.reduceMul, Int.reduceSub, Int.reduceToNat, inR, Nat.zero_ne_one, false_and, Nat.succ_ne_zero, reduceCtorEq, false_implies, true_implies, not_false_eq_true, not_true_eq_false, Int.reduceEq, KRE, C_Model_slide, FM, e28, e26, c1', c2']
        repeat (first | refine ⟨by omega, ?_⟩ | refine ⟨fun _ _ => okt_nn (by omega), ?_⟩)
        try (first | (show _ ≤ _; omega) | (show _ < _; omega))
        exact out _ _ _
    · have c1' := eq_false (show ¬ B.2.1 ≤ slF x + k by omega)
      have c2' := eq_false (show ¬ A.2.1 ≤ slF x + k + x by omega)
      generalize hj9 : slF x + (k : Int) = j at *
      have KK : ∀ a6 a7 : Option AV, WPm m_Model_slide (fun v M' => v = none ∧ M' = mSlM M A B x) 217 [some (.inr 154), some (.inl x), some (.inl (sumR (mS A B x) (slF x) j + mS A B x j)), some (.inl (sumR (mA A B x) (slF x) j + mA A B x j)), some (.inl (sumR (mO A B x) (slF x) j + mO A B x j)), some (.inl j), a6, a7] [] (mset M 154 32 (sumR (mP A B x) (slF x) j + mP A B x j)) := by
        intro a6 a7
        have K1 := K (by omega) _ _ ⟨rfl, a6, a7, rfl⟩
        rw [natI, ← Int.add_assoc, hj9, sumR_succ _ (by omega), sumR_succ _ (by omega), sumR_succ _ (by omega), sumR_succ _ (by omega)] at K1
        refine wpm_of (cuts := [20]) (by decide) 300 _ _ _ _ ?_
        simp (maxSteps := 2000000) only [↓reduceIte, wp_eq, wpd_eq, kont_eq, STP1, STP2, STP3, STP4, STP5, konM_eq, AMK, CZ, Option.map, List.getElem?_cons_zero, List.getElem?_cons_succ, List.mem_cons, List.not_mem_nil, if_false, if_true, Nat.reduceAdd, Nat.reduceLT, Nat.reduceLeDiff, Nat.reduceEqDiff, true_and, and_true, List.length_nil, List.length_cons, or_true, true_or, or_false, false_or, Option.some.injEq, Sum.inl.injEq, Sum.inr.injEq, exists_eq_left', exists_eq_left, Int.reduceLE, Int.reduceLT, Int.reduceNeg, Int.reduceAdd, Int.reduceMul, Int.reduceSub, Int.reduceToNat, inR, Nat.zero_ne_one, false_and, Nat.succ_ne_zero, reduceCtorEq, false_implies, true_implies, not_false_eq_true, not_true_eq_false, Int.reduceEq, KRE, C_Model_slide, FM]
        exact K1
      have i1 := sRank_in A (j + x)
      have i2 := sRank_in B j
      have i3 := sStep_in A (j + x)
      have i4 := sStep_in B j
      have n2 : sN B j ≠ 0 := b9 j (by omega) (by omega)
      have w1 := a5 (j + x).toNat (by omega)
      have w2 := a6 (j + x).toNat (by omega)
      have w3 := b6 j.toNat (by omega)
      rw [show (((j + x).toNat : Nat) : Int) = j + x by omega] at w1 w2
      rw [show ((j.toNat : Nat) : Int) = j by omega] at w3
      have d1 := a8 (j + x) (by omega) (by omega)
      have d2 := b8 j (by omega) (by omega)
      obtain ⟨w4, w5⟩ := w2
      obtain ⟨w6, w7⟩ := w3
      have rB : mRk B j = sRank B j := if_neg n2
      rw [rB] at w7
      have vP : mP A B x j = if sN A (j + x) ≠ 0 then 1 else 0 := by
        unfold mP
        by_cases h : sN A (j + x) = 0 <;> simp [h, n2]
      have vO : mO A B x j = if mP A B x j = 1 then max (sRank A (j + x) - sRank B j) (-(sRank A (j + x) - sRank B j)) else 0 := rfl
      have vS : mS A B x j = if mP A B x j = 1 ∧ sStep A (j + x) ≠ 2 ∧ sStep B j ≠ 2 then 1 else 0 := rfl
      have vA : mA A B x j = if mS A B x j = 1 then (if sShk A (j + x) ≠ 0 ∨ sShk B j ≠ 0 then 1 else like (sStep A (j + x)) (sStep B j)) else 0 := rfl
      have mv := mV_in (k := j + x) a4
      by_cases hp : sN A (j + x) = 0
      · rw [if_neg (by omega)] at vP
        rw [vP, if_neg (by omega)] at vO
        rw [vP, if_neg (by omega)] at vS
        rw [vS, if_neg (by omega)] at vA
        rw [vO, vS, vA, vP] at KK
        simp only [Int.add_zero] at KK
        have w1' : mV A (j + x) = -1 := mv.2.2.1.mpr hp
        refine wpm_of (cuts := [20, 217, 223]) (by decide) 300 _ _ _ _ ?_
        simp (maxSteps := 2000000) only [↓reduceIte, wp_eq, wpd_eq, kont_eq, STP1, STP2, STP3, STP4, STP5, konM_eq, AMK, CZ, Option.map, List.getElem?_cons_zero, List.getElem?_cons_succ, List.mem_cons, List.not_mem_nil, if_false, if_true, Nat.reduceAdd, Nat.reduceLT, Nat.reduceLeDiff, Nat.reduceEqDiff, true_and, and_true, List.length_nil, List.length_cons, or_true, true_or, or_false, false_or, Option.some.injEq, Sum.inl.injEq, Sum.inr.injEq, exists_eq_left', exists_eq_left, Int.reduceLE, Int.reduceLT, Int.reduceNeg, Int.reduceAdd, Int.reduceMul, Int.reduceSub, Int.reduceToNat, inR, Nat.zero_ne_one, false_and, Nat.succ_ne_zero, reduceCtorEq, false_implies, true_implies, not_false_eq_true, not_true_eq_false, Int.reduceEq, KRE, C_Model_slide, FM, e28, e26, c1', c2', eo1, w1, w1']
        repeat (first | refine ⟨by omega, ?_⟩ | refine ⟨fun _ _ => okt_nn (by omega), ?_⟩)
        try (first | (show _ ≤ _; omega) | (show _ < _; omega))
        exact KK _ _
      · rw [if_pos hp] at vP
        rw [vP, if_pos rfl] at vO
        rw [vP] at vS
        rw [vO, vP] at KK
        have w1' : ¬ mV A (j + x) = -1 := fun z => hp (mv.2.2.1.mp z)
        have w1'' := eq_false w1'
        have rA : mRk A (j + x) = sRank A (j + x) := if_neg hp
        rw [rA] at w5
        by_cases hs1 : sStep A (j + x) = 2
        · rw [if_neg (by omega)] at vS
          rw [vS, if_neg (by omega)] at vA
          rw [vS, vA] at KK
          simp only [Int.add_zero] at KK
          refine wpm_of (cuts := [20, 217, 223]) (by decide) 300 _ _ _ _ ?_
          simp (maxSteps := 2000000) only [↓reduceIte, wp_eq, wpd_eq, kont_eq, STP1, STP2, STP3, STP4, STP5, konM_eq, AMK, CZ, Option.map, List.getElem?_cons_zero, List.getElem?_cons_succ, List.mem_cons, List.not_mem_nil, if_false, if_true, Nat.reduceAdd, Nat.reduceLT, Nat.reduceLeDiff, Nat.reduceEqDiff, true_and, and_true, List.length_nil, List.length_cons, or_true, true_or, or_false, false_or, Option.some.injEq, Sum.inl.injEq, Sum.inr.injEq, exists_eq_left', exists_eq_left, Int.reduceLE, Int.reduceLT, Int.reduceNeg, Int.reduceAdd, Int.reduceMul, Int.reduceSub, Int.reduceToNat, inR, Nat.zero_ne_one, false_and, Nat.succ_ne_zero, reduceCtorEq, false_implies, true_implies, not_false_eq_true, not_true_eq_false, Int.reduceEq, KRE, C_Model_slide, FM, e28, e26, c1', c2', eo1, eo2, eo3, eo5, w1, w1'', ms0, mset_mset, w4, w5, w7, hs1]
          repeat (first | refine ⟨by omega, ?_⟩ | refine ⟨fun _ _ => okt_nn (by omega), ?_⟩)
          try (first | (show _ ≤ _; omega) | (show _ < _; omega))
          exact KK _ _
        · have hs1' := eq_false hs1
          by_cases hs2 : sStep B j = 2
          · rw [if_neg (by omega)] at vS
            rw [vS, if_neg (by omega)] at vA
            rw [vS, vA] at KK
            simp only [Int.add_zero] at KK
            refine wpm_of (cuts := [20, 217, 223]) (by decide) 300 _ _ _ _ ?_
            simp (maxSteps := 2000000) only [↓reduceIte, wp_eq, wpd_eq, kont_eq, STP1, STP2, STP3, STP4, STP5, konM_eq, AMK, CZ, Option.map, List.getElem?_cons_zero, List.getElem?_cons_succ, List.mem_cons, List.not_mem_nil, if_false, if_true, Nat.reduceAdd, Nat.reduceLT, Nat.reduceLeDiff, Nat.reduceEqDiff, true_and, and_true, List.length_nil, List.length_cons, or_true, true_or, or_false, false_or, Option.some.injEq, Sum.inl.injEq, Sum.inr.injEq, exists_eq_left', exists_eq_left, Int.reduceLE, Int.reduceLT, Int.reduceNeg, Int.reduceAdd, Int.reduceMul, Int.reduceSub, Int.reduceToNat, inR, Nat.zero_ne_one, false_and, Nat.succ_ne_zero, reduceCtorEq, false_implies, true_implies, not_false_eq_true, not_true_eq_false, Int.reduceEq, KRE, C_Model_slide, FM, e28, e26, c1', c2', eo1, eo2, eo3, eo4, eo5, w1, w1'', ms0, mset_mset, w4, w5, w6, w7, hs1', hs2]
            repeat (first | refine ⟨by omega, ?_⟩ | refine ⟨fun _ _ => okt_nn (by omega), ?_⟩)
            try (first | (show _ ≤ _; omega) | (show _ < _; omega))
            exact KK _ _
          · have hs2' := eq_false hs2
            rw [if_pos ⟨rfl, hs1, hs2⟩] at vS
            rw [vS, if_pos rfl] at vA
            rw [vS] at KK
            refine wpm_of (cuts := [20, 152, 156, 217, 223]) (by decide) 300 _ _ _ _ ?_
            simp (maxSteps := 2000000) only [↓reduceIte, wp_eq, wpd_eq, kont_eq, STP1, STP2, STP3, STP4, STP5, konM_eq, AMK, CZ, Option.map, List.getElem?_cons_zero, List.getElem?_cons_succ, List.mem_cons, List.not_mem_nil, if_false, if_true, Nat.reduceAdd, Nat.reduceLT, Nat.reduceLeDiff, Nat.reduceEqDiff, true_and, and_true, List.length_nil, List.length_cons, or_true, true_or, or_false, false_or, Option.some.injEq, Sum.inl.injEq, Sum.inr.injEq, exists_eq_left', exists_eq_left, Int.reduceLE, Int.reduceLT, Int.reduceNeg, Int.reduceAdd, Int.reduceMul, Int.reduceSub, Int.reduceToNat, inR, Nat.zero_ne_one, false_and, Nat.succ_ne_zero, reduceCtorEq, false_implies, true_implies, not_false_eq_true, not_true_eq_false, Int.reduceEq, KRE, C_Model_slide, FM, e28, e26, e27, e29, c1', c2', eo1, eo2, eo3, eo4, eo5, w1, w1'', ms0, mset_mset, w4, w5, w6, w7, hs1', hs2']
            repeat (first | refine ⟨by omega, ?_⟩ | refine ⟨fun _ _ => okt_nn (by omega), ?_⟩)
            try (first | (show _ ≤ _; omega) | (show _ < _; omega))
            refine (Model_isDoubtful_ok ⟨by omega, by omega⟩).eq ?_
            have lk : ∀ a6, (¬ (sShk A (j + x) ≠ 0 ∨ sShk B j ≠ 0)) → WPm m_Model_slide (fun v M' => v = none ∧ M' = mSlM M A B x) 156 [some (.inr 154), some (.inl x), some (.inl (sumR (mS A B x) (slF x) j + 1)), some (.inl (sumR (mA A B x) (slF x) j)), some (.inl (sumR (mO A B x) (slF x) j + max (sRank A (j + x) - sRank B j) (-(sRank A (j + x) - sRank B j)))), some (.inl j), some (.inl (j + x)), a6] [] (mset M 154 32 (sumR (mP A B x) (slF x) j + 1)) := by
              intro a6 hn
              rw [if_neg hn] at vA
              rw [vA] at KK
              by_cases q1 : sStep A (j + x) = sStep B j
              · rw [show like (sStep A (j + x)) (sStep B j) = 2 from if_pos q1] at KK
                have q1' := eq_true q1
                refine wpm_of (cuts := [20, 217, 223]) (by decide) 300 _ _ _ _ ?_
                simp (maxSteps := 2000000) only [↓reduceIte, wp_eq, wpd_eq, kont_eq, STP1, STP2, STP3, STP4, STP5, konM_eq, AMK, CZ, Option.map, List.getElem?_cons_zero, List.getElem?_cons_succ, List.mem_cons, List.not_mem_nil, if_false, if_true, Nat.reduceAdd, Nat.reduceLT, Nat.reduceLeDiff, Nat.reduceEqDiff, true_and, and_true, List.length_nil, List.length_cons, or_true, true_or, or_false, false_or, Option.some.injEq, Sum.inl.injEq, Sum.inr.injEq, exists_eq_left', exists_eq_left, Int.reduceLE, Int.reduceLT, Int.reduceNeg, Int.reduceAdd, Int.reduceMul, Int.reduceSub, Int.reduceToNat, inR, Nat.zero_ne_one, false_and, Nat.succ_ne_zero, reduceCtorEq, false_implies, true_implies, not_false_eq_true, not_true_eq_false, Int.reduceEq, KRE, C_Model_slide, FM, eo2, eo4, w4, w6, q1']
                repeat (first | refine ⟨by omega, ?_⟩ | refine ⟨fun _ _ => okt_nn (by omega), ?_⟩)
                try (first | (show _ ≤ _; omega) | (show _ < _; omega))
                exact KK _ _
              · have q1' := eq_false q1
                by_cases q2 : sStep A (j + x) = 0
                · rw [show like (sStep A (j + x)) (sStep B j) = 1 by unfold like; rw [if_neg q1, if_pos (Or.inl q2)]] at KK
                  rw [q2] at q1'
                  refine wpm_of (cuts := [20, 217, 223]) (by decide) 300 _ _ _ _ ?_
                  simp (maxSteps := 2000000) only [↓reduceIte, wp_eq, wpd_eq, kont_eq, STP1, STP2, STP3, STP4, STP5, konM_eq, AMK, CZ, Option.map, List.getElem?_cons_zero, List.getElem?_cons_succ, List.mem_cons, List.not_mem_nil, if_false, if_true, Nat.reduceAdd, Nat.reduceLT, Nat.reduceLeDiff, Nat.reduceEqDiff, true_and, and_true, List.length_nil, List.length_cons, or_true, true_or, or_false, false_or, Option.some.injEq, Sum.inl.injEq, Sum.inr.injEq, exists_eq_left', exists_eq_left, Int.reduceLE, Int.reduceLT, Int.reduceNeg, Int.reduceAdd, Int.reduceMul, Int.reduceSub, Int.reduceToNat, inR, Nat.zero_ne_one, false_and, Nat.succ_ne_zero, reduceCtorEq, false_implies, true_implies, not_false_eq_true, not_true_eq_false, Int.reduceEq, KRE, C_Model_slide, FM, eo2, eo4, w4, w6, q2, q1']
                  repeat (first | refine ⟨by omega, ?_⟩ | refine ⟨fun _ _ => okt_nn (by omega), ?_⟩)
                  try (first | (show _ ≤ _; omega) | (show _ < _; omega))
                  exact KK _ _
                · have q2' := eq_false q2
                  by_cases q3 : sStep B j = 0
                  · rw [show like (sStep A (j + x)) (sStep B j) = 1 by unfold like; rw [if_neg q1, if_pos (Or.inr q3)]] at KK
                    refine wpm_of (cuts := [20, 217, 223]) (by decide) 300 _ _ _ _ ?_
                    simp (maxSteps := 2000000) only [↓reduceIte, wp_eq, wpd_eq, kont_eq, STP1, STP2, STP3, STP4, STP5, konM_eq, AMK, CZ, Option.map, List.getElem?_cons_zero, List.getElem?_cons_succ, List.mem_cons, List.not_mem_nil, if_false, if_true, Nat.reduceAdd, Nat.reduceLT, Nat.reduceLeDiff, Nat.reduceEqDiff, true_and, and_true, List.length_nil, List.length_cons, or_true, true_or, or_false, false_or, Option.some.injEq, Sum.inl.injEq, Sum.inr.injEq, exists_eq_left', exists_eq_left, Int.reduceLE, Int.reduceLT, Int.reduceNeg, Int.reduceAdd, Int.reduceMul, Int.reduceSub, Int.reduceToNat, inR, Nat.zero_ne_one, false_and, Nat.succ_ne_zero, reduceCtorEq, false_implies, true_implies, not_false_eq_true, not_true_eq_false, Int.reduceEq, KRE, C_Model_slide, FM, eo2, eo4, w4, w6, q2', q3]
                    repeat (first | refine ⟨by omega, ?_⟩ | refine ⟨fun _ _ => okt_nn (by omega), ?_⟩)
                    try (first | (show _ ≤ _; omega) | (show _ < _; omega))
                    exact KK _ _
                  · have q3' := eq_false q3
                    rw [show like (sStep A (j + x)) (sStep B j) = 0 by unfold like; rw [if_neg q1, if_neg (by omega)], Int.add_zero] at KK
                    refine wpm_of (cuts := [20, 217, 223]) (by decide) 300 _ _ _ _ ?_
                    simp (maxSteps := 2000000) only [↓reduceIte, wp_eq, wpd_eq, kont_eq, STP1, STP2, STP3, STP4, STP5, konM_eq, AMK, CZ, Option.map, List.getElem?_cons_zero, List.getElem?_cons_succ, List.mem_cons, List.not_mem_nil, if_false, if_true, Nat.reduceAdd, Nat.reduceLT, Nat.reduceLeDiff, Nat.reduceEqDiff, true_and, and_true, List.length_nil, List.length_cons, or_true, true_or, or_false, false_or, Option.some.injEq, Sum.inl.injEq, Sum.inr.injEq, exists_eq_left', exists_eq_left, Int.reduceLE, Int.reduceLT, Int.reduceNeg, Int.reduceAdd, Int.reduceMul, Int.reduceSub, Int.reduceToNat, inR, Nat.zero_ne_one, false_and, Nat.succ_ne_zero, reduceCtorEq, false_implies, true_implies, not_false_eq_true, not_true_eq_false, Int.reduceEq, KRE, C_Model_slide, FM, eo2, eo4, w4, w6, q2', q3', q1']
                    repeat (first | refine ⟨by omega, ?_⟩ | refine ⟨fun _ _ => okt_nn (by omega), ?_⟩)
                    try (first | (show _ ≤ _; omega) | (show _ < _; omega))
                    exact KK _ _
            have yes : ∀ a6, (sShk A (j + x) ≠ 0 ∨ sShk B j ≠ 0) → WPm m_Model_slide (fun v M' => v = none ∧ M' = mSlM M A B x) 152 [some (.inr 154), some (.inl x), some (.inl (sumR (mS A B x) (slF x) j + 1)), some (.inl (sumR (mA A B x) (slF x) j)), some (.inl (sumR (mO A B x) (slF x) j + max (sRank A (j + x) - sRank B j) (-(sRank A (j + x) - sRank B j)))), some (.inl j), some (.inl (j + x)), a6] [] (mset M 154 32 (sumR (mP A B x) (slF x) j + 1)) := by
              intro a6 hn
              rw [if_pos hn] at vA
              rw [vA] at KK
              refine wpm_of (cuts := [20, 217, 223]) (by decide) 300 _ _ _ _ ?_
              simp (maxSteps := 2000000) only [↓reduceIte, wp_eq, wpd_eq, kont_eq, STP1, STP2, STP3, STP4, STP5, konM_eq, AMK, CZ, Option.map, List.getElem?_cons_zero, List.getElem?_cons_succ, List.mem_cons, List.not_mem_nil, if_false, if_true, Nat.reduceAdd, Nat.reduceLT, Nat.reduceLeDiff, Nat.reduceEqDiff, true_and, and_true, List.length_nil, List.length_cons, or_true, true_or, or_false, false_or, Option.some.injEq, Sum.inl.injEq, Sum.inr.injEq, exists_eq_left', exists_eq_left, Int.reduceLE, Int.reduceLT, Int.reduceNeg, Int.reduceAdd, Int.reduceMul, Int.reduceSub, Int.reduceToNat, inR, Nat.zero_ne_one, false_and, Nat.succ_ne_zero, reduceCtorEq, false_implies, true_implies, not_false_eq_true, not_true_eq_false, Int.reduceEq, KRE, C_Model_slide, FM]
              repeat (first | refine ⟨by omega, ?_⟩ | refine ⟨fun _ _ => okt_nn (by omega), ?_⟩)
              try (first | (show _ ≤ _; omega) | (show _ < _; omega))
              exact KK _ _
            by_cases t1 : isD (M 154 29) j
            · rw [if_pos t1]
              try simp (maxSteps := 2000000) only [↓reduceIte, wp_eq, wpd_eq, kont_eq, STP1, STP2, STP3, STP4, STP5, konM_eq, AMK, CZ, Option.map, List.getElem?_cons_zero, List.getElem?_cons_succ, List.mem_cons, List.not_mem_nil, if_false, if_true, Nat.reduceAdd, Nat.reduceLT, Nat.reduceLeDiff, Nat.reduceEqDiff, true_and, and_true, List.length_nil, List.length_cons, or_true, true_or, or_false, false_or, Option.some.injEq, Sum.inl.injEq, Sum.inr.injEq, exists_eq_left', exists_eq_left, Int.reduceLE, Int.reduceLT, Int.reduceNeg, Int.reduceAdd, Int.reduceMul, Int.reduceSub, Int.reduceToNat, inR, Nat.zero_ne_one, false_and, Nat.succ_ne_zero, reduceCtorEq, false_implies, true_implies, not_false_eq_true, not_true_eq_false, Int.reduceEq, KRE, C_Model_slide]
              repeat (first | refine ⟨by omega, ?_⟩ | refine ⟨fun _ _ => okt_nn (by omega), ?_⟩)
              try (first | (show _ ≤ _; omega) | (show _ < _; omega))
              exact yes _ (Or.inr (d2.mpr t1))
            · rw [if_neg t1]
              have a7' := a7
              simp only [inR] at a7'
              by_cases t2 : M 154 27 = 0
              · have t2' := eq_true t2
                rw [t2] at d1
                try simp (maxSteps := 2000000) only [↓reduceIte, wp_eq, wpd_eq, kont_eq, STP1, STP2, STP3, STP4, STP5, konM_eq, AMK, CZ, Option.map, List.getElem?_cons_zero, List.getElem?_cons_succ, List.mem_cons, List.not_mem_nil, if_false, if_true, Nat.reduceAdd, Nat.reduceLT, Nat.reduceLeDiff, Nat.reduceEqDiff, true_and, and_true, List.length_nil, List.length_cons, or_true, true_or, or_false, false_or, Option.some.injEq, Sum.inl.injEq, Sum.inr.injEq, exists_eq_left', exists_eq_left, Int.reduceLE, Int.reduceLT, Int.reduceNeg, Int.reduceAdd, Int.reduceMul, Int.reduceSub, Int.reduceToNat, inR, Nat.zero_ne_one, false_and, Nat.succ_ne_zero, reduceCtorEq, false_implies, true_implies, not_false_eq_true, not_true_eq_false, Int.reduceEq, KRE, C_Model_slide, FM, e27, t2']
                repeat (first | refine ⟨by omega, ?_⟩ | refine ⟨fun _ _ => okt_nn (by omega), ?_⟩)
                try (first | (show _ ≤ _; omega) | (show _ < _; omega))
                exact lk _ (fun z => by rcases z with z | z; exact isD_0 _ (d1.mp z); exact t1 (d2.mp z))
              · have t2' := eq_false t2
                try simp (maxSteps := 2000000) only [↓reduceIte, wp_eq, wpd_eq, kont_eq, STP1, STP2, STP3, STP4, STP5, konM_eq, AMK, CZ, Option.map, List.getElem?_cons_zero, List.getElem?_cons_succ, List.mem_cons, List.not_mem_nil, if_false, if_true, Nat.reduceAdd, Nat.reduceLT, Nat.reduceLeDiff, Nat.reduceEqDiff, true_and, and_true, List.length_nil, List.length_cons, or_true, true_or, or_false, false_or, Option.some.injEq, Sum.inl.injEq, Sum.inr.injEq, exists_eq_left', exists_eq_left, Int.reduceLE, Int.reduceLT, Int.reduceNeg, Int.reduceAdd, Int.reduceMul, Int.reduceSub, Int.reduceToNat, inR, Nat.zero_ne_one, false_and, Nat.succ_ne_zero, reduceCtorEq, false_implies, true_implies, not_false_eq_true, not_true_eq_false, Int.reduceEq, KRE, C_Model_slide, FM, e27, t2']
                repeat (first | refine ⟨by omega, ?_⟩ | refine ⟨fun _ _ => okt_nn (by omega), ?_⟩)
                try (first | (show _ ≤ _; omega) | (show _ < _; omega))
                refine (Model_isDoubtful_ok ⟨by omega, by omega⟩).eq ?_
                by_cases t3 : isD (M 154 27) (j + x)
                · rw [if_pos t3]
                  try simp (maxSteps := 2000000) only [↓reduceIte, wp_eq, wpd_eq, kont_eq, STP1, STP2, STP3, STP4, STP5, konM_eq, AMK, CZ, Option.map, List.getElem?_cons_zero, List.getElem?_cons_succ, List.mem_cons, List.not_mem_nil, if_false, if_true, Nat.reduceAdd, Nat.reduceLT, Nat.reduceLeDiff, Nat.reduceEqDiff, true_and, and_true, List.length_nil, List.length_cons, or_true, true_or, or_false, false_or, Option.some.injEq, Sum.inl.injEq, Sum.inr.injEq, exists_eq_left', exists_eq_left, Int.reduceLE, Int.reduceLT, Int.reduceNeg, Int.reduceAdd, Int.reduceMul, Int.reduceSub, Int.reduceToNat, inR, Nat.zero_ne_one, false_and, Nat.succ_ne_zero, reduceCtorEq, false_implies, true_implies, not_false_eq_true, not_true_eq_false, Int.reduceEq, KRE, C_Model_slide]
                  repeat (first | refine ⟨by omega, ?_⟩ | refine ⟨fun _ _ => okt_nn (by omega), ?_⟩)
                  try (first | (show _ ≤ _; omega) | (show _ < _; omega))
                  exact yes _ (Or.inl (d1.mpr t3))
                · rw [if_neg t3]
                  try simp (maxSteps := 2000000) only [↓reduceIte, wp_eq, wpd_eq, kont_eq, STP1, STP2, STP3, STP4, STP5, konM_eq, AMK, CZ, Option.map, List.getElem?_cons_zero, List.getElem?_cons_succ, List.mem_cons, List.not_mem_nil, if_false, if_true, Nat.reduceAdd, Nat.reduceLT, Nat.reduceLeDiff, Nat.reduceEqDiff, true_and, and_true, List.length_nil, List.length_cons, or_true, true_or, or_false, false_or, Option.some.injEq, Sum.inl.injEq, Sum.inr.injEq, exists_eq_left', exists_eq_left, Int.reduceLE, Int.reduceLT, Int.reduceNeg, Int.reduceAdd, Int.reduceMul, Int.reduceSub, Int.reduceToNat, inR, Nat.zero_ne_one, false_and, Nat.succ_ne_zero, reduceCtorEq, false_implies, true_implies, not_false_eq_true, not_true_eq_false, Int.reduceEq, KRE, C_Model_slide]
                  repeat (first | refine ⟨by omega, ?_⟩ | refine ⟨fun _ _ => okt_nn (by omega), ?_⟩)
                  try (first | (show _ ≤ _; omega) | (show _ < _; omega))
                  exact lk _ (fun z => by rcases z with z | z; exact t3 (d1.mp z); exact t1 (d2.mp z))
  · rw [show slF x + ((0 : Nat) : Int) = slF x by omega, sumR_0]
  · rw [show slF x + ((0 : Nat) : Int) = slF x by omega, sumR_0, sumR_0, sumR_0]
    rfl

/-! THE REFERENCE, 3: the settings, the best place. -/
def setM (M : Mm) (lap bnd mrg : Int) : Prop := ((if M 156 1 = -1 then 70 else M 156 1) = bnd ∧ 50 ≤ bnd ∧ bnd ≤ 100) ∧ ((if M 156 2 = -1 then 6 else M 156 2) = lap ∧ 3 ≤ lap ∧ lap ≤ 24) ∧ ((if M 156 3 = -1 then 5 else M 156 3) = mrg ∧ 0 ≤ mrg ∧ mrg ≤ 50)
theorem setM_cells {M M1 : Mm} {lap bnd mrg : Int} (e : ∀ j, M1 156 j = M 156 j) (h : setM M lap bnd mrg) : setM M1 lap bnd mrg := by
  unfold setM at *
  rw [e, e, e]
  exact h
set_option maxHeartbeats 600000 in
set_option maxRecDepth 20000 in
theorem Model_bound_ok {lap bnd mrg : Int} {M : Mm} (h : setM M lap bnd mrg) : CallI m_Model_bound [.inr 154] M (fun x M' => x = bnd ∧ M' = M) := by
  obtain ⟨⟨h1, h2⟩, -, -⟩ := h
  by_cases c : M 156 1 = -1
  · rw [if_pos c] at h1
    refine callP_of (by decide) (by decide) (Nat.le_of_ble_eq_true rfl) (wpm_of (cuts := []) (by decide) 50 _ _ _ _ ?_)
    rw [show lM m_Model_bound = 1 from rfl]
    simp (maxSteps := 2000000) only [↓reduceIte, wp_eq, wpd_eq, kont_eq, STP1, STP2, STP3, STP4, STP5, konM_eq, AMK, CZ, Option.map, List.getElem?_cons_zero, List.getElem?_cons_succ, List.mem_cons, List.not_mem_nil, if_false, if_true, Nat.reduceAdd, Nat.reduceLT, Nat.reduceLeDiff, Nat.reduceEqDiff, true_and, and_true, List.length_nil, List.length_cons, or_true, true_or, or_false, false_or, Option.some.injEq, Sum.inl.injEq, Sum.inr.injEq, exists_eq_left', exists_eq_left, Int.reduceLE, Int.reduceLT, Int.reduceNeg, Int.reduceAdd, Int.reduceMul, Int.reduceSub, Int.reduceToNat, inR, Nat.zero_ne_one, false_and, Nat.succ_ne_zero, reduceCtorEq, false_implies, true_implies, not_false_eq_true, not_true_eq_false, Int.reduceEq, KRE, C_Model_bound, FM, c]
    repeat (first | refine ⟨by omega, ?_⟩ | refine ⟨fun _ _ => okt_nn (by omega), ?_⟩)
    try (first | (show _ ≤ _; omega) | (show _ < _; omega))
    exact h1
  · rw [if_neg c] at h1
    have c' := eq_false c
    refine callP_of (by decide) (by decide) (Nat.le_of_ble_eq_true rfl) (wpm_of (cuts := []) (by decide) 50 _ _ _ _ ?_)
    rw [show lM m_Model_bound = 1 from rfl]
    simp (maxSteps := 2000000) only [↓reduceIte, wp_eq, wpd_eq, kont_eq, STP1, STP2, STP3, STP4, STP5, konM_eq, AMK, CZ, Option.map, List.getElem?_cons_zero, List.getElem?_cons_succ, List.mem_cons, List.not_mem_nil, if_false, if_true, Nat.reduceAdd, Nat.reduceLT, Nat.reduceLeDiff, Nat.reduceEqDiff, true_and, and_true, List.length_nil, List.length_cons, or_true, true_or, or_false, false_or, Option.some.injEq, Sum.inl.injEq, Sum.inr.injEq, exists_eq_left', exists_eq_left, Int.reduceLE, Int.reduceLT, Int.reduceNeg, Int.reduceAdd, Int.reduceMul, Int.reduceSub, Int.reduceToNat, inR, Nat.zero_ne_one, false_and, Nat.succ_ne_zero, reduceCtorEq, false_implies, true_implies, not_false_eq_true, not_true_eq_false, Int.reduceEq, KRE, C_Model_bound, FM, c']
    repeat (first | refine ⟨by omega, ?_⟩ | refine ⟨fun _ _ => okt_nn (by omega), ?_⟩)
    try (first | (show _ ≤ _; omega) | (show _ < _; omega))
    exact h1
set_option maxHeartbeats 600000 in
set_option maxRecDepth 20000 in
theorem Model_lap_ok {lap bnd mrg : Int} {M : Mm} (h : setM M lap bnd mrg) : CallI m_Model_lap [.inr 154] M (fun x M' => x = lap ∧ M' = M) := by
  obtain ⟨-, ⟨h1, h2⟩, -⟩ := h
  by_cases c : M 156 2 = -1
  · rw [if_pos c] at h1
    refine callP_of (by decide) (by decide) (Nat.le_of_ble_eq_true rfl) (wpm_of (cuts := []) (by decide) 50 _ _ _ _ ?_)
    rw [show lM m_Model_lap = 1 from rfl]
    simp (maxSteps := 2000000) only [↓reduceIte, wp_eq, wpd_eq, kont_eq, STP1, STP2, STP3, STP4, STP5, konM_eq, AMK, CZ, Option.map, List.getElem?_cons_zero, List.getElem?_cons_succ, List.mem_cons, List.not_mem_nil, if_false, if_true, Nat.reduceAdd, Nat.reduceLT, Nat.reduceLeDiff, Nat.reduceEqDiff, true_and, and_true, List.length_nil, List.length_cons, or_true, true_or, or_false, false_or, Option.some.injEq, Sum.inl.injEq, Sum.inr.injEq, exists_eq_left', exists_eq_left, Int.reduceLE, Int.reduceLT, Int.reduceNeg, Int.reduceAdd, Int.reduceMul, Int.reduceSub, Int.reduceToNat, inR, Nat.zero_ne_one, false_and, Nat.succ_ne_zero, reduceCtorEq, false_implies, true_implies, not_false_eq_true, not_true_eq_false, Int.reduceEq, KRE, C_Model_lap, FM, c]
    repeat (first | refine ⟨by omega, ?_⟩ | refine ⟨fun _ _ => okt_nn (by omega), ?_⟩)
    try (first | (show _ ≤ _; omega) | (show _ < _; omega))
    exact h1
  · rw [if_neg c] at h1
    have c' := eq_false c
    refine callP_of (by decide) (by decide) (Nat.le_of_ble_eq_true rfl) (wpm_of (cuts := []) (by decide) 50 _ _ _ _ ?_)
    rw [show lM m_Model_lap = 1 from rfl]
    simp (maxSteps := 2000000) only [↓reduceIte, wp_eq, wpd_eq, kont_eq, STP1, STP2, STP3, STP4, STP5, konM_eq, AMK, CZ, Option.map, List.getElem?_cons_zero, List.getElem?_cons_succ, List.mem_cons, List.not_mem_nil, if_false, if_true, Nat.reduceAdd, Nat.reduceLT, Nat.reduceLeDiff, Nat.reduceEqDiff, true_and, and_true, List.length_nil, List.length_cons, or_true, true_or, or_false, false_or, Option.some.injEq, Sum.inl.injEq, Sum.inr.injEq, exists_eq_left', exists_eq_left, Int.reduceLE, Int.reduceLT, Int.reduceNeg, Int.reduceAdd, Int.reduceMul, Int.reduceSub, Int.reduceToNat, inR, Nat.zero_ne_one, false_and, Nat.succ_ne_zero, reduceCtorEq, false_implies, true_implies, not_false_eq_true, not_true_eq_false, Int.reduceEq, KRE, C_Model_lap, FM, c']
    repeat (first | refine ⟨by omega, ?_⟩ | refine ⟨fun _ _ => okt_nn (by omega), ?_⟩)
    try (first | (show _ ≤ _; omega) | (show _ < _; omega))
    exact h1
set_option maxHeartbeats 600000 in
set_option maxRecDepth 20000 in
theorem Model_margin_ok {lap bnd mrg : Int} {M : Mm} (h : setM M lap bnd mrg) : CallI m_Model_margin [.inr 154] M (fun x M' => x = mrg ∧ M' = M) := by
  obtain ⟨-, -, h1, h2⟩ := h
  by_cases c : M 156 3 = -1
  · rw [if_pos c] at h1
    refine callP_of (by decide) (by decide) (Nat.le_of_ble_eq_true rfl) (wpm_of (cuts := []) (by decide) 50 _ _ _ _ ?_)
    rw [show lM m_Model_margin = 1 from rfl]
    simp (maxSteps := 2000000) only [↓reduceIte, wp_eq, wpd_eq, kont_eq, STP1, STP2, STP3, STP4, STP5, konM_eq, AMK, CZ, Option.map, List.getElem?_cons_zero, List.getElem?_cons_succ, List.mem_cons, List.not_mem_nil, if_false, if_true, Nat.reduceAdd, Nat.reduceLT, Nat.reduceLeDiff, Nat.reduceEqDiff, true_and, and_true, List.length_nil, List.length_cons, or_true, true_or, or_false, false_or, Option.some.injEq, Sum.inl.injEq, Sum.inr.injEq, exists_eq_left', exists_eq_left, Int.reduceLE, Int.reduceLT, Int.reduceNeg, Int.reduceAdd, Int.reduceMul, Int.reduceSub, Int.reduceToNat, inR, Nat.zero_ne_one, false_and, Nat.succ_ne_zero, reduceCtorEq, false_implies, true_implies, not_false_eq_true, not_true_eq_false, Int.reduceEq, KRE, C_Model_margin, FM, c]
    repeat (first | refine ⟨by omega, ?_⟩ | refine ⟨fun _ _ => okt_nn (by omega), ?_⟩)
    try (first | (show _ ≤ _; omega) | (show _ < _; omega))
    exact h1
  · rw [if_neg c] at h1
    have c' := eq_false c
    refine callP_of (by decide) (by decide) (Nat.le_of_ble_eq_true rfl) (wpm_of (cuts := []) (by decide) 50 _ _ _ _ ?_)
    rw [show lM m_Model_margin = 1 from rfl]
    simp (maxSteps := 2000000) only [↓reduceIte, wp_eq, wpd_eq, kont_eq, STP1, STP2, STP3, STP4, STP5, konM_eq, AMK, CZ, Option.map, List.getElem?_cons_zero, List.getElem?_cons_succ, List.mem_cons, List.not_mem_nil, if_false, if_true, Nat.reduceAdd, Nat.reduceLT, Nat.reduceLeDiff, Nat.reduceEqDiff, true_and, and_true, List.length_nil, List.length_cons, or_true, true_or, or_false, false_or, Option.some.injEq, Sum.inl.injEq, Sum.inr.injEq, exists_eq_left', exists_eq_left, Int.reduceLE, Int.reduceLT, Int.reduceNeg, Int.reduceAdd, Int.reduceMul, Int.reduceSub, Int.reduceToNat, inR, Nat.zero_ne_one, false_and, Nat.succ_ne_zero, reduceCtorEq, false_implies, true_implies, not_false_eq_true, not_true_eq_false, Int.reduceEq, KRE, C_Model_margin, FM, c']
    repeat (first | refine ⟨by omega, ?_⟩ | refine ⟨fun _ _ => okt_nn (by omega), ?_⟩)
    try (first | (show _ ≤ _; omega) | (show _ < _; omega))
    exact h1
def bstM (M : Mm) (x : Bst) : Prop := M 154 41 = x.1 ∧ M 154 39 = x.2.2.2.2 ∧ (x.1 ≠ 0 → M 154 36 = x.2.1 ∧ M 154 37 = x.2.2.1 ∧ M 154 38 = x.2.2.2.1)
def bestP : Nat → Nat → Prop := fun b j => b = 154 ∧ 32 ≤ j ∧ j ≤ 41
theorem mSlM_fr (M : Mm) (A B : Rw) (x : Int) : FrP (fun b j => b = 154 ∧ 32 ≤ j ∧ j ≤ 35) M (mSlM M A B x) := by
  intro b j h
  simp only [mSlM, mset]
  grind
theorem mSlM_get (M : Mm) (A B : Rw) (x : Int) : mSlM M A B x 154 32 = slPairs A B x ∧ mSlM M A B x 154 33 = slSigns A B x ∧ mSlM M A B x 154 34 = slRanks A B x ∧ mSlM M A B x 154 35 = slScore A B x := by
  simp [mSlM, mset]
theorem rowAB_fr {P : Nat → Nat → Prop} {M M1 : Mm} {A B : Rw} (f : FrP P M M1) (hP : ∀ b j, P b j → b = 154 ∧ 32 ≤ j) (hA : rowA M A) (hB : rowB M B) : rowA M1 A ∧ rowB M1 B :=
  ⟨rowA_cells (fun b h1 h2 j => f b j (fun z => by have := hP b j z; omega)) (f _ _ (fun z => by have := hP _ _ z; omega)) (f _ _ (fun z => by have := hP _ _ z; omega)) hA,
   rowB_cells (fun b h1 h2 j => f b j (fun z => by have := hP b j z; omega)) (f _ _ (fun z => by have := hP _ _ z; omega)) (f _ _ (fun z => by have := hP _ _ z; omega)) hB⟩
set_option maxHeartbeats 600000 in
set_option maxRecDepth 20000 in
theorem Model_tellBest_s {A B : Rw} {least lap bnd mrg s : Int} {x : Bst} {a3 : Option AV} {M : Mm} {Qc : Option AV → Mm → Prop} (hst : setM M lap bnd mrg) (hA : rowA M A) (hB : rowB M B) (hs : -1000 ≤ s ∧ s ≤ 999) (hlt : s < A.2.1) (hx : okB x) (hi : bstM M x)
    (K : ∀ a3 M', bstM M' (bstS A B lap s x) → FrP bestP M M' → WPm m_Model_tellBest Qc 17 [some (.inr 154), some (.inl least), some (.inl (s + 1)), a3] [] M') :
    WPm m_Model_tellBest Qc 17 [some (.inr 154), some (.inl least), some (.inl s), a3] [] M := by
  have a1 := hA.1
  have a2 := hA.2.1
  have a3' := hA.2.2.1.1.1
  have hst2 := hst.2.1
  have c1' := eq_false (show ¬ A.2.1 ≤ s by omega)
  refine wpm_of (cuts := [17, 160]) (by decide) 100 _ _ _ _ ?_
  simp (maxSteps := 2000000) only [↓reduceIte, wp_eq, wpd_eq, kont_eq, STP1, STP2, STP3, STP4, STP5, konM_eq, AMK, CZ, Option.map, List.getElem?_cons_zero, List.getElem?_cons_succ, List.mem_cons, List.not_mem_nil, if_false, if_true, Nat.reduceAdd, Nat.reduceLT, Nat.reduceLeDiff, Nat.reduceEqDiff, true_and, and_true, List.length_nil, List.length_cons, or_true, true_or, or_false, false_or, Option.some.injEq, Sum.inl.injEq, Sum.inr.injEq, exists_eq_left', exists_eq_left, Int.reduceLE, Int.reduceLT, Int.reduceNeg, Int.reduceAdd, Int.reduceMul, Int.reduceSub, Int.reduceToNat, inR, Nat.zero_ne_one, false_and, Nat.succ_ne_zero, reduceCtorEq, false_implies, true_implies, not_false_eq_true, not_true_eq_false, Int.reduceEq, KRE, C_Model_tellBest, FM, a1, c1']
  repeat (first | refine ⟨by omega, ?_⟩ | refine ⟨fun _ _ => okt_nn (by omega), ?_⟩)
  try (first | (show _ ≤ _; omega) | (show _ < _; omega))
  refine (Model_slide_ok hA hB ⟨by omega, by omega⟩).eq ?_
  have F1 : FrP bestP M (mSlM M A B s) := (mSlM_fr M A B s).wd (fun b j z => ⟨z.1, by omega, by omega⟩)
  obtain ⟨g1, -, -, g4⟩ := mSlM_get M A B s
  have v1 := slP_in (B := B) (s := s) ⟨a3', a2⟩
  have v2 := (slS_in A B s).2.2
  have h41 : mSlM M A B s 154 41 = M 154 41 := mSlM_fr M A B s _ _ (by omega)
  have h36 : mSlM M A B s 154 36 = M 154 36 := mSlM_fr M A B s _ _ (by omega)
  have h37 : mSlM M A B s 154 37 = M 154 37 := mSlM_fr M A B s _ _ (by omega)
  have h38 : mSlM M A B s 154 38 = M 154 38 := mSlM_fr M A B s _ _ (by omega)
  have h39 : mSlM M A B s 154 39 = M 154 39 := mSlM_fr M A B s _ _ (by omega)
  have hst1 : setM (mSlM M A B s) lap bnd mrg := setM_cells (fun j => mSlM_fr M A B s _ _ (by omega)) hst
  have KS : ∀ a3 M', bstM M' (bstS A B lap s x) → FrP bestP M M' → WPm m_Model_tellBest Qc 160 [some (.inr 154), some (.inl least), some (.inl s), a3] [] M' := by
    intro a3 M' z1 z2
    refine wpm_of (cuts := [17]) (by decide) 50 _ _ _ _ ?_
    simp (maxSteps := 2000000) only [↓reduceIte, wp_eq, wpd_eq, kont_eq, STP1, STP2, STP3, STP4, STP5, konM_eq, AMK, CZ, Option.map, List.getElem?_cons_zero, List.getElem?_cons_succ, List.mem_cons, List.not_mem_nil, if_false, if_true, Nat.reduceAdd, Nat.reduceLT, Nat.reduceLeDiff, Nat.reduceEqDiff, true_and, and_true, List.length_nil, List.length_cons, or_true, true_or, or_false, false_or, Option.some.injEq, Sum.inl.injEq, Sum.inr.injEq, exists_eq_left', exists_eq_left, Int.reduceLE, Int.reduceLT, Int.reduceNeg, Int.reduceAdd, Int.reduceMul, Int.reduceSub, Int.reduceToNat, inR, Nat.zero_ne_one, false_and, Nat.succ_ne_zero, reduceCtorEq, false_implies, true_implies, not_false_eq_true, not_true_eq_false, Int.reduceEq, KRE, C_Model_tellBest]
    exact K _ _ z1 z2
  clear K
  unfold bstS at KS
  generalize mSlM M A B s = M1 at *
  try simp (maxSteps := 2000000) only [↓reduceIte, wp_eq, wpd_eq, kont_eq, STP1, STP2, STP3, STP4, STP5, konM_eq, AMK, CZ, Option.map, List.getElem?_cons_zero, List.getElem?_cons_succ, List.mem_cons, List.not_mem_nil, if_false, if_true, Nat.reduceAdd, Nat.reduceLT, Nat.reduceLeDiff, Nat.reduceEqDiff, true_and, and_true, List.length_nil, List.length_cons, or_true, true_or, or_false, false_or, Option.some.injEq, Sum.inl.injEq, Sum.inr.injEq, exists_eq_left', exists_eq_left, Int.reduceLE, Int.reduceLT, Int.reduceNeg, Int.reduceAdd, Int.reduceMul, Int.reduceSub, Int.reduceToNat, inR, Nat.zero_ne_one, false_and, Nat.succ_ne_zero, reduceCtorEq, false_implies, true_implies, not_false_eq_true, not_true_eq_false, Int.reduceEq, KRE, C_Model_tellBest, FM, g1]
  refine (Model_lap_ok hst1).eq ?_
  obtain ⟨x1, x2, x3, x4, x5⟩ := x
  obtain ⟨i1, i2, i3⟩ := hi
  obtain ⟨o1, o2, o3, o4⟩ := hx
  simp only at i1 i2 i3 o1 o2 o3 o4 KS
  generalize slScore A B s = S at *
  generalize slPairs A B s = P at *
  by_cases c2 : P < lap
  · rw [if_pos c2] at KS
    have c2' := eq_false (show ¬ lap ≤ P by omega)
    try simp (maxSteps := 2000000) only [↓reduceIte, wp_eq, wpd_eq, kont_eq, STP1, STP2, STP3, STP4, STP5, konM_eq, AMK, CZ, Option.map, List.getElem?_cons_zero, List.getElem?_cons_succ, List.mem_cons, List.not_mem_nil, if_false, if_true, Nat.reduceAdd, Nat.reduceLT, Nat.reduceLeDiff, Nat.reduceEqDiff, true_and, and_true, List.length_nil, List.length_cons, or_true, true_or, or_false, false_or, Option.some.injEq, Sum.inl.injEq, Sum.inr.injEq, exists_eq_left', exists_eq_left, Int.reduceLE, Int.reduceLT, Int.reduceNeg, Int.reduceAdd, Int.reduceMul, Int.reduceSub, Int.reduceToNat, inR, Nat.zero_ne_one, false_and, Nat.succ_ne_zero, reduceCtorEq, false_implies, true_implies, not_false_eq_true, not_true_eq_false, Int.reduceEq, KRE, C_Model_tellBest, FM, c2']
    repeat (first | refine ⟨by omega, ?_⟩ | refine ⟨fun _ _ => okt_nn (by omega), ?_⟩)
    try (first | (show _ ≤ _; omega) | (show _ < _; omega))
    refine KS _ _ ⟨?_, ?_, fun z => ⟨?_, ?_, ?_⟩⟩ F1
    · rw [h41]; exact i1
    · rw [h39]; exact i2
    · rw [h36]; exact (i3 z).1
    · rw [h37]; exact (i3 z).2.1
    · rw [h38]; exact (i3 z).2.2
  · rw [if_neg c2] at KS
    have c2' := eq_true (show lap ≤ P by omega)
    have yes : ∀ v : Int, bstM (mset (mset (mset (mset (mset M1 154 39 v) 154 41 1) 154 36 s) 154 37 S) 154 38 P) (1, s, S, P, v) ∧ FrP bestP M (mset (mset (mset (mset (mset M1 154 39 v) 154 41 1) 154 36 s) 154 37 S) 154 38 P) := by
      intro v
      refine ⟨⟨?_, ?_, fun _ => ⟨?_, ?_, ?_⟩⟩, ((((F1.st ⟨rfl, by omega, by omega⟩).st ⟨rfl, by omega, by omega⟩).st ⟨rfl, by omega, by omega⟩).st ⟨rfl, by omega, by omega⟩).st ⟨rfl, by omega, by omega⟩⟩ <;> simp [mset]
    rcases o1 with o1 | o1
    · subst o1
      have e5 := o4 rfl
      subst e5
      rw [if_neg (fun z => z.1 rfl), if_neg (fun z => z rfl)] at KS
      rw [i1] at h41
      rw [i2] at h39
      try simp (maxSteps := 2000000) only [↓reduceIte, wp_eq, wpd_eq, kont_eq, STP1, STP2, STP3, STP4, STP5, konM_eq, AMK, CZ, Option.map, List.getElem?_cons_zero, List.getElem?_cons_succ, List.mem_cons, List.not_mem_nil, if_false, if_true, Nat.reduceAdd, Nat.reduceLT, Nat.reduceLeDiff, Nat.reduceEqDiff, true_and, and_true, List.length_nil, List.length_cons, or_true, true_or, or_false, false_or, Option.some.injEq, Sum.inl.injEq, Sum.inr.injEq, exists_eq_left', exists_eq_left, Int.reduceLE, Int.reduceLT, Int.reduceNeg, Int.reduceAdd, Int.reduceMul, Int.reduceSub, Int.reduceToNat, inR, Nat.zero_ne_one, false_and, Nat.succ_ne_zero, reduceCtorEq, false_implies, true_implies, not_false_eq_true, not_true_eq_false, Int.reduceEq, KRE, C_Model_tellBest, FM, MSE, c2', h41, h39, g1, g4]
      repeat (first | refine ⟨by omega, ?_⟩ | refine ⟨fun _ _ => okt_nn (by omega), ?_⟩)
      try (first | (show _ ≤ _; omega) | (show _ < _; omega))
      rw [show max (-1 : Int) (-1) = -1 by omega]
      exact KS _ _ (yes (-1)).1 (yes (-1)).2
    · subst o1
      obtain ⟨j1, j2, j3⟩ := i3 (by omega)
      obtain ⟨o3, p3, q3, r3⟩ := o3 (by omega)
      rw [i1] at h41
      rw [i2] at h39
      rw [j1] at h36
      rw [j2] at h37
      rw [j3] at h38
      have one0 := eq_false (show ¬ (1 : Int) = 0 by omega)
      by_cases d1 : x3 < S
      · rw [if_neg (by omega), if_pos (by omega)] at KS
        have d1' := eq_true d1
        try simp (maxSteps := 2000000) only [↓reduceIte, wp_eq, wpd_eq, kont_eq, STP1, STP2, STP3, STP4, STP5, konM_eq, AMK, CZ, Option.map, List.getElem?_cons_zero, List.getElem?_cons_succ, List.mem_cons, List.not_mem_nil, if_false, if_true, Nat.reduceAdd, Nat.reduceLT, Nat.reduceLeDiff, Nat.reduceEqDiff, true_and, and_true, List.length_nil, List.length_cons, or_true, true_or, or_false, false_or, Option.some.injEq, Sum.inl.injEq, Sum.inr.injEq, exists_eq_left', exists_eq_left, Int.reduceLE, Int.reduceLT, Int.reduceNeg, Int.reduceAdd, Int.reduceMul, Int.reduceSub, Int.reduceToNat, inR, Nat.zero_ne_one, false_and, Nat.succ_ne_zero, reduceCtorEq, false_implies, true_implies, not_false_eq_true, not_true_eq_false, Int.reduceEq, KRE, C_Model_tellBest, FM, MSE, c2', h41, h39, g1, g4, h37, d1', one0]
        repeat (first | refine ⟨by omega, ?_⟩ | refine ⟨fun _ _ => okt_nn (by omega), ?_⟩)
        try (first | (show _ ≤ _; omega) | (show _ < _; omega))
        rw [show max x5 x3 = x3 by omega]
        exact KS _ _ (yes x3).1 (yes x3).2
      · have d1' := eq_false d1
        by_cases d2 : S = x3 ∧ x4 < P
        · rw [if_neg (by omega), if_pos (by omega)] at KS
          obtain ⟨d2, d3⟩ := d2
          have d2' := eq_true d2
          have d3' := eq_false (show ¬ P ≤ x4 by omega)
          try simp (maxSteps := 2000000) only [↓reduceIte, wp_eq, wpd_eq, kont_eq, STP1, STP2, STP3, STP4, STP5, konM_eq, AMK, CZ, Option.map, List.getElem?_cons_zero, List.getElem?_cons_succ, List.mem_cons, List.not_mem_nil, if_false, if_true, Nat.reduceAdd, Nat.reduceLT, Nat.reduceLeDiff, Nat.reduceEqDiff, true_and, and_true, List.length_nil, List.length_cons, or_true, true_or, or_false, false_or, Option.some.injEq, Sum.inl.injEq, Sum.inr.injEq, exists_eq_left', exists_eq_left, Int.reduceLE, Int.reduceLT, Int.reduceNeg, Int.reduceAdd, Int.reduceMul, Int.reduceSub, Int.reduceToNat, inR, Nat.zero_ne_one, false_and, Nat.succ_ne_zero, reduceCtorEq, false_implies, true_implies, not_false_eq_true, not_true_eq_false, Int.reduceEq, KRE, C_Model_tellBest, FM, MSE, c2', h41, h39, g1, g4, h37, h38, d1', d2', d3', one0]
          repeat (first | refine ⟨by omega, ?_⟩ | refine ⟨fun _ _ => okt_nn (by omega), ?_⟩)
          try (first | (show _ ≤ _; omega) | (show _ < _; omega))
          rw [show max x5 x3 = x3 by omega]
          exact KS _ _ (yes x3).1 (yes x3).2
        · rw [if_pos (by omega)] at KS
          have no : bstM (mset M1 154 39 (max x5 S)) (1, x2, x3, x4, max x5 S) ∧ FrP bestP M (mset M1 154 39 (max x5 S)) := by
            refine ⟨⟨?_, ?_, fun _ => ⟨?_, ?_, ?_⟩⟩, F1.st ⟨rfl, by omega, by omega⟩⟩ <;> simp [mset, h41, h36, h37, h38]
          by_cases d4 : S = x3
          · have d2' := eq_true d4
            have d3' := eq_true (show P ≤ x4 by omega)
            try simp (maxSteps := 2000000) only [↓reduceIte, wp_eq, wpd_eq, kont_eq, STP1, STP2, STP3, STP4, STP5, konM_eq, AMK, CZ, Option.map, List.getElem?_cons_zero, List.getElem?_cons_succ, List.mem_cons, List.not_mem_nil, if_false, if_true, Nat.reduceAdd, Nat.reduceLT, Nat.reduceLeDiff, Nat.reduceEqDiff, true_and, and_true, List.length_nil, List.length_cons, or_true, true_or, or_false, false_or, Option.some.injEq, Sum.inl.injEq, Sum.inr.injEq, exists_eq_left', exists_eq_left, Int.reduceLE, Int.reduceLT, Int.reduceNeg, Int.reduceAdd, Int.reduceMul, Int.reduceSub, Int.reduceToNat, inR, Nat.zero_ne_one, false_and, Nat.succ_ne_zero, reduceCtorEq, false_implies, true_implies, not_false_eq_true, not_true_eq_false, Int.reduceEq, KRE, C_Model_tellBest, FM, MSE, c2', h41, h39, g1, g4, h37, h38, d1', d2', d3', one0]
            repeat (first | refine ⟨by omega, ?_⟩ | refine ⟨fun _ _ => okt_nn (by omega), ?_⟩)
            try (first | (show _ ≤ _; omega) | (show _ < _; omega))
            exact KS _ _ no.1 no.2
          · have d2' := eq_false d4
            try simp (maxSteps := 2000000) only [↓reduceIte, wp_eq, wpd_eq, kont_eq, STP1, STP2, STP3, STP4, STP5, konM_eq, AMK, CZ, Option.map, List.getElem?_cons_zero, List.getElem?_cons_succ, List.mem_cons, List.not_mem_nil, if_false, if_true, Nat.reduceAdd, Nat.reduceLT, Nat.reduceLeDiff, Nat.reduceEqDiff, true_and, and_true, List.length_nil, List.length_cons, or_true, true_or, or_false, false_or, Option.some.injEq, Sum.inl.injEq, Sum.inr.injEq, exists_eq_left', exists_eq_left, Int.reduceLE, Int.reduceLT, Int.reduceNeg, Int.reduceAdd, Int.reduceMul, Int.reduceSub, Int.reduceToNat, inR, Nat.zero_ne_one, false_and, Nat.succ_ne_zero, reduceCtorEq, false_implies, true_implies, not_false_eq_true, not_true_eq_false, Int.reduceEq, KRE, C_Model_tellBest, FM, MSE, c2', h41, h39, g1, g4, h37, h38, d1', d2', one0]
            repeat (first | refine ⟨by omega, ?_⟩ | refine ⟨fun _ _ => okt_nn (by omega), ?_⟩)
            try (first | (show _ ≤ _; omega) | (show _ < _; omega))
            exact KS _ _ no.1 no.2
set_option maxHeartbeats 600000 in
set_option maxRecDepth 20000 in
theorem Model_tellBest_e {least lap bnd mrg : Int} {x : Bst} {a2 a3 : Option AV} {M : Mm} {Qc : Option AV → Mm → Prop} (hst : setM M lap bnd mrg) (hx : okB x) (hi : bstM M x) (hl : 0 ≤ least ∧ least ≤ 1000) (hq : Qc none (mset M 154 40 (why x least mrg))) :
    WPm m_Model_tellBest Qc 166 [some (.inr 154), some (.inl least), a2, a3] [] M := by
  obtain ⟨x1, x2, x3, x4, x5⟩ := x
  obtain ⟨i1, i2, i3⟩ := hi
  obtain ⟨o1, o2, o3, o4⟩ := hx
  have hm := hst.2.2
  simp only at i1 i2 i3 o1 o2 o3 o4
  unfold why at hq
  simp only at hq
  rcases o1 with o1 | o1
  · subst o1
    rw [if_pos rfl] at hq
    refine wpm_of (cuts := []) (by decide) 100 _ _ _ _ ?_
    simp (maxSteps := 2000000) only [↓reduceIte, wp_eq, wpd_eq, kont_eq, STP1, STP2, STP3, STP4, STP5, konM_eq, AMK, CZ, Option.map, List.getElem?_cons_zero, List.getElem?_cons_succ, List.mem_cons, List.not_mem_nil, if_false, if_true, Nat.reduceAdd, Nat.reduceLT, Nat.reduceLeDiff, Nat.reduceEqDiff, true_and, and_true, List.length_nil, List.length_cons, or_true, true_or, or_false, false_or, Option.some.injEq, Sum.inl.injEq, Sum.inr.injEq, exists_eq_left', exists_eq_left, Int.reduceLE, Int.reduceLT, Int.reduceNeg, Int.reduceAdd, Int.reduceMul, Int.reduceSub, Int.reduceToNat, inR, Nat.zero_ne_one, false_and, Nat.succ_ne_zero, reduceCtorEq, false_implies, true_implies, not_false_eq_true, not_true_eq_false, Int.reduceEq, KRE, C_Model_tellBest, FM, i1]
    repeat (first | refine ⟨by omega, ?_⟩ | refine ⟨fun _ _ => okt_nn (by omega), ?_⟩)
    try (first | (show _ ≤ _; omega) | (show _ < _; omega))
    exact hq
  · subst o1
    obtain ⟨j1, j2, j3⟩ := i3 (by omega)
    obtain ⟨o3, p3, q3, r3⟩ := o3 (by omega)
    have one0 := eq_false (show ¬ (1 : Int) = 0 by omega)
    rw [if_neg (by omega)] at hq
    by_cases c1 : x3 < least
    · rw [if_pos c1] at hq
      have c1' := eq_false (show ¬ least ≤ x3 by omega)
      refine wpm_of (cuts := []) (by decide) 100 _ _ _ _ ?_
      simp (maxSteps := 2000000) only [↓reduceIte, wp_eq, wpd_eq, kont_eq, STP1, STP2, STP3, STP4, STP5, konM_eq, AMK, CZ, Option.map, List.getElem?_cons_zero, List.getElem?_cons_succ, List.mem_cons, List.not_mem_nil, if_false, if_true, Nat.reduceAdd, Nat.reduceLT, Nat.reduceLeDiff, Nat.reduceEqDiff, true_and, and_true, List.length_nil, List.length_cons, or_true, true_or, or_false, false_or, Option.some.injEq, Sum.inl.injEq, Sum.inr.injEq, exists_eq_left', exists_eq_left, Int.reduceLE, Int.reduceLT, Int.reduceNeg, Int.reduceAdd, Int.reduceMul, Int.reduceSub, Int.reduceToNat, inR, Nat.zero_ne_one, false_and, Nat.succ_ne_zero, reduceCtorEq, false_implies, true_implies, not_false_eq_true, not_true_eq_false, Int.reduceEq, KRE, C_Model_tellBest, FM, i1, j2, one0, c1']
      repeat (first | refine ⟨by omega, ?_⟩ | refine ⟨fun _ _ => okt_nn (by omega), ?_⟩)
      try (first | (show _ ≤ _; omega) | (show _ < _; omega))
      exact hq
    · rw [if_neg c1] at hq
      have c1' := eq_true (show least ≤ x3 by omega)
      by_cases c2 : x5 = -1
      · rw [if_neg (fun z => z.1 c2)] at hq
        rw [c2] at i2
        refine wpm_of (cuts := []) (by decide) 100 _ _ _ _ ?_
        simp (maxSteps := 2000000) only [↓reduceIte, wp_eq, wpd_eq, kont_eq, STP1, STP2, STP3, STP4, STP5, konM_eq, AMK, CZ, Option.map, List.getElem?_cons_zero, List.getElem?_cons_succ, List.mem_cons, List.not_mem_nil, if_false, if_true, Nat.reduceAdd, Nat.reduceLT, Nat.reduceLeDiff, Nat.reduceEqDiff, true_and, and_true, List.length_nil, List.length_cons, or_true, true_or, or_false, false_or, Option.some.injEq, Sum.inl.injEq, Sum.inr.injEq, exists_eq_left', exists_eq_left, Int.reduceLE, Int.reduceLT, Int.reduceNeg, Int.reduceAdd, Int.reduceMul, Int.reduceSub, Int.reduceToNat, inR, Nat.zero_ne_one, false_and, Nat.succ_ne_zero, reduceCtorEq, false_implies, true_implies, not_false_eq_true, not_true_eq_false, Int.reduceEq, KRE, C_Model_tellBest, FM, i1, j2, i2, one0, c1']
        repeat (first | refine ⟨by omega, ?_⟩ | refine ⟨fun _ _ => okt_nn (by omega), ?_⟩)
        try (first | (show _ ≤ _; omega) | (show _ < _; omega))
        exact hq
      · have c2' := eq_false c2
        by_cases c3 : x3 - x5 < mrg
        · rw [if_pos ⟨c2, c3⟩] at hq
          have c3' := eq_false (show ¬ mrg ≤ x3 - x5 by omega)
          refine wpm_of (cuts := []) (by decide) 100 _ _ _ _ ?_
          simp (maxSteps := 2000000) only [↓reduceIte, wp_eq, wpd_eq, kont_eq, STP1, STP2, STP3, STP4, STP5, konM_eq, AMK, CZ, Option.map, List.getElem?_cons_zero, List.getElem?_cons_succ, List.mem_cons, List.not_mem_nil, if_false, if_true, Nat.reduceAdd, Nat.reduceLT, Nat.reduceLeDiff, Nat.reduceEqDiff, true_and, and_true, List.length_nil, List.length_cons, or_true, true_or, or_false, false_or, Option.some.injEq, Sum.inl.injEq, Sum.inr.injEq, exists_eq_left', exists_eq_left, Int.reduceLE, Int.reduceLT, Int.reduceNeg, Int.reduceAdd, Int.reduceMul, Int.reduceSub, Int.reduceToNat, inR, Nat.zero_ne_one, false_and, Nat.succ_ne_zero, reduceCtorEq, false_implies, true_implies, not_false_eq_true, not_true_eq_false, Int.reduceEq, KRE, C_Model_tellBest, FM, i1, j2, i2, one0, c1', c2']
          repeat (first | refine ⟨by omega, ?_⟩ | refine ⟨fun _ _ => okt_nn (by omega), ?_⟩)
          try (first | (show _ ≤ _; omega) | (show _ < _; omega))
          refine (Model_margin_ok hst).eq ?_
          try simp (maxSteps := 2000000) only [↓reduceIte, wp_eq, wpd_eq, kont_eq, STP1, STP2, STP3, STP4, STP5, konM_eq, AMK, CZ, Option.map, List.getElem?_cons_zero, List.getElem?_cons_succ, List.mem_cons, List.not_mem_nil, if_false, if_true, Nat.reduceAdd, Nat.reduceLT, Nat.reduceLeDiff, Nat.reduceEqDiff, true_and, and_true, List.length_nil, List.length_cons, or_true, true_or, or_false, false_or, Option.some.injEq, Sum.inl.injEq, Sum.inr.injEq, exists_eq_left', exists_eq_left, Int.reduceLE, Int.reduceLT, Int.reduceNeg, Int.reduceAdd, Int.reduceMul, Int.reduceSub, Int.reduceToNat, inR, Nat.zero_ne_one, false_and, Nat.succ_ne_zero, reduceCtorEq, false_implies, true_implies, not_false_eq_true, not_true_eq_false, Int.reduceEq, KRE, C_Model_tellBest, c3', FM]
          repeat (first | refine ⟨by omega, ?_⟩ | refine ⟨fun _ _ => okt_nn (by omega), ?_⟩)
          try (first | (show _ ≤ _; omega) | (show _ < _; omega))
          exact hq
        · rw [if_neg (fun z => c3 z.2)] at hq
          have c3' := eq_true (show mrg ≤ x3 - x5 by omega)
          refine wpm_of (cuts := []) (by decide) 100 _ _ _ _ ?_
          simp (maxSteps := 2000000) only [↓reduceIte, wp_eq, wpd_eq, kont_eq, STP1, STP2, STP3, STP4, STP5, konM_eq, AMK, CZ, Option.map, List.getElem?_cons_zero, List.getElem?_cons_succ, List.mem_cons, List.not_mem_nil, if_false, if_true, Nat.reduceAdd, Nat.reduceLT, Nat.reduceLeDiff, Nat.reduceEqDiff, true_and, and_true, List.length_nil, List.length_cons, or_true, true_or, or_false, false_or, Option.some.injEq, Sum.inl.injEq, Sum.inr.injEq, exists_eq_left', exists_eq_left, Int.reduceLE, Int.reduceLT, Int.reduceNeg, Int.reduceAdd, Int.reduceMul, Int.reduceSub, Int.reduceToNat, inR, Nat.zero_ne_one, false_and, Nat.succ_ne_zero, reduceCtorEq, false_implies, true_implies, not_false_eq_true, not_true_eq_false, Int.reduceEq, KRE, C_Model_tellBest, FM, i1, j2, i2, one0, c1', c2']
          repeat (first | refine ⟨by omega, ?_⟩ | refine ⟨fun _ _ => okt_nn (by omega), ?_⟩)
          try (first | (show _ ≤ _; omega) | (show _ < _; omega))
          refine (Model_margin_ok hst).eq ?_
          try simp (maxSteps := 2000000) only [↓reduceIte, wp_eq, wpd_eq, kont_eq, STP1, STP2, STP3, STP4, STP5, konM_eq, AMK, CZ, Option.map, List.getElem?_cons_zero, List.getElem?_cons_succ, List.mem_cons, List.not_mem_nil, if_false, if_true, Nat.reduceAdd, Nat.reduceLT, Nat.reduceLeDiff, Nat.reduceEqDiff, true_and, and_true, List.length_nil, List.length_cons, or_true, true_or, or_false, false_or, Option.some.injEq, Sum.inl.injEq, Sum.inr.injEq, exists_eq_left', exists_eq_left, Int.reduceLE, Int.reduceLT, Int.reduceNeg, Int.reduceAdd, Int.reduceMul, Int.reduceSub, Int.reduceToNat, inR, Nat.zero_ne_one, false_and, Nat.succ_ne_zero, reduceCtorEq, false_implies, true_implies, not_false_eq_true, not_true_eq_false, Int.reduceEq, KRE, C_Model_tellBest, c3', FM]
          repeat (first | refine ⟨by omega, ?_⟩ | refine ⟨fun _ _ => okt_nn (by omega), ?_⟩)
          try (first | (show _ ≤ _; omega) | (show _ < _; omega))
          exact hq
/-! what tellBest leaves: the best x, why by least -/
set_option maxHeartbeats 600000 in
set_option maxRecDepth 20000 in
theorem Model_tellBest_ok {A B : Rw} {least lap bnd mrg : Int} {M : Mm} (hst : setM M lap bnd mrg) (hA : rowA M A) (hB : rowB M B) (hl : 0 ≤ least ∧ least ≤ 1000) : CallV m_Model_tellBest [.inr 154, .inl least] M (fun M' => bstM M' (best A B lap) ∧ M' 154 40 = why (best A B lap) least mrg ∧ FrP bestP M M') := by
  have a1 := hA.1
  have a2 := hA.2.1
  have a3 := hA.2.2.1.1.1
  have b1 := hB.1
  have b2 := hB.2.1
  have b3 := hB.2.2.1.1.1
  have F0 : FrP bestP M (mset (mset M 154 41 0) 154 39 (-1)) := (FrP.rf.st ⟨rfl, by omega, by omega⟩).st ⟨rfl, by omega, by omega⟩
  refine callP_of (by decide) (by decide) (Nat.le_of_ble_eq_true rfl) (wpm_of (cuts := [17]) (by decide) 50 _ _ _ _ ?_)
  rw [show lM m_Model_tellBest = 4 from rfl]
  simp (maxSteps := 2000000) only [↓reduceIte, wp_eq, wpd_eq, kont_eq, STP1, STP2, STP3, STP4, STP5, konM_eq, AMK, CZ, Option.map, List.getElem?_cons_zero, List.getElem?_cons_succ, List.mem_cons, List.not_mem_nil, if_false, if_true, Nat.reduceAdd, Nat.reduceLT, Nat.reduceLeDiff, Nat.reduceEqDiff, true_and, and_true, List.length_nil, List.length_cons, or_true, true_or, or_false, false_or, Option.some.injEq, Sum.inl.injEq, Sum.inr.injEq, exists_eq_left', exists_eq_left, Int.reduceLE, Int.reduceLT, Int.reduceNeg, Int.reduceAdd, Int.reduceMul, Int.reduceSub, Int.reduceToNat, inR, Nat.zero_ne_one, false_and, Nat.succ_ne_zero, reduceCtorEq, false_implies, true_implies, not_false_eq_true, not_true_eq_false, Int.reduceEq, KRE, C_Model_tellBest, FM, MSE, b1]
  refine loopQ (A.2.1 - (1 - B.2.1)).toNat (fun k ls M1 => bstM M1 (bstN A B lap k) ∧ FrP bestP M M1 ∧ ∃ a3, ls = [some (.inr 154), some (.inl least), some (.inl (1 - B.2.1 + k)), a3]) ?_ _ _ ⟨?_, F0, none, by simp⟩
  · rintro k _ M1 hk ⟨hi, hF, a3', rfl⟩ K
    have hst1 : setM M1 lap bnd mrg := setM_cells (fun j => hF _ _ (fun z => by have := z.1; omega)) hst
    obtain ⟨hA1, hB1⟩ := rowAB_fr hF (fun b j z => ⟨z.1, z.2.1⟩) hA hB
    have ok := okB_N (A := A) (B := B) (lap := lap) ⟨a3, a2⟩ ⟨b3, by omega⟩ k (by omega)
    by_cases c : A.2.1 ≤ 1 - B.2.1 + k
    · have e26 := hA1.1
      have E := fun a2 a3 => Model_tellBest_e (a2 := a2) (a3 := a3) (least := least) (Qc := fun v M' => v = none ∧ bstM M' (best A B lap) ∧ M' 154 40 = why (best A B lap) least mrg ∧ FrP bestP M M') hst1 ok hi hl ⟨rfl, by
        have eb : best A B lap = bstN A B lap k := by
          rw [best, ← show k = (A.2.1 - (1 - B.2.1)).toNat by omega]
        rw [eb]
        refine ⟨?_, ?_, hF.st ⟨rfl, by omega, by omega⟩⟩
        · obtain ⟨i1, i2, i3⟩ := hi
          refine ⟨?_, ?_, fun z => ⟨?_, ?_, ?_⟩⟩
          · simp only [mset]; simpa using i1
          · simp only [mset]; simpa using i2
          · simp only [mset]; simpa using (i3 z).1
          · simp only [mset]; simpa using (i3 z).2.1
          · simp only [mset]; simpa using (i3 z).2.2
        · simp [mset]⟩
      have c' := eq_true c
      refine wpm_of (cuts := [17, 166]) (by decide) 50 _ _ _ _ ?_
      simp (maxSteps := 2000000) only [↓reduceIte, wp_eq, wpd_eq, kont_eq, STP1, STP2, STP3, STP4, STP5, konM_eq, AMK, CZ, Option.map, List.getElem?_cons_zero, List.getElem?_cons_succ, List.mem_cons, List.not_mem_nil, if_false, if_true, Nat.reduceAdd, Nat.reduceLT, Nat.reduceLeDiff, Nat.reduceEqDiff, true_and, and_true, List.length_nil, List.length_cons, or_true, true_or, or_false, false_or, Option.some.injEq, Sum.inl.injEq, Sum.inr.injEq, exists_eq_left', exists_eq_left, Int.reduceLE, Int.reduceLT, Int.reduceNeg, Int.reduceAdd, Int.reduceMul, Int.reduceSub, Int.reduceToNat, inR, Nat.zero_ne_one, false_and, Nat.succ_ne_zero, reduceCtorEq, false_implies, true_implies, not_false_eq_true, not_true_eq_false, Int.reduceEq, KRE, C_Model_tellBest, FM, e26, c']
      repeat (first | refine ⟨by omega, ?_⟩ | refine ⟨fun _ _ => okt_nn (by omega), ?_⟩)
      try (first | (show _ ≤ _; omega) | (show _ < _; omega))
      exact E _ _
    · refine Model_tellBest_s hst1 hA1 hB1 ⟨by omega, by omega⟩ (by omega) ok hi (fun a4 M' z1 z2 => ?_)
      refine K (by omega) _ _ ⟨z1, hF.tr z2, a4, by rw [natI, Int.add_assoc]⟩
  · refine ⟨?_, ?_, fun z => absurd rfl z⟩ <;> simp [mset, bstN]

/-! THE REFERENCE, 4: its timbers, the rows laid out, the chronology. -/
theorem WPm.wrapL {mi : Nat} {Qc : Option AV → Mm → Prop} {pc : Nat} {ls ls1 : AL} {st : List AV} {M : Mm} (h : WPm mi Qc pc ls1 st M) (el : ls1.length = ls.length) (ev : ∀ i v, am_ld ls1 i = some v → ∃ w, am_ld ls i = some w ∧ ∀ adr, cvA adr w = cvA adr v) : WPm mi Qc pc ls st M := by
  intro p l e R s m args below meth c D tA adr adV F hr hlk H locs lsC g hl
  refine h p l e R s m args below meth c D tA adr adV F hr hlk H locs lsC g ⟨hl.1, hl.2.1, el.trans hl.2.2.1, fun i v q => ?_⟩
  obtain ⟨w, hw, e2⟩ := ev i v q
  rw [← e2 adr]
  exact hl.2.2.2 i w hw
theorem iN_wrapE (x : Int) : iN (iN x).toInt = iN x := iN_ti _
/-- a wrapped number: inside by 2^32 times something -/
theorem wrap_far {x : Int} (h : 2147483648 ≤ x) (h2 : x ≤ 2147490000) : (iN x).toInt = x - 4294967296 := by
  rw [iN, Int32.toInt_ofInt]
  have e : (Int32.size : Int) = 4294967296 := rfl
  have e2 := Int.bmod_eq_of_le (n := x - 4294967296) (m := Int32.size) (by rw [e]; omega) (by rw [e]; omega)
  rw [← e2]
  rw [Int.bmod_def, Int.bmod_def, e]
  omega
theorem wrap_neg {x : Int} (h : x < -2147483648) (h2 : -2147490000 ≤ x) : (iN x).toInt = x + 4294967296 := by
  rw [iN, Int32.toInt_ofInt]
  have e : (Int32.size : Int) = 4294967296 := rfl
  have e2 := Int.bmod_eq_of_le (n := x + 4294967296) (m := Int32.size) (by rw [e]; omega) (by rw [e]; omega)
  rw [← e2]
  rw [Int.bmod_def, Int.bmod_def, e]
  omega
/-- a timber of a row of 240 -/
def mRw (f : Nat → Int) (t : Nat) : Rw := (fun j => if (j : Int) < f (30 * t) then f (30 * t + 6 + j) else 0, f (30 * t), fun j => if (j : Int) < f (30 * t) then (if btI (f (30 * t + 5)) j = true then 1 else 0) else 0)
def wfM (f : Nat → Int) (t : Nat) : Prop := (0 ≤ f (30 * t + 1) ∧ f (30 * t + 1) ≤ 30) ∧ (0 ≤ f (30 * t + 2) ∧ f (30 * t + 2) ≤ 30) ∧ (0 ≤ f (30 * t + 3) ∧ f (30 * t + 3) ≤ 3) ∧ inR (f (30 * t + 5)) ∧ ∀ i : Nat, f (30 * t) ≤ i → btI (f (30 * t + 5)) i = false
/-- the reference's timbers: n, their rows T, years Y, lap, bound, margin -/
def mdl (M : Mm) (n : Nat) (T : Nat → Rw) (Y : Nat → Int) (lap bnd mrg : Int) : Prop := (M 156 0 = n ∧ n ≤ 8) ∧ (∀ t, t < n → mRw (M 158) t = T t ∧ M 158 (30 * t + 4) = Y t ∧ wfM (M 158) t) ∧ setM M lap bnd mrg ∧ okC T Y n
def scrM : Nat → Nat → Prop := fun b j => b = 154 ∧ (j = 1 ∨ 26 ≤ j ∧ j ≤ 57 ∨ 63 ≤ j ∧ j ≤ 68) ∨ 162 ≤ b ∧ b ≤ 180 ∨ b = 184 ∨ b = 185
theorem mdl_fr {n : Nat} {T : Nat → Rw} {Y : Nat → Int} {lap bnd mrg : Int} {P : Nat → Nat → Prop} {M M1 : Mm} (h : mdl M n T Y lap bnd mrg) (f : FrP P M M1) (hP : ∀ b j, P b j → b ≠ 156 ∧ b ≠ 158) : mdl M1 n T Y lap bnd mrg := by
  obtain ⟨h1, h2, h3, h4⟩ := h
  have e6 : ∀ j, M1 156 j = M 156 j := fun j => f _ _ (fun z => (hP _ _ z).1 rfl)
  have e8 : M1 158 = M 158 := funext (fun j => f _ _ (fun z => (hP _ _ z).2 rfl))
  exact ⟨by rw [e6]; exact h1, by rw [e8]; exact h2, setM_cells e6 h3, h4⟩
theorem scr_mdl : ∀ b j, scrM b j → b ≠ 156 ∧ b ≠ 158 := fun b j h => by unfold scrM at h; omega
theorem mdl_t {n t : Nat} {T : Nat → Rw} {Y : Nat → Int} {lap bnd mrg : Int} {M : Mm} (h : mdl M n T Y lap bnd mrg) (ht : t < n) : (n ≤ 8 ∧ M 158 (30 * t) = (T t).2.1) ∧ M 158 (30 * t + 4) = Y t ∧ (∀ j : Nat, (j : Int) < (T t).2.1 → M 158 (30 * t + 6 + j) = sN (T t) j) ∧ okT (T t) ∧ (-1 ≤ Y t ∧ Y t ≤ 900) ∧ wfM (M 158) t ∧ dbM (M 158 (30 * t + 5)) (T t) := by
  obtain ⟨h1, h2, h3, h4⟩ := h
  obtain ⟨e, e4, w⟩ := h2 t ht
  obtain ⟨o1, o2⟩ := h4.2 t ht
  have em : M 158 (30 * t) = (T t).2.1 := by rw [← e]; rfl
  refine ⟨⟨h1.2, em⟩, e4, fun j hj => ?_, o1, o2, w, w.2.2.2.1, fun k k0 k1 => ?_⟩
  · rw [← e] at hj ⊢
    unfold sN
    rw [if_pos ⟨by omega, hj⟩]
    show _ = if ((j : Int).toNat : Int) < M 158 (30 * t) then M 158 (30 * t + 6 + (j : Int).toNat) else 0
    have hj' : (j : Int) < M 158 (30 * t) := hj
    rw [natT, if_pos hj']
  · have o3 := o1.1
    have d : ∀ q : Int, 0 ≤ q → q < (T t).2.1 → (sD (T t) q ≠ 0 ↔ btI (M 158 (30 * t + 5)) q.toNat = true) := by
      intro q q0 q1
      rw [← e] at q1 ⊢
      unfold sD
      rw [if_pos ⟨q0, q1⟩]
      show (if (q.toNat : Int) < M 158 (30 * t) then (if btI (M 158 (30 * t + 5)) q.toNat = true then (1 : Int) else 0) else 0) ≠ 0 ↔ _
      have q1' : q < M 158 (30 * t) := q1
      rw [if_pos (by omega)]
      split <;> simp_all
    have d1 := d k k0 k1
    unfold sShk isD
    rw [if_cg (show (0 ≤ k ∧ k < (T t).2.1 ∧ (sD (T t) k ≠ 0 ∨ sD (T t) (k - 1) ≠ 0)) ↔ (k < 24 ∧ (btI (M 158 (30 * t + 5)) k.toNat = true ∨ 0 < k ∧ btI (M 158 (30 * t + 5)) (k - 1).toNat = true)) from ?_) rfl rfl]
    · split
      · exact ⟨fun _ => by assumption, fun _ => by omega⟩
      · exact ⟨fun z => absurd rfl z, fun z => absurd z (by assumption)⟩
    · by_cases k2 : 0 < k
      · have d2 := d (k - 1) (by omega) (by omega)
        rw [d1, d2]
        constructor
        · rintro ⟨-, -, z⟩
          repeat (first | refine ⟨by omega, ?_⟩ | refine ⟨fun _ _ => okt_nn (by omega), ?_⟩)
          try (first | (show _ ≤ _; omega) | (show _ < _; omega))
          exact z.imp_right (fun z => ⟨k2, z⟩)
        · rintro ⟨-, z⟩
          exact ⟨k0, k1, z.imp_right (fun z => z.2)⟩
      · have d3 : sD (T t) (k - 1) = 0 := if_neg (by omega)
        rw [d1, d3]
        constructor
        · rintro ⟨-, -, z | z⟩
          · repeat (first | refine ⟨by omega, ?_⟩ | refine ⟨fun _ _ => okt_nn (by omega), ?_⟩)
            try (first | (show _ ≤ _; omega) | (show _ < _; omega))
            exact Or.inl z
          · exact absurd rfl z
        · rintro ⟨-, z | z⟩
          · exact ⟨k0, k1, Or.inl z⟩
          · exact absurd z.1 k2
section OFM
variable {n t : Nat} {T : Nat → Rw} {Y : Nat → Int} {lap bnd mrg : Int} {M : Mm}
theorem of_k (ht : t < 8) (k : Nat) (hk : k < 30) {x : Int} (hx : x = k) : CallI m_Model_of [.inr 154, .inl (t : Int), .inl x] M (fun y M' => y = M 158 (30 * t + k) ∧ M' = M) := by
  subst hx
  have := Model_of_ok (t := (t : Int)) (k := (k : Int)) (M := M) ⟨by omega, by omega⟩
  rw [show (30 * (t : Int) + (k : Int)).toNat = 30 * t + k by omega] at this
  exact this
theorem of_many (h : mdl M n T Y lap bnd mrg) (ht : t < n) : CallI m_Model_of [.inr 154, .inl (t : Int), .inl 0] M (fun y M' => y = (T t).2.1 ∧ M' = M) := by
  have g := mdl_t h ht
  rw [← g.1.2]
  exact of_k (by omega) 0 (by omega) rfl
theorem of_year (h : mdl M n T Y lap bnd mrg) (ht : t < n) : CallI m_Model_of [.inr 154, .inl (t : Int), .inl 4] M (fun y M' => y = Y t ∧ M' = M) := by
  have g := mdl_t h ht
  rw [← g.2.1]
  exact of_k (by omega) 4 (by omega) rfl
theorem of_width (h : mdl M n T Y lap bnd mrg) (ht : t < n) {r : Int} (r0 : 0 ≤ r) (r1 : r < (T t).2.1) : CallI m_Model_of [.inr 154, .inl (t : Int), .inl (6 + r)] M (fun y M' => y = sN (T t) r ∧ M' = M) := by
  have g := mdl_t h ht
  have o := g.2.2.2.1.1
  have e := g.2.2.1 r.toNat (by omega)
  rw [show ((r.toNat : Nat) : Int) = r by omega] at e
  rw [← e]
  have := of_k (M := M) (t := t) (by omega) (6 + r.toNat) (by omega) (x := 6 + r) (by omega)
  rw [show 30 * t + (6 + r.toNat) = 30 * t + 6 + r.toNat by omega] at this
  exact this
theorem dated_m (h : mdl M n T Y lap bnd mrg) (ht : t < n) : CallI m_Model_isDated [.inr 154, .inl (t : Int)] M (fun y M' => y = (if Y t ≠ -1 then 1 else 0) ∧ M' = M) := by
  have g := mdl_t h ht
  have gy := g.2.2.2.2.1
  have e : (30 * (t : Int) + 4).toNat = 30 * t + 4 := by omega
  have := Model_isDated_ok (t := (t : Int)) (M := M) ⟨by omega, by omega⟩ (by rw [e, g.2.1]; exact ⟨by omega, by omega⟩)
  rw [e, g.2.1] at this
  exact this
end OFM
def mFil (M : Mm) (v : Nat) (g : Nat → Int) (i : Nat) : Mm := fun b j => if b = v ∧ j < i then g j else M b j
theorem mFil_s {M : Mm} {v : Nat} {g : Nat → Int} {i : Nat} : mset (mFil M v g i) v i (g i) = mFil M v g (i + 1) := by
  funext b j
  simp only [mset, mFil]
  grind
theorem mFil_0 {M : Mm} {v : Nat} {g : Nat → Int} : mFil M v g 0 = M := by
  funext b j
  simp [mFil]
theorem mTell_fin {M : Mm} {v : Nat} {A : Rw} (h : numM M v A) : finM (mTell M (v + 1) (v + 2) A A.2.1) v A := by
  obtain ⟨h1, h2, h3⟩ := h
  refine ⟨⟨h1, h2, fun j hj => ?_⟩, fun j hj => ⟨?_, ?_⟩⟩
  · rw [← h3 j hj]
    simp [mTell]
  · simp [mTell, hj]
  · simp [mTell, hj]
theorem mTell_fr {M : Mm} {s r : Nat} {A : Rw} {n : Int} : FrP (fun b _ => b = s ∨ b = r) M (mTell M s r A n) := by
  intro b j h
  simp only [mTell]
  grind
theorem mV_full {A : Rw} {k : Int} (h : fullR A) (h0 : 0 ≤ k) (h1 : k < A.2.1) : mV A k = sN A k := if_neg (h k h0 h1)
def layAP : Nat → Nat → Prop := fun b j => b = 154 ∧ (j = 26 ∨ j = 27 ∨ j = 30) ∨ 162 ≤ b ∧ b ≤ 164
def layBP : Nat → Nat → Prop := fun b j => b = 154 ∧ (j = 28 ∨ j = 29) ∨ 165 ≤ b ∧ b ≤ 167
set_option maxHeartbeats 600000 in
set_option maxRecDepth 20000 in
theorem Model_layA_ok {n t : Nat} {T : Nat → Rw} {Y : Nat → Int} {lap bnd mrg : Int} {M : Mm} (h : mdl M n T Y lap bnd mrg) (ht : t < n) : CallV m_Model_layA [.inr 154, .inl (t : Int)] M (fun M' => rowA M' (T t) ∧ M' 154 30 = 0 ∧ FrP layAP M M') := by
  have g := mdl_t h ht
  have o := g.2.2.2.1
  have o1 := o.1
  have f0 : FrP layAP M (mset M 154 26 (T t).2.1) := FrP.rf.st (Or.inl ⟨rfl, Or.inl rfl⟩)
  have f1 : FrP layAP M (mset (mset M 154 26 (T t).2.1) 154 27 (M 158 (30 * t + 5))) := f0.st (Or.inl ⟨rfl, Or.inr (Or.inl rfl)⟩)
  have f2 : FrP layAP M (mset (mset (mset M 154 26 (T t).2.1) 154 27 (M 158 (30 * t + 5))) 154 30 0) := f1.st (Or.inl ⟨rfl, Or.inr (Or.inr rfl)⟩)
  have sep : ∀ b j, layAP b j → b ≠ 156 ∧ b ≠ 158 := fun b j z => by unfold layAP at z; omega
  refine callP_of (by decide) (by decide) (Nat.le_of_ble_eq_true rfl) (wpm_of (cuts := [27]) (by decide) 50 _ _ _ _ ?_)
  rw [show lM m_Model_layA = 3 from rfl]
  simp (maxSteps := 2000000) only [↓reduceIte, wp_eq, wpd_eq, kont_eq, STP1, STP2, STP3, STP4, STP5, konM_eq, AMK, CZ, Option.map, List.getElem?_cons_zero, List.getElem?_cons_succ, List.mem_cons, List.not_mem_nil, if_false, if_true, Nat.reduceAdd, Nat.reduceLT, Nat.reduceLeDiff, Nat.reduceEqDiff, true_and, and_true, List.length_nil, List.length_cons, or_true, true_or, or_false, false_or, Option.some.injEq, Sum.inl.injEq, Sum.inr.injEq, exists_eq_left', exists_eq_left, Int.reduceLE, Int.reduceLT, Int.reduceNeg, Int.reduceAdd, Int.reduceMul, Int.reduceSub, Int.reduceToNat, inR, Nat.zero_ne_one, false_and, Nat.succ_ne_zero, reduceCtorEq, false_implies, true_implies, not_false_eq_true, not_true_eq_false, Int.reduceEq, KRE, C_Model_layA, FM]
  refine (of_many h ht).eq ?_
  try simp (maxSteps := 2000000) only [↓reduceIte, wp_eq, wpd_eq, kont_eq, STP1, STP2, STP3, STP4, STP5, konM_eq, AMK, CZ, Option.map, List.getElem?_cons_zero, List.getElem?_cons_succ, List.mem_cons, List.not_mem_nil, if_false, if_true, Nat.reduceAdd, Nat.reduceLT, Nat.reduceLeDiff, Nat.reduceEqDiff, true_and, and_true, List.length_nil, List.length_cons, or_true, true_or, or_false, false_or, Option.some.injEq, Sum.inl.injEq, Sum.inr.injEq, exists_eq_left', exists_eq_left, Int.reduceLE, Int.reduceLT, Int.reduceNeg, Int.reduceAdd, Int.reduceMul, Int.reduceSub, Int.reduceToNat, inR, Nat.zero_ne_one, false_and, Nat.succ_ne_zero, reduceCtorEq, false_implies, true_implies, not_false_eq_true, not_true_eq_false, Int.reduceEq, KRE, C_Model_layA, FM]
  have e5 : M 158 (30 * t + 5) = mset M 154 26 (T t).2.1 158 (30 * t + 5) := (f0 _ _ (by unfold layAP; omega)).symm
  refine (of_k (by omega) 5 (by omega) rfl).eq ?_
  rw [← e5]
  try simp (maxSteps := 2000000) only [↓reduceIte, wp_eq, wpd_eq, kont_eq, STP1, STP2, STP3, STP4, STP5, konM_eq, AMK, CZ, Option.map, List.getElem?_cons_zero, List.getElem?_cons_succ, List.mem_cons, List.not_mem_nil, if_false, if_true, Nat.reduceAdd, Nat.reduceLT, Nat.reduceLeDiff, Nat.reduceEqDiff, true_and, and_true, List.length_nil, List.length_cons, or_true, true_or, or_false, false_or, Option.some.injEq, Sum.inl.injEq, Sum.inr.injEq, exists_eq_left', exists_eq_left, Int.reduceLE, Int.reduceLT, Int.reduceNeg, Int.reduceAdd, Int.reduceMul, Int.reduceSub, Int.reduceToNat, inR, Nat.zero_ne_one, false_and, Nat.succ_ne_zero, reduceCtorEq, false_implies, true_implies, not_false_eq_true, not_true_eq_false, Int.reduceEq, KRE, C_Model_layA, FM]
  refine loopQ (T t).2.1.toNat (fun k ls M1 => M1 = mFil (mset (mset (mset M 154 26 (T t).2.1) 154 27 (M 158 (30 * t + 5))) 154 30 0) 162 (fun j => sN (T t) j) k ∧ ls = [some (.inr 154), some (.inl (t : Int)), some (.inl k)]) ?_ _ _ ⟨mFil_0.symm, rfl⟩
  rintro k _ _ hk ⟨rfl, rfl⟩ K
  have e26 : mFil (mset (mset (mset M 154 26 (T t).2.1) 154 27 (M 158 (30 * t + 5))) 154 30 0) 162 (fun j => sN (T t) j) k 154 26 = (T t).2.1 := by simp [mFil, mset]
  have f3 : FrP layAP M (mFil (mset (mset (mset M 154 26 (T t).2.1) 154 27 (M 158 (30 * t + 5))) 154 30 0) 162 (fun j => sN (T t) j) k) := by
    intro b j z
    rw [← f2 b j z]
    unfold layAP at z
    simp only [mFil]
    rw [if_neg (by omega)]
  by_cases c : (T t).2.1 ≤ k
  · have c' := eq_true c
    have hk9 : (k : Int) = (T t).2.1 := by omega
    have e27 : mFil (mset (mset (mset M 154 26 (T t).2.1) 154 27 (M 158 (30 * t + 5))) 154 30 0) 162 (fun j => sN (T t) j) k 154 27 = M 158 (30 * t + 5) := by simp [mFil, mset]
    have e30 : mFil (mset (mset (mset M 154 26 (T t).2.1) 154 27 (M 158 (30 * t + 5))) 154 30 0) 162 (fun j => sN (T t) j) k 154 30 = 0 := by simp [mFil, mset]
    have num : numM (mFil (mset (mset (mset M 154 26 (T t).2.1) 154 27 (M 158 (30 * t + 5))) 154 30 0) 162 (fun j => sN (T t) j) k) 162 (T t) := by
      refine ⟨by omega, okT_R o, fun j hj => ?_⟩
      rw [mV_full (okT_full o) (by omega) hj]
      simp only [mFil]
      rw [if_pos (by first | exact ⟨rfl, by omega⟩ | exact ⟨trivial, by omega⟩ | (simp; omega))]
    generalize mFil (mset (mset (mset M 154 26 (T t).2.1) 154 27 (M 158 (30 * t + 5))) 154 30 0) 162 (fun j => sN (T t) j) k = M1 at *
    refine wpm_of (cuts := [27]) (by decide) 50 _ _ _ _ ?_
    simp (maxSteps := 2000000) only [↓reduceIte, wp_eq, wpd_eq, kont_eq, STP1, STP2, STP3, STP4, STP5, konM_eq, AMK, CZ, Option.map, List.getElem?_cons_zero, List.getElem?_cons_succ, List.mem_cons, List.not_mem_nil, if_false, if_true, Nat.reduceAdd, Nat.reduceLT, Nat.reduceLeDiff, Nat.reduceEqDiff, true_and, and_true, List.length_nil, List.length_cons, or_true, true_or, or_false, false_or, Option.some.injEq, Sum.inl.injEq, Sum.inr.injEq, exists_eq_left', exists_eq_left, Int.reduceLE, Int.reduceLT, Int.reduceNeg, Int.reduceAdd, Int.reduceMul, Int.reduceSub, Int.reduceToNat, inR, Nat.zero_ne_one, false_and, Nat.succ_ne_zero, reduceCtorEq, false_implies, true_implies, not_false_eq_true, not_true_eq_false, Int.reduceEq, KRE, C_Model_layA, FM, e26, c']
    repeat (first | refine ⟨by omega, ?_⟩ | refine ⟨fun _ _ => okt_nn (by omega), ?_⟩)
    try (first | (show _ ≤ _; omega) | (show _ < _; omega))
    refine (Model_tellRow_ok (a := 162) (s := 163) (r := 164) (len := 1000) (by simp only [FM]) (by simp only [FM]) (by simp only [FM]) (by omega) rfl (by omega) (by omega) num).eq ?_
    have f4 := mTell_fr (M := M1) (s := 163) (r := 164) (A := T t) (n := (T t).2.1)
    refine ⟨⟨?_, by omega, mTell_fin num, ?_⟩, ?_, f3.tr (f4.wd (fun b j z => Or.inr (by omega)))⟩
    · rw [f4 _ _ (by omega), e26]
    · rw [f4 _ _ (by omega), e27]; exact g.2.2.2.2.2.2
    · rw [f4 _ _ (by omega), e30]
  · have c' := eq_false c
    have h3 := mdl_fr h f3 sep
    have K' := K (by omega) _ _ ⟨rfl, rfl⟩
    rw [← mFil_s] at K'
    refine wpm_of (cuts := [27]) (by decide) 50 _ _ _ _ ?_
    simp (maxSteps := 2000000) only [↓reduceIte, wp_eq, wpd_eq, kont_eq, STP1, STP2, STP3, STP4, STP5, konM_eq, AMK, CZ, Option.map, List.getElem?_cons_zero, List.getElem?_cons_succ, List.mem_cons, List.not_mem_nil, if_false, if_true, Nat.reduceAdd, Nat.reduceLT, Nat.reduceLeDiff, Nat.reduceEqDiff, true_and, and_true, List.length_nil, List.length_cons, or_true, true_or, or_false, false_or, Option.some.injEq, Sum.inl.injEq, Sum.inr.injEq, exists_eq_left', exists_eq_left, Int.reduceLE, Int.reduceLT, Int.reduceNeg, Int.reduceAdd, Int.reduceMul, Int.reduceSub, Int.reduceToNat, inR, Nat.zero_ne_one, false_and, Nat.succ_ne_zero, reduceCtorEq, false_implies, true_implies, not_false_eq_true, not_true_eq_false, Int.reduceEq, KRE, C_Model_layA, FM, e26, c']
    repeat (first | refine ⟨by omega, ?_⟩ | refine ⟨fun _ _ => okt_nn (by omega), ?_⟩)
    try (first | (show _ ≤ _; omega) | (show _ < _; omega))
    refine (of_width h3 ht (by omega) (by omega)).eq ?_
    try simp (maxSteps := 2000000) only [↓reduceIte, wp_eq, wpd_eq, kont_eq, STP1, STP2, STP3, STP4, STP5, konM_eq, AMK, CZ, Option.map, List.getElem?_cons_zero, List.getElem?_cons_succ, List.mem_cons, List.not_mem_nil, if_false, if_true, Nat.reduceAdd, Nat.reduceLT, Nat.reduceLeDiff, Nat.reduceEqDiff, true_and, and_true, List.length_nil, List.length_cons, or_true, true_or, or_false, false_or, Option.some.injEq, Sum.inl.injEq, Sum.inr.injEq, exists_eq_left', exists_eq_left, Int.reduceLE, Int.reduceLT, Int.reduceNeg, Int.reduceAdd, Int.reduceMul, Int.reduceSub, Int.reduceToNat, inR, Nat.zero_ne_one, false_and, Nat.succ_ne_zero, reduceCtorEq, false_implies, true_implies, not_false_eq_true, not_true_eq_false, Int.reduceEq, KRE, C_Model_layA, FM]
    repeat (first | refine ⟨by omega, ?_⟩ | refine ⟨fun _ _ => okt_nn (by omega), ?_⟩)
    try (first | (show _ ≤ _; omega) | (show _ < _; omega))
    exact K'
set_option maxHeartbeats 600000 in
set_option maxRecDepth 20000 in
theorem Model_tellB_ok {B : Rw} {M : Mm} (h1 : M 154 28 = B.2.1) (h2 : B.2.1 ≤ 24) (num : numM M 165 B) : CallV m_Model_tellB [.inr 154] M (fun M' => M' = mTell M 166 167 B B.2.1) := by
  refine callP_of (by decide) (by decide) (Nat.le_of_ble_eq_true rfl) (wpm_of (cuts := []) (by decide) 50 _ _ _ _ ?_)
  rw [show lM m_Model_tellB = 1 from rfl]
  simp (maxSteps := 2000000) only [↓reduceIte, wp_eq, wpd_eq, kont_eq, STP1, STP2, STP3, STP4, STP5, konM_eq, AMK, CZ, Option.map, List.getElem?_cons_zero, List.getElem?_cons_succ, List.mem_cons, List.not_mem_nil, if_false, if_true, Nat.reduceAdd, Nat.reduceLT, Nat.reduceLeDiff, Nat.reduceEqDiff, true_and, and_true, List.length_nil, List.length_cons, or_true, true_or, or_false, false_or, Option.some.injEq, Sum.inl.injEq, Sum.inr.injEq, exists_eq_left', exists_eq_left, Int.reduceLE, Int.reduceLT, Int.reduceNeg, Int.reduceAdd, Int.reduceMul, Int.reduceSub, Int.reduceToNat, inR, Nat.zero_ne_one, false_and, Nat.succ_ne_zero, reduceCtorEq, false_implies, true_implies, not_false_eq_true, not_true_eq_false, Int.reduceEq, KRE, C_Model_tellB, FM, h1]
  exact Model_tellRow_ok (a := 165) (s := 166) (r := 167) (len := 25) (by simp only [FM]) (by simp only [FM]) (by simp only [FM]) (by omega) rfl (by omega) (by omega) num
set_option maxHeartbeats 600000 in
set_option maxRecDepth 20000 in
theorem Model_layB_ok {n t : Nat} {T : Nat → Rw} {Y : Nat → Int} {lap bnd mrg : Int} {M : Mm} (h : mdl M n T Y lap bnd mrg) (ht : t < n) : CallV m_Model_layB [.inr 154, .inl (t : Int)] M (fun M' => rowB M' (T t) ∧ FrP layBP M M') := by
  have g := mdl_t h ht
  have o := g.2.2.2.1
  have o1 := o.1
  have f0 : FrP layBP M (mset M 154 28 (T t).2.1) := FrP.rf.st (Or.inl ⟨rfl, Or.inl rfl⟩)
  have f2 : FrP layBP M (mset (mset M 154 28 (T t).2.1) 154 29 (M 158 (30 * t + 5))) := f0.st (Or.inl ⟨rfl, Or.inr rfl⟩)
  have sep : ∀ b j, layBP b j → b ≠ 156 ∧ b ≠ 158 := fun b j z => by unfold layBP at z; omega
  refine callP_of (by decide) (by decide) (Nat.le_of_ble_eq_true rfl) (wpm_of (cuts := [22]) (by decide) 50 _ _ _ _ ?_)
  rw [show lM m_Model_layB = 3 from rfl]
  simp (maxSteps := 2000000) only [↓reduceIte, wp_eq, wpd_eq, kont_eq, STP1, STP2, STP3, STP4, STP5, konM_eq, AMK, CZ, Option.map, List.getElem?_cons_zero, List.getElem?_cons_succ, List.mem_cons, List.not_mem_nil, if_false, if_true, Nat.reduceAdd, Nat.reduceLT, Nat.reduceLeDiff, Nat.reduceEqDiff, true_and, and_true, List.length_nil, List.length_cons, or_true, true_or, or_false, false_or, Option.some.injEq, Sum.inl.injEq, Sum.inr.injEq, exists_eq_left', exists_eq_left, Int.reduceLE, Int.reduceLT, Int.reduceNeg, Int.reduceAdd, Int.reduceMul, Int.reduceSub, Int.reduceToNat, inR, Nat.zero_ne_one, false_and, Nat.succ_ne_zero, reduceCtorEq, false_implies, true_implies, not_false_eq_true, not_true_eq_false, Int.reduceEq, KRE, C_Model_layB, FM]
  refine (of_many h ht).eq ?_
  try simp (maxSteps := 2000000) only [↓reduceIte, wp_eq, wpd_eq, kont_eq, STP1, STP2, STP3, STP4, STP5, konM_eq, AMK, CZ, Option.map, List.getElem?_cons_zero, List.getElem?_cons_succ, List.mem_cons, List.not_mem_nil, if_false, if_true, Nat.reduceAdd, Nat.reduceLT, Nat.reduceLeDiff, Nat.reduceEqDiff, true_and, and_true, List.length_nil, List.length_cons, or_true, true_or, or_false, false_or, Option.some.injEq, Sum.inl.injEq, Sum.inr.injEq, exists_eq_left', exists_eq_left, Int.reduceLE, Int.reduceLT, Int.reduceNeg, Int.reduceAdd, Int.reduceMul, Int.reduceSub, Int.reduceToNat, inR, Nat.zero_ne_one, false_and, Nat.succ_ne_zero, reduceCtorEq, false_implies, true_implies, not_false_eq_true, not_true_eq_false, Int.reduceEq, KRE, C_Model_layB, FM]
  have e5 : M 158 (30 * t + 5) = mset M 154 28 (T t).2.1 158 (30 * t + 5) := (f0 _ _ (by unfold layBP; omega)).symm
  refine (of_k (by omega) 5 (by omega) rfl).eq ?_
  rw [← e5]
  try simp (maxSteps := 2000000) only [↓reduceIte, wp_eq, wpd_eq, kont_eq, STP1, STP2, STP3, STP4, STP5, konM_eq, AMK, CZ, Option.map, List.getElem?_cons_zero, List.getElem?_cons_succ, List.mem_cons, List.not_mem_nil, if_false, if_true, Nat.reduceAdd, Nat.reduceLT, Nat.reduceLeDiff, Nat.reduceEqDiff, true_and, and_true, List.length_nil, List.length_cons, or_true, true_or, or_false, false_or, Option.some.injEq, Sum.inl.injEq, Sum.inr.injEq, exists_eq_left', exists_eq_left, Int.reduceLE, Int.reduceLT, Int.reduceNeg, Int.reduceAdd, Int.reduceMul, Int.reduceSub, Int.reduceToNat, inR, Nat.zero_ne_one, false_and, Nat.succ_ne_zero, reduceCtorEq, false_implies, true_implies, not_false_eq_true, not_true_eq_false, Int.reduceEq, KRE, C_Model_layB, FM]
  refine loopQ (T t).2.1.toNat (fun k ls M1 => M1 = mFil (mset (mset M 154 28 (T t).2.1) 154 29 (M 158 (30 * t + 5))) 165 (fun j => sN (T t) j) k ∧ ls = [some (.inr 154), some (.inl (t : Int)), some (.inl k)]) ?_ _ _ ⟨mFil_0.symm, rfl⟩
  rintro k _ _ hk ⟨rfl, rfl⟩ K
  have e26 : mFil (mset (mset M 154 28 (T t).2.1) 154 29 (M 158 (30 * t + 5))) 165 (fun j => sN (T t) j) k 154 28 = (T t).2.1 := by simp [mFil, mset]
  have f3 : FrP layBP M (mFil (mset (mset M 154 28 (T t).2.1) 154 29 (M 158 (30 * t + 5))) 165 (fun j => sN (T t) j) k) := by
    intro b j z
    rw [← f2 b j z]
    unfold layBP at z
    simp only [mFil]
    rw [if_neg (by omega)]
  by_cases c : (T t).2.1 ≤ k
  · have c' := eq_true c
    have hk9 : (k : Int) = (T t).2.1 := by omega
    have e27 : mFil (mset (mset M 154 28 (T t).2.1) 154 29 (M 158 (30 * t + 5))) 165 (fun j => sN (T t) j) k 154 29 = M 158 (30 * t + 5) := by simp [mFil, mset]
    have num : numM (mFil (mset (mset M 154 28 (T t).2.1) 154 29 (M 158 (30 * t + 5))) 165 (fun j => sN (T t) j) k) 165 (T t) := by
      refine ⟨by omega, okT_R o, fun j hj => ?_⟩
      rw [mV_full (okT_full o) (by omega) hj]
      simp only [mFil]
      rw [if_pos (by first | exact ⟨rfl, by omega⟩ | exact ⟨trivial, by omega⟩ | (simp; omega))]
    generalize mFil (mset (mset M 154 28 (T t).2.1) 154 29 (M 158 (30 * t + 5))) 165 (fun j => sN (T t) j) k = M1 at *
    refine wpm_of (cuts := [22]) (by decide) 50 _ _ _ _ ?_
    simp (maxSteps := 2000000) only [↓reduceIte, wp_eq, wpd_eq, kont_eq, STP1, STP2, STP3, STP4, STP5, konM_eq, AMK, CZ, Option.map, List.getElem?_cons_zero, List.getElem?_cons_succ, List.mem_cons, List.not_mem_nil, if_false, if_true, Nat.reduceAdd, Nat.reduceLT, Nat.reduceLeDiff, Nat.reduceEqDiff, true_and, and_true, List.length_nil, List.length_cons, or_true, true_or, or_false, false_or, Option.some.injEq, Sum.inl.injEq, Sum.inr.injEq, exists_eq_left', exists_eq_left, Int.reduceLE, Int.reduceLT, Int.reduceNeg, Int.reduceAdd, Int.reduceMul, Int.reduceSub, Int.reduceToNat, inR, Nat.zero_ne_one, false_and, Nat.succ_ne_zero, reduceCtorEq, false_implies, true_implies, not_false_eq_true, not_true_eq_false, Int.reduceEq, KRE, C_Model_layB, FM, e26, c']
    repeat (first | refine ⟨by omega, ?_⟩ | refine ⟨fun _ _ => okt_nn (by omega), ?_⟩)
    try (first | (show _ ≤ _; omega) | (show _ < _; omega))
    refine (Model_tellB_ok e26 (by omega) num).eq ?_
    have f4 := mTell_fr (M := M1) (s := 166) (r := 167) (A := T t) (n := (T t).2.1)
    refine ⟨⟨?_, by omega, mTell_fin num, ?_, okT_full o⟩, f3.tr (f4.wd (fun b j z => Or.inr (by omega)))⟩
    · rw [f4 _ _ (by omega), e26]
    · rw [f4 _ _ (by omega), e27]; exact g.2.2.2.2.2.2
  · have c' := eq_false c
    have h3 := mdl_fr h f3 sep
    have K' := K (by omega) _ _ ⟨rfl, rfl⟩
    rw [← mFil_s] at K'
    refine wpm_of (cuts := [22]) (by decide) 50 _ _ _ _ ?_
    simp (maxSteps := 2000000) only [↓reduceIte, wp_eq, wpd_eq, kont_eq, STP1, STP2, STP3, STP4, STP5, konM_eq, AMK, CZ, Option.map, List.getElem?_cons_zero, List.getElem?_cons_succ, List.mem_cons, List.not_mem_nil, if_false, if_true, Nat.reduceAdd, Nat.reduceLT, Nat.reduceLeDiff, Nat.reduceEqDiff, true_and, and_true, List.length_nil, List.length_cons, or_true, true_or, or_false, false_or, Option.some.injEq, Sum.inl.injEq, Sum.inr.injEq, exists_eq_left', exists_eq_left, Int.reduceLE, Int.reduceLT, Int.reduceNeg, Int.reduceAdd, Int.reduceMul, Int.reduceSub, Int.reduceToNat, inR, Nat.zero_ne_one, false_and, Nat.succ_ne_zero, reduceCtorEq, false_implies, true_implies, not_false_eq_true, not_true_eq_false, Int.reduceEq, KRE, C_Model_layB, FM, e26, c']
    repeat (first | refine ⟨by omega, ?_⟩ | refine ⟨fun _ _ => okt_nn (by omega), ?_⟩)
    try (first | (show _ ≤ _; omega) | (show _ < _; omega))
    refine (of_width h3 ht (by omega) (by omega)).eq ?_
    try simp (maxSteps := 2000000) only [↓reduceIte, wp_eq, wpd_eq, kont_eq, STP1, STP2, STP3, STP4, STP5, konM_eq, AMK, CZ, Option.map, List.getElem?_cons_zero, List.getElem?_cons_succ, List.mem_cons, List.not_mem_nil, if_false, if_true, Nat.reduceAdd, Nat.reduceLT, Nat.reduceLeDiff, Nat.reduceEqDiff, true_and, and_true, List.length_nil, List.length_cons, or_true, true_or, or_false, false_or, Option.some.injEq, Sum.inl.injEq, Sum.inr.injEq, exists_eq_left', exists_eq_left, Int.reduceLE, Int.reduceLT, Int.reduceNeg, Int.reduceAdd, Int.reduceMul, Int.reduceSub, Int.reduceToNat, inR, Nat.zero_ne_one, false_and, Nat.succ_ne_zero, reduceCtorEq, false_implies, true_implies, not_false_eq_true, not_true_eq_false, Int.reduceEq, KRE, C_Model_layB, FM]
    repeat (first | refine ⟨by omega, ?_⟩ | refine ⟨fun _ _ => okt_nn (by omega), ?_⟩)
    try (first | (show _ ≤ _; omega) | (show _ < _; omega))
    exact K'

/-! THE REFERENCE, 5: the chronology. -/
set_option maxHeartbeats 600000 in
set_option maxRecDepth 20000 in
theorem Model_widths_ok {n t : Nat} {T : Nat → Rw} {Y : Nat → Int} {lap bnd mrg : Int} {M : Mm} (h : mdl M n T Y lap bnd mrg) (ht : t < n) : CallI m_Model_widths [.inr 154, .inl (t : Int)] M (fun x M' => x = sumW (T t) ∧ M' = M) := by
  have o := (mdl_t h ht).2.2.2.1
  have o1 := o.1
  refine callP_of (by decide) (by decide) (Nat.le_of_ble_eq_true rfl) (wpm_of (cuts := [4]) (by decide) 50 _ _ _ _ ?_)
  rw [show lM m_Model_widths = 4 from rfl]
  simp (maxSteps := 2000000) only [↓reduceIte, wp_eq, wpd_eq, kont_eq, STP1, STP2, STP3, STP4, STP5, konM_eq, AMK, CZ, Option.map, List.getElem?_cons_zero, List.getElem?_cons_succ, List.mem_cons, List.not_mem_nil, if_false, if_true, Nat.reduceAdd, Nat.reduceLT, Nat.reduceLeDiff, Nat.reduceEqDiff, true_and, and_true, List.length_nil, List.length_cons, or_true, true_or, or_false, false_or, Option.some.injEq, Sum.inl.injEq, Sum.inr.injEq, exists_eq_left', exists_eq_left, Int.reduceLE, Int.reduceLT, Int.reduceNeg, Int.reduceAdd, Int.reduceMul, Int.reduceSub, Int.reduceToNat, inR, Nat.zero_ne_one, false_and, Nat.succ_ne_zero, reduceCtorEq, false_implies, true_implies, not_false_eq_true, not_true_eq_false, Int.reduceEq, KRE, C_Model_widths, FM]
  refine loopQ (T t).2.1.toNat (fun k ls M1 => M = M1 ∧ ls = [some (.inr 154), some (.inl (t : Int)), some (.inl (sumI (T t).1 k)), some (.inl k)]) ?_ _ _ ⟨rfl, rfl⟩
  rintro k _ _ hk ⟨rfl, rfl⟩ K
  refine wpm_of (cuts := [4]) (by decide) 50 _ _ _ _ ?_
  simp (maxSteps := 2000000) only [↓reduceIte, wp_eq, wpd_eq, kont_eq, STP1, STP2, STP3, STP4, STP5, konM_eq, AMK, CZ, Option.map, List.getElem?_cons_zero, List.getElem?_cons_succ, List.mem_cons, List.not_mem_nil, if_false, if_true, Nat.reduceAdd, Nat.reduceLT, Nat.reduceLeDiff, Nat.reduceEqDiff, true_and, and_true, List.length_nil, List.length_cons, or_true, true_or, or_false, false_or, Option.some.injEq, Sum.inl.injEq, Sum.inr.injEq, exists_eq_left', exists_eq_left, Int.reduceLE, Int.reduceLT, Int.reduceNeg, Int.reduceAdd, Int.reduceMul, Int.reduceSub, Int.reduceToNat, inR, Nat.zero_ne_one, false_and, Nat.succ_ne_zero, reduceCtorEq, false_implies, true_implies, not_false_eq_true, not_true_eq_false, Int.reduceEq, KRE, C_Model_widths, FM]
  refine (of_many h ht).eq ?_
  by_cases c : (T t).2.1 ≤ k
  · have c' := eq_true c
    try simp (maxSteps := 2000000) only [↓reduceIte, wp_eq, wpd_eq, kont_eq, STP1, STP2, STP3, STP4, STP5, konM_eq, AMK, CZ, Option.map, List.getElem?_cons_zero, List.getElem?_cons_succ, List.mem_cons, List.not_mem_nil, if_false, if_true, Nat.reduceAdd, Nat.reduceLT, Nat.reduceLeDiff, Nat.reduceEqDiff, true_and, and_true, List.length_nil, List.length_cons, or_true, true_or, or_false, false_or, Option.some.injEq, Sum.inl.injEq, Sum.inr.injEq, exists_eq_left', exists_eq_left, Int.reduceLE, Int.reduceLT, Int.reduceNeg, Int.reduceAdd, Int.reduceMul, Int.reduceSub, Int.reduceToNat, inR, Nat.zero_ne_one, false_and, Nat.succ_ne_zero, reduceCtorEq, false_implies, true_implies, not_false_eq_true, not_true_eq_false, Int.reduceEq, KRE, C_Model_widths, c']
    repeat (first | refine ⟨by omega, ?_⟩ | refine ⟨fun _ _ => okt_nn (by omega), ?_⟩)
    try (first | (show _ ≤ _; omega) | (show _ < _; omega))
    rw [sumW, show (k : Int) = (T t).2.1 by omega]
  · have c' := eq_false c
    try simp (maxSteps := 2000000) only [↓reduceIte, wp_eq, wpd_eq, kont_eq, STP1, STP2, STP3, STP4, STP5, konM_eq, AMK, CZ, Option.map, List.getElem?_cons_zero, List.getElem?_cons_succ, List.mem_cons, List.not_mem_nil, if_false, if_true, Nat.reduceAdd, Nat.reduceLT, Nat.reduceLeDiff, Nat.reduceEqDiff, true_and, and_true, List.length_nil, List.length_cons, or_true, true_or, or_false, false_or, Option.some.injEq, Sum.inl.injEq, Sum.inr.injEq, exists_eq_left', exists_eq_left, Int.reduceLE, Int.reduceLT, Int.reduceNeg, Int.reduceAdd, Int.reduceMul, Int.reduceSub, Int.reduceToNat, inR, Nat.zero_ne_one, false_and, Nat.succ_ne_zero, reduceCtorEq, false_implies, true_implies, not_false_eq_true, not_true_eq_false, Int.reduceEq, KRE, C_Model_widths, c']
    repeat (first | refine ⟨by omega, ?_⟩ | refine ⟨fun _ _ => okt_nn (by omega), ?_⟩)
    try (first | (show _ ≤ _; omega) | (show _ < _; omega))
    refine (of_width h ht (by omega) (by omega)).eq ?_
    try simp (maxSteps := 2000000) only [↓reduceIte, wp_eq, wpd_eq, kont_eq, STP1, STP2, STP3, STP4, STP5, konM_eq, AMK, CZ, Option.map, List.getElem?_cons_zero, List.getElem?_cons_succ, List.mem_cons, List.not_mem_nil, if_false, if_true, Nat.reduceAdd, Nat.reduceLT, Nat.reduceLeDiff, Nat.reduceEqDiff, true_and, and_true, List.length_nil, List.length_cons, or_true, true_or, or_false, false_or, Option.some.injEq, Sum.inl.injEq, Sum.inr.injEq, exists_eq_left', exists_eq_left, Int.reduceLE, Int.reduceLT, Int.reduceNeg, Int.reduceAdd, Int.reduceMul, Int.reduceSub, Int.reduceToNat, inR, Nat.zero_ne_one, false_and, Nat.succ_ne_zero, reduceCtorEq, false_implies, true_implies, not_false_eq_true, not_true_eq_false, Int.reduceEq, KRE, C_Model_widths, FM]
    have K' := K (by omega) _ _ ⟨rfl, rfl⟩
    rw [natI, sumI_succ _ (by omega), natT] at K'
    have e : sN (T t) k = (T t).1 k := by
      unfold sN
      rw [if_pos ⟨by omega, by omega⟩, natT]
    rw [e]
    exact K'
/-- a timber's ring in a year -/
def rgIn (T : Nat → Rw) (Y : Nat → Int) (t : Nat) (y : Int) : Int := if Y t ≠ -1 ∧ Y t ≤ y ∧ y < Y t + (T t).2.1 then y - Y t else -1
set_option maxHeartbeats 600000 in
set_option maxRecDepth 20000 in
theorem Model_ringIn_ok {n t : Nat} {T : Nat → Rw} {Y : Nat → Int} {lap bnd mrg y : Int} {M : Mm} (h : mdl M n T Y lap bnd mrg) (ht : t < n) (hy : inR y) : CallI m_Model_ringIn [.inr 154, .inl (t : Int), .inl y] M (fun x M' => x = rgIn T Y t y ∧ M' = M) := by
  have g := mdl_t h ht
  have o := g.2.2.2.1
  have o1 := o.1
  have gy := g.2.2.2.2.1
  simp only [inR] at hy
  refine callP_of (by decide) (by decide) (Nat.le_of_ble_eq_true rfl) (wpm_of (cuts := [9]) (by decide) 50 _ _ _ _ ?_)
  rw [show lM m_Model_ringIn = 4 from rfl]
  simp (maxSteps := 2000000) only [↓reduceIte, wp_eq, wpd_eq, kont_eq, STP1, STP2, STP3, STP4, STP5, konM_eq, AMK, CZ, Option.map, List.getElem?_cons_zero, List.getElem?_cons_succ, List.mem_cons, List.not_mem_nil, if_false, if_true, Nat.reduceAdd, Nat.reduceLT, Nat.reduceLeDiff, Nat.reduceEqDiff, true_and, and_true, List.length_nil, List.length_cons, or_true, true_or, or_false, false_or, Option.some.injEq, Sum.inl.injEq, Sum.inr.injEq, exists_eq_left', exists_eq_left, Int.reduceLE, Int.reduceLT, Int.reduceNeg, Int.reduceAdd, Int.reduceMul, Int.reduceSub, Int.reduceToNat, inR, Nat.zero_ne_one, false_and, Nat.succ_ne_zero, reduceCtorEq, false_implies, true_implies, not_false_eq_true, not_true_eq_false, Int.reduceEq, KRE, C_Model_ringIn, FM]
  refine (of_year h ht).eq ?_
  try simp (maxSteps := 2000000) only [↓reduceIte, wp_eq, wpd_eq, kont_eq, STP1, STP2, STP3, STP4, STP5, konM_eq, AMK, CZ, Option.map, List.getElem?_cons_zero, List.getElem?_cons_succ, List.mem_cons, List.not_mem_nil, if_false, if_true, Nat.reduceAdd, Nat.reduceLT, Nat.reduceLeDiff, Nat.reduceEqDiff, true_and, and_true, List.length_nil, List.length_cons, or_true, true_or, or_false, false_or, Option.some.injEq, Sum.inl.injEq, Sum.inr.injEq, exists_eq_left', exists_eq_left, Int.reduceLE, Int.reduceLT, Int.reduceNeg, Int.reduceAdd, Int.reduceMul, Int.reduceSub, Int.reduceToNat, inR, Nat.zero_ne_one, false_and, Nat.succ_ne_zero, reduceCtorEq, false_implies, true_implies, not_false_eq_true, not_true_eq_false, Int.reduceEq, KRE, C_Model_ringIn, FM]
  obtain ⟨r, hr, er, hr2⟩ : ∃ r : Int, inR r ∧ iN r = iN (y - Y t) ∧ ((0 ≤ r ∧ r < (T t).2.1 ↔ Y t ≤ y ∧ y < Y t + (T t).2.1) ∧ (0 ≤ r → r < (T t).2.1 → r = y - Y t)) := by
    by_cases c : inR (y - Y t)
    · simp only [inR] at c
      exact ⟨y - Y t, c, rfl, by omega, fun _ _ => rfl⟩
    · simp only [inR] at c
      have e : (iN (y - Y t)).toInt = _ := wrap_neg (x := y - Y t) (by omega) (by omega)
      refine ⟨(iN (y - Y t)).toInt, iN_wrap _, iN_wrapE _, ?_, ?_⟩ <;> rw [e] <;> omega
  refine WPm.wrapL (ls1 := [some (.inr 154), some (.inl (t : Int)), some (.inl y), some (.inl r)]) ?_ rfl (fun i v q => ?_)
  · simp only [inR] at hr
    by_cases c0 : Y t = -1
    · have e : rgIn T Y t y = -1 := if_neg (fun z => z.1 c0)
      rw [e]
      refine wpm_of (cuts := []) (by decide) 50 _ _ _ _ ?_
      simp (maxSteps := 2000000) only [↓reduceIte, wp_eq, wpd_eq, kont_eq, STP1, STP2, STP3, STP4, STP5, konM_eq, AMK, CZ, Option.map, List.getElem?_cons_zero, List.getElem?_cons_succ, List.mem_cons, List.not_mem_nil, if_false, if_true, Nat.reduceAdd, Nat.reduceLT, Nat.reduceLeDiff, Nat.reduceEqDiff, true_and, and_true, List.length_nil, List.length_cons, or_true, true_or, or_false, false_or, Option.some.injEq, Sum.inl.injEq, Sum.inr.injEq, exists_eq_left', exists_eq_left, Int.reduceLE, Int.reduceLT, Int.reduceNeg, Int.reduceAdd, Int.reduceMul, Int.reduceSub, Int.reduceToNat, inR, Nat.zero_ne_one, false_and, Nat.succ_ne_zero, reduceCtorEq, false_implies, true_implies, not_false_eq_true, not_true_eq_false, Int.reduceEq, KRE, C_Model_ringIn, FM]
      refine (dated_m h ht).eq ?_
      rw [if_neg (fun z => z c0)]
      try simp (maxSteps := 2000000) only [↓reduceIte, wp_eq, wpd_eq, kont_eq, STP1, STP2, STP3, STP4, STP5, konM_eq, AMK, CZ, Option.map, List.getElem?_cons_zero, List.getElem?_cons_succ, List.mem_cons, List.not_mem_nil, if_false, if_true, Nat.reduceAdd, Nat.reduceLT, Nat.reduceLeDiff, Nat.reduceEqDiff, true_and, and_true, List.length_nil, List.length_cons, or_true, true_or, or_false, false_or, Option.some.injEq, Sum.inl.injEq, Sum.inr.injEq, exists_eq_left', exists_eq_left, Int.reduceLE, Int.reduceLT, Int.reduceNeg, Int.reduceAdd, Int.reduceMul, Int.reduceSub, Int.reduceToNat, inR, Nat.zero_ne_one, false_and, Nat.succ_ne_zero, reduceCtorEq, false_implies, true_implies, not_false_eq_true, not_true_eq_false, Int.reduceEq, KRE, C_Model_ringIn, FM]
      repeat (first | refine ⟨by omega, ?_⟩ | refine ⟨fun _ _ => okt_nn (by omega), ?_⟩)
      try (first | (show _ ≤ _; omega) | (show _ < _; omega))
    · by_cases c1 : 0 ≤ r
      · have c1' := eq_false (show ¬ r < 0 by omega)
        by_cases c2 : (T t).2.1 ≤ r
        · have c2' := eq_true c2
          have e : rgIn T Y t y = -1 := if_neg (fun z => by have := hr2.1.mpr z.2; omega)
          rw [e]
          refine wpm_of (cuts := []) (by decide) 50 _ _ _ _ ?_
          simp (maxSteps := 2000000) only [↓reduceIte, wp_eq, wpd_eq, kont_eq, STP1, STP2, STP3, STP4, STP5, konM_eq, AMK, CZ, Option.map, List.getElem?_cons_zero, List.getElem?_cons_succ, List.mem_cons, List.not_mem_nil, if_false, if_true, Nat.reduceAdd, Nat.reduceLT, Nat.reduceLeDiff, Nat.reduceEqDiff, true_and, and_true, List.length_nil, List.length_cons, or_true, true_or, or_false, false_or, Option.some.injEq, Sum.inl.injEq, Sum.inr.injEq, exists_eq_left', exists_eq_left, Int.reduceLE, Int.reduceLT, Int.reduceNeg, Int.reduceAdd, Int.reduceMul, Int.reduceSub, Int.reduceToNat, inR, Nat.zero_ne_one, false_and, Nat.succ_ne_zero, reduceCtorEq, false_implies, true_implies, not_false_eq_true, not_true_eq_false, Int.reduceEq, KRE, C_Model_ringIn, FM]
          refine (dated_m h ht).eq ?_
          rw [if_pos c0]
          try simp (maxSteps := 2000000) only [↓reduceIte, wp_eq, wpd_eq, kont_eq, STP1, STP2, STP3, STP4, STP5, konM_eq, AMK, CZ, Option.map, List.getElem?_cons_zero, List.getElem?_cons_succ, List.mem_cons, List.not_mem_nil, if_false, if_true, Nat.reduceAdd, Nat.reduceLT, Nat.reduceLeDiff, Nat.reduceEqDiff, true_and, and_true, List.length_nil, List.length_cons, or_true, true_or, or_false, false_or, Option.some.injEq, Sum.inl.injEq, Sum.inr.injEq, exists_eq_left', exists_eq_left, Int.reduceLE, Int.reduceLT, Int.reduceNeg, Int.reduceAdd, Int.reduceMul, Int.reduceSub, Int.reduceToNat, inR, Nat.zero_ne_one, false_and, Nat.succ_ne_zero, reduceCtorEq, false_implies, true_implies, not_false_eq_true, not_true_eq_false, Int.reduceEq, KRE, C_Model_ringIn, FM, c1']
          repeat (first | refine ⟨by omega, ?_⟩ | refine ⟨fun _ _ => okt_nn (by omega), ?_⟩)
          try (first | (show _ ≤ _; omega) | (show _ < _; omega))
          refine (of_many h ht).eq ?_
          try simp (maxSteps := 2000000) only [↓reduceIte, wp_eq, wpd_eq, kont_eq, STP1, STP2, STP3, STP4, STP5, konM_eq, AMK, CZ, Option.map, List.getElem?_cons_zero, List.getElem?_cons_succ, List.mem_cons, List.not_mem_nil, if_false, if_true, Nat.reduceAdd, Nat.reduceLT, Nat.reduceLeDiff, Nat.reduceEqDiff, true_and, and_true, List.length_nil, List.length_cons, or_true, true_or, or_false, false_or, Option.some.injEq, Sum.inl.injEq, Sum.inr.injEq, exists_eq_left', exists_eq_left, Int.reduceLE, Int.reduceLT, Int.reduceNeg, Int.reduceAdd, Int.reduceMul, Int.reduceSub, Int.reduceToNat, inR, Nat.zero_ne_one, false_and, Nat.succ_ne_zero, reduceCtorEq, false_implies, true_implies, not_false_eq_true, not_true_eq_false, Int.reduceEq, KRE, C_Model_ringIn, FM, c2']
          repeat (first | refine ⟨by omega, ?_⟩ | refine ⟨fun _ _ => okt_nn (by omega), ?_⟩)
          try (first | (show _ ≤ _; omega) | (show _ < _; omega))
        · have c2' := eq_false c2
          have e : rgIn T Y t y = r := by
            rw [hr2.2 c1 (by omega)]
            exact if_pos ⟨c0, hr2.1.mp ⟨c1, by omega⟩⟩
          rw [e]
          refine wpm_of (cuts := []) (by decide) 50 _ _ _ _ ?_
          simp (maxSteps := 2000000) only [↓reduceIte, wp_eq, wpd_eq, kont_eq, STP1, STP2, STP3, STP4, STP5, konM_eq, AMK, CZ, Option.map, List.getElem?_cons_zero, List.getElem?_cons_succ, List.mem_cons, List.not_mem_nil, if_false, if_true, Nat.reduceAdd, Nat.reduceLT, Nat.reduceLeDiff, Nat.reduceEqDiff, true_and, and_true, List.length_nil, List.length_cons, or_true, true_or, or_false, false_or, Option.some.injEq, Sum.inl.injEq, Sum.inr.injEq, exists_eq_left', exists_eq_left, Int.reduceLE, Int.reduceLT, Int.reduceNeg, Int.reduceAdd, Int.reduceMul, Int.reduceSub, Int.reduceToNat, inR, Nat.zero_ne_one, false_and, Nat.succ_ne_zero, reduceCtorEq, false_implies, true_implies, not_false_eq_true, not_true_eq_false, Int.reduceEq, KRE, C_Model_ringIn, FM]
          refine (dated_m h ht).eq ?_
          rw [if_pos c0]
          try simp (maxSteps := 2000000) only [↓reduceIte, wp_eq, wpd_eq, kont_eq, STP1, STP2, STP3, STP4, STP5, konM_eq, AMK, CZ, Option.map, List.getElem?_cons_zero, List.getElem?_cons_succ, List.mem_cons, List.not_mem_nil, if_false, if_true, Nat.reduceAdd, Nat.reduceLT, Nat.reduceLeDiff, Nat.reduceEqDiff, true_and, and_true, List.length_nil, List.length_cons, or_true, true_or, or_false, false_or, Option.some.injEq, Sum.inl.injEq, Sum.inr.injEq, exists_eq_left', exists_eq_left, Int.reduceLE, Int.reduceLT, Int.reduceNeg, Int.reduceAdd, Int.reduceMul, Int.reduceSub, Int.reduceToNat, inR, Nat.zero_ne_one, false_and, Nat.succ_ne_zero, reduceCtorEq, false_implies, true_implies, not_false_eq_true, not_true_eq_false, Int.reduceEq, KRE, C_Model_ringIn, FM, c1']
          repeat (first | refine ⟨by omega, ?_⟩ | refine ⟨fun _ _ => okt_nn (by omega), ?_⟩)
          try (first | (show _ ≤ _; omega) | (show _ < _; omega))
          refine (of_many h ht).eq ?_
          try simp (maxSteps := 2000000) only [↓reduceIte, wp_eq, wpd_eq, kont_eq, STP1, STP2, STP3, STP4, STP5, konM_eq, AMK, CZ, Option.map, List.getElem?_cons_zero, List.getElem?_cons_succ, List.mem_cons, List.not_mem_nil, if_false, if_true, Nat.reduceAdd, Nat.reduceLT, Nat.reduceLeDiff, Nat.reduceEqDiff, true_and, and_true, List.length_nil, List.length_cons, or_true, true_or, or_false, false_or, Option.some.injEq, Sum.inl.injEq, Sum.inr.injEq, exists_eq_left', exists_eq_left, Int.reduceLE, Int.reduceLT, Int.reduceNeg, Int.reduceAdd, Int.reduceMul, Int.reduceSub, Int.reduceToNat, inR, Nat.zero_ne_one, false_and, Nat.succ_ne_zero, reduceCtorEq, false_implies, true_implies, not_false_eq_true, not_true_eq_false, Int.reduceEq, KRE, C_Model_ringIn, FM, c2']
          repeat (first | refine ⟨by omega, ?_⟩ | refine ⟨fun _ _ => okt_nn (by omega), ?_⟩)
          try (first | (show _ ≤ _; omega) | (show _ < _; omega))
      · have c1' := eq_true (show r < 0 by omega)
        have e : rgIn T Y t y = -1 := if_neg (fun z => by have := hr2.1.mpr z.2; omega)
        rw [e]
        refine wpm_of (cuts := []) (by decide) 50 _ _ _ _ ?_
        simp (maxSteps := 2000000) only [↓reduceIte, wp_eq, wpd_eq, kont_eq, STP1, STP2, STP3, STP4, STP5, konM_eq, AMK, CZ, Option.map, List.getElem?_cons_zero, List.getElem?_cons_succ, List.mem_cons, List.not_mem_nil, if_false, if_true, Nat.reduceAdd, Nat.reduceLT, Nat.reduceLeDiff, Nat.reduceEqDiff, true_and, and_true, List.length_nil, List.length_cons, or_true, true_or, or_false, false_or, Option.some.injEq, Sum.inl.injEq, Sum.inr.injEq, exists_eq_left', exists_eq_left, Int.reduceLE, Int.reduceLT, Int.reduceNeg, Int.reduceAdd, Int.reduceMul, Int.reduceSub, Int.reduceToNat, inR, Nat.zero_ne_one, false_and, Nat.succ_ne_zero, reduceCtorEq, false_implies, true_implies, not_false_eq_true, not_true_eq_false, Int.reduceEq, KRE, C_Model_ringIn, FM]
        refine (dated_m h ht).eq ?_
        rw [if_pos c0]
        try simp (maxSteps := 2000000) only [↓reduceIte, wp_eq, wpd_eq, kont_eq, STP1, STP2, STP3, STP4, STP5, konM_eq, AMK, CZ, Option.map, List.getElem?_cons_zero, List.getElem?_cons_succ, List.mem_cons, List.not_mem_nil, if_false, if_true, Nat.reduceAdd, Nat.reduceLT, Nat.reduceLeDiff, Nat.reduceEqDiff, true_and, and_true, List.length_nil, List.length_cons, or_true, true_or, or_false, false_or, Option.some.injEq, Sum.inl.injEq, Sum.inr.injEq, exists_eq_left', exists_eq_left, Int.reduceLE, Int.reduceLT, Int.reduceNeg, Int.reduceAdd, Int.reduceMul, Int.reduceSub, Int.reduceToNat, inR, Nat.zero_ne_one, false_and, Nat.succ_ne_zero, reduceCtorEq, false_implies, true_implies, not_false_eq_true, not_true_eq_false, Int.reduceEq, KRE, C_Model_ringIn, FM, c1']
        repeat (first | refine ⟨by omega, ?_⟩ | refine ⟨fun _ _ => okt_nn (by omega), ?_⟩)
        try (first | (show _ ≤ _; omega) | (show _ < _; omega))
  · match i, q with
    | 0, q => exact ⟨v, q, fun _ => rfl⟩
    | 1, q => exact ⟨v, q, fun _ => rfl⟩
    | 2, q => exact ⟨v, q, fun _ => rfl⟩
    | 3, q =>
      have q' : some (.inl r) = some v := q
      obtain rfl := Option.some.inj q'
      exact ⟨.inl (y - Y t), rfl, fun adr => congrArg Value.int er.symm⟩
    | k + 4, q => cases q
/-- the index of a year, of the reference: none is -1 -/
def ixM (T : Nat → Rw) (Y : Nat → Int) (wo : Int) (n : Nat) (y : Int) : Int := if cNum T Y wo n y = 0 then -1 else cNum T Y wo n y
set_option maxHeartbeats 600000 in
set_option maxRecDepth 20000 in
theorem Model_indexOf_ok {n : Nat} {T : Nat → Rw} {Y : Nat → Int} {lap bnd mrg y wo : Int} {M : Mm} (h : mdl M n T Y lap bnd mrg) (hy : inR y) (hwo : inR wo) (hs : ∀ t, t < n → M 168 t = sumW (T t)) : CallI m_Model_indexOf [.inr 154, .inl y, .inl wo] M (fun x M' => x = ixM T Y wo n y ∧ M' = M) := by
  have hc := h.2.2.2
  have en := h.1.1
  have h8 := h.1.2
  refine callP_of (by decide) (by decide) (Nat.le_of_ble_eq_true rfl) (wpm_of (cuts := [8]) (by decide) 50 _ _ _ _ ?_)
  rw [show lM m_Model_indexOf = 7 from rfl]
  simp (maxSteps := 2000000) only [↓reduceIte, wp_eq, wpd_eq, kont_eq, STP1, STP2, STP3, STP4, STP5, konM_eq, AMK, CZ, Option.map, List.getElem?_cons_zero, List.getElem?_cons_succ, List.mem_cons, List.not_mem_nil, if_false, if_true, Nat.reduceAdd, Nat.reduceLT, Nat.reduceLeDiff, Nat.reduceEqDiff, true_and, and_true, List.length_nil, List.length_cons, or_true, true_or, or_false, false_or, Option.some.injEq, Sum.inl.injEq, Sum.inr.injEq, exists_eq_left', exists_eq_left, Int.reduceLE, Int.reduceLT, Int.reduceNeg, Int.reduceAdd, Int.reduceMul, Int.reduceSub, Int.reduceToNat, inR, Nat.zero_ne_one, false_and, Nat.succ_ne_zero, reduceCtorEq, false_implies, true_implies, not_false_eq_true, not_true_eq_false, Int.reduceEq, KRE, C_Model_indexOf, FM]
  refine loopQ n (fun k ls M1 => M = M1 ∧ ∃ a6, ls = [some (.inr 154), some (.inl y), some (.inl wo), some (.inl (cSum T Y wo k y)), some (.inl (cDep T Y wo k y)), some (.inl k), a6]) ?_ _ _ ⟨rfl, none, rfl⟩
  rintro k _ _ hk ⟨rfl, a6, rfl⟩ K
  have hck : okC T Y k := ⟨by omega, fun t ht => hc.2 t (by omega)⟩
  have d1 := cDep_in (wo := wo) (y := y) hck
  have d2 := cSum_in (wo := wo) (y := y) hck
  by_cases c : k = n
  · subst c
    have c' := eq_true (show (k : Int) ≤ k by omega)
    have d3 := cNum_in (wo := wo) (y := y) hck
    by_cases c0 : cDep T Y wo k y = 0
    · have e : ixM T Y wo k y = -1 := if_pos (by omega)
      rw [e]
      have c0' := eq_true c0
      refine wpm_of (cuts := []) (by decide) 80 _ _ _ _ ?_
      simp (maxSteps := 2000000) only [↓reduceIte, wp_eq, wpd_eq, kont_eq, STP1, STP2, STP3, STP4, STP5, konM_eq, AMK, CZ, Option.map, List.getElem?_cons_zero, List.getElem?_cons_succ, List.mem_cons, List.not_mem_nil, if_false, if_true, Nat.reduceAdd, Nat.reduceLT, Nat.reduceLeDiff, Nat.reduceEqDiff, true_and, and_true, List.length_nil, List.length_cons, or_true, true_or, or_false, false_or, Option.some.injEq, Sum.inl.injEq, Sum.inr.injEq, exists_eq_left', exists_eq_left, Int.reduceLE, Int.reduceLT, Int.reduceNeg, Int.reduceAdd, Int.reduceMul, Int.reduceSub, Int.reduceToNat, inR, Nat.zero_ne_one, false_and, Nat.succ_ne_zero, reduceCtorEq, false_implies, true_implies, not_false_eq_true, not_true_eq_false, Int.reduceEq, KRE, C_Model_indexOf, FM, en, c', c0']
      repeat (first | refine ⟨by omega, ?_⟩ | refine ⟨fun _ _ => okt_nn (by omega), ?_⟩)
      try (first | (show _ ≤ _; omega) | (show _ < _; omega))
    · have e : ixM T Y wo k y = (cSum T Y wo k y).tdiv (cDep T Y wo k y) := by
        unfold ixM
        rw [if_neg (by omega)]
        exact if_neg (by omega)
      rw [e]
      have c0' := eq_false c0
      refine wpm_of (cuts := []) (by decide) 80 _ _ _ _ ?_
      simp (maxSteps := 2000000) only [↓reduceIte, wp_eq, wpd_eq, kont_eq, STP1, STP2, STP3, STP4, STP5, konM_eq, AMK, CZ, Option.map, List.getElem?_cons_zero, List.getElem?_cons_succ, List.mem_cons, List.not_mem_nil, if_false, if_true, Nat.reduceAdd, Nat.reduceLT, Nat.reduceLeDiff, Nat.reduceEqDiff, true_and, and_true, List.length_nil, List.length_cons, or_true, true_or, or_false, false_or, Option.some.injEq, Sum.inl.injEq, Sum.inr.injEq, exists_eq_left', exists_eq_left, Int.reduceLE, Int.reduceLT, Int.reduceNeg, Int.reduceAdd, Int.reduceMul, Int.reduceSub, Int.reduceToNat, inR, Nat.zero_ne_one, false_and, Nat.succ_ne_zero, reduceCtorEq, false_implies, true_implies, not_false_eq_true, not_true_eq_false, Int.reduceEq, KRE, C_Model_indexOf, FM, en, c', c0']
      repeat (first | refine ⟨by omega, ?_⟩ | refine ⟨fun _ _ => okt_nn (by omega), ?_⟩)
      try (first | (show _ ≤ _; omega) | (show _ < _; omega))
      simp only [inR]
      omega
  · have c' := eq_false (show ¬ (n : Int) ≤ k by omega)
    have hkn : k < n := by omega
    have K' := fun a6 => K hkn _ _ ⟨rfl, a6, rfl⟩
    rw [natI, cSum_succ, cDep_succ] at K'
    have g := mdl_t h hkn
    have o := g.2.2.2.1
    have o1 := o.1
    have KN : ¬ ((k : Int) ≠ wo ∧ Y k ≠ -1 ∧ Y k ≤ y ∧ y < Y k + (T k).2.1) → ∀ a6 : Option AV, WPm m_Model_indexOf (fun v M' => ∃ x, v = some (.inl x) ∧ x = ixM T Y wo n y ∧ M' = M) 38 [some (.inr 154), some (.inl y), some (.inl wo), some (.inl (cSum T Y wo k y)), some (.inl (cDep T Y wo k y)), some (.inl k), some (.inl (-1))] [] M := by
      intro z a6
      rw [if_neg z, if_neg z] at K'
      simp only [Int.add_zero] at K'
      refine wpm_of (cuts := [8]) (by decide) 80 _ _ _ _ ?_
      simp (maxSteps := 2000000) only [↓reduceIte, wp_eq, wpd_eq, kont_eq, STP1, STP2, STP3, STP4, STP5, konM_eq, AMK, CZ, Option.map, List.getElem?_cons_zero, List.getElem?_cons_succ, List.mem_cons, List.not_mem_nil, if_false, if_true, Nat.reduceAdd, Nat.reduceLT, Nat.reduceLeDiff, Nat.reduceEqDiff, true_and, and_true, List.length_nil, List.length_cons, or_true, true_or, or_false, false_or, Option.some.injEq, Sum.inl.injEq, Sum.inr.injEq, exists_eq_left', exists_eq_left, Int.reduceLE, Int.reduceLT, Int.reduceNeg, Int.reduceAdd, Int.reduceMul, Int.reduceSub, Int.reduceToNat, inR, Nat.zero_ne_one, false_and, Nat.succ_ne_zero, reduceCtorEq, false_implies, true_implies, not_false_eq_true, not_true_eq_false, Int.reduceEq, KRE, C_Model_indexOf, FM]
      repeat (first | refine ⟨by omega, ?_⟩ | refine ⟨fun _ _ => okt_nn (by omega), ?_⟩)
      try (first | (show _ ≤ _; omega) | (show _ < _; omega))
      exact K' _
    by_cases c1 : (k : Int) = wo
    · have c1' := eq_true c1
      refine wpm_of (cuts := [8, 38]) (by decide) 80 _ _ _ _ ?_
      simp (maxSteps := 2000000) only [↓reduceIte, wp_eq, wpd_eq, kont_eq, STP1, STP2, STP3, STP4, STP5, konM_eq, AMK, CZ, Option.map, List.getElem?_cons_zero, List.getElem?_cons_succ, List.mem_cons, List.not_mem_nil, if_false, if_true, Nat.reduceAdd, Nat.reduceLT, Nat.reduceLeDiff, Nat.reduceEqDiff, true_and, and_true, List.length_nil, List.length_cons, or_true, true_or, or_false, false_or, Option.some.injEq, Sum.inl.injEq, Sum.inr.injEq, exists_eq_left', exists_eq_left, Int.reduceLE, Int.reduceLT, Int.reduceNeg, Int.reduceAdd, Int.reduceMul, Int.reduceSub, Int.reduceToNat, inR, Nat.zero_ne_one, false_and, Nat.succ_ne_zero, reduceCtorEq, false_implies, true_implies, not_false_eq_true, not_true_eq_false, Int.reduceEq, KRE, C_Model_indexOf, FM, en, c', c1']
      simp only [inR] at hwo
      repeat (first | refine ⟨by omega, ?_⟩ | refine ⟨fun _ _ => okt_nn (by omega), ?_⟩)
      try (first | (show _ ≤ _; omega) | (show _ < _; omega))
      exact KN (fun z => z.1 c1) none
    · have c1' := eq_false c1
      simp only [inR] at hwo
      refine wpm_of (cuts := [8, 38]) (by decide) 80 _ _ _ _ ?_
      simp (maxSteps := 2000000) only [↓reduceIte, wp_eq, wpd_eq, kont_eq, STP1, STP2, STP3, STP4, STP5, konM_eq, AMK, CZ, Option.map, List.getElem?_cons_zero, List.getElem?_cons_succ, List.mem_cons, List.not_mem_nil, if_false, if_true, Nat.reduceAdd, Nat.reduceLT, Nat.reduceLeDiff, Nat.reduceEqDiff, true_and, and_true, List.length_nil, List.length_cons, or_true, true_or, or_false, false_or, Option.some.injEq, Sum.inl.injEq, Sum.inr.injEq, exists_eq_left', exists_eq_left, Int.reduceLE, Int.reduceLT, Int.reduceNeg, Int.reduceAdd, Int.reduceMul, Int.reduceSub, Int.reduceToNat, inR, Nat.zero_ne_one, false_and, Nat.succ_ne_zero, reduceCtorEq, false_implies, true_implies, not_false_eq_true, not_true_eq_false, Int.reduceEq, KRE, C_Model_indexOf, FM, en, c', c1']
      repeat (first | refine ⟨by omega, ?_⟩ | refine ⟨fun _ _ => okt_nn (by omega), ?_⟩)
      try (first | (show _ ≤ _; omega) | (show _ < _; omega))
      refine (Model_ringIn_ok h hkn hy).eq ?_
      try simp (maxSteps := 2000000) only [↓reduceIte, wp_eq, wpd_eq, kont_eq, STP1, STP2, STP3, STP4, STP5, konM_eq, AMK, CZ, Option.map, List.getElem?_cons_zero, List.getElem?_cons_succ, List.mem_cons, List.not_mem_nil, if_false, if_true, Nat.reduceAdd, Nat.reduceLT, Nat.reduceLeDiff, Nat.reduceEqDiff, true_and, and_true, List.length_nil, List.length_cons, or_true, true_or, or_false, false_or, Option.some.injEq, Sum.inl.injEq, Sum.inr.injEq, exists_eq_left', exists_eq_left, Int.reduceLE, Int.reduceLT, Int.reduceNeg, Int.reduceAdd, Int.reduceMul, Int.reduceSub, Int.reduceToNat, inR, Nat.zero_ne_one, false_and, Nat.succ_ne_zero, reduceCtorEq, false_implies, true_implies, not_false_eq_true, not_true_eq_false, Int.reduceEq, KRE, C_Model_indexOf, FM]
      by_cases c2 : Y k ≠ -1 ∧ Y k ≤ y ∧ y < Y k + (T k).2.1
      · rw [show rgIn T Y k y = y - Y k from if_pos c2]
        rw [if_pos ⟨c1, c2⟩, if_pos ⟨c1, c2⟩] at K'
        have c2' := eq_false (show ¬ y - Y k = -1 by omega)
        have b1 := sumW_in o
        have b2 := okT_N (r := y - Y k) o
        have b3 := hs k hkn
        have b4 := ixF_in o (r := y - Y k) (by omega) (by omega)
        have b5 : 1000 * sN (T k) (y - Y k) * (T k).2.1 ≤ 99000 * 24 ∧ 0 ≤ 1000 * sN (T k) (y - Y k) * (T k).2.1 := by
          have q1 : 1000 * sN (T k) (y - Y k) * (T k).2.1 ≤ 99000 * (T k).2.1 := Int.mul_le_mul_of_nonneg_right (by omega) (by omega)
          have q2 : 0 ≤ 1000 * sN (T k) (y - Y k) * (T k).2.1 := Int.mul_nonneg (by omega) (by omega)
          omega
        have e : (1000 * sN (T k) (y - Y k) * (T k).2.1).tdiv (sumW (T k)) = ixF (T k) (y - Y k) := rfl
        refine wpm_of (cuts := [8]) (by decide) 80 _ _ _ _ ?_
        simp (maxSteps := 2000000) only [↓reduceIte, wp_eq, wpd_eq, kont_eq, STP1, STP2, STP3, STP4, STP5, konM_eq, AMK, CZ, Option.map, List.getElem?_cons_zero, List.getElem?_cons_succ, List.mem_cons, List.not_mem_nil, if_false, if_true, Nat.reduceAdd, Nat.reduceLT, Nat.reduceLeDiff, Nat.reduceEqDiff, true_and, and_true, List.length_nil, List.length_cons, or_true, true_or, or_false, false_or, Option.some.injEq, Sum.inl.injEq, Sum.inr.injEq, exists_eq_left', exists_eq_left, Int.reduceLE, Int.reduceLT, Int.reduceNeg, Int.reduceAdd, Int.reduceMul, Int.reduceSub, Int.reduceToNat, inR, Nat.zero_ne_one, false_and, Nat.succ_ne_zero, reduceCtorEq, false_implies, true_implies, not_false_eq_true, not_true_eq_false, Int.reduceEq, KRE, C_Model_indexOf, FM, c2']
        repeat (first | refine ⟨by omega, ?_⟩ | refine ⟨fun _ _ => okt_nn (by omega), ?_⟩)
        try (first | (show _ ≤ _; omega) | (show _ < _; omega))
        refine (of_width h hkn (by omega) (by omega)).eq ?_
        try simp (maxSteps := 2000000) only [↓reduceIte, wp_eq, wpd_eq, kont_eq, STP1, STP2, STP3, STP4, STP5, konM_eq, AMK, CZ, Option.map, List.getElem?_cons_zero, List.getElem?_cons_succ, List.mem_cons, List.not_mem_nil, if_false, if_true, Nat.reduceAdd, Nat.reduceLT, Nat.reduceLeDiff, Nat.reduceEqDiff, true_and, and_true, List.length_nil, List.length_cons, or_true, true_or, or_false, false_or, Option.some.injEq, Sum.inl.injEq, Sum.inr.injEq, exists_eq_left', exists_eq_left, Int.reduceLE, Int.reduceLT, Int.reduceNeg, Int.reduceAdd, Int.reduceMul, Int.reduceSub, Int.reduceToNat, inR, Nat.zero_ne_one, false_and, Nat.succ_ne_zero, reduceCtorEq, false_implies, true_implies, not_false_eq_true, not_true_eq_false, Int.reduceEq, KRE, C_Model_indexOf, FM]
        refine (of_many h hkn).eq ?_
        try simp (maxSteps := 2000000) only [↓reduceIte, wp_eq, wpd_eq, kont_eq, STP1, STP2, STP3, STP4, STP5, konM_eq, AMK, CZ, Option.map, List.getElem?_cons_zero, List.getElem?_cons_succ, List.mem_cons, List.not_mem_nil, if_false, if_true, Nat.reduceAdd, Nat.reduceLT, Nat.reduceLeDiff, Nat.reduceEqDiff, true_and, and_true, List.length_nil, List.length_cons, or_true, true_or, or_false, false_or, Option.some.injEq, Sum.inl.injEq, Sum.inr.injEq, exists_eq_left', exists_eq_left, Int.reduceLE, Int.reduceLT, Int.reduceNeg, Int.reduceAdd, Int.reduceMul, Int.reduceSub, Int.reduceToNat, inR, Nat.zero_ne_one, false_and, Nat.succ_ne_zero, reduceCtorEq, false_implies, true_implies, not_false_eq_true, not_true_eq_false, Int.reduceEq, KRE, C_Model_indexOf, FM, natT, b3, e]
        simp only [inR]
        repeat (first | refine ⟨by omega, ?_⟩ | refine ⟨fun _ _ => okt_nn (by omega), ?_⟩)
        try (first | (show _ ≤ _; omega) | (show _ < _; omega))
        exact K' _
      · rw [show rgIn T Y k y = -1 from if_neg c2]
        exact KN (fun z => c2 z.2) none
def chrP : Nat → Nat → Prop := fun b j => b = 154 ∧ (j = 26 ∨ j = 27 ∨ j = 30) ∨ 162 ≤ b ∧ b ≤ 164 ∨ b = 168
set_option maxHeartbeats 600000 in
set_option maxRecDepth 20000 in
theorem Model_layChr_2 {n : Nat} {T : Nat → Rw} {Y : Nat → Int} {lap bnd mrg wo : Int} {M0 M : Mm} {a1 : Option AV} (h : mdl M n T Y lap bnd mrg) (hwo : inR wo) (hs : ∀ t, t < n → M 168 t = sumW (T t)) (ha : M 154 30 = (cSpan T Y wo n).1) (f0 : FrP chrP M0 M) :
    WPm m_Model_layChronology (fun v M' => v = none ∧ rowA M' (chr T Y wo n) ∧ M' 154 30 = (cSpan T Y wo n).1 ∧ FrP chrP M0 M') 106 [some (.inr 154), some (.inl wo), some (.inl (cSpan T Y wo n).2), a1] [] M := by
  have hc := h.2.2.2
  have sp := (cSpan_in (wo := wo) hc).1
  have cl := cLen_in (wo := wo) hc
  have rr := chr_R (wo := wo) hc
  have sep : ∀ b j, chrP b j → b ≠ 156 ∧ b ≠ 158 := fun b j z => by unfold chrP at z; omega
  have KK : ∀ M1 : Mm, M1 = mset (mset M 154 27 0) 154 26 (cLen T Y wo n) → WPm m_Model_layChronology (fun v M' => v = none ∧ rowA M' (chr T Y wo n) ∧ M' 154 30 = (cSpan T Y wo n).1 ∧ FrP chrP M0 M') 137 [some (.inr 154), some (.inl wo), some (.inl (cSpan T Y wo n).2), some (.inl 0)] [] M1 := by
    intro M1 e1
    have f1 : FrP chrP M0 M1 := by
      rw [e1]
      exact (f0.st (Or.inl ⟨rfl, by omega⟩)).st (Or.inl ⟨rfl, by omega⟩)
    have f1b : FrP chrP M M1 := by
      rw [e1]
      exact (FrP.rf.st (Or.inl ⟨rfl, by omega⟩)).st (Or.inl ⟨rfl, by omega⟩)
    have e26 : M1 154 26 = cLen T Y wo n := by rw [e1]; simp [mset]
    have e27 : M1 154 27 = 0 := by rw [e1]; simp [mset]
    have e30 : M1 154 30 = (cSpan T Y wo n).1 := by rw [e1, ← ha]; simp [mset]
    have s1 : ∀ t, t < n → M1 168 t = sumW (T t) := by
      intro t ht
      rw [← hs t ht, e1]
      simp [mset]
    have h1 := mdl_fr h f1b sep
    clear e1
    refine loopQ (cLen T Y wo n).toNat (fun k ls M2 => M2 = mFil M1 162 (fun j => mV (chr T Y wo n) j) k ∧ ls = [some (.inr 154), some (.inl wo), some (.inl (cSpan T Y wo n).2), some (.inl k)]) ?_ _ _ ⟨mFil_0.symm, rfl⟩
    rintro k _ _ hk ⟨rfl, rfl⟩ K
    have f2 : FrP chrP M1 (mFil M1 162 (fun j => mV (chr T Y wo n) j) k) := by
      intro b j z
      unfold chrP at z
      simp only [mFil]
      rw [if_neg (by omega)]
    have g26 : mFil M1 162 (fun j => mV (chr T Y wo n) j) k 154 26 = cLen T Y wo n := by rw [← e26]; simp [mFil]
    have g27 : mFil M1 162 (fun j => mV (chr T Y wo n) j) k 154 27 = 0 := by rw [← e27]; simp [mFil]
    have g30 : mFil M1 162 (fun j => mV (chr T Y wo n) j) k 154 30 = (cSpan T Y wo n).1 := by rw [← e30]; simp [mFil]
    by_cases c : cLen T Y wo n ≤ k
    · have c' := eq_true c
      have num : numM (mFil M1 162 (fun j => mV (chr T Y wo n) j) k) 162 (chr T Y wo n) := by
        refine ⟨rr.2.1, rr.1, fun j hj => ?_⟩
        have hj' : (j : Int) < cLen T Y wo n := hj
        simp only [mFil]
        rw [if_pos (by first | exact ⟨rfl, by omega⟩ | exact ⟨trivial, by omega⟩ | (simp; omega))]
      generalize mFil M1 162 (fun j => mV (chr T Y wo n) j) k = M2 at *
      refine wpm_of (cuts := [137]) (by decide) 50 _ _ _ _ ?_
      simp (maxSteps := 2000000) only [↓reduceIte, wp_eq, wpd_eq, kont_eq, STP1, STP2, STP3, STP4, STP5, konM_eq, AMK, CZ, Option.map, List.getElem?_cons_zero, List.getElem?_cons_succ, List.mem_cons, List.not_mem_nil, if_false, if_true, Nat.reduceAdd, Nat.reduceLT, Nat.reduceLeDiff, Nat.reduceEqDiff, true_and, and_true, List.length_nil, List.length_cons, or_true, true_or, or_false, false_or, Option.some.injEq, Sum.inl.injEq, Sum.inr.injEq, exists_eq_left', exists_eq_left, Int.reduceLE, Int.reduceLT, Int.reduceNeg, Int.reduceAdd, Int.reduceMul, Int.reduceSub, Int.reduceToNat, inR, Nat.zero_ne_one, false_and, Nat.succ_ne_zero, reduceCtorEq, false_implies, true_implies, not_false_eq_true, not_true_eq_false, Int.reduceEq, KRE, C_Model_layChronology, FM, g26, c']
      repeat (first | refine ⟨by omega, ?_⟩ | refine ⟨fun _ _ => okt_nn (by omega), ?_⟩)
      try (first | (show _ ≤ _; omega) | (show _ < _; omega))
      refine (Model_tellRow_ok (a := 162) (s := 163) (r := 164) (len := 1000) (A := chr T Y wo n) (by simp only [FM]) (by simp only [FM]) (by simp only [FM]) (by omega) rfl (by omega) (by omega) num).eq ?_
      have f4 := mTell_fr (M := M2) (s := 163) (r := 164) (A := chr T Y wo n) (n := cLen T Y wo n)
      refine ⟨⟨?_, rr.2.2, mTell_fin num, ?_⟩, ?_, (f1.tr f2).tr (f4.wd (fun b j z => Or.inr (by omega)))⟩
      · rw [f4 _ _ (by omega), g26]; rfl
      · rw [f4 _ _ (by omega), g27]
        refine ⟨inR_0, fun k _ _ => ⟨fun z => ?_, fun z => absurd z (isD_0 k)⟩⟩
        exfalso
        apply z
        unfold sShk
        rw [if_neg]
        rintro ⟨-, -, z | z⟩
        · exact z (by unfold sD; split <;> rfl)
        · exact z (by unfold sD; split <;> rfl)
      · rw [f4 _ _ (by omega), g30]
    · have c' := eq_false c
      have h2 := mdl_fr h1 f2 sep
      have s2 : ∀ t, t < n → mFil M1 162 (fun j => mV (chr T Y wo n) j) k 168 t = sumW (T t) := by
        intro t ht
        rw [← s1 t ht]
        simp [mFil]
      have K' := K (by omega) _ _ ⟨rfl, rfl⟩
      rw [← mFil_s] at K'
      have ev : ixM T Y wo n ((cSpan T Y wo n).1 + k) = mV (chr T Y wo n) k := by
        unfold ixM mV
        rw [chr_N (by omega) (by omega)]
      refine wpm_of (cuts := [137]) (by decide) 50 _ _ _ _ ?_
      simp (maxSteps := 2000000) only [↓reduceIte, wp_eq, wpd_eq, kont_eq, STP1, STP2, STP3, STP4, STP5, konM_eq, AMK, CZ, Option.map, List.getElem?_cons_zero, List.getElem?_cons_succ, List.mem_cons, List.not_mem_nil, if_false, if_true, Nat.reduceAdd, Nat.reduceLT, Nat.reduceLeDiff, Nat.reduceEqDiff, true_and, and_true, List.length_nil, List.length_cons, or_true, true_or, or_false, false_or, Option.some.injEq, Sum.inl.injEq, Sum.inr.injEq, exists_eq_left', exists_eq_left, Int.reduceLE, Int.reduceLT, Int.reduceNeg, Int.reduceAdd, Int.reduceMul, Int.reduceSub, Int.reduceToNat, inR, Nat.zero_ne_one, false_and, Nat.succ_ne_zero, reduceCtorEq, false_implies, true_implies, not_false_eq_true, not_true_eq_false, Int.reduceEq, KRE, C_Model_layChronology, FM, g26, g30, c']
      repeat (first | refine ⟨by omega, ?_⟩ | refine ⟨fun _ _ => okt_nn (by omega), ?_⟩)
      try (first | (show _ ≤ _; omega) | (show _ < _; omega))
      refine (Model_indexOf_ok h2 ⟨by omega, by omega⟩ hwo s2).eq ?_
      rw [ev]
      try simp (maxSteps := 2000000) only [↓reduceIte, wp_eq, wpd_eq, kont_eq, STP1, STP2, STP3, STP4, STP5, konM_eq, AMK, CZ, Option.map, List.getElem?_cons_zero, List.getElem?_cons_succ, List.mem_cons, List.not_mem_nil, if_false, if_true, Nat.reduceAdd, Nat.reduceLT, Nat.reduceLeDiff, Nat.reduceEqDiff, true_and, and_true, List.length_nil, List.length_cons, or_true, true_or, or_false, false_or, Option.some.injEq, Sum.inl.injEq, Sum.inr.injEq, exists_eq_left', exists_eq_left, Int.reduceLE, Int.reduceLT, Int.reduceNeg, Int.reduceAdd, Int.reduceMul, Int.reduceSub, Int.reduceToNat, inR, Nat.zero_ne_one, false_and, Nat.succ_ne_zero, reduceCtorEq, false_implies, true_implies, not_false_eq_true, not_true_eq_false, Int.reduceEq, KRE, C_Model_layChronology, FM, natT]
      repeat (first | refine ⟨by omega, ?_⟩ | refine ⟨fun _ _ => okt_nn (by omega), ?_⟩)
      try (first | (show _ ≤ _; omega) | (show _ < _; omega))
      exact K'
  have el : cLen T Y wo n = if (cSpan T Y wo n).1 = -1 then 0 else (cSpan T Y wo n).2 - (cSpan T Y wo n).1 + 1 := rfl
  by_cases c0 : (cSpan T Y wo n).1 = -1
  · rw [if_pos c0] at el
    have c0' := eq_true c0
    have K1 := KK _ rfl
    rw [el] at K1
    refine wpm_of (cuts := [137]) (by decide) 50 _ _ _ _ ?_
    simp (maxSteps := 2000000) only [↓reduceIte, wp_eq, wpd_eq, kont_eq, STP1, STP2, STP3, STP4, STP5, konM_eq, AMK, CZ, Option.map, List.getElem?_cons_zero, List.getElem?_cons_succ, List.mem_cons, List.not_mem_nil, if_false, if_true, Nat.reduceAdd, Nat.reduceLT, Nat.reduceLeDiff, Nat.reduceEqDiff, true_and, and_true, List.length_nil, List.length_cons, or_true, true_or, or_false, false_or, Option.some.injEq, Sum.inl.injEq, Sum.inr.injEq, exists_eq_left', exists_eq_left, Int.reduceLE, Int.reduceLT, Int.reduceNeg, Int.reduceAdd, Int.reduceMul, Int.reduceSub, Int.reduceToNat, inR, Nat.zero_ne_one, false_and, Nat.succ_ne_zero, reduceCtorEq, false_implies, true_implies, not_false_eq_true, not_true_eq_false, Int.reduceEq, KRE, C_Model_layChronology, FM, MSE, ha, c0']
    repeat (first | refine ⟨by omega, ?_⟩ | refine ⟨fun _ _ => okt_nn (by omega), ?_⟩)
    try (first | (show _ ≤ _; omega) | (show _ < _; omega))
    exact K1
  · rw [if_neg c0] at el
    have c0' := eq_false c0
    have K1 := KK _ rfl
    rw [el] at K1
    refine wpm_of (cuts := [137]) (by decide) 50 _ _ _ _ ?_
    simp (maxSteps := 2000000) only [↓reduceIte, wp_eq, wpd_eq, kont_eq, STP1, STP2, STP3, STP4, STP5, konM_eq, AMK, CZ, Option.map, List.getElem?_cons_zero, List.getElem?_cons_succ, List.mem_cons, List.not_mem_nil, if_false, if_true, Nat.reduceAdd, Nat.reduceLT, Nat.reduceLeDiff, Nat.reduceEqDiff, true_and, and_true, List.length_nil, List.length_cons, or_true, true_or, or_false, false_or, Option.some.injEq, Sum.inl.injEq, Sum.inr.injEq, exists_eq_left', exists_eq_left, Int.reduceLE, Int.reduceLT, Int.reduceNeg, Int.reduceAdd, Int.reduceMul, Int.reduceSub, Int.reduceToNat, inR, Nat.zero_ne_one, false_and, Nat.succ_ne_zero, reduceCtorEq, false_implies, true_implies, not_false_eq_true, not_true_eq_false, Int.reduceEq, KRE, C_Model_layChronology, FM, MSE, ha, c0']
    repeat (first | refine ⟨by omega, ?_⟩ | refine ⟨fun _ _ => okt_nn (by omega), ?_⟩)
    try (first | (show _ ≤ _; omega) | (show _ < _; omega))
    exact K1
set_option maxHeartbeats 600000 in
set_option maxRecDepth 20000 in
theorem Model_layChronology_ok {n : Nat} {T : Nat → Rw} {Y : Nat → Int} {lap bnd mrg wo : Int} {M : Mm} (h : mdl M n T Y lap bnd mrg) (hwo : inR wo) : CallV m_Model_layChronology [.inr 154, .inl wo] M (fun M' => rowA M' (chr T Y wo n) ∧ M' 154 30 = (cSpan T Y wo n).1 ∧ FrP chrP M M') := by
  have en := h.1.1
  have h8 := h.1.2
  have sep : ∀ b j, chrP b j → b ≠ 156 ∧ b ≠ 158 := fun b j z => by unfold chrP at z; omega
  refine callP_of (by decide) (by decide) (Nat.le_of_ble_eq_true rfl) (wpm_of (cuts := [9]) (by decide) 50 _ _ _ _ ?_)
  rw [show lM m_Model_layChronology = 4 from rfl]
  simp (maxSteps := 2000000) only [↓reduceIte, wp_eq, wpd_eq, kont_eq, STP1, STP2, STP3, STP4, STP5, konM_eq, AMK, CZ, Option.map, List.getElem?_cons_zero, List.getElem?_cons_succ, List.mem_cons, List.not_mem_nil, if_false, if_true, Nat.reduceAdd, Nat.reduceLT, Nat.reduceLeDiff, Nat.reduceEqDiff, true_and, and_true, List.length_nil, List.length_cons, or_true, true_or, or_false, false_or, Option.some.injEq, Sum.inl.injEq, Sum.inr.injEq, exists_eq_left', exists_eq_left, Int.reduceLE, Int.reduceLT, Int.reduceNeg, Int.reduceAdd, Int.reduceMul, Int.reduceSub, Int.reduceToNat, inR, Nat.zero_ne_one, false_and, Nat.succ_ne_zero, reduceCtorEq, false_implies, true_implies, not_false_eq_true, not_true_eq_false, Int.reduceEq, KRE, C_Model_layChronology, FM]
  refine loopQ n (fun k ls M1 => M1 = mset (mFil M 168 (fun j => sumW (T j)) k) 154 30 (cSpan T Y wo k).1 ∧ ls = [some (.inr 154), some (.inl wo), some (.inl (cSpan T Y wo k).2), some (.inl k)]) ?_ _ _ ⟨by rw [mFil_0]; rfl, rfl⟩
  rintro k _ _ hk ⟨rfl, rfl⟩ K
  have f1 : FrP chrP M (mset (mFil M 168 (fun j => sumW (T j)) k) 154 30 (cSpan T Y wo k).1) := by
    intro b j z
    unfold chrP at z
    simp only [mFil, mset]
    rw [if_neg (by omega), if_neg (by omega)]
  have h1 := mdl_fr h f1 sep
  have en1 := h1.1.1
  have hck : okC T Y k := ⟨by omega, fun t ht => h.2.2.2.2 t (by omega)⟩
  have sp := (cSpan_in (wo := wo) hck).1
  by_cases c : k = n
  · subst c
    have c' := eq_true (show (k : Int) ≤ k by omega)
    have s1 : ∀ t, t < k → mset (mFil M 168 (fun j => sumW (T j)) k) 154 30 (cSpan T Y wo k).1 168 t = sumW (T t) := by
      intro t ht
      simp only [mset, mFil]
      rw [if_neg (by omega), if_pos ⟨rfl, ht⟩]
    have K2 := fun a1 => Model_layChr_2 (a1 := a1) h1 hwo s1 (by simp [mset]) f1
    refine wpm_of (cuts := [9, 106]) (by decide) 50 _ _ _ _ ?_
    simp (maxSteps := 2000000) only [↓reduceIte, wp_eq, wpd_eq, kont_eq, STP1, STP2, STP3, STP4, STP5, konM_eq, AMK, CZ, Option.map, List.getElem?_cons_zero, List.getElem?_cons_succ, List.mem_cons, List.not_mem_nil, if_false, if_true, Nat.reduceAdd, Nat.reduceLT, Nat.reduceLeDiff, Nat.reduceEqDiff, true_and, and_true, List.length_nil, List.length_cons, or_true, true_or, or_false, false_or, Option.some.injEq, Sum.inl.injEq, Sum.inr.injEq, exists_eq_left', exists_eq_left, Int.reduceLE, Int.reduceLT, Int.reduceNeg, Int.reduceAdd, Int.reduceMul, Int.reduceSub, Int.reduceToNat, inR, Nat.zero_ne_one, false_and, Nat.succ_ne_zero, reduceCtorEq, false_implies, true_implies, not_false_eq_true, not_true_eq_false, Int.reduceEq, KRE, C_Model_layChronology, FM, en1, c']
    repeat (first | refine ⟨by omega, ?_⟩ | refine ⟨fun _ _ => okt_nn (by omega), ?_⟩)
    try (first | (show _ ≤ _; omega) | (show _ < _; omega))
    exact K2 _
  · have hkn : k < n := by omega
    have c' := eq_false (show ¬ (n : Int) ≤ k by omega)
    have K' := K hkn _ _ ⟨rfl, rfl⟩
    have g := mdl_t h hkn
    have o1 := g.2.2.2.1.1
    have gy := g.2.2.2.2.1
    have ew : mset (mset (mFil M 168 (fun j => sumW (T j)) k) 154 30 (cSpan T Y wo k).1) 168 k (sumW (T k)) = mset (mFil M 168 (fun j => sumW (T j)) (k + 1)) 154 30 (cSpan T Y wo k).1 := by
      rw [mset_comm _ _ _ (by omega), mFil_s]
    have f2 : FrP chrP M (mset (mFil M 168 (fun j => sumW (T j)) (k + 1)) 154 30 (cSpan T Y wo k).1) := by
      intro b j z
      unfold chrP at z
      simp only [mFil, mset]
      rw [if_neg (by omega), if_neg (by omega)]
    have h2 := mdl_fr h f2 sep
    have hv : ∀ v, mdl (mset (mFil M 168 (fun j => sumW (T j)) (k + 1)) 154 30 v) n T Y lap bnd mrg := by
      intro v
      refine mdl_fr h (P := chrP) (fun b j z => ?_) sep
      unfold chrP at z
      simp only [mFil, mset]
      rw [if_neg (by omega), if_neg (by omega)]
    have e30 : mset (mFil M 168 (fun j => sumW (T j)) (k + 1)) 154 30 (cSpan T Y wo k).1 154 30 = (cSpan T Y wo k).1 := by simp [mset]
    have ems : ∀ v, mset (mset (mFil M 168 (fun j => sumW (T j)) (k + 1)) 154 30 (cSpan T Y wo k).1) 154 30 v = mset (mFil M 168 (fun j => sumW (T j)) (k + 1)) 154 30 v := fun v => mset_mset _ _ _ _ _
    refine wpm_of (cuts := [9, 100]) (by decide) 60 _ _ _ _ ?_
    simp (maxSteps := 2000000) only [↓reduceIte, wp_eq, wpd_eq, kont_eq, STP1, STP2, STP3, STP4, STP5, konM_eq, AMK, CZ, Option.map, List.getElem?_cons_zero, List.getElem?_cons_succ, List.mem_cons, List.not_mem_nil, if_false, if_true, Nat.reduceAdd, Nat.reduceLT, Nat.reduceLeDiff, Nat.reduceEqDiff, true_and, and_true, List.length_nil, List.length_cons, or_true, true_or, or_false, false_or, Option.some.injEq, Sum.inl.injEq, Sum.inr.injEq, exists_eq_left', exists_eq_left, Int.reduceLE, Int.reduceLT, Int.reduceNeg, Int.reduceAdd, Int.reduceMul, Int.reduceSub, Int.reduceToNat, inR, Nat.zero_ne_one, false_and, Nat.succ_ne_zero, reduceCtorEq, false_implies, true_implies, not_false_eq_true, not_true_eq_false, Int.reduceEq, KRE, C_Model_layChronology, FM, en1, c']
    repeat (first | refine ⟨by omega, ?_⟩ | refine ⟨fun _ _ => okt_nn (by omega), ?_⟩)
    try (first | (show _ ≤ _; omega) | (show _ < _; omega))
    refine (Model_widths_ok h1 hkn).eq ?_
    try simp (maxSteps := 2000000) only [↓reduceIte, wp_eq, wpd_eq, kont_eq, STP1, STP2, STP3, STP4, STP5, konM_eq, AMK, CZ, Option.map, List.getElem?_cons_zero, List.getElem?_cons_succ, List.mem_cons, List.not_mem_nil, if_false, if_true, Nat.reduceAdd, Nat.reduceLT, Nat.reduceLeDiff, Nat.reduceEqDiff, true_and, and_true, List.length_nil, List.length_cons, or_true, true_or, or_false, false_or, Option.some.injEq, Sum.inl.injEq, Sum.inr.injEq, exists_eq_left', exists_eq_left, Int.reduceLE, Int.reduceLT, Int.reduceNeg, Int.reduceAdd, Int.reduceMul, Int.reduceSub, Int.reduceToNat, inR, Nat.zero_ne_one, false_and, Nat.succ_ne_zero, reduceCtorEq, false_implies, true_implies, not_false_eq_true, not_true_eq_false, Int.reduceEq, KRE, C_Model_layChronology, FM, natT, ew]
    repeat (first | refine ⟨by omega, ?_⟩ | refine ⟨fun _ _ => okt_nn (by omega), ?_⟩)
    try (first | (show _ ≤ _; omega) | (show _ < _; omega))
    refine (dated_m h2 hkn).eq ?_
    rw [cSpan_succ] at K'
    have KN : ¬ ((k : Int) ≠ wo ∧ Y k ≠ -1) → WPm m_Model_layChronology (fun v M' => v = none ∧ rowA M' (chr T Y wo n) ∧ M' 154 30 = (cSpan T Y wo n).1 ∧ FrP chrP M M') 100 [some (.inr 154), some (.inl wo), some (.inl (cSpan T Y wo k).2), some (.inl k)] [] (mset (mFil M 168 (fun j => sumW (T j)) (k + 1)) 154 30 (cSpan T Y wo k).1) := by
      intro z
      rw [if_neg z] at K'
      refine wpm_of (cuts := [9]) (by decide) 60 _ _ _ _ ?_
      simp (maxSteps := 2000000) only [↓reduceIte, wp_eq, wpd_eq, kont_eq, STP1, STP2, STP3, STP4, STP5, konM_eq, AMK, CZ, Option.map, List.getElem?_cons_zero, List.getElem?_cons_succ, List.mem_cons, List.not_mem_nil, if_false, if_true, Nat.reduceAdd, Nat.reduceLT, Nat.reduceLeDiff, Nat.reduceEqDiff, true_and, and_true, List.length_nil, List.length_cons, or_true, true_or, or_false, false_or, Option.some.injEq, Sum.inl.injEq, Sum.inr.injEq, exists_eq_left', exists_eq_left, Int.reduceLE, Int.reduceLT, Int.reduceNeg, Int.reduceAdd, Int.reduceMul, Int.reduceSub, Int.reduceToNat, inR, Nat.zero_ne_one, false_and, Nat.succ_ne_zero, reduceCtorEq, false_implies, true_implies, not_false_eq_true, not_true_eq_false, Int.reduceEq, KRE, C_Model_layChronology]
      exact K'
    simp only [inR] at hwo
    by_cases c1 : Y k = -1
    · rw [if_neg (fun z => z c1)]
      try simp (maxSteps := 2000000) only [↓reduceIte, wp_eq, wpd_eq, kont_eq, STP1, STP2, STP3, STP4, STP5, konM_eq, AMK, CZ, Option.map, List.getElem?_cons_zero, List.getElem?_cons_succ, List.mem_cons, List.not_mem_nil, if_false, if_true, Nat.reduceAdd, Nat.reduceLT, Nat.reduceLeDiff, Nat.reduceEqDiff, true_and, and_true, List.length_nil, List.length_cons, or_true, true_or, or_false, false_or, Option.some.injEq, Sum.inl.injEq, Sum.inr.injEq, exists_eq_left', exists_eq_left, Int.reduceLE, Int.reduceLT, Int.reduceNeg, Int.reduceAdd, Int.reduceMul, Int.reduceSub, Int.reduceToNat, inR, Nat.zero_ne_one, false_and, Nat.succ_ne_zero, reduceCtorEq, false_implies, true_implies, not_false_eq_true, not_true_eq_false, Int.reduceEq, KRE, C_Model_layChronology]
      repeat (first | refine ⟨by omega, ?_⟩ | refine ⟨fun _ _ => okt_nn (by omega), ?_⟩)
      try (first | (show _ ≤ _; omega) | (show _ < _; omega))
      exact KN (fun z => z.2 c1)
    · rw [if_pos c1]
      by_cases c2 : (k : Int) = wo
      · have c2' := eq_true c2
        try simp (maxSteps := 2000000) only [↓reduceIte, wp_eq, wpd_eq, kont_eq, STP1, STP2, STP3, STP4, STP5, konM_eq, AMK, CZ, Option.map, List.getElem?_cons_zero, List.getElem?_cons_succ, List.mem_cons, List.not_mem_nil, if_false, if_true, Nat.reduceAdd, Nat.reduceLT, Nat.reduceLeDiff, Nat.reduceEqDiff, true_and, and_true, List.length_nil, List.length_cons, or_true, true_or, or_false, false_or, Option.some.injEq, Sum.inl.injEq, Sum.inr.injEq, exists_eq_left', exists_eq_left, Int.reduceLE, Int.reduceLT, Int.reduceNeg, Int.reduceAdd, Int.reduceMul, Int.reduceSub, Int.reduceToNat, inR, Nat.zero_ne_one, false_and, Nat.succ_ne_zero, reduceCtorEq, false_implies, true_implies, not_false_eq_true, not_true_eq_false, Int.reduceEq, KRE, C_Model_layChronology, c2']
        repeat (first | refine ⟨by omega, ?_⟩ | refine ⟨fun _ _ => okt_nn (by omega), ?_⟩)
        try (first | (show _ ≤ _; omega) | (show _ < _; omega))
        exact KN (fun z => z.1 c2)
      · have c2' := eq_false c2
        rw [if_pos ⟨c2, c1⟩] at K'
        by_cases c3 : (cSpan T Y wo k).1 = -1
        · rw [if_pos c3] at K'
          have c3' := eq_true c3
          try simp (maxSteps := 2000000) only [↓reduceIte, wp_eq, wpd_eq, kont_eq, STP1, STP2, STP3, STP4, STP5, konM_eq, AMK, CZ, Option.map, List.getElem?_cons_zero, List.getElem?_cons_succ, List.mem_cons, List.not_mem_nil, if_false, if_true, Nat.reduceAdd, Nat.reduceLT, Nat.reduceLeDiff, Nat.reduceEqDiff, true_and, and_true, List.length_nil, List.length_cons, or_true, true_or, or_false, false_or, Option.some.injEq, Sum.inl.injEq, Sum.inr.injEq, exists_eq_left', exists_eq_left, Int.reduceLE, Int.reduceLT, Int.reduceNeg, Int.reduceAdd, Int.reduceMul, Int.reduceSub, Int.reduceToNat, inR, Nat.zero_ne_one, false_and, Nat.succ_ne_zero, reduceCtorEq, false_implies, true_implies, not_false_eq_true, not_true_eq_false, Int.reduceEq, KRE, C_Model_layChronology, FM, c2', e30, c3']
          repeat (first | refine ⟨by omega, ?_⟩ | refine ⟨fun _ _ => okt_nn (by omega), ?_⟩)
          try (first | (show _ ≤ _; omega) | (show _ < _; omega))
          refine (of_year h2 hkn).eq ?_
          try simp (maxSteps := 2000000) only [↓reduceIte, wp_eq, wpd_eq, kont_eq, STP1, STP2, STP3, STP4, STP5, konM_eq, AMK, CZ, Option.map, List.getElem?_cons_zero, List.getElem?_cons_succ, List.mem_cons, List.not_mem_nil, if_false, if_true, Nat.reduceAdd, Nat.reduceLT, Nat.reduceLeDiff, Nat.reduceEqDiff, true_and, and_true, List.length_nil, List.length_cons, or_true, true_or, or_false, false_or, Option.some.injEq, Sum.inl.injEq, Sum.inr.injEq, exists_eq_left', exists_eq_left, Int.reduceLE, Int.reduceLT, Int.reduceNeg, Int.reduceAdd, Int.reduceMul, Int.reduceSub, Int.reduceToNat, inR, Nat.zero_ne_one, false_and, Nat.succ_ne_zero, reduceCtorEq, false_implies, true_implies, not_false_eq_true, not_true_eq_false, Int.reduceEq, KRE, C_Model_layChronology, FM, ems]
          refine (of_year (hv _) hkn).eq ?_
          try simp (maxSteps := 2000000) only [↓reduceIte, wp_eq, wpd_eq, kont_eq, STP1, STP2, STP3, STP4, STP5, konM_eq, AMK, CZ, Option.map, List.getElem?_cons_zero, List.getElem?_cons_succ, List.mem_cons, List.not_mem_nil, if_false, if_true, Nat.reduceAdd, Nat.reduceLT, Nat.reduceLeDiff, Nat.reduceEqDiff, true_and, and_true, List.length_nil, List.length_cons, or_true, true_or, or_false, false_or, Option.some.injEq, Sum.inl.injEq, Sum.inr.injEq, exists_eq_left', exists_eq_left, Int.reduceLE, Int.reduceLT, Int.reduceNeg, Int.reduceAdd, Int.reduceMul, Int.reduceSub, Int.reduceToNat, inR, Nat.zero_ne_one, false_and, Nat.succ_ne_zero, reduceCtorEq, false_implies, true_implies, not_false_eq_true, not_true_eq_false, Int.reduceEq, KRE, C_Model_layChronology, FM]
          refine (of_many (hv _) hkn).eq ?_
          try simp (maxSteps := 2000000) only [↓reduceIte, wp_eq, wpd_eq, kont_eq, STP1, STP2, STP3, STP4, STP5, konM_eq, AMK, CZ, Option.map, List.getElem?_cons_zero, List.getElem?_cons_succ, List.mem_cons, List.not_mem_nil, if_false, if_true, Nat.reduceAdd, Nat.reduceLT, Nat.reduceLeDiff, Nat.reduceEqDiff, true_and, and_true, List.length_nil, List.length_cons, or_true, true_or, or_false, false_or, Option.some.injEq, Sum.inl.injEq, Sum.inr.injEq, exists_eq_left', exists_eq_left, Int.reduceLE, Int.reduceLT, Int.reduceNeg, Int.reduceAdd, Int.reduceMul, Int.reduceSub, Int.reduceToNat, inR, Nat.zero_ne_one, false_and, Nat.succ_ne_zero, reduceCtorEq, false_implies, true_implies, not_false_eq_true, not_true_eq_false, Int.reduceEq, KRE, C_Model_layChronology, FM]
          simp only [inR]
          repeat (first | refine ⟨by omega, ?_⟩ | refine ⟨fun _ _ => okt_nn (by omega), ?_⟩)
          try (first | (show _ ≤ _; omega) | (show _ < _; omega))
          exact K'
        · rw [if_neg c3] at K'
          have c3' := eq_false c3
          try simp (maxSteps := 2000000) only [↓reduceIte, wp_eq, wpd_eq, kont_eq, STP1, STP2, STP3, STP4, STP5, konM_eq, AMK, CZ, Option.map, List.getElem?_cons_zero, List.getElem?_cons_succ, List.mem_cons, List.not_mem_nil, if_false, if_true, Nat.reduceAdd, Nat.reduceLT, Nat.reduceLeDiff, Nat.reduceEqDiff, true_and, and_true, List.length_nil, List.length_cons, or_true, true_or, or_false, false_or, Option.some.injEq, Sum.inl.injEq, Sum.inr.injEq, exists_eq_left', exists_eq_left, Int.reduceLE, Int.reduceLT, Int.reduceNeg, Int.reduceAdd, Int.reduceMul, Int.reduceSub, Int.reduceToNat, inR, Nat.zero_ne_one, false_and, Nat.succ_ne_zero, reduceCtorEq, false_implies, true_implies, not_false_eq_true, not_true_eq_false, Int.reduceEq, KRE, C_Model_layChronology, FM, c2', e30, c3']
          repeat (first | refine ⟨by omega, ?_⟩ | refine ⟨fun _ _ => okt_nn (by omega), ?_⟩)
          try (first | (show _ ≤ _; omega) | (show _ < _; omega))
          refine (of_year h2 hkn).eq ?_
          try simp (maxSteps := 2000000) only [↓reduceIte, wp_eq, wpd_eq, kont_eq, STP1, STP2, STP3, STP4, STP5, konM_eq, AMK, CZ, Option.map, List.getElem?_cons_zero, List.getElem?_cons_succ, List.mem_cons, List.not_mem_nil, if_false, if_true, Nat.reduceAdd, Nat.reduceLT, Nat.reduceLeDiff, Nat.reduceEqDiff, true_and, and_true, List.length_nil, List.length_cons, or_true, true_or, or_false, false_or, Option.some.injEq, Sum.inl.injEq, Sum.inr.injEq, exists_eq_left', exists_eq_left, Int.reduceLE, Int.reduceLT, Int.reduceNeg, Int.reduceAdd, Int.reduceMul, Int.reduceSub, Int.reduceToNat, inR, Nat.zero_ne_one, false_and, Nat.succ_ne_zero, reduceCtorEq, false_implies, true_implies, not_false_eq_true, not_true_eq_false, Int.reduceEq, KRE, C_Model_layChronology, FM, ems]
          repeat (first | refine ⟨by omega, ?_⟩ | refine ⟨fun _ _ => okt_nn (by omega), ?_⟩)
          try (first | (show _ ≤ _; omega) | (show _ < _; omega))
          refine (of_year (hv _) hkn).eq ?_
          try simp (maxSteps := 2000000) only [↓reduceIte, wp_eq, wpd_eq, kont_eq, STP1, STP2, STP3, STP4, STP5, konM_eq, AMK, CZ, Option.map, List.getElem?_cons_zero, List.getElem?_cons_succ, List.mem_cons, List.not_mem_nil, if_false, if_true, Nat.reduceAdd, Nat.reduceLT, Nat.reduceLeDiff, Nat.reduceEqDiff, true_and, and_true, List.length_nil, List.length_cons, or_true, true_or, or_false, false_or, Option.some.injEq, Sum.inl.injEq, Sum.inr.injEq, exists_eq_left', exists_eq_left, Int.reduceLE, Int.reduceLT, Int.reduceNeg, Int.reduceAdd, Int.reduceMul, Int.reduceSub, Int.reduceToNat, inR, Nat.zero_ne_one, false_and, Nat.succ_ne_zero, reduceCtorEq, false_implies, true_implies, not_false_eq_true, not_true_eq_false, Int.reduceEq, KRE, C_Model_layChronology, FM]
          refine (of_many (hv _) hkn).eq ?_
          try simp (maxSteps := 2000000) only [↓reduceIte, wp_eq, wpd_eq, kont_eq, STP1, STP2, STP3, STP4, STP5, konM_eq, AMK, CZ, Option.map, List.getElem?_cons_zero, List.getElem?_cons_succ, List.mem_cons, List.not_mem_nil, if_false, if_true, Nat.reduceAdd, Nat.reduceLT, Nat.reduceLeDiff, Nat.reduceEqDiff, true_and, and_true, List.length_nil, List.length_cons, or_true, true_or, or_false, false_or, Option.some.injEq, Sum.inl.injEq, Sum.inr.injEq, exists_eq_left', exists_eq_left, Int.reduceLE, Int.reduceLT, Int.reduceNeg, Int.reduceAdd, Int.reduceMul, Int.reduceSub, Int.reduceToNat, inR, Nat.zero_ne_one, false_and, Nat.succ_ne_zero, reduceCtorEq, false_implies, true_implies, not_false_eq_true, not_true_eq_false, Int.reduceEq, KRE, C_Model_layChronology, FM]
          simp only [inR]
          repeat (first | refine ⟨by omega, ?_⟩ | refine ⟨fun _ _ => okt_nn (by omega), ?_⟩)
          try (first | (show _ ≤ _; omega) | (show _ < _; omega))
          exact K'

/-! THE REFERENCE, 6: links and pieces. -/
def lkAll (n : Nat) (x : Lks) : Prop := ∀ j, j < x.1 → (0 ≤ x.2 0 j ∧ x.2 0 j < n) ∧ (0 ≤ x.2 1 j ∧ x.2 1 j < n)
theorem lkAll_ins {n : Nat} {v : Nat → Int} {x : Lks} (h : lkAll n x) (h0 : 0 ≤ v 0 ∧ v 0 < n) (h1 : 0 ≤ v 1 ∧ v 1 < n) : lkAll n (lkIns v x) := by
  intro j hj
  have hj' : j < x.1 + 1 := hj
  have hp := lkPos_le (x.2 3) (v 3) x.1
  show (0 ≤ (if j < lkPos (x.2 3) (v 3) x.1 then x.2 0 j else if j = lkPos (x.2 3) (v 3) x.1 then v 0 else x.2 0 (j - 1)) ∧ (if j < lkPos (x.2 3) (v 3) x.1 then x.2 0 j else if j = lkPos (x.2 3) (v 3) x.1 then v 0 else x.2 0 (j - 1)) < n) ∧ 0 ≤ (if j < lkPos (x.2 3) (v 3) x.1 then x.2 1 j else if j = lkPos (x.2 3) (v 3) x.1 then v 1 else x.2 1 (j - 1)) ∧ (if j < lkPos (x.2 3) (v 3) x.1 then x.2 1 j else if j = lkPos (x.2 3) (v 3) x.1 then v 1 else x.2 1 (j - 1)) < n
  by_cases c1 : j < lkPos (x.2 3) (v 3) x.1
  · simp only [c1, if_true]
    exact h j (by omega)
  · by_cases c2 : j = lkPos (x.2 3) (v 3) x.1
    · rw [if_neg c1, if_pos c2, if_neg c1, if_pos c2]
      exact ⟨h0, h1⟩
    · rw [if_neg c1, if_neg c2, if_neg c1, if_neg c2]
      exact h (j - 1) (by omega)
theorem lkRow_A {T : Nat → Rw} {lap bnd mrg : Int} {a n : Nat} {X : Lks} (ha : a < n) (hX : lkAll n X) : ∀ m, m ≤ n → lkAll n (foldN (lkRowS T lap bnd mrg a) X m)
  | 0, _ => hX
  | m + 1, h => by
    have i := lkRow_A (T := T) (lap := lap) (bnd := bnd) (mrg := mrg) ha hX m (by omega)
    rw [foldN]
    unfold lkRowS lkStep
    split
    · split
      · exact lkAll_ins i ⟨by simp [lkV], by simp [lkV]; omega⟩ ⟨by simp [lkV], by simp [lkV]; omega⟩
      · exact i
    · exact i
theorem lks_A {T : Nat → Rw} {lap bnd mrg : Int} {n : Nat} : ∀ a, a ≤ n → lkAll n (lks T lap bnd mrg n a)
  | 0, _ => fun j hj => absurd (show j < 0 from hj) (by omega)
  | a + 1, h => by
    have i := lks_A (T := T) (lap := lap) (bnd := bnd) (mrg := mrg) a (by omega)
    unfold lks at *
    rw [foldN]
    exact lkRow_A (by omega) i n (Nat.le_refl _)
set_option maxHeartbeats 600000 in
set_option maxRecDepth 20000 in
theorem Model_keepLink_ok {a b s c : Int} {x : Lks} {M : Mm} (hx : lkIs M 169 x) (hr : lkR x) (hk : M 154 49 = x.1) (h28 : x.1 < 28) (h6 : M 154 36 = s) (h7 : M 154 37 = c) (hc : 0 ≤ c ∧ c ≤ 100) : CallV m_Model_keepLink [.inr 154, .inl a, .inl b] M (fun M' => lkIs M' 169 (lkIns (lkV a b s c) x) ∧ M' 154 49 = x.1 + 1 ∧ FrP (fun b j => b = 154 ∧ j = 49 ∨ 169 ≤ b ∧ b < 173) M M') := by
  have e3 : ∀ j, j < x.1 → M 172 j = x.2 3 j := hx 3 (by omega)
  refine callP_of (by decide) (by decide) (Nat.le_of_ble_eq_true rfl) (wpm_of (cuts := [5]) (by decide) 50 _ _ _ _ ?_)
  rw [show lM m_Model_keepLink = 4 from rfl]
  simp (maxSteps := 2000000) only [↓reduceIte, wp_eq, wpd_eq, kont_eq, STP1, STP2, STP3, STP4, STP5, konM_eq, AMK, CZ, Option.map, List.getElem?_cons_zero, List.getElem?_cons_succ, List.mem_cons, List.not_mem_nil, if_false, if_true, Nat.reduceAdd, Nat.reduceLT, Nat.reduceLeDiff, Nat.reduceEqDiff, true_and, and_true, List.length_nil, List.length_cons, or_true, true_or, or_false, false_or, Option.some.injEq, Sum.inl.injEq, Sum.inr.injEq, exists_eq_left', exists_eq_left, Int.reduceLE, Int.reduceLT, Int.reduceNeg, Int.reduceAdd, Int.reduceMul, Int.reduceSub, Int.reduceToNat, inR, Nat.zero_ne_one, false_and, Nat.succ_ne_zero, reduceCtorEq, false_implies, true_implies, not_false_eq_true, not_true_eq_false, Int.reduceEq, KRE, C_Model_keepLink, FM, hk]
  refine loopQ x.1 (fun d ls M1 => M1 = mShf M 169 x.1 (x.1 - d) ∧ lkPos (x.2 3) c x.1 = lkPos (x.2 3) c (x.1 - d) ∧ ls = [some (.inr 154), some (.inl a), some (.inl b), some (.inl ((x.1 - d : Nat) : Int))]) ?_ _ _ ⟨by rw [Nat.sub_zero, mShf_0], rfl, by rw [Nat.sub_zero]⟩
  rintro d _ _ hd ⟨rfl, hp, rfl⟩ K
  generalize hi : x.1 - d = i at *
  have g9 : mShf M 169 x.1 i 154 49 = x.1 := (mShf_get (Or.inl (by omega))).trans hk
  have g6 : mShf M 169 x.1 i 154 36 = s := (mShf_get (Or.inl (by omega))).trans h6
  have g7 : mShf M 169 x.1 i 154 37 = c := (mShf_get (Or.inl (by omega))).trans h7
  have fin : lkPos (x.2 3) c i = i → lkIs (mset (mset (mset (mset (mset (mShf M 169 x.1 i) 169 i a) 170 i b) 171 i s) 172 i c) 154 49 (x.1 + 1)) 169 (lkIns (lkV a b s c) x) ∧ mset (mset (mset (mset (mset (mShf M 169 x.1 i) 169 i a) 170 i b) 171 i s) 172 i c) 154 49 (x.1 + 1) 154 49 = x.1 + 1 ∧ FrP (fun b j => b = 154 ∧ j = 49 ∨ 169 ≤ b ∧ b < 173) M (mset (mset (mset (mset (mset (mShf M 169 x.1 i) 169 i a) 170 i b) 171 i s) 172 i c) 154 49 (x.1 + 1)) := by
    intro hpi
    refine ⟨mShf_e hx rfl (p := i) (by rw [show lkV a b s c 3 = c from rfl, hp, hpi]) (fun q hq j => ?_), by simp [mset], ?_⟩
    · rcases (show q = 0 ∨ q = 1 ∨ q = 2 ∨ q = 3 by omega) with rfl | rfl | rfl | rfl <;> simp [mset, lkV]
    · refine (((((?_ : FrP (fun b j => b = 154 ∧ j = 49 ∨ 169 ≤ b ∧ b < 173) M (mShf M 169 x.1 i)).st (Or.inr (by omega))).st (Or.inr (by omega))).st (Or.inr (by omega))).st (Or.inr (by omega))).st (Or.inl ⟨rfl, rfl⟩)
      intro q j hq
      exact mShf_get (by omega)
  have OUT : lkPos (x.2 3) c i = i → WPm m_Model_keepLink (fun v M' => v = none ∧ lkIs M' 169 (lkIns (lkV a b s c) x) ∧ M' 154 49 = x.1 + 1 ∧ FrP (fun b j => b = 154 ∧ j = 49 ∨ 169 ≤ b ∧ b < 173) M M') 86 [some (.inr 154), some (.inl a), some (.inl b), some (.inl (i : Int))] [] (mShf M 169 x.1 i) := by
    intro hpi
    have f' := fin hpi
    refine wpm_of (cuts := []) (by decide) 100 _ _ _ _ ?_
    simp (maxSteps := 2000000) only [↓reduceIte, wp_eq, wpd_eq, kont_eq, STP1, STP2, STP3, STP4, STP5, konM_eq, AMK, CZ, Option.map, List.getElem?_cons_zero, List.getElem?_cons_succ, List.mem_cons, List.not_mem_nil, if_false, if_true, Nat.reduceAdd, Nat.reduceLT, Nat.reduceLeDiff, Nat.reduceEqDiff, true_and, and_true, List.length_nil, List.length_cons, or_true, true_or, or_false, false_or, Option.some.injEq, Sum.inl.injEq, Sum.inr.injEq, exists_eq_left', exists_eq_left, Int.reduceLE, Int.reduceLT, Int.reduceNeg, Int.reduceAdd, Int.reduceMul, Int.reduceSub, Int.reduceToNat, inR, Nat.zero_ne_one, false_and, Nat.succ_ne_zero, reduceCtorEq, false_implies, true_implies, not_false_eq_true, not_true_eq_false, Int.reduceEq, KRE, C_Model_keepLink, FM, g9, g6, g7, MSE, natT]
    repeat (first | refine ⟨by omega, ?_⟩ | refine ⟨fun _ _ => okt_nn (by omega), ?_⟩)
    try (first | (show _ ≤ _; omega) | (show _ < _; omega))
    exact f'
  clear fin
  by_cases hz : i = 0
  · have f' := OUT (by rw [hz]; rfl)
    subst hz
    refine wpm_of (cuts := [5, 86]) (by decide) 100 _ _ _ _ ?_
    simp (maxSteps := 2000000) only [↓reduceIte, wp_eq, wpd_eq, kont_eq, STP1, STP2, STP3, STP4, STP5, konM_eq, AMK, CZ, Option.map, List.getElem?_cons_zero, List.getElem?_cons_succ, List.mem_cons, List.not_mem_nil, if_false, if_true, Nat.reduceAdd, Nat.reduceLT, Nat.reduceLeDiff, Nat.reduceEqDiff, true_and, and_true, List.length_nil, List.length_cons, or_true, true_or, or_false, false_or, Option.some.injEq, Sum.inl.injEq, Sum.inr.injEq, exists_eq_left', exists_eq_left, Int.reduceLE, Int.reduceLT, Int.reduceNeg, Int.reduceAdd, Int.reduceMul, Int.reduceSub, Int.reduceToNat, inR, Nat.zero_ne_one, false_and, Nat.succ_ne_zero, reduceCtorEq, false_implies, true_implies, not_false_eq_true, not_true_eq_false, Int.reduceEq, KRE, C_Model_keepLink, FM, Int.natCast_zero]
    exact f'
  · have hz2 : ¬ ((i : Int) ≤ 0) := by omega
    have hi1 : ((i : Int) - 1).toNat = i - 1 := by omega
    have eC : mShf M 169 x.1 i 172 (i - 1) = x.2 3 (i - 1) := (mShf_get (Or.inr (Or.inr (by omega)))).trans (e3 _ (by omega))
    have rC := (hr.2 (i - 1) (by omega)).2.2.2
    have eP : lkPos (x.2 3) c i = if x.2 3 (i - 1) < c then lkPos (x.2 3) c (i - 1) else i := by
      obtain ⟨m, rfl⟩ : ∃ m, i = m + 1 := ⟨i - 1, by omega⟩
      rfl
    by_cases hc2 : c ≤ x.2 3 (i - 1)
    · rw [if_neg (by omega)] at eP
      have f' := OUT eP
      refine wpm_of (cuts := [5, 86]) (by decide) 100 _ _ _ _ ?_
      simp (maxSteps := 2000000) only [↓reduceIte, wp_eq, wpd_eq, kont_eq, STP1, STP2, STP3, STP4, STP5, konM_eq, AMK, CZ, Option.map, List.getElem?_cons_zero, List.getElem?_cons_succ, List.mem_cons, List.not_mem_nil, if_false, if_true, Nat.reduceAdd, Nat.reduceLT, Nat.reduceLeDiff, Nat.reduceEqDiff, true_and, and_true, List.length_nil, List.length_cons, or_true, true_or, or_false, false_or, Option.some.injEq, Sum.inl.injEq, Sum.inr.injEq, exists_eq_left', exists_eq_left, Int.reduceLE, Int.reduceLT, Int.reduceNeg, Int.reduceAdd, Int.reduceMul, Int.reduceSub, Int.reduceToNat, inR, Nat.zero_ne_one, false_and, Nat.succ_ne_zero, reduceCtorEq, false_implies, true_implies, not_false_eq_true, not_true_eq_false, Int.reduceEq, KRE, C_Model_keepLink, FM, natT, hz2, hi1, eC, g7, hc2]
      repeat (first | refine ⟨by omega, ?_⟩ | refine ⟨fun _ _ => okt_nn (by omega), ?_⟩)
      try (first | (show _ ≤ _; omega) | (show _ < _; omega))
      exact f'
    · rw [if_pos (by omega)] at eP
      have K' := K (by omega)
      rw [show x.1 - (d + 1) = i - 1 by omega] at K'
      have K'' := K' _ _ ⟨rfl, by rw [hp, eP], rfl⟩
      refine wpm_of (cuts := [5, 86]) (by decide) 100 _ _ _ _ ?_
      simp (maxSteps := 2000000) only [↓reduceIte, wp_eq, wpd_eq, kont_eq, STP1, STP2, STP3, STP4, STP5, konM_eq, AMK, CZ, Option.map, List.getElem?_cons_zero, List.getElem?_cons_succ, List.mem_cons, List.not_mem_nil, if_false, if_true, Nat.reduceAdd, Nat.reduceLT, Nat.reduceLeDiff, Nat.reduceEqDiff, true_and, and_true, List.length_nil, List.length_cons, or_true, true_or, or_false, false_or, Option.some.injEq, Sum.inl.injEq, Sum.inr.injEq, exists_eq_left', exists_eq_left, Int.reduceLE, Int.reduceLT, Int.reduceNeg, Int.reduceAdd, Int.reduceMul, Int.reduceSub, Int.reduceToNat, inR, Nat.zero_ne_one, false_and, Nat.succ_ne_zero, reduceCtorEq, false_implies, true_implies, not_false_eq_true, not_true_eq_false, Int.reduceEq, KRE, C_Model_keepLink, FM, natT, hz2, hi1, eC, g7, hc2]
      repeat (first | refine ⟨by omega, ?_⟩ | refine ⟨fun _ _ => okt_nn (by omega), ?_⟩)
      try (first | (show _ ≤ _; omega) | (show _ < _; omega))
      refine WPm.eqL K'' ?_ rfl ?_
      · rw [show ((i - 1 : Nat) : Int) = i + -1 by omega]
      · funext b j
        simp only [mset, mShf]
        clear K K' K'' hx hr e3 hp eP OUT
        by_cases hj : j = i
        · subst hj
          grind
        · grind
/-- pieces of the reference: the same parts, the same differences -/
def mqI (n : Nat) (y x : Pcs) : Prop := ∀ s t, s < n → t < n → (y.1 s = y.1 t ↔ x.1 s = x.1 t) ∧ (x.1 s = x.1 t → y.2 t - y.2 s = x.2 t - x.2 s)
def mqJ (one other by_ : Int) (y : Pcs) : Pcs := (fun t => if y.1 t = other then one else y.1 t, fun t => if y.1 t = other then y.2 t + by_ else y.2 t)
def mqS (F : Nat → Nat → Int) (i : Nat) (y : Pcs) : Pcs := if y.1 (F 0 i).toNat ≠ y.1 (F 1 i).toNat then mqJ (y.1 (F 0 i).toNat) (y.1 (F 1 i).toNat) (y.2 (F 0 i).toNat + F 2 i - y.2 (F 1 i).toNat) y else y
def mqN (F : Nat → Nat → Int) (k : Nat) : Pcs := foldN (fun i x => mqS F i x) (fun t => (t : Int), fun _ => 0) k
theorem mqI_J {n a b : Nat} {s : Int} {x y : Pcs} (h : mqI n y x) (ha : a < n) (hb : b < n) (hne : x.1 a ≠ x.1 b) : mqI n (mqJ (y.1 a) (y.1 b) (y.2 a + s - y.2 b) y) (pcJ (x.1 a) (x.1 b) (x.2 a + s - x.2 b) x) := by
  intro u v hu hv
  obtain ⟨e1, d1⟩ := h u v hu hv
  obtain ⟨e2, d2⟩ := h u b hu hb
  obtain ⟨e3, d3⟩ := h v b hv hb
  obtain ⟨e4, d4⟩ := h u a hu ha
  obtain ⟨e5, d5⟩ := h v a hv ha
  obtain ⟨e6, -⟩ := h a b ha hb
  simp only [mqJ, pcJ]
  by_cases c1 : x.1 u = x.1 b
  · have p1 := e2.mpr c1
    have q1 := d2 c1
    by_cases c2 : x.1 v = x.1 b
    · have p2 := e3.mpr c2
      have q2 := d3 c2
      simp only [p1, p2, c1, c2, if_true, and_true]
      by_cases c3 : min (x.1 a) (x.1 b) = x.1 a
      · simp only [c3, if_true]
        omega
      · simp only [c3, if_false]
        have c4 : ¬ x.1 b = x.1 a := fun z => hne z.symm
        simp only [c4, and_false, if_false]
        omega
    · have p2 : ¬ y.1 v = y.1 b := fun z => c2 (e3.mp z)
      by_cases c5 : x.1 v = x.1 a
      · have p5 := e5.mpr c5
        have q5 := d5 c5
        have n1 : ¬ y.1 a = y.1 b := fun z => hne (e6.mp z)
        simp only [p1, p5, c1, c5, n1, hne, if_true, if_false, and_true, and_false]
        by_cases c3 : min (x.1 a) (x.1 b) = x.1 a
        · simp only [c3, if_true]
          have c3' : ¬ x.1 a = x.1 b := hne
          simp only [c3', false_and, if_false]
          omega
        · have c3' : min (x.1 a) (x.1 b) = x.1 b := by omega
          have c4 : ¬ x.1 b = x.1 a := fun z => hne z.symm
          simp only [c3', c4, if_false, if_true, false_and, and_false, and_true]
          omega
      · have p5 : ¬ y.1 v = y.1 a := fun z => c5 (e5.mp z)
        simp only [p1, p2, c1, c2, c5, if_true, if_false, and_true, and_false]
        by_cases c3 : min (x.1 a) (x.1 b) = x.1 a
        · simp only [c3, if_true]
          constructor
          · constructor
            · intro z; exact absurd z.symm p5
            · intro z; exact absurd z.symm c5
          · intro z; exact absurd z.symm c5
        · have c4 : ¬ x.1 b = x.1 a := fun z => hne z.symm
          simp only [c3, c4, if_false, and_false]
          constructor
          · constructor
            · intro z; exact absurd z.symm p5
            · intro z; exact absurd z.symm c2
          · intro z; exact absurd z.symm c2
  · have p1 : ¬ y.1 u = y.1 b := fun z => c1 (e2.mp z)
    by_cases c2 : x.1 v = x.1 b
    · have p2 := e3.mpr c2
      have q2 := d3 c2
      by_cases c5 : x.1 u = x.1 a
      · have p5 := e4.mpr c5
        have q5 := d4 c5
        have n1 : ¬ y.1 a = y.1 b := fun z => hne (e6.mp z)
        simp only [p2, p5, c2, c5, n1, hne, if_true, if_false, and_true, and_false]
        by_cases c3 : min (x.1 a) (x.1 b) = x.1 a
        · simp only [c3, if_true]
          have c3' : ¬ x.1 a = x.1 b := hne
          simp only [c3', false_and, if_false]
          omega
        · have c3' : min (x.1 a) (x.1 b) = x.1 b := by omega
          have c4 : ¬ x.1 b = x.1 a := fun z => hne z.symm
          simp only [c3', c4, if_false, if_true, false_and, and_false, and_true]
          omega
      · have p5 : ¬ y.1 u = y.1 a := fun z => c5 (e4.mp z)
        simp only [p1, p2, c1, c2, c5, if_true, if_false, and_true, and_false]
        by_cases c3 : min (x.1 a) (x.1 b) = x.1 a
        · simp only [c3, if_true]
          constructor
          · constructor
            · intro z; exact absurd z p5
            · intro z; exact absurd z c5
          · intro z; exact absurd z c5
        · have c4 : ¬ x.1 b = x.1 a := fun z => hne z.symm
          simp only [c3, c4, if_false, and_false]
          constructor
          · constructor
            · intro z; exact absurd z p5
            · intro z; exact absurd z c1
          · intro z; exact absurd z c1
    · have p2 : ¬ y.1 v = y.1 b := fun z => c2 (e3.mp z)
      by_cases c5 : x.1 u = x.1 a <;> by_cases c6 : x.1 v = x.1 a
      · have q5 := d4 c5
        have q6 := d5 c6
        simp only [p1, p2, c1, c2, c5, c6, hne, if_false, and_false, and_true]
        refine ⟨⟨fun _ => rfl, fun _ => e1.mpr (by rw [c5, c6])⟩, fun _ => ?_⟩
        by_cases c3 : min (x.1 a) (x.1 b) = x.1 b
        · simp only [c3, if_true]; omega
        · simp only [c3, if_false]; omega
      · have r6 : ¬ y.1 u = y.1 v := fun z => c6 ((e1.mp z).symm.trans c5)
        simp only [p1, p2, c1, c2, c5, c6, hne, if_false, and_false, and_true]
        by_cases c3 : min (x.1 a) (x.1 b) = x.1 b
        · simp only [c3, if_true]
          exact ⟨⟨fun z => absurd z r6, fun z => absurd z.symm c2⟩, fun z => absurd z.symm c2⟩
        · simp only [c3, if_false]
          exact ⟨⟨fun z => absurd z r6, fun z => absurd z.symm c6⟩, fun z => absurd z.symm c6⟩
      · have r6 : ¬ y.1 u = y.1 v := fun z => c5 ((e1.mp z).trans c6)
        simp only [p1, p2, c1, c2, c5, c6, hne, if_false, and_false, and_true]
        by_cases c3 : min (x.1 a) (x.1 b) = x.1 b
        · simp only [c3, if_true]
          exact ⟨⟨fun z => absurd z r6, fun z => absurd z c1⟩, fun z => absurd z c1⟩
        · simp only [c3, if_false]
          exact ⟨⟨fun z => absurd z r6, fun z => absurd z c5⟩, fun z => absurd z c5⟩
      · simp only [p1, p2, c1, c2, c5, c6, if_false, and_false]
        exact ⟨e1, d1⟩
theorem mqI_N {n : Nat} {X : Lks} (hA : lkAll n X) : ∀ k, k ≤ X.1 → mqI n (mqN X.2 k) (pcN X.2 k)
  | 0, _ => fun s t _ _ => ⟨Iff.rfl, fun _ => rfl⟩
  | k + 1, h => by
    have i := mqI_N hA k (by omega)
    obtain ⟨a0, a1⟩ := hA k (by omega)
    have e := (i (X.2 0 k).toNat (X.2 1 k).toNat (by omega) (by omega)).1
    rw [pcN_succ, show mqN X.2 (k + 1) = mqS X.2 k (mqN X.2 k) from rfl]
    unfold mqS pcS
    by_cases c : (pcN X.2 k).1 (X.2 0 k).toNat = (pcN X.2 k).1 (X.2 1 k).toNat
    · rw [if_neg (fun z => z (e.mpr c)), if_neg (fun z => z c)]
      exact i
    · rw [if_pos (fun z => c (e.mp z)), if_pos c]
      exact mqI_J i (by omega) (by omega) c
theorem mqR_N {n : Nat} {X : Lks} (hn : n ≤ 8) (hA : lkAll n X) : ∀ k, k ≤ X.1 → ∀ t, t < n → 0 ≤ (mqN X.2 k).1 t ∧ (mqN X.2 k).1 t ≤ 7
  | 0, _, t, ht => ⟨Int.natCast_nonneg t, by show (t : Int) ≤ 7; omega⟩
  | k + 1, h, t, ht => by
    have i := mqR_N hn hA k (by omega)
    obtain ⟨a0, a1⟩ := hA k (by omega)
    have i0 := i (X.2 0 k).toNat (by omega)
    have it := i t ht
    rw [show mqN X.2 (k + 1) = mqS X.2 k (mqN X.2 k) from rfl]
    unfold mqS
    split
    · show 0 ≤ (if _ then _ else _) ∧ (if _ then _ else _) ≤ (7 : Int)
      split
      · exact i0
      · exact it
    · exact it
theorem pcT_stay {X : Lks} {i : Nat} (h : pcT X.2 i = 0) : ∀ k, i ≤ k → (pcN X.2 k).1 (X.2 0 i).toNat = (pcN X.2 k).1 (X.2 1 i).toNat := by
  have e0 : (pcN X.2 i).1 (X.2 0 i).toNat = (pcN X.2 i).1 (X.2 1 i).toNat := by
    unfold pcT at h
    split at h
    · omega
    · rename_i z
      exact Decidable.not_not.mp z
  intro k hk
  obtain ⟨d, rfl⟩ : ∃ d, k = i + d := ⟨k - i, by omega⟩
  clear hk
  induction d with
  | zero => exact e0
  | succ d ih =>
    rw [← Nat.add_assoc, pcN_succ]
    unfold pcS
    split
    · simp only [pcJ, ih]
    · exact ih
def mPcM (M : Mm) (y : Pcs) (k : Nat) : Mm := fun b j => if b = 173 ∧ j < k then y.1 j else if b = 174 ∧ j < k then y.2 j else M b j
set_option maxHeartbeats 600000 in
set_option maxRecDepth 20000 in
theorem Model_joins_ok {n k : Nat} {X : Lks} {y : Pcs} {M : Mm} (hn : n ≤ 8) (en : M 156 0 = n) (hA : lkAll n X) (hX : X.1 ≤ 28) (hx : lkIs M 169 X) (hk : k < X.1) (hy : ∀ t, t < n → M 173 t = y.1 t ∧ M 174 t = y.2 t) (hr : ∀ t, t < n → 0 ≤ y.1 t ∧ y.1 t ≤ 7) :
    CallV m_Model_joins [.inr 154, .inl (k : Int)] M (fun M' => M' = mPcM M (mqJ (y.1 (X.2 0 k).toNat) (y.1 (X.2 1 k).toNat) (y.2 (X.2 0 k).toNat + X.2 2 k - y.2 (X.2 1 k).toNat) y) n) := by
  have g0 : M 169 k = X.2 0 k := hx 0 (by omega) k hk
  have g1 : M 170 k = X.2 1 k := hx 1 (by omega) k hk
  have g2 : M 171 k = X.2 2 k := hx 2 (by omega) k hk
  obtain ⟨a0, a1⟩ := hA k hk
  obtain ⟨y0, z0⟩ := hy (X.2 0 k).toNat (by omega)
  obtain ⟨y1, z1⟩ := hy (X.2 1 k).toNat (by omega)
  have r1 := hr (X.2 1 k).toNat (by omega)
  refine callP_of (by decide) (by decide) (Nat.le_of_ble_eq_true rfl) (wpm_of (cuts := [59]) (by decide) 60 _ _ _ _ ?_)
  rw [show lM m_Model_joins = 6 from rfl]
  simp (maxSteps := 2000000) only [↓reduceIte, wp_eq, wpd_eq, kont_eq, STP1, STP2, STP3, STP4, STP5, konM_eq, AMK, CZ, Option.map, List.getElem?_cons_zero, List.getElem?_cons_succ, List.mem_cons, List.not_mem_nil, if_false, if_true, Nat.reduceAdd, Nat.reduceLT, Nat.reduceLeDiff, Nat.reduceEqDiff, true_and, and_true, List.length_nil, List.length_cons, or_true, true_or, or_false, false_or, Option.some.injEq, Sum.inl.injEq, Sum.inr.injEq, exists_eq_left', exists_eq_left, Int.reduceLE, Int.reduceLT, Int.reduceNeg, Int.reduceAdd, Int.reduceMul, Int.reduceSub, Int.reduceToNat, inR, Nat.zero_ne_one, false_and, Nat.succ_ne_zero, reduceCtorEq, false_implies, true_implies, not_false_eq_true, not_true_eq_false, Int.reduceEq, KRE, C_Model_joins, FM, natT, g0, g1, g2, y0, y1, z0, z1]
  repeat (first | refine ⟨by omega, ?_⟩ | refine ⟨fun _ _ => okt_nn (by omega), ?_⟩)
  try (first | (show _ ≤ _; omega) | (show _ < _; omega))
  generalize y.1 (X.2 0 k).toNat = one
  generalize y.1 (X.2 1 k).toNat = other at *
  generalize y.2 (X.2 0 k).toNat + X.2 2 k - y.2 (X.2 1 k).toNat = bb
  refine loopQ n (fun t ls M1 => M1 = mPcM M (mqJ one other bb y) t ∧ ls = [some (.inr 154), some (.inl (k : Int)), some (.inl one), some (.inl other), some (.inl bb), some (.inl (t : Int))]) ?_ _ _ ⟨?_, rfl⟩
  · rintro t _ _ ht ⟨rfl, rfl⟩ K
    have en1 : mPcM M (mqJ one other bb y) t 156 0 = n := by rw [← en]; simp [mPcM]
    by_cases c : t = n
    · subst c
      have c' := eq_true (show (t : Int) ≤ t by omega)
      refine wpm_of (cuts := [59]) (by decide) 60 _ _ _ _ ?_
      simp (maxSteps := 2000000) only [↓reduceIte, wp_eq, wpd_eq, kont_eq, STP1, STP2, STP3, STP4, STP5, konM_eq, AMK, CZ, Option.map, List.getElem?_cons_zero, List.getElem?_cons_succ, List.mem_cons, List.not_mem_nil, if_false, if_true, Nat.reduceAdd, Nat.reduceLT, Nat.reduceLeDiff, Nat.reduceEqDiff, true_and, and_true, List.length_nil, List.length_cons, or_true, true_or, or_false, false_or, Option.some.injEq, Sum.inl.injEq, Sum.inr.injEq, exists_eq_left', exists_eq_left, Int.reduceLE, Int.reduceLT, Int.reduceNeg, Int.reduceAdd, Int.reduceMul, Int.reduceSub, Int.reduceToNat, inR, Nat.zero_ne_one, false_and, Nat.succ_ne_zero, reduceCtorEq, false_implies, true_implies, not_false_eq_true, not_true_eq_false, Int.reduceEq, KRE, C_Model_joins, FM, en1, c']
      repeat (first | refine ⟨by omega, ?_⟩ | refine ⟨fun _ _ => okt_nn (by omega), ?_⟩)
      try (first | (show _ ≤ _; omega) | (show _ < _; omega))
    · have htn : t < n := by omega
      have c' := eq_false (show ¬ (n : Int) ≤ t by omega)
      have K' := K htn _ _ ⟨rfl, rfl⟩
      have q3 : mPcM M (mqJ one other bb y) t 173 t = y.1 t := by rw [← (hy t htn).1]; simp [mPcM]
      have q4 : mPcM M (mqJ one other bb y) t 174 t = y.2 t := by rw [← (hy t htn).2]; simp [mPcM]
      have rt := hr t htn
      have e1 : (mqJ one other bb y).1 t = if y.1 t = other then one else y.1 t := rfl
      have e2 : (mqJ one other bb y).2 t = if y.1 t = other then y.2 t + bb else y.2 t := rfl
      have fin : ∀ v w, v = (mqJ one other bb y).1 t → w = (mqJ one other bb y).2 t → mset (mset (mPcM M (mqJ one other bb y) t) 173 t v) 174 t w = mPcM M (mqJ one other bb y) (t + 1) := by
        intro v w hv hw
        subst hv; subst hw
        generalize mqJ one other bb y = z
        funext b j
        simp only [mset, mPcM]
        by_cases hj : j = t
        · subst hj
          grind
        · grind
      by_cases c1 : y.1 t = other
      · rw [if_pos c1] at e1 e2
        have c1' := eq_true c1
        have f := fin one (y.2 t + bb) e1.symm e2.symm
        refine wpm_of (cuts := [59]) (by decide) 60 _ _ _ _ ?_
        simp (maxSteps := 2000000) only [↓reduceIte, wp_eq, wpd_eq, kont_eq, STP1, STP2, STP3, STP4, STP5, konM_eq, AMK, CZ, Option.map, List.getElem?_cons_zero, List.getElem?_cons_succ, List.mem_cons, List.not_mem_nil, if_false, if_true, Nat.reduceAdd, Nat.reduceLT, Nat.reduceLeDiff, Nat.reduceEqDiff, true_and, and_true, List.length_nil, List.length_cons, or_true, true_or, or_false, false_or, Option.some.injEq, Sum.inl.injEq, Sum.inr.injEq, exists_eq_left', exists_eq_left, Int.reduceLE, Int.reduceLT, Int.reduceNeg, Int.reduceAdd, Int.reduceMul, Int.reduceSub, Int.reduceToNat, inR, Nat.zero_ne_one, false_and, Nat.succ_ne_zero, reduceCtorEq, false_implies, true_implies, not_false_eq_true, not_true_eq_false, Int.reduceEq, KRE, C_Model_joins, FM, natT, en1, c', q3, q4, c1', MSE]
        repeat (first | refine ⟨by omega, ?_⟩ | refine ⟨fun _ _ => okt_nn (by omega), ?_⟩)
        try (first | (show _ ≤ _; omega) | (show _ < _; omega))
        exact WPm.eqM K' f.symm
      · rw [if_neg c1] at e1 e2
        have c1' := eq_false c1
        have f := fin (y.1 t) (y.2 t) e1.symm e2.symm
        have f2 : mset (mset (mPcM M (mqJ one other bb y) t) 173 t (y.1 t)) 174 t (y.2 t) = mPcM M (mqJ one other bb y) t := by
          rw [← q3, mset_same, ← q4, mset_same]
        refine wpm_of (cuts := [59]) (by decide) 60 _ _ _ _ ?_
        simp (maxSteps := 2000000) only [↓reduceIte, wp_eq, wpd_eq, kont_eq, STP1, STP2, STP3, STP4, STP5, konM_eq, AMK, CZ, Option.map, List.getElem?_cons_zero, List.getElem?_cons_succ, List.mem_cons, List.not_mem_nil, if_false, if_true, Nat.reduceAdd, Nat.reduceLT, Nat.reduceLeDiff, Nat.reduceEqDiff, true_and, and_true, List.length_nil, List.length_cons, or_true, true_or, or_false, false_or, Option.some.injEq, Sum.inl.injEq, Sum.inr.injEq, exists_eq_left', exists_eq_left, Int.reduceLE, Int.reduceLT, Int.reduceNeg, Int.reduceAdd, Int.reduceMul, Int.reduceSub, Int.reduceToNat, inR, Nat.zero_ne_one, false_and, Nat.succ_ne_zero, reduceCtorEq, false_implies, true_implies, not_false_eq_true, not_true_eq_false, Int.reduceEq, KRE, C_Model_joins, FM, natT, en1, c', q3, q4, c1']
        repeat (first | refine ⟨by omega, ?_⟩ | refine ⟨fun _ _ => okt_nn (by omega), ?_⟩)
        try (first | (show _ ≤ _; omega) | (show _ < _; omega))
        exact WPm.eqM K' (f2.symm.trans f).symm
  · funext b j
    simp [mPcM]
/-- links, pieces and places as the reference has them, behind tellLinks -/
def linkM (M : Mm) (n : Nat) (X : Lks) : Prop := lkR X ∧ lkAll n X ∧ lkIs M 169 X ∧ M 154 49 = X.1 ∧ (∀ i, i < X.1 → M 175 i = pcT X.2 i) ∧ (∀ t, t < n → M 176 t = (pcN X.2 X.1).1 t) ∧ mqI n (fun t => M 173 t, fun t => M 174 t) (pcN X.2 X.1)
def linkP : Nat → Nat → Prop := fun b j => b = 154 ∧ (26 ≤ j ∧ j ≤ 41 ∨ j = 49) ∨ 162 ≤ b ∧ b ≤ 176
/-- the least of a piece, among those below t -/
def lsM (Q : Nat → Int) (t : Nat) (k : Nat) : Int := foldN (fun o x => if Q o = Q t then min x o else x) (t : Int) k
theorem lsM_in (Q : Nat → Int) (t : Nat) : ∀ k, k ≤ t → 0 ≤ lsM Q t k ∧ lsM Q t k ≤ t
  | 0, _ => ⟨Int.natCast_nonneg t, Int.le_refl _⟩
  | k + 1, h => by
    have i := lsM_in Q t k (by omega)
    unfold lsM at *
    rw [foldN]
    split <;> omega
theorem lsM_is (Q : Nat → Int) (t : Nat) {u : Nat} (hu : u ≤ t) (h1 : u < t → Q u = Q t) (h2 : ∀ o, o < u → Q o ≠ Q t) : ∀ k, k ≤ t → lsM Q t k = if u < k then (u : Int) else t
  | 0, _ => rfl
  | k + 1, h => by
    have i := lsM_is Q t hu h1 h2 k (by omega)
    unfold lsM at *
    rw [foldN, i]
    by_cases c : k < u
    · have := h2 k c
      rw [if_neg this, if_neg (by omega), if_neg (by omega)]
    · by_cases c2 : k = u
      · subst c2
        have := h1 (by omega)
        rw [if_pos this, if_neg (by omega), if_pos (by omega)]
        omega
      · rw [if_pos (show u < k by omega), if_pos (show u < k + 1 by omega)]
        split <;> omega
set_option maxHeartbeats 4000000 in
/-- the last loop: the least of each timber's piece -/
theorem Model_tellLinks_4 {n : Nat} {a2 a3 : Option AV} {X : Lks} {M : Mm} {Qc : Option AV → Mm → Prop} (hn : n ≤ 8) (en : M 156 0 = n) (hX : lkR X) (hq : mqI n (fun t => M 173 t, fun t => M 174 t) (pcN X.2 X.1)) (hr : ∀ t, t < n → 0 ≤ M 173 t ∧ M 173 t ≤ 7)
    (K : ∀ M', FrP (fun b _ => b = 176) M M' → (∀ t, t < n → M' 176 t = (pcN X.2 X.1).1 t) → Qc none M') :
    WPm m_Model_tellLinks Qc 172 [some (.inr 154), some (.inl (X.1 : Int)), a2, a3] [] M := by
  have pI := pcI_N hX X.1 (Nat.le_refl _)
  refine wpm_of (cuts := [181]) (by decide) 60 _ _ _ _ ?_
  simp (maxSteps := 2000000) only [↓reduceIte, wp_eq, wpd_eq, kont_eq, STP1, STP2, STP3, STP4, STP5, konM_eq, AMK, CZ, Option.map, List.getElem?_cons_zero, List.getElem?_cons_succ, List.mem_cons, List.not_mem_nil, if_false, if_true, Nat.reduceAdd, Nat.reduceLT, Nat.reduceLeDiff, Nat.reduceEqDiff, true_and, and_true, List.length_nil, List.length_cons, or_true, true_or, or_false, false_or, Option.some.injEq, Sum.inl.injEq, Sum.inr.injEq, exists_eq_left', exists_eq_left, Int.reduceLE, Int.reduceLT, Int.reduceNeg, Int.reduceAdd, Int.reduceMul, Int.reduceSub, Int.reduceToNat, inR, Nat.zero_ne_one, false_and, Nat.succ_ne_zero, reduceCtorEq, false_implies, true_implies, not_false_eq_true, not_true_eq_false, Int.reduceEq, KRE, C_Model_tellLinks, FM, en]
  refine loopQ n (fun d ls M1 => (FrP (fun b _ => b = 176) M M1 ∧ ∀ t, n - d ≤ t → t < n → M1 176 t = (pcN X.2 X.1).1 t) ∧ ∃ a2 a3, ls = [some (.inr 154), some (.inl ((n : Int) - 1 - d)), a2, a3]) ?_ _ _ ⟨⟨FrP.rf, fun t h1 h2 => by omega⟩, a2, a3, by simp⟩
  rintro d _ M1 hd ⟨⟨F, hL⟩, a2', a3', rfl⟩ KK
  by_cases c : d = n
  · subst c
    have c' := eq_true (show (d : Int) - 1 - d < 0 by omega)
    refine wpm_of (cuts := [181]) (by decide) 60 _ _ _ _ ?_
    simp (maxSteps := 2000000) only [↓reduceIte, wp_eq, wpd_eq, kont_eq, STP1, STP2, STP3, STP4, STP5, konM_eq, AMK, CZ, Option.map, List.getElem?_cons_zero, List.getElem?_cons_succ, List.mem_cons, List.not_mem_nil, if_false, if_true, Nat.reduceAdd, Nat.reduceLT, Nat.reduceLeDiff, Nat.reduceEqDiff, true_and, and_true, List.length_nil, List.length_cons, or_true, true_or, or_false, false_or, Option.some.injEq, Sum.inl.injEq, Sum.inr.injEq, exists_eq_left', exists_eq_left, Int.reduceLE, Int.reduceLT, Int.reduceNeg, Int.reduceAdd, Int.reduceMul, Int.reduceSub, Int.reduceToNat, inR, Nat.zero_ne_one, false_and, Nat.succ_ne_zero, reduceCtorEq, false_implies, true_implies, not_false_eq_true, not_true_eq_false, Int.reduceEq, KRE, C_Model_tellLinks, FM, c']
    repeat (first | refine ⟨by omega, ?_⟩ | refine ⟨fun _ _ => okt_nn (by omega), ?_⟩)
    try (first | (show _ ≤ _; omega) | (show _ < _; omega))
    exact K _ F (fun t ht => hL t (by omega) ht)
  · have c' := eq_false (show ¬ (n : Int) - 1 - d < 0 by omega)
    obtain ⟨t, et⟩ : ∃ t : Nat, (n : Int) - 1 - d = t := ⟨n - 1 - d, by omega⟩
    rw [et] at c' ⊢
    refine wpm_of (cuts := [181, 189]) (by decide) 60 _ _ _ _ ?_
    simp (maxSteps := 2000000) only [↓reduceIte, wp_eq, wpd_eq, kont_eq, STP1, STP2, STP3, STP4, STP5, konM_eq, AMK, CZ, Option.map, List.getElem?_cons_zero, List.getElem?_cons_succ, List.mem_cons, List.not_mem_nil, if_false, if_true, Nat.reduceAdd, Nat.reduceLT, Nat.reduceLeDiff, Nat.reduceEqDiff, true_and, and_true, List.length_nil, List.length_cons, or_true, true_or, or_false, false_or, Option.some.injEq, Sum.inl.injEq, Sum.inr.injEq, exists_eq_left', exists_eq_left, Int.reduceLE, Int.reduceLT, Int.reduceNeg, Int.reduceAdd, Int.reduceMul, Int.reduceSub, Int.reduceToNat, inR, Nat.zero_ne_one, false_and, Nat.succ_ne_zero, reduceCtorEq, false_implies, true_implies, not_false_eq_true, not_true_eq_false, Int.reduceEq, KRE, C_Model_tellLinks, FM, c']
    repeat (first | refine ⟨by omega, ?_⟩ | refine ⟨fun _ _ => okt_nn (by omega), ?_⟩)
    try (first | (show _ ≤ _; omega) | (show _ < _; omega))
    refine loopQ t (fun o ls M2 => M1 = M2 ∧ ls = [some (.inr 154), some (.inl (t : Int)), some (.inl (lsM (M 173) t o)), some (.inl (o : Int))]) ?_ _ _ ⟨rfl, rfl⟩
    rintro o _ _ ho ⟨rfl, rfl⟩ K3
    have e3 : ∀ j, M1 173 j = M 173 j := fun j => F _ _ (by omega)
    have li := lsM_in (M 173) t o ho
    by_cases c2 : o = t
    · subst c2
      have c2' := eq_true (show (o : Int) ≤ o by omega)
      refine wpm_of (cuts := [181, 189]) (by decide) 60 _ _ _ _ ?_
      simp (maxSteps := 2000000) only [↓reduceIte, wp_eq, wpd_eq, kont_eq, STP1, STP2, STP3, STP4, STP5, konM_eq, AMK, CZ, Option.map, List.getElem?_cons_zero, List.getElem?_cons_succ, List.mem_cons, List.not_mem_nil, if_false, if_true, Nat.reduceAdd, Nat.reduceLT, Nat.reduceLeDiff, Nat.reduceEqDiff, true_and, and_true, List.length_nil, List.length_cons, or_true, true_or, or_false, false_or, Option.some.injEq, Sum.inl.injEq, Sum.inr.injEq, exists_eq_left', exists_eq_left, Int.reduceLE, Int.reduceLT, Int.reduceNeg, Int.reduceAdd, Int.reduceMul, Int.reduceSub, Int.reduceToNat, inR, Nat.zero_ne_one, false_and, Nat.succ_ne_zero, reduceCtorEq, false_implies, true_implies, not_false_eq_true, not_true_eq_false, Int.reduceEq, KRE, C_Model_tellLinks, FM, natT, c2']
      repeat (first | refine ⟨by omega, ?_⟩ | refine ⟨fun _ _ => okt_nn (by omega), ?_⟩)
      try (first | (show _ ≤ _; omega) | (show _ < _; omega))
      refine KK (by omega) _ _ ⟨⟨F.st rfl, fun s h1 h2 => ?_⟩, _, _, ?_⟩
      · by_cases cs : s = o
        · subst cs
          have pt := pI.1 s (by omega)
          obtain ⟨u, eu⟩ : ∃ u : Nat, (pcN X.2 X.1).1 s = u := ⟨((pcN X.2 X.1).1 s).toNat, by omega⟩
          have pu : (pcN X.2 X.1).1 u = u := by
            have := pt.2.1
            rw [eu, natT] at this
            exact this
          have key := lsM_is (M 173) s (u := u) (by omega) (fun hus => by
            have := (hq u s (by omega) (by omega)).1
            exact this.mpr (by rw [pu, eu])) (fun o ho => by
            intro z
            have := (hq o s (by omega) (by omega)).1.mp z
            have po := (pI.1 o (by omega)).1
            omega) s (Nat.le_refl _)
          rw [key, eu]
          simp only [mset, if_true, true_and, and_self]
          by_cases hus : u < s
          · rw [if_pos hus]
          · rw [if_neg hus]; omega
        · simp only [mset]
          rw [if_neg (by omega)]
          exact hL s (by omega) h2
      · rw [natI, show (n : Int) - 1 - (d + 1) = (o : Int) + -1 by omega]
    · have hot : o < t := by omega
      have c2' := eq_false (show ¬ (t : Int) ≤ o by omega)
      have K3' := K3 hot _ _ ⟨rfl, rfl⟩
      have rt := hr t (by omega)
      have ro := hr o (by omega)
      rw [show lsM (M 173) t (o + 1) = if M 173 o = M 173 t then min (lsM (M 173) t o) o else lsM (M 173) t o from rfl] at K3'
      by_cases c3 : M 173 o = M 173 t
      · rw [if_pos c3] at K3'
        have c3' := eq_true c3
        refine wpm_of (cuts := [181, 189]) (by decide) 60 _ _ _ _ ?_
        simp (maxSteps := 2000000) only [↓reduceIte, wp_eq, wpd_eq, kont_eq, STP1, STP2, STP3, STP4, STP5, konM_eq, AMK, CZ, Option.map, List.getElem?_cons_zero, List.getElem?_cons_succ, List.mem_cons, List.not_mem_nil, if_false, if_true, Nat.reduceAdd, Nat.reduceLT, Nat.reduceLeDiff, Nat.reduceEqDiff, true_and, and_true, List.length_nil, List.length_cons, or_true, true_or, or_false, false_or, Option.some.injEq, Sum.inl.injEq, Sum.inr.injEq, exists_eq_left', exists_eq_left, Int.reduceLE, Int.reduceLT, Int.reduceNeg, Int.reduceAdd, Int.reduceMul, Int.reduceSub, Int.reduceToNat, inR, Nat.zero_ne_one, false_and, Nat.succ_ne_zero, reduceCtorEq, false_implies, true_implies, not_false_eq_true, not_true_eq_false, Int.reduceEq, KRE, C_Model_tellLinks, FM, natT, c2', e3, c3']
        repeat (first | refine ⟨by omega, ?_⟩ | refine ⟨fun _ _ => okt_nn (by omega), ?_⟩)
        try (first | (show _ ≤ _; omega) | (show _ < _; omega))
        exact K3'
      · rw [if_neg c3] at K3'
        have c3' := eq_false c3
        refine wpm_of (cuts := [181, 189]) (by decide) 60 _ _ _ _ ?_
        simp (maxSteps := 2000000) only [↓reduceIte, wp_eq, wpd_eq, kont_eq, STP1, STP2, STP3, STP4, STP5, konM_eq, AMK, CZ, Option.map, List.getElem?_cons_zero, List.getElem?_cons_succ, List.mem_cons, List.not_mem_nil, if_false, if_true, Nat.reduceAdd, Nat.reduceLT, Nat.reduceLeDiff, Nat.reduceEqDiff, true_and, and_true, List.length_nil, List.length_cons, or_true, true_or, or_false, false_or, Option.some.injEq, Sum.inl.injEq, Sum.inr.injEq, exists_eq_left', exists_eq_left, Int.reduceLE, Int.reduceLT, Int.reduceNeg, Int.reduceAdd, Int.reduceMul, Int.reduceSub, Int.reduceToNat, inR, Nat.zero_ne_one, false_and, Nat.succ_ne_zero, reduceCtorEq, false_implies, true_implies, not_false_eq_true, not_true_eq_false, Int.reduceEq, KRE, C_Model_tellLinks, FM, natT, c2', e3, c3']
        repeat (first | refine ⟨by omega, ?_⟩ | refine ⟨fun _ _ => okt_nn (by omega), ?_⟩)
        try (first | (show _ ≤ _; omega) | (show _ < _; omega))
        exact K3'
set_option maxHeartbeats 4000000 in
/-- pieces laid, then the links one by one -/
theorem Model_tellLinks_2 {n : Nat} {a1 a2 a3 : Option AV} {X : Lks} {M : Mm} {Qc : Option AV → Mm → Prop} (hn : n ≤ 8) (en : M 156 0 = n) (hX : lkR X) (hA : lkAll n X) (hx : lkIs M 169 X) (hk : M 154 49 = X.1)
    (K : ∀ M', FrP linkP M M' → linkM M' n X → Qc none M') :
    WPm m_Model_tellLinks Qc 74 [some (.inr 154), a1, a2, a3] [] M := by
  have h28 := hX.1
  refine wpm_of (cuts := [76]) (by decide) 60 _ _ _ _ ?_
  simp (maxSteps := 2000000) only [↓reduceIte, wp_eq, wpd_eq, kont_eq, STP1, STP2, STP3, STP4, STP5, konM_eq, AMK, CZ, Option.map, List.getElem?_cons_zero, List.getElem?_cons_succ, List.mem_cons, List.not_mem_nil, if_false, if_true, Nat.reduceAdd, Nat.reduceLT, Nat.reduceLeDiff, Nat.reduceEqDiff, true_and, and_true, List.length_nil, List.length_cons, or_true, true_or, or_false, false_or, Option.some.injEq, Sum.inl.injEq, Sum.inr.injEq, exists_eq_left', exists_eq_left, Int.reduceLE, Int.reduceLT, Int.reduceNeg, Int.reduceAdd, Int.reduceMul, Int.reduceSub, Int.reduceToNat, inR, Nat.zero_ne_one, false_and, Nat.succ_ne_zero, reduceCtorEq, false_implies, true_implies, not_false_eq_true, not_true_eq_false, Int.reduceEq, KRE, C_Model_tellLinks]
  refine loopQ n (fun k ls M1 => M1 = mPcM M (fun t => (t : Int), fun _ => 0) k ∧ ls = [some (.inr 154), some (.inl (k : Int)), a2, a3]) ?_ _ _ ⟨by funext b j; simp [mPcM], rfl⟩
  rintro k _ _ hkn ⟨rfl, rfl⟩ K1
  have en1 : mPcM M (fun t => (t : Int), fun _ => 0) k 156 0 = n := by rw [← en]; simp [mPcM]
  by_cases c : k = n
  · subst c
    have c' := eq_true (show (k : Int) ≤ k by omega)
    refine wpm_of (cuts := [76, 108]) (by decide) 60 _ _ _ _ ?_
    simp (maxSteps := 2000000) only [↓reduceIte, wp_eq, wpd_eq, kont_eq, STP1, STP2, STP3, STP4, STP5, konM_eq, AMK, CZ, Option.map, List.getElem?_cons_zero, List.getElem?_cons_succ, List.mem_cons, List.not_mem_nil, if_false, if_true, Nat.reduceAdd, Nat.reduceLT, Nat.reduceLeDiff, Nat.reduceEqDiff, true_and, and_true, List.length_nil, List.length_cons, or_true, true_or, or_false, false_or, Option.some.injEq, Sum.inl.injEq, Sum.inr.injEq, exists_eq_left', exists_eq_left, Int.reduceLE, Int.reduceLT, Int.reduceNeg, Int.reduceAdd, Int.reduceMul, Int.reduceSub, Int.reduceToNat, inR, Nat.zero_ne_one, false_and, Nat.succ_ne_zero, reduceCtorEq, false_implies, true_implies, not_false_eq_true, not_true_eq_false, Int.reduceEq, KRE, C_Model_tellLinks, FM, en1, c']
    repeat (first | refine ⟨by omega, ?_⟩ | refine ⟨fun _ _ => okt_nn (by omega), ?_⟩)
    try (first | (show _ ≤ _; omega) | (show _ < _; omega))
    refine loopQ X.1 (fun i ls M1 => (FrP (fun b _ => 173 ≤ b ∧ b ≤ 175) M M1 ∧ (∀ t, t < k → M1 173 t = (mqN X.2 i).1 t ∧ M1 174 t = (mqN X.2 i).2 t) ∧ ∀ j, j < i → M1 175 j = pcT X.2 j) ∧ ls = [some (.inr 154), some (.inl (i : Int)), a2, a3]) ?_ _ _ ⟨⟨?_, fun t ht => ?_, fun j hj => by omega⟩, rfl⟩
    · rintro i _ M1 hi ⟨⟨F, hy, hT⟩, rfl⟩ K2
      have en2 : M1 156 0 = k := (F _ _ (by omega)).trans en
      have hk2 : M1 154 49 = X.1 := (F _ _ (by omega)).trans hk
      have hx2 : lkIs M1 169 X := fun q hq j hj => (F _ _ (by omega)).trans (hx q hq j hj)
      have qi := mqI_N hA i hi
      have qr := mqR_N hn hA i hi
      by_cases c2 : i = X.1
      · subst c2
        have K4 := Model_tellLinks_4 (a2 := a2) (a3 := a3) (Qc := Qc) hn en2 hX (fun s t hs ht => by
          have q := qi s t hs ht
          obtain ⟨e1, e2⟩ := hy s hs
          obtain ⟨e3, e4⟩ := hy t ht
          rw [← e1, ← e2, ← e3, ← e4] at q
          exact q) (fun t ht => by rw [(hy t ht).1]; exact qr t ht) (fun M' F2 hL => by
          have F3 : FrP linkP M M' := (F.wd (fun b j z => Or.inr (by omega))).tr (F2.wd (fun b j z => Or.inr (by omega)))
          refine K M' F3 ⟨hX, hA, fun q hq j hj => (F2 _ _ (by omega)).trans (hx2 q hq j hj), (F2 _ _ (by omega)).trans hk2, fun j hj => (F2 _ _ (by omega)).trans (hT j hj), hL, fun s t hs ht => ?_⟩
          have q := qi s t hs ht
          obtain ⟨e1, e2⟩ := hy s hs
          obtain ⟨e3, e4⟩ := hy t ht
          rw [← e1, ← e2, ← e3, ← e4] at q
          show (M' 173 s = M' 173 t ↔ _) ∧ (_ → M' 174 t - M' 174 s = _)
          rw [F2 173 s (by omega), F2 173 t (by omega), F2 174 s (by omega), F2 174 t (by omega)]
          exact q)
        have c' := eq_true (show (X.1 : Int) ≤ X.1 by omega)
        refine wpm_of (cuts := [108, 172]) (by decide) 60 _ _ _ _ ?_
        simp (maxSteps := 2000000) only [↓reduceIte, wp_eq, wpd_eq, kont_eq, STP1, STP2, STP3, STP4, STP5, konM_eq, AMK, CZ, Option.map, List.getElem?_cons_zero, List.getElem?_cons_succ, List.mem_cons, List.not_mem_nil, if_false, if_true, Nat.reduceAdd, Nat.reduceLT, Nat.reduceLeDiff, Nat.reduceEqDiff, true_and, and_true, List.length_nil, List.length_cons, or_true, true_or, or_false, false_or, Option.some.injEq, Sum.inl.injEq, Sum.inr.injEq, exists_eq_left', exists_eq_left, Int.reduceLE, Int.reduceLT, Int.reduceNeg, Int.reduceAdd, Int.reduceMul, Int.reduceSub, Int.reduceToNat, inR, Nat.zero_ne_one, false_and, Nat.succ_ne_zero, reduceCtorEq, false_implies, true_implies, not_false_eq_true, not_true_eq_false, Int.reduceEq, KRE, C_Model_tellLinks, FM, hk2, c']
        repeat (first | refine ⟨by omega, ?_⟩ | refine ⟨fun _ _ => okt_nn (by omega), ?_⟩)
        try (first | (show _ ≤ _; omega) | (show _ < _; omega))
        exact K4
      · have hlt : i < X.1 := by omega
        have c' := eq_false (show ¬ (X.1 : Int) ≤ i by omega)
        have g0 : M1 169 i = X.2 0 i := hx2 0 (by omega) i hlt
        have g1 : M1 170 i = X.2 1 i := hx2 1 (by omega) i hlt
        obtain ⟨a0, a1⟩ := hA i hlt
        obtain ⟨y0, z0⟩ := hy (X.2 0 i).toNat (by omega)
        obtain ⟨y1, z1⟩ := hy (X.2 1 i).toNat (by omega)
        have r0 := qr (X.2 0 i).toNat (by omega)
        have r1 := qr (X.2 1 i).toNat (by omega)
        have qe := (qi (X.2 0 i).toNat (X.2 1 i).toNat (by omega) (by omega)).1
        have K2' := fun M' z => K2 hlt _ M' ⟨z, rfl⟩
        have eS : mqN X.2 (i + 1) = mqS X.2 i (mqN X.2 i) := rfl
        unfold mqS at eS
        by_cases c3 : (mqN X.2 i).1 (X.2 0 i).toNat = (mqN X.2 i).1 (X.2 1 i).toNat
        · have eT : pcT X.2 i = 0 := if_neg (fun z => z (qe.mp c3))
          rw [if_neg (fun z => z c3)] at eS
          have c3' := eq_true c3
          have K5 := K2' (mset M1 175 i 0) ⟨F.st (by omega), fun t ht => ?_, fun j hj => ?_⟩
          · refine wpm_of (cuts := [108]) (by decide) 60 _ _ _ _ ?_
            simp (maxSteps := 2000000) only [↓reduceIte, wp_eq, wpd_eq, kont_eq, STP1, STP2, STP3, STP4, STP5, konM_eq, AMK, CZ, Option.map, List.getElem?_cons_zero, List.getElem?_cons_succ, List.mem_cons, List.not_mem_nil, if_false, if_true, Nat.reduceAdd, Nat.reduceLT, Nat.reduceLeDiff, Nat.reduceEqDiff, true_and, and_true, List.length_nil, List.length_cons, or_true, true_or, or_false, false_or, Option.some.injEq, Sum.inl.injEq, Sum.inr.injEq, exists_eq_left', exists_eq_left, Int.reduceLE, Int.reduceLT, Int.reduceNeg, Int.reduceAdd, Int.reduceMul, Int.reduceSub, Int.reduceToNat, inR, Nat.zero_ne_one, false_and, Nat.succ_ne_zero, reduceCtorEq, false_implies, true_implies, not_false_eq_true, not_true_eq_false, Int.reduceEq, KRE, C_Model_tellLinks, FM, hk2, c', natT, g0, g1, y0, y1, c3', MSE]
            repeat (first | refine ⟨by omega, ?_⟩ | refine ⟨fun _ _ => okt_nn (by omega), ?_⟩)
            try (first | (show _ ≤ _; omega) | (show _ < _; omega))
            exact K5
          · rw [eS, mset_ne _ (by decide), mset_ne _ (by decide)]
            exact hy t ht
          · by_cases cj : j = i
            · subst cj; simp [mset, eT]
            · simp only [mset]
              rw [if_neg (by omega)]
              exact hT j (by omega)
        · have eT : pcT X.2 i = 1 := if_pos (fun z => c3 (qe.mpr z))
          rw [if_pos c3] at eS
          have c3' := eq_false c3
          have J := Model_joins_ok (k := i) (y := mqN X.2 i) (M := mset M1 175 i 1) hn ((mset_ne _ (by decide) _).trans en2) hA h28 (fun q hq j hj => (mset_ne _ (by omega) _).trans (hx2 q hq j hj)) hlt (fun t ht => by rw [mset_ne _ (by decide), mset_ne _ (by decide)]; exact hy t ht) qr
          rw [← eS] at J
          refine wpm_of (cuts := [108]) (by decide) 60 _ _ _ _ ?_
          simp (maxSteps := 2000000) only [↓reduceIte, wp_eq, wpd_eq, kont_eq, STP1, STP2, STP3, STP4, STP5, konM_eq, AMK, CZ, Option.map, List.getElem?_cons_zero, List.getElem?_cons_succ, List.mem_cons, List.not_mem_nil, if_false, if_true, Nat.reduceAdd, Nat.reduceLT, Nat.reduceLeDiff, Nat.reduceEqDiff, true_and, and_true, List.length_nil, List.length_cons, or_true, true_or, or_false, false_or, Option.some.injEq, Sum.inl.injEq, Sum.inr.injEq, exists_eq_left', exists_eq_left, Int.reduceLE, Int.reduceLT, Int.reduceNeg, Int.reduceAdd, Int.reduceMul, Int.reduceSub, Int.reduceToNat, inR, Nat.zero_ne_one, false_and, Nat.succ_ne_zero, reduceCtorEq, false_implies, true_implies, not_false_eq_true, not_true_eq_false, Int.reduceEq, KRE, C_Model_tellLinks, FM, hk2, c', natT, g0, g1, y0, y1, c3', MSE]
          repeat (first | refine ⟨by omega, ?_⟩ | refine ⟨fun _ _ => okt_nn (by omega), ?_⟩)
          try (first | (show _ ≤ _; omega) | (show _ < _; omega))
          refine J.eq ?_
          try simp (maxSteps := 2000000) only [↓reduceIte, wp_eq, wpd_eq, kont_eq, STP1, STP2, STP3, STP4, STP5, konM_eq, AMK, CZ, Option.map, List.getElem?_cons_zero, List.getElem?_cons_succ, List.mem_cons, List.not_mem_nil, if_false, if_true, Nat.reduceAdd, Nat.reduceLT, Nat.reduceLeDiff, Nat.reduceEqDiff, true_and, and_true, List.length_nil, List.length_cons, or_true, true_or, or_false, false_or, Option.some.injEq, Sum.inl.injEq, Sum.inr.injEq, exists_eq_left', exists_eq_left, Int.reduceLE, Int.reduceLT, Int.reduceNeg, Int.reduceAdd, Int.reduceMul, Int.reduceSub, Int.reduceToNat, inR, Nat.zero_ne_one, false_and, Nat.succ_ne_zero, reduceCtorEq, false_implies, true_implies, not_false_eq_true, not_true_eq_false, Int.reduceEq, KRE, C_Model_tellLinks]
          refine K2' _ ⟨?_, fun t ht => ?_, fun j hj => ?_⟩
          · intro b j z
            have := F b j z
            simp only [mPcM, mset]
            rw [if_neg (by omega), if_neg (by omega), if_neg (by omega)]
            exact this
          · simp [mPcM, ht]
          · simp only [mPcM, mset]
            rw [if_neg (by omega), if_neg (by omega)]
            by_cases cj : j = i
            · subst cj; simp [eT]
            · rw [if_neg (by omega)]
              exact hT j (by omega)
    · intro b j z
      simp only [mPcM]
      rw [if_neg (by omega), if_neg (by omega)]
    · simp [mPcM, ht, mqN, foldN]
  · have hlt : k < n := by omega
    have c' := eq_false (show ¬ (n : Int) ≤ k by omega)
    have K1' := K1 hlt _ _ ⟨rfl, rfl⟩
    refine wpm_of (cuts := [76, 108]) (by decide) 60 _ _ _ _ ?_
    simp (maxSteps := 2000000) only [↓reduceIte, wp_eq, wpd_eq, kont_eq, STP1, STP2, STP3, STP4, STP5, konM_eq, AMK, CZ, Option.map, List.getElem?_cons_zero, List.getElem?_cons_succ, List.mem_cons, List.not_mem_nil, if_false, if_true, Nat.reduceAdd, Nat.reduceLT, Nat.reduceLeDiff, Nat.reduceEqDiff, true_and, and_true, List.length_nil, List.length_cons, or_true, true_or, or_false, false_or, Option.some.injEq, Sum.inl.injEq, Sum.inr.injEq, exists_eq_left', exists_eq_left, Int.reduceLE, Int.reduceLT, Int.reduceNeg, Int.reduceAdd, Int.reduceMul, Int.reduceSub, Int.reduceToNat, inR, Nat.zero_ne_one, false_and, Nat.succ_ne_zero, reduceCtorEq, false_implies, true_implies, not_false_eq_true, not_true_eq_false, Int.reduceEq, KRE, C_Model_tellLinks, FM, en1, natT, c']
    repeat (first | refine ⟨by omega, ?_⟩ | refine ⟨fun _ _ => okt_nn (by omega), ?_⟩)
    try (first | (show _ ≤ _; omega) | (show _ < _; omega))
    refine WPm.eqM K1' ?_
    funext b j
    simp only [mset, mPcM]
    by_cases hj : j = k
    · subst hj
      grind
    · grind
set_option maxHeartbeats 600000 in
set_option maxRecDepth 20000 in
theorem Model_tellLinks_ok {n : Nat} {T : Nat → Rw} {Y : Nat → Int} {lap bnd mrg : Int} {M : Mm} (h : mdl M n T Y lap bnd mrg) : CallV m_Model_tellLinks [.inr 154] M (fun M' => linkM M' n (lks T lap bnd mrg n n) ∧ FrP linkP M M') := by
  have en := h.1.1
  have n8 := h.1.2
  have okTs : ∀ t, t < n → okT (T t) := fun t ht => (h.2.2.2.2 t ht).1
  have sep : ∀ b j, linkP b j → b ≠ 156 ∧ b ≠ 158 := fun b j z => by unfold linkP at z; omega
  refine callP_of (by decide) (by decide) (Nat.le_of_ble_eq_true rfl) (wpm_of (cuts := [7]) (by decide) 50 _ _ _ _ ?_)
  rw [show lM m_Model_tellLinks = 4 from rfl]
  simp (maxSteps := 2000000) only [↓reduceIte, wp_eq, wpd_eq, kont_eq, STP1, STP2, STP3, STP4, STP5, konM_eq, AMK, CZ, Option.map, List.getElem?_cons_zero, List.getElem?_cons_succ, List.mem_cons, List.not_mem_nil, if_false, if_true, Nat.reduceAdd, Nat.reduceLT, Nat.reduceLeDiff, Nat.reduceEqDiff, true_and, and_true, List.length_nil, List.length_cons, or_true, true_or, or_false, false_or, Option.some.injEq, Sum.inl.injEq, Sum.inr.injEq, exists_eq_left', exists_eq_left, Int.reduceLE, Int.reduceLT, Int.reduceNeg, Int.reduceAdd, Int.reduceMul, Int.reduceSub, Int.reduceToNat, inR, Nat.zero_ne_one, false_and, Nat.succ_ne_zero, reduceCtorEq, false_implies, true_implies, not_false_eq_true, not_true_eq_false, Int.reduceEq, KRE, C_Model_tellLinks, FM]
  refine loopQ n (fun a ls M1 => (lkIs M1 169 (lks T lap bnd mrg n a) ∧ M1 154 49 = (lks T lap bnd mrg n a).1 ∧ FrP linkP M M1) ∧ ∃ a2, ls = [some (.inr 154), some (.inl (a : Int)), a2, none]) ?_ _ _ ⟨⟨fun q hq j hj => absurd (show j < 0 from hj) (by omega), by simp [mset]; rfl, FrP.rf.st (Or.inl ⟨rfl, by omega⟩)⟩, none, rfl⟩
  rintro a _ M1 ha ⟨⟨i1, i2, i4⟩, a2, rfl⟩ K
  obtain ⟨rX, bX⟩ := lks_R (lap := lap) (bnd := bnd) (mrg := mrg) n8 okTs a ha
  have h1 := mdl_fr h i4 sep
  have z3 := h1.1.1
  by_cases hz : a = n
  · subst hz
    have c' := eq_true (show (a : Int) ≤ a by omega)
    have K2 := Model_tellLinks_2 (a1 := some (.inl (a : Int))) (a2 := a2) (a3 := none) (Qc := fun v M' => v = none ∧ linkM M' a (lks T lap bnd mrg a a) ∧ FrP linkP M M') n8 z3 rX (lks_A a (Nat.le_refl _)) i1 i2 (fun M' F L => ⟨rfl, L, i4.tr F⟩)
    refine wpm_of (cuts := [7, 74]) (by decide) 100 _ _ _ _ ?_
    simp (maxSteps := 2000000) only [↓reduceIte, wp_eq, wpd_eq, kont_eq, STP1, STP2, STP3, STP4, STP5, konM_eq, AMK, CZ, Option.map, List.getElem?_cons_zero, List.getElem?_cons_succ, List.mem_cons, List.not_mem_nil, if_false, if_true, Nat.reduceAdd, Nat.reduceLT, Nat.reduceLeDiff, Nat.reduceEqDiff, true_and, and_true, List.length_nil, List.length_cons, or_true, true_or, or_false, false_or, Option.some.injEq, Sum.inl.injEq, Sum.inr.injEq, exists_eq_left', exists_eq_left, Int.reduceLE, Int.reduceLT, Int.reduceNeg, Int.reduceAdd, Int.reduceMul, Int.reduceSub, Int.reduceToNat, inR, Nat.zero_ne_one, false_and, Nat.succ_ne_zero, reduceCtorEq, false_implies, true_implies, not_false_eq_true, not_true_eq_false, Int.reduceEq, KRE, C_Model_tellLinks, FM, z3, c']
    repeat (first | refine ⟨by omega, ?_⟩ | refine ⟨fun _ _ => okt_nn (by omega), ?_⟩)
    try (first | (show _ ≤ _; omega) | (show _ < _; omega))
    exact K2
  · have han : a < n := by omega
    have c' := eq_false (show ¬ (n : Int) ≤ a by omega)
    refine wpm_of (cuts := [7, 26]) (by decide) 100 _ _ _ _ ?_
    simp (maxSteps := 2000000) only [↓reduceIte, wp_eq, wpd_eq, kont_eq, STP1, STP2, STP3, STP4, STP5, konM_eq, AMK, CZ, Option.map, List.getElem?_cons_zero, List.getElem?_cons_succ, List.mem_cons, List.not_mem_nil, if_false, if_true, Nat.reduceAdd, Nat.reduceLT, Nat.reduceLeDiff, Nat.reduceEqDiff, true_and, and_true, List.length_nil, List.length_cons, or_true, true_or, or_false, false_or, Option.some.injEq, Sum.inl.injEq, Sum.inr.injEq, exists_eq_left', exists_eq_left, Int.reduceLE, Int.reduceLT, Int.reduceNeg, Int.reduceAdd, Int.reduceMul, Int.reduceSub, Int.reduceToNat, inR, Nat.zero_ne_one, false_and, Nat.succ_ne_zero, reduceCtorEq, false_implies, true_implies, not_false_eq_true, not_true_eq_false, Int.reduceEq, KRE, C_Model_tellLinks, FM, z3, c']
    repeat (first | refine ⟨by omega, ?_⟩ | refine ⟨fun _ _ => okt_nn (by omega), ?_⟩)
    try (first | (show _ ≤ _; omega) | (show _ < _; omega))
    refine (Model_layA_ok h1 han).mono (fun M2 z => ?_)
    obtain ⟨rA, -, F2⟩ := z
    have F2' : FrP linkP M1 M2 := F2.wd (fun b j z => by unfold layAP at z; unfold linkP; omega)
    try simp (maxSteps := 2000000) only [↓reduceIte, wp_eq, wpd_eq, kont_eq, STP1, STP2, STP3, STP4, STP5, konM_eq, AMK, CZ, Option.map, List.getElem?_cons_zero, List.getElem?_cons_succ, List.mem_cons, List.not_mem_nil, if_false, if_true, Nat.reduceAdd, Nat.reduceLT, Nat.reduceLeDiff, Nat.reduceEqDiff, true_and, and_true, List.length_nil, List.length_cons, or_true, true_or, or_false, false_or, Option.some.injEq, Sum.inl.injEq, Sum.inr.injEq, exists_eq_left', exists_eq_left, Int.reduceLE, Int.reduceLT, Int.reduceNeg, Int.reduceAdd, Int.reduceMul, Int.reduceSub, Int.reduceToNat, inR, Nat.zero_ne_one, false_and, Nat.succ_ne_zero, reduceCtorEq, false_implies, true_implies, not_false_eq_true, not_true_eq_false, Int.reduceEq, KRE, C_Model_tellLinks]
    refine loopQ (n - (a + 1)) (fun d ls M2 => (lkIs M2 169 (foldN (lkRowS T lap bnd mrg a) (lks T lap bnd mrg n a) (a + 1 + d)) ∧ M2 154 49 = (foldN (lkRowS T lap bnd mrg a) (lks T lap bnd mrg n a) (a + 1 + d)).1 ∧ rowA M2 (T a) ∧ FrP linkP M M2) ∧ ls = [some (.inr 154), some (.inl (a : Int)), some (.inl ((a + 1 + d : Nat) : Int)), none]) ?_ _ _ ⟨⟨?_, ?_, rA, i4.tr F2'⟩, rfl⟩
    · rintro d _ M2 hd ⟨⟨j1, j2, j3, j4⟩, rfl⟩ K2
      have h2 := mdl_fr h j4 sep
      have y3 := h2.1.1
      by_cases hz2 : a + 1 + d = n
      · have c2' := eq_true (show (n : Int) ≤ (a + 1 + d : Nat) by omega)
        refine wpm_of (cuts := [7, 26]) (by decide) 100 _ _ _ _ ?_
        simp (maxSteps := 2000000) only [↓reduceIte, wp_eq, wpd_eq, kont_eq, STP1, STP2, STP3, STP4, STP5, konM_eq, AMK, CZ, Option.map, List.getElem?_cons_zero, List.getElem?_cons_succ, List.mem_cons, List.not_mem_nil, if_false, if_true, Nat.reduceAdd, Nat.reduceLT, Nat.reduceLeDiff, Nat.reduceEqDiff, true_and, and_true, List.length_nil, List.length_cons, or_true, true_or, or_false, false_or, Option.some.injEq, Sum.inl.injEq, Sum.inr.injEq, exists_eq_left', exists_eq_left, Int.reduceLE, Int.reduceLT, Int.reduceNeg, Int.reduceAdd, Int.reduceMul, Int.reduceSub, Int.reduceToNat, inR, Nat.zero_ne_one, false_and, Nat.succ_ne_zero, reduceCtorEq, false_implies, true_implies, not_false_eq_true, not_true_eq_false, Int.reduceEq, KRE, C_Model_tellLinks, FM, y3, c2']
        repeat (first | refine ⟨by omega, ?_⟩ | refine ⟨fun _ _ => okt_nn (by omega), ?_⟩)
        try (first | (show _ ≤ _; omega) | (show _ < _; omega))
        refine K han _ _ ⟨⟨?_, ?_, j4⟩, _, rfl⟩
        · rw [hz2] at j1
          exact j1
        · rw [hz2] at j2
          exact j2
      · have hbn : a + 1 + d < n := by omega
        have c2' := eq_false (show ¬ (n : Int) ≤ (a + 1 + d : Nat) by omega)
        generalize hb' : a + 1 + d = b at *
        have K2' := fun x y z => K2 (by omega) x y z
        rw [show a + 1 + (d + 1) = b + 1 by omega] at K2'
        obtain ⟨rZ, bZ⟩ := lkRow_R (lap := lap) (bnd := bnd) (mrg := mrg) n8 han okTs ⟨rX, bX⟩ b (by omega)
        have eZ : foldN (lkRowS T lap bnd mrg a) (lks T lap bnd mrg n a) (b + 1) = lkStep T lap bnd mrg a b (foldN (lkRowS T lap bnd mrg a) (lks T lap bnd mrg n a) b) := if_pos (by omega)
        rw [eZ] at K2'
        generalize foldN (lkRowS T lap bnd mrg a) (lks T lap bnd mrg n a) b = Z at *
        refine wpm_of (cuts := [7, 26]) (by decide) 100 _ _ _ _ ?_
        simp (maxSteps := 2000000) only [↓reduceIte, wp_eq, wpd_eq, kont_eq, STP1, STP2, STP3, STP4, STP5, konM_eq, AMK, CZ, Option.map, List.getElem?_cons_zero, List.getElem?_cons_succ, List.mem_cons, List.not_mem_nil, if_false, if_true, Nat.reduceAdd, Nat.reduceLT, Nat.reduceLeDiff, Nat.reduceEqDiff, true_and, and_true, List.length_nil, List.length_cons, or_true, true_or, or_false, false_or, Option.some.injEq, Sum.inl.injEq, Sum.inr.injEq, exists_eq_left', exists_eq_left, Int.reduceLE, Int.reduceLT, Int.reduceNeg, Int.reduceAdd, Int.reduceMul, Int.reduceSub, Int.reduceToNat, inR, Nat.zero_ne_one, false_and, Nat.succ_ne_zero, reduceCtorEq, false_implies, true_implies, not_false_eq_true, not_true_eq_false, Int.reduceEq, KRE, C_Model_tellLinks, FM, y3, c2']
        repeat (first | refine ⟨by omega, ?_⟩ | refine ⟨fun _ _ => okt_nn (by omega), ?_⟩)
        try (first | (show _ ≤ _; omega) | (show _ < _; omega))
        refine (Model_layB_ok h2 hbn).mono (fun M3 z => ?_)
        obtain ⟨rB, F3⟩ := z
        have F3' : FrP linkP M2 M3 := F3.wd (fun b j z => by unfold layBP at z; unfold linkP; omega)
        have rA3 : rowA M3 (T a) := rowA_cells (fun b q1 q2 j => F3 _ _ (by unfold layBP; omega)) (F3 _ _ (by unfold layBP; omega)) (F3 _ _ (by unfold layBP; omega)) j3
        have h3 := mdl_fr h2 F3' sep
        try simp (maxSteps := 2000000) only [↓reduceIte, wp_eq, wpd_eq, kont_eq, STP1, STP2, STP3, STP4, STP5, konM_eq, AMK, CZ, Option.map, List.getElem?_cons_zero, List.getElem?_cons_succ, List.mem_cons, List.not_mem_nil, if_false, if_true, Nat.reduceAdd, Nat.reduceLT, Nat.reduceLeDiff, Nat.reduceEqDiff, true_and, and_true, List.length_nil, List.length_cons, or_true, true_or, or_false, false_or, Option.some.injEq, Sum.inl.injEq, Sum.inr.injEq, exists_eq_left', exists_eq_left, Int.reduceLE, Int.reduceLT, Int.reduceNeg, Int.reduceAdd, Int.reduceMul, Int.reduceSub, Int.reduceToNat, inR, Nat.zero_ne_one, false_and, Nat.succ_ne_zero, reduceCtorEq, false_implies, true_implies, not_false_eq_true, not_true_eq_false, Int.reduceEq, KRE, C_Model_tellLinks]
        refine (Model_bound_ok h3.2.2.1).eq ?_
        try simp (maxSteps := 2000000) only [↓reduceIte, wp_eq, wpd_eq, kont_eq, STP1, STP2, STP3, STP4, STP5, konM_eq, AMK, CZ, Option.map, List.getElem?_cons_zero, List.getElem?_cons_succ, List.mem_cons, List.not_mem_nil, if_false, if_true, Nat.reduceAdd, Nat.reduceLT, Nat.reduceLeDiff, Nat.reduceEqDiff, true_and, and_true, List.length_nil, List.length_cons, or_true, true_or, or_false, false_or, Option.some.injEq, Sum.inl.injEq, Sum.inr.injEq, exists_eq_left', exists_eq_left, Int.reduceLE, Int.reduceLT, Int.reduceNeg, Int.reduceAdd, Int.reduceMul, Int.reduceSub, Int.reduceToNat, inR, Nat.zero_ne_one, false_and, Nat.succ_ne_zero, reduceCtorEq, false_implies, true_implies, not_false_eq_true, not_true_eq_false, Int.reduceEq, KRE, C_Model_tellLinks]
        have hb := h3.2.2.1.1.2
        refine (Model_tellBest_ok h3.2.2.1 rA3 rB (by omega)).mono (fun M4 z => ?_)
        obtain ⟨b1, b2, F4⟩ := z
        have F4' : FrP linkP M3 M4 := F4.wd (fun b j z => by unfold bestP at z; unfold linkP; omega)
        have la := (okTs a han).1
        have lb := (okTs b hbn).1
        have ob := okB_best (A := T a) (B := T b) (lap := lap) (by omega) (by omega)
        have eS : lkStep T lap bnd mrg a b Z = if why (best (T a) (T b) lap) bnd mrg = 0 then lkIns (lkV a b (best (T a) (T b) lap).2.1 (best (T a) (T b) lap).2.2.1) Z else Z := rfl
        have fr4 : FrP linkP M M4 := (j4.tr F3').tr F4'
        have li4 : lkIs M4 169 Z := fun q hq j hj => ((F4 _ _ (by unfold bestP; omega)).trans (F3 _ _ (by unfold layBP; omega))).trans (j1 q hq j hj)
        have k4 : M4 154 49 = Z.1 := ((F4 _ _ (by unfold bestP; omega)).trans (F3 _ _ (by unfold layBP; omega))).trans j2
        have rA4 : rowA M4 (T a) := rowA_cells (fun b q1 q2 j => F4 _ _ (by unfold bestP; omega)) (F4 _ _ (by unfold bestP; omega)) (F4 _ _ (by unfold bestP; omega)) rA3
        have wi := why_in (best (T a) (T b) lap) bnd mrg
        by_cases cw : why (best (T a) (T b) lap) bnd mrg = 0
        · rw [if_pos cw] at eS
          obtain ⟨g1, g2, g3, g4⟩ := why_0 ob cw
          have cw' := eq_true cw
          obtain ⟨f2, f3, f4⟩ := b1.2.2 g1
          try simp (maxSteps := 2000000) only [↓reduceIte, wp_eq, wpd_eq, kont_eq, STP1, STP2, STP3, STP4, STP5, konM_eq, AMK, CZ, Option.map, List.getElem?_cons_zero, List.getElem?_cons_succ, List.mem_cons, List.not_mem_nil, if_false, if_true, Nat.reduceAdd, Nat.reduceLT, Nat.reduceLeDiff, Nat.reduceEqDiff, true_and, and_true, List.length_nil, List.length_cons, or_true, true_or, or_false, false_or, Option.some.injEq, Sum.inl.injEq, Sum.inr.injEq, exists_eq_left', exists_eq_left, Int.reduceLE, Int.reduceLT, Int.reduceNeg, Int.reduceAdd, Int.reduceMul, Int.reduceSub, Int.reduceToNat, inR, Nat.zero_ne_one, false_and, Nat.succ_ne_zero, reduceCtorEq, false_implies, true_implies, not_false_eq_true, not_true_eq_false, Int.reduceEq, KRE, C_Model_tellLinks, FM, b2, cw']
          repeat (first | refine ⟨by omega, ?_⟩ | refine ⟨fun _ _ => okt_nn (by omega), ?_⟩)
          try (first | (show _ ≤ _; omega) | (show _ < _; omega))
          have bs := lkB_s (a := a) (by omega)
          have bl := lkB_le (a + 1)
          refine (Model_keepLink_ok (a := (a : Int)) (b := (b : Int)) li4 rZ k4 (by omega) f2 f3 g3).mono (fun M5 z => ?_)
          obtain ⟨z5, z6, z7⟩ := z
          rw [eS] at K2'
          try simp (maxSteps := 2000000) only [↓reduceIte, wp_eq, wpd_eq, kont_eq, STP1, STP2, STP3, STP4, STP5, konM_eq, AMK, CZ, Option.map, List.getElem?_cons_zero, List.getElem?_cons_succ, List.mem_cons, List.not_mem_nil, if_false, if_true, Nat.reduceAdd, Nat.reduceLT, Nat.reduceLeDiff, Nat.reduceEqDiff, true_and, and_true, List.length_nil, List.length_cons, or_true, true_or, or_false, false_or, Option.some.injEq, Sum.inl.injEq, Sum.inr.injEq, exists_eq_left', exists_eq_left, Int.reduceLE, Int.reduceLT, Int.reduceNeg, Int.reduceAdd, Int.reduceMul, Int.reduceSub, Int.reduceToNat, inR, Nat.zero_ne_one, false_and, Nat.succ_ne_zero, reduceCtorEq, false_implies, true_implies, not_false_eq_true, not_true_eq_false, Int.reduceEq, KRE, C_Model_tellLinks]
          refine K2' _ _ ⟨⟨z5, z6, rowA_cells (fun b q1 q2 j => z7 _ _ (by omega)) (z7 _ _ (by omega)) (z7 _ _ (by omega)) rA4, fr4.tr (z7.wd (fun b j z => by unfold linkP; omega))⟩, rfl⟩
        · rw [if_neg cw] at eS
          rw [eS] at K2'
          have cw' := eq_false cw
          try simp (maxSteps := 2000000) only [↓reduceIte, wp_eq, wpd_eq, kont_eq, STP1, STP2, STP3, STP4, STP5, konM_eq, AMK, CZ, Option.map, List.getElem?_cons_zero, List.getElem?_cons_succ, List.mem_cons, List.not_mem_nil, if_false, if_true, Nat.reduceAdd, Nat.reduceLT, Nat.reduceLeDiff, Nat.reduceEqDiff, true_and, and_true, List.length_nil, List.length_cons, or_true, true_or, or_false, false_or, Option.some.injEq, Sum.inl.injEq, Sum.inr.injEq, exists_eq_left', exists_eq_left, Int.reduceLE, Int.reduceLT, Int.reduceNeg, Int.reduceAdd, Int.reduceMul, Int.reduceSub, Int.reduceToNat, inR, Nat.zero_ne_one, false_and, Nat.succ_ne_zero, reduceCtorEq, false_implies, true_implies, not_false_eq_true, not_true_eq_false, Int.reduceEq, KRE, C_Model_tellLinks, FM, b2, cw']
          repeat (first | refine ⟨by omega, ?_⟩ | refine ⟨fun _ _ => okt_nn (by omega), ?_⟩)
          try (first | (show _ ≤ _; omega) | (show _ < _; omega))
          exact K2' _ _ ⟨⟨li4, k4, rA4, fr4⟩, rfl⟩
    · rw [lkRow_0 (a + 1 + 0) (by omega)]
      exact fun q hq j hj => (F2 _ _ (by unfold layAP; omega)).trans (i1 q hq j hj)
    · rw [lkRow_0 (a + 1 + 0) (by omega)]
      exact (F2 _ _ (by unfold layAP; omega)).trans i2

