/-! THE REFERENCE, 2: slides and the best place. -/
theorem if_cg {α : Type} {p q : Prop} [Decidable p] [Decidable q] {a b c d : α} (h : p ↔ q) (e : a = c) (f : b = d) : (if p then a else b) = if q then c else d := by
  subst e; subst f
  by_cases z : p
  · rw [if_pos z, if_pos (h.mp z)]
  · rw [if_neg z, if_neg (fun w => z (h.mpr w))]
/-- the doubts of a row as bits -/
abbrev isD (D k : Int) : Prop := k < 24 ∧ (btI D k.toNat = true ∨ 0 < k ∧ btI D (k - 1).toNat = true)
def dbM (D : Int) (A : Rw) : Prop := inR D ∧ ∀ k : Int, 0 ≤ k → k < A.2.1 → (sShk A k ≠ 0 ↔ isD D k)
theorem isD_0 (k : Int) : ¬ isD 0 k := by
  unfold isD
  rw [btI_0, btI_0]
  simp
set_option maxHeartbeats 600000 in
set_option maxRecDepth 20000 in
theorem Model_isDoubtful_ok {D k : Int} {M : Mm} (hk : 0 ≤ k ∧ k ≤ 1000) : CallI m_Model_isDoubtful [.inl D, .inl k] M (fun x M' => x = (if isD D k then 1 else 0) ∧ M' = M) := by
  unfold isD
  by_cases c1 : 24 ≤ k
  · rw [if_neg (by omega)]
    have c1' := eq_true c1
    refine callP_of (by decide) (by decide) (Nat.le_of_ble_eq_true rfl) (wpm_of (cuts := []) (by decide) 50 _ _ _ _ ?_)
    rw [show lM m_Model_isDoubtful = 2 from rfl]
    simp (maxSteps := 2000000) only [↓reduceIte, wp_eq, wpd_eq, kont_eq, STP1, STP2, STP3, STP4, STP5, konM_eq, AMK, CZ, Option.map, List.getElem?_cons_zero, List.getElem?_cons_succ, List.mem_cons, List.not_mem_nil, if_false, if_true, Nat.reduceAdd, Nat.reduceLT, Nat.reduceLeDiff, Nat.reduceEqDiff, true_and, and_true, List.length_nil, List.length_cons, or_true, true_or, or_false, false_or, Option.some.injEq, Sum.inl.injEq, Sum.inr.injEq, exists_eq_left', exists_eq_left, Int.reduceLE, Int.reduceLT, Int.reduceNeg, Int.reduceAdd, Int.reduceMul, Int.reduceSub, Int.reduceToNat, inR, Nat.zero_ne_one, false_and, Nat.succ_ne_zero, reduceCtorEq, false_implies, true_implies, not_false_eq_true, not_true_eq_false, Int.reduceEq, KRE, C_Model_isDoubtful, c1']
    repeat (first | refine ⟨by omega, ?_⟩ | refine ⟨fun _ _ => okt_nn (by omega), ?_⟩)
    try (first | (show _ ≤ _; omega) | (show _ < _; omega))
  · have c1' := eq_false c1
    have e1 := bit_testI D (k := k) (by omega) (by omega)
    by_cases c2 : btI D k.toNat = true
    · rw [if_pos ⟨by omega, Or.inl c2⟩]
      rw [if_pos c2] at e1
      refine callP_of (by decide) (by decide) (Nat.le_of_ble_eq_true rfl) (wpm_of (cuts := []) (by decide) 50 _ _ _ _ ?_)
      rw [show lM m_Model_isDoubtful = 2 from rfl]
      simp (maxSteps := 2000000) only [↓reduceIte, wp_eq, wpd_eq, kont_eq, STP1, STP2, STP3, STP4, STP5, konM_eq, AMK, CZ, Option.map, List.getElem?_cons_zero, List.getElem?_cons_succ, List.mem_cons, List.not_mem_nil, if_false, if_true, Nat.reduceAdd, Nat.reduceLT, Nat.reduceLeDiff, Nat.reduceEqDiff, true_and, and_true, List.length_nil, List.length_cons, or_true, true_or, or_false, false_or, Option.some.injEq, Sum.inl.injEq, Sum.inr.injEq, exists_eq_left', exists_eq_left, Int.reduceLE, Int.reduceLT, Int.reduceNeg, Int.reduceAdd, Int.reduceMul, Int.reduceSub, Int.reduceToNat, inR, Nat.zero_ne_one, false_and, Nat.succ_ne_zero, reduceCtorEq, false_implies, true_implies, not_false_eq_true, not_true_eq_false, Int.reduceEq, KRE, C_Model_isDoubtful, c1', e1]
      repeat (first | refine ⟨by omega, ?_⟩ | refine ⟨fun _ _ => okt_nn (by omega), ?_⟩)
      try (first | (show _ ≤ _; omega) | (show _ < _; omega))
    · rw [if_neg c2] at e1
      by_cases c3 : k ≤ 0
      · rw [if_neg (fun z => by rcases z.2 with z | z; exact c2 z; omega)]
        have c3' := eq_true c3
        refine callP_of (by decide) (by decide) (Nat.le_of_ble_eq_true rfl) (wpm_of (cuts := []) (by decide) 50 _ _ _ _ ?_)
        rw [show lM m_Model_isDoubtful = 2 from rfl]
        simp (maxSteps := 2000000) only [↓reduceIte, wp_eq, wpd_eq, kont_eq, STP1, STP2, STP3, STP4, STP5, konM_eq, AMK, CZ, Option.map, List.getElem?_cons_zero, List.getElem?_cons_succ, List.mem_cons, List.not_mem_nil, if_false, if_true, Nat.reduceAdd, Nat.reduceLT, Nat.reduceLeDiff, Nat.reduceEqDiff, true_and, and_true, List.length_nil, List.length_cons, or_true, true_or, or_false, false_or, Option.some.injEq, Sum.inl.injEq, Sum.inr.injEq, exists_eq_left', exists_eq_left, Int.reduceLE, Int.reduceLT, Int.reduceNeg, Int.reduceAdd, Int.reduceMul, Int.reduceSub, Int.reduceToNat, inR, Nat.zero_ne_one, false_and, Nat.succ_ne_zero, reduceCtorEq, false_implies, true_implies, not_false_eq_true, not_true_eq_false, Int.reduceEq, KRE, C_Model_isDoubtful, c1', e1, c3']
        repeat (first | refine ⟨by omega, ?_⟩ | refine ⟨fun _ _ => okt_nn (by omega), ?_⟩)
        try (first | (show _ ≤ _; omega) | (show _ < _; omega))
      · have e2 := bit_testI D (k := k - 1) (by omega) (by omega)
        have c3' := eq_false c3
        by_cases c4 : btI D (k - 1).toNat = true
        · rw [if_pos ⟨by omega, Or.inr ⟨by omega, c4⟩⟩]
          rw [if_pos c4] at e2
          refine callP_of (by decide) (by decide) (Nat.le_of_ble_eq_true rfl) (wpm_of (cuts := []) (by decide) 50 _ _ _ _ ?_)
          rw [show lM m_Model_isDoubtful = 2 from rfl]
          simp (maxSteps := 2000000) only [↓reduceIte, wp_eq, wpd_eq, kont_eq, STP1, STP2, STP3, STP4, STP5, konM_eq, AMK, CZ, Option.map, List.getElem?_cons_zero, List.getElem?_cons_succ, List.mem_cons, List.not_mem_nil, if_false, if_true, Nat.reduceAdd, Nat.reduceLT, Nat.reduceLeDiff, Nat.reduceEqDiff, true_and, and_true, List.length_nil, List.length_cons, or_true, true_or, or_false, false_or, Option.some.injEq, Sum.inl.injEq, Sum.inr.injEq, exists_eq_left', exists_eq_left, Int.reduceLE, Int.reduceLT, Int.reduceNeg, Int.reduceAdd, Int.reduceMul, Int.reduceSub, Int.reduceToNat, inR, Nat.zero_ne_one, false_and, Nat.succ_ne_zero, reduceCtorEq, false_implies, true_implies, not_false_eq_true, not_true_eq_false, Int.reduceEq, KRE, C_Model_isDoubtful, c1', e1, c3', e2]
          repeat (first | refine ⟨by omega, ?_⟩ | refine ⟨fun _ _ => okt_nn (by omega), ?_⟩)
          try (first | (show _ ≤ _; omega) | (show _ < _; omega))
        · rw [if_neg (fun z => by rcases z.2 with z | z; exact c2 z; exact c4 z.2)]
          rw [if_neg c4] at e2
          refine callP_of (by decide) (by decide) (Nat.le_of_ble_eq_true rfl) (wpm_of (cuts := []) (by decide) 50 _ _ _ _ ?_)
          rw [show lM m_Model_isDoubtful = 2 from rfl]
          simp (maxSteps := 2000000) only [↓reduceIte, wp_eq, wpd_eq, kont_eq, STP1, STP2, STP3, STP4, STP5, konM_eq, AMK, CZ, Option.map, List.getElem?_cons_zero, List.getElem?_cons_succ, List.mem_cons, List.not_mem_nil, if_false, if_true, Nat.reduceAdd, Nat.reduceLT, Nat.reduceLeDiff, Nat.reduceEqDiff, true_and, and_true, List.length_nil, List.length_cons, or_true, true_or, or_false, false_or, Option.some.injEq, Sum.inl.injEq, Sum.inr.injEq, exists_eq_left', exists_eq_left, Int.reduceLE, Int.reduceLT, Int.reduceNeg, Int.reduceAdd, Int.reduceMul, Int.reduceSub, Int.reduceToNat, inR, Nat.zero_ne_one, false_and, Nat.succ_ne_zero, reduceCtorEq, false_implies, true_implies, not_false_eq_true, not_true_eq_false, Int.reduceEq, KRE, C_Model_isDoubtful, c1', e1, c3', e2]
          repeat (first | refine ⟨by omega, ?_⟩ | refine ⟨fun _ _ => okt_nn (by omega), ?_⟩)
          try (first | (show _ ≤ _; omega) | (show _ < _; omega))
/-- row A and row B of the reference -/
def rowA (M : Mm) (A : Rw) : Prop := M 154 26 = A.2.1 ∧ A.2.1 ≤ 924 ∧ finM M 162 A ∧ dbM (M 154 27) A
def rowB (M : Mm) (B : Rw) : Prop := M 154 28 = B.2.1 ∧ B.2.1 ≤ 24 ∧ finM M 165 B ∧ dbM (M 154 29) B ∧ fullR B
theorem finM_cells {M M1 : Mm} {v : Nat} {A : Rw} (e : ∀ b, v ≤ b → b < v + 3 → ∀ j, M1 b j = M b j) (h : finM M v A) : finM M1 v A := by
  obtain ⟨⟨h1, h2, h3⟩, h4⟩ := h
  refine ⟨⟨h1, h2, fun j hj => ?_⟩, fun j hj => ?_⟩
  · rw [e v (by omega) (by omega)]; exact h3 j hj
  · rw [e (v + 1) (by omega) (by omega), e (v + 2) (by omega) (by omega)]; exact h4 j hj
theorem rowA_cells {M M1 : Mm} {A : Rw} (e : ∀ b, 162 ≤ b → b < 165 → ∀ j, M1 b j = M b j) (e1 : M1 154 26 = M 154 26) (e2 : M1 154 27 = M 154 27) (h : rowA M A) : rowA M1 A := by
  obtain ⟨h1, h2, h3, h4⟩ := h
  exact ⟨by rw [e1]; exact h1, h2, finM_cells (fun b a1 a2 j => e b a1 (by omega) j) h3, by rw [e2]; exact h4⟩
theorem rowB_cells {M M1 : Mm} {A : Rw} (e : ∀ b, 165 ≤ b → b < 168 → ∀ j, M1 b j = M b j) (e1 : M1 154 28 = M 154 28) (e2 : M1 154 29 = M 154 29) (h : rowB M A) : rowB M1 A := by
  obtain ⟨h1, h2, h3, h4, h5⟩ := h
  exact ⟨by rw [e1]; exact h1, h2, finM_cells (fun b a1 a2 j => e b a1 (by omega) j) h3, by rw [e2]; exact h4, h5⟩
def mSlM (M : Mm) (A B : Rw) (x : Int) : Mm := mset (mset (mset (mset M 154 32 (slPairs A B x)) 154 33 (slSigns A B x)) 154 34 (slRanks A B x)) 154 35 (slScore A B x)
set_option maxHeartbeats 600000 in
set_option maxRecDepth 20000 in
theorem Model_slide_e {x1 x5 x6 x7 : Option AV} {P O S Z : Int} {M : Mm} {Qc : Option AV → Mm → Prop} (hp : M 154 32 = P) (b1 : 0 ≤ P ∧ P ≤ 924) (b2 : 0 ≤ S ∧ S ≤ P) (b3 : 0 ≤ O ∧ O ≤ 4620) (b4 : 0 ≤ Z ∧ Z ≤ 1848)
    (hq : ∀ sg rk : Int, sg = (if S < 1 then 0 else (Z * 100).tdiv (2 * S)) → rk = (if P < 1 then 0 else 100 - (O * 25).tdiv P) → Qc none (mset (mset (mset M 154 33 sg) 154 34 rk) 154 35 ((2 * sg + rk).tdiv 3))) :
    WPm m_Model_slide Qc 223 [some (.inr 154), x1, some (.inl S), some (.inl Z), some (.inl O), x5, x6, x7] [] M := by
  have d1 : 0 ≤ (Z * 100).tdiv (2 * S) ∧ (Z * 100).tdiv (2 * S) ≤ 184800 := by
    rw [Int.tdiv_eq_ediv_of_nonneg (by omega)]
    refine ⟨Int.ediv_nonneg (by omega) (by omega), ?_⟩
    by_cases h : S = 0
    · rw [h]; simp
    · exact Int.le_trans (Int.ediv_le_self _ (by omega)) (by omega)
  have d2 : 0 ≤ (O * 25).tdiv P ∧ (O * 25).tdiv P ≤ 115500 := by
    rw [Int.tdiv_eq_ediv_of_nonneg (by omega)]
    refine ⟨Int.ediv_nonneg (by omega) (by omega), ?_⟩
    by_cases h : P = 0
    · rw [h]; simp
    · exact Int.le_trans (Int.ediv_le_self _ (by omega)) (by omega)
  have K := hq _ _ rfl rfl
  by_cases cs : S = 0
  · rw [if_pos (by omega)] at K
    have cs' := eq_true cs
    by_cases cp : P = 0
    · rw [if_pos (by omega)] at K
      have cp' := eq_true cp
      refine wpm_of (cuts := []) (by decide) 300 _ _ _ _ ?_
      simp (maxSteps := 2000000) only [↓reduceIte, wp_eq, wpd_eq, kont_eq, STP1, STP2, STP3, STP4, STP5, konM_eq, AMK, CZ, Option.map, List.getElem?_cons_zero, List.getElem?_cons_succ, List.mem_cons, List.not_mem_nil, if_false, if_true, Nat.reduceAdd, Nat.reduceLT, Nat.reduceLeDiff, Nat.reduceEqDiff, true_and, and_true, List.length_nil, List.length_cons, or_true, true_or, or_false, false_or, Option.some.injEq, Sum.inl.injEq, Sum.inr.injEq, exists_eq_left', exists_eq_left, Int.reduceLE, Int.reduceLT, Int.reduceNeg, Int.reduceAdd, Int.reduceMul, Int.reduceSub, Int.reduceToNat, inR, Nat.zero_ne_one, false_and, Nat.succ_ne_zero, reduceCtorEq, false_implies, true_implies, not_false_eq_true, not_true_eq_false, Int.reduceEq, KRE, C_Model_slide, FM, MSE, hp, cs', cp']
      repeat (first | refine ⟨by omega, ?_⟩ | refine ⟨fun _ _ => okt_nn (by omega), ?_⟩)
      try (first | (show _ ≤ _; omega) | (show _ < _; omega))
      exact K
    · rw [if_neg (by omega)] at K
      have cp' := eq_false cp
      refine wpm_of (cuts := []) (by decide) 300 _ _ _ _ ?_
      simp (maxSteps := 2000000) only [↓reduceIte, wp_eq, wpd_eq, kont_eq, STP1, STP2, STP3, STP4, STP5, konM_eq, AMK, CZ, Option.map, List.getElem?_cons_zero, List.getElem?_cons_succ, List.mem_cons, List.not_mem_nil, if_false, if_true, Nat.reduceAdd, Nat.reduceLT, Nat.reduceLeDiff, Nat.reduceEqDiff, true_and, and_true, List.length_nil, List.length_cons, or_true, true_or, or_false, false_or, Option.some.injEq, Sum.inl.injEq, Sum.inr.injEq, exists_eq_left', exists_eq_left, Int.reduceLE, Int.reduceLT, Int.reduceNeg, Int.reduceAdd, Int.reduceMul, Int.reduceSub, Int.reduceToNat, inR, Nat.zero_ne_one, false_and, Nat.succ_ne_zero, reduceCtorEq, false_implies, true_implies, not_false_eq_true, not_true_eq_false, Int.reduceEq, KRE, C_Model_slide, FM, MSE, hp, cs', cp']
      repeat (first | refine ⟨by omega, ?_⟩ | refine ⟨fun _ _ => okt_nn (by omega), ?_⟩)
      try (first | (show _ ≤ _; omega) | (show _ < _; omega))
      exact K
  · rw [if_neg (by omega)] at K
    have cs' := eq_false cs
    have cp' := eq_false (show ¬ P = 0 by omega)
    rw [if_neg (by omega)] at K
    have d3 : -2147483648 ≤ 2 * (Z * 100).tdiv (2 * S) + (100 - (O * 25).tdiv P) ∧ 2 * (Z * 100).tdiv (2 * S) + (100 - (O * 25).tdiv P) ≤ 2147483647 := by omega
    have d4 : inR (Z * 100) ∧ inR (2 * S) ∧ inR (O * 25) := by simp only [inR]; omega
    simp only [inR] at d4
    refine wpm_of (cuts := []) (by decide) 300 _ _ _ _ ?_
    simp (maxSteps := 2000000) only [↓reduceIte, wp_eq, wpd_eq, kont_eq, STP1, STP2, STP3, STP4, STP5, konM_eq, AMK, CZ, Option.map, List.getElem?_cons_zero, List.getElem?_cons_succ, List.mem_cons, List.not_mem_nil, if_false, if_true, Nat.reduceAdd, Nat.reduceLT, Nat.reduceLeDiff, Nat.reduceEqDiff, true_and, and_true, List.length_nil, List.length_cons, or_true, true_or, or_false, false_or, Option.some.injEq, Sum.inl.injEq, Sum.inr.injEq, exists_eq_left', exists_eq_left, Int.reduceLE, Int.reduceLT, Int.reduceNeg, Int.reduceAdd, Int.reduceMul, Int.reduceSub, Int.reduceToNat, inR, Nat.zero_ne_one, false_and, Nat.succ_ne_zero, reduceCtorEq, false_implies, true_implies, not_false_eq_true, not_true_eq_false, Int.reduceEq, KRE, C_Model_slide, FM, MSE, hp, cs', cp']
    clear hq
    repeat' (first | with_reducible apply And.intro | with_reducible intro _)
    all_goals first | exact K | exact d3 | omega
theorem slBoth_in {A B : Rw} {s : Int} : 0 ≤ slBoth A B s ∧ slBoth A B s ≤ slPairs A B s := by
  have := sumN_mul (f := fun k => mS A B s (slF s + k)) (g := fun k => mP A B s (slF s + k)) (c := 1) (n := (slT A B s - slF s).toNat) (fun j _ => by
    have := mS_in A B s (slF s + j)
    have := mP_in A B s (slF s + j)
    by_cases e : mP A B s (slF s + j) = 1
    · omega
    · have e2 : mS A B s (slF s + j) = 0 := if_neg (fun z => e z.1)
      omega)
  have h' : 0 ≤ slBoth A B s ∧ slBoth A B s ≤ 1 * slPairs A B s := this
  omega
theorem sld_nn {i : Int} (h : 0 ≤ i ∧ i < 1000) : (0 ≤ i ∧ i < ((1000 : Nat) : Int)) := by omega
set_option maxHeartbeats 600000 in
set_option maxRecDepth 20000 in
theorem Model_slide_156 {sa sb i j x S Z O : Int} {a7 : Option AV} {M : Mm} {Qc : Option AV → Mm → Prop} (hi : 0 ≤ i ∧ i < 1000) (hj : 0 ≤ j ∧ j < 25) (ea : M 163 i.toNat = sa) (eb : M 166 j.toNat = sb) (ra : -1 ≤ sa ∧ sa ≤ 2) (rb : -1 ≤ sb ∧ sb ≤ 2)
    (K : ∀ a7, WPm m_Model_slide Qc 217 [some (.inr 154), some (.inl x), some (.inl S), some (.inl (Z + like sa sb)), some (.inl O), some (.inl j), some (.inl i), a7] [] M) :
    WPm m_Model_slide Qc 156 [some (.inr 154), some (.inl x), some (.inl S), some (.inl Z), some (.inl O), some (.inl j), some (.inl i), a7] [] M := by
  by_cases q1 : sa = sb
  · rw [show like sa sb = 2 from if_pos q1] at K
    have q1' := eq_true q1
    refine wpm_of (cuts := [217]) (by decide) 60 _ _ _ _ ?_
    simp (maxSteps := 2000000) only [↓reduceIte, wp_eq, wpd_eq, kont_eq, STP1, STP2, STP3, STP4, STP5, konM_eq, AMK, CZ, Option.map, List.getElem?_cons_zero, List.getElem?_cons_succ, List.mem_cons, List.not_mem_nil, if_false, if_true, Nat.reduceAdd, Nat.reduceLT, Nat.reduceLeDiff, Nat.reduceEqDiff, true_and, and_true, List.length_nil, List.length_cons, or_true, true_or, or_false, false_or, Option.some.injEq, Sum.inl.injEq, Sum.inr.injEq, exists_eq_left', exists_eq_left, Int.reduceLE, Int.reduceLT, Int.reduceNeg, Int.reduceAdd, Int.reduceMul, Int.reduceSub, Int.reduceToNat, inR, Nat.zero_ne_one, false_and, Nat.succ_ne_zero, reduceCtorEq, false_implies, true_implies, not_false_eq_true, not_true_eq_false, Int.reduceEq, KRE, C_Model_slide, FM, ea, eb, q1']
    repeat (first | refine ⟨by omega, ?_⟩ | refine ⟨fun _ _ => okt_nn (by omega), ?_⟩)
    try (first | (show _ ≤ _; omega) | (show _ < _; omega))
    exact K _
  · have q1' := eq_false q1
    by_cases q2 : sa = 0
    · rw [show like sa sb = 1 by unfold like; rw [if_neg q1, if_pos (Or.inl q2)]] at K
      have q2' := eq_true q2
      refine wpm_of (cuts := [217]) (by decide) 60 _ _ _ _ ?_
      simp (maxSteps := 2000000) only [↓reduceIte, wp_eq, wpd_eq, kont_eq, STP1, STP2, STP3, STP4, STP5, konM_eq, AMK, CZ, Option.map, List.getElem?_cons_zero, List.getElem?_cons_succ, List.mem_cons, List.not_mem_nil, if_false, if_true, Nat.reduceAdd, Nat.reduceLT, Nat.reduceLeDiff, Nat.reduceEqDiff, true_and, and_true, List.length_nil, List.length_cons, or_true, true_or, or_false, false_or, Option.some.injEq, Sum.inl.injEq, Sum.inr.injEq, exists_eq_left', exists_eq_left, Int.reduceLE, Int.reduceLT, Int.reduceNeg, Int.reduceAdd, Int.reduceMul, Int.reduceSub, Int.reduceToNat, inR, Nat.zero_ne_one, false_and, Nat.succ_ne_zero, reduceCtorEq, false_implies, true_implies, not_false_eq_true, not_true_eq_false, Int.reduceEq, KRE, C_Model_slide, FM, ea, eb, q1', q2']
      repeat (first | refine ⟨by omega, ?_⟩ | refine ⟨fun _ _ => okt_nn (by omega), ?_⟩)
      try (first | (show _ ≤ _; omega) | (show _ < _; omega))
      exact K _
    · have q2' := eq_false q2
      by_cases q3 : sb = 0
      · rw [show like sa sb = 1 by unfold like; rw [if_neg q1, if_pos (Or.inr q3)]] at K
        have q3' := eq_true q3
        refine wpm_of (cuts := [217]) (by decide) 60 _ _ _ _ ?_
        simp (maxSteps := 2000000) only [↓reduceIte, wp_eq, wpd_eq, kont_eq, STP1, STP2, STP3, STP4, STP5, konM_eq, AMK, CZ, Option.map, List.getElem?_cons_zero, List.getElem?_cons_succ, List.mem_cons, List.not_mem_nil, if_false, if_true, Nat.reduceAdd, Nat.reduceLT, Nat.reduceLeDiff, Nat.reduceEqDiff, true_and, and_true, List.length_nil, List.length_cons, or_true, true_or, or_false, false_or, Option.some.injEq, Sum.inl.injEq, Sum.inr.injEq, exists_eq_left', exists_eq_left, Int.reduceLE, Int.reduceLT, Int.reduceNeg, Int.reduceAdd, Int.reduceMul, Int.reduceSub, Int.reduceToNat, inR, Nat.zero_ne_one, false_and, Nat.succ_ne_zero, reduceCtorEq, false_implies, true_implies, not_false_eq_true, not_true_eq_false, Int.reduceEq, KRE, C_Model_slide, FM, ea, eb, q1', q2', q3']
        repeat (first | refine ⟨by omega, ?_⟩ | refine ⟨fun _ _ => okt_nn (by omega), ?_⟩)
        try (first | (show _ ≤ _; omega) | (show _ < _; omega))
        exact K _
      · have q3' := eq_false q3
        rw [show like sa sb = 0 by unfold like; rw [if_neg q1, if_neg (by omega)], Int.add_zero] at K
        refine wpm_of (cuts := [217]) (by decide) 60 _ _ _ _ ?_
        simp (maxSteps := 2000000) only [↓reduceIte, wp_eq, wpd_eq, kont_eq, STP1, STP2, STP3, STP4, STP5, konM_eq, AMK, CZ, Option.map, List.getElem?_cons_zero, List.getElem?_cons_succ, List.mem_cons, List.not_mem_nil, if_false, if_true, Nat.reduceAdd, Nat.reduceLT, Nat.reduceLeDiff, Nat.reduceEqDiff, true_and, and_true, List.length_nil, List.length_cons, or_true, true_or, or_false, false_or, Option.some.injEq, Sum.inl.injEq, Sum.inr.injEq, exists_eq_left', exists_eq_left, Int.reduceLE, Int.reduceLT, Int.reduceNeg, Int.reduceAdd, Int.reduceMul, Int.reduceSub, Int.reduceToNat, inR, Nat.zero_ne_one, false_and, Nat.succ_ne_zero, reduceCtorEq, false_implies, true_implies, not_false_eq_true, not_true_eq_false, Int.reduceEq, KRE, C_Model_slide, FM, ea, eb, q1', q2', q3']
        repeat (first | refine ⟨by omega, ?_⟩ | refine ⟨fun _ _ => okt_nn (by omega), ?_⟩)
        try (first | (show _ ≤ _; omega) | (show _ < _; omega))
        rw [Int.add_zero]
        exact K _
set_option maxHeartbeats 600000 in
set_option maxRecDepth 20000 in
theorem Model_slide_152 {i j x S Z O : Int} {a7 : Option AV} {M : Mm} {Qc : Option AV → Mm → Prop}
    (K : ∀ a7, WPm m_Model_slide Qc 217 [some (.inr 154), some (.inl x), some (.inl S), some (.inl (Z + 1)), some (.inl O), some (.inl j), some (.inl i), a7] [] M) :
    WPm m_Model_slide Qc 152 [some (.inr 154), some (.inl x), some (.inl S), some (.inl Z), some (.inl O), some (.inl j), some (.inl i), a7] [] M := by
  refine wpm_of (cuts := [217]) (by decide) 60 _ _ _ _ ?_
  simp (maxSteps := 2000000) only [↓reduceIte, wp_eq, wpd_eq, kont_eq, STP1, STP2, STP3, STP4, STP5, konM_eq, AMK, CZ, Option.map, List.getElem?_cons_zero, List.getElem?_cons_succ, List.mem_cons, List.not_mem_nil, if_false, if_true, Nat.reduceAdd, Nat.reduceLT, Nat.reduceLeDiff, Nat.reduceEqDiff, true_and, and_true, List.length_nil, List.length_cons, or_true, true_or, or_false, false_or, Option.some.injEq, Sum.inl.injEq, Sum.inr.injEq, exists_eq_left', exists_eq_left, Int.reduceLE, Int.reduceLT, Int.reduceNeg, Int.reduceAdd, Int.reduceMul, Int.reduceSub, Int.reduceToNat, inR, Nat.zero_ne_one, false_and, Nat.succ_ne_zero, reduceCtorEq, false_implies, true_implies, not_false_eq_true, not_true_eq_false, Int.reduceEq, KRE, C_Model_slide, FM]
  repeat (first | refine ⟨by omega, ?_⟩ | refine ⟨fun _ _ => okt_nn (by omega), ?_⟩)
  try (first | (show _ ≤ _; omega) | (show _ < _; omega))
  exact K _
set_option maxHeartbeats 600000 in
set_option maxRecDepth 20000 in
theorem Model_slide_118 {DA DB sa sb i j x S Z O : Int} {a7 : Option AV} {M : Mm} {Qc : Option AV → Mm → Prop} (hi : 0 ≤ i ∧ i < 1000) (hj : 0 ≤ j ∧ j < 25) (ea : M 163 i.toNat = sa) (eb : M 166 j.toNat = sb) (ra : -1 ≤ sa ∧ sa ≤ 2) (rb : -1 ≤ sb ∧ sb ≤ 2) (eA : M 154 27 = DA) (eB : M 154 29 = DB) (hA : inR DA)
    (K : ∀ a7, WPm m_Model_slide Qc 217 [some (.inr 154), some (.inl x), some (.inl (S + 1)), some (.inl (Z + if isD DA i ∨ isD DB j then 1 else like sa sb)), some (.inl O), some (.inl j), some (.inl i), a7] [] M) :
    WPm m_Model_slide Qc 118 [some (.inr 154), some (.inl x), some (.inl S), some (.inl Z), some (.inl O), some (.inl j), some (.inl i), a7] [] M := by
  simp only [inR] at hA
  refine wpm_of (cuts := [130, 152, 156, 217]) (by decide) 60 _ _ _ _ ?_
  simp (maxSteps := 2000000) only [↓reduceIte, wp_eq, wpd_eq, kont_eq, STP1, STP2, STP3, STP4, STP5, konM_eq, AMK, CZ, Option.map, List.getElem?_cons_zero, List.getElem?_cons_succ, List.mem_cons, List.not_mem_nil, if_false, if_true, Nat.reduceAdd, Nat.reduceLT, Nat.reduceLeDiff, Nat.reduceEqDiff, true_and, and_true, List.length_nil, List.length_cons, or_true, true_or, or_false, false_or, Option.some.injEq, Sum.inl.injEq, Sum.inr.injEq, exists_eq_left', exists_eq_left, Int.reduceLE, Int.reduceLT, Int.reduceNeg, Int.reduceAdd, Int.reduceMul, Int.reduceSub, Int.reduceToNat, inR, Nat.zero_ne_one, false_and, Nat.succ_ne_zero, reduceCtorEq, false_implies, true_implies, not_false_eq_true, not_true_eq_false, Int.reduceEq, KRE, C_Model_slide, FM, eB]
  refine (Model_isDoubtful_ok (D := DB) (k := j) ⟨by omega, by omega⟩).eq ?_
  by_cases t1 : isD DB j
  · rw [if_pos (Or.inr t1)] at K
    rw [if_pos t1]
    have Y := Model_slide_152 (a7 := a7) (i := i) K
    refine wpm_of (cuts := [152, 156, 217]) (by decide) 60 _ _ _ _ ?_
    simp (maxSteps := 2000000) only [↓reduceIte, wp_eq, wpd_eq, kont_eq, STP1, STP2, STP3, STP4, STP5, konM_eq, AMK, CZ, Option.map, List.getElem?_cons_zero, List.getElem?_cons_succ, List.mem_cons, List.not_mem_nil, if_false, if_true, Nat.reduceAdd, Nat.reduceLT, Nat.reduceLeDiff, Nat.reduceEqDiff, true_and, and_true, List.length_nil, List.length_cons, or_true, true_or, or_false, false_or, Option.some.injEq, Sum.inl.injEq, Sum.inr.injEq, exists_eq_left', exists_eq_left, Int.reduceLE, Int.reduceLT, Int.reduceNeg, Int.reduceAdd, Int.reduceMul, Int.reduceSub, Int.reduceToNat, inR, Nat.zero_ne_one, false_and, Nat.succ_ne_zero, reduceCtorEq, false_implies, true_implies, not_false_eq_true, not_true_eq_false, Int.reduceEq, KRE, C_Model_slide, FM]
    repeat (first | refine ⟨by omega, ?_⟩ | refine ⟨fun _ _ => okt_nn (by omega), ?_⟩)
    try (first | (show _ ≤ _; omega) | (show _ < _; omega))
    exact Y
  · rw [if_neg t1]
    by_cases t2 : DA = 0
    · rw [if_neg (fun z => by rcases z with z | z; rw [t2] at z; exact isD_0 _ z; exact t1 z)] at K
      have L := Model_slide_156 (a7 := a7) hi hj ea eb ra rb K
      have t2' := eq_true t2
      refine wpm_of (cuts := [152, 156, 217]) (by decide) 60 _ _ _ _ ?_
      simp (maxSteps := 2000000) only [↓reduceIte, wp_eq, wpd_eq, kont_eq, STP1, STP2, STP3, STP4, STP5, konM_eq, AMK, CZ, Option.map, List.getElem?_cons_zero, List.getElem?_cons_succ, List.mem_cons, List.not_mem_nil, if_false, if_true, Nat.reduceAdd, Nat.reduceLT, Nat.reduceLeDiff, Nat.reduceEqDiff, true_and, and_true, List.length_nil, List.length_cons, or_true, true_or, or_false, false_or, Option.some.injEq, Sum.inl.injEq, Sum.inr.injEq, exists_eq_left', exists_eq_left, Int.reduceLE, Int.reduceLT, Int.reduceNeg, Int.reduceAdd, Int.reduceMul, Int.reduceSub, Int.reduceToNat, inR, Nat.zero_ne_one, false_and, Nat.succ_ne_zero, reduceCtorEq, false_implies, true_implies, not_false_eq_true, not_true_eq_false, Int.reduceEq, KRE, C_Model_slide, FM, eA, t2']
      repeat (first | refine ⟨by omega, ?_⟩ | refine ⟨fun _ _ => okt_nn (by omega), ?_⟩)
      try (first | (show _ ≤ _; omega) | (show _ < _; omega))
      exact L
    · have t2' := eq_false t2
      refine wpm_of (cuts := [149, 152, 156, 217]) (by decide) 60 _ _ _ _ ?_
      simp (maxSteps := 2000000) only [↓reduceIte, wp_eq, wpd_eq, kont_eq, STP1, STP2, STP3, STP4, STP5, konM_eq, AMK, CZ, Option.map, List.getElem?_cons_zero, List.getElem?_cons_succ, List.mem_cons, List.not_mem_nil, if_false, if_true, Nat.reduceAdd, Nat.reduceLT, Nat.reduceLeDiff, Nat.reduceEqDiff, true_and, and_true, List.length_nil, List.length_cons, or_true, true_or, or_false, false_or, Option.some.injEq, Sum.inl.injEq, Sum.inr.injEq, exists_eq_left', exists_eq_left, Int.reduceLE, Int.reduceLT, Int.reduceNeg, Int.reduceAdd, Int.reduceMul, Int.reduceSub, Int.reduceToNat, inR, Nat.zero_ne_one, false_and, Nat.succ_ne_zero, reduceCtorEq, false_implies, true_implies, not_false_eq_true, not_true_eq_false, Int.reduceEq, KRE, C_Model_slide, FM, eA, t2']
      repeat (first | refine ⟨by omega, ?_⟩ | refine ⟨fun _ _ => okt_nn (by omega), ?_⟩)
      try (first | (show _ ≤ _; omega) | (show _ < _; omega))
      refine (Model_isDoubtful_ok (D := DA) (k := i) ⟨by omega, by omega⟩).eq ?_
      by_cases t3 : isD DA i
      · rw [if_pos (Or.inl t3)] at K
        rw [if_pos t3]
        have Y := Model_slide_152 (a7 := a7) (i := i) K
        refine wpm_of (cuts := [152, 156, 217]) (by decide) 60 _ _ _ _ ?_
        simp (maxSteps := 2000000) only [↓reduceIte, wp_eq, wpd_eq, kont_eq, STP1, STP2, STP3, STP4, STP5, konM_eq, AMK, CZ, Option.map, List.getElem?_cons_zero, List.getElem?_cons_succ, List.mem_cons, List.not_mem_nil, if_false, if_true, Nat.reduceAdd, Nat.reduceLT, Nat.reduceLeDiff, Nat.reduceEqDiff, true_and, and_true, List.length_nil, List.length_cons, or_true, true_or, or_false, false_or, Option.some.injEq, Sum.inl.injEq, Sum.inr.injEq, exists_eq_left', exists_eq_left, Int.reduceLE, Int.reduceLT, Int.reduceNeg, Int.reduceAdd, Int.reduceMul, Int.reduceSub, Int.reduceToNat, inR, Nat.zero_ne_one, false_and, Nat.succ_ne_zero, reduceCtorEq, false_implies, true_implies, not_false_eq_true, not_true_eq_false, Int.reduceEq, KRE, C_Model_slide, FM]
        repeat (first | refine ⟨by omega, ?_⟩ | refine ⟨fun _ _ => okt_nn (by omega), ?_⟩)
        try (first | (show _ ≤ _; omega) | (show _ < _; omega))
        exact Y
      · rw [if_neg (fun z => by rcases z with z | z; exact t3 z; exact t1 z)] at K
        rw [if_neg t3]
        have L := Model_slide_156 (a7 := a7) hi hj ea eb ra rb K
        refine wpm_of (cuts := [152, 156, 217]) (by decide) 60 _ _ _ _ ?_
        simp (maxSteps := 2000000) only [↓reduceIte, wp_eq, wpd_eq, kont_eq, STP1, STP2, STP3, STP4, STP5, konM_eq, AMK, CZ, Option.map, List.getElem?_cons_zero, List.getElem?_cons_succ, List.mem_cons, List.not_mem_nil, if_false, if_true, Nat.reduceAdd, Nat.reduceLT, Nat.reduceLeDiff, Nat.reduceEqDiff, true_and, and_true, List.length_nil, List.length_cons, or_true, true_or, or_false, false_or, Option.some.injEq, Sum.inl.injEq, Sum.inr.injEq, exists_eq_left', exists_eq_left, Int.reduceLE, Int.reduceLT, Int.reduceNeg, Int.reduceAdd, Int.reduceMul, Int.reduceSub, Int.reduceToNat, inR, Nat.zero_ne_one, false_and, Nat.succ_ne_zero, reduceCtorEq, false_implies, true_implies, not_false_eq_true, not_true_eq_false, Int.reduceEq, KRE, C_Model_slide, FM]
        repeat (first | refine ⟨by omega, ?_⟩ | refine ⟨fun _ _ => okt_nn (by omega), ?_⟩)
        try (first | (show _ ≤ _; omega) | (show _ < _; omega))
        exact L
set_option maxHeartbeats 600000 in
set_option maxRecDepth 20000 in
theorem Model_slide_60 {DA DB ra rb sa sb i j x S Z O P : Int} {a7 : Option AV} {M : Mm} {Qc : Option AV → Mm → Prop} (hi : 0 ≤ i ∧ i < 1000) (hj : 0 ≤ j ∧ j < 25) (ea : M 163 i.toNat = sa) (eb : M 166 j.toNat = sb) (fa : M 164 i.toNat = ra) (fb : M 167 j.toNat = rb) (ba : -1 ≤ sa ∧ sa ≤ 2) (bb : -1 ≤ sb ∧ sb ≤ 2) (ca : -1 ≤ ra ∧ ra ≤ 4) (cb : -1 ≤ rb ∧ rb ≤ 4) (eA : M 154 27 = DA) (eB : M 154 29 = DB) (hA : inR DA) (eP : M 154 32 = P)
    (K : ∀ a7, WPm m_Model_slide Qc 217 [some (.inr 154), some (.inl x), some (.inl (S + if sa ≠ 2 ∧ sb ≠ 2 then 1 else 0)), some (.inl (Z + if sa ≠ 2 ∧ sb ≠ 2 then (if isD DA i ∨ isD DB j then 1 else like sa sb) else 0)), some (.inl (O + max (ra - rb) (-(ra - rb)))), some (.inl j), some (.inl i), a7] [] (mset M 154 32 (P + 1))) :
    WPm m_Model_slide Qc 60 [some (.inr 154), some (.inl x), some (.inl S), some (.inl Z), some (.inl O), some (.inl j), some (.inl i), a7] [] M := by
  have eo : ∀ v b j, b ≠ 154 → mset M 154 32 v b j = M b j := fun v b j hb => mset_ne b hb j
  have eo2 : ∀ v j, mset M 154 32 v 163 j = M 163 j := fun v j => eo v 163 j (by decide)
  have eo3 : ∀ v j, mset M 154 32 v 164 j = M 164 j := fun v j => eo v 164 j (by decide)
  have eo4 : ∀ v j, mset M 154 32 v 166 j = M 166 j := fun v j => eo v 166 j (by decide)
  have eo5 : ∀ v j, mset M 154 32 v 167 j = M 167 j := fun v j => eo v 167 j (by decide)
  by_cases s1 : sa = 2
  · rw [if_neg (fun z => z.1 s1), if_neg (fun z => z.1 s1), Int.add_zero, Int.add_zero] at K
    have s1' := eq_true s1
    refine wpm_of (cuts := [118, 217]) (by decide) 60 _ _ _ _ ?_
    simp (maxSteps := 2000000) only [↓reduceIte, wp_eq, wpd_eq, kont_eq, STP1, STP2, STP3, STP4, STP5, konM_eq, AMK, CZ, Option.map, List.getElem?_cons_zero, List.getElem?_cons_succ, List.mem_cons, List.not_mem_nil, if_false, if_true, Nat.reduceAdd, Nat.reduceLT, Nat.reduceLeDiff, Nat.reduceEqDiff, true_and, and_true, List.length_nil, List.length_cons, or_true, true_or, or_false, false_or, Option.some.injEq, Sum.inl.injEq, Sum.inr.injEq, exists_eq_left', exists_eq_left, Int.reduceLE, Int.reduceLT, Int.reduceNeg, Int.reduceAdd, Int.reduceMul, Int.reduceSub, Int.reduceToNat, inR, Nat.zero_ne_one, false_and, Nat.succ_ne_zero, reduceCtorEq, false_implies, true_implies, not_false_eq_true, not_true_eq_false, Int.reduceEq, KRE, C_Model_slide, FM, eP, eo2, eo3, eo4, eo5, ea, eb, fa, fb, s1']
    repeat (first | refine ⟨by omega, ?_⟩ | refine ⟨fun _ _ => okt_nn (by omega), ?_⟩)
    try (first | (show _ ≤ _; omega) | (show _ < _; omega))
    exact K _
  · have s1' := eq_false s1
    by_cases s2 : sb = 2
    · rw [if_neg (fun z => z.2 s2), if_neg (fun z => z.2 s2), Int.add_zero, Int.add_zero] at K
      have s2' := eq_true s2
      refine wpm_of (cuts := [118, 217]) (by decide) 60 _ _ _ _ ?_
      simp (maxSteps := 2000000) only [↓reduceIte, wp_eq, wpd_eq, kont_eq, STP1, STP2, STP3, STP4, STP5, konM_eq, AMK, CZ, Option.map, List.getElem?_cons_zero, List.getElem?_cons_succ, List.mem_cons, List.not_mem_nil, if_false, if_true, Nat.reduceAdd, Nat.reduceLT, Nat.reduceLeDiff, Nat.reduceEqDiff, true_and, and_true, List.length_nil, List.length_cons, or_true, true_or, or_false, false_or, Option.some.injEq, Sum.inl.injEq, Sum.inr.injEq, exists_eq_left', exists_eq_left, Int.reduceLE, Int.reduceLT, Int.reduceNeg, Int.reduceAdd, Int.reduceMul, Int.reduceSub, Int.reduceToNat, inR, Nat.zero_ne_one, false_and, Nat.succ_ne_zero, reduceCtorEq, false_implies, true_implies, not_false_eq_true, not_true_eq_false, Int.reduceEq, KRE, C_Model_slide, FM, eP, eo2, eo3, eo4, eo5, ea, eb, fa, fb, s1', s2']
      repeat (first | refine ⟨by omega, ?_⟩ | refine ⟨fun _ _ => okt_nn (by omega), ?_⟩)
      try (first | (show _ ≤ _; omega) | (show _ < _; omega))
      exact K _
    · rw [if_pos ⟨s1, s2⟩, if_pos ⟨s1, s2⟩] at K
      have s2' := eq_false s2
      have G := Model_slide_118 (a7 := a7) (M := mset M 154 32 (P + 1)) hi hj ((eo2 _ _).trans ea) ((eo4 _ _).trans eb) ba bb ((show mset M 154 32 (P + 1) 154 27 = M 154 27 from if_neg (fun z => absurd z.2 (by decide))).trans eA) ((show mset M 154 32 (P + 1) 154 29 = M 154 29 from if_neg (fun z => absurd z.2 (by decide))).trans eB) hA K
      refine wpm_of (cuts := [118, 217]) (by decide) 60 _ _ _ _ ?_
      simp (maxSteps := 2000000) only [↓reduceIte, wp_eq, wpd_eq, kont_eq, STP1, STP2, STP3, STP4, STP5, konM_eq, AMK, CZ, Option.map, List.getElem?_cons_zero, List.getElem?_cons_succ, List.mem_cons, List.not_mem_nil, if_false, if_true, Nat.reduceAdd, Nat.reduceLT, Nat.reduceLeDiff, Nat.reduceEqDiff, true_and, and_true, List.length_nil, List.length_cons, or_true, true_or, or_false, false_or, Option.some.injEq, Sum.inl.injEq, Sum.inr.injEq, exists_eq_left', exists_eq_left, Int.reduceLE, Int.reduceLT, Int.reduceNeg, Int.reduceAdd, Int.reduceMul, Int.reduceSub, Int.reduceToNat, inR, Nat.zero_ne_one, false_and, Nat.succ_ne_zero, reduceCtorEq, false_implies, true_implies, not_false_eq_true, not_true_eq_false, Int.reduceEq, KRE, C_Model_slide, FM, eP, eo2, eo3, eo4, eo5, ea, eb, fa, fb, s1', s2']
      repeat (first | refine ⟨by omega, ?_⟩ | refine ⟨fun _ _ => okt_nn (by omega), ?_⟩)
      try (first | (show _ ≤ _; omega) | (show _ < _; omega))
      exact G
set_option maxHeartbeats 600000 in
set_option maxRecDepth 20000 in
theorem Model_slide_st {A B : Rw} {x j P S Z O : Int} {a6 a7 : Option AV} {M : Mm} {Qc : Option AV → Mm → Prop} (hA : rowA M A) (hB : rowB M B) (hj : 0 ≤ j ∧ j < B.2.1) (hi : 0 ≤ j + x ∧ j + x < A.2.1)
    (KK : ∀ a6 a7 : Option AV, WPm m_Model_slide Qc 217 [some (.inr 154), some (.inl x), some (.inl (S + mS A B x j)), some (.inl (Z + mA A B x j)), some (.inl (O + mO A B x j)), some (.inl j), a6, a7] [] (mset M 154 32 (P + mP A B x j))) :
    WPm m_Model_slide Qc 20 [some (.inr 154), some (.inl x), some (.inl S), some (.inl Z), some (.inl O), some (.inl j), a6, a7] [] (mset M 154 32 P) := by
  obtain ⟨a1, a2, ⟨⟨a3, a4, a5⟩, a6'⟩, hRA, a8⟩ := hA
  obtain ⟨b1, b2, ⟨⟨b3, b4, b5⟩, b6⟩, ⟨b7, b8⟩, b9⟩ := hB
  have ms0 : mset M 154 32 P 154 32 = P := if_pos ⟨rfl, rfl⟩
  have e26 : mset M 154 32 P 154 26 = A.2.1 := by rw [← a1]; exact if_neg (fun z => absurd z.2 (by decide))
  have e28 : mset M 154 32 P 154 28 = B.2.1 := by rw [← b1]; exact if_neg (fun z => absurd z.2 (by decide))
  have e27 : mset M 154 32 P 154 27 = M 154 27 := if_neg (fun z => absurd z.2 (by decide))
  have e29 : mset M 154 32 P 154 29 = M 154 29 := if_neg (fun z => absurd z.2 (by decide))
  have eo : ∀ v b j, b ≠ 154 → mset M 154 32 v b j = M b j := fun v b j hb => mset_ne b hb j
  have n2 : sN B j ≠ 0 := b9 j (by omega) (by omega)
  have w1 := a5 (j + x).toNat (by omega)
  have w2 := a6' (j + x).toNat (by omega)
  have w3 := b6 j.toNat (by omega)
  rw [show (((j + x).toNat : Nat) : Int) = j + x by omega] at w1 w2
  rw [show ((j.toNat : Nat) : Int) = j by omega] at w3
  have d1 := a8 (j + x) (by omega) (by omega)
  have d2 := b8 j (by omega) (by omega)
  obtain ⟨w4, w5⟩ := w2
  obtain ⟨w6, w7⟩ := w3
  have rB : mRk B j = sRank B j := if_neg n2
  rw [rB] at w7
  have h1 : mset M 154 32 P 162 (j + x).toNat = mV A (j + x) := (eo _ _ _ (by decide)).trans w1
  have h3 : mset M 154 32 P 163 (j + x).toNat = sStep A (j + x) := (eo _ _ _ (by decide)).trans w4
  have h6 : mset M 154 32 P 166 j.toNat = sStep B j := (eo _ _ _ (by decide)).trans w6
  have h7 : mset M 154 32 P 167 j.toNat = sRank B j := (eo _ _ _ (by decide)).trans w7
  have h4' : mset M 154 32 P 164 (j + x).toNat = mRk A (j + x) := (eo _ _ _ (by decide)).trans w5
  have vP : mP A B x j = if sN A (j + x) ≠ 0 then 1 else 0 := by
    unfold mP
    by_cases h : sN A (j + x) = 0 <;> simp [h, n2]
  have vO : mO A B x j = if mP A B x j = 1 then max (sRank A (j + x) - sRank B j) (-(sRank A (j + x) - sRank B j)) else 0 := rfl
  have vS : mS A B x j = if mP A B x j = 1 ∧ sStep A (j + x) ≠ 2 ∧ sStep B j ≠ 2 then 1 else 0 := rfl
  have vA : mA A B x j = if mS A B x j = 1 then (if sShk A (j + x) ≠ 0 ∨ sShk B j ≠ 0 then 1 else like (sStep A (j + x)) (sStep B j)) else 0 := rfl
  have mv := mV_in (k := j + x) a4
  have i1 := sRank_in A (j + x)
  have i2 := sRank_in B j
  have i3 := sStep_in A (j + x)
  have i4 := sStep_in B j
  have c1' := eq_false (show ¬ B.2.1 ≤ j by omega)
  have c2' := eq_false (show ¬ A.2.1 ≤ j + x by omega)
  by_cases hp : sN A (j + x) = 0
  · rw [if_neg (by omega)] at vP
    rw [vP, if_neg (by omega)] at vO
    rw [vP, if_neg (by omega)] at vS
    rw [vS, if_neg (by omega)] at vA
    rw [vO, vS, vA, vP] at KK
    simp only [Int.add_zero] at KK
    have w1' : mV A (j + x) = -1 := mv.2.2.1.mpr hp
    clear vO vS vA vP
    refine wpm_of (cuts := [60, 217, 223]) (by decide) 100 _ _ _ _ ?_
    simp (maxSteps := 2000000) only [↓reduceIte, wp_eq, wpd_eq, kont_eq, STP1, STP2, STP3, STP4, STP5, konM_eq, AMK, CZ, Option.map, List.getElem?_cons_zero, List.getElem?_cons_succ, List.mem_cons, List.not_mem_nil, if_false, if_true, Nat.reduceAdd, Nat.reduceLT, Nat.reduceLeDiff, Nat.reduceEqDiff, true_and, and_true, List.length_nil, List.length_cons, or_true, true_or, or_false, false_or, Option.some.injEq, Sum.inl.injEq, Sum.inr.injEq, exists_eq_left', exists_eq_left, Int.reduceLE, Int.reduceLT, Int.reduceNeg, Int.reduceAdd, Int.reduceMul, Int.reduceSub, Int.reduceToNat, inR, Nat.zero_ne_one, false_and, Nat.succ_ne_zero, reduceCtorEq, false_implies, true_implies, not_false_eq_true, not_true_eq_false, Int.reduceEq, KRE, C_Model_slide, FM, e28, e26, c1', c2', h1, w1']
    repeat (first | refine ⟨by omega, ?_⟩ | refine ⟨fun _ _ => okt_nn (by omega), ?_⟩)
    try (first | (show _ ≤ _; omega) | (show _ < _; omega))
    exact KK _ _
  · rw [if_pos hp] at vP
    rw [vP, if_pos rfl] at vO
    rw [vP] at vS
    rw [vO, vP] at KK
    have w1' : ¬ mV A (j + x) = -1 := fun z => hp (mv.2.2.1.mp z)
    have w1'' := eq_false w1'
    have h4 : mset M 154 32 P 164 (j + x).toNat = sRank A (j + x) := by rw [h4']; exact if_neg hp
    have vS' : mS A B x j = if sStep A (j + x) ≠ 2 ∧ sStep B j ≠ 2 then 1 else 0 := by rw [vS]; exact if_cg ⟨fun z => z.2, fun z => ⟨rfl, z⟩⟩ rfl rfl
    have vA' : mA A B x j = if sStep A (j + x) ≠ 2 ∧ sStep B j ≠ 2 then (if isD (M 154 27) (j + x) ∨ isD (M 154 29) j then 1 else like (sStep A (j + x)) (sStep B j)) else 0 := by
      rw [vA, vS']
      by_cases c : sStep A (j + x) ≠ 2 ∧ sStep B j ≠ 2
      · rw [if_pos c, if_pos rfl, if_pos c]
        exact if_cg (or_congr d1 d2) rfl rfl
      · rw [if_neg c, if_neg (by omega), if_neg c]
    rw [vS', vA'] at KK
    clear vO vS vA vP vS' vA' d1 d2
    generalize sStep A (j + x) = sa at *
    generalize sStep B j = sb at *
    generalize sRank A (j + x) = ra at *
    generalize sRank B j = rb at *
    generalize M 154 27 = DA at *
    generalize M 154 29 = DB at *
    have G := fun a7 => Model_slide_60 (a7 := a7) (Qc := Qc) (x := x) (S := S) (Z := Z) (O := O) (P := P) (i := j + x) (j := j) (M := mset M 154 32 P) (sa := sa) (sb := sb) (ra := ra) (rb := rb) (DA := DA) (DB := DB) ⟨by omega, by omega⟩ ⟨by omega, by omega⟩ h3 h6 h4 h7 i3 i4 i1 i2 e27 e29 hRA ms0 (fun a7 => by rw [mset_mset]; exact KK _ _)
    refine wpm_of (cuts := [60, 217, 223]) (by decide) 100 _ _ _ _ ?_
    simp (maxSteps := 2000000) only [↓reduceIte, wp_eq, wpd_eq, kont_eq, STP1, STP2, STP3, STP4, STP5, konM_eq, AMK, CZ, Option.map, List.getElem?_cons_zero, List.getElem?_cons_succ, List.mem_cons, List.not_mem_nil, if_false, if_true, Nat.reduceAdd, Nat.reduceLT, Nat.reduceLeDiff, Nat.reduceEqDiff, true_and, and_true, List.length_nil, List.length_cons, or_true, true_or, or_false, false_or, Option.some.injEq, Sum.inl.injEq, Sum.inr.injEq, exists_eq_left', exists_eq_left, Int.reduceLE, Int.reduceLT, Int.reduceNeg, Int.reduceAdd, Int.reduceMul, Int.reduceSub, Int.reduceToNat, inR, Nat.zero_ne_one, false_and, Nat.succ_ne_zero, reduceCtorEq, false_implies, true_implies, not_false_eq_true, not_true_eq_false, Int.reduceEq, KRE, C_Model_slide, FM, e28, e26, c1', c2', h1, w1'']
    repeat (first | refine ⟨by omega, ?_⟩ | refine ⟨fun _ _ => okt_nn (by omega), ?_⟩)
    try (first | (show _ ≤ _; omega) | (show _ < _; omega))
    exact G _
set_option maxHeartbeats 600000 in
set_option maxRecDepth 20000 in
theorem Model_slide_ok {A B : Rw} {x : Int} {M : Mm} (hA : rowA M A) (hB : rowB M B) (hx : -1000 ≤ x ∧ x ≤ 1000) : CallV m_Model_slide [.inr 154, .inl x] M (fun M' => M' = mSlM M A B x) := by
  have hA' := hA
  have hB' := hB
  obtain ⟨a1, a2, ⟨⟨a3, a4, a5⟩, a6⟩, hRA, a8⟩ := hA
  obtain ⟨b1, b2, ⟨⟨b3, b4, b5⟩, b6⟩, ⟨b7, b8⟩, b9⟩ := hB
  have bF : slF x = max 0 (-x) := rfl
  have bT : slT A B x = min B.2.1 (A.2.1 - x) := rfl
  have bnd : (0 ≤ slPairs A B x ∧ slPairs A B x ≤ 924) ∧ (0 ≤ slBoth A B x ∧ slBoth A B x ≤ slPairs A B x) ∧ (0 ≤ sumR (mO A B x) (slF x) (slT A B x) ∧ sumR (mO A B x) (slF x) (slT A B x) ≤ 4620) ∧ (0 ≤ sumR (mA A B x) (slF x) (slT A B x) ∧ sumR (mA A B x) (slF x) (slT A B x) ≤ 1848) := by
    refine ⟨slP_in ⟨a3, a2⟩, slBoth_in, ?_⟩
    by_cases hle : slF x ≤ slT A B x
    · have q3 := sumR_in hle (f := mO A B x) (fun j _ _ => mO_in A B x j)
      have q4 := sumR_in hle (f := mA A B x) (fun j _ _ => mA_in A B x j)
      omega
    · rw [sumR_e (by omega), sumR_e (by omega)]
      omega
  have s0 := sumR_0 (mP A B x) (slF x)
  refine callP_of (by decide) (by decide) (Nat.le_of_ble_eq_true rfl) (wpm_of (cuts := [20]) (by decide) 50 _ _ _ _ ?_)
  rw [show lM m_Model_slide = 8 from rfl]
  simp (maxSteps := 2000000) only [↓reduceIte, wp_eq, wpd_eq, kont_eq, STP1, STP2, STP3, STP4, STP5, konM_eq, AMK, CZ, Option.map, List.getElem?_cons_zero, List.getElem?_cons_succ, List.mem_cons, List.not_mem_nil, if_false, if_true, Nat.reduceAdd, Nat.reduceLT, Nat.reduceLeDiff, Nat.reduceEqDiff, true_and, and_true, List.length_nil, List.length_cons, or_true, true_or, or_false, false_or, Option.some.injEq, Sum.inl.injEq, Sum.inr.injEq, exists_eq_left', exists_eq_left, Int.reduceLE, Int.reduceLT, Int.reduceNeg, Int.reduceAdd, Int.reduceMul, Int.reduceSub, Int.reduceToNat, inR, Nat.zero_ne_one, false_and, Nat.succ_ne_zero, reduceCtorEq, false_implies, true_implies, not_false_eq_true, not_true_eq_false, Int.reduceEq, KRE, C_Model_slide, FM]
  repeat (first | refine ⟨by omega, ?_⟩ | refine ⟨fun _ _ => okt_nn (by omega), ?_⟩)
  try (first | (show _ ≤ _; omega) | (show _ < _; omega))
  refine loopQ (slT A B x - slF x).toNat (fun k ls M1 => M1 = mset M 154 32 (sumR (mP A B x) (slF x) (slF x + k)) ∧ ∃ a6 a7, ls = [some (.inr 154), some (.inl x), some (.inl (sumR (mS A B x) (slF x) (slF x + k))), some (.inl (sumR (mA A B x) (slF x) (slF x + k))), some (.inl (sumR (mO A B x) (slF x) (slF x + k))), some (.inl (slF x + k)), a6, a7]) ?_ _ _ ⟨?_, none, none, ?_⟩
  · rintro k _ _ hk ⟨rfl, a6', a7', rfl⟩ K
    have ms0 : ∀ v, mset M 154 32 v 154 32 = v := fun v => if_pos ⟨rfl, rfl⟩
    have e26 : ∀ v, mset M 154 32 v 154 26 = A.2.1 := fun v => by rw [← a1]; exact if_neg (fun z => absurd z.2 (by decide))
    have e28 : ∀ v, mset M 154 32 v 154 28 = B.2.1 := fun v => by rw [← b1]; exact if_neg (fun z => absurd z.2 (by decide))
    have e27 : ∀ v, mset M 154 32 v 154 27 = M 154 27 := fun v => if_neg (fun z => absurd z.2 (by decide))
    have e29 : ∀ v, mset M 154 32 v 154 29 = M 154 29 := fun v => if_neg (fun z => absurd z.2 (by decide))
    have eo : ∀ v b j, b ≠ 154 → mset M 154 32 v b j = M b j := fun v b j hb => mset_ne b hb j
    have eo1 : ∀ v j, mset M 154 32 v 162 j = M 162 j := fun v j => eo v 162 j (by decide)
    have eo2 : ∀ v j, mset M 154 32 v 163 j = M 163 j := fun v j => eo v 163 j (by decide)
    have eo3 : ∀ v j, mset M 154 32 v 164 j = M 164 j := fun v j => eo v 164 j (by decide)
    have eo4 : ∀ v j, mset M 154 32 v 166 j = M 166 j := fun v j => eo v 166 j (by decide)
    have eo5 : ∀ v j, mset M 154 32 v 167 j = M 167 j := fun v j => eo v 167 j (by decide)
    by_cases hj : slT A B x ≤ slF x + k
    · have out : ∀ a5 a6 a7, WPm m_Model_slide (fun v M' => v = none ∧ M' = mSlM M A B x) 223 [some (.inr 154), some (.inl x), some (.inl (sumR (mS A B x) (slF x) (slF x + k))), some (.inl (sumR (mA A B x) (slF x) (slF x + k))), some (.inl (sumR (mO A B x) (slF x) (slF x + k))), a5, a6, a7] [] (mset M 154 32 (sumR (mP A B x) (slF x) (slF x + k))) := by
        intro a5 a6 a7
        have fin : sumR (mP A B x) (slF x) (slF x + k) = slPairs A B x ∧ sumR (mS A B x) (slF x) (slF x + k) = slBoth A B x ∧ sumR (mO A B x) (slF x) (slF x + k) = sumR (mO A B x) (slF x) (slT A B x) ∧ sumR (mA A B x) (slF x) (slF x + k) = sumR (mA A B x) (slF x) (slT A B x) := by
          unfold slPairs slBoth
          by_cases hz : slF x ≤ slT A B x
          · rw [show slF x + (k : Int) = slT A B x by omega]
            exact ⟨rfl, rfl, rfl, rfl⟩
          · rw [show slF x + (k : Int) = slF x by omega, sumR_0, sumR_0, sumR_0, sumR_0, sumR_e (by omega), sumR_e (by omega), sumR_e (by omega), sumR_e (by omega)]
            exact ⟨rfl, rfl, rfl, rfl⟩
        obtain ⟨f1, f2, f3, f4⟩ := fin
        rw [f1, f2, f3, f4]
        refine Model_slide_e (P := slPairs A B x) (ms0 _) bnd.1 bnd.2.1 bnd.2.2.1 bnd.2.2.2 (fun sg rk h1 h2 => ?_)
        subst h1; subst h2
        exact ⟨rfl, rfl⟩
      by_cases c1 : B.2.1 ≤ slF x + k
      · have c1' := eq_true c1
        refine wpm_of (cuts := [20, 217, 223]) (by decide) 100 _ _ _ _ ?_
        simp (maxSteps := 2000000) only [↓reduceIte, wp_eq, wpd_eq, kont_eq, STP1, STP2, STP3, STP4, STP5, konM_eq, AMK, CZ, Option.map, List.getElem?_cons_zero, List.getElem?_cons_succ, List.mem_cons, List.not_mem_nil, if_false, if_true, Nat.reduceAdd, Nat.reduceLT, Nat.reduceLeDiff, Nat.reduceEqDiff, true_and, and_true, List.length_nil, List.length_cons, or_true, true_or, or_false, false_or, Option.some.injEq, Sum.inl.injEq, Sum.inr.injEq, exists_eq_left', exists_eq_left, Int.reduceLE, Int.reduceLT, Int.reduceNeg, Int.reduceAdd, Int.reduceMul, Int.reduceSub, Int.reduceToNat, inR, Nat.zero_ne_one, false_and, Nat.succ_ne_zero, reduceCtorEq, false_implies, true_implies, not_false_eq_true, not_true_eq_false, Int.reduceEq, KRE, C_Model_slide, FM, e28, c1']
        repeat (first | refine ⟨by omega, ?_⟩ | refine ⟨fun _ _ => okt_nn (by omega), ?_⟩)
        try (first | (show _ ≤ _; omega) | (show _ < _; omega))
        exact out _ _ _
      · have c1' := eq_false c1
        have c2' := eq_true (show A.2.1 ≤ slF x + k + x by omega)
        refine wpm_of (cuts := [20, 217, 223]) (by decide) 100 _ _ _ _ ?_
        simp (maxSteps := 2000000) only [↓reduceIte, wp_eq, wpd_eq, kont_eq, STP1, STP2, STP3, STP4, STP5, konM_eq, AMK, CZ, Option.map, List.getElem?_cons_zero, List.getElem?_cons_succ, List.mem_cons, List.not_mem_nil, if_false, if_true, Nat.reduceAdd, Nat.reduceLT, Nat.reduceLeDiff, Nat.reduceEqDiff, true_and, and_true, List.length_nil, List.length_cons, or_true, true_or, or_false, false_or, Option.some.injEq, Sum.inl.injEq, Sum.inr.injEq, exists_eq_left', exists_eq_left, Int.reduceLE, Int.reduceLT, Int.reduceNeg, Int.reduceAdd, Int.reduceMul, Int.reduceSub, Int.reduceToNat, inR, Nat.zero_ne_one, false_and, Nat.succ_ne_zero, reduceCtorEq, false_implies, true_implies, not_false_eq_true, not_true_eq_false, Int.reduceEq, KRE, C_Model_slide, FM, e28, e26, c1', c2']
        repeat (first | refine ⟨by omega, ?_⟩ | refine ⟨fun _ _ => okt_nn (by omega), ?_⟩)
        try (first | (show _ ≤ _; omega) | (show _ < _; omega))
        exact out _ _ _
    · generalize hj9 : slF x + (k : Int) = j at *
      refine Model_slide_st hA' hB' ⟨by omega, by omega⟩ ⟨by omega, by omega⟩ (fun a6 a7 => ?_)
      have K1 := K (by omega) _ _ ⟨rfl, a6, a7, rfl⟩
      rw [natI, ← Int.add_assoc, hj9, sumR_succ _ (by omega), sumR_succ _ (by omega), sumR_succ _ (by omega), sumR_succ _ (by omega)] at K1
      refine wpm_of (cuts := [20]) (by decide) 300 _ _ _ _ ?_
      simp (maxSteps := 2000000) only [↓reduceIte, wp_eq, wpd_eq, kont_eq, STP1, STP2, STP3, STP4, STP5, konM_eq, AMK, CZ, Option.map, List.getElem?_cons_zero, List.getElem?_cons_succ, List.mem_cons, List.not_mem_nil, if_false, if_true, Nat.reduceAdd, Nat.reduceLT, Nat.reduceLeDiff, Nat.reduceEqDiff, true_and, and_true, List.length_nil, List.length_cons, or_true, true_or, or_false, false_or, Option.some.injEq, Sum.inl.injEq, Sum.inr.injEq, exists_eq_left', exists_eq_left, Int.reduceLE, Int.reduceLT, Int.reduceNeg, Int.reduceAdd, Int.reduceMul, Int.reduceSub, Int.reduceToNat, inR, Nat.zero_ne_one, false_and, Nat.succ_ne_zero, reduceCtorEq, false_implies, true_implies, not_false_eq_true, not_true_eq_false, Int.reduceEq, KRE, C_Model_slide, FM]
      exact K1
  · rw [show slF x + ((0 : Nat) : Int) = slF x by omega, sumR_0]
  · rw [show slF x + ((0 : Nat) : Int) = slF x by omega, sumR_0, sumR_0, sumR_0]
    rfl
