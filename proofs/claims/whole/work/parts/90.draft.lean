/-! THE REFERENCE, F: acts, notes, image, feed. -/
section MODF
variable {n : Nat} {T : Nat → Rw} {Y : Nat → Int} {lap bnd mrg : Int} {M : Mm}
/-- room in the past for one more -/
def mPsI (M : Mm) (k : Nat) : Mm := fun b j => if b = 181 ∧ j < k then M 181 (j + 240) else M b j
def mPkI (M1 : Mm) (f : Nat → Int) (a k : Nat) : Mm := fun b j => if b = 181 ∧ 240 * a ≤ j ∧ j < 240 * a + k then f (j - 240 * a) else M1 b j
def mPs (M : Mm) : Mm := if M 154 58 = 40 then mset (mPsI M 9360) 154 58 39 else M
def mKeep (M : Mm) : Mm := mset (mPkI (mPs M) (M 158) (mPs M 154 58).toNat 240) 154 58 (mPs M 154 58 + 1)
theorem mPsI_o {b j k : Nat} (h : b ≠ 181) : mPsI M k b j = M b j := if_neg (fun z => h z.1)
theorem mPkI_o {M1 : Mm} {f : Nat → Int} {a b j k : Nat} (h : b ≠ 181) : mPkI M1 f a k b j = M1 b j := if_neg (fun z => h z.1)
theorem mPs_58 (h0 : 0 ≤ M 154 58) (h4 : M 154 58 ≤ 40) : 0 ≤ mPs M 154 58 ∧ mPs M 154 58 ≤ 39 ∧ (mPs M 154 58 = if M 154 58 = 40 then 39 else M 154 58) := by
  unfold mPs
  by_cases c : M 154 58 = 40
  · rw [if_pos c, if_pos c]
    simp [mset]
  · rw [if_neg c, if_neg c]
    omega
theorem mPs_o {b j : Nat} (h : b ≠ 181) (h2 : ¬ (b = 154 ∧ j = 58)) : mPs M b j = M b j := by
  unfold mPs
  split
  · show (if b = 154 ∧ j = 58 then (39 : Int) else mPsI M 9360 b j) = _
    rw [if_neg h2, mPsI_o h]
  · rfl
theorem mKeep_o {b j : Nat} (h : b ≠ 181) (h2 : ¬ (b = 154 ∧ j = 58)) : mKeep M b j = M b j := by
  show (if b = 154 ∧ j = 58 then mPs M 154 58 + 1 else mPkI (mPs M) (M 158) (mPs M 154 58).toNat 240 b j) = _
  rw [if_neg h2, mPkI_o h]
  exact mPs_o h h2
theorem mPkI_s {M1 : Mm} {f : Nat → Int} {a k : Nat} : mset (mPkI M1 f a k) 181 (240 * a + k) (f k) = mPkI M1 f a (k + 1) := by
  funext b j
  show (if b = 181 ∧ j = 240 * a + k then f k else if b = 181 ∧ 240 * a ≤ j ∧ j < 240 * a + k then f (j - 240 * a) else M1 b j) = (if b = 181 ∧ 240 * a ≤ j ∧ j < 240 * a + (k + 1) then f (j - 240 * a) else M1 b j)
  by_cases h1 : b = 181 ∧ j = 240 * a + k
  · rw [if_pos h1, if_pos (by omega)]
    congr 1
    omega
  · rw [if_neg h1]
    exact if_cg (by omega) rfl rfl
theorem mPsI_s {k : Nat} : mset (mPsI M k) 181 k (M 181 (k + 240)) = mPsI M (k + 1) := by
  funext b j
  show (if b = 181 ∧ j = k then M 181 (k + 240) else if b = 181 ∧ j < k then M 181 (j + 240) else M b j) = (if b = 181 ∧ j < k + 1 then M 181 (j + 240) else M b j)
  by_cases h1 : b = 181 ∧ j = k
  · rw [if_pos h1, if_pos (by omega), h1.2]
  · rw [if_neg h1]
    exact if_cg (by omega) rfl rfl
set_option maxHeartbeats 600000 in
set_option maxRecDepth 20000 in
theorem Model_keep_54 {a1 : Option AV} {M1 : Mm} (h0 : 0 ≤ M1 154 58) (h4 : M1 154 58 ≤ 39) (e : M1 = mPs M) : WPm m_Model_keep (fun v M' => v = none ∧ M' = mKeep M) 54 [some (.inr 154), a1] [] M1 := by
  obtain ⟨a, ea⟩ : ∃ a : Nat, M1 154 58 = a := ⟨(M1 154 58).toNat, by omega⟩
  have e8 : ∀ j, M1 158 j = M 158 j := fun j => by rw [e]; exact mPs_o (by omega) (by omega)
  have ek : mKeep M = mset (mPkI M1 (M 158) a 240) 154 58 ((a : Int) + 1) := by
    unfold mKeep
    rw [← e, ea]
    rfl
  rw [ek]
  refine wpm_of (cuts := [56]) (by decide) 60 _ _ _ _ ?_
  simp (maxSteps := 2000000) only [↓reduceIte, wp_eq, wpd_eq, kont_eq, STP1, STP2, STP3, STP4, STP5, konM_eq, AMK, CZ, Option.map, List.getElem?_cons_zero, List.getElem?_cons_succ, List.mem_cons, List.not_mem_nil, if_false, if_true, Nat.reduceAdd, Nat.reduceLT, Nat.reduceLeDiff, Nat.reduceEqDiff, true_and, and_true, List.length_nil, List.length_cons, or_true, true_or, or_false, false_or, Option.some.injEq, Sum.inl.injEq, Sum.inr.injEq, exists_eq_left', exists_eq_left, Int.reduceLE, Int.reduceLT, Int.reduceNeg, Int.reduceAdd, Int.reduceMul, Int.reduceSub, Int.reduceToNat, inR, Nat.zero_ne_one, false_and, Nat.succ_ne_zero, reduceCtorEq, false_implies, true_implies, not_false_eq_true, not_true_eq_false, Int.reduceEq, KRE, C_Model_keep, FM]
  refine loopQ 240 (fun k ls M2 => M2 = mPkI M1 (M 158) a k ∧ ls = [some (.inr 154), some (.inl (k : Int))]) ?_ _ _ ⟨?_, rfl⟩
  · rintro k _ _ hk ⟨rfl, rfl⟩ K
    have ea3 : mPkI M1 (M 158) a k 154 58 = a := (mPkI_o (by omega)).trans ea
    by_cases c : k = 240
    · subst c
      have c' := eq_true (show (240 : Int) ≤ (240 : Nat) by omega)
      refine wpm_of (cuts := [56]) (by decide) 60 _ _ _ _ ?_
      simp (maxSteps := 2000000) only [↓reduceIte, wp_eq, wpd_eq, kont_eq, STP1, STP2, STP3, STP4, STP5, konM_eq, AMK, CZ, Option.map, List.getElem?_cons_zero, List.getElem?_cons_succ, List.mem_cons, List.not_mem_nil, if_false, if_true, Nat.reduceAdd, Nat.reduceLT, Nat.reduceLeDiff, Nat.reduceEqDiff, true_and, and_true, List.length_nil, List.length_cons, or_true, true_or, or_false, false_or, Option.some.injEq, Sum.inl.injEq, Sum.inr.injEq, exists_eq_left', exists_eq_left, Int.reduceLE, Int.reduceLT, Int.reduceNeg, Int.reduceAdd, Int.reduceMul, Int.reduceSub, Int.reduceToNat, inR, Nat.zero_ne_one, false_and, Nat.succ_ne_zero, reduceCtorEq, false_implies, true_implies, not_false_eq_true, not_true_eq_false, Int.reduceEq, KRE, C_Model_keep, FM, ea3, c']
      repeat (first | refine ⟨by omega, ?_⟩ | refine ⟨fun _ _ => okt_nn (by omega), ?_⟩)
      try (first | (show _ ≤ _; omega) | (show _ < _; omega))
    · have hlt : k < 240 := by omega
      have c' := eq_false (show ¬ (240 : Int) ≤ k by omega)
      have K' := K hlt _ _ ⟨rfl, rfl⟩
      rw [show mPkI M1 (M 158) a (k + 1) = _ from mPkI_s.symm] at K'
      have ix : (240 * (a : Int) + (k : Int)).toNat = 240 * a + k := by omega
      have ek2 : mPkI M1 (M 158) a k 158 k = M 158 k := (mPkI_o (by omega)).trans (e8 k)
      refine wpm_of (cuts := [56]) (by decide) 60 _ _ _ _ ?_
      simp (maxSteps := 2000000) only [↓reduceIte, wp_eq, wpd_eq, kont_eq, STP1, STP2, STP3, STP4, STP5, konM_eq, AMK, CZ, Option.map, List.getElem?_cons_zero, List.getElem?_cons_succ, List.mem_cons, List.not_mem_nil, if_false, if_true, Nat.reduceAdd, Nat.reduceLT, Nat.reduceLeDiff, Nat.reduceEqDiff, true_and, and_true, List.length_nil, List.length_cons, or_true, true_or, or_false, false_or, Option.some.injEq, Sum.inl.injEq, Sum.inr.injEq, exists_eq_left', exists_eq_left, Int.reduceLE, Int.reduceLT, Int.reduceNeg, Int.reduceAdd, Int.reduceMul, Int.reduceSub, Int.reduceToNat, inR, Nat.zero_ne_one, false_and, Nat.succ_ne_zero, reduceCtorEq, false_implies, true_implies, not_false_eq_true, not_true_eq_false, Int.reduceEq, KRE, C_Model_keep, FM, ea3, c', ix, natT, ek2]
      repeat (first | refine ⟨by omega, ?_⟩ | refine ⟨fun _ _ => okt_nn (by omega), ?_⟩)
      try (first | (show _ ≤ _; omega) | (show _ < _; omega))
      exact K'
  · funext b j
    show M1 b j = if b = 181 ∧ 240 * a ≤ j ∧ j < 240 * a + 0 then M 158 (j - 240 * a) else M1 b j
    rw [if_neg (by omega)]
set_option maxHeartbeats 600000 in
set_option maxRecDepth 20000 in
theorem Model_keep_ok (h0 : 0 ≤ M 154 58) (h4 : M 154 58 ≤ 40) : CallV m_Model_keep [.inr 154] M (fun M' => M' = mKeep M) := by
  have p := mPs_58 h0 h4
  by_cases c : M 154 58 = 40
  · obtain ⟨N, hN⟩ : ∃ N : Nat, N = 9360 := ⟨_, rfl⟩
    have ep : mset (mPsI M N) 154 58 39 = mPs M := by
      unfold mPs
      rw [if_pos c, hN]
    have c' := eq_true c
    refine callP_of (by decide) (by decide) (Nat.le_of_ble_eq_true rfl) (wpm_of (cuts := [13, 54]) (by decide) 60 _ _ _ _ ?_)
    rw [show lM m_Model_keep = 2 from rfl]
    simp (maxSteps := 2000000) only [↓reduceIte, wp_eq, wpd_eq, kont_eq, STP1, STP2, STP3, STP4, STP5, konM_eq, AMK, CZ, Option.map, List.getElem?_cons_zero, List.getElem?_cons_succ, List.mem_cons, List.not_mem_nil, if_false, if_true, Nat.reduceAdd, Nat.reduceLT, Nat.reduceLeDiff, Nat.reduceEqDiff, true_and, and_true, List.length_nil, List.length_cons, or_true, true_or, or_false, false_or, Option.some.injEq, Sum.inl.injEq, Sum.inr.injEq, exists_eq_left', exists_eq_left, Int.reduceLE, Int.reduceLT, Int.reduceNeg, Int.reduceAdd, Int.reduceMul, Int.reduceSub, Int.reduceToNat, inR, Nat.zero_ne_one, false_and, Nat.succ_ne_zero, reduceCtorEq, false_implies, true_implies, not_false_eq_true, not_true_eq_false, Int.reduceEq, KRE, C_Model_keep, FM, c']
    repeat (first | refine ⟨by omega, ?_⟩ | refine ⟨fun _ _ => okt_nn (by omega), ?_⟩)
    try (first | (show _ ≤ _; omega) | (show _ < _; omega))
    refine loopQ N (fun k ls M1 => M1 = mPsI M k ∧ ls = [some (.inr 154), some (.inl ((240 + k : Nat) : Int))]) ?_ _ _ ⟨?_, rfl⟩
    · rintro k _ _ hk ⟨rfl, rfl⟩ K
      by_cases ck : k = N
      · subst ck
        have ck' := eq_true (show (9600 : Int) ≤ ((240 + k : Nat) : Int) by omega)
        have e58 : mPsI M k 154 58 = 40 := (mPsI_o (by omega)).trans c
        have G := Model_keep_54 (M := M) (a1 := some (.inl ((240 + k : Nat) : Int))) (M1 := mset (mPsI M k) 154 58 39) (by simp [mset]) (by simp [mset]) ep
        refine wpm_of (cuts := [13, 54]) (by decide) 60 _ _ _ _ ?_
        simp (maxSteps := 2000000) only [↓reduceIte, wp_eq, wpd_eq, kont_eq, STP1, STP2, STP3, STP4, STP5, konM_eq, AMK, CZ, Option.map, List.getElem?_cons_zero, List.getElem?_cons_succ, List.mem_cons, List.not_mem_nil, if_false, if_true, Nat.reduceAdd, Nat.reduceLT, Nat.reduceLeDiff, Nat.reduceEqDiff, true_and, and_true, List.length_nil, List.length_cons, or_true, true_or, or_false, false_or, Option.some.injEq, Sum.inl.injEq, Sum.inr.injEq, exists_eq_left', exists_eq_left, Int.reduceLE, Int.reduceLT, Int.reduceNeg, Int.reduceAdd, Int.reduceMul, Int.reduceSub, Int.reduceToNat, inR, Nat.zero_ne_one, false_and, Nat.succ_ne_zero, reduceCtorEq, false_implies, true_implies, not_false_eq_true, not_true_eq_false, Int.reduceEq, KRE, C_Model_keep, FM, ck', e58]
        repeat (first | refine ⟨by omega, ?_⟩ | refine ⟨fun _ _ => okt_nn (by omega), ?_⟩)
        try (first | (show _ ≤ _; omega) | (show _ < _; omega))
        exact G
      · have hlt : k < N := by omega
        have ck' := eq_false (show ¬ (9600 : Int) ≤ ((240 + k : Nat) : Int) by omega)
        have K' := K hlt _ _ ⟨rfl, rfl⟩
        rw [← mPsI_s] at K'
        have ix : (((240 + k : Nat) : Int) - 240).toNat = k := by omega
        have ix2 : (((240 + k : Nat) : Int)).toNat = 240 + k := by omega
        have er : mPsI M k 181 (240 + k) = M 181 (k + 240) := by
          show (if 181 = 181 ∧ 240 + k < k then M 181 (240 + k + 240) else M 181 (240 + k)) = _
          rw [if_neg (by omega), Nat.add_comm]
        refine wpm_of (cuts := [13, 54]) (by decide) 60 _ _ _ _ ?_
        simp (maxSteps := 2000000) only [↓reduceIte, wp_eq, wpd_eq, kont_eq, STP1, STP2, STP3, STP4, STP5, konM_eq, AMK, CZ, Option.map, List.getElem?_cons_zero, List.getElem?_cons_succ, List.mem_cons, List.not_mem_nil, if_false, if_true, Nat.reduceAdd, Nat.reduceLT, Nat.reduceLeDiff, Nat.reduceEqDiff, true_and, and_true, List.length_nil, List.length_cons, or_true, true_or, or_false, false_or, Option.some.injEq, Sum.inl.injEq, Sum.inr.injEq, exists_eq_left', exists_eq_left, Int.reduceLE, Int.reduceLT, Int.reduceNeg, Int.reduceAdd, Int.reduceMul, Int.reduceSub, Int.reduceToNat, inR, Nat.zero_ne_one, false_and, Nat.succ_ne_zero, reduceCtorEq, false_implies, true_implies, not_false_eq_true, not_true_eq_false, Int.reduceEq, KRE, C_Model_keep, FM, ck', ix, ix2, er]
        repeat (first | refine ⟨by omega, ?_⟩ | refine ⟨fun _ _ => okt_nn (by omega), ?_⟩)
        try (first | (show _ ≤ _; omega) | (show _ < _; omega))
        exact WPm.eqL K' (by congr 1) rfl rfl
    · funext b j
      show M b j = if b = 181 ∧ j < 0 then M 181 (j + 240) else M b j
      rw [if_neg (by omega)]
  · have ep : mPs M = M := by
      unfold mPs
      rw [if_neg c]
    have c' := eq_false c
    have G := Model_keep_54 (M := M) (a1 := none) (M1 := M) (by omega) (by omega) ep.symm
    refine callP_of (by decide) (by decide) (Nat.le_of_ble_eq_true rfl) (wpm_of (cuts := [13, 54]) (by decide) 60 _ _ _ _ ?_)
    rw [show lM m_Model_keep = 2 from rfl]
    simp (maxSteps := 2000000) only [↓reduceIte, wp_eq, wpd_eq, kont_eq, STP1, STP2, STP3, STP4, STP5, konM_eq, AMK, CZ, Option.map, List.getElem?_cons_zero, List.getElem?_cons_succ, List.mem_cons, List.not_mem_nil, if_false, if_true, Nat.reduceAdd, Nat.reduceLT, Nat.reduceLeDiff, Nat.reduceEqDiff, true_and, and_true, List.length_nil, List.length_cons, or_true, true_or, or_false, false_or, Option.some.injEq, Sum.inl.injEq, Sum.inr.injEq, exists_eq_left', exists_eq_left, Int.reduceLE, Int.reduceLT, Int.reduceNeg, Int.reduceAdd, Int.reduceMul, Int.reduceSub, Int.reduceToNat, inR, Nat.zero_ne_one, false_and, Nat.succ_ne_zero, reduceCtorEq, false_implies, true_implies, not_false_eq_true, not_true_eq_false, Int.reduceEq, KRE, C_Model_keep, FM, c']
    repeat (first | refine ⟨by omega, ?_⟩ | refine ⟨fun _ _ => okt_nn (by omega), ?_⟩)
    try (first | (show _ ≤ _; omega) | (show _ < _; omega))
    exact G
set_option maxHeartbeats 600000 in
set_option maxRecDepth 20000 in
theorem Model_refuse_ok {k : Nat} (hk : k < 3) : CallI m_Model_refuse [.inr 154, .inl (k : Int)] M (fun x M' => x = -1 ∧ M' = mset M 160 k (M 160 k + 1)) := by
  refine callP_of (by decide) (by decide) (Nat.le_of_ble_eq_true rfl) (wpm_of (cuts := []) (by decide) 50 _ _ _ _ ?_)
  rw [show lM m_Model_refuse = 2 from rfl]
  simp (maxSteps := 2000000) only [↓reduceIte, wp_eq, wpd_eq, kont_eq, STP1, STP2, STP3, STP4, STP5, konM_eq, AMK, CZ, Option.map, List.getElem?_cons_zero, List.getElem?_cons_succ, List.mem_cons, List.not_mem_nil, if_false, if_true, Nat.reduceAdd, Nat.reduceLT, Nat.reduceLeDiff, Nat.reduceEqDiff, true_and, and_true, List.length_nil, List.length_cons, or_true, true_or, or_false, false_or, Option.some.injEq, Sum.inl.injEq, Sum.inr.injEq, exists_eq_left', exists_eq_left, Int.reduceLE, Int.reduceLT, Int.reduceNeg, Int.reduceAdd, Int.reduceMul, Int.reduceSub, Int.reduceToNat, inR, Nat.zero_ne_one, false_and, Nat.succ_ne_zero, reduceCtorEq, false_implies, true_implies, not_false_eq_true, not_true_eq_false, Int.reduceEq, KRE, C_Model_refuse, FM, natT]
  repeat (first | refine ⟨by omega, ?_⟩ | refine ⟨fun _ _ => okt_nn (by omega), ?_⟩)
  try (first | (show _ ≤ _; omega) | (show _ < _; omega))
/-- an act refused -/
def mRefM (M : Mm) (k : Nat) : Mm := mset M 160 k (M 160 k + 1)
def ldM (M : Mm) : Prop := 0 ≤ M 154 58 ∧ M 154 58 ≤ 40
abbrev c0M (M : Mm) : Mm := mset M 154 1 0
theorem c0M_k (hl : ldM M) : ldM (c0M M) := by
  have e : c0M M 154 58 = M 154 58 := by simp [mset]
  unfold ldM
  rw [e]
  exact hl
theorem mdl_keep {M1 : Mm} (h : mdl M1 n T Y lap bnd mrg) : mdl (mKeep M1) n T Y lap bnd mrg :=
  mdl_fr h (P := fun b j => b = 181 ∨ b = 154 ∧ j = 58) (fun b j z => mKeep_o (by omega) (by omega)) (fun b j z => by omega)
set_option maxHeartbeats 600000 in
set_option maxRecDepth 20000 in
theorem Mdate_ok {t : Nat} {y : Int} (h : mdl M n T Y lap bnd mrg) (hl : ldM M) (ht : t < n) (hy : -1 ≤ y ∧ y ≤ 900) (hne : Y t ≠ y) : CallI m_Model_date [.inr 154, .inl (t : Int), .inl y] M (fun x M' => x = Y t ∧ M' = mset (mKeep (c0M M)) 158 (30 * t + 4) y) := by
  have h0 : mdl (mset M 154 1 0) n T Y lap bnd mrg := mdl_fr h scr_0 scr_mdl
  have n8 := h.1.2
  have gy := (mdl_t h ht).2.2.2.2.1
  have hk := c0M_k hl
  have ne' := eq_false hne
  have ix : (30 * (t : Int) + 4).toNat = 30 * t + 4 := by omega
  refine callP_of (by decide) (by decide) (Nat.le_of_ble_eq_true rfl) (wpm_of (cuts := []) (by decide) 60 _ _ _ _ ?_)
  rw [show lM m_Model_date = 4 from rfl]
  simp (maxSteps := 2000000) only [↓reduceIte, wp_eq, wpd_eq, kont_eq, STP1, STP2, STP3, STP4, STP5, konM_eq, AMK, CZ, Option.map, List.getElem?_cons_zero, List.getElem?_cons_succ, List.mem_cons, List.not_mem_nil, if_false, if_true, Nat.reduceAdd, Nat.reduceLT, Nat.reduceLeDiff, Nat.reduceEqDiff, true_and, and_true, List.length_nil, List.length_cons, or_true, true_or, or_false, false_or, Option.some.injEq, Sum.inl.injEq, Sum.inr.injEq, exists_eq_left', exists_eq_left, Int.reduceLE, Int.reduceLT, Int.reduceNeg, Int.reduceAdd, Int.reduceMul, Int.reduceSub, Int.reduceToNat, inR, Nat.zero_ne_one, false_and, Nat.succ_ne_zero, reduceCtorEq, false_implies, true_implies, not_false_eq_true, not_true_eq_false, Int.reduceEq, KRE, C_Model_date, FM]
  refine (isTimber_y h0 ht).eq ?_
  try simp (maxSteps := 2000000) only [↓reduceIte, wp_eq, wpd_eq, kont_eq, STP1, STP2, STP3, STP4, STP5, konM_eq, AMK, CZ, Option.map, List.getElem?_cons_zero, List.getElem?_cons_succ, List.mem_cons, List.not_mem_nil, if_false, if_true, Nat.reduceAdd, Nat.reduceLT, Nat.reduceLeDiff, Nat.reduceEqDiff, true_and, and_true, List.length_nil, List.length_cons, or_true, true_or, or_false, false_or, Option.some.injEq, Sum.inl.injEq, Sum.inr.injEq, exists_eq_left', exists_eq_left, Int.reduceLE, Int.reduceLT, Int.reduceNeg, Int.reduceAdd, Int.reduceMul, Int.reduceSub, Int.reduceToNat, inR, Nat.zero_ne_one, false_and, Nat.succ_ne_zero, reduceCtorEq, false_implies, true_implies, not_false_eq_true, not_true_eq_false, Int.reduceEq, KRE, C_Model_date]
  repeat (first | refine ⟨by omega, ?_⟩ | refine ⟨fun _ _ => okt_nn (by omega), ?_⟩)
  try (first | (show _ ≤ _; omega) | (show _ < _; omega))
  refine (Model_isIn_ok ⟨by omega, by omega⟩ ⟨by omega, by omega⟩ ⟨by omega, by omega⟩).eq ?_
  rw [if_pos hy]
  try simp (maxSteps := 2000000) only [↓reduceIte, wp_eq, wpd_eq, kont_eq, STP1, STP2, STP3, STP4, STP5, konM_eq, AMK, CZ, Option.map, List.getElem?_cons_zero, List.getElem?_cons_succ, List.mem_cons, List.not_mem_nil, if_false, if_true, Nat.reduceAdd, Nat.reduceLT, Nat.reduceLeDiff, Nat.reduceEqDiff, true_and, and_true, List.length_nil, List.length_cons, or_true, true_or, or_false, false_or, Option.some.injEq, Sum.inl.injEq, Sum.inr.injEq, exists_eq_left', exists_eq_left, Int.reduceLE, Int.reduceLT, Int.reduceNeg, Int.reduceAdd, Int.reduceMul, Int.reduceSub, Int.reduceToNat, inR, Nat.zero_ne_one, false_and, Nat.succ_ne_zero, reduceCtorEq, false_implies, true_implies, not_false_eq_true, not_true_eq_false, Int.reduceEq, KRE, C_Model_date]
  repeat (first | refine ⟨by omega, ?_⟩ | refine ⟨fun _ _ => okt_nn (by omega), ?_⟩)
  try (first | (show _ ≤ _; omega) | (show _ < _; omega))
  refine (of_year h0 ht).eq ?_
  try simp (maxSteps := 2000000) only [↓reduceIte, wp_eq, wpd_eq, kont_eq, STP1, STP2, STP3, STP4, STP5, konM_eq, AMK, CZ, Option.map, List.getElem?_cons_zero, List.getElem?_cons_succ, List.mem_cons, List.not_mem_nil, if_false, if_true, Nat.reduceAdd, Nat.reduceLT, Nat.reduceLeDiff, Nat.reduceEqDiff, true_and, and_true, List.length_nil, List.length_cons, or_true, true_or, or_false, false_or, Option.some.injEq, Sum.inl.injEq, Sum.inr.injEq, exists_eq_left', exists_eq_left, Int.reduceLE, Int.reduceLT, Int.reduceNeg, Int.reduceAdd, Int.reduceMul, Int.reduceSub, Int.reduceToNat, inR, Nat.zero_ne_one, false_and, Nat.succ_ne_zero, reduceCtorEq, false_implies, true_implies, not_false_eq_true, not_true_eq_false, Int.reduceEq, KRE, C_Model_date, ne']
  repeat (first | refine ⟨by omega, ?_⟩ | refine ⟨fun _ _ => okt_nn (by omega), ?_⟩)
  try (first | (show _ ≤ _; omega) | (show _ < _; omega))
  refine (Model_keep_ok hk.1 hk.2).eq ?_
  try simp (maxSteps := 2000000) only [↓reduceIte, wp_eq, wpd_eq, kont_eq, STP1, STP2, STP3, STP4, STP5, konM_eq, AMK, CZ, Option.map, List.getElem?_cons_zero, List.getElem?_cons_succ, List.mem_cons, List.not_mem_nil, if_false, if_true, Nat.reduceAdd, Nat.reduceLT, Nat.reduceLeDiff, Nat.reduceEqDiff, true_and, and_true, List.length_nil, List.length_cons, or_true, true_or, or_false, false_or, Option.some.injEq, Sum.inl.injEq, Sum.inr.injEq, exists_eq_left', exists_eq_left, Int.reduceLE, Int.reduceLT, Int.reduceNeg, Int.reduceAdd, Int.reduceMul, Int.reduceSub, Int.reduceToNat, inR, Nat.zero_ne_one, false_and, Nat.succ_ne_zero, reduceCtorEq, false_implies, true_implies, not_false_eq_true, not_true_eq_false, Int.reduceEq, KRE, C_Model_date]
  refine (of_year (mdl_keep h0) ht).eq ?_
  try simp (maxSteps := 2000000) only [↓reduceIte, wp_eq, wpd_eq, kont_eq, STP1, STP2, STP3, STP4, STP5, konM_eq, AMK, CZ, Option.map, List.getElem?_cons_zero, List.getElem?_cons_succ, List.mem_cons, List.not_mem_nil, if_false, if_true, Nat.reduceAdd, Nat.reduceLT, Nat.reduceLeDiff, Nat.reduceEqDiff, true_and, and_true, List.length_nil, List.length_cons, or_true, true_or, or_false, false_or, Option.some.injEq, Sum.inl.injEq, Sum.inr.injEq, exists_eq_left', exists_eq_left, Int.reduceLE, Int.reduceLT, Int.reduceNeg, Int.reduceAdd, Int.reduceMul, Int.reduceSub, Int.reduceToNat, inR, Nat.zero_ne_one, false_and, Nat.succ_ne_zero, reduceCtorEq, false_implies, true_implies, not_false_eq_true, not_true_eq_false, Int.reduceEq, KRE, C_Model_date, FM, ix]
  repeat (first | refine ⟨by omega, ?_⟩ | refine ⟨fun _ _ => okt_nn (by omega), ?_⟩)
  try (first | (show _ ≤ _; omega) | (show _ < _; omega))
set_option maxHeartbeats 600000 in
set_option maxRecDepth 20000 in
theorem Mdate_no {t y : Int} (h : mdl M n T Y lap bnd mrg) (ht : inR t) (hy : inR y) (hx : ¬ (0 ≤ t ∧ t < n) ∨ y < -1 ∨ 900 < y ∨ Y t.toNat = y) : CallI m_Model_date [.inr 154, .inl t, .inl y] M (fun x M' => x = -2 ∧ M' = mRefM (c0M M) 1) := by
  have h0 : mdl (mset M 154 1 0) n T Y lap bnd mrg := mdl_fr h scr_0 scr_mdl
  have F := (Model_refuse_ok (k := 1) (M := mset M 154 1 0) (by omega))
  refine callP_of (by decide) (by decide) (Nat.le_of_ble_eq_true rfl) (wpm_of (cuts := []) (by decide) 60 _ _ _ _ ?_)
  rw [show lM m_Model_date = 4 from rfl]
  simp (maxSteps := 2000000) only [↓reduceIte, wp_eq, wpd_eq, kont_eq, STP1, STP2, STP3, STP4, STP5, konM_eq, AMK, CZ, Option.map, List.getElem?_cons_zero, List.getElem?_cons_succ, List.mem_cons, List.not_mem_nil, if_false, if_true, Nat.reduceAdd, Nat.reduceLT, Nat.reduceLeDiff, Nat.reduceEqDiff, true_and, and_true, List.length_nil, List.length_cons, or_true, true_or, or_false, false_or, Option.some.injEq, Sum.inl.injEq, Sum.inr.injEq, exists_eq_left', exists_eq_left, Int.reduceLE, Int.reduceLT, Int.reduceNeg, Int.reduceAdd, Int.reduceMul, Int.reduceSub, Int.reduceToNat, inR, Nat.zero_ne_one, false_and, Nat.succ_ne_zero, reduceCtorEq, false_implies, true_implies, not_false_eq_true, not_true_eq_false, Int.reduceEq, KRE, C_Model_date, FM]
  refine (Model_isTimber_ok h0 ht).eq ?_
  by_cases c1 : 0 ≤ t ∧ t < n
  · rw [if_pos c1]
    try simp (maxSteps := 2000000) only [↓reduceIte, wp_eq, wpd_eq, kont_eq, STP1, STP2, STP3, STP4, STP5, konM_eq, AMK, CZ, Option.map, List.getElem?_cons_zero, List.getElem?_cons_succ, List.mem_cons, List.not_mem_nil, if_false, if_true, Nat.reduceAdd, Nat.reduceLT, Nat.reduceLeDiff, Nat.reduceEqDiff, true_and, and_true, List.length_nil, List.length_cons, or_true, true_or, or_false, false_or, Option.some.injEq, Sum.inl.injEq, Sum.inr.injEq, exists_eq_left', exists_eq_left, Int.reduceLE, Int.reduceLT, Int.reduceNeg, Int.reduceAdd, Int.reduceMul, Int.reduceSub, Int.reduceToNat, inR, Nat.zero_ne_one, false_and, Nat.succ_ne_zero, reduceCtorEq, false_implies, true_implies, not_false_eq_true, not_true_eq_false, Int.reduceEq, KRE, C_Model_date]
    repeat (first | refine ⟨by omega, ?_⟩ | refine ⟨fun _ _ => okt_nn (by omega), ?_⟩)
    try (first | (show _ ≤ _; omega) | (show _ < _; omega))
    refine (Model_isIn_ok hy ⟨by omega, by omega⟩ ⟨by omega, by omega⟩).eq ?_
    by_cases c2 : -1 ≤ y ∧ y ≤ 900
    · rw [if_pos c2]
      obtain ⟨u, rfl⟩ : ∃ u : Nat, t = u := ⟨t.toNat, by omega⟩
      have hu : u < n := by omega
      rw [natT] at hx
      have e := eq_true (show Y u = y by omega)
      have gy := (mdl_t h hu).2.2.2.2.1
      try simp (maxSteps := 2000000) only [↓reduceIte, wp_eq, wpd_eq, kont_eq, STP1, STP2, STP3, STP4, STP5, konM_eq, AMK, CZ, Option.map, List.getElem?_cons_zero, List.getElem?_cons_succ, List.mem_cons, List.not_mem_nil, if_false, if_true, Nat.reduceAdd, Nat.reduceLT, Nat.reduceLeDiff, Nat.reduceEqDiff, true_and, and_true, List.length_nil, List.length_cons, or_true, true_or, or_false, false_or, Option.some.injEq, Sum.inl.injEq, Sum.inr.injEq, exists_eq_left', exists_eq_left, Int.reduceLE, Int.reduceLT, Int.reduceNeg, Int.reduceAdd, Int.reduceMul, Int.reduceSub, Int.reduceToNat, inR, Nat.zero_ne_one, false_and, Nat.succ_ne_zero, reduceCtorEq, false_implies, true_implies, not_false_eq_true, not_true_eq_false, Int.reduceEq, KRE, C_Model_date]
      repeat (first | refine ⟨by omega, ?_⟩ | refine ⟨fun _ _ => okt_nn (by omega), ?_⟩)
      try (first | (show _ ≤ _; omega) | (show _ < _; omega))
      refine (of_year h0 hu).eq ?_
      try simp (maxSteps := 2000000) only [↓reduceIte, wp_eq, wpd_eq, kont_eq, STP1, STP2, STP3, STP4, STP5, konM_eq, AMK, CZ, Option.map, List.getElem?_cons_zero, List.getElem?_cons_succ, List.mem_cons, List.not_mem_nil, if_false, if_true, Nat.reduceAdd, Nat.reduceLT, Nat.reduceLeDiff, Nat.reduceEqDiff, true_and, and_true, List.length_nil, List.length_cons, or_true, true_or, or_false, false_or, Option.some.injEq, Sum.inl.injEq, Sum.inr.injEq, exists_eq_left', exists_eq_left, Int.reduceLE, Int.reduceLT, Int.reduceNeg, Int.reduceAdd, Int.reduceMul, Int.reduceSub, Int.reduceToNat, inR, Nat.zero_ne_one, false_and, Nat.succ_ne_zero, reduceCtorEq, false_implies, true_implies, not_false_eq_true, not_true_eq_false, Int.reduceEq, KRE, C_Model_date, e]
      repeat (first | refine ⟨by omega, ?_⟩ | refine ⟨fun _ _ => okt_nn (by omega), ?_⟩)
      try (first | (show _ ≤ _; omega) | (show _ < _; omega))
      refine F.eq ?_
      try simp (maxSteps := 2000000) only [↓reduceIte, wp_eq, wpd_eq, kont_eq, STP1, STP2, STP3, STP4, STP5, konM_eq, AMK, CZ, Option.map, List.getElem?_cons_zero, List.getElem?_cons_succ, List.mem_cons, List.not_mem_nil, if_false, if_true, Nat.reduceAdd, Nat.reduceLT, Nat.reduceLeDiff, Nat.reduceEqDiff, true_and, and_true, List.length_nil, List.length_cons, or_true, true_or, or_false, false_or, Option.some.injEq, Sum.inl.injEq, Sum.inr.injEq, exists_eq_left', exists_eq_left, Int.reduceLE, Int.reduceLT, Int.reduceNeg, Int.reduceAdd, Int.reduceMul, Int.reduceSub, Int.reduceToNat, inR, Nat.zero_ne_one, false_and, Nat.succ_ne_zero, reduceCtorEq, false_implies, true_implies, not_false_eq_true, not_true_eq_false, Int.reduceEq, KRE, C_Model_date]
      rfl
    · rw [if_neg c2]
      try simp (maxSteps := 2000000) only [↓reduceIte, wp_eq, wpd_eq, kont_eq, STP1, STP2, STP3, STP4, STP5, konM_eq, AMK, CZ, Option.map, List.getElem?_cons_zero, List.getElem?_cons_succ, List.mem_cons, List.not_mem_nil, if_false, if_true, Nat.reduceAdd, Nat.reduceLT, Nat.reduceLeDiff, Nat.reduceEqDiff, true_and, and_true, List.length_nil, List.length_cons, or_true, true_or, or_false, false_or, Option.some.injEq, Sum.inl.injEq, Sum.inr.injEq, exists_eq_left', exists_eq_left, Int.reduceLE, Int.reduceLT, Int.reduceNeg, Int.reduceAdd, Int.reduceMul, Int.reduceSub, Int.reduceToNat, inR, Nat.zero_ne_one, false_and, Nat.succ_ne_zero, reduceCtorEq, false_implies, true_implies, not_false_eq_true, not_true_eq_false, Int.reduceEq, KRE, C_Model_date]
      repeat (first | refine ⟨by omega, ?_⟩ | refine ⟨fun _ _ => okt_nn (by omega), ?_⟩)
      try (first | (show _ ≤ _; omega) | (show _ < _; omega))
      refine F.eq ?_
      try simp (maxSteps := 2000000) only [↓reduceIte, wp_eq, wpd_eq, kont_eq, STP1, STP2, STP3, STP4, STP5, konM_eq, AMK, CZ, Option.map, List.getElem?_cons_zero, List.getElem?_cons_succ, List.mem_cons, List.not_mem_nil, if_false, if_true, Nat.reduceAdd, Nat.reduceLT, Nat.reduceLeDiff, Nat.reduceEqDiff, true_and, and_true, List.length_nil, List.length_cons, or_true, true_or, or_false, false_or, Option.some.injEq, Sum.inl.injEq, Sum.inr.injEq, exists_eq_left', exists_eq_left, Int.reduceLE, Int.reduceLT, Int.reduceNeg, Int.reduceAdd, Int.reduceMul, Int.reduceSub, Int.reduceToNat, inR, Nat.zero_ne_one, false_and, Nat.succ_ne_zero, reduceCtorEq, false_implies, true_implies, not_false_eq_true, not_true_eq_false, Int.reduceEq, KRE, C_Model_date]
      rfl
  · rw [if_neg c1]
    try simp (maxSteps := 2000000) only [↓reduceIte, wp_eq, wpd_eq, kont_eq, STP1, STP2, STP3, STP4, STP5, konM_eq, AMK, CZ, Option.map, List.getElem?_cons_zero, List.getElem?_cons_succ, List.mem_cons, List.not_mem_nil, if_false, if_true, Nat.reduceAdd, Nat.reduceLT, Nat.reduceLeDiff, Nat.reduceEqDiff, true_and, and_true, List.length_nil, List.length_cons, or_true, true_or, or_false, false_or, Option.some.injEq, Sum.inl.injEq, Sum.inr.injEq, exists_eq_left', exists_eq_left, Int.reduceLE, Int.reduceLT, Int.reduceNeg, Int.reduceAdd, Int.reduceMul, Int.reduceSub, Int.reduceToNat, inR, Nat.zero_ne_one, false_and, Nat.succ_ne_zero, reduceCtorEq, false_implies, true_implies, not_false_eq_true, not_true_eq_false, Int.reduceEq, KRE, C_Model_date]
    repeat (first | refine ⟨by omega, ?_⟩ | refine ⟨fun _ _ => okt_nn (by omega), ?_⟩)
    try (first | (show _ ≤ _; omega) | (show _ < _; omega))
    refine F.eq ?_
    try simp (maxSteps := 2000000) only [↓reduceIte, wp_eq, wpd_eq, kont_eq, STP1, STP2, STP3, STP4, STP5, konM_eq, AMK, CZ, Option.map, List.getElem?_cons_zero, List.getElem?_cons_succ, List.mem_cons, List.not_mem_nil, if_false, if_true, Nat.reduceAdd, Nat.reduceLT, Nat.reduceLeDiff, Nat.reduceEqDiff, true_and, and_true, List.length_nil, List.length_cons, or_true, true_or, or_false, false_or, Option.some.injEq, Sum.inl.injEq, Sum.inr.injEq, exists_eq_left', exists_eq_left, Int.reduceLE, Int.reduceLT, Int.reduceNeg, Int.reduceAdd, Int.reduceMul, Int.reduceSub, Int.reduceToNat, inR, Nat.zero_ne_one, false_and, Nat.succ_ne_zero, reduceCtorEq, false_implies, true_implies, not_false_eq_true, not_true_eq_false, Int.reduceEq, KRE, C_Model_date]
    rfl
set_option maxHeartbeats 600000 in
set_option maxRecDepth 20000 in
theorem Msettle_ok {t : Nat} (h : mdl M n T Y lap bnd mrg) (hl : ldM M) (ht : t < n) (hY : Y t = -1) (hu : whyU T Y lap bnd mrg n t = 0) : CallI m_Model_settle [.inr 154, .inl (t : Int)] M (fun x M' => x = (cSpan T Y t n).1 + (bestO T Y lap n t).2.1 ∧ ∃ M2, rsM M 0 M2 ∧ M' = mset (mKeep M2) 158 (30 * t + 4) ((cSpan T Y t n).1 + (bestO T Y lap n t).2.1)) := by
  have h0 : mdl (mset M 154 1 0) n T Y lap bnd mrg := mdl_fr h scr_0 scr_mdl
  have n8 := h.1.2
  have ob := bestO_ok (lap := lap) h.2.2.2 ht
  have ix : (30 * (t : Int) + 4).toNat = 30 * t + 4 := by omega
  have ew : why (bestO T Y lap n t) bnd mrg = 0 := by
    unfold whyU at hu
    split at hu
    · exact hu
    · rename_i z
      exact Decidable.not_not.mp z
  obtain ⟨g1, -⟩ := why_0 ob ew
  refine callP_of (by decide) (by decide) (Nat.le_of_ble_eq_true rfl) (wpm_of (cuts := []) (by decide) 60 _ _ _ _ ?_)
  rw [show lM m_Model_settle = 2 from rfl]
  simp (maxSteps := 2000000) only [↓reduceIte, wp_eq, wpd_eq, kont_eq, STP1, STP2, STP3, STP4, STP5, konM_eq, AMK, CZ, Option.map, List.getElem?_cons_zero, List.getElem?_cons_succ, List.mem_cons, List.not_mem_nil, if_false, if_true, Nat.reduceAdd, Nat.reduceLT, Nat.reduceLeDiff, Nat.reduceEqDiff, true_and, and_true, List.length_nil, List.length_cons, or_true, true_or, or_false, false_or, Option.some.injEq, Sum.inl.injEq, Sum.inr.injEq, exists_eq_left', exists_eq_left, Int.reduceLE, Int.reduceLT, Int.reduceNeg, Int.reduceAdd, Int.reduceMul, Int.reduceSub, Int.reduceToNat, inR, Nat.zero_ne_one, false_and, Nat.succ_ne_zero, reduceCtorEq, false_implies, true_implies, not_false_eq_true, not_true_eq_false, Int.reduceEq, KRE, C_Model_settle, FM]
  refine (isTimber_y h0 ht).eq ?_
  try simp (maxSteps := 2000000) only [↓reduceIte, wp_eq, wpd_eq, kont_eq, STP1, STP2, STP3, STP4, STP5, konM_eq, AMK, CZ, Option.map, List.getElem?_cons_zero, List.getElem?_cons_succ, List.mem_cons, List.not_mem_nil, if_false, if_true, Nat.reduceAdd, Nat.reduceLT, Nat.reduceLeDiff, Nat.reduceEqDiff, true_and, and_true, List.length_nil, List.length_cons, or_true, true_or, or_false, false_or, Option.some.injEq, Sum.inl.injEq, Sum.inr.injEq, exists_eq_left', exists_eq_left, Int.reduceLE, Int.reduceLT, Int.reduceNeg, Int.reduceAdd, Int.reduceMul, Int.reduceSub, Int.reduceToNat, inR, Nat.zero_ne_one, false_and, Nat.succ_ne_zero, reduceCtorEq, false_implies, true_implies, not_false_eq_true, not_true_eq_false, Int.reduceEq, KRE, C_Model_settle]
  repeat (first | refine ⟨by omega, ?_⟩ | refine ⟨fun _ _ => okt_nn (by omega), ?_⟩)
  try (first | (show _ ≤ _; omega) | (show _ < _; omega))
  refine (dated_m h0 ht).eq ?_
  rw [if_neg (fun z => z hY)]
  try simp (maxSteps := 2000000) only [↓reduceIte, wp_eq, wpd_eq, kont_eq, STP1, STP2, STP3, STP4, STP5, konM_eq, AMK, CZ, Option.map, List.getElem?_cons_zero, List.getElem?_cons_succ, List.mem_cons, List.not_mem_nil, if_false, if_true, Nat.reduceAdd, Nat.reduceLT, Nat.reduceLeDiff, Nat.reduceEqDiff, true_and, and_true, List.length_nil, List.length_cons, or_true, true_or, or_false, false_or, Option.some.injEq, Sum.inl.injEq, Sum.inr.injEq, exists_eq_left', exists_eq_left, Int.reduceLE, Int.reduceLT, Int.reduceNeg, Int.reduceAdd, Int.reduceMul, Int.reduceSub, Int.reduceToNat, inR, Nat.zero_ne_one, false_and, Nat.succ_ne_zero, reduceCtorEq, false_implies, true_implies, not_false_eq_true, not_true_eq_false, Int.reduceEq, KRE, C_Model_settle]
  repeat (first | refine ⟨by omega, ?_⟩ | refine ⟨fun _ _ => okt_nn (by omega), ?_⟩)
  try (first | (show _ ≤ _; omega) | (show _ < _; omega))
  refine (Model_whyNot_ok h0 ht).mono (fun x M1 z => ?_)
  obtain ⟨rfl, e30, ⟨-, -, b3⟩, F1⟩ := z
  have rs := rsM_fr rsM_0 F1 (fun b j z => by unfold fitP at z; unfold scrM; omega)
  have h1 := mdl_fr h0 F1 (fun b j z => by unfold fitP at z; omega)
  have l1 : ldM M1 := by
    have e : M1 154 58 = M 154 58 := (F1 _ _ (by unfold fitP; omega)).trans (by simp [mset])
    unfold ldM
    rw [e]
    exact hl
  have e36 := (b3 g1).1
  have k30 : mKeep M1 154 30 = M1 154 30 := mKeep_o (by omega) (by omega)
  have k36 : mKeep M1 154 36 = M1 154 36 := mKeep_o (by omega) (by omega)
  rw [e30] at k30
  rw [e36] at k36
  try simp (maxSteps := 2000000) only [↓reduceIte, wp_eq, wpd_eq, kont_eq, STP1, STP2, STP3, STP4, STP5, konM_eq, AMK, CZ, Option.map, List.getElem?_cons_zero, List.getElem?_cons_succ, List.mem_cons, List.not_mem_nil, if_false, if_true, Nat.reduceAdd, Nat.reduceLT, Nat.reduceLeDiff, Nat.reduceEqDiff, true_and, and_true, List.length_nil, List.length_cons, or_true, true_or, or_false, false_or, Option.some.injEq, Sum.inl.injEq, Sum.inr.injEq, exists_eq_left', exists_eq_left, Int.reduceLE, Int.reduceLT, Int.reduceNeg, Int.reduceAdd, Int.reduceMul, Int.reduceSub, Int.reduceToNat, inR, Nat.zero_ne_one, false_and, Nat.succ_ne_zero, reduceCtorEq, false_implies, true_implies, not_false_eq_true, not_true_eq_false, Int.reduceEq, KRE, C_Model_settle, hu]
  refine (Model_keep_ok l1.1 l1.2).eq ?_
  try simp (maxSteps := 2000000) only [↓reduceIte, wp_eq, wpd_eq, kont_eq, STP1, STP2, STP3, STP4, STP5, konM_eq, AMK, CZ, Option.map, List.getElem?_cons_zero, List.getElem?_cons_succ, List.mem_cons, List.not_mem_nil, if_false, if_true, Nat.reduceAdd, Nat.reduceLT, Nat.reduceLeDiff, Nat.reduceEqDiff, true_and, and_true, List.length_nil, List.length_cons, or_true, true_or, or_false, false_or, Option.some.injEq, Sum.inl.injEq, Sum.inr.injEq, exists_eq_left', exists_eq_left, Int.reduceLE, Int.reduceLT, Int.reduceNeg, Int.reduceAdd, Int.reduceMul, Int.reduceSub, Int.reduceToNat, inR, Nat.zero_ne_one, false_and, Nat.succ_ne_zero, reduceCtorEq, false_implies, true_implies, not_false_eq_true, not_true_eq_false, Int.reduceEq, KRE, C_Model_settle, FM, ix, k30, k36]
  repeat (first | refine ⟨by omega, ?_⟩ | refine ⟨fun _ _ => okt_nn (by omega), ?_⟩)
  try (first | (show _ ≤ _; omega) | (show _ < _; omega))
  refine (of_k (by omega) 4 (by omega) rfl).eq ?_
  try simp (maxSteps := 2000000) only [↓reduceIte, wp_eq, wpd_eq, kont_eq, STP1, STP2, STP3, STP4, STP5, konM_eq, AMK, CZ, Option.map, List.getElem?_cons_zero, List.getElem?_cons_succ, List.mem_cons, List.not_mem_nil, if_false, if_true, Nat.reduceAdd, Nat.reduceLT, Nat.reduceLeDiff, Nat.reduceEqDiff, true_and, and_true, List.length_nil, List.length_cons, or_true, true_or, or_false, false_or, Option.some.injEq, Sum.inl.injEq, Sum.inr.injEq, exists_eq_left', exists_eq_left, Int.reduceLE, Int.reduceLT, Int.reduceNeg, Int.reduceAdd, Int.reduceMul, Int.reduceSub, Int.reduceToNat, inR, Nat.zero_ne_one, false_and, Nat.succ_ne_zero, reduceCtorEq, false_implies, true_implies, not_false_eq_true, not_true_eq_false, Int.reduceEq, KRE, C_Model_settle]
  refine ⟨by simp [mset], M1, rs, rfl⟩
set_option maxHeartbeats 600000 in
set_option maxRecDepth 20000 in
theorem Msettle_no {t : Int} (h : mdl M n T Y lap bnd mrg) (ht : inR t) (hx : ¬ (0 ≤ t ∧ t < n) ∨ Y t.toNat ≠ -1 ∨ whyU T Y lap bnd mrg n t.toNat ≠ 0) : CallI m_Model_settle [.inr 154, .inl t] M (fun x M' => x = -1 ∧ ∃ M2, rsM M 0 M2 ∧ M' = mRefM M2 1) := by
  have h0 : mdl (mset M 154 1 0) n T Y lap bnd mrg := mdl_fr h scr_0 scr_mdl
  have F := fun M1 => (Model_refuse_ok (k := 1) (M := M1) (by omega))
  refine callP_of (by decide) (by decide) (Nat.le_of_ble_eq_true rfl) (wpm_of (cuts := []) (by decide) 60 _ _ _ _ ?_)
  rw [show lM m_Model_settle = 2 from rfl]
  simp (maxSteps := 2000000) only [↓reduceIte, wp_eq, wpd_eq, kont_eq, STP1, STP2, STP3, STP4, STP5, konM_eq, AMK, CZ, Option.map, List.getElem?_cons_zero, List.getElem?_cons_succ, List.mem_cons, List.not_mem_nil, if_false, if_true, Nat.reduceAdd, Nat.reduceLT, Nat.reduceLeDiff, Nat.reduceEqDiff, true_and, and_true, List.length_nil, List.length_cons, or_true, true_or, or_false, false_or, Option.some.injEq, Sum.inl.injEq, Sum.inr.injEq, exists_eq_left', exists_eq_left, Int.reduceLE, Int.reduceLT, Int.reduceNeg, Int.reduceAdd, Int.reduceMul, Int.reduceSub, Int.reduceToNat, inR, Nat.zero_ne_one, false_and, Nat.succ_ne_zero, reduceCtorEq, false_implies, true_implies, not_false_eq_true, not_true_eq_false, Int.reduceEq, KRE, C_Model_settle, FM]
  refine (Model_isTimber_ok h0 ht).eq ?_
  by_cases c1 : 0 ≤ t ∧ t < n
  · rw [if_pos c1]
    obtain ⟨u, rfl⟩ : ∃ u : Nat, t = u := ⟨t.toNat, by omega⟩
    have hu : u < n := by omega
    rw [natT] at hx
    try simp (maxSteps := 2000000) only [↓reduceIte, wp_eq, wpd_eq, kont_eq, STP1, STP2, STP3, STP4, STP5, konM_eq, AMK, CZ, Option.map, List.getElem?_cons_zero, List.getElem?_cons_succ, List.mem_cons, List.not_mem_nil, if_false, if_true, Nat.reduceAdd, Nat.reduceLT, Nat.reduceLeDiff, Nat.reduceEqDiff, true_and, and_true, List.length_nil, List.length_cons, or_true, true_or, or_false, false_or, Option.some.injEq, Sum.inl.injEq, Sum.inr.injEq, exists_eq_left', exists_eq_left, Int.reduceLE, Int.reduceLT, Int.reduceNeg, Int.reduceAdd, Int.reduceMul, Int.reduceSub, Int.reduceToNat, inR, Nat.zero_ne_one, false_and, Nat.succ_ne_zero, reduceCtorEq, false_implies, true_implies, not_false_eq_true, not_true_eq_false, Int.reduceEq, KRE, C_Model_settle]
    repeat (first | refine ⟨by omega, ?_⟩ | refine ⟨fun _ _ => okt_nn (by omega), ?_⟩)
    try (first | (show _ ≤ _; omega) | (show _ < _; omega))
    refine (dated_m h0 hu).eq ?_
    by_cases c2 : Y u = -1
    · rw [if_neg (fun z => z c2)]
      try simp (maxSteps := 2000000) only [↓reduceIte, wp_eq, wpd_eq, kont_eq, STP1, STP2, STP3, STP4, STP5, konM_eq, AMK, CZ, Option.map, List.getElem?_cons_zero, List.getElem?_cons_succ, List.mem_cons, List.not_mem_nil, if_false, if_true, Nat.reduceAdd, Nat.reduceLT, Nat.reduceLeDiff, Nat.reduceEqDiff, true_and, and_true, List.length_nil, List.length_cons, or_true, true_or, or_false, false_or, Option.some.injEq, Sum.inl.injEq, Sum.inr.injEq, exists_eq_left', exists_eq_left, Int.reduceLE, Int.reduceLT, Int.reduceNeg, Int.reduceAdd, Int.reduceMul, Int.reduceSub, Int.reduceToNat, inR, Nat.zero_ne_one, false_and, Nat.succ_ne_zero, reduceCtorEq, false_implies, true_implies, not_false_eq_true, not_true_eq_false, Int.reduceEq, KRE, C_Model_settle]
      repeat (first | refine ⟨by omega, ?_⟩ | refine ⟨fun _ _ => okt_nn (by omega), ?_⟩)
      try (first | (show _ ≤ _; omega) | (show _ < _; omega))
      refine (Model_whyNot_ok h0 hu).mono (fun x M1 z => ?_)
      obtain ⟨rfl, -, -, F1⟩ := z
      have rs := rsM_fr rsM_0 F1 (fun b j z => by unfold fitP at z; unfold scrM; omega)
      have wi := why_in (bestO T Y lap n u) bnd mrg
      have wj : 0 ≤ whyU T Y lap bnd mrg n u ∧ whyU T Y lap bnd mrg n u ≤ 4 := by
        unfold whyU
        split
        · omega
        · split <;> omega
      have e := eq_false (show ¬ whyU T Y lap bnd mrg n u = 0 by omega)
      try simp (maxSteps := 2000000) only [↓reduceIte, wp_eq, wpd_eq, kont_eq, STP1, STP2, STP3, STP4, STP5, konM_eq, AMK, CZ, Option.map, List.getElem?_cons_zero, List.getElem?_cons_succ, List.mem_cons, List.not_mem_nil, if_false, if_true, Nat.reduceAdd, Nat.reduceLT, Nat.reduceLeDiff, Nat.reduceEqDiff, true_and, and_true, List.length_nil, List.length_cons, or_true, true_or, or_false, false_or, Option.some.injEq, Sum.inl.injEq, Sum.inr.injEq, exists_eq_left', exists_eq_left, Int.reduceLE, Int.reduceLT, Int.reduceNeg, Int.reduceAdd, Int.reduceMul, Int.reduceSub, Int.reduceToNat, inR, Nat.zero_ne_one, false_and, Nat.succ_ne_zero, reduceCtorEq, false_implies, true_implies, not_false_eq_true, not_true_eq_false, Int.reduceEq, KRE, C_Model_settle, e]
      repeat (first | refine ⟨by omega, ?_⟩ | refine ⟨fun _ _ => okt_nn (by omega), ?_⟩)
      try (first | (show _ ≤ _; omega) | (show _ < _; omega))
      exact (F M1).eq ⟨rfl, M1, rs, rfl⟩
    · rw [if_pos c2]
      try simp (maxSteps := 2000000) only [↓reduceIte, wp_eq, wpd_eq, kont_eq, STP1, STP2, STP3, STP4, STP5, konM_eq, AMK, CZ, Option.map, List.getElem?_cons_zero, List.getElem?_cons_succ, List.mem_cons, List.not_mem_nil, if_false, if_true, Nat.reduceAdd, Nat.reduceLT, Nat.reduceLeDiff, Nat.reduceEqDiff, true_and, and_true, List.length_nil, List.length_cons, or_true, true_or, or_false, false_or, Option.some.injEq, Sum.inl.injEq, Sum.inr.injEq, exists_eq_left', exists_eq_left, Int.reduceLE, Int.reduceLT, Int.reduceNeg, Int.reduceAdd, Int.reduceMul, Int.reduceSub, Int.reduceToNat, inR, Nat.zero_ne_one, false_and, Nat.succ_ne_zero, reduceCtorEq, false_implies, true_implies, not_false_eq_true, not_true_eq_false, Int.reduceEq, KRE, C_Model_settle]
      repeat (first | refine ⟨by omega, ?_⟩ | refine ⟨fun _ _ => okt_nn (by omega), ?_⟩)
      try (first | (show _ ≤ _; omega) | (show _ < _; omega))
      exact (F _).eq ⟨rfl, _, rsM_0, rfl⟩
  · rw [if_neg c1]
    try simp (maxSteps := 2000000) only [↓reduceIte, wp_eq, wpd_eq, kont_eq, STP1, STP2, STP3, STP4, STP5, konM_eq, AMK, CZ, Option.map, List.getElem?_cons_zero, List.getElem?_cons_succ, List.mem_cons, List.not_mem_nil, if_false, if_true, Nat.reduceAdd, Nat.reduceLT, Nat.reduceLeDiff, Nat.reduceEqDiff, true_and, and_true, List.length_nil, List.length_cons, or_true, true_or, or_false, false_or, Option.some.injEq, Sum.inl.injEq, Sum.inr.injEq, exists_eq_left', exists_eq_left, Int.reduceLE, Int.reduceLT, Int.reduceNeg, Int.reduceAdd, Int.reduceMul, Int.reduceSub, Int.reduceToNat, inR, Nat.zero_ne_one, false_and, Nat.succ_ne_zero, reduceCtorEq, false_implies, true_implies, not_false_eq_true, not_true_eq_false, Int.reduceEq, KRE, C_Model_settle]
    repeat (first | refine ⟨by omega, ?_⟩ | refine ⟨fun _ _ => okt_nn (by omega), ?_⟩)
    try (first | (show _ ≤ _; omega) | (show _ < _; omega))
    exact (F _).eq ⟨rfl, _, rsM_0, rfl⟩
set_option maxHeartbeats 600000 in
set_option maxRecDepth 20000 in
theorem Mgrow_ok {c : Nat} (h : mdl M n T Y lap bnd mrg) (hl : ldM M) (hc : gwC T lap bnd mrg n Y c) (c0 : 0 < c) : CallI m_Model_grow [.inr 154] M (fun x M' => x = c ∧ ∃ M2, rsM M 0 M2 ∧ FrP growP (mYM (mKeep M2) (gwY T lap bnd mrg n Y c) n) M') := by
  have h0 : mdl (mset M 154 1 0) n T Y lap bnd mrg := mdl_fr h scr_0 scr_mdl
  have n8 := h.1.2
  have hb := h.2.2.1.1.2
  have sepg : ∀ b j, grownP b j → b ≠ 156 ∧ b ≠ 158 := fun b j z => by unfold grownP growP at z; omega
  refine callP_of (by decide) (by decide) (Nat.le_of_ble_eq_true rfl) (wpm_of (cuts := []) (by decide) 60 _ _ _ _ ?_)
  rw [show lM m_Model_grow = 1 from rfl]
  simp (maxSteps := 2000000) only [↓reduceIte, wp_eq, wpd_eq, kont_eq, STP1, STP2, STP3, STP4, STP5, konM_eq, AMK, CZ, Option.map, List.getElem?_cons_zero, List.getElem?_cons_succ, List.mem_cons, List.not_mem_nil, if_false, if_true, Nat.reduceAdd, Nat.reduceLT, Nat.reduceLeDiff, Nat.reduceEqDiff, true_and, and_true, List.length_nil, List.length_cons, or_true, true_or, or_false, false_or, Option.some.injEq, Sum.inl.injEq, Sum.inr.injEq, exists_eq_left', exists_eq_left, Int.reduceLE, Int.reduceLT, Int.reduceNeg, Int.reduceAdd, Int.reduceMul, Int.reduceSub, Int.reduceToNat, inR, Nat.zero_ne_one, false_and, Nat.succ_ne_zero, reduceCtorEq, false_implies, true_implies, not_false_eq_true, not_true_eq_false, Int.reduceEq, KRE, C_Model_grow, FM]
  refine (Model_tellGrown_ok h0).mono (fun M1 z => ?_)
  obtain ⟨d, hd, g1, g2, F1⟩ := z
  obtain rfl := gwC_u g1 hc
  have rs := rsM_fr rsM_0 F1 (fun b j z => by unfold grownP growP at z; unfold scrM; omega)
  have h1 := mdl_fr h0 F1 sepg
  have l1 : ldM M1 := by
    have e : M1 154 58 = M 154 58 := (F1 _ _ (by unfold grownP growP; omega)).trans (by simp [mset])
    unfold ldM
    rw [e]
    exact hl
  have e55 := g2.1
  have d' := eq_false (show ¬ (d : Int) = 0 by omega)
  try simp (maxSteps := 2000000) only [↓reduceIte, wp_eq, wpd_eq, kont_eq, STP1, STP2, STP3, STP4, STP5, konM_eq, AMK, CZ, Option.map, List.getElem?_cons_zero, List.getElem?_cons_succ, List.mem_cons, List.not_mem_nil, if_false, if_true, Nat.reduceAdd, Nat.reduceLT, Nat.reduceLeDiff, Nat.reduceEqDiff, true_and, and_true, List.length_nil, List.length_cons, or_true, true_or, or_false, false_or, Option.some.injEq, Sum.inl.injEq, Sum.inr.injEq, exists_eq_left', exists_eq_left, Int.reduceLE, Int.reduceLT, Int.reduceNeg, Int.reduceAdd, Int.reduceMul, Int.reduceSub, Int.reduceToNat, inR, Nat.zero_ne_one, false_and, Nat.succ_ne_zero, reduceCtorEq, false_implies, true_implies, not_false_eq_true, not_true_eq_false, Int.reduceEq, KRE, C_Model_grow, FM, e55, d']
  repeat (first | refine ⟨by omega, ?_⟩ | refine ⟨fun _ _ => okt_nn (by omega), ?_⟩)
  try (first | (show _ ≤ _; omega) | (show _ < _; omega))
  refine (Model_keep_ok l1.1 l1.2).eq ?_
  try simp (maxSteps := 2000000) only [↓reduceIte, wp_eq, wpd_eq, kont_eq, STP1, STP2, STP3, STP4, STP5, konM_eq, AMK, CZ, Option.map, List.getElem?_cons_zero, List.getElem?_cons_succ, List.mem_cons, List.not_mem_nil, if_false, if_true, Nat.reduceAdd, Nat.reduceLT, Nat.reduceLeDiff, Nat.reduceEqDiff, true_and, and_true, List.length_nil, List.length_cons, or_true, true_or, or_false, false_or, Option.some.injEq, Sum.inl.injEq, Sum.inr.injEq, exists_eq_left', exists_eq_left, Int.reduceLE, Int.reduceLT, Int.reduceNeg, Int.reduceAdd, Int.reduceMul, Int.reduceSub, Int.reduceToNat, inR, Nat.zero_ne_one, false_and, Nat.succ_ne_zero, reduceCtorEq, false_implies, true_implies, not_false_eq_true, not_true_eq_false, Int.reduceEq, KRE, C_Model_grow]
  have h2 := mdl_keep h1
  refine (Model_bound_ok h2.2.2.1).eq ?_
  try simp (maxSteps := 2000000) only [↓reduceIte, wp_eq, wpd_eq, kont_eq, STP1, STP2, STP3, STP4, STP5, konM_eq, AMK, CZ, Option.map, List.getElem?_cons_zero, List.getElem?_cons_succ, List.mem_cons, List.not_mem_nil, if_false, if_true, Nat.reduceAdd, Nat.reduceLT, Nat.reduceLeDiff, Nat.reduceEqDiff, true_and, and_true, List.length_nil, List.length_cons, or_true, true_or, or_false, false_or, Option.some.injEq, Sum.inl.injEq, Sum.inr.injEq, exists_eq_left', exists_eq_left, Int.reduceLE, Int.reduceLT, Int.reduceNeg, Int.reduceAdd, Int.reduceMul, Int.reduceSub, Int.reduceToNat, inR, Nat.zero_ne_one, false_and, Nat.succ_ne_zero, reduceCtorEq, false_implies, true_implies, not_false_eq_true, not_true_eq_false, Int.reduceEq, KRE, C_Model_grow]
  refine (Model_growNow_ok h2 (by omega)).mono (fun M3 z => ?_)
  obtain ⟨d2, -, g3, g4, F3⟩ := z
  obtain rfl := gwC_u g3 hc
  have e552 := g4.1
  try simp (maxSteps := 2000000) only [↓reduceIte, wp_eq, wpd_eq, kont_eq, STP1, STP2, STP3, STP4, STP5, konM_eq, AMK, CZ, Option.map, List.getElem?_cons_zero, List.getElem?_cons_succ, List.mem_cons, List.not_mem_nil, if_false, if_true, Nat.reduceAdd, Nat.reduceLT, Nat.reduceLeDiff, Nat.reduceEqDiff, true_and, and_true, List.length_nil, List.length_cons, or_true, true_or, or_false, false_or, Option.some.injEq, Sum.inl.injEq, Sum.inr.injEq, exists_eq_left', exists_eq_left, Int.reduceLE, Int.reduceLT, Int.reduceNeg, Int.reduceAdd, Int.reduceMul, Int.reduceSub, Int.reduceToNat, inR, Nat.zero_ne_one, false_and, Nat.succ_ne_zero, reduceCtorEq, false_implies, true_implies, not_false_eq_true, not_true_eq_false, Int.reduceEq, KRE, C_Model_grow, FM, e552]
  exact ⟨M1, rs, F3⟩
set_option maxHeartbeats 600000 in
set_option maxRecDepth 20000 in
theorem Mgrow_no (h : mdl M n T Y lap bnd mrg) (hc : gwC T lap bnd mrg n Y 0) : CallI m_Model_grow [.inr 154] M (fun x M' => x = -1 ∧ ∃ M2, rsM M 0 M2 ∧ M' = mRefM M2 1) := by
  have h0 : mdl (mset M 154 1 0) n T Y lap bnd mrg := mdl_fr h scr_0 scr_mdl
  refine callP_of (by decide) (by decide) (Nat.le_of_ble_eq_true rfl) (wpm_of (cuts := []) (by decide) 60 _ _ _ _ ?_)
  rw [show lM m_Model_grow = 1 from rfl]
  simp (maxSteps := 2000000) only [↓reduceIte, wp_eq, wpd_eq, kont_eq, STP1, STP2, STP3, STP4, STP5, konM_eq, AMK, CZ, Option.map, List.getElem?_cons_zero, List.getElem?_cons_succ, List.mem_cons, List.not_mem_nil, if_false, if_true, Nat.reduceAdd, Nat.reduceLT, Nat.reduceLeDiff, Nat.reduceEqDiff, true_and, and_true, List.length_nil, List.length_cons, or_true, true_or, or_false, false_or, Option.some.injEq, Sum.inl.injEq, Sum.inr.injEq, exists_eq_left', exists_eq_left, Int.reduceLE, Int.reduceLT, Int.reduceNeg, Int.reduceAdd, Int.reduceMul, Int.reduceSub, Int.reduceToNat, inR, Nat.zero_ne_one, false_and, Nat.succ_ne_zero, reduceCtorEq, false_implies, true_implies, not_false_eq_true, not_true_eq_false, Int.reduceEq, KRE, C_Model_grow, FM]
  refine (Model_tellGrown_ok h0).mono (fun M1 z => ?_)
  obtain ⟨d, hd, g1, g2, F1⟩ := z
  obtain rfl := gwC_u g1 hc
  have rs := rsM_fr rsM_0 F1 (fun b j z => by unfold grownP growP at z; unfold scrM; omega)
  have e55 := g2.1
  try simp (maxSteps := 2000000) only [↓reduceIte, wp_eq, wpd_eq, kont_eq, STP1, STP2, STP3, STP4, STP5, konM_eq, AMK, CZ, Option.map, List.getElem?_cons_zero, List.getElem?_cons_succ, List.mem_cons, List.not_mem_nil, if_false, if_true, Nat.reduceAdd, Nat.reduceLT, Nat.reduceLeDiff, Nat.reduceEqDiff, true_and, and_true, List.length_nil, List.length_cons, or_true, true_or, or_false, false_or, Option.some.injEq, Sum.inl.injEq, Sum.inr.injEq, exists_eq_left', exists_eq_left, Int.reduceLE, Int.reduceLT, Int.reduceNeg, Int.reduceAdd, Int.reduceMul, Int.reduceSub, Int.reduceToNat, inR, Nat.zero_ne_one, false_and, Nat.succ_ne_zero, reduceCtorEq, false_implies, true_implies, not_false_eq_true, not_true_eq_false, Int.reduceEq, KRE, C_Model_grow, FM, e55, Int.natCast_zero]
  repeat (first | refine ⟨by omega, ?_⟩ | refine ⟨fun _ _ => okt_nn (by omega), ?_⟩)
  try (first | (show _ ≤ _; omega) | (show _ < _; omega))
  exact (Model_refuse_ok (k := 1) (by omega)).eq ⟨rfl, M1, rs, rfl⟩
set_option maxHeartbeats 600000 in
set_option maxRecDepth 20000 in
theorem Mmend_G {t i : Nat} (h : mdl M n T Y lap bnd mrg) (hl : ldM M) (ht : t < n) (hY : Y t = -1) (hg : canG (T t) i) : CallI m_Model_mend [.inr 154, .inl (t : Int), .inl (i : Int), .inl 1] M (fun x M' => x = (T t).2.1 + 1 ∧ M' = mMdG (mKeep (c0M M)) t (T t).2.1.toNat i) := by
  have h0 : mdl (mset M 154 1 0) n T Y lap bnd mrg := mdl_fr h scr_0 scr_mdl
  have n8 := h.1.2
  have g := mdl_t h ht
  have o1 := g.2.2.2.1.1
  obtain ⟨q1, q2, q3⟩ := hg
  have hk := c0M_k hl
  have hn : mKeep (c0M M) 158 (30 * t) = ((T t).2.1.toNat : Nat) := by
    rw [mKeep_o (by omega) (by omega)]
    have := g.1.2
    simp [mset]
    omega
  refine callP_of (by decide) (by decide) (Nat.le_of_ble_eq_true rfl) (wpm_of (cuts := []) (by decide) 60 _ _ _ _ ?_)
  rw [show lM m_Model_mend = 4 from rfl]
  simp (maxSteps := 2000000) only [↓reduceIte, wp_eq, wpd_eq, kont_eq, STP1, STP2, STP3, STP4, STP5, konM_eq, AMK, CZ, Option.map, List.getElem?_cons_zero, List.getElem?_cons_succ, List.mem_cons, List.not_mem_nil, if_false, if_true, Nat.reduceAdd, Nat.reduceLT, Nat.reduceLeDiff, Nat.reduceEqDiff, true_and, and_true, List.length_nil, List.length_cons, or_true, true_or, or_false, false_or, Option.some.injEq, Sum.inl.injEq, Sum.inr.injEq, exists_eq_left', exists_eq_left, Int.reduceLE, Int.reduceLT, Int.reduceNeg, Int.reduceAdd, Int.reduceMul, Int.reduceSub, Int.reduceToNat, inR, Nat.zero_ne_one, false_and, Nat.succ_ne_zero, reduceCtorEq, false_implies, true_implies, not_false_eq_true, not_true_eq_false, Int.reduceEq, KRE, C_Model_mend, FM]
  refine (isTimber_y h0 ht).eq ?_
  try simp (maxSteps := 2000000) only [↓reduceIte, wp_eq, wpd_eq, kont_eq, STP1, STP2, STP3, STP4, STP5, konM_eq, AMK, CZ, Option.map, List.getElem?_cons_zero, List.getElem?_cons_succ, List.mem_cons, List.not_mem_nil, if_false, if_true, Nat.reduceAdd, Nat.reduceLT, Nat.reduceLeDiff, Nat.reduceEqDiff, true_and, and_true, List.length_nil, List.length_cons, or_true, true_or, or_false, false_or, Option.some.injEq, Sum.inl.injEq, Sum.inr.injEq, exists_eq_left', exists_eq_left, Int.reduceLE, Int.reduceLT, Int.reduceNeg, Int.reduceAdd, Int.reduceMul, Int.reduceSub, Int.reduceToNat, inR, Nat.zero_ne_one, false_and, Nat.succ_ne_zero, reduceCtorEq, false_implies, true_implies, not_false_eq_true, not_true_eq_false, Int.reduceEq, KRE, C_Model_mend]
  repeat (first | refine ⟨by omega, ?_⟩ | refine ⟨fun _ _ => okt_nn (by omega), ?_⟩)
  try (first | (show _ ≤ _; omega) | (show _ < _; omega))
  refine (dated_m h0 ht).eq ?_
  rw [if_neg (fun z => z hY)]
  try simp (maxSteps := 2000000) only [↓reduceIte, wp_eq, wpd_eq, kont_eq, STP1, STP2, STP3, STP4, STP5, konM_eq, AMK, CZ, Option.map, List.getElem?_cons_zero, List.getElem?_cons_succ, List.mem_cons, List.not_mem_nil, if_false, if_true, Nat.reduceAdd, Nat.reduceLT, Nat.reduceLeDiff, Nat.reduceEqDiff, true_and, and_true, List.length_nil, List.length_cons, or_true, true_or, or_false, false_or, Option.some.injEq, Sum.inl.injEq, Sum.inr.injEq, exists_eq_left', exists_eq_left, Int.reduceLE, Int.reduceLT, Int.reduceNeg, Int.reduceAdd, Int.reduceMul, Int.reduceSub, Int.reduceToNat, inR, Nat.zero_ne_one, false_and, Nat.succ_ne_zero, reduceCtorEq, false_implies, true_implies, not_false_eq_true, not_true_eq_false, Int.reduceEq, KRE, C_Model_mend]
  repeat (first | refine ⟨by omega, ?_⟩ | refine ⟨fun _ _ => okt_nn (by omega), ?_⟩)
  try (first | (show _ ≤ _; omega) | (show _ < _; omega))
  refine (canMend_G (r := (i : Int)) h0 ht ⟨by omega, by omega⟩).mono (fun y M2 z => ?_)
  obtain ⟨z, rfl⟩ := z
  rcases z with ⟨rfl, -⟩ | ⟨-, z⟩
  · try simp (maxSteps := 2000000) only [↓reduceIte, wp_eq, wpd_eq, kont_eq, STP1, STP2, STP3, STP4, STP5, konM_eq, AMK, CZ, Option.map, List.getElem?_cons_zero, List.getElem?_cons_succ, List.mem_cons, List.not_mem_nil, if_false, if_true, Nat.reduceAdd, Nat.reduceLT, Nat.reduceLeDiff, Nat.reduceEqDiff, true_and, and_true, List.length_nil, List.length_cons, or_true, true_or, or_false, false_or, Option.some.injEq, Sum.inl.injEq, Sum.inr.injEq, exists_eq_left', exists_eq_left, Int.reduceLE, Int.reduceLT, Int.reduceNeg, Int.reduceAdd, Int.reduceMul, Int.reduceSub, Int.reduceToNat, inR, Nat.zero_ne_one, false_and, Nat.succ_ne_zero, reduceCtorEq, false_implies, true_implies, not_false_eq_true, not_true_eq_false, Int.reduceEq, KRE, C_Model_mend]
    repeat (first | refine ⟨by omega, ?_⟩ | refine ⟨fun _ _ => okt_nn (by omega), ?_⟩)
    try (first | (show _ ≤ _; omega) | (show _ < _; omega))
    refine (Model_keep_ok hk.1 hk.2).eq ?_
    try simp (maxSteps := 2000000) only [↓reduceIte, wp_eq, wpd_eq, kont_eq, STP1, STP2, STP3, STP4, STP5, konM_eq, AMK, CZ, Option.map, List.getElem?_cons_zero, List.getElem?_cons_succ, List.mem_cons, List.not_mem_nil, if_false, if_true, Nat.reduceAdd, Nat.reduceLT, Nat.reduceLeDiff, Nat.reduceEqDiff, true_and, and_true, List.length_nil, List.length_cons, or_true, true_or, or_false, false_or, Option.some.injEq, Sum.inl.injEq, Sum.inr.injEq, exists_eq_left', exists_eq_left, Int.reduceLE, Int.reduceLT, Int.reduceNeg, Int.reduceAdd, Int.reduceMul, Int.reduceSub, Int.reduceToNat, inR, Nat.zero_ne_one, false_and, Nat.succ_ne_zero, reduceCtorEq, false_implies, true_implies, not_false_eq_true, not_true_eq_false, Int.reduceEq, KRE, C_Model_mend]
    refine (Model_mendNow_G (by omega) hn (by omega) (by omega)).eq ?_
    try simp (maxSteps := 2000000) only [↓reduceIte, wp_eq, wpd_eq, kont_eq, STP1, STP2, STP3, STP4, STP5, konM_eq, AMK, CZ, Option.map, List.getElem?_cons_zero, List.getElem?_cons_succ, List.mem_cons, List.not_mem_nil, if_false, if_true, Nat.reduceAdd, Nat.reduceLT, Nat.reduceLeDiff, Nat.reduceEqDiff, true_and, and_true, List.length_nil, List.length_cons, or_true, true_or, or_false, false_or, Option.some.injEq, Sum.inl.injEq, Sum.inr.injEq, exists_eq_left', exists_eq_left, Int.reduceLE, Int.reduceLT, Int.reduceNeg, Int.reduceAdd, Int.reduceMul, Int.reduceSub, Int.reduceToNat, inR, Nat.zero_ne_one, false_and, Nat.succ_ne_zero, reduceCtorEq, false_implies, true_implies, not_false_eq_true, not_true_eq_false, Int.reduceEq, KRE, C_Model_mend]
    refine (of_k (by omega) 0 (by omega) rfl).eq ?_
    try simp (maxSteps := 2000000) only [↓reduceIte, wp_eq, wpd_eq, kont_eq, STP1, STP2, STP3, STP4, STP5, konM_eq, AMK, CZ, Option.map, List.getElem?_cons_zero, List.getElem?_cons_succ, List.mem_cons, List.not_mem_nil, if_false, if_true, Nat.reduceAdd, Nat.reduceLT, Nat.reduceLeDiff, Nat.reduceEqDiff, true_and, and_true, List.length_nil, List.length_cons, or_true, true_or, or_false, false_or, Option.some.injEq, Sum.inl.injEq, Sum.inr.injEq, exists_eq_left', exists_eq_left, Int.reduceLE, Int.reduceLT, Int.reduceNeg, Int.reduceAdd, Int.reduceMul, Int.reduceSub, Int.reduceToNat, inR, Nat.zero_ne_one, false_and, Nat.succ_ne_zero, reduceCtorEq, false_implies, true_implies, not_false_eq_true, not_true_eq_false, Int.reduceEq, KRE, C_Model_mend]
    simp [mMdG]
    omega
  · exact absurd ⟨q1, q2, q3⟩ z
set_option maxHeartbeats 600000 in
set_option maxRecDepth 20000 in
theorem Mmend_L {t i : Nat} (h : mdl M n T Y lap bnd mrg) (hl : ldM M) (ht : t < n) (hY : Y t = -1) (hg : canL (T t) i) : CallI m_Model_mend [.inr 154, .inl (t : Int), .inl (i : Int), .inl 0] M (fun x M' => x = (T t).2.1 - 1 ∧ M' = mMdL (mKeep (c0M M)) t (T t).2.1.toNat i) := by
  have h0 : mdl (mset M 154 1 0) n T Y lap bnd mrg := mdl_fr h scr_0 scr_mdl
  have n8 := h.1.2
  have g := mdl_t h ht
  have o1 := g.2.2.2.1.1
  have hg' := hg
  obtain ⟨q1, q2, q3, q4⟩ := hg
  have hk := c0M_k hl
  have hn : mKeep (c0M M) 158 (30 * t) = ((T t).2.1.toNat : Nat) := by
    rw [mKeep_o (by omega) (by omega)]
    have := g.1.2
    simp [mset]
    omega
  refine callP_of (by decide) (by decide) (Nat.le_of_ble_eq_true rfl) (wpm_of (cuts := []) (by decide) 60 _ _ _ _ ?_)
  rw [show lM m_Model_mend = 4 from rfl]
  simp (maxSteps := 2000000) only [↓reduceIte, wp_eq, wpd_eq, kont_eq, STP1, STP2, STP3, STP4, STP5, konM_eq, AMK, CZ, Option.map, List.getElem?_cons_zero, List.getElem?_cons_succ, List.mem_cons, List.not_mem_nil, if_false, if_true, Nat.reduceAdd, Nat.reduceLT, Nat.reduceLeDiff, Nat.reduceEqDiff, true_and, and_true, List.length_nil, List.length_cons, or_true, true_or, or_false, false_or, Option.some.injEq, Sum.inl.injEq, Sum.inr.injEq, exists_eq_left', exists_eq_left, Int.reduceLE, Int.reduceLT, Int.reduceNeg, Int.reduceAdd, Int.reduceMul, Int.reduceSub, Int.reduceToNat, inR, Nat.zero_ne_one, false_and, Nat.succ_ne_zero, reduceCtorEq, false_implies, true_implies, not_false_eq_true, not_true_eq_false, Int.reduceEq, KRE, C_Model_mend, FM]
  refine (isTimber_y h0 ht).eq ?_
  try simp (maxSteps := 2000000) only [↓reduceIte, wp_eq, wpd_eq, kont_eq, STP1, STP2, STP3, STP4, STP5, konM_eq, AMK, CZ, Option.map, List.getElem?_cons_zero, List.getElem?_cons_succ, List.mem_cons, List.not_mem_nil, if_false, if_true, Nat.reduceAdd, Nat.reduceLT, Nat.reduceLeDiff, Nat.reduceEqDiff, true_and, and_true, List.length_nil, List.length_cons, or_true, true_or, or_false, false_or, Option.some.injEq, Sum.inl.injEq, Sum.inr.injEq, exists_eq_left', exists_eq_left, Int.reduceLE, Int.reduceLT, Int.reduceNeg, Int.reduceAdd, Int.reduceMul, Int.reduceSub, Int.reduceToNat, inR, Nat.zero_ne_one, false_and, Nat.succ_ne_zero, reduceCtorEq, false_implies, true_implies, not_false_eq_true, not_true_eq_false, Int.reduceEq, KRE, C_Model_mend]
  repeat (first | refine ⟨by omega, ?_⟩ | refine ⟨fun _ _ => okt_nn (by omega), ?_⟩)
  try (first | (show _ ≤ _; omega) | (show _ < _; omega))
  refine (dated_m h0 ht).eq ?_
  rw [if_neg (fun z => z hY)]
  try simp (maxSteps := 2000000) only [↓reduceIte, wp_eq, wpd_eq, kont_eq, STP1, STP2, STP3, STP4, STP5, konM_eq, AMK, CZ, Option.map, List.getElem?_cons_zero, List.getElem?_cons_succ, List.mem_cons, List.not_mem_nil, if_false, if_true, Nat.reduceAdd, Nat.reduceLT, Nat.reduceLeDiff, Nat.reduceEqDiff, true_and, and_true, List.length_nil, List.length_cons, or_true, true_or, or_false, false_or, Option.some.injEq, Sum.inl.injEq, Sum.inr.injEq, exists_eq_left', exists_eq_left, Int.reduceLE, Int.reduceLT, Int.reduceNeg, Int.reduceAdd, Int.reduceMul, Int.reduceSub, Int.reduceToNat, inR, Nat.zero_ne_one, false_and, Nat.succ_ne_zero, reduceCtorEq, false_implies, true_implies, not_false_eq_true, not_true_eq_false, Int.reduceEq, KRE, C_Model_mend]
  repeat (first | refine ⟨by omega, ?_⟩ | refine ⟨fun _ _ => okt_nn (by omega), ?_⟩)
  try (first | (show _ ≤ _; omega) | (show _ < _; omega))
  refine (canMend_L (r := (i : Int)) h0 ht ⟨by omega, by omega⟩).mono (fun y M2 z => ?_)
  obtain ⟨z, rfl⟩ := z
  rcases z with ⟨rfl, -⟩ | ⟨-, z⟩
  · try simp (maxSteps := 2000000) only [↓reduceIte, wp_eq, wpd_eq, kont_eq, STP1, STP2, STP3, STP4, STP5, konM_eq, AMK, CZ, Option.map, List.getElem?_cons_zero, List.getElem?_cons_succ, List.mem_cons, List.not_mem_nil, if_false, if_true, Nat.reduceAdd, Nat.reduceLT, Nat.reduceLeDiff, Nat.reduceEqDiff, true_and, and_true, List.length_nil, List.length_cons, or_true, true_or, or_false, false_or, Option.some.injEq, Sum.inl.injEq, Sum.inr.injEq, exists_eq_left', exists_eq_left, Int.reduceLE, Int.reduceLT, Int.reduceNeg, Int.reduceAdd, Int.reduceMul, Int.reduceSub, Int.reduceToNat, inR, Nat.zero_ne_one, false_and, Nat.succ_ne_zero, reduceCtorEq, false_implies, true_implies, not_false_eq_true, not_true_eq_false, Int.reduceEq, KRE, C_Model_mend]
    repeat (first | refine ⟨by omega, ?_⟩ | refine ⟨fun _ _ => okt_nn (by omega), ?_⟩)
    try (first | (show _ ≤ _; omega) | (show _ < _; omega))
    refine (Model_keep_ok hk.1 hk.2).eq ?_
    try simp (maxSteps := 2000000) only [↓reduceIte, wp_eq, wpd_eq, kont_eq, STP1, STP2, STP3, STP4, STP5, konM_eq, AMK, CZ, Option.map, List.getElem?_cons_zero, List.getElem?_cons_succ, List.mem_cons, List.not_mem_nil, if_false, if_true, Nat.reduceAdd, Nat.reduceLT, Nat.reduceLeDiff, Nat.reduceEqDiff, true_and, and_true, List.length_nil, List.length_cons, or_true, true_or, or_false, false_or, Option.some.injEq, Sum.inl.injEq, Sum.inr.injEq, exists_eq_left', exists_eq_left, Int.reduceLE, Int.reduceLT, Int.reduceNeg, Int.reduceAdd, Int.reduceMul, Int.reduceSub, Int.reduceToNat, inR, Nat.zero_ne_one, false_and, Nat.succ_ne_zero, reduceCtorEq, false_implies, true_implies, not_false_eq_true, not_true_eq_false, Int.reduceEq, KRE, C_Model_mend]
    refine (Model_mendNow_L (by omega) hn (by omega) (by omega) (by omega)).eq ?_
    try simp (maxSteps := 2000000) only [↓reduceIte, wp_eq, wpd_eq, kont_eq, STP1, STP2, STP3, STP4, STP5, konM_eq, AMK, CZ, Option.map, List.getElem?_cons_zero, List.getElem?_cons_succ, List.mem_cons, List.not_mem_nil, if_false, if_true, Nat.reduceAdd, Nat.reduceLT, Nat.reduceLeDiff, Nat.reduceEqDiff, true_and, and_true, List.length_nil, List.length_cons, or_true, true_or, or_false, false_or, Option.some.injEq, Sum.inl.injEq, Sum.inr.injEq, exists_eq_left', exists_eq_left, Int.reduceLE, Int.reduceLT, Int.reduceNeg, Int.reduceAdd, Int.reduceMul, Int.reduceSub, Int.reduceToNat, inR, Nat.zero_ne_one, false_and, Nat.succ_ne_zero, reduceCtorEq, false_implies, true_implies, not_false_eq_true, not_true_eq_false, Int.reduceEq, KRE, C_Model_mend]
    refine (of_k (by omega) 0 (by omega) rfl).eq ?_
    try simp (maxSteps := 2000000) only [↓reduceIte, wp_eq, wpd_eq, kont_eq, STP1, STP2, STP3, STP4, STP5, konM_eq, AMK, CZ, Option.map, List.getElem?_cons_zero, List.getElem?_cons_succ, List.mem_cons, List.not_mem_nil, if_false, if_true, Nat.reduceAdd, Nat.reduceLT, Nat.reduceLeDiff, Nat.reduceEqDiff, true_and, and_true, List.length_nil, List.length_cons, or_true, true_or, or_false, false_or, Option.some.injEq, Sum.inl.injEq, Sum.inr.injEq, exists_eq_left', exists_eq_left, Int.reduceLE, Int.reduceLT, Int.reduceNeg, Int.reduceAdd, Int.reduceMul, Int.reduceSub, Int.reduceToNat, inR, Nat.zero_ne_one, false_and, Nat.succ_ne_zero, reduceCtorEq, false_implies, true_implies, not_false_eq_true, not_true_eq_false, Int.reduceEq, KRE, C_Model_mend]
    simp [mMdL]
    omega
  · exact absurd hg' z
set_option maxHeartbeats 600000 in
set_option maxRecDepth 20000 in
theorem Mmend_no {t r b : Int} (h : mdl M n T Y lap bnd mrg) (ht : inR t) (hr : inR r) (hb : b = 0 ∨ b = 1) (hx : ¬ (0 ≤ t ∧ t < n) ∨ Y t.toNat ≠ -1 ∨ ¬ (if b = 1 then canG (T t.toNat) r else canL (T t.toNat) r)) : CallI m_Model_mend [.inr 154, .inl t, .inl r, .inl b] M (fun x M' => x = -1 ∧ M' = mRefM (c0M M) 1) := by
  have h0 : mdl (mset M 154 1 0) n T Y lap bnd mrg := mdl_fr h scr_0 scr_mdl
  have F := (Model_refuse_ok (k := 1) (M := mset M 154 1 0) (by omega))
  refine callP_of (by decide) (by decide) (Nat.le_of_ble_eq_true rfl) (wpm_of (cuts := []) (by decide) 60 _ _ _ _ ?_)
  rw [show lM m_Model_mend = 4 from rfl]
  simp (maxSteps := 2000000) only [↓reduceIte, wp_eq, wpd_eq, kont_eq, STP1, STP2, STP3, STP4, STP5, konM_eq, AMK, CZ, Option.map, List.getElem?_cons_zero, List.getElem?_cons_succ, List.mem_cons, List.not_mem_nil, if_false, if_true, Nat.reduceAdd, Nat.reduceLT, Nat.reduceLeDiff, Nat.reduceEqDiff, true_and, and_true, List.length_nil, List.length_cons, or_true, true_or, or_false, false_or, Option.some.injEq, Sum.inl.injEq, Sum.inr.injEq, exists_eq_left', exists_eq_left, Int.reduceLE, Int.reduceLT, Int.reduceNeg, Int.reduceAdd, Int.reduceMul, Int.reduceSub, Int.reduceToNat, inR, Nat.zero_ne_one, false_and, Nat.succ_ne_zero, reduceCtorEq, false_implies, true_implies, not_false_eq_true, not_true_eq_false, Int.reduceEq, KRE, C_Model_mend, FM]
  refine (Model_isTimber_ok h0 ht).eq ?_
  by_cases c1 : 0 ≤ t ∧ t < n
  · rw [if_pos c1]
    obtain ⟨u, rfl⟩ : ∃ u : Nat, t = u := ⟨t.toNat, by omega⟩
    have hu : u < n := by omega
    rw [natT] at hx
    try simp (maxSteps := 2000000) only [↓reduceIte, wp_eq, wpd_eq, kont_eq, STP1, STP2, STP3, STP4, STP5, konM_eq, AMK, CZ, Option.map, List.getElem?_cons_zero, List.getElem?_cons_succ, List.mem_cons, List.not_mem_nil, if_false, if_true, Nat.reduceAdd, Nat.reduceLT, Nat.reduceLeDiff, Nat.reduceEqDiff, true_and, and_true, List.length_nil, List.length_cons, or_true, true_or, or_false, false_or, Option.some.injEq, Sum.inl.injEq, Sum.inr.injEq, exists_eq_left', exists_eq_left, Int.reduceLE, Int.reduceLT, Int.reduceNeg, Int.reduceAdd, Int.reduceMul, Int.reduceSub, Int.reduceToNat, inR, Nat.zero_ne_one, false_and, Nat.succ_ne_zero, reduceCtorEq, false_implies, true_implies, not_false_eq_true, not_true_eq_false, Int.reduceEq, KRE, C_Model_mend]
    repeat (first | refine ⟨by omega, ?_⟩ | refine ⟨fun _ _ => okt_nn (by omega), ?_⟩)
    try (first | (show _ ≤ _; omega) | (show _ < _; omega))
    refine (dated_m h0 hu).eq ?_
    by_cases c2 : Y u = -1
    · rw [if_neg (fun z => z c2)]
      try simp (maxSteps := 2000000) only [↓reduceIte, wp_eq, wpd_eq, kont_eq, STP1, STP2, STP3, STP4, STP5, konM_eq, AMK, CZ, Option.map, List.getElem?_cons_zero, List.getElem?_cons_succ, List.mem_cons, List.not_mem_nil, if_false, if_true, Nat.reduceAdd, Nat.reduceLT, Nat.reduceLeDiff, Nat.reduceEqDiff, true_and, and_true, List.length_nil, List.length_cons, or_true, true_or, or_false, false_or, Option.some.injEq, Sum.inl.injEq, Sum.inr.injEq, exists_eq_left', exists_eq_left, Int.reduceLE, Int.reduceLT, Int.reduceNeg, Int.reduceAdd, Int.reduceMul, Int.reduceSub, Int.reduceToNat, inR, Nat.zero_ne_one, false_and, Nat.succ_ne_zero, reduceCtorEq, false_implies, true_implies, not_false_eq_true, not_true_eq_false, Int.reduceEq, KRE, C_Model_mend]
      repeat (first | refine ⟨by omega, ?_⟩ | refine ⟨fun _ _ => okt_nn (by omega), ?_⟩)
      try (first | (show _ ≤ _; omega) | (show _ < _; omega))
      have hx' : ¬ (if b = 1 then canG (T u) r else canL (T u) r) := by
        rcases hx with hx | hx | hx
        · omega
        · exact absurd c2 hx
        · exact hx
      rcases hb with rfl | rfl
      · rw [if_neg (by omega)] at hx'
        refine (canMend_L (r := r) h0 hu hr).mono (fun y M2 z => ?_)
        obtain ⟨z, rfl⟩ := z
        rcases z with ⟨-, z⟩ | ⟨rfl, -⟩
        · exact absurd z hx'
        · try simp (maxSteps := 2000000) only [↓reduceIte, wp_eq, wpd_eq, kont_eq, STP1, STP2, STP3, STP4, STP5, konM_eq, AMK, CZ, Option.map, List.getElem?_cons_zero, List.getElem?_cons_succ, List.mem_cons, List.not_mem_nil, if_false, if_true, Nat.reduceAdd, Nat.reduceLT, Nat.reduceLeDiff, Nat.reduceEqDiff, true_and, and_true, List.length_nil, List.length_cons, or_true, true_or, or_false, false_or, Option.some.injEq, Sum.inl.injEq, Sum.inr.injEq, exists_eq_left', exists_eq_left, Int.reduceLE, Int.reduceLT, Int.reduceNeg, Int.reduceAdd, Int.reduceMul, Int.reduceSub, Int.reduceToNat, inR, Nat.zero_ne_one, false_and, Nat.succ_ne_zero, reduceCtorEq, false_implies, true_implies, not_false_eq_true, not_true_eq_false, Int.reduceEq, KRE, C_Model_mend]
          repeat (first | refine ⟨by omega, ?_⟩ | refine ⟨fun _ _ => okt_nn (by omega), ?_⟩)
          try (first | (show _ ≤ _; omega) | (show _ < _; omega))
          exact F.eq ⟨rfl, rfl⟩
      · rw [if_pos rfl] at hx'
        refine (canMend_G (r := r) h0 hu hr).mono (fun y M2 z => ?_)
        obtain ⟨z, rfl⟩ := z
        rcases z with ⟨-, z⟩ | ⟨rfl, -⟩
        · exact absurd z hx'
        · try simp (maxSteps := 2000000) only [↓reduceIte, wp_eq, wpd_eq, kont_eq, STP1, STP2, STP3, STP4, STP5, konM_eq, AMK, CZ, Option.map, List.getElem?_cons_zero, List.getElem?_cons_succ, List.mem_cons, List.not_mem_nil, if_false, if_true, Nat.reduceAdd, Nat.reduceLT, Nat.reduceLeDiff, Nat.reduceEqDiff, true_and, and_true, List.length_nil, List.length_cons, or_true, true_or, or_false, false_or, Option.some.injEq, Sum.inl.injEq, Sum.inr.injEq, exists_eq_left', exists_eq_left, Int.reduceLE, Int.reduceLT, Int.reduceNeg, Int.reduceAdd, Int.reduceMul, Int.reduceSub, Int.reduceToNat, inR, Nat.zero_ne_one, false_and, Nat.succ_ne_zero, reduceCtorEq, false_implies, true_implies, not_false_eq_true, not_true_eq_false, Int.reduceEq, KRE, C_Model_mend]
          repeat (first | refine ⟨by omega, ?_⟩ | refine ⟨fun _ _ => okt_nn (by omega), ?_⟩)
          try (first | (show _ ≤ _; omega) | (show _ < _; omega))
          exact F.eq ⟨rfl, rfl⟩
    · rw [if_pos c2]
      try simp (maxSteps := 2000000) only [↓reduceIte, wp_eq, wpd_eq, kont_eq, STP1, STP2, STP3, STP4, STP5, konM_eq, AMK, CZ, Option.map, List.getElem?_cons_zero, List.getElem?_cons_succ, List.mem_cons, List.not_mem_nil, if_false, if_true, Nat.reduceAdd, Nat.reduceLT, Nat.reduceLeDiff, Nat.reduceEqDiff, true_and, and_true, List.length_nil, List.length_cons, or_true, true_or, or_false, false_or, Option.some.injEq, Sum.inl.injEq, Sum.inr.injEq, exists_eq_left', exists_eq_left, Int.reduceLE, Int.reduceLT, Int.reduceNeg, Int.reduceAdd, Int.reduceMul, Int.reduceSub, Int.reduceToNat, inR, Nat.zero_ne_one, false_and, Nat.succ_ne_zero, reduceCtorEq, false_implies, true_implies, not_false_eq_true, not_true_eq_false, Int.reduceEq, KRE, C_Model_mend]
      repeat (first | refine ⟨by omega, ?_⟩ | refine ⟨fun _ _ => okt_nn (by omega), ?_⟩)
      try (first | (show _ ≤ _; omega) | (show _ < _; omega))
      exact F.eq ⟨rfl, rfl⟩
  · rw [if_neg c1]
    try simp (maxSteps := 2000000) only [↓reduceIte, wp_eq, wpd_eq, kont_eq, STP1, STP2, STP3, STP4, STP5, konM_eq, AMK, CZ, Option.map, List.getElem?_cons_zero, List.getElem?_cons_succ, List.mem_cons, List.not_mem_nil, if_false, if_true, Nat.reduceAdd, Nat.reduceLT, Nat.reduceLeDiff, Nat.reduceEqDiff, true_and, and_true, List.length_nil, List.length_cons, or_true, true_or, or_false, false_or, Option.some.injEq, Sum.inl.injEq, Sum.inr.injEq, exists_eq_left', exists_eq_left, Int.reduceLE, Int.reduceLT, Int.reduceNeg, Int.reduceAdd, Int.reduceMul, Int.reduceSub, Int.reduceToNat, inR, Nat.zero_ne_one, false_and, Nat.succ_ne_zero, reduceCtorEq, false_implies, true_implies, not_false_eq_true, not_true_eq_false, Int.reduceEq, KRE, C_Model_mend]
    repeat (first | refine ⟨by omega, ?_⟩ | refine ⟨fun _ _ => okt_nn (by omega), ?_⟩)
    try (first | (show _ ≤ _; omega) | (show _ < _; omega))
    exact F.eq ⟨rfl, rfl⟩
set_option maxHeartbeats 600000 in
set_option maxRecDepth 20000 in
theorem Mdoubt_ok {t r : Nat} (h : mdl M n T Y lap bnd mrg) (hl : ldM M) (ht : t < n) (hr : (r : Int) < (T t).2.1) : CallI m_Model_doubt [.inr 154, .inl (t : Int), .inl (r : Int)] M (fun x M' => x = bAnd (bShr (bXor (M 158 (30 * t + 5)) (bShl 1 r)) r) 1 ∧ M' = mset (mKeep (c0M M)) 158 (30 * t + 5) (bXor (M 158 (30 * t + 5)) (bShl 1 r))) := by
  have h0 : mdl (mset M 154 1 0) n T Y lap bnd mrg := mdl_fr h scr_0 scr_mdl
  have n8 := h.1.2
  have hk := c0M_k hl
  have ix : (30 * (t : Int) + 5).toNat = 30 * t + 5 := by omega
  have e5 : mKeep (c0M M) 158 (30 * t + 5) = M 158 (30 * t + 5) := by
    rw [mKeep_o (by omega) (by omega)]
    simp [mset]
  refine callP_of (by decide) (by decide) (Nat.le_of_ble_eq_true rfl) (wpm_of (cuts := []) (by decide) 60 _ _ _ _ ?_)
  rw [show lM m_Model_doubt = 3 from rfl]
  simp (maxSteps := 2000000) only [↓reduceIte, wp_eq, wpd_eq, kont_eq, STP1, STP2, STP3, STP4, STP5, konM_eq, AMK, CZ, Option.map, List.getElem?_cons_zero, List.getElem?_cons_succ, List.mem_cons, List.not_mem_nil, if_false, if_true, Nat.reduceAdd, Nat.reduceLT, Nat.reduceLeDiff, Nat.reduceEqDiff, true_and, and_true, List.length_nil, List.length_cons, or_true, true_or, or_false, false_or, Option.some.injEq, Sum.inl.injEq, Sum.inr.injEq, exists_eq_left', exists_eq_left, Int.reduceLE, Int.reduceLT, Int.reduceNeg, Int.reduceAdd, Int.reduceMul, Int.reduceSub, Int.reduceToNat, inR, Nat.zero_ne_one, false_and, Nat.succ_ne_zero, reduceCtorEq, false_implies, true_implies, not_false_eq_true, not_true_eq_false, Int.reduceEq, KRE, C_Model_doubt, FM]
  refine (isRing_y h0 ht ⟨by omega, hr⟩).eq ?_
  try simp (maxSteps := 2000000) only [↓reduceIte, wp_eq, wpd_eq, kont_eq, STP1, STP2, STP3, STP4, STP5, konM_eq, AMK, CZ, Option.map, List.getElem?_cons_zero, List.getElem?_cons_succ, List.mem_cons, List.not_mem_nil, if_false, if_true, Nat.reduceAdd, Nat.reduceLT, Nat.reduceLeDiff, Nat.reduceEqDiff, true_and, and_true, List.length_nil, List.length_cons, or_true, true_or, or_false, false_or, Option.some.injEq, Sum.inl.injEq, Sum.inr.injEq, exists_eq_left', exists_eq_left, Int.reduceLE, Int.reduceLT, Int.reduceNeg, Int.reduceAdd, Int.reduceMul, Int.reduceSub, Int.reduceToNat, inR, Nat.zero_ne_one, false_and, Nat.succ_ne_zero, reduceCtorEq, false_implies, true_implies, not_false_eq_true, not_true_eq_false, Int.reduceEq, KRE, C_Model_doubt]
  repeat (first | refine ⟨by omega, ?_⟩ | refine ⟨fun _ _ => okt_nn (by omega), ?_⟩)
  try (first | (show _ ≤ _; omega) | (show _ < _; omega))
  refine (Model_keep_ok hk.1 hk.2).eq ?_
  try simp (maxSteps := 2000000) only [↓reduceIte, wp_eq, wpd_eq, kont_eq, STP1, STP2, STP3, STP4, STP5, konM_eq, AMK, CZ, Option.map, List.getElem?_cons_zero, List.getElem?_cons_succ, List.mem_cons, List.not_mem_nil, if_false, if_true, Nat.reduceAdd, Nat.reduceLT, Nat.reduceLeDiff, Nat.reduceEqDiff, true_and, and_true, List.length_nil, List.length_cons, or_true, true_or, or_false, false_or, Option.some.injEq, Sum.inl.injEq, Sum.inr.injEq, exists_eq_left', exists_eq_left, Int.reduceLE, Int.reduceLT, Int.reduceNeg, Int.reduceAdd, Int.reduceMul, Int.reduceSub, Int.reduceToNat, inR, Nat.zero_ne_one, false_and, Nat.succ_ne_zero, reduceCtorEq, false_implies, true_implies, not_false_eq_true, not_true_eq_false, Int.reduceEq, KRE, C_Model_doubt, FM, ix, e5]
  repeat (first | refine ⟨by omega, ?_⟩ | refine ⟨fun _ _ => okt_nn (by omega), ?_⟩)
  try (first | (show _ ≤ _; omega) | (show _ < _; omega))
  refine (of_k (by omega) 5 (by omega) rfl).eq ?_
  try simp (maxSteps := 2000000) only [↓reduceIte, wp_eq, wpd_eq, kont_eq, STP1, STP2, STP3, STP4, STP5, konM_eq, AMK, CZ, Option.map, List.getElem?_cons_zero, List.getElem?_cons_succ, List.mem_cons, List.not_mem_nil, if_false, if_true, Nat.reduceAdd, Nat.reduceLT, Nat.reduceLeDiff, Nat.reduceEqDiff, true_and, and_true, List.length_nil, List.length_cons, or_true, true_or, or_false, false_or, Option.some.injEq, Sum.inl.injEq, Sum.inr.injEq, exists_eq_left', exists_eq_left, Int.reduceLE, Int.reduceLT, Int.reduceNeg, Int.reduceAdd, Int.reduceMul, Int.reduceSub, Int.reduceToNat, inR, Nat.zero_ne_one, false_and, Nat.succ_ne_zero, reduceCtorEq, false_implies, true_implies, not_false_eq_true, not_true_eq_false, Int.reduceEq, KRE, C_Model_doubt]
  simp [mset]
set_option maxHeartbeats 600000 in
set_option maxRecDepth 20000 in
theorem Mdoubt_no {t r : Int} (h : mdl M n T Y lap bnd mrg) (ht : inR t) (hr : inR r) (hx : ¬ (0 ≤ t ∧ t < n) ∨ ¬ (0 ≤ r ∧ r < (T t.toNat).2.1)) : CallI m_Model_doubt [.inr 154, .inl t, .inl r] M (fun x M' => x = -1 ∧ M' = mRefM (c0M M) 1) := by
  have h0 : mdl (mset M 154 1 0) n T Y lap bnd mrg := mdl_fr h scr_0 scr_mdl
  refine callP_of (by decide) (by decide) (Nat.le_of_ble_eq_true rfl) (wpm_of (cuts := []) (by decide) 60 _ _ _ _ ?_)
  rw [show lM m_Model_doubt = 3 from rfl]
  simp (maxSteps := 2000000) only [↓reduceIte, wp_eq, wpd_eq, kont_eq, STP1, STP2, STP3, STP4, STP5, konM_eq, AMK, CZ, Option.map, List.getElem?_cons_zero, List.getElem?_cons_succ, List.mem_cons, List.not_mem_nil, if_false, if_true, Nat.reduceAdd, Nat.reduceLT, Nat.reduceLeDiff, Nat.reduceEqDiff, true_and, and_true, List.length_nil, List.length_cons, or_true, true_or, or_false, false_or, Option.some.injEq, Sum.inl.injEq, Sum.inr.injEq, exists_eq_left', exists_eq_left, Int.reduceLE, Int.reduceLT, Int.reduceNeg, Int.reduceAdd, Int.reduceMul, Int.reduceSub, Int.reduceToNat, inR, Nat.zero_ne_one, false_and, Nat.succ_ne_zero, reduceCtorEq, false_implies, true_implies, not_false_eq_true, not_true_eq_false, Int.reduceEq, KRE, C_Model_doubt, FM]
  refine (isRing_n h0 ht hr hx).eq ?_
  try simp (maxSteps := 2000000) only [↓reduceIte, wp_eq, wpd_eq, kont_eq, STP1, STP2, STP3, STP4, STP5, konM_eq, AMK, CZ, Option.map, List.getElem?_cons_zero, List.getElem?_cons_succ, List.mem_cons, List.not_mem_nil, if_false, if_true, Nat.reduceAdd, Nat.reduceLT, Nat.reduceLeDiff, Nat.reduceEqDiff, true_and, and_true, List.length_nil, List.length_cons, or_true, true_or, or_false, false_or, Option.some.injEq, Sum.inl.injEq, Sum.inr.injEq, exists_eq_left', exists_eq_left, Int.reduceLE, Int.reduceLT, Int.reduceNeg, Int.reduceAdd, Int.reduceMul, Int.reduceSub, Int.reduceToNat, inR, Nat.zero_ne_one, false_and, Nat.succ_ne_zero, reduceCtorEq, false_implies, true_implies, not_false_eq_true, not_true_eq_false, Int.reduceEq, KRE, C_Model_doubt]
  repeat (first | refine ⟨by omega, ?_⟩ | refine ⟨fun _ _ => okt_nn (by omega), ?_⟩)
  try (first | (show _ ≤ _; omega) | (show _ < _; omega))
  exact (Model_refuse_ok (k := 1) (M := mset M 154 1 0) (by omega)).eq ⟨rfl, rfl⟩
set_option maxHeartbeats 600000 in
set_option maxRecDepth 20000 in
theorem Mmove_ok {t : Nat} {a : Int} (h : mdl M n T Y lap bnd mrg) (hl : ldM M) (ht : t < n) (ha : 0 ≤ a ∧ a ≤ 3) (hne : M 158 (30 * t + 3) ≠ a) : CallI m_Model_move [.inr 154, .inl (t : Int), .inl a] M (fun x M' => x = M 158 (30 * t + 3) ∧ M' = mset (mKeep (c0M M)) 158 (30 * t + 3) a) := by
  have h0 : mdl (mset M 154 1 0) n T Y lap bnd mrg := mdl_fr h scr_0 scr_mdl
  have n8 := h.1.2
  have w3 := (mdl_t h ht).2.2.2.2.2.1.2.2.1
  have hk := c0M_k hl
  have ix : (30 * (t : Int) + 3).toNat = 30 * t + 3 := by omega
  have e3 : mset M 154 1 0 158 (30 * t + 3) = M 158 (30 * t + 3) := by simp [mset]
  have e4 : mKeep (mset M 154 1 0) 158 (30 * t + 3) = M 158 (30 * t + 3) := by
    rw [mKeep_o (by omega) (by omega)]
    exact e3
  have ne' := eq_false hne
  refine callP_of (by decide) (by decide) (Nat.le_of_ble_eq_true rfl) (wpm_of (cuts := []) (by decide) 60 _ _ _ _ ?_)
  rw [show lM m_Model_move = 4 from rfl]
  simp (maxSteps := 2000000) only [↓reduceIte, wp_eq, wpd_eq, kont_eq, STP1, STP2, STP3, STP4, STP5, konM_eq, AMK, CZ, Option.map, List.getElem?_cons_zero, List.getElem?_cons_succ, List.mem_cons, List.not_mem_nil, if_false, if_true, Nat.reduceAdd, Nat.reduceLT, Nat.reduceLeDiff, Nat.reduceEqDiff, true_and, and_true, List.length_nil, List.length_cons, or_true, true_or, or_false, false_or, Option.some.injEq, Sum.inl.injEq, Sum.inr.injEq, exists_eq_left', exists_eq_left, Int.reduceLE, Int.reduceLT, Int.reduceNeg, Int.reduceAdd, Int.reduceMul, Int.reduceSub, Int.reduceToNat, inR, Nat.zero_ne_one, false_and, Nat.succ_ne_zero, reduceCtorEq, false_implies, true_implies, not_false_eq_true, not_true_eq_false, Int.reduceEq, KRE, C_Model_move, FM]
  refine (isTimber_y h0 ht).eq ?_
  try simp (maxSteps := 2000000) only [↓reduceIte, wp_eq, wpd_eq, kont_eq, STP1, STP2, STP3, STP4, STP5, konM_eq, AMK, CZ, Option.map, List.getElem?_cons_zero, List.getElem?_cons_succ, List.mem_cons, List.not_mem_nil, if_false, if_true, Nat.reduceAdd, Nat.reduceLT, Nat.reduceLeDiff, Nat.reduceEqDiff, true_and, and_true, List.length_nil, List.length_cons, or_true, true_or, or_false, false_or, Option.some.injEq, Sum.inl.injEq, Sum.inr.injEq, exists_eq_left', exists_eq_left, Int.reduceLE, Int.reduceLT, Int.reduceNeg, Int.reduceAdd, Int.reduceMul, Int.reduceSub, Int.reduceToNat, inR, Nat.zero_ne_one, false_and, Nat.succ_ne_zero, reduceCtorEq, false_implies, true_implies, not_false_eq_true, not_true_eq_false, Int.reduceEq, KRE, C_Model_move]
  repeat (first | refine ⟨by omega, ?_⟩ | refine ⟨fun _ _ => okt_nn (by omega), ?_⟩)
  try (first | (show _ ≤ _; omega) | (show _ < _; omega))
  refine (Model_isIn_ok ⟨by omega, by omega⟩ ⟨by omega, by omega⟩ ⟨by omega, by omega⟩).eq ?_
  rw [if_pos ha]
  try simp (maxSteps := 2000000) only [↓reduceIte, wp_eq, wpd_eq, kont_eq, STP1, STP2, STP3, STP4, STP5, konM_eq, AMK, CZ, Option.map, List.getElem?_cons_zero, List.getElem?_cons_succ, List.mem_cons, List.not_mem_nil, if_false, if_true, Nat.reduceAdd, Nat.reduceLT, Nat.reduceLeDiff, Nat.reduceEqDiff, true_and, and_true, List.length_nil, List.length_cons, or_true, true_or, or_false, false_or, Option.some.injEq, Sum.inl.injEq, Sum.inr.injEq, exists_eq_left', exists_eq_left, Int.reduceLE, Int.reduceLT, Int.reduceNeg, Int.reduceAdd, Int.reduceMul, Int.reduceSub, Int.reduceToNat, inR, Nat.zero_ne_one, false_and, Nat.succ_ne_zero, reduceCtorEq, false_implies, true_implies, not_false_eq_true, not_true_eq_false, Int.reduceEq, KRE, C_Model_move]
  repeat (first | refine ⟨by omega, ?_⟩ | refine ⟨fun _ _ => okt_nn (by omega), ?_⟩)
  try (first | (show _ ≤ _; omega) | (show _ < _; omega))
  refine (of_k (by omega) 3 (by omega) rfl).eq ?_
  rw [e3]
  try simp (maxSteps := 2000000) only [↓reduceIte, wp_eq, wpd_eq, kont_eq, STP1, STP2, STP3, STP4, STP5, konM_eq, AMK, CZ, Option.map, List.getElem?_cons_zero, List.getElem?_cons_succ, List.mem_cons, List.not_mem_nil, if_false, if_true, Nat.reduceAdd, Nat.reduceLT, Nat.reduceLeDiff, Nat.reduceEqDiff, true_and, and_true, List.length_nil, List.length_cons, or_true, true_or, or_false, false_or, Option.some.injEq, Sum.inl.injEq, Sum.inr.injEq, exists_eq_left', exists_eq_left, Int.reduceLE, Int.reduceLT, Int.reduceNeg, Int.reduceAdd, Int.reduceMul, Int.reduceSub, Int.reduceToNat, inR, Nat.zero_ne_one, false_and, Nat.succ_ne_zero, reduceCtorEq, false_implies, true_implies, not_false_eq_true, not_true_eq_false, Int.reduceEq, KRE, C_Model_move, ne']
  repeat (first | refine ⟨by omega, ?_⟩ | refine ⟨fun _ _ => okt_nn (by omega), ?_⟩)
  try (first | (show _ ≤ _; omega) | (show _ < _; omega))
  refine (Model_keep_ok hk.1 hk.2).eq ?_
  try simp (maxSteps := 2000000) only [↓reduceIte, wp_eq, wpd_eq, kont_eq, STP1, STP2, STP3, STP4, STP5, konM_eq, AMK, CZ, Option.map, List.getElem?_cons_zero, List.getElem?_cons_succ, List.mem_cons, List.not_mem_nil, if_false, if_true, Nat.reduceAdd, Nat.reduceLT, Nat.reduceLeDiff, Nat.reduceEqDiff, true_and, and_true, List.length_nil, List.length_cons, or_true, true_or, or_false, false_or, Option.some.injEq, Sum.inl.injEq, Sum.inr.injEq, exists_eq_left', exists_eq_left, Int.reduceLE, Int.reduceLT, Int.reduceNeg, Int.reduceAdd, Int.reduceMul, Int.reduceSub, Int.reduceToNat, inR, Nat.zero_ne_one, false_and, Nat.succ_ne_zero, reduceCtorEq, false_implies, true_implies, not_false_eq_true, not_true_eq_false, Int.reduceEq, KRE, C_Model_move]
  refine (of_k (by omega) 3 (by omega) rfl).eq ?_
  rw [e4]
  try simp (maxSteps := 2000000) only [↓reduceIte, wp_eq, wpd_eq, kont_eq, STP1, STP2, STP3, STP4, STP5, konM_eq, AMK, CZ, Option.map, List.getElem?_cons_zero, List.getElem?_cons_succ, List.mem_cons, List.not_mem_nil, if_false, if_true, Nat.reduceAdd, Nat.reduceLT, Nat.reduceLeDiff, Nat.reduceEqDiff, true_and, and_true, List.length_nil, List.length_cons, or_true, true_or, or_false, false_or, Option.some.injEq, Sum.inl.injEq, Sum.inr.injEq, exists_eq_left', exists_eq_left, Int.reduceLE, Int.reduceLT, Int.reduceNeg, Int.reduceAdd, Int.reduceMul, Int.reduceSub, Int.reduceToNat, inR, Nat.zero_ne_one, false_and, Nat.succ_ne_zero, reduceCtorEq, false_implies, true_implies, not_false_eq_true, not_true_eq_false, Int.reduceEq, KRE, C_Model_move, FM, ix]
  repeat (first | refine ⟨by omega, ?_⟩ | refine ⟨fun _ _ => okt_nn (by omega), ?_⟩)
  try (first | (show _ ≤ _; omega) | (show _ < _; omega))
set_option maxHeartbeats 600000 in
set_option maxRecDepth 20000 in
theorem Mmove_no {t a : Int} (h : mdl M n T Y lap bnd mrg) (ht : inR t) (ha : inR a) (hx : ¬ (0 ≤ t ∧ t < n) ∨ a < 0 ∨ 3 < a ∨ M 158 (30 * t.toNat + 3) = a) : CallI m_Model_move [.inr 154, .inl t, .inl a] M (fun x M' => x = -1 ∧ M' = mRefM (c0M M) 1) := by
  have h0 : mdl (mset M 154 1 0) n T Y lap bnd mrg := mdl_fr h scr_0 scr_mdl
  have F := (Model_refuse_ok (k := 1) (M := mset M 154 1 0) (by omega))
  refine callP_of (by decide) (by decide) (Nat.le_of_ble_eq_true rfl) (wpm_of (cuts := []) (by decide) 60 _ _ _ _ ?_)
  rw [show lM m_Model_move = 4 from rfl]
  simp (maxSteps := 2000000) only [↓reduceIte, wp_eq, wpd_eq, kont_eq, STP1, STP2, STP3, STP4, STP5, konM_eq, AMK, CZ, Option.map, List.getElem?_cons_zero, List.getElem?_cons_succ, List.mem_cons, List.not_mem_nil, if_false, if_true, Nat.reduceAdd, Nat.reduceLT, Nat.reduceLeDiff, Nat.reduceEqDiff, true_and, and_true, List.length_nil, List.length_cons, or_true, true_or, or_false, false_or, Option.some.injEq, Sum.inl.injEq, Sum.inr.injEq, exists_eq_left', exists_eq_left, Int.reduceLE, Int.reduceLT, Int.reduceNeg, Int.reduceAdd, Int.reduceMul, Int.reduceSub, Int.reduceToNat, inR, Nat.zero_ne_one, false_and, Nat.succ_ne_zero, reduceCtorEq, false_implies, true_implies, not_false_eq_true, not_true_eq_false, Int.reduceEq, KRE, C_Model_move, FM]
  refine (Model_isTimber_ok h0 ht).eq ?_
  by_cases c1 : 0 ≤ t ∧ t < n
  · rw [if_pos c1]
    try simp (maxSteps := 2000000) only [↓reduceIte, wp_eq, wpd_eq, kont_eq, STP1, STP2, STP3, STP4, STP5, konM_eq, AMK, CZ, Option.map, List.getElem?_cons_zero, List.getElem?_cons_succ, List.mem_cons, List.not_mem_nil, if_false, if_true, Nat.reduceAdd, Nat.reduceLT, Nat.reduceLeDiff, Nat.reduceEqDiff, true_and, and_true, List.length_nil, List.length_cons, or_true, true_or, or_false, false_or, Option.some.injEq, Sum.inl.injEq, Sum.inr.injEq, exists_eq_left', exists_eq_left, Int.reduceLE, Int.reduceLT, Int.reduceNeg, Int.reduceAdd, Int.reduceMul, Int.reduceSub, Int.reduceToNat, inR, Nat.zero_ne_one, false_and, Nat.succ_ne_zero, reduceCtorEq, false_implies, true_implies, not_false_eq_true, not_true_eq_false, Int.reduceEq, KRE, C_Model_move]
    repeat (first | refine ⟨by omega, ?_⟩ | refine ⟨fun _ _ => okt_nn (by omega), ?_⟩)
    try (first | (show _ ≤ _; omega) | (show _ < _; omega))
    refine (Model_isIn_ok ha ⟨by omega, by omega⟩ ⟨by omega, by omega⟩).eq ?_
    by_cases c2 : 0 ≤ a ∧ a ≤ 3
    · rw [if_pos c2]
      obtain ⟨u, rfl⟩ : ∃ u : Nat, t = u := ⟨t.toNat, by omega⟩
      have n8 := h.1.2
      rw [natT] at hx
      have e3 : mset M 154 1 0 158 (30 * u + 3) = M 158 (30 * u + 3) := by simp [mset]
      have e := eq_true (show M 158 (30 * u + 3) = a by omega)
      try simp (maxSteps := 2000000) only [↓reduceIte, wp_eq, wpd_eq, kont_eq, STP1, STP2, STP3, STP4, STP5, konM_eq, AMK, CZ, Option.map, List.getElem?_cons_zero, List.getElem?_cons_succ, List.mem_cons, List.not_mem_nil, if_false, if_true, Nat.reduceAdd, Nat.reduceLT, Nat.reduceLeDiff, Nat.reduceEqDiff, true_and, and_true, List.length_nil, List.length_cons, or_true, true_or, or_false, false_or, Option.some.injEq, Sum.inl.injEq, Sum.inr.injEq, exists_eq_left', exists_eq_left, Int.reduceLE, Int.reduceLT, Int.reduceNeg, Int.reduceAdd, Int.reduceMul, Int.reduceSub, Int.reduceToNat, inR, Nat.zero_ne_one, false_and, Nat.succ_ne_zero, reduceCtorEq, false_implies, true_implies, not_false_eq_true, not_true_eq_false, Int.reduceEq, KRE, C_Model_move]
      repeat (first | refine ⟨by omega, ?_⟩ | refine ⟨fun _ _ => okt_nn (by omega), ?_⟩)
      try (first | (show _ ≤ _; omega) | (show _ < _; omega))
      refine (of_k (by omega) 3 (by omega) rfl).eq ?_
      rw [e3]
      try simp (maxSteps := 2000000) only [↓reduceIte, wp_eq, wpd_eq, kont_eq, STP1, STP2, STP3, STP4, STP5, konM_eq, AMK, CZ, Option.map, List.getElem?_cons_zero, List.getElem?_cons_succ, List.mem_cons, List.not_mem_nil, if_false, if_true, Nat.reduceAdd, Nat.reduceLT, Nat.reduceLeDiff, Nat.reduceEqDiff, true_and, and_true, List.length_nil, List.length_cons, or_true, true_or, or_false, false_or, Option.some.injEq, Sum.inl.injEq, Sum.inr.injEq, exists_eq_left', exists_eq_left, Int.reduceLE, Int.reduceLT, Int.reduceNeg, Int.reduceAdd, Int.reduceMul, Int.reduceSub, Int.reduceToNat, inR, Nat.zero_ne_one, false_and, Nat.succ_ne_zero, reduceCtorEq, false_implies, true_implies, not_false_eq_true, not_true_eq_false, Int.reduceEq, KRE, C_Model_move, e]
      repeat (first | refine ⟨by omega, ?_⟩ | refine ⟨fun _ _ => okt_nn (by omega), ?_⟩)
      try (first | (show _ ≤ _; omega) | (show _ < _; omega))
      exact F.eq ⟨rfl, rfl⟩
    · rw [if_neg c2]
      try simp (maxSteps := 2000000) only [↓reduceIte, wp_eq, wpd_eq, kont_eq, STP1, STP2, STP3, STP4, STP5, konM_eq, AMK, CZ, Option.map, List.getElem?_cons_zero, List.getElem?_cons_succ, List.mem_cons, List.not_mem_nil, if_false, if_true, Nat.reduceAdd, Nat.reduceLT, Nat.reduceLeDiff, Nat.reduceEqDiff, true_and, and_true, List.length_nil, List.length_cons, or_true, true_or, or_false, false_or, Option.some.injEq, Sum.inl.injEq, Sum.inr.injEq, exists_eq_left', exists_eq_left, Int.reduceLE, Int.reduceLT, Int.reduceNeg, Int.reduceAdd, Int.reduceMul, Int.reduceSub, Int.reduceToNat, inR, Nat.zero_ne_one, false_and, Nat.succ_ne_zero, reduceCtorEq, false_implies, true_implies, not_false_eq_true, not_true_eq_false, Int.reduceEq, KRE, C_Model_move]
      repeat (first | refine ⟨by omega, ?_⟩ | refine ⟨fun _ _ => okt_nn (by omega), ?_⟩)
      try (first | (show _ ≤ _; omega) | (show _ < _; omega))
      exact F.eq ⟨rfl, rfl⟩
  · rw [if_neg c1]
    try simp (maxSteps := 2000000) only [↓reduceIte, wp_eq, wpd_eq, kont_eq, STP1, STP2, STP3, STP4, STP5, konM_eq, AMK, CZ, Option.map, List.getElem?_cons_zero, List.getElem?_cons_succ, List.mem_cons, List.not_mem_nil, if_false, if_true, Nat.reduceAdd, Nat.reduceLT, Nat.reduceLeDiff, Nat.reduceEqDiff, true_and, and_true, List.length_nil, List.length_cons, or_true, true_or, or_false, false_or, Option.some.injEq, Sum.inl.injEq, Sum.inr.injEq, exists_eq_left', exists_eq_left, Int.reduceLE, Int.reduceLT, Int.reduceNeg, Int.reduceAdd, Int.reduceMul, Int.reduceSub, Int.reduceToNat, inR, Nat.zero_ne_one, false_and, Nat.succ_ne_zero, reduceCtorEq, false_implies, true_implies, not_false_eq_true, not_true_eq_false, Int.reduceEq, KRE, C_Model_move]
    repeat (first | refine ⟨by omega, ?_⟩ | refine ⟨fun _ _ => okt_nn (by omega), ?_⟩)
    try (first | (show _ ≤ _; omega) | (show _ < _; omega))
    exact F.eq ⟨rfl, rfl⟩
/-- the row is what it was -/
def mUnI (M : Mm) (k i : Nat) : Mm := fun b j => if b = 158 ∧ j < i then M 181 (240 * k + j) else M b j
def mUnM (M : Mm) (k : Nat) : Mm := mUnI (mset M 154 58 k) k 240
theorem mUnI_o {k i b j : Nat} (h : b ≠ 158) : mUnI M k i b j = M b j := if_neg (fun z => h z.1)
theorem mUnI_s {k i : Nat} : mset (mUnI M k i) 158 i (M 181 (240 * k + i)) = mUnI M k (i + 1) := by
  funext b j
  show (if b = 158 ∧ j = i then M 181 (240 * k + i) else if b = 158 ∧ j < i then M 181 (240 * k + j) else M b j) = (if b = 158 ∧ j < i + 1 then M 181 (240 * k + j) else M b j)
  by_cases h1 : b = 158 ∧ j = i
  · rw [if_pos h1, if_pos (by omega), h1.2]
  · rw [if_neg h1]
    exact if_cg (by omega) rfl rfl
set_option maxHeartbeats 600000 in
set_option maxRecDepth 20000 in
theorem Mundo_ok {k : Nat} (hk : M 154 58 = k + 1) (h40 : k < 40) : CallI m_Model_undo [.inr 154] M (fun x M' => x = k ∧ M' = mUnM (c0M M) k) := by
  have e58 : mset M 154 1 0 154 58 = (k : Int) + 1 := by rw [← hk]; simp [mset]
  have c' := eq_false (show ¬ (k : Int) + 1 = 0 by omega)
  have ek : (k : Int) + 1 - 1 = k := by omega
  refine callP_of (by decide) (by decide) (Nat.le_of_ble_eq_true rfl) (wpm_of (cuts := [26]) (by decide) 60 _ _ _ _ ?_)
  rw [show lM m_Model_undo = 2 from rfl]
  simp (maxSteps := 2000000) only [↓reduceIte, wp_eq, wpd_eq, kont_eq, STP1, STP2, STP3, STP4, STP5, konM_eq, AMK, CZ, Option.map, List.getElem?_cons_zero, List.getElem?_cons_succ, List.mem_cons, List.not_mem_nil, if_false, if_true, Nat.reduceAdd, Nat.reduceLT, Nat.reduceLeDiff, Nat.reduceEqDiff, true_and, and_true, List.length_nil, List.length_cons, or_true, true_or, or_false, false_or, Option.some.injEq, Sum.inl.injEq, Sum.inr.injEq, exists_eq_left', exists_eq_left, Int.reduceLE, Int.reduceLT, Int.reduceNeg, Int.reduceAdd, Int.reduceMul, Int.reduceSub, Int.reduceToNat, inR, Nat.zero_ne_one, false_and, Nat.succ_ne_zero, reduceCtorEq, false_implies, true_implies, not_false_eq_true, not_true_eq_false, Int.reduceEq, KRE, C_Model_undo, FM, e58, c', ek]
  repeat (first | refine ⟨by omega, ?_⟩ | refine ⟨fun _ _ => okt_nn (by omega), ?_⟩)
  try (first | (show _ ≤ _; omega) | (show _ < _; omega))
  have e2 : mset (mset M 154 1 0) 154 58 (k : Int) 154 58 = k := by simp [mset]
  unfold mUnM
  generalize mset (mset M 154 1 0) 154 58 (k : Int) = M0 at *
  refine loopQ 240 (fun i ls M1 => M1 = mUnI M0 k i ∧ ls = [some (.inr 154), some (.inl (i : Int))]) ?_ _ _ ⟨?_, rfl⟩
  · rintro i _ _ hi ⟨rfl, rfl⟩ K
    have e1 : mUnI M0 k i 154 58 = k := (mUnI_o (by omega)).trans e2
    by_cases c : i = 240
    · subst c
      have ci := eq_true (show (240 : Int) ≤ (240 : Nat) by omega)
      refine wpm_of (cuts := [26]) (by decide) 60 _ _ _ _ ?_
      simp (maxSteps := 2000000) only [↓reduceIte, wp_eq, wpd_eq, kont_eq, STP1, STP2, STP3, STP4, STP5, konM_eq, AMK, CZ, Option.map, List.getElem?_cons_zero, List.getElem?_cons_succ, List.mem_cons, List.not_mem_nil, if_false, if_true, Nat.reduceAdd, Nat.reduceLT, Nat.reduceLeDiff, Nat.reduceEqDiff, true_and, and_true, List.length_nil, List.length_cons, or_true, true_or, or_false, false_or, Option.some.injEq, Sum.inl.injEq, Sum.inr.injEq, exists_eq_left', exists_eq_left, Int.reduceLE, Int.reduceLT, Int.reduceNeg, Int.reduceAdd, Int.reduceMul, Int.reduceSub, Int.reduceToNat, inR, Nat.zero_ne_one, false_and, Nat.succ_ne_zero, reduceCtorEq, false_implies, true_implies, not_false_eq_true, not_true_eq_false, Int.reduceEq, KRE, C_Model_undo, FM, e1, ci]
      repeat (first | refine ⟨by omega, ?_⟩ | refine ⟨fun _ _ => okt_nn (by omega), ?_⟩)
      try (first | (show _ ≤ _; omega) | (show _ < _; omega))
    · have hlt : i < 240 := by omega
      have ci := eq_false (show ¬ (240 : Int) ≤ i by omega)
      have K' := K hlt _ _ ⟨rfl, rfl⟩
      rw [show mUnI M0 k (i + 1) = _ from mUnI_s.symm] at K'
      have ix : (240 * (k : Int) + (i : Int)).toNat = 240 * k + i := by omega
      have er : mUnI M0 k i 181 (240 * k + i) = M0 181 (240 * k + i) := mUnI_o (by omega)
      refine wpm_of (cuts := [26]) (by decide) 60 _ _ _ _ ?_
      simp (maxSteps := 2000000) only [↓reduceIte, wp_eq, wpd_eq, kont_eq, STP1, STP2, STP3, STP4, STP5, konM_eq, AMK, CZ, Option.map, List.getElem?_cons_zero, List.getElem?_cons_succ, List.mem_cons, List.not_mem_nil, if_false, if_true, Nat.reduceAdd, Nat.reduceLT, Nat.reduceLeDiff, Nat.reduceEqDiff, true_and, and_true, List.length_nil, List.length_cons, or_true, true_or, or_false, false_or, Option.some.injEq, Sum.inl.injEq, Sum.inr.injEq, exists_eq_left', exists_eq_left, Int.reduceLE, Int.reduceLT, Int.reduceNeg, Int.reduceAdd, Int.reduceMul, Int.reduceSub, Int.reduceToNat, inR, Nat.zero_ne_one, false_and, Nat.succ_ne_zero, reduceCtorEq, false_implies, true_implies, not_false_eq_true, not_true_eq_false, Int.reduceEq, KRE, C_Model_undo, FM, e1, ci, ix, natT, er]
      repeat (first | refine ⟨by omega, ?_⟩ | refine ⟨fun _ _ => okt_nn (by omega), ?_⟩)
      try (first | (show _ ≤ _; omega) | (show _ < _; omega))
      exact K'
  · funext b j
    show M0 b j = if b = 158 ∧ j < 0 then M0 181 (240 * k + j) else M0 b j
    rw [if_neg (by omega)]
set_option maxHeartbeats 600000 in
set_option maxRecDepth 20000 in
theorem Mundo_no (hk : M 154 58 = 0) : CallI m_Model_undo [.inr 154] M (fun x M' => x = -1 ∧ M' = c0M M) := by
  have e58 : mset M 154 1 0 154 58 = 0 := by rw [← hk]; simp [mset]
  refine callP_of (by decide) (by decide) (Nat.le_of_ble_eq_true rfl) (wpm_of (cuts := [26]) (by decide) 60 _ _ _ _ ?_)
  rw [show lM m_Model_undo = 2 from rfl]
  simp (maxSteps := 2000000) only [↓reduceIte, wp_eq, wpd_eq, kont_eq, STP1, STP2, STP3, STP4, STP5, konM_eq, AMK, CZ, Option.map, List.getElem?_cons_zero, List.getElem?_cons_succ, List.mem_cons, List.not_mem_nil, if_false, if_true, Nat.reduceAdd, Nat.reduceLT, Nat.reduceLeDiff, Nat.reduceEqDiff, true_and, and_true, List.length_nil, List.length_cons, or_true, true_or, or_false, false_or, Option.some.injEq, Sum.inl.injEq, Sum.inr.injEq, exists_eq_left', exists_eq_left, Int.reduceLE, Int.reduceLT, Int.reduceNeg, Int.reduceAdd, Int.reduceMul, Int.reduceSub, Int.reduceToNat, inR, Nat.zero_ne_one, false_and, Nat.succ_ne_zero, reduceCtorEq, false_implies, true_implies, not_false_eq_true, not_true_eq_false, Int.reduceEq, KRE, C_Model_undo, FM, e58]
  repeat (first | refine ⟨by omega, ?_⟩ | refine ⟨fun _ _ => okt_nn (by omega), ?_⟩)
  try (first | (show _ ≤ _; omega) | (show _ < _; omega))
set_option maxHeartbeats 600000 in
set_option maxRecDepth 20000 in
theorem Mnote_ok {t m : Nat} {y : Int} (h : mdl M n T Y lap bnd mrg) (ht : t < n) (hm : M 154 60 = m) (h8 : m < 8) (hy : -1 ≤ y ∧ y ≤ 900) : CallI m_Model_note [.inr 154, .inl (t : Int), .inl y] M (fun x M' => x = m + 1 ∧ M' = mset (mset (mset (c0M M) 182 m t) 183 m y) 154 60 (m + 1)) := by
  have h0 : mdl (mset M 154 1 0) n T Y lap bnd mrg := mdl_fr h scr_0 scr_mdl
  have e60 : mset M 154 1 0 154 60 = m := by rw [← hm]; simp [mset]
  have c' := eq_false (show ¬ (m : Int) = 8 by omega)
  have e1 : ∀ v, mset (mset M 154 1 0) 182 m v 154 60 = m := fun v => by rw [← e60]; simp [mset]
  have e2 : ∀ v w, mset (mset (mset M 154 1 0) 182 m v) 183 m w 154 60 = m := fun v w => by rw [← e60]; simp [mset]
  have e3 : ∀ v w u, mset (mset (mset (mset M 154 1 0) 182 m v) 183 m w) 154 60 u 154 60 = u := fun v w u => by simp [mset]
  refine callP_of (by decide) (by decide) (Nat.le_of_ble_eq_true rfl) (wpm_of (cuts := []) (by decide) 60 _ _ _ _ ?_)
  rw [show lM m_Model_note = 3 from rfl]
  simp (maxSteps := 2000000) only [↓reduceIte, wp_eq, wpd_eq, kont_eq, STP1, STP2, STP3, STP4, STP5, konM_eq, AMK, CZ, Option.map, List.getElem?_cons_zero, List.getElem?_cons_succ, List.mem_cons, List.not_mem_nil, if_false, if_true, Nat.reduceAdd, Nat.reduceLT, Nat.reduceLeDiff, Nat.reduceEqDiff, true_and, and_true, List.length_nil, List.length_cons, or_true, true_or, or_false, false_or, Option.some.injEq, Sum.inl.injEq, Sum.inr.injEq, exists_eq_left', exists_eq_left, Int.reduceLE, Int.reduceLT, Int.reduceNeg, Int.reduceAdd, Int.reduceMul, Int.reduceSub, Int.reduceToNat, inR, Nat.zero_ne_one, false_and, Nat.succ_ne_zero, reduceCtorEq, false_implies, true_implies, not_false_eq_true, not_true_eq_false, Int.reduceEq, KRE, C_Model_note, FM, e60, c']
  repeat (first | refine ⟨by omega, ?_⟩ | refine ⟨fun _ _ => okt_nn (by omega), ?_⟩)
  try (first | (show _ ≤ _; omega) | (show _ < _; omega))
  refine (isTimber_y h0 ht).eq ?_
  try simp (maxSteps := 2000000) only [↓reduceIte, wp_eq, wpd_eq, kont_eq, STP1, STP2, STP3, STP4, STP5, konM_eq, AMK, CZ, Option.map, List.getElem?_cons_zero, List.getElem?_cons_succ, List.mem_cons, List.not_mem_nil, if_false, if_true, Nat.reduceAdd, Nat.reduceLT, Nat.reduceLeDiff, Nat.reduceEqDiff, true_and, and_true, List.length_nil, List.length_cons, or_true, true_or, or_false, false_or, Option.some.injEq, Sum.inl.injEq, Sum.inr.injEq, exists_eq_left', exists_eq_left, Int.reduceLE, Int.reduceLT, Int.reduceNeg, Int.reduceAdd, Int.reduceMul, Int.reduceSub, Int.reduceToNat, inR, Nat.zero_ne_one, false_and, Nat.succ_ne_zero, reduceCtorEq, false_implies, true_implies, not_false_eq_true, not_true_eq_false, Int.reduceEq, KRE, C_Model_note]
  repeat (first | refine ⟨by omega, ?_⟩ | refine ⟨fun _ _ => okt_nn (by omega), ?_⟩)
  try (first | (show _ ≤ _; omega) | (show _ < _; omega))
  refine (Model_isIn_ok ⟨by omega, by omega⟩ ⟨by omega, by omega⟩ ⟨by omega, by omega⟩).eq ?_
  rw [if_pos hy]
  try simp (maxSteps := 2000000) only [↓reduceIte, wp_eq, wpd_eq, kont_eq, STP1, STP2, STP3, STP4, STP5, konM_eq, AMK, CZ, Option.map, List.getElem?_cons_zero, List.getElem?_cons_succ, List.mem_cons, List.not_mem_nil, if_false, if_true, Nat.reduceAdd, Nat.reduceLT, Nat.reduceLeDiff, Nat.reduceEqDiff, true_and, and_true, List.length_nil, List.length_cons, or_true, true_or, or_false, false_or, Option.some.injEq, Sum.inl.injEq, Sum.inr.injEq, exists_eq_left', exists_eq_left, Int.reduceLE, Int.reduceLT, Int.reduceNeg, Int.reduceAdd, Int.reduceMul, Int.reduceSub, Int.reduceToNat, inR, Nat.zero_ne_one, false_and, Nat.succ_ne_zero, reduceCtorEq, false_implies, true_implies, not_false_eq_true, not_true_eq_false, Int.reduceEq, KRE, C_Model_note, FM, natT, e60, e1, e2, e3]
  repeat (first | refine ⟨by omega, ?_⟩ | refine ⟨fun _ _ => okt_nn (by omega), ?_⟩)
  try (first | (show _ ≤ _; omega) | (show _ < _; omega))
set_option maxHeartbeats 600000 in
set_option maxRecDepth 20000 in
theorem Mnote_no {m : Nat} {t y : Int} (h : mdl M n T Y lap bnd mrg) (ht : inR t) (hy : inR y) (hm : M 154 60 = m) (h8 : m ≤ 8) (hx : m = 8 ∨ ¬ (0 ≤ t ∧ t < n) ∨ y < -1 ∨ 900 < y) : CallI m_Model_note [.inr 154, .inl t, .inl y] M (fun x M' => x = -1 ∧ M' = mRefM (c0M M) 2) := by
  have h0 : mdl (mset M 154 1 0) n T Y lap bnd mrg := mdl_fr h scr_0 scr_mdl
  have F := (Model_refuse_ok (k := 2) (M := mset M 154 1 0) (by omega))
  have e60 : mset M 154 1 0 154 60 = m := by rw [← hm]; simp [mset]
  by_cases cm : m = 8
  · have c' := eq_true (show (m : Int) = 8 by omega)
    refine callP_of (by decide) (by decide) (Nat.le_of_ble_eq_true rfl) (wpm_of (cuts := []) (by decide) 60 _ _ _ _ ?_)
    rw [show lM m_Model_note = 3 from rfl]
    simp (maxSteps := 2000000) only [↓reduceIte, wp_eq, wpd_eq, kont_eq, STP1, STP2, STP3, STP4, STP5, konM_eq, AMK, CZ, Option.map, List.getElem?_cons_zero, List.getElem?_cons_succ, List.mem_cons, List.not_mem_nil, if_false, if_true, Nat.reduceAdd, Nat.reduceLT, Nat.reduceLeDiff, Nat.reduceEqDiff, true_and, and_true, List.length_nil, List.length_cons, or_true, true_or, or_false, false_or, Option.some.injEq, Sum.inl.injEq, Sum.inr.injEq, exists_eq_left', exists_eq_left, Int.reduceLE, Int.reduceLT, Int.reduceNeg, Int.reduceAdd, Int.reduceMul, Int.reduceSub, Int.reduceToNat, inR, Nat.zero_ne_one, false_and, Nat.succ_ne_zero, reduceCtorEq, false_implies, true_implies, not_false_eq_true, not_true_eq_false, Int.reduceEq, KRE, C_Model_note, FM, e60, c']
    repeat (first | refine ⟨by omega, ?_⟩ | refine ⟨fun _ _ => okt_nn (by omega), ?_⟩)
    try (first | (show _ ≤ _; omega) | (show _ < _; omega))
    exact F.eq ⟨rfl, rfl⟩
  · have c' := eq_false (show ¬ (m : Int) = 8 by omega)
    refine callP_of (by decide) (by decide) (Nat.le_of_ble_eq_true rfl) (wpm_of (cuts := []) (by decide) 60 _ _ _ _ ?_)
    rw [show lM m_Model_note = 3 from rfl]
    simp (maxSteps := 2000000) only [↓reduceIte, wp_eq, wpd_eq, kont_eq, STP1, STP2, STP3, STP4, STP5, konM_eq, AMK, CZ, Option.map, List.getElem?_cons_zero, List.getElem?_cons_succ, List.mem_cons, List.not_mem_nil, if_false, if_true, Nat.reduceAdd, Nat.reduceLT, Nat.reduceLeDiff, Nat.reduceEqDiff, true_and, and_true, List.length_nil, List.length_cons, or_true, true_or, or_false, false_or, Option.some.injEq, Sum.inl.injEq, Sum.inr.injEq, exists_eq_left', exists_eq_left, Int.reduceLE, Int.reduceLT, Int.reduceNeg, Int.reduceAdd, Int.reduceMul, Int.reduceSub, Int.reduceToNat, inR, Nat.zero_ne_one, false_and, Nat.succ_ne_zero, reduceCtorEq, false_implies, true_implies, not_false_eq_true, not_true_eq_false, Int.reduceEq, KRE, C_Model_note, FM, e60, c']
    repeat (first | refine ⟨by omega, ?_⟩ | refine ⟨fun _ _ => okt_nn (by omega), ?_⟩)
    try (first | (show _ ≤ _; omega) | (show _ < _; omega))
    refine (Model_isTimber_ok h0 ht).eq ?_
    by_cases c1 : 0 ≤ t ∧ t < n
    · rw [if_pos c1]
      try simp (maxSteps := 2000000) only [↓reduceIte, wp_eq, wpd_eq, kont_eq, STP1, STP2, STP3, STP4, STP5, konM_eq, AMK, CZ, Option.map, List.getElem?_cons_zero, List.getElem?_cons_succ, List.mem_cons, List.not_mem_nil, if_false, if_true, Nat.reduceAdd, Nat.reduceLT, Nat.reduceLeDiff, Nat.reduceEqDiff, true_and, and_true, List.length_nil, List.length_cons, or_true, true_or, or_false, false_or, Option.some.injEq, Sum.inl.injEq, Sum.inr.injEq, exists_eq_left', exists_eq_left, Int.reduceLE, Int.reduceLT, Int.reduceNeg, Int.reduceAdd, Int.reduceMul, Int.reduceSub, Int.reduceToNat, inR, Nat.zero_ne_one, false_and, Nat.succ_ne_zero, reduceCtorEq, false_implies, true_implies, not_false_eq_true, not_true_eq_false, Int.reduceEq, KRE, C_Model_note]
      repeat (first | refine ⟨by omega, ?_⟩ | refine ⟨fun _ _ => okt_nn (by omega), ?_⟩)
      try (first | (show _ ≤ _; omega) | (show _ < _; omega))
      refine (Model_isIn_ok hy ⟨by omega, by omega⟩ ⟨by omega, by omega⟩).eq ?_
      rw [if_neg (by omega)]
      try simp (maxSteps := 2000000) only [↓reduceIte, wp_eq, wpd_eq, kont_eq, STP1, STP2, STP3, STP4, STP5, konM_eq, AMK, CZ, Option.map, List.getElem?_cons_zero, List.getElem?_cons_succ, List.mem_cons, List.not_mem_nil, if_false, if_true, Nat.reduceAdd, Nat.reduceLT, Nat.reduceLeDiff, Nat.reduceEqDiff, true_and, and_true, List.length_nil, List.length_cons, or_true, true_or, or_false, false_or, Option.some.injEq, Sum.inl.injEq, Sum.inr.injEq, exists_eq_left', exists_eq_left, Int.reduceLE, Int.reduceLT, Int.reduceNeg, Int.reduceAdd, Int.reduceMul, Int.reduceSub, Int.reduceToNat, inR, Nat.zero_ne_one, false_and, Nat.succ_ne_zero, reduceCtorEq, false_implies, true_implies, not_false_eq_true, not_true_eq_false, Int.reduceEq, KRE, C_Model_note]
      repeat (first | refine ⟨by omega, ?_⟩ | refine ⟨fun _ _ => okt_nn (by omega), ?_⟩)
      try (first | (show _ ≤ _; omega) | (show _ < _; omega))
      exact F.eq ⟨rfl, rfl⟩
    · rw [if_neg c1]
      try simp (maxSteps := 2000000) only [↓reduceIte, wp_eq, wpd_eq, kont_eq, STP1, STP2, STP3, STP4, STP5, konM_eq, AMK, CZ, Option.map, List.getElem?_cons_zero, List.getElem?_cons_succ, List.mem_cons, List.not_mem_nil, if_false, if_true, Nat.reduceAdd, Nat.reduceLT, Nat.reduceLeDiff, Nat.reduceEqDiff, true_and, and_true, List.length_nil, List.length_cons, or_true, true_or, or_false, false_or, Option.some.injEq, Sum.inl.injEq, Sum.inr.injEq, exists_eq_left', exists_eq_left, Int.reduceLE, Int.reduceLT, Int.reduceNeg, Int.reduceAdd, Int.reduceMul, Int.reduceSub, Int.reduceToNat, inR, Nat.zero_ne_one, false_and, Nat.succ_ne_zero, reduceCtorEq, false_implies, true_implies, not_false_eq_true, not_true_eq_false, Int.reduceEq, KRE, C_Model_note]
      repeat (first | refine ⟨by omega, ?_⟩ | refine ⟨fun _ _ => okt_nn (by omega), ?_⟩)
      try (first | (show _ ≤ _; omega) | (show _ < _; omega))
      exact F.eq ⟨rfl, rfl⟩
set_option maxHeartbeats 600000 in
set_option maxRecDepth 20000 in
theorem Mforget_ok : CallV m_Model_forget [.inr 154] M (fun M' => M' = mset (c0M M) 154 60 0) := by
  refine callP_of (by decide) (by decide) (Nat.le_of_ble_eq_true rfl) (wpm_of (cuts := []) (by decide) 50 _ _ _ _ ?_)
  rw [show lM m_Model_forget = 1 from rfl]
  simp (maxSteps := 2000000) only [↓reduceIte, wp_eq, wpd_eq, kont_eq, STP1, STP2, STP3, STP4, STP5, konM_eq, AMK, CZ, Option.map, List.getElem?_cons_zero, List.getElem?_cons_succ, List.mem_cons, List.not_mem_nil, if_false, if_true, Nat.reduceAdd, Nat.reduceLT, Nat.reduceLeDiff, Nat.reduceEqDiff, true_and, and_true, List.length_nil, List.length_cons, or_true, true_or, or_false, false_or, Option.some.injEq, Sum.inl.injEq, Sum.inr.injEq, exists_eq_left', exists_eq_left, Int.reduceLE, Int.reduceLT, Int.reduceNeg, Int.reduceAdd, Int.reduceMul, Int.reduceSub, Int.reduceToNat, inR, Nat.zero_ne_one, false_and, Nat.succ_ne_zero, reduceCtorEq, false_implies, true_implies, not_false_eq_true, not_true_eq_false, Int.reduceEq, KRE, C_Model_forget, FM]
set_option maxHeartbeats 600000 in
set_option maxRecDepth 20000 in
theorem Mfault_ok : CallI m_Model_fault [.inr 154] M (fun x M' => x = M 154 17 ∧ M' = c0M M) := by
  have e : mset M 154 1 0 154 17 = M 154 17 := by simp [mset]
  refine callP_of (by decide) (by decide) (Nat.le_of_ble_eq_true rfl) (wpm_of (cuts := []) (by decide) 50 _ _ _ _ ?_)
  rw [show lM m_Model_fault = 1 from rfl]
  simp (maxSteps := 2000000) only [↓reduceIte, wp_eq, wpd_eq, kont_eq, STP1, STP2, STP3, STP4, STP5, konM_eq, AMK, CZ, Option.map, List.getElem?_cons_zero, List.getElem?_cons_succ, List.mem_cons, List.not_mem_nil, if_false, if_true, Nat.reduceAdd, Nat.reduceLT, Nat.reduceLeDiff, Nat.reduceEqDiff, true_and, and_true, List.length_nil, List.length_cons, or_true, true_or, or_false, false_or, Option.some.injEq, Sum.inl.injEq, Sum.inr.injEq, exists_eq_left', exists_eq_left, Int.reduceLE, Int.reduceLT, Int.reduceNeg, Int.reduceAdd, Int.reduceMul, Int.reduceSub, Int.reduceToNat, inR, Nat.zero_ne_one, false_and, Nat.succ_ne_zero, reduceCtorEq, false_implies, true_implies, not_false_eq_true, not_true_eq_false, Int.reduceEq, KRE, C_Model_fault, FM, e]
end MODF

/-! THE REFERENCE, G: growing by another bound (pure). -/
section MODG
variable {n : Nat} {T : Nat → Rw} {Y : Nat → Int} {lap mrg : Int}
theorem why_cut {x : Bst} {b : Int} (hb : 50 ≤ b) : why x b mrg = 0 ↔ why x 50 mrg = 0 ∧ b ≤ x.2.2.1 := by
  unfold why
  by_cases c1 : x.1 = 0
  · simp [c1]
  · rw [if_neg c1, if_neg c1]
    by_cases c2 : x.2.2.1 < b
    · rw [if_pos c2]
      constructor
      · intro z; omega
      · intro z; omega
    · rw [if_neg c2, if_neg (show ¬ x.2.2.1 < 50 by omega)]
      constructor
      · intro z; exact ⟨z, by omega⟩
      · intro z; exact z.1
def cutP (b : Int) (x : Pk) : Pk := if b ≤ x.2.2 then x else (-1, 0, -1)
theorem pk_cut {A : Rw} {f b : Int} (hA : 0 ≤ A.2.1 ∧ A.2.1 ≤ 924) (hb : 50 ≤ b) : ∀ {m : Nat}, (∀ t, t < m → okT (T t)) → foldN (pkS T A f Y lap b mrg) (-1, 0, -1) m = cutP b (foldN (pkS T A f Y lap 50 mrg) (-1, 0, -1) m)
  | 0, _ => by
    show ((-1, 0, -1) : Pk) = cutP b (-1, 0, -1)
    unfold cutP
    rw [if_neg (by simp only; omega)]
  | m + 1, h => by
    have i := pk_cut (A := A) (f := f) hA hb (m := m) (fun t ht => h t (by omega))
    have hT := h m (by omega)
    have ob := okB_best (A := A) (B := T m) (lap := lap) hA (by have := hT.1; omega)
    have r0 := pk_R (T := T) (A := A) (f := f) (Y := Y) (lap := lap) (bnd := b) (mrg := mrg) hA (m := m) (fun t ht => h t (by omega))
    have r1 := pk_R (T := T) (A := A) (f := f) (Y := Y) (lap := lap) (bnd := 50) (mrg := mrg) hA (m := m) (fun t ht => h t (by omega))
    rw [foldN, foldN, pkS_m r0 ob, pkS_m r1 ob, i]
    generalize foldN (pkS T A f Y lap 50 mrg) (-1, 0, -1) m = x at *
    have wc := why_cut (x := best A (T m) lap) (mrg := mrg) hb
    have w50 := fun z => (why_0 ob (b := 50) (m := mrg) z).2.2
    have xb : x = (-1, 0, -1) ∨ 50 ≤ x.2.2 := by
      rcases r1 with r1 | r1
      · exact Or.inl r1
      · exact Or.inr r1.2.2.2.2
    by_cases c : Y m = -1 ∧ why (best A (T m) lap) 50 mrg = 0 ∧ (0 ≤ f + (best A (T m) lap).2.1 ∧ f + (best A (T m) lap).2.1 ≤ 900)
    · obtain ⟨c1, c2, c3⟩ := c
      have sc := w50 c2
      by_cases cb : b ≤ (best A (T m) lap).2.2.1
      · have cw := wc.mpr ⟨c2, cb⟩
        by_cases cx : x.2.2 < (best A (T m) lap).2.2.1
        · have e1 : (cutP b x).2.2 < (best A (T m) lap).2.2.1 := by
            unfold cutP
            split
            · exact cx
            · show (-1 : Int) < _; omega
          rw [if_pos ⟨c1, cw, c3, e1⟩, if_pos ⟨c1, c2, c3, cx⟩]
          unfold cutP
          rw [if_pos cb]
        · have e0 : cutP b x = x := by unfold cutP; rw [if_pos (by omega)]
          rw [e0, if_neg (fun z => cx z.2.2.2), if_neg (fun z => cx z.2.2.2), e0]
      · rw [if_neg (fun z => cb (wc.mp z.2.1).2)]
        by_cases cx : x.2.2 < (best A (T m) lap).2.2.1
        · rw [if_pos ⟨c1, c2, c3, cx⟩]
          unfold cutP
          rw [if_neg (by omega), if_neg (by simp only; omega)]
        · rw [if_neg (fun z => cx z.2.2.2)]
    · rw [if_neg (fun z => c ⟨z.1, (wc.mp z.2.1).1, z.2.2.1⟩), if_neg (fun z => c ⟨z.1, z.2.1, z.2.2.1⟩)]
theorem gwP_cut {b : Int} {r : Nat} (hc : okC T Y n) (hb : 50 ≤ b) (e : gwY T lap b mrg n Y r = gwY T lap 50 mrg n Y r) : gwP T lap b mrg n Y r = cutP b (gwP T lap 50 mrg n Y r) := by
  unfold gwP
  rw [e]
  have ok := (gwY_ok (lap := lap) (bnd := 50) (mrg := mrg) hc r).1
  exact pk_cut (chr_R ok).2 hb (fun t ht => (hc.2 t ht).1)
theorem gwY_cut {b : Int} (hc : okC T Y n) (hb : 50 ≤ b) : ∀ r, (∀ i, i < r → (gwP T lap 50 mrg n Y i).1 ≠ -1 ∧ b ≤ (gwP T lap 50 mrg n Y i).2.2) → gwY T lap b mrg n Y r = gwY T lap 50 mrg n Y r
  | 0, _ => rfl
  | r + 1, h => by
    have i := gwY_cut hc hb r (fun j hj => h j (by omega))
    have hr := h r (by omega)
    have p := gwP_cut hc hb i
    unfold cutP at p
    rw [if_pos hr.2] at p
    rw [gwY_succ (bnd := b) (by rw [p]; exact hr.1), gwY_succ (bnd := 50) hr.1, i, p]
/-- by bound b the first k of those that grow by 50 grow -/
theorem gwC_cut {b : Int} {c : Nat} (hc : okC T Y n) (hb : 50 ≤ b) (h : gwC T lap 50 mrg n Y c) : ∃ k, k ≤ c ∧ gwC T lap b mrg n Y k ∧ gwY T lap b mrg n Y k = gwY T lap 50 mrg n Y k ∧ (∀ i, i < k → b ≤ (gwP T lap 50 mrg n Y i).2.2) ∧ (k < c → (gwP T lap 50 mrg n Y k).2.2 < b) := by
  have key : ∃ k, k ≤ c ∧ (∀ i, i < k → b ≤ (gwP T lap 50 mrg n Y i).2.2) ∧ (k < c → (gwP T lap 50 mrg n Y k).2.2 < b) := by
    clear h
    induction c with
    | zero => exact ⟨0, Nat.le_refl _, fun i hi => by omega, fun hi => by omega⟩
    | succ c ih =>
      obtain ⟨k, k1, k2, k3⟩ := ih
      by_cases e : k < c
      · exact ⟨k, by omega, k2, fun _ => k3 e⟩
      · have ek : k = c := by omega
        subst ek
        by_cases e2 : b ≤ (gwP T lap 50 mrg n Y k).2.2
        · refine ⟨k + 1, Nat.le_refl _, fun i hi => ?_, fun hi => by omega⟩
          by_cases ei : i = k
          · rw [ei]; exact e2
          · exact k2 i (by omega)
        · exact ⟨k, by omega, k2, fun _ => by omega⟩
  obtain ⟨k, k1, k2, k3⟩ := key
  have ey := fun r (hr : r ≤ k) => gwY_cut (lap := lap) (mrg := mrg) hc hb r (fun i hi => ⟨h.1 i (by omega), k2 i (by omega)⟩)
  refine ⟨k, k1, ⟨fun i hi => ?_, ?_⟩, ey k (Nat.le_refl _), k2, k3⟩
  · rw [gwP_cut hc hb (ey i (by omega))]
    unfold cutP
    rw [if_pos (k2 i hi)]
    exact h.1 i (by omega)
  · rw [gwP_cut hc hb (ey k (Nat.le_refl _))]
    unfold cutP
    split
    · rename_i z
      by_cases e : k < c
      · have := k3 e
        omega
      · rw [show k = c by omega]
        exact h.2
    · rfl
/-- a timber's year when all is grown by b, out of what grows by 50 -/
theorem gwY_ybS {b : Int} {c k t : Nat} (hc : okC T Y n) (h : gwC T lap 50 mrg n Y c) (k1 : k ≤ c) (k2 : ∀ i, i < k → b ≤ (gwP T lap 50 mrg n Y i).2.2) (k3 : k < c → (gwP T lap 50 mrg n Y k).2.2 < b) : gwY T lap 50 mrg n Y k t = ybS (gwP T lap 50 mrg n Y) Y c t b := by
  have key : ∀ d i, i + d = k → gwY T lap 50 mrg n Y k t = if gwY T lap 50 mrg n Y i t ≠ -1 then gwY T lap 50 mrg n Y i t else ybR (fun i => (gwP T lap 50 mrg n Y i).1) (fun i => (gwP T lap 50 mrg n Y i).2.1) (fun i => (gwP T lap 50 mrg n Y i).2.2) t b (c - i) i := by
    intro d
    induction d with
    | zero =>
      intro i hi
      obtain rfl : i = k := by omega
      split
      · rfl
      · rename_i z
        rw [Decidable.not_not.mp z]
        by_cases e : i < c
        · obtain ⟨q, hq⟩ : ∃ q, c - i = q + 1 := ⟨c - i - 1, by omega⟩
          rw [hq, ybR, if_pos (k3 e)]
        · rw [show c - i = 0 by omega, ybR]
    | succ d ih =>
      intro i hi
      rw [ih (i + 1) (by omega)]
      have e1 := h.1 i (by omega)
      have e2 := k2 i (by omega)
      have p := (gwY_ok (lap := lap) (bnd := 50) (mrg := mrg) hc i).2
      obtain ⟨q, hq⟩ : ∃ q, c - i = q + 1 := ⟨c - i - 1, by omega⟩
      have yb1 : ybR (fun i => (gwP T lap 50 mrg n Y i).1) (fun i => (gwP T lap 50 mrg n Y i).2.1) (fun i => (gwP T lap 50 mrg n Y i).2.2) t b (q + 1) i = if (gwP T lap 50 mrg n Y i).1 = t then (gwP T lap 50 mrg n Y i).2.1 else ybR (fun i => (gwP T lap 50 mrg n Y i).1) (fun i => (gwP T lap 50 mrg n Y i).2.1) (fun i => (gwP T lap 50 mrg n Y i).2.2) t b q (i + 1) := by
        rw [ybR, if_neg (show ¬ (gwP T lap 50 mrg n Y i).2.2 < b by omega)]
      rw [gwY_succ e1, hq, yb1, show c - (i + 1) = q by omega]
      clear yb1
      rcases p with p | p
      · exact absurd (congrArg Prod.fst p) e1
      · obtain ⟨p1, p2, p3, p4, p5⟩ := p
        unfold updI
        by_cases et : t = (gwP T lap 50 mrg n Y i).1.toNat
        · rw [if_pos et, if_pos (by omega), if_neg (by rw [et, p2]; simp)]
          rw [if_pos (by omega)]
        · rw [if_neg et]
          split
          · rfl
          · rw [if_neg (by omega)]
  have k0 := key k 0 (by omega)
  rw [k0]
  rfl
theorem gw_yb {b : Int} {c d t : Nat} (hc : okC T Y n) (hb : 50 ≤ b) (h : gwC T lap 50 mrg n Y c) (hd : gwC T lap b mrg n Y d) : gwY T lap b mrg n Y d t = ybS (gwP T lap 50 mrg n Y) Y c t b := by
  obtain ⟨k, k1, k2, k3, k4, k5⟩ := gwC_cut hc hb h
  obtain rfl := gwC_u k2 hd
  rw [k3]
  exact gwY_ybS hc h k1 k4 k5
/-- a year by b is the year by 50, or none -/
theorem ybS_two {b : Int} {c t : Nat} (hc : okC T Y n) (h : gwC T lap 50 mrg n Y c) (hb : 50 ≤ b) : ybS (gwP T lap 50 mrg n Y) Y c t b = -1 ∨ ybS (gwP T lap 50 mrg n Y) Y c t b = ybS (gwP T lap 50 mrg n Y) Y c t 50 := by
  have key : ∀ d i, i + d = c → ybR (fun i => (gwP T lap 50 mrg n Y i).1) (fun i => (gwP T lap 50 mrg n Y i).2.1) (fun i => (gwP T lap 50 mrg n Y i).2.2) t b d i = -1 ∨ ybR (fun i => (gwP T lap 50 mrg n Y i).1) (fun i => (gwP T lap 50 mrg n Y i).2.1) (fun i => (gwP T lap 50 mrg n Y i).2.2) t b d i = ybR (fun i => (gwP T lap 50 mrg n Y i).1) (fun i => (gwP T lap 50 mrg n Y i).2.1) (fun i => (gwP T lap 50 mrg n Y i).2.2) t 50 d i := by
    intro d
    induction d with
    | zero => intro i hi; exact Or.inl rfl
    | succ d ih =>
      intro i hi
      have g := gwP_in hc h (i := i) (by omega)
      rw [ybR, ybR, if_neg (show ¬ (gwP T lap 50 mrg n Y i).2.2 < 50 by omega)]
      by_cases c1 : (gwP T lap 50 mrg n Y i).2.2 < b
      · rw [if_pos c1]; exact Or.inl rfl
      · rw [if_neg c1]
        split
        · exact Or.inr rfl
        · exact ih (i + 1) (by omega)
  unfold ybS
  split
  · exact Or.inr rfl
  · exact key c 0 (by omega)
/-- the bounds that fit, in order -/
def flB (P : Nat → Pk) (Y : Nat → Int) (c m : Nat) (N Z : Nat → Int) : Nat → Nat → Int
  | 0 => fun _ => 0
  | k + 1 => if agS P Y c m N Z (50 + k) then updI (flB P Y c m N Z k) (ftN P Y c m N Z k).1.toNat (50 + k) else flB P Y c m N Z k
theorem ftN_s (P : Nat → Pk) (Y : Nat → Int) (c m : Nat) (N Z : Nat → Int) (k : Nat) : ftN P Y c m N Z (k + 1) = if agS P Y c m N Z (50 + k) then ((ftN P Y c m N Z k).1 + 1, if (ftN P Y c m N Z k).2 = -1 then 50 + (k : Int) else (ftN P Y c m N Z k).2) else ftN P Y c m N Z k := rfl
theorem unN_s (P : Nat → Pk) (Y : Nat → Int) (c m : Nat) (N Z : Nat → Int) (t : Int) (k : Nat) : unN P Y c m N Z t (k + 1) = if agS P Y c m N Z (50 + k) then (if ybS P Y c t (50 + k) ≠ -1 then (1, (unN P Y c m N Z t k).2) else ((unN P Y c m N Z t k).1, 1)) else unN P Y c m N Z t k := rfl
theorem flB_in (P : Nat → Pk) (Y : Nat → Int) (c m : Nat) (N Z : Nat → Int) : ∀ k a : Nat, (a : Int) < (ftN P Y c m N Z k).1 → 50 ≤ flB P Y c m N Z k a
  | 0, a, h => by
    have h' : (a : Int) < 0 := h
    omega
  | k + 1, a, h => by
    have i := flB_in P Y c m N Z k a
    have fi := ftN_in P Y c m N Z k
    rw [ftN_s] at h
    rw [flB]
    split
    · rename_i z
      rw [if_pos z] at h
      simp only at h
      unfold updI
      split
      · omega
      · exact i (by omega)
    · rename_i z
      rw [if_neg z] at h
      exact i h
/-- dated by one of the first a that fit; not dated by one -/
def unD (v : Nat → Int) : Nat → Int × Int
  | 0 => (0, 0)
  | a + 1 => if v a ≠ -1 then (1, (unD v a).2) else ((unD v a).1, 1)
theorem unD_congr {v w : Nat → Int} : ∀ {a : Nat}, (∀ j, j < a → v j = w j) → unD v a = unD w a
  | 0, _ => rfl
  | a + 1, h => by rw [unD, unD, h a (by omega), unD_congr (fun j hj => h j (by omega))]
theorem unN_D (P : Nat → Pk) (Y : Nat → Int) (c m : Nat) (N Z : Nat → Int) (t : Int) : ∀ k, unN P Y c m N Z t k = unD (fun a => ybS P Y c t (flB P Y c m N Z k a)) (ftN P Y c m N Z k).1.toNat
  | 0 => rfl
  | k + 1 => by
    have i := unN_D P Y c m N Z t k
    have fi := ftN_in P Y c m N Z k
    rw [unN_s, ftN_s, flB]
    by_cases z : agS P Y c m N Z (50 + k)
    · rw [if_pos z, if_pos z, if_pos z]
      simp only
      rw [show ((ftN P Y c m N Z k).1 + 1).toNat = (ftN P Y c m N Z k).1.toNat + 1 by omega, unD]
      have e : unD (fun a => ybS P Y c t (updI (flB P Y c m N Z k) (ftN P Y c m N Z k).1.toNat (50 + (k : Int)) a)) (ftN P Y c m N Z k).1.toNat = unN P Y c m N Z t k := by
        rw [i]
        refine unD_congr (fun j hj => ?_)
        unfold updI
        rw [if_neg (by omega)]
      rw [e]
      have e2 : updI (flB P Y c m N Z k) (ftN P Y c m N Z k).1.toNat (50 + (k : Int)) (ftN P Y c m N Z k).1.toNat = 50 + (k : Int) := if_pos rfl
      rw [e2]
    · rw [if_neg z, if_neg z, if_neg z]
      exact i
/-- new ones among the first a -/
def newI (v : Nat → Int) (a : Nat) : Int := if ∀ b, b < a → v b ≠ v a then 1 else 0
theorem unD_new {v : Nat → Int} {z : Int} : ∀ {a : Nat}, (∀ j, j < a → v j = -1 ∨ v j = z) → sumN (newI v) a = (unD v a).1 + (unD v a).2 ∧ ((unD v a).1 = 1 ↔ ∃ j, j < a ∧ v j ≠ -1) ∧ ((unD v a).2 = 1 ↔ ∃ j, j < a ∧ v j = -1) ∧ ((unD v a).1 = 0 ∨ (unD v a).1 = 1) ∧ ((unD v a).2 = 0 ∨ (unD v a).2 = 1)
  | 0, _ => ⟨rfl, ⟨fun z => absurd (show (0 : Int) = 1 from z) (by omega), fun ⟨j, hj, _⟩ => absurd hj (by omega)⟩, ⟨fun z => absurd (show (0 : Int) = 1 from z) (by omega), fun ⟨j, hj, _⟩ => absurd hj (by omega)⟩, Or.inl rfl, Or.inl rfl⟩
  | a + 1, h => by
    obtain ⟨i1, i2, i3, i4, i5⟩ := unD_new (v := v) (z := z) (a := a) (fun j hj => h j (by omega))
    have ha := h a (by omega)
    rw [sumN, unD, i1]
    by_cases c : v a = -1
    · rw [if_neg (fun w => w c)]
      show (unD v a).1 + (unD v a).2 + newI v a = (unD v a).1 + 1 ∧ ((unD v a).1 = 1 ↔ _) ∧ ((1 : Int) = 1 ↔ _) ∧ ((unD v a).1 = 0 ∨ (unD v a).1 = 1) ∧ ((1 : Int) = 0 ∨ (1 : Int) = 1)
      refine ⟨?_, ⟨fun w => ?_, fun ⟨j, hj, w⟩ => ?_⟩, ⟨fun _ => ⟨a, by omega, c⟩, fun _ => rfl⟩, i4, Or.inr rfl⟩
      · unfold newI
        by_cases c2 : (unD v a).2 = 1
        · obtain ⟨j, hj, e⟩ := i3.mp c2
          rw [if_neg (fun w => w j hj (by rw [e, c]))]
          omega
        · rw [if_pos (fun b hb e => c2 (i3.mpr ⟨b, hb, by rw [e, c]⟩))]
          omega
      · obtain ⟨j, hj, e⟩ := i2.mp w
        exact ⟨j, by omega, e⟩
      · refine i2.mpr ⟨j, ?_, w⟩
        by_cases ej : j = a
        · rw [ej] at w; exact absurd c w
        · omega
    · rw [if_pos c]
      show (unD v a).1 + (unD v a).2 + newI v a = 1 + (unD v a).2 ∧ ((1 : Int) = 1 ↔ _) ∧ ((unD v a).2 = 1 ↔ _) ∧ ((1 : Int) = 0 ∨ (1 : Int) = 1) ∧ ((unD v a).2 = 0 ∨ (unD v a).2 = 1)
      refine ⟨?_, ⟨fun _ => ⟨a, by omega, c⟩, fun _ => rfl⟩, ⟨fun w => ?_, fun ⟨j, hj, w⟩ => ?_⟩, Or.inr rfl, i5⟩
      · unfold newI
        have va : v a = z := by rcases ha with q | q; exact absurd q c; exact q
        by_cases c2 : (unD v a).1 = 1
        · obtain ⟨j, hj, e⟩ := i2.mp c2
          have vj := h j (by omega)
          rw [if_neg (fun w => w j hj (by rcases vj with q | q; exact absurd q e; rw [q, va]))]
          omega
        · rw [if_pos (fun b hb e => c2 (i2.mpr ⟨b, hb, by rw [e]; exact c⟩))]
          omega
      · obtain ⟨j, hj, e⟩ := i3.mp w
        exact ⟨j, by omega, e⟩
      · refine i3.mpr ⟨j, ?_, w⟩
        by_cases ej : j = a
        · rw [ej] at w; exact absurd w c
        · omega
end MODG

/-! THE REFERENCE, H: fits, look. -/
section MODH
variable {n : Nat} {T : Nat → Rw} {Y : Nat → Int} {lap bnd mrg : Int} {M : Mm}
/-- what is noted, as the reference holds it -/
def ntM (M : Mm) (n m : Nat) (N Z : Nat → Int) : Prop := M 154 60 = m ∧ m ≤ 8 ∧ ∀ i, i < m → (M 182 i = N i ∧ M 183 i = Z i) ∧ (0 ≤ N i ∧ N i < n) ∧ (-1 ≤ Z i ∧ Z i ≤ 900)
def fitsP : Nat → Nat → Prop := fun b j => growP b j ∨ b = 154 ∧ (j = 63 ∨ j = 64) ∨ b = 180 ∨ b = 184
/-- the loop over what is noted: is it all so? -/
def nOk (F : Nat → Int) (N Z : Nat → Int) (k : Nat) : Prop := ∀ i, i < k → F (N i).toNat = Z i
set_option maxHeartbeats 600000 in
set_option maxRecDepth 20000 in
theorem Model_tellFits_n {m k0 : Nat} {N Z F : Nat → Int} {Qc : Option AV → Mm → Prop} (h : mdl M n T F lap bnd mrg) (hn : ntM M n m N Z)
    (K : ∀ is : Int, (is = 1 ∧ nOk F N Z m ∨ is = 0 ∧ ¬ nOk F N Z m) → WPm m_Model_tellFits Qc 85 [some (.inr 154), some (.inl (k0 : Int)), some (.inl is), some (.inl (m : Int))] [] M) :
    WPm m_Model_tellFits Qc 41 [some (.inr 154), some (.inl (k0 : Int)), some (.inl 1), some (.inl 0)] [] M := by
  obtain ⟨e60, m8, hN⟩ := hn
  refine loopQ m (fun k ls M1 => M = M1 ∧ ∃ is : Int, (is = 1 ∧ nOk F N Z k ∨ is = 0 ∧ ¬ nOk F N Z k) ∧ ls = [some (.inr 154), some (.inl (k0 : Int)), some (.inl is), some (.inl (k : Int))]) ?_ _ _ ⟨rfl, 1, Or.inl ⟨rfl, fun i hi => by omega⟩, rfl⟩
  rintro k _ _ hk ⟨rfl, is, hi, rfl⟩ KK
  by_cases c : k = m
  · subst c
    have c' := eq_true (show (k : Int) ≤ k by omega)
    have K1 := K is hi
    refine wpm_of (cuts := [41, 85]) (by decide) 60 _ _ _ _ ?_
    simp (maxSteps := 2000000) only [↓reduceIte, wp_eq, wpd_eq, kont_eq, STP1, STP2, STP3, STP4, STP5, konM_eq, AMK, CZ, Option.map, List.getElem?_cons_zero, List.getElem?_cons_succ, List.mem_cons, List.not_mem_nil, if_false, if_true, Nat.reduceAdd, Nat.reduceLT, Nat.reduceLeDiff, Nat.reduceEqDiff, true_and, and_true, List.length_nil, List.length_cons, or_true, true_or, or_false, false_or, Option.some.injEq, Sum.inl.injEq, Sum.inr.injEq, exists_eq_left', exists_eq_left, Int.reduceLE, Int.reduceLT, Int.reduceNeg, Int.reduceAdd, Int.reduceMul, Int.reduceSub, Int.reduceToNat, inR, Nat.zero_ne_one, false_and, Nat.succ_ne_zero, reduceCtorEq, false_implies, true_implies, not_false_eq_true, not_true_eq_false, Int.reduceEq, KRE, C_Model_tellFits, FM, e60, c']
    repeat (first | refine ⟨by omega, ?_⟩ | refine ⟨fun _ _ => okt_nn (by omega), ?_⟩)
    try (first | (show _ ≤ _; omega) | (show _ < _; omega))
    exact K1
  · have hlt : k < m := by omega
    have c' := eq_false (show ¬ (m : Int) ≤ k by omega)
    obtain ⟨⟨n1, n2⟩, n3, n4⟩ := hN k hlt
    obtain ⟨t, et⟩ : ∃ t : Nat, N k = t := ⟨(N k).toNat, by omega⟩
    have ht : t < n := by omega
    have KK' := fun is z => KK hlt _ _ ⟨rfl, is, z, rfl⟩
    have gy := (mdl_t h ht).2.2.2.2.1
    rw [et] at n1
    rcases hi with ⟨rfl, hi⟩ | ⟨rfl, hi⟩
    · have one0 := eq_false (show ¬ (1 : Int) = 0 by omega)
      refine wpm_of (cuts := [41, 85]) (by decide) 60 _ _ _ _ ?_
      simp (maxSteps := 2000000) only [↓reduceIte, wp_eq, wpd_eq, kont_eq, STP1, STP2, STP3, STP4, STP5, konM_eq, AMK, CZ, Option.map, List.getElem?_cons_zero, List.getElem?_cons_succ, List.mem_cons, List.not_mem_nil, if_false, if_true, Nat.reduceAdd, Nat.reduceLT, Nat.reduceLeDiff, Nat.reduceEqDiff, true_and, and_true, List.length_nil, List.length_cons, or_true, true_or, or_false, false_or, Option.some.injEq, Sum.inl.injEq, Sum.inr.injEq, exists_eq_left', exists_eq_left, Int.reduceLE, Int.reduceLT, Int.reduceNeg, Int.reduceAdd, Int.reduceMul, Int.reduceSub, Int.reduceToNat, inR, Nat.zero_ne_one, false_and, Nat.succ_ne_zero, reduceCtorEq, false_implies, true_implies, not_false_eq_true, not_true_eq_false, Int.reduceEq, KRE, C_Model_tellFits, FM, e60, c', one0, natT, n1]
      repeat (first | refine ⟨by omega, ?_⟩ | refine ⟨fun _ _ => okt_nn (by omega), ?_⟩)
      try (first | (show _ ≤ _; omega) | (show _ < _; omega))
      refine (of_year h ht).eq ?_
      by_cases cz : F t = Z k
      · have cz' := eq_true cz
        have K2 := KK' 1 (Or.inl ⟨rfl, fun i hi2 => by
          by_cases e : i = k
          · rw [e, et]; exact cz
          · exact hi i (by omega)⟩)
        try simp (maxSteps := 2000000) only [↓reduceIte, wp_eq, wpd_eq, kont_eq, STP1, STP2, STP3, STP4, STP5, konM_eq, AMK, CZ, Option.map, List.getElem?_cons_zero, List.getElem?_cons_succ, List.mem_cons, List.not_mem_nil, if_false, if_true, Nat.reduceAdd, Nat.reduceLT, Nat.reduceLeDiff, Nat.reduceEqDiff, true_and, and_true, List.length_nil, List.length_cons, or_true, true_or, or_false, false_or, Option.some.injEq, Sum.inl.injEq, Sum.inr.injEq, exists_eq_left', exists_eq_left, Int.reduceLE, Int.reduceLT, Int.reduceNeg, Int.reduceAdd, Int.reduceMul, Int.reduceSub, Int.reduceToNat, inR, Nat.zero_ne_one, false_and, Nat.succ_ne_zero, reduceCtorEq, false_implies, true_implies, not_false_eq_true, not_true_eq_false, Int.reduceEq, KRE, C_Model_tellFits, FM, natT, n2, cz']
        repeat (first | refine ⟨by omega, ?_⟩ | refine ⟨fun _ _ => okt_nn (by omega), ?_⟩)
        try (first | (show _ ≤ _; omega) | (show _ < _; omega))
        exact K2
      · have cz' := eq_false cz
        have K2 := KK' 0 (Or.inr ⟨rfl, fun w => cz (by have := w k (by omega); rw [et] at this; exact this)⟩)
        try simp (maxSteps := 2000000) only [↓reduceIte, wp_eq, wpd_eq, kont_eq, STP1, STP2, STP3, STP4, STP5, konM_eq, AMK, CZ, Option.map, List.getElem?_cons_zero, List.getElem?_cons_succ, List.mem_cons, List.not_mem_nil, if_false, if_true, Nat.reduceAdd, Nat.reduceLT, Nat.reduceLeDiff, Nat.reduceEqDiff, true_and, and_true, List.length_nil, List.length_cons, or_true, true_or, or_false, false_or, Option.some.injEq, Sum.inl.injEq, Sum.inr.injEq, exists_eq_left', exists_eq_left, Int.reduceLE, Int.reduceLT, Int.reduceNeg, Int.reduceAdd, Int.reduceMul, Int.reduceSub, Int.reduceToNat, inR, Nat.zero_ne_one, false_and, Nat.succ_ne_zero, reduceCtorEq, false_implies, true_implies, not_false_eq_true, not_true_eq_false, Int.reduceEq, KRE, C_Model_tellFits, FM, natT, n2, cz']
        repeat (first | refine ⟨by omega, ?_⟩ | refine ⟨fun _ _ => okt_nn (by omega), ?_⟩)
        try (first | (show _ ≤ _; omega) | (show _ < _; omega))
        exact K2
    · have K2 := KK' 0 (Or.inr ⟨rfl, fun w => hi (fun i hi2 => w i (by omega))⟩)
      refine wpm_of (cuts := [41, 85]) (by decide) 60 _ _ _ _ ?_
      simp (maxSteps := 2000000) only [↓reduceIte, wp_eq, wpd_eq, kont_eq, STP1, STP2, STP3, STP4, STP5, konM_eq, AMK, CZ, Option.map, List.getElem?_cons_zero, List.getElem?_cons_succ, List.mem_cons, List.not_mem_nil, if_false, if_true, Nat.reduceAdd, Nat.reduceLT, Nat.reduceLeDiff, Nat.reduceEqDiff, true_and, and_true, List.length_nil, List.length_cons, or_true, true_or, or_false, false_or, Option.some.injEq, Sum.inl.injEq, Sum.inr.injEq, exists_eq_left', exists_eq_left, Int.reduceLE, Int.reduceLT, Int.reduceNeg, Int.reduceAdd, Int.reduceMul, Int.reduceSub, Int.reduceToNat, inR, Nat.zero_ne_one, false_and, Nat.succ_ne_zero, reduceCtorEq, false_implies, true_implies, not_false_eq_true, not_true_eq_false, Int.reduceEq, KRE, C_Model_tellFits, FM, e60, c', natT, n1]
      repeat (first | refine ⟨by omega, ?_⟩ | refine ⟨fun _ _ => okt_nn (by omega), ?_⟩)
      try (first | (show _ ≤ _; omega) | (show _ < _; omega))
      exact K2
set_option maxHeartbeats 4000000 in
/-- the years of one that fits are kept -/
theorem Model_tellFits_y {k0 q : Nat} {F : Nat → Int} {Qc : Option AV → Mm → Prop} {a3 : Int} (h : mdl M n T F lap bnd mrg) (hq : M 154 63 = q) (q50 : q ≤ 50)
    (K : ∀ M', FrP (fun b j => b = 184 ∧ 8 * q ≤ j) M M' → (∀ t, t < n → M' 184 (8 * q + t) = F t) → WPm m_Model_tellFits Qc 127 [some (.inr 154), some (.inl (k0 : Int)), some (.inl 1), some (.inl (n : Int))] [] M') :
    WPm m_Model_tellFits Qc 85 [some (.inr 154), some (.inl (k0 : Int)), some (.inl 1), some (.inl a3)] [] M := by
  have n8 := h.1.2
  have one0 := eq_false (show ¬ (1 : Int) = 0 by omega)
  refine wpm_of (cuts := [87]) (by decide) 60 _ _ _ _ ?_
  simp (maxSteps := 2000000) only [↓reduceIte, wp_eq, wpd_eq, kont_eq, STP1, STP2, STP3, STP4, STP5, konM_eq, AMK, CZ, Option.map, List.getElem?_cons_zero, List.getElem?_cons_succ, List.mem_cons, List.not_mem_nil, if_false, if_true, Nat.reduceAdd, Nat.reduceLT, Nat.reduceLeDiff, Nat.reduceEqDiff, true_and, and_true, List.length_nil, List.length_cons, or_true, true_or, or_false, false_or, Option.some.injEq, Sum.inl.injEq, Sum.inr.injEq, exists_eq_left', exists_eq_left, Int.reduceLE, Int.reduceLT, Int.reduceNeg, Int.reduceAdd, Int.reduceMul, Int.reduceSub, Int.reduceToNat, inR, Nat.zero_ne_one, false_and, Nat.succ_ne_zero, reduceCtorEq, false_implies, true_implies, not_false_eq_true, not_true_eq_false, Int.reduceEq, KRE, C_Model_tellFits, FM]
  refine loopQ n (fun t ls M1 => (FrP (fun b j => b = 184 ∧ 8 * q ≤ j) M M1 ∧ ∀ s, s < t → M1 184 (8 * q + s) = F s) ∧ ls = [some (.inr 154), some (.inl (k0 : Int)), some (.inl 1), some (.inl (t : Int))]) ?_ _ _ ⟨⟨FrP.rf, fun s hs => by omega⟩, rfl⟩
  rintro t _ M1 ht ⟨⟨Fr1, hs⟩, rfl⟩ KK
  have h1 := mdl_fr h Fr1 (fun b j z => by omega)
  have en := h1.1.1
  have e63 : M1 154 63 = q := (Fr1 _ _ (by omega)).trans hq
  by_cases c : t = n
  · subst c
    have c' := eq_true (show (t : Int) ≤ t by omega)
    have K1 := K M1 Fr1 hs
    refine wpm_of (cuts := [87, 127]) (by decide) 60 _ _ _ _ ?_
    simp (maxSteps := 2000000) only [↓reduceIte, wp_eq, wpd_eq, kont_eq, STP1, STP2, STP3, STP4, STP5, konM_eq, AMK, CZ, Option.map, List.getElem?_cons_zero, List.getElem?_cons_succ, List.mem_cons, List.not_mem_nil, if_false, if_true, Nat.reduceAdd, Nat.reduceLT, Nat.reduceLeDiff, Nat.reduceEqDiff, true_and, and_true, List.length_nil, List.length_cons, or_true, true_or, or_false, false_or, Option.some.injEq, Sum.inl.injEq, Sum.inr.injEq, exists_eq_left', exists_eq_left, Int.reduceLE, Int.reduceLT, Int.reduceNeg, Int.reduceAdd, Int.reduceMul, Int.reduceSub, Int.reduceToNat, inR, Nat.zero_ne_one, false_and, Nat.succ_ne_zero, reduceCtorEq, false_implies, true_implies, not_false_eq_true, not_true_eq_false, Int.reduceEq, KRE, C_Model_tellFits, FM, en, c']
    repeat (first | refine ⟨by omega, ?_⟩ | refine ⟨fun _ _ => okt_nn (by omega), ?_⟩)
    try (first | (show _ ≤ _; omega) | (show _ < _; omega))
    exact K1
  · have hlt : t < n := by omega
    have c' := eq_false (show ¬ (n : Int) ≤ t by omega)
    have ix : (8 * (q : Int) + (t : Int)).toNat = 8 * q + t := by omega
    refine wpm_of (cuts := [87, 127]) (by decide) 60 _ _ _ _ ?_
    simp (maxSteps := 2000000) only [↓reduceIte, wp_eq, wpd_eq, kont_eq, STP1, STP2, STP3, STP4, STP5, konM_eq, AMK, CZ, Option.map, List.getElem?_cons_zero, List.getElem?_cons_succ, List.mem_cons, List.not_mem_nil, if_false, if_true, Nat.reduceAdd, Nat.reduceLT, Nat.reduceLeDiff, Nat.reduceEqDiff, true_and, and_true, List.length_nil, List.length_cons, or_true, true_or, or_false, false_or, Option.some.injEq, Sum.inl.injEq, Sum.inr.injEq, exists_eq_left', exists_eq_left, Int.reduceLE, Int.reduceLT, Int.reduceNeg, Int.reduceAdd, Int.reduceMul, Int.reduceSub, Int.reduceToNat, inR, Nat.zero_ne_one, false_and, Nat.succ_ne_zero, reduceCtorEq, false_implies, true_implies, not_false_eq_true, not_true_eq_false, Int.reduceEq, KRE, C_Model_tellFits, FM, en, c', one0, e63]
    repeat (first | refine ⟨by omega, ?_⟩ | refine ⟨fun _ _ => okt_nn (by omega), ?_⟩)
    try (first | (show _ ≤ _; omega) | (show _ < _; omega))
    refine (of_year h1 hlt).eq ?_
    have KK' := KK hlt _ (mset M1 184 (8 * q + t) (F t)) ⟨⟨Fr1.st ⟨rfl, by omega⟩, fun s hs2 => ?_⟩, rfl⟩
    · try simp (maxSteps := 2000000) only [↓reduceIte, wp_eq, wpd_eq, kont_eq, STP1, STP2, STP3, STP4, STP5, konM_eq, AMK, CZ, Option.map, List.getElem?_cons_zero, List.getElem?_cons_succ, List.mem_cons, List.not_mem_nil, if_false, if_true, Nat.reduceAdd, Nat.reduceLT, Nat.reduceLeDiff, Nat.reduceEqDiff, true_and, and_true, List.length_nil, List.length_cons, or_true, true_or, or_false, false_or, Option.some.injEq, Sum.inl.injEq, Sum.inr.injEq, exists_eq_left', exists_eq_left, Int.reduceLE, Int.reduceLT, Int.reduceNeg, Int.reduceAdd, Int.reduceMul, Int.reduceSub, Int.reduceToNat, inR, Nat.zero_ne_one, false_and, Nat.succ_ne_zero, reduceCtorEq, false_implies, true_implies, not_false_eq_true, not_true_eq_false, Int.reduceEq, KRE, C_Model_tellFits, FM, ix]
      repeat (first | refine ⟨by omega, ?_⟩ | refine ⟨fun _ _ => okt_nn (by omega), ?_⟩)
      try (first | (show _ ≤ _; omega) | (show _ < _; omega))
      exact KK'
    · simp only [mset]
      by_cases e : s = t
      · subst e
        simp
      · rw [if_neg (by omega)]
        exact hs s (by omega)
/-- what has come of the first k bounds -/
def fitIs (M : Mm) (P : Nat → Pk) (Y : Nat → Int) (n c m : Nat) (N Z : Nat → Int) (k : Nat) : Prop := M 154 63 = (ftN P Y c m N Z k).1 ∧ M 154 64 = (ftN P Y c m N Z k).2 ∧ ∀ a : Nat, (a : Int) < (ftN P Y c m N Z k).1 → ∀ t, t < n → M 184 (8 * a + t) = ybS P Y c t (flB P Y c m N Z k a)
set_option maxHeartbeats 600000 in
set_option maxRecDepth 20000 in
theorem Model_tellFits_s {m c k : Nat} {N Z : Nat → Int} {M0 : Mm} {a2 a3 : Option AV} {Qc : Option AV → Mm → Prop} (h : mdl M n T Y lap bnd mrg) (hn : ntM M n m N Z) (hc : gwC T lap 50 mrg n Y c) (hk : k < 51) (h80 : ∀ j, j < 240 → M 180 j = M 158 j) (hf : fitIs M (gwP T lap 50 mrg n Y) Y n c m N Z k)
    (K : ∀ a2 a3 M', FrP fitsP M M' → (∀ j, M' 180 j = M 180 j) → fitIs M' (gwP T lap 50 mrg n Y) Y n c m N Z (k + 1) → WPm m_Model_tellFits Qc 23 [some (.inr 154), some (.inl ((k + 1 : Nat) : Int)), a2, a3] [] M') :
    WPm m_Model_tellFits Qc 23 [some (.inr 154), some (.inl (k : Int)), a2, a3] [] M := by
  have n8 := h.1.2
  have hoc := h.2.2.2
  have c' := eq_false (show ¬ (51 : Int) ≤ k by omega)
  have ft := ftN_in (gwP T lap 50 mrg n Y) Y c m N Z k
  obtain ⟨f1, f2, f3⟩ := hf
  have hn' := hn
  obtain ⟨n1, n2, n3⟩ := hn'
  refine wpm_of (cuts := [23, 41, 127]) (by decide) 60 _ _ _ _ ?_
  simp (maxSteps := 2000000) only [↓reduceIte, wp_eq, wpd_eq, kont_eq, STP1, STP2, STP3, STP4, STP5, konM_eq, AMK, CZ, Option.map, List.getElem?_cons_zero, List.getElem?_cons_succ, List.mem_cons, List.not_mem_nil, if_false, if_true, Nat.reduceAdd, Nat.reduceLT, Nat.reduceLeDiff, Nat.reduceEqDiff, true_and, and_true, List.length_nil, List.length_cons, or_true, true_or, or_false, false_or, Option.some.injEq, Sum.inl.injEq, Sum.inr.injEq, exists_eq_left', exists_eq_left, Int.reduceLE, Int.reduceLT, Int.reduceNeg, Int.reduceAdd, Int.reduceMul, Int.reduceSub, Int.reduceToNat, inR, Nat.zero_ne_one, false_and, Nat.succ_ne_zero, reduceCtorEq, false_implies, true_implies, not_false_eq_true, not_true_eq_false, Int.reduceEq, KRE, C_Model_tellFits, FM, c']
  repeat (first | refine ⟨by omega, ?_⟩ | refine ⟨fun _ _ => okt_nn (by omega), ?_⟩)
  try (first | (show _ ≤ _; omega) | (show _ < _; omega))
  refine (Model_growNow_ok (least := 50 + (k : Int)) h (by omega)).mono (fun M1 z => ?_)
  obtain ⟨d, hd, g1, g2, F1⟩ := z
  have ey := fun t => gw_yb (t := t) hoc (by omega) hc g1
  have ok1 := (gwY_ok (lap := lap) (bnd := 50 + (k : Int)) (mrg := mrg) hoc d).1
  have hm1 : mdl M1 n T (gwY T lap (50 + (k : Int)) mrg n Y d) lap bnd mrg := by
    refine mdl_yr h (fun j => ?_) (fun t ht q hq hq4 => ?_) (fun t ht => ?_) ok1
    · rw [F1 _ _ (by unfold growP; omega)]; simp [mYM]
    · rw [F1 _ _ (by unfold growP; omega)]
      simp only [mYM]
      rw [if_neg (by omega)]
    · rw [F1 _ _ (by unfold growP; omega)]
      show (if 158 = 158 ∧ (30 * t + 4) % 30 = 4 ∧ (30 * t + 4) / 30 < n then _ else _) = _
      rw [if_pos ⟨rfl, by omega, by omega⟩]
      congr 1
      omega
  have o1 : ∀ b j, ¬ growP b j → b ≠ 158 → M1 b j = M b j := fun b j z z2 => by rw [F1 _ _ z]; simp [mYM, z2]
  have hn1 : ntM M1 n m N Z := ⟨(o1 _ _ (by unfold growP; omega) (by omega)).trans n1, n2, fun i hi => by
    rw [o1 _ _ (by unfold growP; omega) (by omega), o1 _ _ (by unfold growP; omega) (by omega)]
    exact n3 i hi⟩
  have F1' : FrP (fun b j => fitsP b j ∨ b = 158 ∧ j < 240) M M1 := by
    intro b j z
    have z1 : ¬ growP b j := fun w => z (Or.inl (Or.inl w))
    by_cases cb : b = 158
    · rw [F1 _ _ z1]
      subst cb
      simp only [mYM]
      rw [if_neg (fun w => z (Or.inr ⟨rfl, by omega⟩))]
    · exact o1 b j z1 cb
  have ag : nOk (gwY T lap (50 + (k : Int)) mrg n Y d) N Z m ↔ agS (gwP T lap 50 mrg n Y) Y c m N Z (50 + k) := by
    unfold nOk agS
    refine forall_congr' (fun i => imp_congr_right (fun hi => ?_))
    rw [ey]
    have := (n3 i hi).2.1
    rw [show (((N i).toNat : Nat) : Int) = N i by omega]
  try simp (maxSteps := 2000000) only [↓reduceIte, wp_eq, wpd_eq, kont_eq, STP1, STP2, STP3, STP4, STP5, konM_eq, AMK, CZ, Option.map, List.getElem?_cons_zero, List.getElem?_cons_succ, List.mem_cons, List.not_mem_nil, if_false, if_true, Nat.reduceAdd, Nat.reduceLT, Nat.reduceLeDiff, Nat.reduceEqDiff, true_and, and_true, List.length_nil, List.length_cons, or_true, true_or, or_false, false_or, Option.some.injEq, Sum.inl.injEq, Sum.inr.injEq, exists_eq_left', exists_eq_left, Int.reduceLE, Int.reduceLT, Int.reduceNeg, Int.reduceAdd, Int.reduceMul, Int.reduceSub, Int.reduceToNat, inR, Nat.zero_ne_one, false_and, Nat.succ_ne_zero, reduceCtorEq, false_implies, true_implies, not_false_eq_true, not_true_eq_false, Int.reduceEq, KRE, C_Model_tellFits, FM]
  refine Model_tellFits_n hm1 hn1 (fun is his => ?_)
  have bk := fun {M2 : Mm} (f : FrP (fun b j => fitsP b j ∨ b = 158 ∧ j < 240) M M2) (f8 : ∀ j, M2 180 j = M 180 j) => (fun b j (z : ¬ fitsP b j) => by
    by_cases cc : b = 158 ∧ j < 240
    · obtain ⟨rfl, c2⟩ := cc
      have e : mCpR M2 158 180 240 158 j = M2 180 j := by simp [mCpR, c2]
      rw [e, f8 j, h80 j c2]
    · have e : mCpR M2 158 180 240 b j = M2 b j := by simp only [mCpR]; rw [if_neg cc]
      rw [e, f b j (fun w => by rcases w with w | w; exact z w; exact cc w)] : FrP fitsP M (mCpR M2 158 180 240))
  rcases his with ⟨rfl, his⟩ | ⟨rfl, his⟩
  · have hag := ag.mp his
    obtain ⟨q, eq1⟩ : ∃ q : Nat, (ftN (gwP T lap 50 mrg n Y) Y c m N Z k).1 = q := ⟨_, (Int.toNat_of_nonneg ft.1.1).symm⟩
    have q51 : q ≤ k := by omega
    refine Model_tellFits_y (q := q) hm1 (by rw [o1 _ _ (by unfold growP; omega) (by omega), f1, eq1]) (by omega) (fun M2 F2 hy => ?_)
    have one0 := eq_false (show ¬ (1 : Int) = 0 by omega)
    have F2' : FrP (fun b j => fitsP b j ∨ b = 158 ∧ j < 240) M M2 := F1'.tr (F2.wd (fun b j z => by unfold fitsP; omega))
    have f8 : ∀ j, M2 180 j = M 180 j := fun j => (F2 _ _ (by omega)).trans (o1 _ _ (by unfold growP; omega) (by omega))
    have FB := bk F2' f8
    have e63 : mCpR M2 158 180 240 154 63 = (q : Int) := by
      have e : mCpR M2 158 180 240 154 63 = M2 154 63 := by simp [mCpR]
      rw [e, F2 _ _ (by omega), o1 _ _ (by unfold growP; omega) (by omega), f1, eq1]
    have e64 : mCpR M2 158 180 240 154 64 = (ftN (gwP T lap 50 mrg n Y) Y c m N Z k).2 := by
      have e : mCpR M2 158 180 240 154 64 = M2 154 64 := by simp [mCpR]
      rw [e, F2 _ _ (by omega), o1 _ _ (by unfold growP; omega) (by omega), f2]
    have e84 : ∀ j, mCpR M2 158 180 240 184 j = M2 184 j := fun j => by simp [mCpR]
    have e80 : ∀ j, mCpR M2 158 180 240 180 j = M 180 j := fun j => by
      have e : mCpR M2 158 180 240 180 j = M2 180 j := by simp [mCpR]
      rw [e]; exact f8 j
    refine wpm_of (cuts := [23]) (by decide) 60 _ _ _ _ ?_
    simp (maxSteps := 2000000) only [↓reduceIte, wp_eq, wpd_eq, kont_eq, STP1, STP2, STP3, STP4, STP5, konM_eq, AMK, CZ, Option.map, List.getElem?_cons_zero, List.getElem?_cons_succ, List.mem_cons, List.not_mem_nil, if_false, if_true, Nat.reduceAdd, Nat.reduceLT, Nat.reduceLeDiff, Nat.reduceEqDiff, true_and, and_true, List.length_nil, List.length_cons, or_true, true_or, or_false, false_or, Option.some.injEq, Sum.inl.injEq, Sum.inr.injEq, exists_eq_left', exists_eq_left, Int.reduceLE, Int.reduceLT, Int.reduceNeg, Int.reduceAdd, Int.reduceMul, Int.reduceSub, Int.reduceToNat, inR, Nat.zero_ne_one, false_and, Nat.succ_ne_zero, reduceCtorEq, false_implies, true_implies, not_false_eq_true, not_true_eq_false, Int.reduceEq, KRE, C_Model_tellFits, FM, one0]
    refine (Model_copyTo_ok (a := 158) (f := 180) (n := 240) (by simp only [FM]) (by simp only [FM]) (by omega) (by omega)).eq ?_
    generalize mCpR M2 158 180 240 = M3 at *
    have fin : ∀ L : Int, L = (if (ftN (gwP T lap 50 mrg n Y) Y c m N Z k).2 = -1 then 50 + (k : Int) else (ftN (gwP T lap 50 mrg n Y) Y c m N Z k).2) → WPm m_Model_tellFits Qc 23 [some (.inr 154), some (.inl ((k + 1 : Nat) : Int)), some (.inl 1), some (.inl (n : Int))] [] (mset (mset M3 154 64 L) 154 63 ((q : Int) + 1)) := by
      intro L hL
      refine K _ _ _ ((FB.st (by unfold fitsP; omega)).st (by unfold fitsP; omega)) (fun j => by simp only [mset]; rw [if_neg (by omega), if_neg (by omega)]; exact e80 j) ⟨?_, ?_, fun a ha t ht => ?_⟩
      · rw [ftN_s, if_pos hag, eq1]; simp [mset]
      · rw [ftN_s, if_pos hag, ← hL]; simp [mset]
      · rw [ftN_s, if_pos hag, eq1] at ha
        have ha' : (a : Int) < q + 1 := ha
        have e : mset (mset M3 154 64 L) 154 63 ((q : Int) + 1) 184 (8 * a + t) = M2 184 (8 * a + t) := by
          simp only [mset]
          rw [if_neg (by omega), if_neg (by omega)]
          exact e84 _
        rw [e, flB, if_pos hag, eq1]
        unfold updI
        by_cases ea : a = q
        · subst ea
          rw [hy t ht, ey, if_pos (by omega)]
        · rw [if_neg (by omega), F2 _ _ (by omega), o1 _ _ (by unfold growP; omega) (by omega)]
          exact f3 a (by omega) t ht
    have fl := ft.2
    by_cases cl : (ftN (gwP T lap 50 mrg n Y) Y c m N Z k).2 = -1
    · have cl' := eq_true cl
      have G := fin (50 + (k : Int)) (by rw [if_pos cl])
      have m63 : ∀ v, mset M3 154 64 v 154 63 = (q : Int) := fun v => by rw [← e63]; simp [mset]
      try simp (maxSteps := 2000000) only [↓reduceIte, wp_eq, wpd_eq, kont_eq, STP1, STP2, STP3, STP4, STP5, konM_eq, AMK, CZ, Option.map, List.getElem?_cons_zero, List.getElem?_cons_succ, List.mem_cons, List.not_mem_nil, if_false, if_true, Nat.reduceAdd, Nat.reduceLT, Nat.reduceLeDiff, Nat.reduceEqDiff, true_and, and_true, List.length_nil, List.length_cons, or_true, true_or, or_false, false_or, Option.some.injEq, Sum.inl.injEq, Sum.inr.injEq, exists_eq_left', exists_eq_left, Int.reduceLE, Int.reduceLT, Int.reduceNeg, Int.reduceAdd, Int.reduceMul, Int.reduceSub, Int.reduceToNat, inR, Nat.zero_ne_one, false_and, Nat.succ_ne_zero, reduceCtorEq, false_implies, true_implies, not_false_eq_true, not_true_eq_false, Int.reduceEq, KRE, C_Model_tellFits, FM, e64, cl', m63]
      repeat (first | refine ⟨by omega, ?_⟩ | refine ⟨fun _ _ => okt_nn (by omega), ?_⟩)
      try (first | (show _ ≤ _; omega) | (show _ < _; omega))
      exact G
    · have cl' := eq_false cl
      have G := fin _ (by rw [if_neg cl])
      have m63 : ∀ v, mset M3 154 64 v 154 63 = (q : Int) := fun v => by rw [← e63]; simp [mset]
      try simp (maxSteps := 2000000) only [↓reduceIte, wp_eq, wpd_eq, kont_eq, STP1, STP2, STP3, STP4, STP5, konM_eq, AMK, CZ, Option.map, List.getElem?_cons_zero, List.getElem?_cons_succ, List.mem_cons, List.not_mem_nil, if_false, if_true, Nat.reduceAdd, Nat.reduceLT, Nat.reduceLeDiff, Nat.reduceEqDiff, true_and, and_true, List.length_nil, List.length_cons, or_true, true_or, or_false, false_or, Option.some.injEq, Sum.inl.injEq, Sum.inr.injEq, exists_eq_left', exists_eq_left, Int.reduceLE, Int.reduceLT, Int.reduceNeg, Int.reduceAdd, Int.reduceMul, Int.reduceSub, Int.reduceToNat, inR, Nat.zero_ne_one, false_and, Nat.succ_ne_zero, reduceCtorEq, false_implies, true_implies, not_false_eq_true, not_true_eq_false, Int.reduceEq, KRE, C_Model_tellFits, FM, e64, cl', m63]
      repeat (first | refine ⟨by omega, ?_⟩ | refine ⟨fun _ _ => okt_nn (by omega), ?_⟩)
      try (first | (show _ ≤ _; omega) | (show _ < _; omega))
      exact G
  · have hag : ¬ agS (gwP T lap 50 mrg n Y) Y c m N Z (50 + k) := fun w => his (ag.mpr w)
    have f8 : ∀ j, M1 180 j = M 180 j := fun j => o1 _ _ (by unfold growP; omega) (by omega)
    have FB := bk F1' f8
    have en1 := hm1.1.1
    have eo : ∀ b j, b ≠ 158 → mCpR M1 158 180 240 b j = M1 b j := fun b j hb => by simp [mCpR, hb]
    have G : ∀ a3, WPm m_Model_tellFits Qc 23 [some (.inr 154), some (.inl ((k + 1 : Nat) : Int)), some (.inl 0), a3] [] (mCpR M1 158 180 240) := by
      intro a3
      refine K _ _ _ FB (fun j => by rw [eo _ _ (by omega)]; exact f8 j) ⟨?_, ?_, fun a ha t ht => ?_⟩
      · rw [ftN_s, if_neg hag, eo _ _ (by omega), o1 _ _ (by unfold growP; omega) (by omega)]; exact f1
      · rw [ftN_s, if_neg hag, eo _ _ (by omega), o1 _ _ (by unfold growP; omega) (by omega)]; exact f2
      · rw [ftN_s, if_neg hag] at ha
        rw [flB, if_neg hag, eo _ _ (by omega), o1 _ _ (by unfold growP; omega) (by omega)]
        exact f3 a ha t ht
    by_cases cn : n = 0
    · have cn' := eq_true (show (n : Int) ≤ 0 by omega)
      refine wpm_of (cuts := [23]) (by decide) 60 _ _ _ _ ?_
      simp (maxSteps := 2000000) only [↓reduceIte, wp_eq, wpd_eq, kont_eq, STP1, STP2, STP3, STP4, STP5, konM_eq, AMK, CZ, Option.map, List.getElem?_cons_zero, List.getElem?_cons_succ, List.mem_cons, List.not_mem_nil, if_false, if_true, Nat.reduceAdd, Nat.reduceLT, Nat.reduceLeDiff, Nat.reduceEqDiff, true_and, and_true, List.length_nil, List.length_cons, or_true, true_or, or_false, false_or, Option.some.injEq, Sum.inl.injEq, Sum.inr.injEq, exists_eq_left', exists_eq_left, Int.reduceLE, Int.reduceLT, Int.reduceNeg, Int.reduceAdd, Int.reduceMul, Int.reduceSub, Int.reduceToNat, inR, Nat.zero_ne_one, false_and, Nat.succ_ne_zero, reduceCtorEq, false_implies, true_implies, not_false_eq_true, not_true_eq_false, Int.reduceEq, KRE, C_Model_tellFits, FM, en1, cn']
      repeat (first | refine ⟨by omega, ?_⟩ | refine ⟨fun _ _ => okt_nn (by omega), ?_⟩)
      try (first | (show _ ≤ _; omega) | (show _ < _; omega))
      refine (Model_copyTo_ok (a := 158) (f := 180) (n := 240) (by simp only [FM]) (by simp only [FM]) (by omega) (by omega)).eq ?_
      exact G _
    · have cn' := eq_false (show ¬ (n : Int) ≤ 0 by omega)
      refine wpm_of (cuts := [23]) (by decide) 60 _ _ _ _ ?_
      simp (maxSteps := 2000000) only [↓reduceIte, wp_eq, wpd_eq, kont_eq, STP1, STP2, STP3, STP4, STP5, konM_eq, AMK, CZ, Option.map, List.getElem?_cons_zero, List.getElem?_cons_succ, List.mem_cons, List.not_mem_nil, if_false, if_true, Nat.reduceAdd, Nat.reduceLT, Nat.reduceLeDiff, Nat.reduceEqDiff, true_and, and_true, List.length_nil, List.length_cons, or_true, true_or, or_false, false_or, Option.some.injEq, Sum.inl.injEq, Sum.inr.injEq, exists_eq_left', exists_eq_left, Int.reduceLE, Int.reduceLT, Int.reduceNeg, Int.reduceAdd, Int.reduceMul, Int.reduceSub, Int.reduceToNat, inR, Nat.zero_ne_one, false_and, Nat.succ_ne_zero, reduceCtorEq, false_implies, true_implies, not_false_eq_true, not_true_eq_false, Int.reduceEq, KRE, C_Model_tellFits, FM, en1, cn']
      repeat (first | refine ⟨by omega, ?_⟩ | refine ⟨fun _ _ => okt_nn (by omega), ?_⟩)
      try (first | (show _ ≤ _; omega) | (show _ < _; omega))
      refine (Model_copyTo_ok (a := 158) (f := 180) (n := 240) (by simp only [FM]) (by simp only [FM]) (by omega) (by omega)).eq ?_
      exact G _
set_option maxHeartbeats 600000 in
set_option maxRecDepth 20000 in
theorem Model_tellFits_ok {m c : Nat} {N Z : Nat → Int} (h : mdl M n T Y lap bnd mrg) (hn : ntM M n m N Z) (hc : gwC T lap 50 mrg n Y c) : CallV m_Model_tellFits [.inr 154] M (fun M' => fitIs M' (gwP T lap 50 mrg n Y) Y n c m N Z 51 ∧ FrP fitsP M M') := by
  refine callP_of (by decide) (by decide) (Nat.le_of_ble_eq_true rfl) (wpm_of (cuts := [23]) (by decide) 60 _ _ _ _ ?_)
  rw [show lM m_Model_tellFits = 4 from rfl]
  simp (maxSteps := 2000000) only [↓reduceIte, wp_eq, wpd_eq, kont_eq, STP1, STP2, STP3, STP4, STP5, konM_eq, AMK, CZ, Option.map, List.getElem?_cons_zero, List.getElem?_cons_succ, List.mem_cons, List.not_mem_nil, if_false, if_true, Nat.reduceAdd, Nat.reduceLT, Nat.reduceLeDiff, Nat.reduceEqDiff, true_and, and_true, List.length_nil, List.length_cons, or_true, true_or, or_false, false_or, Option.some.injEq, Sum.inl.injEq, Sum.inr.injEq, exists_eq_left', exists_eq_left, Int.reduceLE, Int.reduceLT, Int.reduceNeg, Int.reduceAdd, Int.reduceMul, Int.reduceSub, Int.reduceToNat, inR, Nat.zero_ne_one, false_and, Nat.succ_ne_zero, reduceCtorEq, false_implies, true_implies, not_false_eq_true, not_true_eq_false, Int.reduceEq, KRE, C_Model_tellFits, FM]
  refine (Model_copyTo_ok (a := 180) (f := 158) (n := 240) (by simp only [FM]) (by simp only [FM]) (by omega) (by omega)).eq ?_
  have F0 : FrP fitsP M (mCpR (mset (mset M 154 63 0) 154 64 (-1)) 180 158 240) := by
    intro b j z
    unfold fitsP at z
    simp only [mCpR, mset]
    rw [if_neg (by omega), if_neg (by omega), if_neg (by omega)]
  have h80 : ∀ j, j < 240 → mCpR (mset (mset M 154 63 0) 154 64 (-1)) 180 158 240 180 j = mCpR (mset (mset M 154 63 0) 154 64 (-1)) 180 158 240 158 j := fun j hj => by simp [mCpR, hj]
  have hf0 : fitIs (mCpR (mset (mset M 154 63 0) 154 64 (-1)) 180 158 240) (gwP T lap 50 mrg n Y) Y n c m N Z 0 := ⟨by simp [mCpR, mset, ftN, foldN], by simp [mCpR, mset, ftN, foldN], fun a ha => absurd (show (a : Int) < 0 from ha) (by omega)⟩
  generalize mCpR (mset (mset M 154 63 0) 154 64 (-1)) 180 158 240 = M0 at *
  have sep : ∀ b j, fitsP b j → b ≠ 156 ∧ b ≠ 158 := fun b j z => by unfold fitsP growP at z; omega
  try simp (maxSteps := 2000000) only [↓reduceIte, wp_eq, wpd_eq, kont_eq, STP1, STP2, STP3, STP4, STP5, konM_eq, AMK, CZ, Option.map, List.getElem?_cons_zero, List.getElem?_cons_succ, List.mem_cons, List.not_mem_nil, if_false, if_true, Nat.reduceAdd, Nat.reduceLT, Nat.reduceLeDiff, Nat.reduceEqDiff, true_and, and_true, List.length_nil, List.length_cons, or_true, true_or, or_false, false_or, Option.some.injEq, Sum.inl.injEq, Sum.inr.injEq, exists_eq_left', exists_eq_left, Int.reduceLE, Int.reduceLT, Int.reduceNeg, Int.reduceAdd, Int.reduceMul, Int.reduceSub, Int.reduceToNat, inR, Nat.zero_ne_one, false_and, Nat.succ_ne_zero, reduceCtorEq, false_implies, true_implies, not_false_eq_true, not_true_eq_false, Int.reduceEq, KRE, C_Model_tellFits, FM]
  refine loopQ 51 (fun k ls M1 => (FrP fitsP M M1 ∧ (∀ j, j < 240 → M1 180 j = M1 158 j) ∧ fitIs M1 (gwP T lap 50 mrg n Y) Y n c m N Z k) ∧ ∃ a2 a3, ls = [some (.inr 154), some (.inl (k : Int)), a2, a3]) ?_ _ _ ⟨⟨F0, h80, hf0⟩, none, none, rfl⟩
  rintro k _ M1 hk ⟨⟨F, h801, hf⟩, a2, a3, rfl⟩ KK
  by_cases ck : k = 51
  · subst ck
    have c' := eq_true (show (51 : Int) ≤ (51 : Nat) by omega)
    refine wpm_of (cuts := [23]) (by decide) 60 _ _ _ _ ?_
    simp (maxSteps := 2000000) only [↓reduceIte, wp_eq, wpd_eq, kont_eq, STP1, STP2, STP3, STP4, STP5, konM_eq, AMK, CZ, Option.map, List.getElem?_cons_zero, List.getElem?_cons_succ, List.mem_cons, List.not_mem_nil, if_false, if_true, Nat.reduceAdd, Nat.reduceLT, Nat.reduceLeDiff, Nat.reduceEqDiff, true_and, and_true, List.length_nil, List.length_cons, or_true, true_or, or_false, false_or, Option.some.injEq, Sum.inl.injEq, Sum.inr.injEq, exists_eq_left', exists_eq_left, Int.reduceLE, Int.reduceLT, Int.reduceNeg, Int.reduceAdd, Int.reduceMul, Int.reduceSub, Int.reduceToNat, inR, Nat.zero_ne_one, false_and, Nat.succ_ne_zero, reduceCtorEq, false_implies, true_implies, not_false_eq_true, not_true_eq_false, Int.reduceEq, KRE, C_Model_tellFits, FM, c']
    repeat (first | refine ⟨by omega, ?_⟩ | refine ⟨fun _ _ => okt_nn (by omega), ?_⟩)
    try (first | (show _ ≤ _; omega) | (show _ < _; omega))
    exact ⟨hf, F⟩
  · have h1 := mdl_fr h F sep
    obtain ⟨n1, n2, n3⟩ := hn
    have hn1 : ntM M1 n m N Z := ⟨(F _ _ (by unfold fitsP growP; omega)).trans n1, n2, fun i hi => by
      rw [F _ _ (by unfold fitsP growP; omega), F _ _ (by unfold fitsP growP; omega)]
      exact n3 i hi⟩
    refine Model_tellFits_s h1 hn1 hc (by omega) h801 hf (fun a2 a3 M2 F2 e8 hf2 => ?_)
    refine KK (by omega) _ _ ⟨⟨F.tr F2, fun j hj => ?_, hf2⟩, a2, a3, rfl⟩
    rw [e8, F2 158 j (by unfold fitsP growP; omega)]
    exact h801 j hj
set_option maxHeartbeats 600000 in
set_option maxRecDepth 20000 in
theorem Mfits_ok {m c : Nat} {N Z : Nat → Int} {w : Int} (h : mdl M n T Y lap bnd mrg) (hn : ntM M n m N Z) (hc : gwC T lap 50 mrg n Y c) (hw : w = 0 ∨ w = 1) : CallI m_Model_fits [.inr 154, .inl w] M (fun y M' => y = (if w = 0 then (ftN (gwP T lap 50 mrg n Y) Y c m N Z 51).1 else (ftN (gwP T lap 50 mrg n Y) Y c m N Z 51).2) ∧ rsM M 0 M') := by
  have h0 : mdl (mset M 154 1 0) n T Y lap bnd mrg := mdl_fr h scr_0 scr_mdl
  have hn0 : ntM (mset M 154 1 0) n m N Z := by
    obtain ⟨n1, n2, n3⟩ := hn
    exact ⟨by rw [← n1]; simp [mset], n2, fun i hi => by simpa [mset] using n3 i hi⟩
  refine callP_of (by decide) (by decide) (Nat.le_of_ble_eq_true rfl) (wpm_of (cuts := []) (by decide) 60 _ _ _ _ ?_)
  rw [show lM m_Model_fits = 2 from rfl]
  simp (maxSteps := 2000000) only [↓reduceIte, wp_eq, wpd_eq, kont_eq, STP1, STP2, STP3, STP4, STP5, konM_eq, AMK, CZ, Option.map, List.getElem?_cons_zero, List.getElem?_cons_succ, List.mem_cons, List.not_mem_nil, if_false, if_true, Nat.reduceAdd, Nat.reduceLT, Nat.reduceLeDiff, Nat.reduceEqDiff, true_and, and_true, List.length_nil, List.length_cons, or_true, true_or, or_false, false_or, Option.some.injEq, Sum.inl.injEq, Sum.inr.injEq, exists_eq_left', exists_eq_left, Int.reduceLE, Int.reduceLT, Int.reduceNeg, Int.reduceAdd, Int.reduceMul, Int.reduceSub, Int.reduceToNat, inR, Nat.zero_ne_one, false_and, Nat.succ_ne_zero, reduceCtorEq, false_implies, true_implies, not_false_eq_true, not_true_eq_false, Int.reduceEq, KRE, C_Model_fits, FM]
  refine (Model_isIn_ok ⟨by omega, by omega⟩ ⟨by omega, by omega⟩ ⟨by omega, by omega⟩).eq ?_
  rw [if_pos (by omega)]
  try simp (maxSteps := 2000000) only [↓reduceIte, wp_eq, wpd_eq, kont_eq, STP1, STP2, STP3, STP4, STP5, konM_eq, AMK, CZ, Option.map, List.getElem?_cons_zero, List.getElem?_cons_succ, List.mem_cons, List.not_mem_nil, if_false, if_true, Nat.reduceAdd, Nat.reduceLT, Nat.reduceLeDiff, Nat.reduceEqDiff, true_and, and_true, List.length_nil, List.length_cons, or_true, true_or, or_false, false_or, Option.some.injEq, Sum.inl.injEq, Sum.inr.injEq, exists_eq_left', exists_eq_left, Int.reduceLE, Int.reduceLT, Int.reduceNeg, Int.reduceAdd, Int.reduceMul, Int.reduceSub, Int.reduceToNat, inR, Nat.zero_ne_one, false_and, Nat.succ_ne_zero, reduceCtorEq, false_implies, true_implies, not_false_eq_true, not_true_eq_false, Int.reduceEq, KRE, C_Model_fits, FM]
  repeat (first | refine ⟨by omega, ?_⟩ | refine ⟨fun _ _ => okt_nn (by omega), ?_⟩)
  try (first | (show _ ≤ _; omega) | (show _ < _; omega))
  refine (Model_tellFits_ok h0 hn0 hc).mono (fun M1 z => ?_)
  obtain ⟨⟨f1, f2, f3⟩, F1⟩ := z
  have rs := rsM_fr rsM_0 F1 (fun b j z => by unfold fitsP growP at z; unfold scrM; omega)
  rcases hw with rfl | rfl
  · try simp (maxSteps := 2000000) only [↓reduceIte, wp_eq, wpd_eq, kont_eq, STP1, STP2, STP3, STP4, STP5, konM_eq, AMK, CZ, Option.map, List.getElem?_cons_zero, List.getElem?_cons_succ, List.mem_cons, List.not_mem_nil, if_false, if_true, Nat.reduceAdd, Nat.reduceLT, Nat.reduceLeDiff, Nat.reduceEqDiff, true_and, and_true, List.length_nil, List.length_cons, or_true, true_or, or_false, false_or, Option.some.injEq, Sum.inl.injEq, Sum.inr.injEq, exists_eq_left', exists_eq_left, Int.reduceLE, Int.reduceLT, Int.reduceNeg, Int.reduceAdd, Int.reduceMul, Int.reduceSub, Int.reduceToNat, inR, Nat.zero_ne_one, false_and, Nat.succ_ne_zero, reduceCtorEq, false_implies, true_implies, not_false_eq_true, not_true_eq_false, Int.reduceEq, KRE, C_Model_fits, FM, f1]
    repeat (first | refine ⟨by omega, ?_⟩ | refine ⟨fun _ _ => okt_nn (by omega), ?_⟩)
    try (first | (show _ ≤ _; omega) | (show _ < _; omega))
    first | exact rs | exact ⟨rfl, rs⟩ | exact ⟨by simp, rs⟩ | exact ⟨by omega, rs⟩ | exact ⟨by simp, rfl, rs⟩ | exact ⟨by omega, rfl, rs⟩ | exact ⟨by simp, by simp, rs⟩ | exact ⟨by omega, by simp, rs⟩ | (simp; first | exact rs | exact ⟨by omega, rs⟩)
  · have one0 := eq_false (show ¬ (1 : Int) = 0 by omega)
    rw [if_neg (by omega)]
    try simp (maxSteps := 2000000) only [↓reduceIte, wp_eq, wpd_eq, kont_eq, STP1, STP2, STP3, STP4, STP5, konM_eq, AMK, CZ, Option.map, List.getElem?_cons_zero, List.getElem?_cons_succ, List.mem_cons, List.not_mem_nil, if_false, if_true, Nat.reduceAdd, Nat.reduceLT, Nat.reduceLeDiff, Nat.reduceEqDiff, true_and, and_true, List.length_nil, List.length_cons, or_true, true_or, or_false, false_or, Option.some.injEq, Sum.inl.injEq, Sum.inr.injEq, exists_eq_left', exists_eq_left, Int.reduceLE, Int.reduceLT, Int.reduceNeg, Int.reduceAdd, Int.reduceMul, Int.reduceSub, Int.reduceToNat, inR, Nat.zero_ne_one, false_and, Nat.succ_ne_zero, reduceCtorEq, false_implies, true_implies, not_false_eq_true, not_true_eq_false, Int.reduceEq, KRE, C_Model_fits, FM, f2, one0]
    repeat (first | refine ⟨by omega, ?_⟩ | refine ⟨fun _ _ => okt_nn (by omega), ?_⟩)
    try (first | (show _ ≤ _; omega) | (show _ < _; omega))
    first | exact rs | exact ⟨rfl, rs⟩ | exact ⟨by simp, rs⟩ | exact ⟨by omega, rs⟩ | exact ⟨by simp, rfl, rs⟩ | exact ⟨by omega, rfl, rs⟩ | exact ⟨by simp, by simp, rs⟩ | exact ⟨by omega, by simp, rs⟩ | (simp; first | exact rs | exact ⟨by omega, rs⟩)
set_option maxHeartbeats 600000 in
set_option maxRecDepth 20000 in
theorem Mfits_x {w : Int} (hw : inR w) (hx : w < 0 ∨ 1 < w) : CallI m_Model_fits [.inr 154, .inl w] M (fun _ M' => rsM M 1 M') := by
  refine callP_of (by decide) (by decide) (Nat.le_of_ble_eq_true rfl) (wpm_of (cuts := []) (by decide) 60 _ _ _ _ ?_)
  rw [show lM m_Model_fits = 2 from rfl]
  simp (maxSteps := 2000000) only [↓reduceIte, wp_eq, wpd_eq, kont_eq, STP1, STP2, STP3, STP4, STP5, konM_eq, AMK, CZ, Option.map, List.getElem?_cons_zero, List.getElem?_cons_succ, List.mem_cons, List.not_mem_nil, if_false, if_true, Nat.reduceAdd, Nat.reduceLT, Nat.reduceLeDiff, Nat.reduceEqDiff, true_and, and_true, List.length_nil, List.length_cons, or_true, true_or, or_false, false_or, Option.some.injEq, Sum.inl.injEq, Sum.inr.injEq, exists_eq_left', exists_eq_left, Int.reduceLE, Int.reduceLT, Int.reduceNeg, Int.reduceAdd, Int.reduceMul, Int.reduceSub, Int.reduceToNat, inR, Nat.zero_ne_one, false_and, Nat.succ_ne_zero, reduceCtorEq, false_implies, true_implies, not_false_eq_true, not_true_eq_false, Int.reduceEq, KRE, C_Model_fits, FM]
  refine (Model_isIn_ok hw ⟨by omega, by omega⟩ ⟨by omega, by omega⟩).eq ?_
  rw [if_neg (by omega)]
  try simp (maxSteps := 2000000) only [↓reduceIte, wp_eq, wpd_eq, kont_eq, STP1, STP2, STP3, STP4, STP5, konM_eq, AMK, CZ, Option.map, List.getElem?_cons_zero, List.getElem?_cons_succ, List.mem_cons, List.not_mem_nil, if_false, if_true, Nat.reduceAdd, Nat.reduceLT, Nat.reduceLeDiff, Nat.reduceEqDiff, true_and, and_true, List.length_nil, List.length_cons, or_true, true_or, or_false, false_or, Option.some.injEq, Sum.inl.injEq, Sum.inr.injEq, exists_eq_left', exists_eq_left, Int.reduceLE, Int.reduceLT, Int.reduceNeg, Int.reduceAdd, Int.reduceMul, Int.reduceSub, Int.reduceToNat, inR, Nat.zero_ne_one, false_and, Nat.succ_ne_zero, reduceCtorEq, false_implies, true_implies, not_false_eq_true, not_true_eq_false, Int.reduceEq, KRE, C_Model_fits, FM]
  repeat (first | refine ⟨by omega, ?_⟩ | refine ⟨fun _ _ => okt_nn (by omega), ?_⟩)
  try (first | (show _ ≤ _; omega) | (show _ < _; omega))
  exact (Model_fail_ok (k := 1) (M := mset M 154 1 0)).eq (rsM_fail rsM_0)
set_option maxHeartbeats 600000 in
set_option maxRecDepth 20000 in
theorem Model_unlike_ok {t q : Nat} {v : Nat → Int} (ht : t < 8) (hq : M 154 63 = q) (q51 : q ≤ 51) (hv : ∀ a, a < q → M 184 (8 * a + t) = v a ∧ (-1 ≤ v a ∧ v a ≤ 900)) : CallI m_Model_unlike [.inr 154, .inl (t : Int)] M (fun x M' => x = sumN (newI v) q ∧ M' = M) := by
  refine callP_of (by decide) (by decide) (Nat.le_of_ble_eq_true rfl) (wpm_of (cuts := [4]) (by decide) 60 _ _ _ _ ?_)
  rw [show lM m_Model_unlike = 6 from rfl]
  simp (maxSteps := 2000000) only [↓reduceIte, wp_eq, wpd_eq, kont_eq, STP1, STP2, STP3, STP4, STP5, konM_eq, AMK, CZ, Option.map, List.getElem?_cons_zero, List.getElem?_cons_succ, List.mem_cons, List.not_mem_nil, if_false, if_true, Nat.reduceAdd, Nat.reduceLT, Nat.reduceLeDiff, Nat.reduceEqDiff, true_and, and_true, List.length_nil, List.length_cons, or_true, true_or, or_false, false_or, Option.some.injEq, Sum.inl.injEq, Sum.inr.injEq, exists_eq_left', exists_eq_left, Int.reduceLE, Int.reduceLT, Int.reduceNeg, Int.reduceAdd, Int.reduceMul, Int.reduceSub, Int.reduceToNat, inR, Nat.zero_ne_one, false_and, Nat.succ_ne_zero, reduceCtorEq, false_implies, true_implies, not_false_eq_true, not_true_eq_false, Int.reduceEq, KRE, C_Model_unlike, FM]
  refine loopQ q (fun a ls M1 => M = M1 ∧ ∃ a4 a5, ls = [some (.inr 154), some (.inl (t : Int)), some (.inl (sumN (newI v) a)), some (.inl (a : Int)), a4, a5]) ?_ _ _ ⟨rfl, none, none, rfl⟩
  rintro a _ _ ha ⟨rfl, a4, a5, rfl⟩ K
  by_cases c : a = q
  · subst c
    have c' := eq_true (show (a : Int) ≤ a by omega)
    refine wpm_of (cuts := [4]) (by decide) 60 _ _ _ _ ?_
    simp (maxSteps := 2000000) only [↓reduceIte, wp_eq, wpd_eq, kont_eq, STP1, STP2, STP3, STP4, STP5, konM_eq, AMK, CZ, Option.map, List.getElem?_cons_zero, List.getElem?_cons_succ, List.mem_cons, List.not_mem_nil, if_false, if_true, Nat.reduceAdd, Nat.reduceLT, Nat.reduceLeDiff, Nat.reduceEqDiff, true_and, and_true, List.length_nil, List.length_cons, or_true, true_or, or_false, false_or, Option.some.injEq, Sum.inl.injEq, Sum.inr.injEq, exists_eq_left', exists_eq_left, Int.reduceLE, Int.reduceLT, Int.reduceNeg, Int.reduceAdd, Int.reduceMul, Int.reduceSub, Int.reduceToNat, inR, Nat.zero_ne_one, false_and, Nat.succ_ne_zero, reduceCtorEq, false_implies, true_implies, not_false_eq_true, not_true_eq_false, Int.reduceEq, KRE, C_Model_unlike, FM, hq, c']
    repeat (first | refine ⟨by omega, ?_⟩ | refine ⟨fun _ _ => okt_nn (by omega), ?_⟩)
    try (first | (show _ ≤ _; omega) | (show _ < _; omega))
  · have hlt : a < q := by omega
    have c' := eq_false (show ¬ (q : Int) ≤ a by omega)
    have ix : ∀ b : Nat, (8 * (b : Int) + (t : Int)).toNat = 8 * b + t := fun b => by omega
    obtain ⟨va, ra⟩ := hv a hlt
    have K' := fun a4 a5 => K hlt _ _ ⟨rfl, a4, a5, rfl⟩
    rw [sumN] at K'
    refine wpm_of (cuts := [4, 18]) (by decide) 60 _ _ _ _ ?_
    simp (maxSteps := 2000000) only [↓reduceIte, wp_eq, wpd_eq, kont_eq, STP1, STP2, STP3, STP4, STP5, konM_eq, AMK, CZ, Option.map, List.getElem?_cons_zero, List.getElem?_cons_succ, List.mem_cons, List.not_mem_nil, if_false, if_true, Nat.reduceAdd, Nat.reduceLT, Nat.reduceLeDiff, Nat.reduceEqDiff, true_and, and_true, List.length_nil, List.length_cons, or_true, true_or, or_false, false_or, Option.some.injEq, Sum.inl.injEq, Sum.inr.injEq, exists_eq_left', exists_eq_left, Int.reduceLE, Int.reduceLT, Int.reduceNeg, Int.reduceAdd, Int.reduceMul, Int.reduceSub, Int.reduceToNat, inR, Nat.zero_ne_one, false_and, Nat.succ_ne_zero, reduceCtorEq, false_implies, true_implies, not_false_eq_true, not_true_eq_false, Int.reduceEq, KRE, C_Model_unlike, FM, hq, c']
    repeat (first | refine ⟨by omega, ?_⟩ | refine ⟨fun _ _ => okt_nn (by omega), ?_⟩)
    try (first | (show _ ≤ _; omega) | (show _ < _; omega))
    refine loopQ a (fun b ls M1 => M = M1 ∧ ∃ is : Int, (is = 1 ∧ (∀ d, d < b → v d ≠ v a) ∨ is = 0 ∧ ¬ (∀ d, d < b → v d ≠ v a)) ∧ ls = [some (.inr 154), some (.inl (t : Int)), some (.inl (sumN (newI v) a)), some (.inl (a : Int)), some (.inl is), some (.inl (b : Int))]) ?_ _ _ ⟨rfl, 1, Or.inl ⟨rfl, fun d hd => by omega⟩, rfl⟩
    rintro b _ _ hb ⟨rfl, is, his, rfl⟩ K2
    by_cases c2 : b = a
    · subst c2
      have c2' := eq_true (show (b : Int) ≤ b by omega)
      rcases his with ⟨rfl, his⟩ | ⟨rfl, his⟩
      · have one0 := eq_false (show ¬ (1 : Int) = 0 by omega)
        rw [show newI v b = 1 from if_pos his] at K'
        refine wpm_of (cuts := [4, 18]) (by decide) 60 _ _ _ _ ?_
        simp (maxSteps := 2000000) only [↓reduceIte, wp_eq, wpd_eq, kont_eq, STP1, STP2, STP3, STP4, STP5, konM_eq, AMK, CZ, Option.map, List.getElem?_cons_zero, List.getElem?_cons_succ, List.mem_cons, List.not_mem_nil, if_false, if_true, Nat.reduceAdd, Nat.reduceLT, Nat.reduceLeDiff, Nat.reduceEqDiff, true_and, and_true, List.length_nil, List.length_cons, or_true, true_or, or_false, false_or, Option.some.injEq, Sum.inl.injEq, Sum.inr.injEq, exists_eq_left', exists_eq_left, Int.reduceLE, Int.reduceLT, Int.reduceNeg, Int.reduceAdd, Int.reduceMul, Int.reduceSub, Int.reduceToNat, inR, Nat.zero_ne_one, false_and, Nat.succ_ne_zero, reduceCtorEq, false_implies, true_implies, not_false_eq_true, not_true_eq_false, Int.reduceEq, KRE, C_Model_unlike, FM, c2', one0]
        repeat (first | refine ⟨by omega, ?_⟩ | refine ⟨fun _ _ => okt_nn (by omega), ?_⟩)
        try (first | (show _ ≤ _; omega) | (show _ < _; omega))
        exact K' _ _
      · rw [show newI v b = 0 from if_neg his] at K'
        refine wpm_of (cuts := [4, 18]) (by decide) 60 _ _ _ _ ?_
        simp (maxSteps := 2000000) only [↓reduceIte, wp_eq, wpd_eq, kont_eq, STP1, STP2, STP3, STP4, STP5, konM_eq, AMK, CZ, Option.map, List.getElem?_cons_zero, List.getElem?_cons_succ, List.mem_cons, List.not_mem_nil, if_false, if_true, Nat.reduceAdd, Nat.reduceLT, Nat.reduceLeDiff, Nat.reduceEqDiff, true_and, and_true, List.length_nil, List.length_cons, or_true, true_or, or_false, false_or, Option.some.injEq, Sum.inl.injEq, Sum.inr.injEq, exists_eq_left', exists_eq_left, Int.reduceLE, Int.reduceLT, Int.reduceNeg, Int.reduceAdd, Int.reduceMul, Int.reduceSub, Int.reduceToNat, inR, Nat.zero_ne_one, false_and, Nat.succ_ne_zero, reduceCtorEq, false_implies, true_implies, not_false_eq_true, not_true_eq_false, Int.reduceEq, KRE, C_Model_unlike, FM, c2']
        repeat (first | refine ⟨by omega, ?_⟩ | refine ⟨fun _ _ => okt_nn (by omega), ?_⟩)
        try (first | (show _ ≤ _; omega) | (show _ < _; omega))
        exact K' _ _
    · have hlt2 : b < a := by omega
      have c2' := eq_false (show ¬ (a : Int) ≤ b by omega)
      have K2' := fun is z => K2 hlt2 _ _ ⟨rfl, is, z, rfl⟩
      obtain ⟨vb, rb⟩ := hv b (by omega)
      rcases his with ⟨rfl, his⟩ | ⟨rfl, his⟩
      · have one0 := eq_false (show ¬ (1 : Int) = 0 by omega)
        by_cases cv : v b = v a
        · have cv' := eq_true cv
          have G := K2' 0 (Or.inr ⟨rfl, fun w => w b (by omega) cv⟩)
          refine wpm_of (cuts := [4, 18]) (by decide) 60 _ _ _ _ ?_
          simp (maxSteps := 2000000) only [↓reduceIte, wp_eq, wpd_eq, kont_eq, STP1, STP2, STP3, STP4, STP5, konM_eq, AMK, CZ, Option.map, List.getElem?_cons_zero, List.getElem?_cons_succ, List.mem_cons, List.not_mem_nil, if_false, if_true, Nat.reduceAdd, Nat.reduceLT, Nat.reduceLeDiff, Nat.reduceEqDiff, true_and, and_true, List.length_nil, List.length_cons, or_true, true_or, or_false, false_or, Option.some.injEq, Sum.inl.injEq, Sum.inr.injEq, exists_eq_left', exists_eq_left, Int.reduceLE, Int.reduceLT, Int.reduceNeg, Int.reduceAdd, Int.reduceMul, Int.reduceSub, Int.reduceToNat, inR, Nat.zero_ne_one, false_and, Nat.succ_ne_zero, reduceCtorEq, false_implies, true_implies, not_false_eq_true, not_true_eq_false, Int.reduceEq, KRE, C_Model_unlike, FM, c2', one0, ix, va, vb, cv']
          repeat (first | refine ⟨by omega, ?_⟩ | refine ⟨fun _ _ => okt_nn (by omega), ?_⟩)
          try (first | (show _ ≤ _; omega) | (show _ < _; omega))
          exact G
        · have cv' := eq_false cv
          have G := K2' 1 (Or.inl ⟨rfl, fun d hd => by
            by_cases e : d = b
            · rw [e]; exact cv
            · exact his d (by omega)⟩)
          refine wpm_of (cuts := [4, 18]) (by decide) 60 _ _ _ _ ?_
          simp (maxSteps := 2000000) only [↓reduceIte, wp_eq, wpd_eq, kont_eq, STP1, STP2, STP3, STP4, STP5, konM_eq, AMK, CZ, Option.map, List.getElem?_cons_zero, List.getElem?_cons_succ, List.mem_cons, List.not_mem_nil, if_false, if_true, Nat.reduceAdd, Nat.reduceLT, Nat.reduceLeDiff, Nat.reduceEqDiff, true_and, and_true, List.length_nil, List.length_cons, or_true, true_or, or_false, false_or, Option.some.injEq, Sum.inl.injEq, Sum.inr.injEq, exists_eq_left', exists_eq_left, Int.reduceLE, Int.reduceLT, Int.reduceNeg, Int.reduceAdd, Int.reduceMul, Int.reduceSub, Int.reduceToNat, inR, Nat.zero_ne_one, false_and, Nat.succ_ne_zero, reduceCtorEq, false_implies, true_implies, not_false_eq_true, not_true_eq_false, Int.reduceEq, KRE, C_Model_unlike, FM, c2', one0, ix, va, vb, cv']
          repeat (first | refine ⟨by omega, ?_⟩ | refine ⟨fun _ _ => okt_nn (by omega), ?_⟩)
          try (first | (show _ ≤ _; omega) | (show _ < _; omega))
          exact G
      · have G := K2' 0 (Or.inr ⟨rfl, fun w => his (fun d hd => w d (by omega))⟩)
        refine wpm_of (cuts := [4, 18]) (by decide) 60 _ _ _ _ ?_
        simp (maxSteps := 2000000) only [↓reduceIte, wp_eq, wpd_eq, kont_eq, STP1, STP2, STP3, STP4, STP5, konM_eq, AMK, CZ, Option.map, List.getElem?_cons_zero, List.getElem?_cons_succ, List.mem_cons, List.not_mem_nil, if_false, if_true, Nat.reduceAdd, Nat.reduceLT, Nat.reduceLeDiff, Nat.reduceEqDiff, true_and, and_true, List.length_nil, List.length_cons, or_true, true_or, or_false, false_or, Option.some.injEq, Sum.inl.injEq, Sum.inr.injEq, exists_eq_left', exists_eq_left, Int.reduceLE, Int.reduceLT, Int.reduceNeg, Int.reduceAdd, Int.reduceMul, Int.reduceSub, Int.reduceToNat, inR, Nat.zero_ne_one, false_and, Nat.succ_ne_zero, reduceCtorEq, false_implies, true_implies, not_false_eq_true, not_true_eq_false, Int.reduceEq, KRE, C_Model_unlike, FM, c2']
        repeat (first | refine ⟨by omega, ?_⟩ | refine ⟨fun _ _ => okt_nn (by omega), ?_⟩)
        try (first | (show _ ≤ _; omega) | (show _ < _; omega))
        exact G
theorem un_new {c m t : Nat} {N Z : Nat → Int} (hoc : okC T Y n) (hc : gwC T lap 50 mrg n Y c) : sumN (newI (fun a => ybS (gwP T lap 50 mrg n Y) Y c t (flB (gwP T lap 50 mrg n Y) Y c m N Z 51 a))) (ftN (gwP T lap 50 mrg n Y) Y c m N Z 51).1.toNat = (unN (gwP T lap 50 mrg n Y) Y c m N Z t 51).1 + (unN (gwP T lap 50 mrg n Y) Y c m N Z t 51).2 := by
  have e := unN_D (gwP T lap 50 mrg n Y) Y c m N Z t 51
  rw [e]
  exact (unD_new (z := ybS (gwP T lap 50 mrg n Y) Y c t 50) (fun j hj => ybS_two hoc hc (flB_in _ _ _ _ _ _ _ _ (by omega)))).1
set_option maxHeartbeats 600000 in
set_option maxRecDepth 20000 in
theorem Mlook_ok {m c : Nat} {N Z : Nat → Int} {w : Int} (h : mdl M n T Y lap bnd mrg) (hn : ntM M n m N Z) (hc : gwC T lap 50 mrg n Y c) (hw : w = 0 ∨ w = 1) : CallI m_Model_look [.inr 154, .inl w] M (fun y M' => y = (if w = 0 then (lokN (fun t => (unN (gwP T lap 50 mrg n Y) Y c m N Z t 51).1 + (unN (gwP T lap 50 mrg n Y) Y c m N Z t 51).2) n).1 else (lokN (fun t => (unN (gwP T lap 50 mrg n Y) Y c m N Z t 51).1 + (unN (gwP T lap 50 mrg n Y) Y c m N Z t 51).2) n).2) ∧ rsM M 0 M') := by
  have h0 : mdl (mset M 154 1 0) n T Y lap bnd mrg := mdl_fr h scr_0 scr_mdl
  have n8 := h.1.2
  have hoc := h.2.2.2
  have hn0 : ntM (mset M 154 1 0) n m N Z := by
    obtain ⟨n1, n2, n3⟩ := hn
    exact ⟨by rw [← n1]; simp [mset], n2, fun i hi => by simpa [mset] using n3 i hi⟩
  refine callP_of (by decide) (by decide) (Nat.le_of_ble_eq_true rfl) (wpm_of (cuts := [31]) (by decide) 60 _ _ _ _ ?_)
  rw [show lM m_Model_look = 6 from rfl]
  simp (maxSteps := 2000000) only [↓reduceIte, wp_eq, wpd_eq, kont_eq, STP1, STP2, STP3, STP4, STP5, konM_eq, AMK, CZ, Option.map, List.getElem?_cons_zero, List.getElem?_cons_succ, List.mem_cons, List.not_mem_nil, if_false, if_true, Nat.reduceAdd, Nat.reduceLT, Nat.reduceLeDiff, Nat.reduceEqDiff, true_and, and_true, List.length_nil, List.length_cons, or_true, true_or, or_false, false_or, Option.some.injEq, Sum.inl.injEq, Sum.inr.injEq, exists_eq_left', exists_eq_left, Int.reduceLE, Int.reduceLT, Int.reduceNeg, Int.reduceAdd, Int.reduceMul, Int.reduceSub, Int.reduceToNat, inR, Nat.zero_ne_one, false_and, Nat.succ_ne_zero, reduceCtorEq, false_implies, true_implies, not_false_eq_true, not_true_eq_false, Int.reduceEq, KRE, C_Model_look, FM]
  refine (Model_isIn_ok ⟨by omega, by omega⟩ ⟨by omega, by omega⟩ ⟨by omega, by omega⟩).eq ?_
  rw [if_pos (by omega)]
  try simp (maxSteps := 2000000) only [↓reduceIte, wp_eq, wpd_eq, kont_eq, STP1, STP2, STP3, STP4, STP5, konM_eq, AMK, CZ, Option.map, List.getElem?_cons_zero, List.getElem?_cons_succ, List.mem_cons, List.not_mem_nil, if_false, if_true, Nat.reduceAdd, Nat.reduceLT, Nat.reduceLeDiff, Nat.reduceEqDiff, true_and, and_true, List.length_nil, List.length_cons, or_true, true_or, or_false, false_or, Option.some.injEq, Sum.inl.injEq, Sum.inr.injEq, exists_eq_left', exists_eq_left, Int.reduceLE, Int.reduceLT, Int.reduceNeg, Int.reduceAdd, Int.reduceMul, Int.reduceSub, Int.reduceToNat, inR, Nat.zero_ne_one, false_and, Nat.succ_ne_zero, reduceCtorEq, false_implies, true_implies, not_false_eq_true, not_true_eq_false, Int.reduceEq, KRE, C_Model_look, FM]
  repeat (first | refine ⟨by omega, ?_⟩ | refine ⟨fun _ _ => okt_nn (by omega), ?_⟩)
  try (first | (show _ ≤ _; omega) | (show _ < _; omega))
  refine (Model_tellFits_ok h0 hn0 hc).mono (fun M1 z => ?_)
  obtain ⟨⟨f1, f2, f3⟩, F1⟩ := z
  have rs := rsM_fr rsM_0 F1 (fun b j z => by unfold fitsP growP at z; unfold scrM; omega)
  have h1 := mdl_fr h0 F1 (fun b j z => by unfold fitsP growP at z; omega)
  have en1 := h1.1.1
  have ft := ftN_in (gwP T lap 50 mrg n Y) Y c m N Z 51
  have U := fun t => un_new (t := t) (m := m) (N := N) (Z := Z) hoc hc
  have Ui := fun t : Nat => unN_in (gwP T lap 50 mrg n Y) Y c m N Z t 51
  have UL : ∀ t, t < n → CallI m_Model_unlike [.inr 154, .inl (t : Int)] M1 (fun x M' => x = (unN (gwP T lap 50 mrg n Y) Y c m N Z t 51).1 + (unN (gwP T lap 50 mrg n Y) Y c m N Z t 51).2 ∧ M' = M1) := by
    intro t ht
    rw [← U t]
    refine Model_unlike_ok (by omega) (by rw [f1]; omega) (by omega) (fun a ha => ⟨f3 a (by omega) t ht, ?_⟩)
    exact ybS_in hoc hc ⟨by omega, by omega⟩
  clear U
  generalize hV : (fun t : Nat => (unN (gwP T lap 50 mrg n Y) Y c m N Z t 51).1 + (unN (gwP T lap 50 mrg n Y) Y c m N Z t 51).2) = V at *
  have eV : ∀ t : Nat, (unN (gwP T lap 50 mrg n Y) Y c m N Z t 51).1 + (unN (gwP T lap 50 mrg n Y) Y c m N Z t 51).2 = V t := fun t => congrFun hV t
  have Vi : ∀ t, 0 ≤ V t ∧ V t ≤ 2 := fun t => by rw [← eV]; have := Ui t; omega
  have lk : ∀ k : Nat, (-1 ≤ (lokN V k).1 ∧ (lokN V k).1 < k) ∧ (0 ≤ (lokN V k).2 ∧ (lokN V k).2 ≤ 2) := by
    intro k
    induction k with
    | zero => exact ⟨⟨show (-1 : Int) ≤ -1 by omega, show (-1 : Int) < 0 by omega⟩, ⟨show (0 : Int) ≤ 0 by omega, show (0 : Int) ≤ 2 by omega⟩⟩
    | succ k ih =>
      rw [show lokN V (k + 1) = if (lokN V k).2 < V k then ((k : Int), V k) else lokN V k from rfl]
      have := Vi k
      split
      · simp only; omega
      · omega
  try simp (maxSteps := 2000000) only [↓reduceIte, wp_eq, wpd_eq, kont_eq, STP1, STP2, STP3, STP4, STP5, konM_eq, AMK, CZ, Option.map, List.getElem?_cons_zero, List.getElem?_cons_succ, List.mem_cons, List.not_mem_nil, if_false, if_true, Nat.reduceAdd, Nat.reduceLT, Nat.reduceLeDiff, Nat.reduceEqDiff, true_and, and_true, List.length_nil, List.length_cons, or_true, true_or, or_false, false_or, Option.some.injEq, Sum.inl.injEq, Sum.inr.injEq, exists_eq_left', exists_eq_left, Int.reduceLE, Int.reduceLT, Int.reduceNeg, Int.reduceAdd, Int.reduceMul, Int.reduceSub, Int.reduceToNat, inR, Nat.zero_ne_one, false_and, Nat.succ_ne_zero, reduceCtorEq, false_implies, true_implies, not_false_eq_true, not_true_eq_false, Int.reduceEq, KRE, C_Model_look, FM]
  have LP : WPm m_Model_look (fun v M' => ∃ y, v = some (.inl y) ∧ y = (if w = 0 then (lokN V n).1 else (lokN V n).2) ∧ rsM M 0 M') 31 [some (.inr 154), some (.inl w), some (.inl (-1)), some (.inl 0), some (.inl 0), none] [] M1 := by
    refine loopQ n (fun k ls M2 => M1 = M2 ∧ ∃ a5, ls = [some (.inr 154), some (.inl w), some (.inl (lokN V k).1), some (.inl (lokN V k).2), some (.inl (k : Int)), a5]) ?_ _ _ ⟨rfl, none, rfl⟩
    rintro k _ _ hk ⟨rfl, a5, rfl⟩ K
    by_cases ck : k = n
    · subst ck
      have c' := eq_true (show (k : Int) ≤ k by omega)
      rcases hw with rfl | rfl
      · refine wpm_of (cuts := [31]) (by decide) 60 _ _ _ _ ?_
        simp (maxSteps := 2000000) only [↓reduceIte, wp_eq, wpd_eq, kont_eq, STP1, STP2, STP3, STP4, STP5, konM_eq, AMK, CZ, Option.map, List.getElem?_cons_zero, List.getElem?_cons_succ, List.mem_cons, List.not_mem_nil, if_false, if_true, Nat.reduceAdd, Nat.reduceLT, Nat.reduceLeDiff, Nat.reduceEqDiff, true_and, and_true, List.length_nil, List.length_cons, or_true, true_or, or_false, false_or, Option.some.injEq, Sum.inl.injEq, Sum.inr.injEq, exists_eq_left', exists_eq_left, Int.reduceLE, Int.reduceLT, Int.reduceNeg, Int.reduceAdd, Int.reduceMul, Int.reduceSub, Int.reduceToNat, inR, Nat.zero_ne_one, false_and, Nat.succ_ne_zero, reduceCtorEq, false_implies, true_implies, not_false_eq_true, not_true_eq_false, Int.reduceEq, KRE, C_Model_look, FM, en1, c']
        repeat (first | refine ⟨by omega, ?_⟩ | refine ⟨fun _ _ => okt_nn (by omega), ?_⟩)
        try (first | (show _ ≤ _; omega) | (show _ < _; omega))
        first | exact rs | exact ⟨rfl, rs⟩ | exact ⟨by simp, rs⟩ | exact ⟨by omega, rs⟩ | exact ⟨by simp, rfl, rs⟩ | exact ⟨by omega, rfl, rs⟩ | exact ⟨by simp, by simp, rs⟩ | exact ⟨by omega, by simp, rs⟩ | (simp; first | exact rs | exact ⟨by omega, rs⟩)
      · have one0 := eq_false (show ¬ (1 : Int) = 0 by omega)
        rw [if_neg (by omega)]
        refine wpm_of (cuts := [31]) (by decide) 60 _ _ _ _ ?_
        simp (maxSteps := 2000000) only [↓reduceIte, wp_eq, wpd_eq, kont_eq, STP1, STP2, STP3, STP4, STP5, konM_eq, AMK, CZ, Option.map, List.getElem?_cons_zero, List.getElem?_cons_succ, List.mem_cons, List.not_mem_nil, if_false, if_true, Nat.reduceAdd, Nat.reduceLT, Nat.reduceLeDiff, Nat.reduceEqDiff, true_and, and_true, List.length_nil, List.length_cons, or_true, true_or, or_false, false_or, Option.some.injEq, Sum.inl.injEq, Sum.inr.injEq, exists_eq_left', exists_eq_left, Int.reduceLE, Int.reduceLT, Int.reduceNeg, Int.reduceAdd, Int.reduceMul, Int.reduceSub, Int.reduceToNat, inR, Nat.zero_ne_one, false_and, Nat.succ_ne_zero, reduceCtorEq, false_implies, true_implies, not_false_eq_true, not_true_eq_false, Int.reduceEq, KRE, C_Model_look, FM, en1, c', one0]
        repeat (first | refine ⟨by omega, ?_⟩ | refine ⟨fun _ _ => okt_nn (by omega), ?_⟩)
        try (first | (show _ ≤ _; omega) | (show _ < _; omega))
        first | exact rs | exact ⟨rfl, rs⟩ | exact ⟨by simp, rs⟩ | exact ⟨by omega, rs⟩ | exact ⟨by simp, rfl, rs⟩ | exact ⟨by omega, rfl, rs⟩ | exact ⟨by simp, by simp, rs⟩ | exact ⟨by omega, by simp, rs⟩ | (simp; first | exact rs | exact ⟨by omega, rs⟩)
    · have hlt : k < n := by omega
      have c' := eq_false (show ¬ (n : Int) ≤ k by omega)
      have K' := fun a5 => K hlt _ _ ⟨rfl, a5, rfl⟩
      rw [show lokN V (k + 1) = if (lokN V k).2 < V k then ((k : Int), V k) else lokN V k from rfl] at K'
      have l1 := lk k
      have v1 := Vi k
      have ULk := UL k hlt
      rw [eV] at ULk
      refine wpm_of (cuts := [31]) (by decide) 60 _ _ _ _ ?_
      simp (maxSteps := 2000000) only [↓reduceIte, wp_eq, wpd_eq, kont_eq, STP1, STP2, STP3, STP4, STP5, konM_eq, AMK, CZ, Option.map, List.getElem?_cons_zero, List.getElem?_cons_succ, List.mem_cons, List.not_mem_nil, if_false, if_true, Nat.reduceAdd, Nat.reduceLT, Nat.reduceLeDiff, Nat.reduceEqDiff, true_and, and_true, List.length_nil, List.length_cons, or_true, true_or, or_false, false_or, Option.some.injEq, Sum.inl.injEq, Sum.inr.injEq, exists_eq_left', exists_eq_left, Int.reduceLE, Int.reduceLT, Int.reduceNeg, Int.reduceAdd, Int.reduceMul, Int.reduceSub, Int.reduceToNat, inR, Nat.zero_ne_one, false_and, Nat.succ_ne_zero, reduceCtorEq, false_implies, true_implies, not_false_eq_true, not_true_eq_false, Int.reduceEq, KRE, C_Model_look, FM, en1, c']
      repeat (first | refine ⟨by omega, ?_⟩ | refine ⟨fun _ _ => okt_nn (by omega), ?_⟩)
      try (first | (show _ ≤ _; omega) | (show _ < _; omega))
      refine ULk.eq ?_
      by_cases cv : (lokN V k).2 < V k
      · rw [if_pos cv] at K'
        have cv' := eq_true cv
        try simp (maxSteps := 2000000) only [↓reduceIte, wp_eq, wpd_eq, kont_eq, STP1, STP2, STP3, STP4, STP5, konM_eq, AMK, CZ, Option.map, List.getElem?_cons_zero, List.getElem?_cons_succ, List.mem_cons, List.not_mem_nil, if_false, if_true, Nat.reduceAdd, Nat.reduceLT, Nat.reduceLeDiff, Nat.reduceEqDiff, true_and, and_true, List.length_nil, List.length_cons, or_true, true_or, or_false, false_or, Option.some.injEq, Sum.inl.injEq, Sum.inr.injEq, exists_eq_left', exists_eq_left, Int.reduceLE, Int.reduceLT, Int.reduceNeg, Int.reduceAdd, Int.reduceMul, Int.reduceSub, Int.reduceToNat, inR, Nat.zero_ne_one, false_and, Nat.succ_ne_zero, reduceCtorEq, false_implies, true_implies, not_false_eq_true, not_true_eq_false, Int.reduceEq, KRE, C_Model_look, cv']
        repeat (first | refine ⟨by omega, ?_⟩ | refine ⟨fun _ _ => okt_nn (by omega), ?_⟩)
        try (first | (show _ ≤ _; omega) | (show _ < _; omega))
        exact K' _
      · rw [if_neg cv] at K'
        have cv' := eq_false cv
        try simp (maxSteps := 2000000) only [↓reduceIte, wp_eq, wpd_eq, kont_eq, STP1, STP2, STP3, STP4, STP5, konM_eq, AMK, CZ, Option.map, List.getElem?_cons_zero, List.getElem?_cons_succ, List.mem_cons, List.not_mem_nil, if_false, if_true, Nat.reduceAdd, Nat.reduceLT, Nat.reduceLeDiff, Nat.reduceEqDiff, true_and, and_true, List.length_nil, List.length_cons, or_true, true_or, or_false, false_or, Option.some.injEq, Sum.inl.injEq, Sum.inr.injEq, exists_eq_left', exists_eq_left, Int.reduceLE, Int.reduceLT, Int.reduceNeg, Int.reduceAdd, Int.reduceMul, Int.reduceSub, Int.reduceToNat, inR, Nat.zero_ne_one, false_and, Nat.succ_ne_zero, reduceCtorEq, false_implies, true_implies, not_false_eq_true, not_true_eq_false, Int.reduceEq, KRE, C_Model_look, cv']
        repeat (first | refine ⟨by omega, ?_⟩ | refine ⟨fun _ _ => okt_nn (by omega), ?_⟩)
        try (first | (show _ ≤ _; omega) | (show _ < _; omega))
        exact K' _
  exact LP
set_option maxHeartbeats 600000 in
set_option maxRecDepth 20000 in
theorem Mlook_x {w : Int} (hw : inR w) (hx : w < 0 ∨ 1 < w) : CallI m_Model_look [.inr 154, .inl w] M (fun _ M' => rsM M 1 M') := by
  refine callP_of (by decide) (by decide) (Nat.le_of_ble_eq_true rfl) (wpm_of (cuts := [31]) (by decide) 60 _ _ _ _ ?_)
  rw [show lM m_Model_look = 6 from rfl]
  simp (maxSteps := 2000000) only [↓reduceIte, wp_eq, wpd_eq, kont_eq, STP1, STP2, STP3, STP4, STP5, konM_eq, AMK, CZ, Option.map, List.getElem?_cons_zero, List.getElem?_cons_succ, List.mem_cons, List.not_mem_nil, if_false, if_true, Nat.reduceAdd, Nat.reduceLT, Nat.reduceLeDiff, Nat.reduceEqDiff, true_and, and_true, List.length_nil, List.length_cons, or_true, true_or, or_false, false_or, Option.some.injEq, Sum.inl.injEq, Sum.inr.injEq, exists_eq_left', exists_eq_left, Int.reduceLE, Int.reduceLT, Int.reduceNeg, Int.reduceAdd, Int.reduceMul, Int.reduceSub, Int.reduceToNat, inR, Nat.zero_ne_one, false_and, Nat.succ_ne_zero, reduceCtorEq, false_implies, true_implies, not_false_eq_true, not_true_eq_false, Int.reduceEq, KRE, C_Model_look, FM]
  refine (Model_isIn_ok hw ⟨by omega, by omega⟩ ⟨by omega, by omega⟩).eq ?_
  rw [if_neg (by omega)]
  try simp (maxSteps := 2000000) only [↓reduceIte, wp_eq, wpd_eq, kont_eq, STP1, STP2, STP3, STP4, STP5, konM_eq, AMK, CZ, Option.map, List.getElem?_cons_zero, List.getElem?_cons_succ, List.mem_cons, List.not_mem_nil, if_false, if_true, Nat.reduceAdd, Nat.reduceLT, Nat.reduceLeDiff, Nat.reduceEqDiff, true_and, and_true, List.length_nil, List.length_cons, or_true, true_or, or_false, false_or, Option.some.injEq, Sum.inl.injEq, Sum.inr.injEq, exists_eq_left', exists_eq_left, Int.reduceLE, Int.reduceLT, Int.reduceNeg, Int.reduceAdd, Int.reduceMul, Int.reduceSub, Int.reduceToNat, inR, Nat.zero_ne_one, false_and, Nat.succ_ne_zero, reduceCtorEq, false_implies, true_implies, not_false_eq_true, not_true_eq_false, Int.reduceEq, KRE, C_Model_look, FM]
  repeat (first | refine ⟨by omega, ?_⟩ | refine ⟨fun _ _ => okt_nn (by omega), ?_⟩)
  try (first | (show _ ≤ _; omega) | (show _ < _; omega))
  exact (Model_fail_ok (k := 1) (M := mset M 154 1 0)).eq (rsM_fail rsM_0)
end MODH

