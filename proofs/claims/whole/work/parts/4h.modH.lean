/-! THE REFERENCE, H: fits, look. -/
section MODH
variable {n : Nat} {T : Nat → Rw} {Y : Nat → Int} {lap bnd mrg : Int} {M : Mm}
/-- what is noted, as the reference holds it -/
def ntM (M : Mm) (n m : Nat) (N Z : Nat → Int) : Prop := M 154 60 = m ∧ m ≤ 8 ∧ ∀ i, i < m → (M 182 i = N i ∧ M 183 i = Z i) ∧ (0 ≤ N i ∧ N i < n) ∧ (-1 ≤ Z i ∧ Z i ≤ 900)
def fitsP : Nat → Nat → Prop := fun b j => growP b j ∨ b = 154 ∧ (j = 63 ∨ j = 64) ∨ b = 180 ∨ b = 184
/-- the loop over what is noted: is it all so? -/
def nOk (F : Nat → Int) (N Z : Nat → Int) (k : Nat) : Prop := ∀ i, i < k → F (N i).toNat = Z i
set_option maxHeartbeats 600000 in
set_option maxRecDepth 20000 in
theorem Model_tellFits_n {m k0 : Nat} {N Z F : Nat → Int} {Qc : Option AV → Mm → Prop} (h : mdl M n T F lap bnd mrg) (hn : ntM M n m N Z)
    (K : ∀ is : Int, (is = 1 ∧ nOk F N Z m ∨ is = 0 ∧ ¬ nOk F N Z m) → WPm m_Model_tellFits Qc 85 [some (.inr 154), some (.inl (k0 : Int)), some (.inl is), some (.inl (m : Int))] [] M) :
    WPm m_Model_tellFits Qc 41 [some (.inr 154), some (.inl (k0 : Int)), some (.inl 1), some (.inl 0)] [] M := by
  obtain ⟨e60, m8, hN⟩ := hn
  refine loopQ m (fun k ls M1 => M = M1 ∧ ∃ is : Int, (is = 1 ∧ nOk F N Z k ∨ is = 0 ∧ ¬ nOk F N Z k) ∧ ls = [some (.inr 154), some (.inl (k0 : Int)), some (.inl is), some (.inl (k : Int))]) ?_ _ _ ⟨rfl, 1, Or.inl ⟨rfl, fun i hi => by omega⟩, rfl⟩
  rintro k _ _ hk ⟨rfl, is, hi, rfl⟩ KK
  by_cases c : k = m
  · subst c
    have c' := eq_true (show (k : Int) ≤ k by omega)
    have K1 := K is hi
    refine wpm_of (cuts := [41, 85]) (by decide) 60 _ _ _ _ ?_
    simp (maxSteps := 2000000) only [↓reduceIte, wp_eq, wpd_eq, kont_eq, STP1, STP2, STP3, STP4, STP5, konM_eq, AMK, CZ, Option.map, List.getElem?_cons_zero, List.getElem?_cons_succ, List.mem_cons, List.not_mem_nil, if_false, if_true, Nat.reduceAdd, Nat.reduceLT, Nat.reduceLeDiff, Nat.reduceEqDiff, true_and, and_true, List.length_nil, List.length_cons, or_true, true_or, or_false, false_or, Option.some.injEq, Sum.inl.injEq, Sum.inr.injEq, exists_eq_left', exists_eq_left, Int.reduceLE, Int.reduceLT, Int.reduceNeg, Int.reduceAdd, Int.reduceMul, Int.reduceSub, Int.reduceToNat, inR, Nat.zero_ne_one, false_and, Nat.succ_ne_zero, reduceCtorEq, false_implies, true_implies, not_false_eq_true, not_true_eq_false, Int.reduceEq, KRE, C_Model_tellFits, FM, e60, c']
    repeat (first | refine ⟨by omega, ?_⟩ | refine ⟨fun _ _ => okt_nn (by omega), ?_⟩)
    try (first | (show _ ≤ _; omega) | (show _ < _; omega))
    exact K1
  · have hlt : k < m := by omega
    have c' := eq_false (show ¬ (m : Int) ≤ k by omega)
    obtain ⟨⟨n1, n2⟩, n3, n4⟩ := hN k hlt
    obtain ⟨t, et⟩ : ∃ t : Nat, N k = t := ⟨(N k).toNat, by omega⟩
    have ht : t < n := by omega
    have KK' := fun is z => KK hlt _ _ ⟨rfl, is, z, rfl⟩
    have gy := (mdl_t h ht).2.2.2.2.1
    rw [et] at n1
    rcases hi with ⟨rfl, hi⟩ | ⟨rfl, hi⟩
    · have one0 := eq_false (show ¬ (1 : Int) = 0 by omega)
      refine wpm_of (cuts := [41, 85]) (by decide) 60 _ _ _ _ ?_
      simp (maxSteps := 2000000) only [↓reduceIte, wp_eq, wpd_eq, kont_eq, STP1, STP2, STP3, STP4, STP5, konM_eq, AMK, CZ, Option.map, List.getElem?_cons_zero, List.getElem?_cons_succ, List.mem_cons, List.not_mem_nil, if_false, if_true, Nat.reduceAdd, Nat.reduceLT, Nat.reduceLeDiff, Nat.reduceEqDiff, true_and, and_true, List.length_nil, List.length_cons, or_true, true_or, or_false, false_or, Option.some.injEq, Sum.inl.injEq, Sum.inr.injEq, exists_eq_left', exists_eq_left, Int.reduceLE, Int.reduceLT, Int.reduceNeg, Int.reduceAdd, Int.reduceMul, Int.reduceSub, Int.reduceToNat, inR, Nat.zero_ne_one, false_and, Nat.succ_ne_zero, reduceCtorEq, false_implies, true_implies, not_false_eq_true, not_true_eq_false, Int.reduceEq, KRE, C_Model_tellFits, FM, e60, c', one0, natT, n1]
      repeat (first | refine ⟨by omega, ?_⟩ | refine ⟨fun _ _ => okt_nn (by omega), ?_⟩)
      try (first | (show _ ≤ _; omega) | (show _ < _; omega))
      refine (of_year h ht).eq ?_
      by_cases cz : F t = Z k
      · have cz' := eq_true cz
        have K2 := KK' 1 (Or.inl ⟨rfl, fun i hi2 => by
          by_cases e : i = k
          · rw [e, et]; exact cz
          · exact hi i (by omega)⟩)
        try simp (maxSteps := 2000000) only [↓reduceIte, wp_eq, wpd_eq, kont_eq, STP1, STP2, STP3, STP4, STP5, konM_eq, AMK, CZ, Option.map, List.getElem?_cons_zero, List.getElem?_cons_succ, List.mem_cons, List.not_mem_nil, if_false, if_true, Nat.reduceAdd, Nat.reduceLT, Nat.reduceLeDiff, Nat.reduceEqDiff, true_and, and_true, List.length_nil, List.length_cons, or_true, true_or, or_false, false_or, Option.some.injEq, Sum.inl.injEq, Sum.inr.injEq, exists_eq_left', exists_eq_left, Int.reduceLE, Int.reduceLT, Int.reduceNeg, Int.reduceAdd, Int.reduceMul, Int.reduceSub, Int.reduceToNat, inR, Nat.zero_ne_one, false_and, Nat.succ_ne_zero, reduceCtorEq, false_implies, true_implies, not_false_eq_true, not_true_eq_false, Int.reduceEq, KRE, C_Model_tellFits, FM, natT, n2, cz']
        repeat (first | refine ⟨by omega, ?_⟩ | refine ⟨fun _ _ => okt_nn (by omega), ?_⟩)
        try (first | (show _ ≤ _; omega) | (show _ < _; omega))
        exact K2
      · have cz' := eq_false cz
        have K2 := KK' 0 (Or.inr ⟨rfl, fun w => cz (by have := w k (by omega); rw [et] at this; exact this)⟩)
        try simp (maxSteps := 2000000) only [↓reduceIte, wp_eq, wpd_eq, kont_eq, STP1, STP2, STP3, STP4, STP5, konM_eq, AMK, CZ, Option.map, List.getElem?_cons_zero, List.getElem?_cons_succ, List.mem_cons, List.not_mem_nil, if_false, if_true, Nat.reduceAdd, Nat.reduceLT, Nat.reduceLeDiff, Nat.reduceEqDiff, true_and, and_true, List.length_nil, List.length_cons, or_true, true_or, or_false, false_or, Option.some.injEq, Sum.inl.injEq, Sum.inr.injEq, exists_eq_left', exists_eq_left, Int.reduceLE, Int.reduceLT, Int.reduceNeg, Int.reduceAdd, Int.reduceMul, Int.reduceSub, Int.reduceToNat, inR, Nat.zero_ne_one, false_and, Nat.succ_ne_zero, reduceCtorEq, false_implies, true_implies, not_false_eq_true, not_true_eq_false, Int.reduceEq, KRE, C_Model_tellFits, FM, natT, n2, cz']
        repeat (first | refine ⟨by omega, ?_⟩ | refine ⟨fun _ _ => okt_nn (by omega), ?_⟩)
        try (first | (show _ ≤ _; omega) | (show _ < _; omega))
        exact K2
    · have K2 := KK' 0 (Or.inr ⟨rfl, fun w => hi (fun i hi2 => w i (by omega))⟩)
      refine wpm_of (cuts := [41, 85]) (by decide) 60 _ _ _ _ ?_
      simp (maxSteps := 2000000) only [↓reduceIte, wp_eq, wpd_eq, kont_eq, STP1, STP2, STP3, STP4, STP5, konM_eq, AMK, CZ, Option.map, List.getElem?_cons_zero, List.getElem?_cons_succ, List.mem_cons, List.not_mem_nil, if_false, if_true, Nat.reduceAdd, Nat.reduceLT, Nat.reduceLeDiff, Nat.reduceEqDiff, true_and, and_true, List.length_nil, List.length_cons, or_true, true_or, or_false, false_or, Option.some.injEq, Sum.inl.injEq, Sum.inr.injEq, exists_eq_left', exists_eq_left, Int.reduceLE, Int.reduceLT, Int.reduceNeg, Int.reduceAdd, Int.reduceMul, Int.reduceSub, Int.reduceToNat, inR, Nat.zero_ne_one, false_and, Nat.succ_ne_zero, reduceCtorEq, false_implies, true_implies, not_false_eq_true, not_true_eq_false, Int.reduceEq, KRE, C_Model_tellFits, FM, e60, c', natT, n1]
      repeat (first | refine ⟨by omega, ?_⟩ | refine ⟨fun _ _ => okt_nn (by omega), ?_⟩)
      try (first | (show _ ≤ _; omega) | (show _ < _; omega))
      exact K2
set_option maxHeartbeats 4000000 in
/-- the years of one that fits are kept -/
theorem Model_tellFits_y {k0 q : Nat} {F : Nat → Int} {Qc : Option AV → Mm → Prop} {a3 : Int} (h : mdl M n T F lap bnd mrg) (hq : M 154 63 = q) (q50 : q ≤ 50)
    (K : ∀ M', FrP (fun b j => b = 184 ∧ 8 * q ≤ j) M M' → (∀ t, t < n → M' 184 (8 * q + t) = F t) → WPm m_Model_tellFits Qc 127 [some (.inr 154), some (.inl (k0 : Int)), some (.inl 1), some (.inl (n : Int))] [] M') :
    WPm m_Model_tellFits Qc 85 [some (.inr 154), some (.inl (k0 : Int)), some (.inl 1), some (.inl a3)] [] M := by
  have n8 := h.1.2
  have one0 := eq_false (show ¬ (1 : Int) = 0 by omega)
  refine wpm_of (cuts := [87]) (by decide) 60 _ _ _ _ ?_
  simp (maxSteps := 2000000) only [↓reduceIte, wp_eq, wpd_eq, kont_eq, STP1, STP2, STP3, STP4, STP5, konM_eq, AMK, CZ, Option.map, List.getElem?_cons_zero, List.getElem?_cons_succ, List.mem_cons, List.not_mem_nil, if_false, if_true, Nat.reduceAdd, Nat.reduceLT, Nat.reduceLeDiff, Nat.reduceEqDiff, true_and, and_true, List.length_nil, List.length_cons, or_true, true_or, or_false, false_or, Option.some.injEq, Sum.inl.injEq, Sum.inr.injEq, exists_eq_left', exists_eq_left, Int.reduceLE, Int.reduceLT, Int.reduceNeg, Int.reduceAdd, Int.reduceMul, Int.reduceSub, Int.reduceToNat, inR, Nat.zero_ne_one, false_and, Nat.succ_ne_zero, reduceCtorEq, false_implies, true_implies, not_false_eq_true, not_true_eq_false, Int.reduceEq, KRE, C_Model_tellFits, FM]
  refine loopQ n (fun t ls M1 => (FrP (fun b j => b = 184 ∧ 8 * q ≤ j) M M1 ∧ ∀ s, s < t → M1 184 (8 * q + s) = F s) ∧ ls = [some (.inr 154), some (.inl (k0 : Int)), some (.inl 1), some (.inl (t : Int))]) ?_ _ _ ⟨⟨FrP.rf, fun s hs => by omega⟩, rfl⟩
  rintro t _ M1 ht ⟨⟨Fr1, hs⟩, rfl⟩ KK
  have h1 := mdl_fr h Fr1 (fun b j z => by omega)
  have en := h1.1.1
  have e63 : M1 154 63 = q := (Fr1 _ _ (by omega)).trans hq
  by_cases c : t = n
  · subst c
    have c' := eq_true (show (t : Int) ≤ t by omega)
    have K1 := K M1 Fr1 hs
    refine wpm_of (cuts := [87, 127]) (by decide) 60 _ _ _ _ ?_
    simp (maxSteps := 2000000) only [↓reduceIte, wp_eq, wpd_eq, kont_eq, STP1, STP2, STP3, STP4, STP5, konM_eq, AMK, CZ, Option.map, List.getElem?_cons_zero, List.getElem?_cons_succ, List.mem_cons, List.not_mem_nil, if_false, if_true, Nat.reduceAdd, Nat.reduceLT, Nat.reduceLeDiff, Nat.reduceEqDiff, true_and, and_true, List.length_nil, List.length_cons, or_true, true_or, or_false, false_or, Option.some.injEq, Sum.inl.injEq, Sum.inr.injEq, exists_eq_left', exists_eq_left, Int.reduceLE, Int.reduceLT, Int.reduceNeg, Int.reduceAdd, Int.reduceMul, Int.reduceSub, Int.reduceToNat, inR, Nat.zero_ne_one, false_and, Nat.succ_ne_zero, reduceCtorEq, false_implies, true_implies, not_false_eq_true, not_true_eq_false, Int.reduceEq, KRE, C_Model_tellFits, FM, en, c']
    repeat (first | refine ⟨by omega, ?_⟩ | refine ⟨fun _ _ => okt_nn (by omega), ?_⟩)
    try (first | (show _ ≤ _; omega) | (show _ < _; omega))
    exact K1
  · have hlt : t < n := by omega
    have c' := eq_false (show ¬ (n : Int) ≤ t by omega)
    have ix : (8 * (q : Int) + (t : Int)).toNat = 8 * q + t := by omega
    refine wpm_of (cuts := [87, 127]) (by decide) 60 _ _ _ _ ?_
    simp (maxSteps := 2000000) only [↓reduceIte, wp_eq, wpd_eq, kont_eq, STP1, STP2, STP3, STP4, STP5, konM_eq, AMK, CZ, Option.map, List.getElem?_cons_zero, List.getElem?_cons_succ, List.mem_cons, List.not_mem_nil, if_false, if_true, Nat.reduceAdd, Nat.reduceLT, Nat.reduceLeDiff, Nat.reduceEqDiff, true_and, and_true, List.length_nil, List.length_cons, or_true, true_or, or_false, false_or, Option.some.injEq, Sum.inl.injEq, Sum.inr.injEq, exists_eq_left', exists_eq_left, Int.reduceLE, Int.reduceLT, Int.reduceNeg, Int.reduceAdd, Int.reduceMul, Int.reduceSub, Int.reduceToNat, inR, Nat.zero_ne_one, false_and, Nat.succ_ne_zero, reduceCtorEq, false_implies, true_implies, not_false_eq_true, not_true_eq_false, Int.reduceEq, KRE, C_Model_tellFits, FM, en, c', one0, e63]
    repeat (first | refine ⟨by omega, ?_⟩ | refine ⟨fun _ _ => okt_nn (by omega), ?_⟩)
    try (first | (show _ ≤ _; omega) | (show _ < _; omega))
    refine (of_year h1 hlt).eq ?_
    have KK' := KK hlt _ (mset M1 184 (8 * q + t) (F t)) ⟨⟨Fr1.st ⟨rfl, by omega⟩, fun s hs2 => ?_⟩, rfl⟩
    · try simp (maxSteps := 2000000) only [↓reduceIte, wp_eq, wpd_eq, kont_eq, STP1, STP2, STP3, STP4, STP5, konM_eq, AMK, CZ, Option.map, List.getElem?_cons_zero, List.getElem?_cons_succ, List.mem_cons, List.not_mem_nil, if_false, if_true, Nat.reduceAdd, Nat.reduceLT, Nat.reduceLeDiff, Nat.reduceEqDiff, true_and, and_true, List.length_nil, List.length_cons, or_true, true_or, or_false, false_or, Option.some.injEq, Sum.inl.injEq, Sum.inr.injEq, exists_eq_left', exists_eq_left, Int.reduceLE, Int.reduceLT, Int.reduceNeg, Int.reduceAdd, Int.reduceMul, Int.reduceSub, Int.reduceToNat, inR, Nat.zero_ne_one, false_and, Nat.succ_ne_zero, reduceCtorEq, false_implies, true_implies, not_false_eq_true, not_true_eq_false, Int.reduceEq, KRE, C_Model_tellFits, FM, ix]
      repeat (first | refine ⟨by omega, ?_⟩ | refine ⟨fun _ _ => okt_nn (by omega), ?_⟩)
      try (first | (show _ ≤ _; omega) | (show _ < _; omega))
      exact KK'
    · simp only [mset]
      by_cases e : s = t
      · subst e
        simp
      · rw [if_neg (by omega)]
        exact hs s (by omega)
/-- what has come of the first k bounds -/
def fitIs (M : Mm) (P : Nat → Pk) (Y : Nat → Int) (n c m : Nat) (N Z : Nat → Int) (k : Nat) : Prop := M 154 63 = (ftN P Y c m N Z k).1 ∧ M 154 64 = (ftN P Y c m N Z k).2 ∧ ∀ a : Nat, (a : Int) < (ftN P Y c m N Z k).1 → ∀ t, t < n → M 184 (8 * a + t) = ybS P Y c t (flB P Y c m N Z k a)
set_option maxHeartbeats 600000 in
set_option maxRecDepth 20000 in
theorem Model_tellFits_s {m c k : Nat} {N Z : Nat → Int} {a2 a3 : Option AV} {Qc : Option AV → Mm → Prop} (h : mdl M n T Y lap bnd mrg) (hn : ntM M n m N Z) (hc : gwC T lap 50 mrg n Y c) (hk : k < 51) (h80 : ∀ j, j < 240 → M 180 j = M 158 j) (hf : fitIs M (gwP T lap 50 mrg n Y) Y n c m N Z k)
    (K : ∀ a2 a3 M', FrP fitsP M M' → (∀ j, M' 180 j = M 180 j) → fitIs M' (gwP T lap 50 mrg n Y) Y n c m N Z (k + 1) → WPm m_Model_tellFits Qc 23 [some (.inr 154), some (.inl ((k + 1 : Nat) : Int)), a2, a3] [] M') :
    WPm m_Model_tellFits Qc 23 [some (.inr 154), some (.inl (k : Int)), a2, a3] [] M := by
  have n8 := h.1.2
  have hoc := h.2.2.2
  have c' := eq_false (show ¬ (51 : Int) ≤ k by omega)
  have ft := ftN_in (gwP T lap 50 mrg n Y) Y c m N Z k
  obtain ⟨f1, f2, f3⟩ := hf
  have hn' := hn
  obtain ⟨n1, n2, n3⟩ := hn'
  refine wpm_of (cuts := [23, 41, 127]) (by decide) 60 _ _ _ _ ?_
  simp (maxSteps := 2000000) only [↓reduceIte, wp_eq, wpd_eq, kont_eq, STP1, STP2, STP3, STP4, STP5, konM_eq, AMK, CZ, Option.map, List.getElem?_cons_zero, List.getElem?_cons_succ, List.mem_cons, List.not_mem_nil, if_false, if_true, Nat.reduceAdd, Nat.reduceLT, Nat.reduceLeDiff, Nat.reduceEqDiff, true_and, and_true, List.length_nil, List.length_cons, or_true, true_or, or_false, false_or, Option.some.injEq, Sum.inl.injEq, Sum.inr.injEq, exists_eq_left', exists_eq_left, Int.reduceLE, Int.reduceLT, Int.reduceNeg, Int.reduceAdd, Int.reduceMul, Int.reduceSub, Int.reduceToNat, inR, Nat.zero_ne_one, false_and, Nat.succ_ne_zero, reduceCtorEq, false_implies, true_implies, not_false_eq_true, not_true_eq_false, Int.reduceEq, KRE, C_Model_tellFits, FM, c']
  repeat (first | refine ⟨by omega, ?_⟩ | refine ⟨fun _ _ => okt_nn (by omega), ?_⟩)
  try (first | (show _ ≤ _; omega) | (show _ < _; omega))
  refine (Model_growNow_ok (least := 50 + (k : Int)) h (by omega)).mono (fun M1 z => ?_)
  obtain ⟨d, hd, g1, g2, F1⟩ := z
  have ey := fun t => gw_yb (t := t) hoc (by omega) hc g1
  have ok1 := (gwY_ok (lap := lap) (bnd := 50 + (k : Int)) (mrg := mrg) hoc d).1
  have hm1 : mdl M1 n T (gwY T lap (50 + (k : Int)) mrg n Y d) lap bnd mrg := by
    refine mdl_yr h (fun j => ?_) (fun t ht q hq hq4 => ?_) (fun t ht => ?_) ok1
    · rw [F1 _ _ (by unfold growP; omega)]; simp [mYM]
    · rw [F1 _ _ (by unfold growP; omega)]
      simp only [mYM]
      rw [if_neg (by omega)]
    · rw [F1 _ _ (by unfold growP; omega)]
      show (if 158 = 158 ∧ (30 * t + 4) % 30 = 4 ∧ (30 * t + 4) / 30 < n then _ else _) = _
      rw [if_pos ⟨rfl, by omega, by omega⟩]
      congr 1
      omega
  have o1 : ∀ b j, ¬ growP b j → b ≠ 158 → M1 b j = M b j := fun b j z z2 => by rw [F1 _ _ z]; simp [mYM, z2]
  have hn1 : ntM M1 n m N Z := ⟨(o1 _ _ (by unfold growP; omega) (by omega)).trans n1, n2, fun i hi => by
    rw [o1 _ _ (by unfold growP; omega) (by omega), o1 _ _ (by unfold growP; omega) (by omega)]
    exact n3 i hi⟩
  have F1' : FrP (fun b j => fitsP b j ∨ b = 158 ∧ j < 240) M M1 := by
    intro b j z
    have z1 : ¬ growP b j := fun w => z (Or.inl (Or.inl w))
    by_cases cb : b = 158
    · rw [F1 _ _ z1]
      subst cb
      simp only [mYM]
      rw [if_neg (fun w => z (Or.inr ⟨rfl, by omega⟩))]
    · exact o1 b j z1 cb
  have ag : nOk (gwY T lap (50 + (k : Int)) mrg n Y d) N Z m ↔ agS (gwP T lap 50 mrg n Y) Y c m N Z (50 + k) := by
    unfold nOk agS
    refine forall_congr' (fun i => imp_congr_right (fun hi => ?_))
    rw [ey]
    have := (n3 i hi).2.1
    rw [show (((N i).toNat : Nat) : Int) = N i by omega]
  try simp (maxSteps := 2000000) only [↓reduceIte, wp_eq, wpd_eq, kont_eq, STP1, STP2, STP3, STP4, STP5, konM_eq, AMK, CZ, Option.map, List.getElem?_cons_zero, List.getElem?_cons_succ, List.mem_cons, List.not_mem_nil, if_false, if_true, Nat.reduceAdd, Nat.reduceLT, Nat.reduceLeDiff, Nat.reduceEqDiff, true_and, and_true, List.length_nil, List.length_cons, or_true, true_or, or_false, false_or, Option.some.injEq, Sum.inl.injEq, Sum.inr.injEq, exists_eq_left', exists_eq_left, Int.reduceLE, Int.reduceLT, Int.reduceNeg, Int.reduceAdd, Int.reduceMul, Int.reduceSub, Int.reduceToNat, inR, Nat.zero_ne_one, false_and, Nat.succ_ne_zero, reduceCtorEq, false_implies, true_implies, not_false_eq_true, not_true_eq_false, Int.reduceEq, KRE, C_Model_tellFits, FM]
  refine Model_tellFits_n hm1 hn1 (fun is his => ?_)
  have bk := fun {M2 : Mm} (f : FrP (fun b j => fitsP b j ∨ b = 158 ∧ j < 240) M M2) (f8 : ∀ j, M2 180 j = M 180 j) => (fun b j (z : ¬ fitsP b j) => by
    by_cases cc : b = 158 ∧ j < 240
    · obtain ⟨rfl, c2⟩ := cc
      have e : mCpR M2 158 180 240 158 j = M2 180 j := by simp [mCpR, c2]
      rw [e, f8 j, h80 j c2]
    · have e : mCpR M2 158 180 240 b j = M2 b j := by simp only [mCpR]; rw [if_neg cc]
      rw [e, f b j (fun w => by rcases w with w | w; exact z w; exact cc w)] : FrP fitsP M (mCpR M2 158 180 240))
  rcases his with ⟨rfl, his⟩ | ⟨rfl, his⟩
  · have hag := ag.mp his
    obtain ⟨q, eq1⟩ : ∃ q : Nat, (ftN (gwP T lap 50 mrg n Y) Y c m N Z k).1 = q := ⟨_, (Int.toNat_of_nonneg ft.1.1).symm⟩
    have q51 : q ≤ k := by omega
    refine Model_tellFits_y (q := q) hm1 (by rw [o1 _ _ (by unfold growP; omega) (by omega), f1, eq1]) (by omega) (fun M2 F2 hy => ?_)
    have one0 := eq_false (show ¬ (1 : Int) = 0 by omega)
    have F2' : FrP (fun b j => fitsP b j ∨ b = 158 ∧ j < 240) M M2 := F1'.tr (F2.wd (fun b j z => by unfold fitsP; omega))
    have f8 : ∀ j, M2 180 j = M 180 j := fun j => (F2 _ _ (by omega)).trans (o1 _ _ (by unfold growP; omega) (by omega))
    have FB : FrP fitsP M (mCpR M2 158 180 240) := bk F2' f8
    have e63 : mCpR M2 158 180 240 154 63 = (q : Int) := by
      have e : mCpR M2 158 180 240 154 63 = M2 154 63 := by simp [mCpR]
      rw [e, F2 _ _ (by omega), o1 _ _ (by unfold growP; omega) (by omega), f1, eq1]
    have e64 : mCpR M2 158 180 240 154 64 = (ftN (gwP T lap 50 mrg n Y) Y c m N Z k).2 := by
      have e : mCpR M2 158 180 240 154 64 = M2 154 64 := by simp [mCpR]
      rw [e, F2 _ _ (by omega), o1 _ _ (by unfold growP; omega) (by omega), f2]
    have e84 : ∀ j, mCpR M2 158 180 240 184 j = M2 184 j := fun j => by simp [mCpR]
    have e80 : ∀ j, mCpR M2 158 180 240 180 j = M 180 j := fun j => by
      have e : mCpR M2 158 180 240 180 j = M2 180 j := by simp [mCpR]
      rw [e]; exact f8 j
    refine wpm_of (cuts := [23]) (by decide) 60 _ _ _ _ ?_
    simp (maxSteps := 2000000) only [↓reduceIte, wp_eq, wpd_eq, kont_eq, STP1, STP2, STP3, STP4, STP5, konM_eq, AMK, CZ, Option.map, List.getElem?_cons_zero, List.getElem?_cons_succ, List.mem_cons, List.not_mem_nil, if_false, if_true, Nat.reduceAdd, Nat.reduceLT, Nat.reduceLeDiff, Nat.reduceEqDiff, true_and, and_true, List.length_nil, List.length_cons, or_true, true_or, or_false, false_or, Option.some.injEq, Sum.inl.injEq, Sum.inr.injEq, exists_eq_left', exists_eq_left, Int.reduceLE, Int.reduceLT, Int.reduceNeg, Int.reduceAdd, Int.reduceMul, Int.reduceSub, Int.reduceToNat, inR, Nat.zero_ne_one, false_and, Nat.succ_ne_zero, reduceCtorEq, false_implies, true_implies, not_false_eq_true, not_true_eq_false, Int.reduceEq, KRE, C_Model_tellFits, FM, one0]
    refine (Model_copyTo_ok (a := 158) (f := 180) (n := 240) (by simp only [FM]) (by simp only [FM]) (by omega) (by omega)).eq ?_
    generalize mCpR M2 158 180 240 = M3 at *
    have fin : ∀ L : Int, L = (if (ftN (gwP T lap 50 mrg n Y) Y c m N Z k).2 = -1 then 50 + (k : Int) else (ftN (gwP T lap 50 mrg n Y) Y c m N Z k).2) → WPm m_Model_tellFits Qc 23 [some (.inr 154), some (.inl ((k + 1 : Nat) : Int)), some (.inl 1), some (.inl (n : Int))] [] (mset (mset M3 154 64 L) 154 63 ((q : Int) + 1)) := by
      intro L hL
      refine K _ _ _ ((FB.st (by unfold fitsP; omega)).st (by unfold fitsP; omega)) (fun j => by simp only [mset]; rw [if_neg (by omega), if_neg (by omega)]; exact e80 j) ⟨?_, ?_, fun a ha t ht => ?_⟩
      · rw [ftN_s, if_pos hag, eq1]; simp [mset]
      · rw [ftN_s, if_pos hag, ← hL]; simp [mset]
      · rw [ftN_s, if_pos hag, eq1] at ha
        have ha' : (a : Int) < q + 1 := ha
        have e : mset (mset M3 154 64 L) 154 63 ((q : Int) + 1) 184 (8 * a + t) = M2 184 (8 * a + t) := by
          simp only [mset]
          rw [if_neg (by omega), if_neg (by omega)]
          exact e84 _
        rw [e, flB, if_pos hag, eq1]
        unfold updI
        by_cases ea : a = q
        · subst ea
          rw [hy t ht, ey, if_pos (by omega)]
        · rw [if_neg (by omega), F2 _ _ (by omega), o1 _ _ (by unfold growP; omega) (by omega)]
          exact f3 a (by omega) t ht
    have fl := ft.2
    by_cases cl : (ftN (gwP T lap 50 mrg n Y) Y c m N Z k).2 = -1
    · have cl' := eq_true cl
      have G := fin (50 + (k : Int)) (by rw [if_pos cl])
      have m63 : ∀ v, mset M3 154 64 v 154 63 = (q : Int) := fun v => by rw [← e63]; simp [mset]
      try simp (maxSteps := 2000000) only [↓reduceIte, wp_eq, wpd_eq, kont_eq, STP1, STP2, STP3, STP4, STP5, konM_eq, AMK, CZ, Option.map, List.getElem?_cons_zero, List.getElem?_cons_succ, List.mem_cons, List.not_mem_nil, if_false, if_true, Nat.reduceAdd, Nat.reduceLT, Nat.reduceLeDiff, Nat.reduceEqDiff, true_and, and_true, List.length_nil, List.length_cons, or_true, true_or, or_false, false_or, Option.some.injEq, Sum.inl.injEq, Sum.inr.injEq, exists_eq_left', exists_eq_left, Int.reduceLE, Int.reduceLT, Int.reduceNeg, Int.reduceAdd, Int.reduceMul, Int.reduceSub, Int.reduceToNat, inR, Nat.zero_ne_one, false_and, Nat.succ_ne_zero, reduceCtorEq, false_implies, true_implies, not_false_eq_true, not_true_eq_false, Int.reduceEq, KRE, C_Model_tellFits, FM, e64, cl', m63]
      repeat (first | refine ⟨by omega, ?_⟩ | refine ⟨fun _ _ => okt_nn (by omega), ?_⟩)
      try (first | (show _ ≤ _; omega) | (show _ < _; omega))
      exact G
    · have cl' := eq_false cl
      have G := fin _ (by rw [if_neg cl])
      have m63 : ∀ v, mset M3 154 64 v 154 63 = (q : Int) := fun v => by rw [← e63]; simp [mset]
      try simp (maxSteps := 2000000) only [↓reduceIte, wp_eq, wpd_eq, kont_eq, STP1, STP2, STP3, STP4, STP5, konM_eq, AMK, CZ, Option.map, List.getElem?_cons_zero, List.getElem?_cons_succ, List.mem_cons, List.not_mem_nil, if_false, if_true, Nat.reduceAdd, Nat.reduceLT, Nat.reduceLeDiff, Nat.reduceEqDiff, true_and, and_true, List.length_nil, List.length_cons, or_true, true_or, or_false, false_or, Option.some.injEq, Sum.inl.injEq, Sum.inr.injEq, exists_eq_left', exists_eq_left, Int.reduceLE, Int.reduceLT, Int.reduceNeg, Int.reduceAdd, Int.reduceMul, Int.reduceSub, Int.reduceToNat, inR, Nat.zero_ne_one, false_and, Nat.succ_ne_zero, reduceCtorEq, false_implies, true_implies, not_false_eq_true, not_true_eq_false, Int.reduceEq, KRE, C_Model_tellFits, FM, e64, cl', m63]
      repeat (first | refine ⟨by omega, ?_⟩ | refine ⟨fun _ _ => okt_nn (by omega), ?_⟩)
      try (first | (show _ ≤ _; omega) | (show _ < _; omega))
      exact G
  · have hag : ¬ agS (gwP T lap 50 mrg n Y) Y c m N Z (50 + k) := fun w => his (ag.mpr w)
    have f8 : ∀ j, M1 180 j = M 180 j := fun j => o1 _ _ (by unfold growP; omega) (by omega)
    have FB : FrP fitsP M (mCpR M1 158 180 240) := bk F1' f8
    have en1 := hm1.1.1
    have eo : ∀ b j, b ≠ 158 → mCpR M1 158 180 240 b j = M1 b j := fun b j hb => by simp [mCpR, hb]
    have G : ∀ a3, WPm m_Model_tellFits Qc 23 [some (.inr 154), some (.inl ((k + 1 : Nat) : Int)), some (.inl 0), a3] [] (mCpR M1 158 180 240) := by
      intro a3
      refine K _ _ _ FB (fun j => by rw [eo _ _ (by omega)]; exact f8 j) ⟨?_, ?_, fun a ha t ht => ?_⟩
      · rw [ftN_s, if_neg hag, eo _ _ (by omega), o1 _ _ (by unfold growP; omega) (by omega)]; exact f1
      · rw [ftN_s, if_neg hag, eo _ _ (by omega), o1 _ _ (by unfold growP; omega) (by omega)]; exact f2
      · rw [ftN_s, if_neg hag] at ha
        rw [flB, if_neg hag, eo _ _ (by omega), o1 _ _ (by unfold growP; omega) (by omega)]
        exact f3 a ha t ht
    by_cases cn : n = 0
    · have cn' := eq_true (show (n : Int) ≤ 0 by omega)
      refine wpm_of (cuts := [23]) (by decide) 60 _ _ _ _ ?_
      simp (maxSteps := 2000000) only [↓reduceIte, wp_eq, wpd_eq, kont_eq, STP1, STP2, STP3, STP4, STP5, konM_eq, AMK, CZ, Option.map, List.getElem?_cons_zero, List.getElem?_cons_succ, List.mem_cons, List.not_mem_nil, if_false, if_true, Nat.reduceAdd, Nat.reduceLT, Nat.reduceLeDiff, Nat.reduceEqDiff, true_and, and_true, List.length_nil, List.length_cons, or_true, true_or, or_false, false_or, Option.some.injEq, Sum.inl.injEq, Sum.inr.injEq, exists_eq_left', exists_eq_left, Int.reduceLE, Int.reduceLT, Int.reduceNeg, Int.reduceAdd, Int.reduceMul, Int.reduceSub, Int.reduceToNat, inR, Nat.zero_ne_one, false_and, Nat.succ_ne_zero, reduceCtorEq, false_implies, true_implies, not_false_eq_true, not_true_eq_false, Int.reduceEq, KRE, C_Model_tellFits, FM, en1, cn']
      repeat (first | refine ⟨by omega, ?_⟩ | refine ⟨fun _ _ => okt_nn (by omega), ?_⟩)
      try (first | (show _ ≤ _; omega) | (show _ < _; omega))
      refine (Model_copyTo_ok (a := 158) (f := 180) (n := 240) (by simp only [FM]) (by simp only [FM]) (by omega) (by omega)).eq ?_
      exact G _
    · have cn' := eq_false (show ¬ (n : Int) ≤ 0 by omega)
      refine wpm_of (cuts := [23]) (by decide) 60 _ _ _ _ ?_
      simp (maxSteps := 2000000) only [↓reduceIte, wp_eq, wpd_eq, kont_eq, STP1, STP2, STP3, STP4, STP5, konM_eq, AMK, CZ, Option.map, List.getElem?_cons_zero, List.getElem?_cons_succ, List.mem_cons, List.not_mem_nil, if_false, if_true, Nat.reduceAdd, Nat.reduceLT, Nat.reduceLeDiff, Nat.reduceEqDiff, true_and, and_true, List.length_nil, List.length_cons, or_true, true_or, or_false, false_or, Option.some.injEq, Sum.inl.injEq, Sum.inr.injEq, exists_eq_left', exists_eq_left, Int.reduceLE, Int.reduceLT, Int.reduceNeg, Int.reduceAdd, Int.reduceMul, Int.reduceSub, Int.reduceToNat, inR, Nat.zero_ne_one, false_and, Nat.succ_ne_zero, reduceCtorEq, false_implies, true_implies, not_false_eq_true, not_true_eq_false, Int.reduceEq, KRE, C_Model_tellFits, FM, en1, cn']
      repeat (first | refine ⟨by omega, ?_⟩ | refine ⟨fun _ _ => okt_nn (by omega), ?_⟩)
      try (first | (show _ ≤ _; omega) | (show _ < _; omega))
      refine (Model_copyTo_ok (a := 158) (f := 180) (n := 240) (by simp only [FM]) (by simp only [FM]) (by omega) (by omega)).eq ?_
      exact G _
set_option maxHeartbeats 600000 in
set_option maxRecDepth 20000 in
theorem Model_tellFits_ok {m c : Nat} {N Z : Nat → Int} (h : mdl M n T Y lap bnd mrg) (hn : ntM M n m N Z) (hc : gwC T lap 50 mrg n Y c) : CallV m_Model_tellFits [.inr 154] M (fun M' => fitIs M' (gwP T lap 50 mrg n Y) Y n c m N Z 51 ∧ FrP fitsP M M') := by
  refine callP_of (by decide) (by decide) (Nat.le_of_ble_eq_true rfl) (wpm_of (cuts := [23]) (by decide) 60 _ _ _ _ ?_)
  rw [show lM m_Model_tellFits = 4 from rfl]
  simp (maxSteps := 2000000) only [↓reduceIte, wp_eq, wpd_eq, kont_eq, STP1, STP2, STP3, STP4, STP5, konM_eq, AMK, CZ, Option.map, List.getElem?_cons_zero, List.getElem?_cons_succ, List.mem_cons, List.not_mem_nil, if_false, if_true, Nat.reduceAdd, Nat.reduceLT, Nat.reduceLeDiff, Nat.reduceEqDiff, true_and, and_true, List.length_nil, List.length_cons, or_true, true_or, or_false, false_or, Option.some.injEq, Sum.inl.injEq, Sum.inr.injEq, exists_eq_left', exists_eq_left, Int.reduceLE, Int.reduceLT, Int.reduceNeg, Int.reduceAdd, Int.reduceMul, Int.reduceSub, Int.reduceToNat, inR, Nat.zero_ne_one, false_and, Nat.succ_ne_zero, reduceCtorEq, false_implies, true_implies, not_false_eq_true, not_true_eq_false, Int.reduceEq, KRE, C_Model_tellFits, FM]
  refine (Model_copyTo_ok (a := 180) (f := 158) (n := 240) (by simp only [FM]) (by simp only [FM]) (by omega) (by omega)).eq ?_
  have F0 : FrP fitsP M (mCpR (mset (mset M 154 63 0) 154 64 (-1)) 180 158 240) := by
    intro b j z
    unfold fitsP at z
    simp only [mCpR, mset]
    rw [if_neg (by omega), if_neg (by omega), if_neg (by omega)]
  have h80 : ∀ j, j < 240 → mCpR (mset (mset M 154 63 0) 154 64 (-1)) 180 158 240 180 j = mCpR (mset (mset M 154 63 0) 154 64 (-1)) 180 158 240 158 j := fun j hj => by simp [mCpR, hj]
  have hf0 : fitIs (mCpR (mset (mset M 154 63 0) 154 64 (-1)) 180 158 240) (gwP T lap 50 mrg n Y) Y n c m N Z 0 := ⟨by simp [mCpR, mset, ftN, foldN], by simp [mCpR, mset, ftN, foldN], fun a ha => absurd (show (a : Int) < 0 from ha) (by omega)⟩
  generalize mCpR (mset (mset M 154 63 0) 154 64 (-1)) 180 158 240 = M0 at *
  have sep : ∀ b j, fitsP b j → b ≠ 156 ∧ b ≠ 158 := fun b j z => by unfold fitsP growP at z; omega
  try simp (maxSteps := 2000000) only [↓reduceIte, wp_eq, wpd_eq, kont_eq, STP1, STP2, STP3, STP4, STP5, konM_eq, AMK, CZ, Option.map, List.getElem?_cons_zero, List.getElem?_cons_succ, List.mem_cons, List.not_mem_nil, if_false, if_true, Nat.reduceAdd, Nat.reduceLT, Nat.reduceLeDiff, Nat.reduceEqDiff, true_and, and_true, List.length_nil, List.length_cons, or_true, true_or, or_false, false_or, Option.some.injEq, Sum.inl.injEq, Sum.inr.injEq, exists_eq_left', exists_eq_left, Int.reduceLE, Int.reduceLT, Int.reduceNeg, Int.reduceAdd, Int.reduceMul, Int.reduceSub, Int.reduceToNat, inR, Nat.zero_ne_one, false_and, Nat.succ_ne_zero, reduceCtorEq, false_implies, true_implies, not_false_eq_true, not_true_eq_false, Int.reduceEq, KRE, C_Model_tellFits, FM]
  refine loopQ 51 (fun k ls M1 => (FrP fitsP M M1 ∧ (∀ j, j < 240 → M1 180 j = M1 158 j) ∧ fitIs M1 (gwP T lap 50 mrg n Y) Y n c m N Z k) ∧ ∃ a2 a3, ls = [some (.inr 154), some (.inl (k : Int)), a2, a3]) ?_ _ _ ⟨⟨F0, h80, hf0⟩, none, none, rfl⟩
  rintro k _ M1 hk ⟨⟨F, h801, hf⟩, a2, a3, rfl⟩ KK
  by_cases ck : k = 51
  · subst ck
    have c' := eq_true (show (51 : Int) ≤ (51 : Nat) by omega)
    refine wpm_of (cuts := [23]) (by decide) 60 _ _ _ _ ?_
    simp (maxSteps := 2000000) only [↓reduceIte, wp_eq, wpd_eq, kont_eq, STP1, STP2, STP3, STP4, STP5, konM_eq, AMK, CZ, Option.map, List.getElem?_cons_zero, List.getElem?_cons_succ, List.mem_cons, List.not_mem_nil, if_false, if_true, Nat.reduceAdd, Nat.reduceLT, Nat.reduceLeDiff, Nat.reduceEqDiff, true_and, and_true, List.length_nil, List.length_cons, or_true, true_or, or_false, false_or, Option.some.injEq, Sum.inl.injEq, Sum.inr.injEq, exists_eq_left', exists_eq_left, Int.reduceLE, Int.reduceLT, Int.reduceNeg, Int.reduceAdd, Int.reduceMul, Int.reduceSub, Int.reduceToNat, inR, Nat.zero_ne_one, false_and, Nat.succ_ne_zero, reduceCtorEq, false_implies, true_implies, not_false_eq_true, not_true_eq_false, Int.reduceEq, KRE, C_Model_tellFits, FM, c']
    repeat (first | refine ⟨by omega, ?_⟩ | refine ⟨fun _ _ => okt_nn (by omega), ?_⟩)
    try (first | (show _ ≤ _; omega) | (show _ < _; omega))
    exact F
  · have h1 := mdl_fr h F sep
    obtain ⟨n1, n2, n3⟩ := hn
    have hn1 : ntM M1 n m N Z := ⟨(F _ _ (by unfold fitsP growP; omega)).trans n1, n2, fun i hi => by
      rw [F _ _ (by unfold fitsP growP; omega), F _ _ (by unfold fitsP growP; omega)]
      exact n3 i hi⟩
    refine Model_tellFits_s h1 hn1 hc (by omega) h801 hf (fun a2 a3 M2 F2 e8 hf2 => ?_)
    refine KK (by omega) _ _ ⟨⟨F.tr F2, fun j hj => ?_, hf2⟩, a2, a3, rfl⟩
    rw [e8, F2 158 j (by unfold fitsP growP; omega)]
    exact h801 j hj
set_option maxHeartbeats 600000 in
set_option maxRecDepth 20000 in
theorem Mfits_ok {m c : Nat} {N Z : Nat → Int} {w : Int} (h : mdl M n T Y lap bnd mrg) (hn : ntM M n m N Z) (hc : gwC T lap 50 mrg n Y c) (hw : w = 0 ∨ w = 1) : CallI m_Model_fits [.inr 154, .inl w] M (fun y M' => y = (if w = 0 then (ftN (gwP T lap 50 mrg n Y) Y c m N Z 51).1 else (ftN (gwP T lap 50 mrg n Y) Y c m N Z 51).2) ∧ rsM M 0 M') := by
  have h0 : mdl (mset M 154 1 0) n T Y lap bnd mrg := mdl_fr h scr_0 scr_mdl
  have hn0 : ntM (mset M 154 1 0) n m N Z := by
    obtain ⟨n1, n2, n3⟩ := hn
    exact ⟨by rw [← n1]; simp [mset], n2, fun i hi => by simpa [mset] using n3 i hi⟩
  refine callP_of (by decide) (by decide) (Nat.le_of_ble_eq_true rfl) (wpm_of (cuts := []) (by decide) 60 _ _ _ _ ?_)
  rw [show lM m_Model_fits = 2 from rfl]
  simp (maxSteps := 2000000) only [↓reduceIte, wp_eq, wpd_eq, kont_eq, STP1, STP2, STP3, STP4, STP5, konM_eq, AMK, CZ, Option.map, List.getElem?_cons_zero, List.getElem?_cons_succ, List.mem_cons, List.not_mem_nil, if_false, if_true, Nat.reduceAdd, Nat.reduceLT, Nat.reduceLeDiff, Nat.reduceEqDiff, true_and, and_true, List.length_nil, List.length_cons, or_true, true_or, or_false, false_or, Option.some.injEq, Sum.inl.injEq, Sum.inr.injEq, exists_eq_left', exists_eq_left, Int.reduceLE, Int.reduceLT, Int.reduceNeg, Int.reduceAdd, Int.reduceMul, Int.reduceSub, Int.reduceToNat, inR, Nat.zero_ne_one, false_and, Nat.succ_ne_zero, reduceCtorEq, false_implies, true_implies, not_false_eq_true, not_true_eq_false, Int.reduceEq, KRE, C_Model_fits, FM]
  refine (Model_isIn_ok ⟨by omega, by omega⟩ ⟨by omega, by omega⟩ ⟨by omega, by omega⟩).eq ?_
  rw [if_pos (by omega)]
  try simp (maxSteps := 2000000) only [↓reduceIte, wp_eq, wpd_eq, kont_eq, STP1, STP2, STP3, STP4, STP5, konM_eq, AMK, CZ, Option.map, List.getElem?_cons_zero, List.getElem?_cons_succ, List.mem_cons, List.not_mem_nil, if_false, if_true, Nat.reduceAdd, Nat.reduceLT, Nat.reduceLeDiff, Nat.reduceEqDiff, true_and, and_true, List.length_nil, List.length_cons, or_true, true_or, or_false, false_or, Option.some.injEq, Sum.inl.injEq, Sum.inr.injEq, exists_eq_left', exists_eq_left, Int.reduceLE, Int.reduceLT, Int.reduceNeg, Int.reduceAdd, Int.reduceMul, Int.reduceSub, Int.reduceToNat, inR, Nat.zero_ne_one, false_and, Nat.succ_ne_zero, reduceCtorEq, false_implies, true_implies, not_false_eq_true, not_true_eq_false, Int.reduceEq, KRE, C_Model_fits, FM]
  repeat (first | refine ⟨by omega, ?_⟩ | refine ⟨fun _ _ => okt_nn (by omega), ?_⟩)
  try (first | (show _ ≤ _; omega) | (show _ < _; omega))
  refine (Model_tellFits_ok h0 hn0 hc).mono (fun M1 z => ?_)
  obtain ⟨⟨f1, f2, f3⟩, F1⟩ := z
  have rs := rsM_fr rsM_0 F1 (fun b j z => by unfold fitsP growP at z; unfold scrM; omega)
  rcases hw with rfl | rfl
  · try simp (maxSteps := 2000000) only [↓reduceIte, wp_eq, wpd_eq, kont_eq, STP1, STP2, STP3, STP4, STP5, konM_eq, AMK, CZ, Option.map, List.getElem?_cons_zero, List.getElem?_cons_succ, List.mem_cons, List.not_mem_nil, if_false, if_true, Nat.reduceAdd, Nat.reduceLT, Nat.reduceLeDiff, Nat.reduceEqDiff, true_and, and_true, List.length_nil, List.length_cons, or_true, true_or, or_false, false_or, Option.some.injEq, Sum.inl.injEq, Sum.inr.injEq, exists_eq_left', exists_eq_left, Int.reduceLE, Int.reduceLT, Int.reduceNeg, Int.reduceAdd, Int.reduceMul, Int.reduceSub, Int.reduceToNat, inR, Nat.zero_ne_one, false_and, Nat.succ_ne_zero, reduceCtorEq, false_implies, true_implies, not_false_eq_true, not_true_eq_false, Int.reduceEq, KRE, C_Model_fits, FM, f1]
    repeat (first | refine ⟨by omega, ?_⟩ | refine ⟨fun _ _ => okt_nn (by omega), ?_⟩)
    try (first | (show _ ≤ _; omega) | (show _ < _; omega))
    first | exact rs | exact ⟨rfl, rs⟩ | exact ⟨by simp, rs⟩ | exact ⟨by omega, rs⟩ | exact ⟨by simp, rfl, rs⟩ | exact ⟨by omega, rfl, rs⟩ | exact ⟨by simp, by simp, rs⟩ | exact ⟨by omega, by simp, rs⟩ | (simp; first | exact rs | exact ⟨by omega, rs⟩)
  · have one0 := eq_false (show ¬ (1 : Int) = 0 by omega)
    rw [if_neg (by omega)]
    try simp (maxSteps := 2000000) only [↓reduceIte, wp_eq, wpd_eq, kont_eq, STP1, STP2, STP3, STP4, STP5, konM_eq, AMK, CZ, Option.map, List.getElem?_cons_zero, List.getElem?_cons_succ, List.mem_cons, List.not_mem_nil, if_false, if_true, Nat.reduceAdd, Nat.reduceLT, Nat.reduceLeDiff, Nat.reduceEqDiff, true_and, and_true, List.length_nil, List.length_cons, or_true, true_or, or_false, false_or, Option.some.injEq, Sum.inl.injEq, Sum.inr.injEq, exists_eq_left', exists_eq_left, Int.reduceLE, Int.reduceLT, Int.reduceNeg, Int.reduceAdd, Int.reduceMul, Int.reduceSub, Int.reduceToNat, inR, Nat.zero_ne_one, false_and, Nat.succ_ne_zero, reduceCtorEq, false_implies, true_implies, not_false_eq_true, not_true_eq_false, Int.reduceEq, KRE, C_Model_fits, FM, f2, one0]
    repeat (first | refine ⟨by omega, ?_⟩ | refine ⟨fun _ _ => okt_nn (by omega), ?_⟩)
    try (first | (show _ ≤ _; omega) | (show _ < _; omega))
    first | exact rs | exact ⟨rfl, rs⟩ | exact ⟨by simp, rs⟩ | exact ⟨by omega, rs⟩ | exact ⟨by simp, rfl, rs⟩ | exact ⟨by omega, rfl, rs⟩ | exact ⟨by simp, by simp, rs⟩ | exact ⟨by omega, by simp, rs⟩ | (simp; first | exact rs | exact ⟨by omega, rs⟩)
set_option maxHeartbeats 600000 in
set_option maxRecDepth 20000 in
theorem Mfits_x {w : Int} (hw : inR w) (hx : w < 0 ∨ 1 < w) : CallI m_Model_fits [.inr 154, .inl w] M (fun _ M' => rsM M 1 M') := by
  refine callP_of (by decide) (by decide) (Nat.le_of_ble_eq_true rfl) (wpm_of (cuts := []) (by decide) 60 _ _ _ _ ?_)
  rw [show lM m_Model_fits = 2 from rfl]
  simp (maxSteps := 2000000) only [↓reduceIte, wp_eq, wpd_eq, kont_eq, STP1, STP2, STP3, STP4, STP5, konM_eq, AMK, CZ, Option.map, List.getElem?_cons_zero, List.getElem?_cons_succ, List.mem_cons, List.not_mem_nil, if_false, if_true, Nat.reduceAdd, Nat.reduceLT, Nat.reduceLeDiff, Nat.reduceEqDiff, true_and, and_true, List.length_nil, List.length_cons, or_true, true_or, or_false, false_or, Option.some.injEq, Sum.inl.injEq, Sum.inr.injEq, exists_eq_left', exists_eq_left, Int.reduceLE, Int.reduceLT, Int.reduceNeg, Int.reduceAdd, Int.reduceMul, Int.reduceSub, Int.reduceToNat, inR, Nat.zero_ne_one, false_and, Nat.succ_ne_zero, reduceCtorEq, false_implies, true_implies, not_false_eq_true, not_true_eq_false, Int.reduceEq, KRE, C_Model_fits, FM]
  refine (Model_isIn_ok hw ⟨by omega, by omega⟩ ⟨by omega, by omega⟩).eq ?_
  rw [if_neg (by omega)]
  try simp (maxSteps := 2000000) only [↓reduceIte, wp_eq, wpd_eq, kont_eq, STP1, STP2, STP3, STP4, STP5, konM_eq, AMK, CZ, Option.map, List.getElem?_cons_zero, List.getElem?_cons_succ, List.mem_cons, List.not_mem_nil, if_false, if_true, Nat.reduceAdd, Nat.reduceLT, Nat.reduceLeDiff, Nat.reduceEqDiff, true_and, and_true, List.length_nil, List.length_cons, or_true, true_or, or_false, false_or, Option.some.injEq, Sum.inl.injEq, Sum.inr.injEq, exists_eq_left', exists_eq_left, Int.reduceLE, Int.reduceLT, Int.reduceNeg, Int.reduceAdd, Int.reduceMul, Int.reduceSub, Int.reduceToNat, inR, Nat.zero_ne_one, false_and, Nat.succ_ne_zero, reduceCtorEq, false_implies, true_implies, not_false_eq_true, not_true_eq_false, Int.reduceEq, KRE, C_Model_fits, FM]
  repeat (first | refine ⟨by omega, ?_⟩ | refine ⟨fun _ _ => okt_nn (by omega), ?_⟩)
  try (first | (show _ ≤ _; omega) | (show _ < _; omega))
  exact (Model_fail_ok (k := 1) (M := mset M 154 1 0)).eq (rsM_fail rsM_0)
set_option maxHeartbeats 600000 in
set_option maxRecDepth 20000 in
theorem Model_unlike_ok {t q : Nat} {v : Nat → Int} (ht : t < 8) (hq : M 154 63 = q) (q51 : q ≤ 51) (hv : ∀ a, a < q → M 184 (8 * a + t) = v a ∧ (-1 ≤ v a ∧ v a ≤ 900)) : CallI m_Model_unlike [.inr 154, .inl (t : Int)] M (fun x M' => x = sumN (newI v) q ∧ M' = M) := by
  refine callP_of (by decide) (by decide) (Nat.le_of_ble_eq_true rfl) (wpm_of (cuts := [4]) (by decide) 60 _ _ _ _ ?_)
  rw [show lM m_Model_unlike = 6 from rfl]
  simp (maxSteps := 2000000) only [↓reduceIte, wp_eq, wpd_eq, kont_eq, STP1, STP2, STP3, STP4, STP5, konM_eq, AMK, CZ, Option.map, List.getElem?_cons_zero, List.getElem?_cons_succ, List.mem_cons, List.not_mem_nil, if_false, if_true, Nat.reduceAdd, Nat.reduceLT, Nat.reduceLeDiff, Nat.reduceEqDiff, true_and, and_true, List.length_nil, List.length_cons, or_true, true_or, or_false, false_or, Option.some.injEq, Sum.inl.injEq, Sum.inr.injEq, exists_eq_left', exists_eq_left, Int.reduceLE, Int.reduceLT, Int.reduceNeg, Int.reduceAdd, Int.reduceMul, Int.reduceSub, Int.reduceToNat, inR, Nat.zero_ne_one, false_and, Nat.succ_ne_zero, reduceCtorEq, false_implies, true_implies, not_false_eq_true, not_true_eq_false, Int.reduceEq, KRE, C_Model_unlike, FM]
  refine loopQ q (fun a ls M1 => M = M1 ∧ ∃ a4 a5, ls = [some (.inr 154), some (.inl (t : Int)), some (.inl (sumN (newI v) a)), some (.inl (a : Int)), a4, a5]) ?_ _ _ ⟨rfl, none, none, rfl⟩
  rintro a _ _ ha ⟨rfl, a4, a5, rfl⟩ K
  by_cases c : a = q
  · subst c
    have c' := eq_true (show (a : Int) ≤ a by omega)
    refine wpm_of (cuts := [4]) (by decide) 60 _ _ _ _ ?_
    simp (maxSteps := 2000000) only [↓reduceIte, wp_eq, wpd_eq, kont_eq, STP1, STP2, STP3, STP4, STP5, konM_eq, AMK, CZ, Option.map, List.getElem?_cons_zero, List.getElem?_cons_succ, List.mem_cons, List.not_mem_nil, if_false, if_true, Nat.reduceAdd, Nat.reduceLT, Nat.reduceLeDiff, Nat.reduceEqDiff, true_and, and_true, List.length_nil, List.length_cons, or_true, true_or, or_false, false_or, Option.some.injEq, Sum.inl.injEq, Sum.inr.injEq, exists_eq_left', exists_eq_left, Int.reduceLE, Int.reduceLT, Int.reduceNeg, Int.reduceAdd, Int.reduceMul, Int.reduceSub, Int.reduceToNat, inR, Nat.zero_ne_one, false_and, Nat.succ_ne_zero, reduceCtorEq, false_implies, true_implies, not_false_eq_true, not_true_eq_false, Int.reduceEq, KRE, C_Model_unlike, FM, hq, c']
    repeat (first | refine ⟨by omega, ?_⟩ | refine ⟨fun _ _ => okt_nn (by omega), ?_⟩)
    try (first | (show _ ≤ _; omega) | (show _ < _; omega))
  · have hlt : a < q := by omega
    have c' := eq_false (show ¬ (q : Int) ≤ a by omega)
    have ix : ∀ b : Nat, (8 * (b : Int) + (t : Int)).toNat = 8 * b + t := fun b => by omega
    obtain ⟨va, ra⟩ := hv a hlt
    have K' := fun a4 a5 => K hlt _ _ ⟨rfl, a4, a5, rfl⟩
    rw [sumN] at K'
    refine wpm_of (cuts := [4, 18]) (by decide) 60 _ _ _ _ ?_
    simp (maxSteps := 2000000) only [↓reduceIte, wp_eq, wpd_eq, kont_eq, STP1, STP2, STP3, STP4, STP5, konM_eq, AMK, CZ, Option.map, List.getElem?_cons_zero, List.getElem?_cons_succ, List.mem_cons, List.not_mem_nil, if_false, if_true, Nat.reduceAdd, Nat.reduceLT, Nat.reduceLeDiff, Nat.reduceEqDiff, true_and, and_true, List.length_nil, List.length_cons, or_true, true_or, or_false, false_or, Option.some.injEq, Sum.inl.injEq, Sum.inr.injEq, exists_eq_left', exists_eq_left, Int.reduceLE, Int.reduceLT, Int.reduceNeg, Int.reduceAdd, Int.reduceMul, Int.reduceSub, Int.reduceToNat, inR, Nat.zero_ne_one, false_and, Nat.succ_ne_zero, reduceCtorEq, false_implies, true_implies, not_false_eq_true, not_true_eq_false, Int.reduceEq, KRE, C_Model_unlike, FM, hq, c']
    repeat (first | refine ⟨by omega, ?_⟩ | refine ⟨fun _ _ => okt_nn (by omega), ?_⟩)
    try (first | (show _ ≤ _; omega) | (show _ < _; omega))
    refine loopQ a (fun b ls M1 => M = M1 ∧ ∃ is : Int, (is = 1 ∧ (∀ d, d < b → v d ≠ v a) ∨ is = 0 ∧ ¬ (∀ d, d < b → v d ≠ v a)) ∧ ls = [some (.inr 154), some (.inl (t : Int)), some (.inl (sumN (newI v) a)), some (.inl (a : Int)), some (.inl is), some (.inl (b : Int))]) ?_ _ _ ⟨rfl, 1, Or.inl ⟨rfl, fun d hd => by omega⟩, rfl⟩
    rintro b _ _ hb ⟨rfl, is, his, rfl⟩ K2
    by_cases c2 : b = a
    · subst c2
      have c2' := eq_true (show (b : Int) ≤ b by omega)
      rcases his with ⟨rfl, his⟩ | ⟨rfl, his⟩
      · have one0 := eq_false (show ¬ (1 : Int) = 0 by omega)
        rw [show newI v b = 1 from if_pos his] at K'
        refine wpm_of (cuts := [4, 18]) (by decide) 60 _ _ _ _ ?_
        simp (maxSteps := 2000000) only [↓reduceIte, wp_eq, wpd_eq, kont_eq, STP1, STP2, STP3, STP4, STP5, konM_eq, AMK, CZ, Option.map, List.getElem?_cons_zero, List.getElem?_cons_succ, List.mem_cons, List.not_mem_nil, if_false, if_true, Nat.reduceAdd, Nat.reduceLT, Nat.reduceLeDiff, Nat.reduceEqDiff, true_and, and_true, List.length_nil, List.length_cons, or_true, true_or, or_false, false_or, Option.some.injEq, Sum.inl.injEq, Sum.inr.injEq, exists_eq_left', exists_eq_left, Int.reduceLE, Int.reduceLT, Int.reduceNeg, Int.reduceAdd, Int.reduceMul, Int.reduceSub, Int.reduceToNat, inR, Nat.zero_ne_one, false_and, Nat.succ_ne_zero, reduceCtorEq, false_implies, true_implies, not_false_eq_true, not_true_eq_false, Int.reduceEq, KRE, C_Model_unlike, FM, c2', one0]
        repeat (first | refine ⟨by omega, ?_⟩ | refine ⟨fun _ _ => okt_nn (by omega), ?_⟩)
        try (first | (show _ ≤ _; omega) | (show _ < _; omega))
        exact K' _ _
      · rw [show newI v b = 0 from if_neg his] at K'
        refine wpm_of (cuts := [4, 18]) (by decide) 60 _ _ _ _ ?_
        simp (maxSteps := 2000000) only [↓reduceIte, wp_eq, wpd_eq, kont_eq, STP1, STP2, STP3, STP4, STP5, konM_eq, AMK, CZ, Option.map, List.getElem?_cons_zero, List.getElem?_cons_succ, List.mem_cons, List.not_mem_nil, if_false, if_true, Nat.reduceAdd, Nat.reduceLT, Nat.reduceLeDiff, Nat.reduceEqDiff, true_and, and_true, List.length_nil, List.length_cons, or_true, true_or, or_false, false_or, Option.some.injEq, Sum.inl.injEq, Sum.inr.injEq, exists_eq_left', exists_eq_left, Int.reduceLE, Int.reduceLT, Int.reduceNeg, Int.reduceAdd, Int.reduceMul, Int.reduceSub, Int.reduceToNat, inR, Nat.zero_ne_one, false_and, Nat.succ_ne_zero, reduceCtorEq, false_implies, true_implies, not_false_eq_true, not_true_eq_false, Int.reduceEq, KRE, C_Model_unlike, FM, c2']
        repeat (first | refine ⟨by omega, ?_⟩ | refine ⟨fun _ _ => okt_nn (by omega), ?_⟩)
        try (first | (show _ ≤ _; omega) | (show _ < _; omega))
        exact K' _ _
    · have hlt2 : b < a := by omega
      have c2' := eq_false (show ¬ (a : Int) ≤ b by omega)
      have K2' := fun is z => K2 hlt2 _ _ ⟨rfl, is, z, rfl⟩
      obtain ⟨vb, rb⟩ := hv b (by omega)
      rcases his with ⟨rfl, his⟩ | ⟨rfl, his⟩
      · have one0 := eq_false (show ¬ (1 : Int) = 0 by omega)
        by_cases cv : v b = v a
        · have cv' := eq_true cv
          have G := K2' 0 (Or.inr ⟨rfl, fun w => w b (by omega) cv⟩)
          refine wpm_of (cuts := [4, 18]) (by decide) 60 _ _ _ _ ?_
          simp (maxSteps := 2000000) only [↓reduceIte, wp_eq, wpd_eq, kont_eq, STP1, STP2, STP3, STP4, STP5, konM_eq, AMK, CZ, Option.map, List.getElem?_cons_zero, List.getElem?_cons_succ, List.mem_cons, List.not_mem_nil, if_false, if_true, Nat.reduceAdd, Nat.reduceLT, Nat.reduceLeDiff, Nat.reduceEqDiff, true_and, and_true, List.length_nil, List.length_cons, or_true, true_or, or_false, false_or, Option.some.injEq, Sum.inl.injEq, Sum.inr.injEq, exists_eq_left', exists_eq_left, Int.reduceLE, Int.reduceLT, Int.reduceNeg, Int.reduceAdd, Int.reduceMul, Int.reduceSub, Int.reduceToNat, inR, Nat.zero_ne_one, false_and, Nat.succ_ne_zero, reduceCtorEq, false_implies, true_implies, not_false_eq_true, not_true_eq_false, Int.reduceEq, KRE, C_Model_unlike, FM, c2', one0, ix, va, vb, cv']
          repeat (first | refine ⟨by omega, ?_⟩ | refine ⟨fun _ _ => okt_nn (by omega), ?_⟩)
          try (first | (show _ ≤ _; omega) | (show _ < _; omega))
          exact G
        · have cv' := eq_false cv
          have G := K2' 1 (Or.inl ⟨rfl, fun d hd => by
            by_cases e : d = b
            · rw [e]; exact cv
            · exact his d (by omega)⟩)
          refine wpm_of (cuts := [4, 18]) (by decide) 60 _ _ _ _ ?_
          simp (maxSteps := 2000000) only [↓reduceIte, wp_eq, wpd_eq, kont_eq, STP1, STP2, STP3, STP4, STP5, konM_eq, AMK, CZ, Option.map, List.getElem?_cons_zero, List.getElem?_cons_succ, List.mem_cons, List.not_mem_nil, if_false, if_true, Nat.reduceAdd, Nat.reduceLT, Nat.reduceLeDiff, Nat.reduceEqDiff, true_and, and_true, List.length_nil, List.length_cons, or_true, true_or, or_false, false_or, Option.some.injEq, Sum.inl.injEq, Sum.inr.injEq, exists_eq_left', exists_eq_left, Int.reduceLE, Int.reduceLT, Int.reduceNeg, Int.reduceAdd, Int.reduceMul, Int.reduceSub, Int.reduceToNat, inR, Nat.zero_ne_one, false_and, Nat.succ_ne_zero, reduceCtorEq, false_implies, true_implies, not_false_eq_true, not_true_eq_false, Int.reduceEq, KRE, C_Model_unlike, FM, c2', one0, ix, va, vb, cv']
          repeat (first | refine ⟨by omega, ?_⟩ | refine ⟨fun _ _ => okt_nn (by omega), ?_⟩)
          try (first | (show _ ≤ _; omega) | (show _ < _; omega))
          exact G
      · have G := K2' 0 (Or.inr ⟨rfl, fun w => his (fun d hd => w d (by omega))⟩)
        refine wpm_of (cuts := [4, 18]) (by decide) 60 _ _ _ _ ?_
        simp (maxSteps := 2000000) only [↓reduceIte, wp_eq, wpd_eq, kont_eq, STP1, STP2, STP3, STP4, STP5, konM_eq, AMK, CZ, Option.map, List.getElem?_cons_zero, List.getElem?_cons_succ, List.mem_cons, List.not_mem_nil, if_false, if_true, Nat.reduceAdd, Nat.reduceLT, Nat.reduceLeDiff, Nat.reduceEqDiff, true_and, and_true, List.length_nil, List.length_cons, or_true, true_or, or_false, false_or, Option.some.injEq, Sum.inl.injEq, Sum.inr.injEq, exists_eq_left', exists_eq_left, Int.reduceLE, Int.reduceLT, Int.reduceNeg, Int.reduceAdd, Int.reduceMul, Int.reduceSub, Int.reduceToNat, inR, Nat.zero_ne_one, false_and, Nat.succ_ne_zero, reduceCtorEq, false_implies, true_implies, not_false_eq_true, not_true_eq_false, Int.reduceEq, KRE, C_Model_unlike, FM, c2']
        repeat (first | refine ⟨by omega, ?_⟩ | refine ⟨fun _ _ => okt_nn (by omega), ?_⟩)
        try (first | (show _ ≤ _; omega) | (show _ < _; omega))
        exact G
theorem un_new {c m t : Nat} {N Z : Nat → Int} (hoc : okC T Y n) (hc : gwC T lap 50 mrg n Y c) : sumN (newI (fun a => ybS (gwP T lap 50 mrg n Y) Y c t (flB (gwP T lap 50 mrg n Y) Y c m N Z 51 a))) (ftN (gwP T lap 50 mrg n Y) Y c m N Z 51).1.toNat = (unN (gwP T lap 50 mrg n Y) Y c m N Z t 51).1 + (unN (gwP T lap 50 mrg n Y) Y c m N Z t 51).2 := by
  have e := unN_D (gwP T lap 50 mrg n Y) Y c m N Z t 51
  rw [e]
  exact (unD_new (z := ybS (gwP T lap 50 mrg n Y) Y c t 50) (fun j hj => ybS_two hoc hc (flB_in _ _ _ _ _ _ _ _ (by omega)))).1
set_option maxHeartbeats 600000 in
set_option maxRecDepth 20000 in
theorem Mlook_ok {m c : Nat} {N Z : Nat → Int} {w : Int} (h : mdl M n T Y lap bnd mrg) (hn : ntM M n m N Z) (hc : gwC T lap 50 mrg n Y c) (hw : w = 0 ∨ w = 1) : CallI m_Model_look [.inr 154, .inl w] M (fun y M' => y = (if w = 0 then (lokN (fun t => (unN (gwP T lap 50 mrg n Y) Y c m N Z t 51).1 + (unN (gwP T lap 50 mrg n Y) Y c m N Z t 51).2) n).1 else (lokN (fun t => (unN (gwP T lap 50 mrg n Y) Y c m N Z t 51).1 + (unN (gwP T lap 50 mrg n Y) Y c m N Z t 51).2) n).2) ∧ rsM M 0 M') := by
  have h0 : mdl (mset M 154 1 0) n T Y lap bnd mrg := mdl_fr h scr_0 scr_mdl
  have n8 := h.1.2
  have hoc := h.2.2.2
  have hn0 : ntM (mset M 154 1 0) n m N Z := by
    obtain ⟨n1, n2, n3⟩ := hn
    exact ⟨by rw [← n1]; simp [mset], n2, fun i hi => by simpa [mset] using n3 i hi⟩
  refine callP_of (by decide) (by decide) (Nat.le_of_ble_eq_true rfl) (wpm_of (cuts := [31]) (by decide) 60 _ _ _ _ ?_)
  rw [show lM m_Model_look = 6 from rfl]
  simp (maxSteps := 2000000) only [↓reduceIte, wp_eq, wpd_eq, kont_eq, STP1, STP2, STP3, STP4, STP5, konM_eq, AMK, CZ, Option.map, List.getElem?_cons_zero, List.getElem?_cons_succ, List.mem_cons, List.not_mem_nil, if_false, if_true, Nat.reduceAdd, Nat.reduceLT, Nat.reduceLeDiff, Nat.reduceEqDiff, true_and, and_true, List.length_nil, List.length_cons, or_true, true_or, or_false, false_or, Option.some.injEq, Sum.inl.injEq, Sum.inr.injEq, exists_eq_left', exists_eq_left, Int.reduceLE, Int.reduceLT, Int.reduceNeg, Int.reduceAdd, Int.reduceMul, Int.reduceSub, Int.reduceToNat, inR, Nat.zero_ne_one, false_and, Nat.succ_ne_zero, reduceCtorEq, false_implies, true_implies, not_false_eq_true, not_true_eq_false, Int.reduceEq, KRE, C_Model_look, FM]
  refine (Model_isIn_ok ⟨by omega, by omega⟩ ⟨by omega, by omega⟩ ⟨by omega, by omega⟩).eq ?_
  rw [if_pos (by omega)]
  try simp (maxSteps := 2000000) only [↓reduceIte, wp_eq, wpd_eq, kont_eq, STP1, STP2, STP3, STP4, STP5, konM_eq, AMK, CZ, Option.map, List.getElem?_cons_zero, List.getElem?_cons_succ, List.mem_cons, List.not_mem_nil, if_false, if_true, Nat.reduceAdd, Nat.reduceLT, Nat.reduceLeDiff, Nat.reduceEqDiff, true_and, and_true, List.length_nil, List.length_cons, or_true, true_or, or_false, false_or, Option.some.injEq, Sum.inl.injEq, Sum.inr.injEq, exists_eq_left', exists_eq_left, Int.reduceLE, Int.reduceLT, Int.reduceNeg, Int.reduceAdd, Int.reduceMul, Int.reduceSub, Int.reduceToNat, inR, Nat.zero_ne_one, false_and, Nat.succ_ne_zero, reduceCtorEq, false_implies, true_implies, not_false_eq_true, not_true_eq_false, Int.reduceEq, KRE, C_Model_look, FM]
  repeat (first | refine ⟨by omega, ?_⟩ | refine ⟨fun _ _ => okt_nn (by omega), ?_⟩)
  try (first | (show _ ≤ _; omega) | (show _ < _; omega))
  refine (Model_tellFits_ok h0 hn0 hc).mono (fun M1 z => ?_)
  obtain ⟨⟨f1, f2, f3⟩, F1⟩ := z
  have rs := rsM_fr rsM_0 F1 (fun b j z => by unfold fitsP growP at z; unfold scrM; omega)
  have h1 := mdl_fr h0 F1 (fun b j z => by unfold fitsP growP at z; omega)
  have en1 := h1.1.1
  have ft := ftN_in (gwP T lap 50 mrg n Y) Y c m N Z 51
  have U := fun t => un_new (t := t) (m := m) (N := N) (Z := Z) hoc hc
  have Ui := fun t : Nat => unN_in (gwP T lap 50 mrg n Y) Y c m N Z t 51
  have UL : ∀ t, t < n → CallI m_Model_unlike [.inr 154, .inl (t : Int)] M1 (fun x M' => x = (unN (gwP T lap 50 mrg n Y) Y c m N Z t 51).1 + (unN (gwP T lap 50 mrg n Y) Y c m N Z t 51).2 ∧ M' = M1) := by
    intro t ht
    rw [← U t]
    refine Model_unlike_ok (by omega) (by rw [f1]; omega) (by omega) (fun a ha => ⟨f3 a (by omega) t ht, ?_⟩)
    exact ybS_in hoc hc ⟨by omega, by omega⟩
  clear U
  generalize hV : (fun t : Nat => (unN (gwP T lap 50 mrg n Y) Y c m N Z t 51).1 + (unN (gwP T lap 50 mrg n Y) Y c m N Z t 51).2) = V at *
  have eV : ∀ t : Nat, (unN (gwP T lap 50 mrg n Y) Y c m N Z t 51).1 + (unN (gwP T lap 50 mrg n Y) Y c m N Z t 51).2 = V t := fun t => congrFun hV t
  have Vi : ∀ t, 0 ≤ V t ∧ V t ≤ 2 := fun t => by rw [← eV]; have := Ui t; omega
  have lk : ∀ k : Nat, (-1 ≤ (lokN V k).1 ∧ (lokN V k).1 < k) ∧ (0 ≤ (lokN V k).2 ∧ (lokN V k).2 ≤ 2) := by
    intro k
    induction k with
    | zero => exact ⟨⟨show (-1 : Int) ≤ -1 by omega, show (-1 : Int) < 0 by omega⟩, ⟨show (0 : Int) ≤ 0 by omega, show (0 : Int) ≤ 2 by omega⟩⟩
    | succ k ih =>
      rw [show lokN V (k + 1) = if (lokN V k).2 < V k then ((k : Int), V k) else lokN V k from rfl]
      have := Vi k
      split
      · simp only; omega
      · omega
  try simp (maxSteps := 2000000) only [↓reduceIte, wp_eq, wpd_eq, kont_eq, STP1, STP2, STP3, STP4, STP5, konM_eq, AMK, CZ, Option.map, List.getElem?_cons_zero, List.getElem?_cons_succ, List.mem_cons, List.not_mem_nil, if_false, if_true, Nat.reduceAdd, Nat.reduceLT, Nat.reduceLeDiff, Nat.reduceEqDiff, true_and, and_true, List.length_nil, List.length_cons, or_true, true_or, or_false, false_or, Option.some.injEq, Sum.inl.injEq, Sum.inr.injEq, exists_eq_left', exists_eq_left, Int.reduceLE, Int.reduceLT, Int.reduceNeg, Int.reduceAdd, Int.reduceMul, Int.reduceSub, Int.reduceToNat, inR, Nat.zero_ne_one, false_and, Nat.succ_ne_zero, reduceCtorEq, false_implies, true_implies, not_false_eq_true, not_true_eq_false, Int.reduceEq, KRE, C_Model_look, FM]
  have LP : WPm m_Model_look (fun v M' => ∃ y, v = some (.inl y) ∧ y = (if w = 0 then (lokN V n).1 else (lokN V n).2) ∧ rsM M 0 M') 31 [some (.inr 154), some (.inl w), some (.inl (-1)), some (.inl 0), some (.inl 0), none] [] M1 := by
    refine loopQ n (fun k ls M2 => M1 = M2 ∧ ∃ a5, ls = [some (.inr 154), some (.inl w), some (.inl (lokN V k).1), some (.inl (lokN V k).2), some (.inl (k : Int)), a5]) ?_ _ _ ⟨rfl, none, rfl⟩
    rintro k _ _ hk ⟨rfl, a5, rfl⟩ K
    by_cases ck : k = n
    · subst ck
      have c' := eq_true (show (k : Int) ≤ k by omega)
      rcases hw with rfl | rfl
      · refine wpm_of (cuts := [31]) (by decide) 60 _ _ _ _ ?_
        simp (maxSteps := 2000000) only [↓reduceIte, wp_eq, wpd_eq, kont_eq, STP1, STP2, STP3, STP4, STP5, konM_eq, AMK, CZ, Option.map, List.getElem?_cons_zero, List.getElem?_cons_succ, List.mem_cons, List.not_mem_nil, if_false, if_true, Nat.reduceAdd, Nat.reduceLT, Nat.reduceLeDiff, Nat.reduceEqDiff, true_and, and_true, List.length_nil, List.length_cons, or_true, true_or, or_false, false_or, Option.some.injEq, Sum.inl.injEq, Sum.inr.injEq, exists_eq_left', exists_eq_left, Int.reduceLE, Int.reduceLT, Int.reduceNeg, Int.reduceAdd, Int.reduceMul, Int.reduceSub, Int.reduceToNat, inR, Nat.zero_ne_one, false_and, Nat.succ_ne_zero, reduceCtorEq, false_implies, true_implies, not_false_eq_true, not_true_eq_false, Int.reduceEq, KRE, C_Model_look, FM, en1, c']
        repeat (first | refine ⟨by omega, ?_⟩ | refine ⟨fun _ _ => okt_nn (by omega), ?_⟩)
        try (first | (show _ ≤ _; omega) | (show _ < _; omega))
        first | exact rs | exact ⟨rfl, rs⟩ | exact ⟨by simp, rs⟩ | exact ⟨by omega, rs⟩ | exact ⟨by simp, rfl, rs⟩ | exact ⟨by omega, rfl, rs⟩ | exact ⟨by simp, by simp, rs⟩ | exact ⟨by omega, by simp, rs⟩ | (simp; first | exact rs | exact ⟨by omega, rs⟩)
      · have one0 := eq_false (show ¬ (1 : Int) = 0 by omega)
        rw [if_neg (by omega)]
        refine wpm_of (cuts := [31]) (by decide) 60 _ _ _ _ ?_
        simp (maxSteps := 2000000) only [↓reduceIte, wp_eq, wpd_eq, kont_eq, STP1, STP2, STP3, STP4, STP5, konM_eq, AMK, CZ, Option.map, List.getElem?_cons_zero, List.getElem?_cons_succ, List.mem_cons, List.not_mem_nil, if_false, if_true, Nat.reduceAdd, Nat.reduceLT, Nat.reduceLeDiff, Nat.reduceEqDiff, true_and, and_true, List.length_nil, List.length_cons, or_true, true_or, or_false, false_or, Option.some.injEq, Sum.inl.injEq, Sum.inr.injEq, exists_eq_left', exists_eq_left, Int.reduceLE, Int.reduceLT, Int.reduceNeg, Int.reduceAdd, Int.reduceMul, Int.reduceSub, Int.reduceToNat, inR, Nat.zero_ne_one, false_and, Nat.succ_ne_zero, reduceCtorEq, false_implies, true_implies, not_false_eq_true, not_true_eq_false, Int.reduceEq, KRE, C_Model_look, FM, en1, c', one0]
        repeat (first | refine ⟨by omega, ?_⟩ | refine ⟨fun _ _ => okt_nn (by omega), ?_⟩)
        try (first | (show _ ≤ _; omega) | (show _ < _; omega))
        first | exact rs | exact ⟨rfl, rs⟩ | exact ⟨by simp, rs⟩ | exact ⟨by omega, rs⟩ | exact ⟨by simp, rfl, rs⟩ | exact ⟨by omega, rfl, rs⟩ | exact ⟨by simp, by simp, rs⟩ | exact ⟨by omega, by simp, rs⟩ | (simp; first | exact rs | exact ⟨by omega, rs⟩)
    · have hlt : k < n := by omega
      have c' := eq_false (show ¬ (n : Int) ≤ k by omega)
      have K' := fun a5 => K hlt _ _ ⟨rfl, a5, rfl⟩
      rw [show lokN V (k + 1) = if (lokN V k).2 < V k then ((k : Int), V k) else lokN V k from rfl] at K'
      have l1 := lk k
      have v1 := Vi k
      have ULk := UL k hlt
      rw [eV] at ULk
      refine wpm_of (cuts := [31]) (by decide) 60 _ _ _ _ ?_
      simp (maxSteps := 2000000) only [↓reduceIte, wp_eq, wpd_eq, kont_eq, STP1, STP2, STP3, STP4, STP5, konM_eq, AMK, CZ, Option.map, List.getElem?_cons_zero, List.getElem?_cons_succ, List.mem_cons, List.not_mem_nil, if_false, if_true, Nat.reduceAdd, Nat.reduceLT, Nat.reduceLeDiff, Nat.reduceEqDiff, true_and, and_true, List.length_nil, List.length_cons, or_true, true_or, or_false, false_or, Option.some.injEq, Sum.inl.injEq, Sum.inr.injEq, exists_eq_left', exists_eq_left, Int.reduceLE, Int.reduceLT, Int.reduceNeg, Int.reduceAdd, Int.reduceMul, Int.reduceSub, Int.reduceToNat, inR, Nat.zero_ne_one, false_and, Nat.succ_ne_zero, reduceCtorEq, false_implies, true_implies, not_false_eq_true, not_true_eq_false, Int.reduceEq, KRE, C_Model_look, FM, en1, c']
      repeat (first | refine ⟨by omega, ?_⟩ | refine ⟨fun _ _ => okt_nn (by omega), ?_⟩)
      try (first | (show _ ≤ _; omega) | (show _ < _; omega))
      refine ULk.eq ?_
      by_cases cv : (lokN V k).2 < V k
      · rw [if_pos cv] at K'
        have cv' := eq_true cv
        try simp (maxSteps := 2000000) only [↓reduceIte, wp_eq, wpd_eq, kont_eq, STP1, STP2, STP3, STP4, STP5, konM_eq, AMK, CZ, Option.map, List.getElem?_cons_zero, List.getElem?_cons_succ, List.mem_cons, List.not_mem_nil, if_false, if_true, Nat.reduceAdd, Nat.reduceLT, Nat.reduceLeDiff, Nat.reduceEqDiff, true_and, and_true, List.length_nil, List.length_cons, or_true, true_or, or_false, false_or, Option.some.injEq, Sum.inl.injEq, Sum.inr.injEq, exists_eq_left', exists_eq_left, Int.reduceLE, Int.reduceLT, Int.reduceNeg, Int.reduceAdd, Int.reduceMul, Int.reduceSub, Int.reduceToNat, inR, Nat.zero_ne_one, false_and, Nat.succ_ne_zero, reduceCtorEq, false_implies, true_implies, not_false_eq_true, not_true_eq_false, Int.reduceEq, KRE, C_Model_look, cv']
        repeat (first | refine ⟨by omega, ?_⟩ | refine ⟨fun _ _ => okt_nn (by omega), ?_⟩)
        try (first | (show _ ≤ _; omega) | (show _ < _; omega))
        exact K' _
      · rw [if_neg cv] at K'
        have cv' := eq_false cv
        try simp (maxSteps := 2000000) only [↓reduceIte, wp_eq, wpd_eq, kont_eq, STP1, STP2, STP3, STP4, STP5, konM_eq, AMK, CZ, Option.map, List.getElem?_cons_zero, List.getElem?_cons_succ, List.mem_cons, List.not_mem_nil, if_false, if_true, Nat.reduceAdd, Nat.reduceLT, Nat.reduceLeDiff, Nat.reduceEqDiff, true_and, and_true, List.length_nil, List.length_cons, or_true, true_or, or_false, false_or, Option.some.injEq, Sum.inl.injEq, Sum.inr.injEq, exists_eq_left', exists_eq_left, Int.reduceLE, Int.reduceLT, Int.reduceNeg, Int.reduceAdd, Int.reduceMul, Int.reduceSub, Int.reduceToNat, inR, Nat.zero_ne_one, false_and, Nat.succ_ne_zero, reduceCtorEq, false_implies, true_implies, not_false_eq_true, not_true_eq_false, Int.reduceEq, KRE, C_Model_look, cv']
        repeat (first | refine ⟨by omega, ?_⟩ | refine ⟨fun _ _ => okt_nn (by omega), ?_⟩)
        try (first | (show _ ≤ _; omega) | (show _ < _; omega))
        exact K' _
  exact LP
set_option maxHeartbeats 600000 in
set_option maxRecDepth 20000 in
theorem Mlook_x {w : Int} (hw : inR w) (hx : w < 0 ∨ 1 < w) : CallI m_Model_look [.inr 154, .inl w] M (fun _ M' => rsM M 1 M') := by
  refine callP_of (by decide) (by decide) (Nat.le_of_ble_eq_true rfl) (wpm_of (cuts := [31]) (by decide) 60 _ _ _ _ ?_)
  rw [show lM m_Model_look = 6 from rfl]
  simp (maxSteps := 2000000) only [↓reduceIte, wp_eq, wpd_eq, kont_eq, STP1, STP2, STP3, STP4, STP5, konM_eq, AMK, CZ, Option.map, List.getElem?_cons_zero, List.getElem?_cons_succ, List.mem_cons, List.not_mem_nil, if_false, if_true, Nat.reduceAdd, Nat.reduceLT, Nat.reduceLeDiff, Nat.reduceEqDiff, true_and, and_true, List.length_nil, List.length_cons, or_true, true_or, or_false, false_or, Option.some.injEq, Sum.inl.injEq, Sum.inr.injEq, exists_eq_left', exists_eq_left, Int.reduceLE, Int.reduceLT, Int.reduceNeg, Int.reduceAdd, Int.reduceMul, Int.reduceSub, Int.reduceToNat, inR, Nat.zero_ne_one, false_and, Nat.succ_ne_zero, reduceCtorEq, false_implies, true_implies, not_false_eq_true, not_true_eq_false, Int.reduceEq, KRE, C_Model_look, FM]
  refine (Model_isIn_ok hw ⟨by omega, by omega⟩ ⟨by omega, by omega⟩).eq ?_
  rw [if_neg (by omega)]
  try simp (maxSteps := 2000000) only [↓reduceIte, wp_eq, wpd_eq, kont_eq, STP1, STP2, STP3, STP4, STP5, konM_eq, AMK, CZ, Option.map, List.getElem?_cons_zero, List.getElem?_cons_succ, List.mem_cons, List.not_mem_nil, if_false, if_true, Nat.reduceAdd, Nat.reduceLT, Nat.reduceLeDiff, Nat.reduceEqDiff, true_and, and_true, List.length_nil, List.length_cons, or_true, true_or, or_false, false_or, Option.some.injEq, Sum.inl.injEq, Sum.inr.injEq, exists_eq_left', exists_eq_left, Int.reduceLE, Int.reduceLT, Int.reduceNeg, Int.reduceAdd, Int.reduceMul, Int.reduceSub, Int.reduceToNat, inR, Nat.zero_ne_one, false_and, Nat.succ_ne_zero, reduceCtorEq, false_implies, true_implies, not_false_eq_true, not_true_eq_false, Int.reduceEq, KRE, C_Model_look, FM]
  repeat (first | refine ⟨by omega, ?_⟩ | refine ⟨fun _ _ => okt_nn (by omega), ?_⟩)
  try (first | (show _ ≤ _; omega) | (show _ < _; omega))
  exact (Model_fail_ok (k := 1) (M := mset M 154 1 0)).eq (rsM_fail rsM_0)
end MODH
