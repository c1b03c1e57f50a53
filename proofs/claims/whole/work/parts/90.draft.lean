/-! THE REFERENCE, H: fits, look. -/
section MODH
variable {n : Nat} {T : Nat → Rw} {Y : Nat → Int} {lap bnd mrg : Int} {M : Mm}
/-- what is noted, as the reference holds it -/
def ntM (M : Mm) (n m : Nat) (N Z : Nat → Int) : Prop := M 154 60 = m ∧ m ≤ 8 ∧ ∀ i, i < m → (M 182 i = N i ∧ M 183 i = Z i) ∧ (0 ≤ N i ∧ N i < n) ∧ (-1 ≤ Z i ∧ Z i ≤ 900)
def fitsP : Nat → Nat → Prop := fun b j => growP b j ∨ b = 154 ∧ (j = 63 ∨ j = 64) ∨ b = 180 ∨ b = 184
/-- the loop over what is noted: is it all so? -/
def nOk (F : Nat → Int) (N Z : Nat → Int) (k : Nat) : Prop := ∀ i, i < k → F (N i).toNat = Z i
set_option maxHeartbeats 600000 in
set_option maxRecDepth 20000 in
theorem Model_tellFits_n {m k0 : Nat} {N Z F : Nat → Int} {Qc : Option AV → Mm → Prop} (h : mdl M n T F lap bnd mrg) (hn : ntM M n m N Z)
    (K : ∀ is : Int, (is = 1 ∧ nOk F N Z m ∨ is = 0 ∧ ¬ nOk F N Z m) → WPm m_Model_tellFits Qc 85 [some (.inr 154), some (.inl (k0 : Int)), some (.inl is), some (.inl (m : Int))] [] M) :
    WPm m_Model_tellFits Qc 41 [some (.inr 154), some (.inl (k0 : Int)), some (.inl 1), some (.inl 0)] [] M := by
  obtain ⟨e60, m8, hN⟩ := hn
  refine loopQ m (fun k ls M1 => M = M1 ∧ ∃ is : Int, (is = 1 ∧ nOk F N Z k ∨ is = 0 ∧ ¬ nOk F N Z k) ∧ ls = [some (.inr 154), some (.inl (k0 : Int)), some (.inl is), some (.inl (k : Int))]) ?_ _ _ ⟨rfl, 1, Or.inl ⟨rfl, fun i hi => by omega⟩, rfl⟩
  rintro k _ _ hk ⟨rfl, is, hi, rfl⟩ KK
  by_cases c : k = m
  · subst c
    have c' := eq_true (show (k : Int) ≤ k by omega)
    have K1 := K is hi
    refine wpm_of (cuts := [41, 85]) (by decide) 60 _ _ _ _ ?_
    simp (maxSteps := 2000000) only [↓reduceIte, wp_eq, wpd_eq, kont_eq, STP1, STP2, STP3, STP4, STP5, konM_eq, AMK, CZ, Option.map, List.getElem?_cons_zero, List.getElem?_cons_succ, List.mem_cons, List.not_mem_nil, if_false, if_true, Nat.reduceAdd, Nat.reduceLT, Nat.reduceLeDiff, Nat.reduceEqDiff, true_and, and_true, List.length_nil, List.length_cons, or_true, true_or, or_false, false_or, Option.some.injEq, Sum.inl.injEq, Sum.inr.injEq, exists_eq_left', exists_eq_left, Int.reduceLE, Int.reduceLT, Int.reduceNeg, Int.reduceAdd, Int.reduceMul, Int.reduceSub, Int.reduceToNat, inR, Nat.zero_ne_one, false_and, Nat.succ_ne_zero, reduceCtorEq, false_implies, true_implies, not_false_eq_true, not_true_eq_false, Int.reduceEq, KRE, C_Model_tellFits, FM, e60, c']
    repeat (first | refine ⟨by omega, ?_⟩ | refine ⟨fun _ _ => okt_nn (by omega), ?_⟩)
    try (first | (show _ ≤ _; omega) | (show _ < _; omega))
    exact K1
  · have hlt : k < m := by omega
    have c' := eq_false (show ¬ (m : Int) ≤ k by omega)
    obtain ⟨⟨n1, n2⟩, n3, n4⟩ := hN k hlt
    obtain ⟨t, et⟩ : ∃ t : Nat, N k = t := ⟨(N k).toNat, by omega⟩
    have ht : t < n := by omega
    have KK' := fun is z => KK hlt _ _ ⟨rfl, is, z, rfl⟩
    have gy := (mdl_t h ht).2.2.2.2.1
    rw [et] at n1
    rcases hi with ⟨rfl, hi⟩ | ⟨rfl, hi⟩
    · have one0 := eq_false (show ¬ (1 : Int) = 0 by omega)
      refine wpm_of (cuts := [41, 85]) (by decide) 60 _ _ _ _ ?_
      simp (maxSteps := 2000000) only [↓reduceIte, wp_eq, wpd_eq, kont_eq, STP1, STP2, STP3, STP4, STP5, konM_eq, AMK, CZ, Option.map, List.getElem?_cons_zero, List.getElem?_cons_succ, List.mem_cons, List.not_mem_nil, if_false, if_true, Nat.reduceAdd, Nat.reduceLT, Nat.reduceLeDiff, Nat.reduceEqDiff, true_and, and_true, List.length_nil, List.length_cons, or_true, true_or, or_false, false_or, Option.some.injEq, Sum.inl.injEq, Sum.inr.injEq, exists_eq_left', exists_eq_left, Int.reduceLE, Int.reduceLT, Int.reduceNeg, Int.reduceAdd, Int.reduceMul, Int.reduceSub, Int.reduceToNat, inR, Nat.zero_ne_one, false_and, Nat.succ_ne_zero, reduceCtorEq, false_implies, true_implies, not_false_eq_true, not_true_eq_false, Int.reduceEq, KRE, C_Model_tellFits, FM, e60, c', one0, natT, n1]
      repeat (first | refine ⟨by omega, ?_⟩ | refine ⟨fun _ _ => okt_nn (by omega), ?_⟩)
      try (first | (show _ ≤ _; omega) | (show _ < _; omega))
      refine (of_year h ht).eq ?_
      by_cases cz : F t = Z k
      · have cz' := eq_true cz
        have K2 := KK' 1 (Or.inl ⟨rfl, fun i hi2 => by
          by_cases e : i = k
          · rw [e, et]; exact cz
          · exact hi i (by omega)⟩)
        try simp (maxSteps := 2000000) only [↓reduceIte, wp_eq, wpd_eq, kont_eq, STP1, STP2, STP3, STP4, STP5, konM_eq, AMK, CZ, Option.map, List.getElem?_cons_zero, List.getElem?_cons_succ, List.mem_cons, List.not_mem_nil, if_false, if_true, Nat.reduceAdd, Nat.reduceLT, Nat.reduceLeDiff, Nat.reduceEqDiff, true_and, and_true, List.length_nil, List.length_cons, or_true, true_or, or_false, false_or, Option.some.injEq, Sum.inl.injEq, Sum.inr.injEq, exists_eq_left', exists_eq_left, Int.reduceLE, Int.reduceLT, Int.reduceNeg, Int.reduceAdd, Int.reduceMul, Int.reduceSub, Int.reduceToNat, inR, Nat.zero_ne_one, false_and, Nat.succ_ne_zero, reduceCtorEq, false_implies, true_implies, not_false_eq_true, not_true_eq_false, Int.reduceEq, KRE, C_Model_tellFits, FM, natT, n2, cz']
        repeat (first | refine ⟨by omega, ?_⟩ | refine ⟨fun _ _ => okt_nn (by omega), ?_⟩)
        try (first | (show _ ≤ _; omega) | (show _ < _; omega))
        exact K2
      · have cz' := eq_false cz
        have K2 := KK' 0 (Or.inr ⟨rfl, fun w => cz (by have := w k (by omega); rw [et] at this; exact this)⟩)
        try simp (maxSteps := 2000000) only [↓reduceIte, wp_eq, wpd_eq, kont_eq, STP1, STP2, STP3, STP4, STP5, konM_eq, AMK, CZ, Option.map, List.getElem?_cons_zero, List.getElem?_cons_succ, List.mem_cons, List.not_mem_nil, if_false, if_true, Nat.reduceAdd, Nat.reduceLT, Nat.reduceLeDiff, Nat.reduceEqDiff, true_and, and_true, List.length_nil, List.length_cons, or_true, true_or, or_false, false_or, Option.some.injEq, Sum.inl.injEq, Sum.inr.injEq, exists_eq_left', exists_eq_left, Int.reduceLE, Int.reduceLT, Int.reduceNeg, Int.reduceAdd, Int.reduceMul, Int.reduceSub, Int.reduceToNat, inR, Nat.zero_ne_one, false_and, Nat.succ_ne_zero, reduceCtorEq, false_implies, true_implies, not_false_eq_true, not_true_eq_false, Int.reduceEq, KRE, C_Model_tellFits, FM, natT, n2, cz']
        repeat (first | refine ⟨by omega, ?_⟩ | refine ⟨fun _ _ => okt_nn (by omega), ?_⟩)
        try (first | (show _ ≤ _; omega) | (show _ < _; omega))
        exact K2
    · have K2 := KK' 0 (Or.inr ⟨rfl, fun w => hi (fun i hi2 => w i (by omega))⟩)
      refine wpm_of (cuts := [41, 85]) (by decide) 60 _ _ _ _ ?_
      simp (maxSteps := 2000000) only [↓reduceIte, wp_eq, wpd_eq, kont_eq, STP1, STP2, STP3, STP4, STP5, konM_eq, AMK, CZ, Option.map, List.getElem?_cons_zero, List.getElem?_cons_succ, List.mem_cons, List.not_mem_nil, if_false, if_true, Nat.reduceAdd, Nat.reduceLT, Nat.reduceLeDiff, Nat.reduceEqDiff, true_and, and_true, List.length_nil, List.length_cons, or_true, true_or, or_false, false_or, Option.some.injEq, Sum.inl.injEq, Sum.inr.injEq, exists_eq_left', exists_eq_left, Int.reduceLE, Int.reduceLT, Int.reduceNeg, Int.reduceAdd, Int.reduceMul, Int.reduceSub, Int.reduceToNat, inR, Nat.zero_ne_one, false_and, Nat.succ_ne_zero, reduceCtorEq, false_implies, true_implies, not_false_eq_true, not_true_eq_false, Int.reduceEq, KRE, C_Model_tellFits, FM, e60, c', natT, n1]
      repeat (first | refine ⟨by omega, ?_⟩ | refine ⟨fun _ _ => okt_nn (by omega), ?_⟩)
      try (first | (show _ ≤ _; omega) | (show _ < _; omega))
      exact K2
set_option maxHeartbeats 4000000 in
/-- the years of one that fits are kept -/
theorem Model_tellFits_y {k0 q : Nat} {F : Nat → Int} {Qc : Option AV → Mm → Prop} {a3 : Int} (h : mdl M n T F lap bnd mrg) (hq : M 154 63 = q) (q50 : q ≤ 50)
    (K : ∀ M', FrP (fun b j => b = 184 ∧ 8 * q ≤ j) M M' → (∀ t, t < n → M' 184 (8 * q + t) = F t) → WPm m_Model_tellFits Qc 127 [some (.inr 154), some (.inl (k0 : Int)), some (.inl 1), some (.inl (n : Int))] [] M') :
    WPm m_Model_tellFits Qc 85 [some (.inr 154), some (.inl (k0 : Int)), some (.inl 1), some (.inl a3)] [] M := by
  have n8 := h.1.2
  have one0 := eq_false (show ¬ (1 : Int) = 0 by omega)
  refine wpm_of (cuts := [87]) (by decide) 60 _ _ _ _ ?_
  simp (maxSteps := 2000000) only [↓reduceIte, wp_eq, wpd_eq, kont_eq, STP1, STP2, STP3, STP4, STP5, konM_eq, AMK, CZ, Option.map, List.getElem?_cons_zero, List.getElem?_cons_succ, List.mem_cons, List.not_mem_nil, if_false, if_true, Nat.reduceAdd, Nat.reduceLT, Nat.reduceLeDiff, Nat.reduceEqDiff, true_and, and_true, List.length_nil, List.length_cons, or_true, true_or, or_false, false_or, Option.some.injEq, Sum.inl.injEq, Sum.inr.injEq, exists_eq_left', exists_eq_left, Int.reduceLE, Int.reduceLT, Int.reduceNeg, Int.reduceAdd, Int.reduceMul, Int.reduceSub, Int.reduceToNat, inR, Nat.zero_ne_one, false_and, Nat.succ_ne_zero, reduceCtorEq, false_implies, true_implies, not_false_eq_true, not_true_eq_false, Int.reduceEq, KRE, C_Model_tellFits, FM]
  refine loopQ n (fun t ls M1 => (FrP (fun b j => b = 184 ∧ 8 * q ≤ j) M M1 ∧ ∀ s, s < t → M1 184 (8 * q + s) = F s) ∧ ls = [some (.inr 154), some (.inl (k0 : Int)), some (.inl 1), some (.inl (t : Int))]) ?_ _ _ ⟨⟨FrP.rf, fun s hs => by omega⟩, rfl⟩
  rintro t _ M1 ht ⟨⟨Fr1, hs⟩, rfl⟩ KK
  have h1 := mdl_fr h Fr1 (fun b j z => by omega)
  have en := h1.1.1
  have e63 : M1 154 63 = q := (Fr1 _ _ (by omega)).trans hq
  by_cases c : t = n
  · subst c
    have c' := eq_true (show (t : Int) ≤ t by omega)
    have K1 := K M1 Fr1 hs
    refine wpm_of (cuts := [87, 127]) (by decide) 60 _ _ _ _ ?_
    simp (maxSteps := 2000000) only [↓reduceIte, wp_eq, wpd_eq, kont_eq, STP1, STP2, STP3, STP4, STP5, konM_eq, AMK, CZ, Option.map, List.getElem?_cons_zero, List.getElem?_cons_succ, List.mem_cons, List.not_mem_nil, if_false, if_true, Nat.reduceAdd, Nat.reduceLT, Nat.reduceLeDiff, Nat.reduceEqDiff, true_and, and_true, List.length_nil, List.length_cons, or_true, true_or, or_false, false_or, Option.some.injEq, Sum.inl.injEq, Sum.inr.injEq, exists_eq_left', exists_eq_left, Int.reduceLE, Int.reduceLT, Int.reduceNeg, Int.reduceAdd, Int.reduceMul, Int.reduceSub, Int.reduceToNat, inR, Nat.zero_ne_one, false_and, Nat.succ_ne_zero, reduceCtorEq, false_implies, true_implies, not_false_eq_true, not_true_eq_false, Int.reduceEq, KRE, C_Model_tellFits, FM, en, c']
    repeat (first | refine ⟨by omega, ?_⟩ | refine ⟨fun _ _ => okt_nn (by omega), ?_⟩)
    try (first | (show _ ≤ _; omega) | (show _ < _; omega))
    exact K1
  · have hlt : t < n := by omega
    have c' := eq_false (show ¬ (n : Int) ≤ t by omega)
    have ix : (8 * (q : Int) + (t : Int)).toNat = 8 * q + t := by omega
    refine wpm_of (cuts := [87, 127]) (by decide) 60 _ _ _ _ ?_
    simp (maxSteps := 2000000) only [↓reduceIte, wp_eq, wpd_eq, kont_eq, STP1, STP2, STP3, STP4, STP5, konM_eq, AMK, CZ, Option.map, List.getElem?_cons_zero, List.getElem?_cons_succ, List.mem_cons, List.not_mem_nil, if_false, if_true, Nat.reduceAdd, Nat.reduceLT, Nat.reduceLeDiff, Nat.reduceEqDiff, true_and, and_true, List.length_nil, List.length_cons, or_true, true_or, or_false, false_or, Option.some.injEq, Sum.inl.injEq, Sum.inr.injEq, exists_eq_left', exists_eq_left, Int.reduceLE, Int.reduceLT, Int.reduceNeg, Int.reduceAdd, Int.reduceMul, Int.reduceSub, Int.reduceToNat, inR, Nat.zero_ne_one, false_and, Nat.succ_ne_zero, reduceCtorEq, false_implies, true_implies, not_false_eq_true, not_true_eq_false, Int.reduceEq, KRE, C_Model_tellFits, FM, en, c', one0, e63]
    repeat (first | refine ⟨by omega, ?_⟩ | refine ⟨fun _ _ => okt_nn (by omega), ?_⟩)
    try (first | (show _ ≤ _; omega) | (show _ < _; omega))
    refine (of_year h1 hlt).eq ?_
    have KK' := KK hlt _ (mset M1 184 (8 * q + t) (F t)) ⟨⟨Fr1.st ⟨rfl, by omega⟩, fun s hs2 => ?_⟩, rfl⟩
    · try simp (maxSteps := 2000000) only [↓reduceIte, wp_eq, wpd_eq, kont_eq, STP1, STP2, STP3, STP4, STP5, konM_eq, AMK, CZ, Option.map, List.getElem?_cons_zero, List.getElem?_cons_succ, List.mem_cons, List.not_mem_nil, if_false, if_true, Nat.reduceAdd, Nat.reduceLT, Nat.reduceLeDiff, Nat.reduceEqDiff, true_and, and_true, List.length_nil, List.length_cons, or_true, true_or, or_false, false_or, Option.some.injEq, Sum.inl.injEq, Sum.inr.injEq, exists_eq_left', exists_eq_left, Int.reduceLE, Int.reduceLT, Int.reduceNeg, Int.reduceAdd, Int.reduceMul, Int.reduceSub, Int.reduceToNat, inR, Nat.zero_ne_one, false_and, Nat.succ_ne_zero, reduceCtorEq, false_implies, true_implies, not_false_eq_true, not_true_eq_false, Int.reduceEq, KRE, C_Model_tellFits, FM, ix]
      repeat (first | refine ⟨by omega, ?_⟩ | refine ⟨fun _ _ => okt_nn (by omega), ?_⟩)
      try (first | (show _ ≤ _; omega) | (show _ < _; omega))
      exact KK'
    · simp only [mset]
      by_cases e : s = t
      · subst e
        simp
      · rw [if_neg (by omega)]
        exact hs s (by omega)
/-- what has come of the first k bounds -/
def fitIs (M : Mm) (P : Nat → Pk) (Y : Nat → Int) (n c m : Nat) (N Z : Nat → Int) (k : Nat) : Prop := M 154 63 = (ftN P Y c m N Z k).1 ∧ M 154 64 = (ftN P Y c m N Z k).2 ∧ ∀ a : Nat, (a : Int) < (ftN P Y c m N Z k).1 → ∀ t, t < n → M 184 (8 * a + t) = ybS P Y c t (flB P Y c m N Z k a)
set_option maxHeartbeats 600000 in
set_option maxRecDepth 20000 in
theorem Model_tellFits_s {m c k : Nat} {N Z : Nat → Int} {a2 a3 : Option AV} {Qc : Option AV → Mm → Prop} (h : mdl M n T Y lap bnd mrg) (hn : ntM M n m N Z) (hc : gwC T lap 50 mrg n Y c) (hk : k < 51) (h80 : ∀ j, j < 240 → M 180 j = M 158 j) (hf : fitIs M (gwP T lap 50 mrg n Y) Y n c m N Z k)
    (K : ∀ a2 a3 M', FrP fitsP M M' → (∀ j, M' 180 j = M 180 j) → fitIs M' (gwP T lap 50 mrg n Y) Y n c m N Z (k + 1) → WPm m_Model_tellFits Qc 23 [some (.inr 154), some (.inl ((k + 1 : Nat) : Int)), a2, a3] [] M') :
    WPm m_Model_tellFits Qc 23 [some (.inr 154), some (.inl (k : Int)), a2, a3] [] M := by
  have n8 := h.1.2
  have hoc := h.2.2.2
  have c' := eq_false (show ¬ (51 : Int) ≤ k by omega)
  have ft := ftN_in (gwP T lap 50 mrg n Y) Y c m N Z k
  obtain ⟨f1, f2, f3⟩ := hf
  have hn' := hn
  obtain ⟨n1, n2, n3⟩ := hn'
  refine wpm_of (cuts := [23, 41, 127]) (by decide) 60 _ _ _ _ ?_
  simp (maxSteps := 2000000) only [↓reduceIte, wp_eq, wpd_eq, kont_eq, STP1, STP2, STP3, STP4, STP5, konM_eq, AMK, CZ, Option.map, List.getElem?_cons_zero, List.getElem?_cons_succ, List.mem_cons, List.not_mem_nil, if_false, if_true, Nat.reduceAdd, Nat.reduceLT, Nat.reduceLeDiff, Nat.reduceEqDiff, true_and, and_true, List.length_nil, List.length_cons, or_true, true_or, or_false, false_or, Option.some.injEq, Sum.inl.injEq, Sum.inr.injEq, exists_eq_left', exists_eq_left, Int.reduceLE, Int.reduceLT, Int.reduceNeg, Int.reduceAdd, Int.reduceMul, Int.reduceSub, Int.reduceToNat, inR, Nat.zero_ne_one, false_and, Nat.succ_ne_zero, reduceCtorEq, false_implies, true_implies, not_false_eq_true, not_true_eq_false, Int.reduceEq, KRE, C_Model_tellFits, FM, c']
  repeat (first | refine ⟨by omega, ?_⟩ | refine ⟨fun _ _ => okt_nn (by omega), ?_⟩)
  try (first | (show _ ≤ _; omega) | (show _ < _; omega))
  refine (Model_growNow_ok (least := 50 + (k : Int)) h (by omega)).mono (fun M1 z => ?_)
  obtain ⟨d, hd, g1, g2, F1⟩ := z
  have ey := fun t => gw_yb (t := t) hoc (by omega) hc g1
  have ok1 := (gwY_ok (lap := lap) (bnd := 50 + (k : Int)) (mrg := mrg) hoc d).1
  have hm1 : mdl M1 n T (gwY T lap (50 + (k : Int)) mrg n Y d) lap bnd mrg := by
    refine mdl_yr h (fun j => ?_) (fun t ht q hq hq4 => ?_) (fun t ht => ?_) ok1
    · rw [F1 _ _ (by unfold growP; omega)]; simp [mYM]
    · rw [F1 _ _ (by unfold growP; omega)]
      simp only [mYM]
      rw [if_neg (by omega)]
    · rw [F1 _ _ (by unfold growP; omega)]
      show (if 158 = 158 ∧ (30 * t + 4) % 30 = 4 ∧ (30 * t + 4) / 30 < n then _ else _) = _
      rw [if_pos ⟨rfl, by omega, by omega⟩]
      congr 1
      omega
  have o1 : ∀ b j, ¬ growP b j → b ≠ 158 → M1 b j = M b j := fun b j z z2 => by rw [F1 _ _ z]; simp [mYM, z2]
  have hn1 : ntM M1 n m N Z := ⟨(o1 _ _ (by unfold growP; omega) (by omega)).trans n1, n2, fun i hi => by
    rw [o1 _ _ (by unfold growP; omega) (by omega), o1 _ _ (by unfold growP; omega) (by omega)]
    exact n3 i hi⟩
  have F1' : FrP (fun b j => fitsP b j ∨ b = 158 ∧ j < 240) M M1 := by
    intro b j z
    have z1 : ¬ growP b j := fun w => z (Or.inl (Or.inl w))
    by_cases cb : b = 158
    · rw [F1 _ _ z1]
      subst cb
      simp only [mYM]
      rw [if_neg (fun w => z (Or.inr ⟨rfl, by omega⟩))]
    · exact o1 b j z1 cb
  have ag : nOk (gwY T lap (50 + (k : Int)) mrg n Y d) N Z m ↔ agS (gwP T lap 50 mrg n Y) Y c m N Z (50 + k) := by
    unfold nOk agS
    refine forall_congr' (fun i => imp_congr_right (fun hi => ?_))
    rw [ey]
    have := (n3 i hi).2.1
    rw [show (((N i).toNat : Nat) : Int) = N i by omega]
  try simp (maxSteps := 2000000) only [↓reduceIte, wp_eq, wpd_eq, kont_eq, STP1, STP2, STP3, STP4, STP5, konM_eq, AMK, CZ, Option.map, List.getElem?_cons_zero, List.getElem?_cons_succ, List.mem_cons, List.not_mem_nil, if_false, if_true, Nat.reduceAdd, Nat.reduceLT, Nat.reduceLeDiff, Nat.reduceEqDiff, true_and, and_true, List.length_nil, List.length_cons, or_true, true_or, or_false, false_or, Option.some.injEq, Sum.inl.injEq, Sum.inr.injEq, exists_eq_left', exists_eq_left, Int.reduceLE, Int.reduceLT, Int.reduceNeg, Int.reduceAdd, Int.reduceMul, Int.reduceSub, Int.reduceToNat, inR, Nat.zero_ne_one, false_and, Nat.succ_ne_zero, reduceCtorEq, false_implies, true_implies, not_false_eq_true, not_true_eq_false, Int.reduceEq, KRE, C_Model_tellFits, FM]
  refine Model_tellFits_n hm1 hn1 (fun is his => ?_)
  have bk := fun {M2 : Mm} (f : FrP (fun b j => fitsP b j ∨ b = 158 ∧ j < 240) M M2) (f8 : ∀ j, M2 180 j = M 180 j) => (fun b j (z : ¬ fitsP b j) => by
    by_cases cc : b = 158 ∧ j < 240
    · obtain ⟨rfl, c2⟩ := cc
      have e : mCpR M2 158 180 240 158 j = M2 180 j := by simp [mCpR, c2]
      rw [e, f8 j, h80 j c2]
    · have e : mCpR M2 158 180 240 b j = M2 b j := by simp only [mCpR]; rw [if_neg cc]
      rw [e, f b j (fun w => by rcases w with w | w; exact z w; exact cc w)] : FrP fitsP M (mCpR M2 158 180 240))
  rcases his with ⟨rfl, his⟩ | ⟨rfl, his⟩
  · have hag := ag.mp his
    obtain ⟨q, eq1⟩ : ∃ q : Nat, (ftN (gwP T lap 50 mrg n Y) Y c m N Z k).1 = q := ⟨_, (Int.toNat_of_nonneg ft.1.1).symm⟩
    have q51 : q ≤ k := by omega
    refine Model_tellFits_y (q := q) hm1 (by rw [o1 _ _ (by unfold growP; omega) (by omega), f1, eq1]) (by omega) (fun M2 F2 hy => ?_)
    have one0 := eq_false (show ¬ (1 : Int) = 0 by omega)
    have F2' : FrP (fun b j => fitsP b j ∨ b = 158 ∧ j < 240) M M2 := F1'.tr (F2.wd (fun b j z => by unfold fitsP; omega))
    have f8 : ∀ j, M2 180 j = M 180 j := fun j => (F2 _ _ (by omega)).trans (o1 _ _ (by unfold growP; omega) (by omega))
    have FB : FrP fitsP M (mCpR M2 158 180 240) := bk F2' f8
    have e63 : mCpR M2 158 180 240 154 63 = (q : Int) := by
      have e : mCpR M2 158 180 240 154 63 = M2 154 63 := by simp [mCpR]
      rw [e, F2 _ _ (by omega), o1 _ _ (by unfold growP; omega) (by omega), f1, eq1]
    have e64 : mCpR M2 158 180 240 154 64 = (ftN (gwP T lap 50 mrg n Y) Y c m N Z k).2 := by
      have e : mCpR M2 158 180 240 154 64 = M2 154 64 := by simp [mCpR]
      rw [e, F2 _ _ (by omega), o1 _ _ (by unfold growP; omega) (by omega), f2]
    have e84 : ∀ j, mCpR M2 158 180 240 184 j = M2 184 j := fun j => by simp [mCpR]
    have e80 : ∀ j, mCpR M2 158 180 240 180 j = M 180 j := fun j => by
      have e : mCpR M2 158 180 240 180 j = M2 180 j := by simp [mCpR]
      rw [e]; exact f8 j
    refine wpm_of (cuts := [23]) (by decide) 60 _ _ _ _ ?_
    simp (maxSteps := 2000000) only [↓reduceIte, wp_eq, wpd_eq, kont_eq, STP1, STP2, STP3, STP4, STP5, konM_eq, AMK, CZ, Option.map, List.getElem?_cons_zero, List.getElem?_cons_succ, List.mem_cons, List.not_mem_nil, if_false, if_true, Nat.reduceAdd, Nat.reduceLT, Nat.reduceLeDiff, Nat.reduceEqDiff, true_and, and_true, List.length_nil, List.length_cons, or_true, true_or, or_false, false_or, Option.some.injEq, Sum.inl.injEq, Sum.inr.injEq, exists_eq_left', exists_eq_left, Int.reduceLE, Int.reduceLT, Int.reduceNeg, Int.reduceAdd, Int.reduceMul, Int.reduceSub, Int.reduceToNat, inR, Nat.zero_ne_one, false_and, Nat.succ_ne_zero, reduceCtorEq, false_implies, true_implies, not_false_eq_true, not_true_eq_false, Int.reduceEq, KRE, C_Model_tellFits, FM, one0]
    refine (Model_copyTo_ok (a := 158) (f := 180) (n := 240) (by simp only [FM]) (by simp only [FM]) (by omega) (by omega)).eq ?_
    generalize mCpR M2 158 180 240 = M3 at *
    have fin : ∀ L : Int, L = (if (ftN (gwP T lap 50 mrg n Y) Y c m N Z k).2 = -1 then 50 + (k : Int) else (ftN (gwP T lap 50 mrg n Y) Y c m N Z k).2) → WPm m_Model_tellFits Qc 23 [some (.inr 154), some (.inl ((k + 1 : Nat) : Int)), some (.inl 1), some (.inl (n : Int))] [] (mset (mset M3 154 64 L) 154 63 ((q : Int) + 1)) := by
      intro L hL
      refine K _ _ _ ((FB.st (by unfold fitsP; omega)).st (by unfold fitsP; omega)) (fun j => by simp only [mset]; rw [if_neg (by omega), if_neg (by omega)]; exact e80 j) ⟨?_, ?_, fun a ha t ht => ?_⟩
      · rw [ftN_s, if_pos hag, eq1]; simp [mset]
      · rw [ftN_s, if_pos hag, ← hL]; simp [mset]
      · rw [ftN_s, if_pos hag, eq1] at ha
        have ha' : (a : Int) < q + 1 := ha
        have e : mset (mset M3 154 64 L) 154 63 ((q : Int) + 1) 184 (8 * a + t) = M2 184 (8 * a + t) := by
          simp only [mset]
          rw [if_neg (by omega), if_neg (by omega)]
          exact e84 _
        rw [e, flB, if_pos hag, eq1]
        unfold updI
        by_cases ea : a = q
        · subst ea
          rw [hy t ht, ey, if_pos (by omega)]
        · rw [if_neg (by omega), F2 _ _ (by omega), o1 _ _ (by unfold growP; omega) (by omega)]
          exact f3 a (by omega) t ht
    have fl := ft.2
    by_cases cl : (ftN (gwP T lap 50 mrg n Y) Y c m N Z k).2 = -1
    · have cl' := eq_true cl
      have G := fin (50 + (k : Int)) (by rw [if_pos cl])
      have m63 : ∀ v, mset M3 154 64 v 154 63 = (q : Int) := fun v => by rw [← e63]; simp [mset]
      try simp (maxSteps := 2000000) only [↓reduceIte, wp_eq, wpd_eq, kont_eq, STP1, STP2, STP3, STP4, STP5, konM_eq, AMK, CZ, Option.map, List.getElem?_cons_zero, List.getElem?_cons_succ, List.mem_cons, List.not_mem_nil, if_false, if_true, Nat.reduceAdd, Nat.reduceLT, Nat.reduceLeDiff, Nat.reduceEqDiff, true_and, and_true, List.length_nil, List.length_cons, or_true, true_or, or_false, false_or, Option.some.injEq, Sum.inl.injEq, Sum.inr.injEq, exists_eq_left', exists_eq_left, Int.reduceLE, Int.reduceLT, Int.reduceNeg, Int.reduceAdd, Int.reduceMul, Int.reduceSub, Int.reduceToNat, inR, Nat.zero_ne_one, false_and, Nat.succ_ne_zero, reduceCtorEq, false_implies, true_implies, not_false_eq_true, not_true_eq_false, Int.reduceEq, KRE, C_Model_tellFits, FM, e64, cl', m63]
      repeat (first | refine ⟨by omega, ?_⟩ | refine ⟨fun _ _ => okt_nn (by omega), ?_⟩)
      try (first | (show _ ≤ _; omega) | (show _ < _; omega))
      exact G
    · have cl' := eq_false cl
      have G := fin _ (by rw [if_neg cl])
      have m63 : ∀ v, mset M3 154 64 v 154 63 = (q : Int) := fun v => by rw [← e63]; simp [mset]
      try simp (maxSteps := 2000000) only [↓reduceIte, wp_eq, wpd_eq, kont_eq, STP1, STP2, STP3, STP4, STP5, konM_eq, AMK, CZ, Option.map, List.getElem?_cons_zero, List.getElem?_cons_succ, List.mem_cons, List.not_mem_nil, if_false, if_true, Nat.reduceAdd, Nat.reduceLT, Nat.reduceLeDiff, Nat.reduceEqDiff, true_and, and_true, List.length_nil, List.length_cons, or_true, true_or, or_false, false_or, Option.some.injEq, Sum.inl.injEq, Sum.inr.injEq, exists_eq_left', exists_eq_left, Int.reduceLE, Int.reduceLT, Int.reduceNeg, Int.reduceAdd, Int.reduceMul, Int.reduceSub, Int.reduceToNat, inR, Nat.zero_ne_one, false_and, Nat.succ_ne_zero, reduceCtorEq, false_implies, true_implies, not_false_eq_true, not_true_eq_false, Int.reduceEq, KRE, C_Model_tellFits, FM, e64, cl', m63]
      repeat (first | refine ⟨by omega, ?_⟩ | refine ⟨fun _ _ => okt_nn (by omega), ?_⟩)
      try (first | (show _ ≤ _; omega) | (show _ < _; omega))
      exact G
  · have hag : ¬ agS (gwP T lap 50 mrg n Y) Y c m N Z (50 + k) := fun w => his (ag.mpr w)
    have f8 : ∀ j, M1 180 j = M 180 j := fun j => o1 _ _ (by unfold growP; omega) (by omega)
    have FB : FrP fitsP M (mCpR M1 158 180 240) := bk F1' f8
    have en1 := hm1.1.1
    have eo : ∀ b j, b ≠ 158 → mCpR M1 158 180 240 b j = M1 b j := fun b j hb => by simp [mCpR, hb]
    have G : ∀ a3, WPm m_Model_tellFits Qc 23 [some (.inr 154), some (.inl ((k + 1 : Nat) : Int)), some (.inl 0), a3] [] (mCpR M1 158 180 240) := by
      intro a3
      refine K _ _ _ FB (fun j => by rw [eo _ _ (by omega)]; exact f8 j) ⟨?_, ?_, fun a ha t ht => ?_⟩
      · rw [ftN_s, if_neg hag, eo _ _ (by omega), o1 _ _ (by unfold growP; omega) (by omega)]; exact f1
      · rw [ftN_s, if_neg hag, eo _ _ (by omega), o1 _ _ (by unfold growP; omega) (by omega)]; exact f2
      · rw [ftN_s, if_neg hag] at ha
        rw [flB, if_neg hag, eo _ _ (by omega), o1 _ _ (by unfold growP; omega) (by omega)]
        exact f3 a ha t ht
    by_cases cn : n = 0
    · have cn' := eq_true (show (n : Int) ≤ 0 by omega)
      refine wpm_of (cuts := [23]) (by decide) 60 _ _ _ _ ?_
      simp (maxSteps := 2000000) only [↓reduceIte, wp_eq, wpd_eq, kont_eq, STP1, STP2, STP3, STP4, STP5, konM_eq, AMK, CZ, Option.map, List.getElem?_cons_zero, List.getElem?_cons_succ, List.mem_cons, List.not_mem_nil, if_false, if_true, Nat.reduceAdd, Nat.reduceLT, Nat.reduceLeDiff, Nat.reduceEqDiff, true_and, and_true, List.length_nil, List.length_cons, or_true, true_or, or_false, false_or, Option.some.injEq, Sum.inl.injEq, Sum.inr.injEq, exists_eq_left', exists_eq_left, Int.reduceLE, Int.reduceLT, Int.reduceNeg, Int.reduceAdd, Int.reduceMul, Int.reduceSub, Int.reduceToNat, inR, Nat.zero_ne_one, false_and, Nat.succ_ne_zero, reduceCtorEq, false_implies, true_implies, not_false_eq_true, not_true_eq_false, Int.reduceEq, KRE, C_Model_tellFits, FM, en1, cn']
      repeat (first | refine ⟨by omega, ?_⟩ | refine ⟨fun _ _ => okt_nn (by omega), ?_⟩)
      try (first | (show _ ≤ _; omega) | (show _ < _; omega))
      refine (Model_copyTo_ok (a := 158) (f := 180) (n := 240) (by simp only [FM]) (by simp only [FM]) (by omega) (by omega)).eq ?_
      exact G _
    · have cn' := eq_false (show ¬ (n : Int) ≤ 0 by omega)
      refine wpm_of (cuts := [23]) (by decide) 60 _ _ _ _ ?_
      simp (maxSteps := 2000000) only [↓reduceIte, wp_eq, wpd_eq, kont_eq, STP1, STP2, STP3, STP4, STP5, konM_eq, AMK, CZ, Option.map, List.getElem?_cons_zero, List.getElem?_cons_succ, List.mem_cons, List.not_mem_nil, if_false, if_true, Nat.reduceAdd, Nat.reduceLT, Nat.reduceLeDiff, Nat.reduceEqDiff, true_and, and_true, List.length_nil, List.length_cons, or_true, true_or, or_false, false_or, Option.some.injEq, Sum.inl.injEq, Sum.inr.injEq, exists_eq_left', exists_eq_left, Int.reduceLE, Int.reduceLT, Int.reduceNeg, Int.reduceAdd, Int.reduceMul, Int.reduceSub, Int.reduceToNat, inR, Nat.zero_ne_one, false_and, Nat.succ_ne_zero, reduceCtorEq, false_implies, true_implies, not_false_eq_true, not_true_eq_false, Int.reduceEq, KRE, C_Model_tellFits, FM, en1, cn']
      repeat (first | refine ⟨by omega, ?_⟩ | refine ⟨fun _ _ => okt_nn (by omega), ?_⟩)
      try (first | (show _ ≤ _; omega) | (show _ < _; omega))
      refine (Model_copyTo_ok (a := 158) (f := 180) (n := 240) (by simp only [FM]) (by simp only [FM]) (by omega) (by omega)).eq ?_
      exact G _
set_option maxHeartbeats 600000 in
set_option maxRecDepth 20000 in
theorem Model_tellFits_ok {m c : Nat} {N Z : Nat → Int} (h : mdl M n T Y lap bnd mrg) (hn : ntM M n m N Z) (hc : gwC T lap 50 mrg n Y c) : CallV m_Model_tellFits [.inr 154] M (fun M' => fitIs M' (gwP T lap 50 mrg n Y) Y n c m N Z 51 ∧ FrP fitsP M M') := by
  refine callP_of (by decide) (by decide) (Nat.le_of_ble_eq_true rfl) (wpm_of (cuts := [23]) (by decide) 60 _ _ _ _ ?_)
  rw [show lM m_Model_tellFits = 4 from rfl]
  simp (maxSteps := 2000000) only [↓reduceIte, wp_eq, wpd_eq, kont_eq, STP1, STP2, STP3, STP4, STP5, konM_eq, AMK, CZ, Option.map, List.getElem?_cons_zero, List.getElem?_cons_succ, List.mem_cons, List.not_mem_nil, if_false, if_true, Nat.reduceAdd, Nat.reduceLT, Nat.reduceLeDiff, Nat.reduceEqDiff, true_and, and_true, List.length_nil, List.length_cons, or_true, true_or, or_false, false_or, Option.some.injEq, Sum.inl.injEq, Sum.inr.injEq, exists_eq_left', exists_eq_left, Int.reduceLE, Int.reduceLT, Int.reduceNeg, Int.reduceAdd, Int.reduceMul, Int.reduceSub, Int.reduceToNat, inR, Nat.zero_ne_one, false_and, Nat.succ_ne_zero, reduceCtorEq, false_implies, true_implies, not_false_eq_true, not_true_eq_false, Int.reduceEq, KRE, C_Model_tellFits, FM]
  refine (Model_copyTo_ok (a := 180) (f := 158) (n := 240) (by simp only [FM]) (by simp only [FM]) (by omega) (by omega)).eq ?_
  have F0 : FrP fitsP M (mCpR (mset (mset M 154 63 0) 154 64 (-1)) 180 158 240) := by
    intro b j z
    unfold fitsP at z
    simp only [mCpR, mset]
    rw [if_neg (by omega), if_neg (by omega), if_neg (by omega)]
  have h80 : ∀ j, j < 240 → mCpR (mset (mset M 154 63 0) 154 64 (-1)) 180 158 240 180 j = mCpR (mset (mset M 154 63 0) 154 64 (-1)) 180 158 240 158 j := fun j hj => by simp [mCpR, hj]
  have hf0 : fitIs (mCpR (mset (mset M 154 63 0) 154 64 (-1)) 180 158 240) (gwP T lap 50 mrg n Y) Y n c m N Z 0 := ⟨by simp [mCpR, mset, ftN, foldN], by simp [mCpR, mset, ftN, foldN], fun a ha => absurd (show (a : Int) < 0 from ha) (by omega)⟩
  generalize mCpR (mset (mset M 154 63 0) 154 64 (-1)) 180 158 240 = M0 at *
  have sep : ∀ b j, fitsP b j → b ≠ 156 ∧ b ≠ 158 := fun b j z => by unfold fitsP growP at z; omega
  try simp (maxSteps := 2000000) only [↓reduceIte, wp_eq, wpd_eq, kont_eq, STP1, STP2, STP3, STP4, STP5, konM_eq, AMK, CZ, Option.map, List.getElem?_cons_zero, List.getElem?_cons_succ, List.mem_cons, List.not_mem_nil, if_false, if_true, Nat.reduceAdd, Nat.reduceLT, Nat.reduceLeDiff, Nat.reduceEqDiff, true_and, and_true, List.length_nil, List.length_cons, or_true, true_or, or_false, false_or, Option.some.injEq, Sum.inl.injEq, Sum.inr.injEq, exists_eq_left', exists_eq_left, Int.reduceLE, Int.reduceLT, Int.reduceNeg, Int.reduceAdd, Int.reduceMul, Int.reduceSub, Int.reduceToNat, inR, Nat.zero_ne_one, false_and, Nat.succ_ne_zero, reduceCtorEq, false_implies, true_implies, not_false_eq_true, not_true_eq_false, Int.reduceEq, KRE, C_Model_tellFits, FM]
  refine loopQ 51 (fun k ls M1 => (FrP fitsP M M1 ∧ (∀ j, j < 240 → M1 180 j = M1 158 j) ∧ fitIs M1 (gwP T lap 50 mrg n Y) Y n c m N Z k) ∧ ∃ a2 a3, ls = [some (.inr 154), some (.inl (k : Int)), a2, a3]) ?_ _ _ ⟨⟨F0, h80, hf0⟩, none, none, rfl⟩
  rintro k _ M1 hk ⟨⟨F, h801, hf⟩, a2, a3, rfl⟩ KK
  by_cases ck : k = 51
  · subst ck
    have c' := eq_true (show (51 : Int) ≤ (51 : Nat) by omega)
    refine wpm_of (cuts := [23]) (by decide) 60 _ _ _ _ ?_
    simp (maxSteps := 2000000) only [↓reduceIte, wp_eq, wpd_eq, kont_eq, STP1, STP2, STP3, STP4, STP5, konM_eq, AMK, CZ, Option.map, List.getElem?_cons_zero, List.getElem?_cons_succ, List.mem_cons, List.not_mem_nil, if_false, if_true, Nat.reduceAdd, Nat.reduceLT, Nat.reduceLeDiff, Nat.reduceEqDiff, true_and, and_true, List.length_nil, List.length_cons, or_true, true_or, or_false, false_or, Option.some.injEq, Sum.inl.injEq, Sum.inr.injEq, exists_eq_left', exists_eq_left, Int.reduceLE, Int.reduceLT, Int.reduceNeg, Int.reduceAdd, Int.reduceMul, Int.reduceSub, Int.reduceToNat, inR, Nat.zero_ne_one, false_and, Nat.succ_ne_zero, reduceCtorEq, false_implies, true_implies, not_false_eq_true, not_true_eq_false, Int.reduceEq, KRE, C_Model_tellFits, FM, c']
    repeat (first | refine ⟨by omega, ?_⟩ | refine ⟨fun _ _ => okt_nn (by omega), ?_⟩)
    try (first | (show _ ≤ _; omega) | (show _ < _; omega))
    exact F
  · have h1 := mdl_fr h F sep
    obtain ⟨n1, n2, n3⟩ := hn
    have hn1 : ntM M1 n m N Z := ⟨(F _ _ (by unfold fitsP growP; omega)).trans n1, n2, fun i hi => by
      rw [F _ _ (by unfold fitsP growP; omega), F _ _ (by unfold fitsP growP; omega)]
      exact n3 i hi⟩
    refine Model_tellFits_s h1 hn1 hc (by omega) h801 hf (fun a2 a3 M2 F2 e8 hf2 => ?_)
    refine KK (by omega) _ _ ⟨⟨F.tr F2, fun j hj => ?_, hf2⟩, a2, a3, rfl⟩
    rw [e8, F2 158 j (by unfold fitsP growP; omega)]
    exact h801 j hj
set_option maxHeartbeats 600000 in
set_option maxRecDepth 20000 in
theorem Mfits_ok {m c : Nat} {N Z : Nat → Int} {w : Int} (h : mdl M n T Y lap bnd mrg) (hn : ntM M n m N Z) (hc : gwC T lap 50 mrg n Y c) (hw : w = 0 ∨ w = 1) : CallI m_Model_fits [.inr 154, .inl w] M (fun y M' => y = (if w = 0 then (ftN (gwP T lap 50 mrg n Y) Y c m N Z 51).1 else (ftN (gwP T lap 50 mrg n Y) Y c m N Z 51).2) ∧ rsM M 0 M') := by
  have h0 : mdl (mset M 154 1 0) n T Y lap bnd mrg := mdl_fr h scr_0 scr_mdl
  have hn0 : ntM (mset M 154 1 0) n m N Z := by
    obtain ⟨n1, n2, n3⟩ := hn
    exact ⟨by rw [← n1]; simp [mset], n2, fun i hi => by simpa [mset] using n3 i hi⟩
  refine callP_of (by decide) (by decide) (Nat.le_of_ble_eq_true rfl) (wpm_of (cuts := []) (by decide) 60 _ _ _ _ ?_)
  rw [show lM m_Model_fits = 2 from rfl]
  simp (maxSteps := 2000000) only [↓reduceIte, wp_eq, wpd_eq, kont_eq, STP1, STP2, STP3, STP4, STP5, konM_eq, AMK, CZ, Option.map, List.getElem?_cons_zero, List.getElem?_cons_succ, List.mem_cons, List.not_mem_nil, if_false, if_true, Nat.reduceAdd, Nat.reduceLT, Nat.reduceLeDiff, Nat.reduceEqDiff, true_and, and_true, List.length_nil, List.length_cons, or_true, true_or, or_false, false_or, Option.some.injEq, Sum.inl.injEq, Sum.inr.injEq, exists_eq_left', exists_eq_left, Int.reduceLE, Int.reduceLT, Int.reduceNeg, Int.reduceAdd, Int.reduceMul, Int.reduceSub, Int.reduceToNat, inR, Nat.zero_ne_one, false_and, Nat.succ_ne_zero, reduceCtorEq, false_implies, true_implies, not_false_eq_true, not_true_eq_false, Int.reduceEq, KRE, C_Model_fits, FM]
  refine (Model_isIn_ok ⟨by omega, by omega⟩ ⟨by omega, by omega⟩ ⟨by omega, by omega⟩).eq ?_
  rw [if_pos (by omega)]
  try simp (maxSteps := 2000000) only [↓reduceIte, wp_eq, wpd_eq, kont_eq, STP1, STP2, STP3, STP4, STP5, konM_eq, AMK, CZ, Option.map, List.getElem?_cons_zero, List.getElem?_cons_succ, List.mem_cons, List.not_mem_nil, if_false, if_true, Nat.reduceAdd, Nat.reduceLT, Nat.reduceLeDiff, Nat.reduceEqDiff, true_and, and_true, List.length_nil, List.length_cons, or_true, true_or, or_false, false_or, Option.some.injEq, Sum.inl.injEq, Sum.inr.injEq, exists_eq_left', exists_eq_left, Int.reduceLE, Int.reduceLT, Int.reduceNeg, Int.reduceAdd, Int.reduceMul, Int.reduceSub, Int.reduceToNat, inR, Nat.zero_ne_one, false_and, Nat.succ_ne_zero, reduceCtorEq, false_implies, true_implies, not_false_eq_true, not_true_eq_false, Int.reduceEq, KRE, C_Model_fits, FM]
  repeat (first | refine ⟨by omega, ?_⟩ | refine ⟨fun _ _ => okt_nn (by omega), ?_⟩)
  try (first | (show _ ≤ _; omega) | (show _ < _; omega))
  refine (Model_tellFits_ok h0 hn0 hc).mono (fun M1 z => ?_)
  obtain ⟨⟨f1, f2, f3⟩, F1⟩ := z
  have rs := rsM_fr rsM_0 F1 (fun b j z => by unfold fitsP growP at z; unfold scrM; omega)
  rcases hw with rfl | rfl
  · try simp (maxSteps := 2000000) only [↓reduceIte, wp_eq, wpd_eq, kont_eq, STP1, STP2, STP3, STP4, STP5, konM_eq, AMK, CZ, Option.map, List.getElem?_cons_zero, List.getElem?_cons_succ, List.mem_cons, List.not_mem_nil, if_false, if_true, Nat.reduceAdd, Nat.reduceLT, Nat.reduceLeDiff, Nat.reduceEqDiff, true_and, and_true, List.length_nil, List.length_cons, or_true, true_or, or_false, false_or, Option.some.injEq, Sum.inl.injEq, Sum.inr.injEq, exists_eq_left', exists_eq_left, Int.reduceLE, Int.reduceLT, Int.reduceNeg, Int.reduceAdd, Int.reduceMul, Int.reduceSub, Int.reduceToNat, inR, Nat.zero_ne_one, false_and, Nat.succ_ne_zero, reduceCtorEq, false_implies, true_implies, not_false_eq_true, not_true_eq_false, Int.reduceEq, KRE, C_Model_fits, FM, f1]
    repeat (first | refine ⟨by omega, ?_⟩ | refine ⟨fun _ _ => okt_nn (by omega), ?_⟩)
    try (first | (show _ ≤ _; omega) | (show _ < _; omega))
    first | exact rs | exact ⟨rfl, rs⟩ | exact ⟨by simp, rs⟩ | exact ⟨by omega, rs⟩ | exact ⟨by simp, rfl, rs⟩ | exact ⟨by omega, rfl, rs⟩ | exact ⟨by simp, by simp, rs⟩ | exact ⟨by omega, by simp, rs⟩ | (simp; first | exact rs | exact ⟨by omega, rs⟩)
  · have one0 := eq_false (show ¬ (1 : Int) = 0 by omega)
    rw [if_neg (by omega)]
    try simp (maxSteps := 2000000) only [↓reduceIte, wp_eq, wpd_eq, kont_eq, STP1, STP2, STP3, STP4, STP5, konM_eq, AMK, CZ, Option.map, List.getElem?_cons_zero, List.getElem?_cons_succ, List.mem_cons, List.not_mem_nil, if_false, if_true, Nat.reduceAdd, Nat.reduceLT, Nat.reduceLeDiff, Nat.reduceEqDiff, true_and, and_true, List.length_nil, List.length_cons, or_true, true_or, or_false, false_or, Option.some.injEq, Sum.inl.injEq, Sum.inr.injEq, exists_eq_left', exists_eq_left, Int.reduceLE, Int.reduceLT, Int.reduceNeg, Int.reduceAdd, Int.reduceMul, Int.reduceSub, Int.reduceToNat, inR, Nat.zero_ne_one, false_and, Nat.succ_ne_zero, reduceCtorEq, false_implies, true_implies, not_false_eq_true, not_true_eq_false, Int.reduceEq, KRE, C_Model_fits, FM, f2, one0]
    repeat (first | refine ⟨by omega, ?_⟩ | refine ⟨fun _ _ => okt_nn (by omega), ?_⟩)
    try (first | (show _ ≤ _; omega) | (show _ < _; omega))
    first | exact rs | exact ⟨rfl, rs⟩ | exact ⟨by simp, rs⟩ | exact ⟨by omega, rs⟩ | exact ⟨by simp, rfl, rs⟩ | exact ⟨by omega, rfl, rs⟩ | exact ⟨by simp, by simp, rs⟩ | exact ⟨by omega, by simp, rs⟩ | (simp; first | exact rs | exact ⟨by omega, rs⟩)
set_option maxHeartbeats 600000 in
set_option maxRecDepth 20000 in
theorem Mfits_x {w : Int} (hw : inR w) (hx : w < 0 ∨ 1 < w) : CallI m_Model_fits [.inr 154, .inl w] M (fun _ M' => rsM M 1 M') := by
  refine callP_of (by decide) (by decide) (Nat.le_of_ble_eq_true rfl) (wpm_of (cuts := []) (by decide) 60 _ _ _ _ ?_)
  rw [show lM m_Model_fits = 2 from rfl]
  simp (maxSteps := 2000000) only [↓reduceIte, wp_eq, wpd_eq, kont_eq, STP1, STP2, STP3, STP4, STP5, konM_eq, AMK, CZ, Option.map, List.getElem?_cons_zero, List.getElem?_cons_succ, List.mem_cons, List.not_mem_nil, if_false, if_true, Nat.reduceAdd, Nat.reduceLT, Nat.reduceLeDiff, Nat.reduceEqDiff, true_and, and_true, List.length_nil, List.length_cons, or_true, true_or, or_false, false_or, Option.some.injEq, Sum.inl.injEq, Sum.inr.injEq, exists_eq_left', exists_eq_left, Int.reduceLE, Int.reduceLT, Int.reduceNeg, Int.reduceAdd, Int.reduceMul, Int.reduceSub, Int.reduceToNat, inR, Nat.zero_ne_one, false_and, Nat.succ_ne_zero, reduceCtorEq, false_implies, true_implies, not_false_eq_true, not_true_eq_false, Int.reduceEq, KRE, C_Model_fits, FM]
  refine (Model_isIn_ok hw ⟨by omega, by omega⟩ ⟨by omega, by omega⟩).eq ?_
  rw [if_neg (by omega)]
  try simp (maxSteps := 2000000) only [↓reduceIte, wp_eq, wpd_eq, kont_eq, STP1, STP2, STP3, STP4, STP5, konM_eq, AMK, CZ, Option.map, List.getElem?_cons_zero, List.getElem?_cons_succ, List.mem_cons, List.not_mem_nil, if_false, if_true, Nat.reduceAdd, Nat.reduceLT, Nat.reduceLeDiff, Nat.reduceEqDiff, true_and, and_true, List.length_nil, List.length_cons, or_true, true_or, or_false, false_or, Option.some.injEq, Sum.inl.injEq, Sum.inr.injEq, exists_eq_left', exists_eq_left, Int.reduceLE, Int.reduceLT, Int.reduceNeg, Int.reduceAdd, Int.reduceMul, Int.reduceSub, Int.reduceToNat, inR, Nat.zero_ne_one, false_and, Nat.succ_ne_zero, reduceCtorEq, false_implies, true_implies, not_false_eq_true, not_true_eq_false, Int.reduceEq, KRE, C_Model_fits, FM]
  repeat (first | refine ⟨by omega, ?_⟩ | refine ⟨fun _ _ => okt_nn (by omega), ?_⟩)
  try (first | (show _ ≤ _; omega) | (show _ < _; omega))
  exact (Model_fail_ok (k := 1) (M := mset M 154 1 0)).eq (rsM_fail rsM_0)
set_option maxHeartbeats 600000 in
set_option maxRecDepth 20000 in
theorem Model_unlike_ok {t q : Nat} {v : Nat → Int} (ht : t < 8) (hq : M 154 63 = q) (q51 : q ≤ 51) (hv : ∀ a, a < q → M 184 (8 * a + t) = v a ∧ (-1 ≤ v a ∧ v a ≤ 900)) : CallI m_Model_unlike [.inr 154, .inl (t : Int)] M (fun x M' => x = sumN (newI v) q ∧ M' = M) := by
  refine callP_of (by decide) (by decide) (Nat.le_of_ble_eq_true rfl) (wpm_of (cuts := [4]) (by decide) 60 _ _ _ _ ?_)
  rw [show lM m_Model_unlike = 6 from rfl]
  simp (maxSteps := 2000000) only [↓reduceIte, wp_eq, wpd_eq, kont_eq, STP1, STP2, STP3, STP4, STP5, konM_eq, AMK, CZ, Option.map, List.getElem?_cons_zero, List.getElem?_cons_succ, List.mem_cons, List.not_mem_nil, if_false, if_true, Nat.reduceAdd, Nat.reduceLT, Nat.reduceLeDiff, Nat.reduceEqDiff, true_and, and_true, List.length_nil, List.length_cons, or_true, true_or, or_false, false_or, Option.some.injEq, Sum.inl.injEq, Sum.inr.injEq, exists_eq_left', exists_eq_left, Int.reduceLE, Int.reduceLT, Int.reduceNeg, Int.reduceAdd, Int.reduceMul, Int.reduceSub, Int.reduceToNat, inR, Nat.zero_ne_one, false_and, Nat.succ_ne_zero, reduceCtorEq, false_implies, true_implies, not_false_eq_true, not_true_eq_false, Int.reduceEq, KRE, C_Model_unlike, FM]
  refine loopQ q (fun a ls M1 => M = M1 ∧ ∃ a4 a5, ls = [some (.inr 154), some (.inl (t : Int)), some (.inl (sumN (newI v) a)), some (.inl (a : Int)), a4, a5]) ?_ _ _ ⟨rfl, none, none, rfl⟩
  rintro a _ _ ha ⟨rfl, a4, a5, rfl⟩ K
  by_cases c : a = q
  · subst c
    have c' := eq_true (show (a : Int) ≤ a by omega)
    refine wpm_of (cuts := [4]) (by decide) 60 _ _ _ _ ?_
    simp (maxSteps := 2000000) only [↓reduceIte, wp_eq, wpd_eq, kont_eq, STP1, STP2, STP3, STP4, STP5, konM_eq, AMK, CZ, Option.map, List.getElem?_cons_zero, List.getElem?_cons_succ, List.mem_cons, List.not_mem_nil, if_false, if_true, Nat.reduceAdd, Nat.reduceLT, Nat.reduceLeDiff, Nat.reduceEqDiff, true_and, and_true, List.length_nil, List.length_cons, or_true, true_or, or_false, false_or, Option.some.injEq, Sum.inl.injEq, Sum.inr.injEq, exists_eq_left', exists_eq_left, Int.reduceLE, Int.reduceLT, Int.reduceNeg, Int.reduceAdd, Int.reduceMul, Int.reduceSub, Int.reduceToNat, inR, Nat.zero_ne_one, false_and, Nat.succ_ne_zero, reduceCtorEq, false_implies, true_implies, not_false_eq_true, not_true_eq_false, Int.reduceEq, KRE, C_Model_unlike, FM, hq, c']
    repeat (first | refine ⟨by omega, ?_⟩ | refine ⟨fun _ _ => okt_nn (by omega), ?_⟩)
    try (first | (show _ ≤ _; omega) | (show _ < _; omega))
  · have hlt : a < q := by omega
    have c' := eq_false (show ¬ (q : Int) ≤ a by omega)
    have ix : ∀ b : Nat, (8 * (b : Int) + (t : Int)).toNat = 8 * b + t := fun b => by omega
    obtain ⟨va, ra⟩ := hv a hlt
    have K' := fun a4 a5 => K hlt _ _ ⟨rfl, a4, a5, rfl⟩
    rw [sumN] at K'
    refine wpm_of (cuts := [4, 18]) (by decide) 60 _ _ _ _ ?_
    simp (maxSteps := 2000000) only [↓reduceIte, wp_eq, wpd_eq, kont_eq, STP1, STP2, STP3, STP4, STP5, konM_eq, AMK, CZ, Option.map, List.getElem?_cons_zero, List.getElem?_cons_succ, List.mem_cons, List.not_mem_nil, if_false, if_true, Nat.reduceAdd, Nat.reduceLT, Nat.reduceLeDiff, Nat.reduceEqDiff, true_and, and_true, List.length_nil, List.length_cons, or_true, true_or, or_false, false_or, Option.some.injEq, Sum.inl.injEq, Sum.inr.injEq, exists_eq_left', exists_eq_left, Int.reduceLE, Int.reduceLT, Int.reduceNeg, Int.reduceAdd, Int.reduceMul, Int.reduceSub, Int.reduceToNat, inR, Nat.zero_ne_one, false_and, Nat.succ_ne_zero, reduceCtorEq, false_implies, true_implies, not_false_eq_true, not_true_eq_false, Int.reduceEq, KRE, C_Model_unlike, FM, hq, c']
    repeat (first | refine ⟨by omega, ?_⟩ | refine ⟨fun _ _ => okt_nn (by omega), ?_⟩)
    try (first | (show _ ≤ _; omega) | (show _ < _; omega))
    refine loopQ a (fun b ls M1 => M = M1 ∧ ∃ is : Int, (is = 1 ∧ (∀ d, d < b → v d ≠ v a) ∨ is = 0 ∧ ¬ (∀ d, d < b → v d ≠ v a)) ∧ ls = [some (.inr 154), some (.inl (t : Int)), some (.inl (sumN (newI v) a)), some (.inl (a : Int)), some (.inl is), some (.inl (b : Int))]) ?_ _ _ ⟨rfl, 1, Or.inl ⟨rfl, fun d hd => by omega⟩, rfl⟩
    rintro b _ _ hb ⟨rfl, is, his, rfl⟩ K2
    by_cases c2 : b = a
    · subst c2
      have c2' := eq_true (show (b : Int) ≤ b by omega)
      rcases his with ⟨rfl, his⟩ | ⟨rfl, his⟩
      · have one0 := eq_false (show ¬ (1 : Int) = 0 by omega)
        rw [show newI v b = 1 from if_pos his] at K'
        refine wpm_of (cuts := [4, 18]) (by decide) 60 _ _ _ _ ?_
        simp (maxSteps := 2000000) only [↓reduceIte, wp_eq, wpd_eq, kont_eq, STP1, STP2, STP3, STP4, STP5, konM_eq, AMK, CZ, Option.map, List.getElem?_cons_zero, List.getElem?_cons_succ, List.mem_cons, List.not_mem_nil, if_false, if_true, Nat.reduceAdd, Nat.reduceLT, Nat.reduceLeDiff, Nat.reduceEqDiff, true_and, and_true, List.length_nil, List.length_cons, or_true, true_or, or_false, false_or, Option.some.injEq, Sum.inl.injEq, Sum.inr.injEq, exists_eq_left', exists_eq_left, Int.reduceLE, Int.reduceLT, Int.reduceNeg, Int.reduceAdd, Int.reduceMul, Int.reduceSub, Int.reduceToNat, inR, Nat.zero_ne_one, false_and, Nat.succ_ne_zero, reduceCtorEq, false_implies, true_implies, not_false_eq_true, not_true_eq_false, Int.reduceEq, KRE, C_Model_unlike, FM, c2', one0]
        repeat (first | refine ⟨by omega, ?_⟩ | refine ⟨fun _ _ => okt_nn (by omega), ?_⟩)
        try (first | (show _ ≤ _; omega) | (show _ < _; omega))
        exact K' _ _
      · rw [show newI v b = 0 from if_neg his] at K'
        refine wpm_of (cuts := [4, 18]) (by decide) 60 _ _ _ _ ?_
        simp (maxSteps := 2000000) only [↓reduceIte, wp_eq, wpd_eq, kont_eq, STP1, STP2, STP3, STP4, STP5, konM_eq, AMK, CZ, Option.map, List.getElem?_cons_zero, List.getElem?_cons_succ, List.mem_cons, List.not_mem_nil, if_false, if_true, Nat.reduceAdd, Nat.reduceLT, Nat.reduceLeDiff, Nat.reduceEqDiff, true_and, and_true, List.length_nil, List.length_cons, or_true, true_or, or_false, false_or, Option.some.injEq, Sum.inl.injEq, Sum.inr.injEq, exists_eq_left', exists_eq_left, Int.reduceLE, Int.reduceLT, Int.reduceNeg, Int.reduceAdd, Int.reduceMul, Int.reduceSub, Int.reduceToNat, inR, Nat.zero_ne_one, false_and, Nat.succ_ne_zero, reduceCtorEq, false_implies, true_implies, not_false_eq_true, not_true_eq_false, Int.reduceEq, KRE, C_Model_unlike, FM, c2']
        repeat (first | refine ⟨by omega, ?_⟩ | refine ⟨fun _ _ => okt_nn (by omega), ?_⟩)
        try (first | (show _ ≤ _; omega) | (show _ < _; omega))
        exact K' _ _
    · have hlt2 : b < a := by omega
      have c2' := eq_false (show ¬ (a : Int) ≤ b by omega)
      have K2' := fun is z => K2 hlt2 _ _ ⟨rfl, is, z, rfl⟩
      obtain ⟨vb, rb⟩ := hv b (by omega)
      rcases his with ⟨rfl, his⟩ | ⟨rfl, his⟩
      · have one0 := eq_false (show ¬ (1 : Int) = 0 by omega)
        by_cases cv : v b = v a
        · have cv' := eq_true cv
          have G := K2' 0 (Or.inr ⟨rfl, fun w => w b (by omega) cv⟩)
          refine wpm_of (cuts := [4, 18]) (by decide) 60 _ _ _ _ ?_
          simp (maxSteps := 2000000) only [↓reduceIte, wp_eq, wpd_eq, kont_eq, STP1, STP2, STP3, STP4, STP5, konM_eq, AMK, CZ, Option.map, List.getElem?_cons_zero, List.getElem?_cons_succ, List.mem_cons, List.not_mem_nil, if_false, if_true, Nat.reduceAdd, Nat.reduceLT, Nat.reduceLeDiff, Nat.reduceEqDiff, true_and, and_true, List.length_nil, List.length_cons, or_true, true_or, or_false, false_or, Option.some.injEq, Sum.inl.injEq, Sum.inr.injEq, exists_eq_left', exists_eq_left, Int.reduceLE, Int.reduceLT, Int.reduceNeg, Int.reduceAdd, Int.reduceMul, Int.reduceSub, Int.reduceToNat, inR, Nat.zero_ne_one, false_and, Nat.succ_ne_zero, reduceCtorEq, false_implies, true_implies, not_false_eq_true, not_true_eq_false, Int.reduceEq, KRE, C_Model_unlike, FM, c2', one0, ix, va, vb, cv']
          repeat (first | refine ⟨by omega, ?_⟩ | refine ⟨fun _ _ => okt_nn (by omega), ?_⟩)
          try (first | (show _ ≤ _; omega) | (show _ < _; omega))
          exact G
        · have cv' := eq_false cv
          have G := K2' 1 (Or.inl ⟨rfl, fun d hd => by
            by_cases e : d = b
            · rw [e]; exact cv
            · exact his d (by omega)⟩)
          refine wpm_of (cuts := [4, 18]) (by decide) 60 _ _ _ _ ?_
          simp (maxSteps := 2000000) only [↓reduceIte, wp_eq, wpd_eq, kont_eq, STP1, STP2, STP3, STP4, STP5, konM_eq, AMK, CZ, Option.map, List.getElem?_cons_zero, List.getElem?_cons_succ, List.mem_cons, List.not_mem_nil, if_false, if_true, Nat.reduceAdd, Nat.reduceLT, Nat.reduceLeDiff, Nat.reduceEqDiff, true_and, and_true, List.length_nil, List.length_cons, or_true, true_or, or_false, false_or, Option.some.injEq, Sum.inl.injEq, Sum.inr.injEq, exists_eq_left', exists_eq_left, Int.reduceLE, Int.reduceLT, Int.reduceNeg, Int.reduceAdd, Int.reduceMul, Int.reduceSub, Int.reduceToNat, inR, Nat.zero_ne_one, false_and, Nat.succ_ne_zero, reduceCtorEq, false_implies, true_implies, not_false_eq_true, not_true_eq_false, Int.reduceEq, KRE, C_Model_unlike, FM, c2', one0, ix, va, vb, cv']
          repeat (first | refine ⟨by omega, ?_⟩ | refine ⟨fun _ _ => okt_nn (by omega), ?_⟩)
          try (first | (show _ ≤ _; omega) | (show _ < _; omega))
          exact G
      · have G := K2' 0 (Or.inr ⟨rfl, fun w => his (fun d hd => w d (by omega))⟩)
        refine wpm_of (cuts := [4, 18]) (by decide) 60 _ _ _ _ ?_
        simp (maxSteps := 2000000) only [↓reduceIte, wp_eq, wpd_eq, kont_eq, STP1, STP2, STP3, STP4, STP5, konM_eq, AMK, CZ, Option.map, List.getElem?_cons_zero, List.getElem?_cons_succ, List.mem_cons, List.not_mem_nil, if_false, if_true, Nat.reduceAdd, Nat.reduceLT, Nat.reduceLeDiff, Nat.reduceEqDiff, true_and, and_true, List.length_nil, List.length_cons, or_true, true_or, or_false, false_or, Option.some.injEq, Sum.inl.injEq, Sum.inr.injEq, exists_eq_left', exists_eq_left, Int.reduceLE, Int.reduceLT, Int.reduceNeg, Int.reduceAdd, Int.reduceMul, Int.reduceSub, Int.reduceToNat, inR, Nat.zero_ne_one, false_and, Nat.succ_ne_zero, reduceCtorEq, false_implies, true_implies, not_false_eq_true, not_true_eq_false, Int.reduceEq, KRE, C_Model_unlike, FM, c2']
        repeat (first | refine ⟨by omega, ?_⟩ | refine ⟨fun _ _ => okt_nn (by omega), ?_⟩)
        try (first | (show _ ≤ _; omega) | (show _ < _; omega))
        exact G
theorem un_new {c m t : Nat} {N Z : Nat → Int} (hoc : okC T Y n) (hc : gwC T lap 50 mrg n Y c) : sumN (newI (fun a => ybS (gwP T lap 50 mrg n Y) Y c t (flB (gwP T lap 50 mrg n Y) Y c m N Z 51 a))) (ftN (gwP T lap 50 mrg n Y) Y c m N Z 51).1.toNat = (unN (gwP T lap 50 mrg n Y) Y c m N Z t 51).1 + (unN (gwP T lap 50 mrg n Y) Y c m N Z t 51).2 := by
  have e := unN_D (gwP T lap 50 mrg n Y) Y c m N Z t 51
  rw [e]
  exact (unD_new (z := ybS (gwP T lap 50 mrg n Y) Y c t 50) (fun j hj => ybS_two hoc hc (flB_in _ _ _ _ _ _ _ _ (by omega)))).1
set_option maxHeartbeats 600000 in
set_option maxRecDepth 20000 in
theorem Mlook_ok {m c : Nat} {N Z : Nat → Int} {w : Int} (h : mdl M n T Y lap bnd mrg) (hn : ntM M n m N Z) (hc : gwC T lap 50 mrg n Y c) (hw : w = 0 ∨ w = 1) : CallI m_Model_look [.inr 154, .inl w] M (fun y M' => y = (if w = 0 then (lokN (fun t => (unN (gwP T lap 50 mrg n Y) Y c m N Z t 51).1 + (unN (gwP T lap 50 mrg n Y) Y c m N Z t 51).2) n).1 else (lokN (fun t => (unN (gwP T lap 50 mrg n Y) Y c m N Z t 51).1 + (unN (gwP T lap 50 mrg n Y) Y c m N Z t 51).2) n).2) ∧ rsM M 0 M') := by
  have h0 : mdl (mset M 154 1 0) n T Y lap bnd mrg := mdl_fr h scr_0 scr_mdl
  have n8 := h.1.2
  have hoc := h.2.2.2
  have hn0 : ntM (mset M 154 1 0) n m N Z := by
    obtain ⟨n1, n2, n3⟩ := hn
    exact ⟨by rw [← n1]; simp [mset], n2, fun i hi => by simpa [mset] using n3 i hi⟩
  refine callP_of (by decide) (by decide) (Nat.le_of_ble_eq_true rfl) (wpm_of (cuts := [31]) (by decide) 60 _ _ _ _ ?_)
  rw [show lM m_Model_look = 6 from rfl]
  simp (maxSteps := 2000000) only [↓reduceIte, wp_eq, wpd_eq, kont_eq, STP1, STP2, STP3, STP4, STP5, konM_eq, AMK, CZ, Option.map, List.getElem?_cons_zero, List.getElem?_cons_succ, List.mem_cons, List.not_mem_nil, if_false, if_true, Nat.reduceAdd, Nat.reduceLT, Nat.reduceLeDiff, Nat.reduceEqDiff, true_and, and_true, List.length_nil, List.length_cons, or_true, true_or, or_false, false_or, Option.some.injEq, Sum.inl.injEq, Sum.inr.injEq, exists_eq_left', exists_eq_left, Int.reduceLE, Int.reduceLT, Int.reduceNeg, Int.reduceAdd, Int.reduceMul, Int.reduceSub, Int.reduceToNat, inR, Nat.zero_ne_one, false_and, Nat.succ_ne_zero, reduceCtorEq, false_implies, true_implies, not_false_eq_true, not_true_eq_false, Int.reduceEq, KRE, C_Model_look, FM]
  refine (Model_isIn_ok ⟨by omega, by omega⟩ ⟨by omega, by omega⟩ ⟨by omega, by omega⟩).eq ?_
  rw [if_pos (by omega)]
  try simp (maxSteps := 2000000) only [↓reduceIte, wp_eq, wpd_eq, kont_eq, STP1, STP2, STP3, STP4, STP5, konM_eq, AMK, CZ, Option.map, List.getElem?_cons_zero, List.getElem?_cons_succ, List.mem_cons, List.not_mem_nil, if_false, if_true, Nat.reduceAdd, Nat.reduceLT, Nat.reduceLeDiff, Nat.reduceEqDiff, true_and, and_true, List.length_nil, List.length_cons, or_true, true_or, or_false, false_or, Option.some.injEq, Sum.inl.injEq, Sum.inr.injEq, exists_eq_left', exists_eq_left, Int.reduceLE, Int.reduceLT, Int.reduceNeg, Int.reduceAdd, Int.reduceMul, Int.reduceSub, Int.reduceToNat, inR, Nat.zero_ne_one, false_and, Nat.succ_ne_zero, reduceCtorEq, false_implies, true_implies, not_false_eq_true, not_true_eq_false, Int.reduceEq, KRE, C_Model_look, FM]
  repeat (first | refine ⟨by omega, ?_⟩ | refine ⟨fun _ _ => okt_nn (by omega), ?_⟩)
  try (first | (show _ ≤ _; omega) | (show _ < _; omega))
  refine (Model_tellFits_ok h0 hn0 hc).mono (fun M1 z => ?_)
  obtain ⟨⟨f1, f2, f3⟩, F1⟩ := z
  have rs := rsM_fr rsM_0 F1 (fun b j z => by unfold fitsP growP at z; unfold scrM; omega)
  have h1 := mdl_fr h0 F1 (fun b j z => by unfold fitsP growP at z; omega)
  have en1 := h1.1.1
  have ft := ftN_in (gwP T lap 50 mrg n Y) Y c m N Z 51
  have U := fun t => un_new (t := t) (m := m) (N := N) (Z := Z) hoc hc
  have Ui := fun t : Nat => unN_in (gwP T lap 50 mrg n Y) Y c m N Z t 51
  have UL : ∀ t, t < n → CallI m_Model_unlike [.inr 154, .inl (t : Int)] M1 (fun x M' => x = (unN (gwP T lap 50 mrg n Y) Y c m N Z t 51).1 + (unN (gwP T lap 50 mrg n Y) Y c m N Z t 51).2 ∧ M' = M1) := by
    intro t ht
    rw [← U t]
    refine Model_unlike_ok (by omega) (by rw [f1]; omega) (by omega) (fun a ha => ⟨f3 a (by omega) t ht, ?_⟩)
    exact ybS_in hoc hc ⟨by omega, by omega⟩
  clear U
  generalize hV : (fun t : Nat => (unN (gwP T lap 50 mrg n Y) Y c m N Z t 51).1 + (unN (gwP T lap 50 mrg n Y) Y c m N Z t 51).2) = V at *
  have eV : ∀ t : Nat, (unN (gwP T lap 50 mrg n Y) Y c m N Z t 51).1 + (unN (gwP T lap 50 mrg n Y) Y c m N Z t 51).2 = V t := fun t => congrFun hV t
  have Vi : ∀ t, 0 ≤ V t ∧ V t ≤ 2 := fun t => by rw [← eV]; have := Ui t; omega
  have lk : ∀ k : Nat, (-1 ≤ (lokN V k).1 ∧ (lokN V k).1 < k) ∧ (0 ≤ (lokN V k).2 ∧ (lokN V k).2 ≤ 2) := by
    intro k
    induction k with
    | zero => exact ⟨⟨show (-1 : Int) ≤ -1 by omega, show (-1 : Int) < 0 by omega⟩, ⟨show (0 : Int) ≤ 0 by omega, show (0 : Int) ≤ 2 by omega⟩⟩
    | succ k ih =>
      rw [show lokN V (k + 1) = if (lokN V k).2 < V k then ((k : Int), V k) else lokN V k from rfl]
      have := Vi k
      split
      · simp only; omega
      · omega
  try simp (maxSteps := 2000000) only [↓reduceIte, wp_eq, wpd_eq, kont_eq, STP1, STP2, STP3, STP4, STP5, konM_eq, AMK, CZ, Option.map, List.getElem?_cons_zero, List.getElem?_cons_succ, List.mem_cons, List.not_mem_nil, if_false, if_true, Nat.reduceAdd, Nat.reduceLT, Nat.reduceLeDiff, Nat.reduceEqDiff, true_and, and_true, List.length_nil, List.length_cons, or_true, true_or, or_false, false_or, Option.some.injEq, Sum.inl.injEq, Sum.inr.injEq, exists_eq_left', exists_eq_left, Int.reduceLE, Int.reduceLT, Int.reduceNeg, Int.reduceAdd, Int.reduceMul, Int.reduceSub, Int.reduceToNat, inR, Nat.zero_ne_one, false_and, Nat.succ_ne_zero, reduceCtorEq, false_implies, true_implies, not_false_eq_true, not_true_eq_false, Int.reduceEq, KRE, C_Model_look, FM]
  have LP : WPm m_Model_look (fun v M' => ∃ y, v = some (.inl y) ∧ y = (if w = 0 then (lokN V n).1 else (lokN V n).2) ∧ rsM M 0 M') 31 [some (.inr 154), some (.inl w), some (.inl (-1)), some (.inl 0), some (.inl 0), none] [] M1 := by
    refine loopQ n (fun k ls M2 => M1 = M2 ∧ ∃ a5, ls = [some (.inr 154), some (.inl w), some (.inl (lokN V k).1), some (.inl (lokN V k).2), some (.inl (k : Int)), a5]) ?_ _ _ ⟨rfl, none, rfl⟩
    rintro k _ _ hk ⟨rfl, a5, rfl⟩ K
    by_cases ck : k = n
    · subst ck
      have c' := eq_true (show (k : Int) ≤ k by omega)
      rcases hw with rfl | rfl
      · refine wpm_of (cuts := [31]) (by decide) 60 _ _ _ _ ?_
        simp (maxSteps := 2000000) only [↓reduceIte, wp_eq, wpd_eq, kont_eq, STP1, STP2, STP3, STP4, STP5, konM_eq, AMK, CZ, Option.map, List.getElem?_cons_zero, List.getElem?_cons_succ, List.mem_cons, List.not_mem_nil, if_false, if_true, Nat.reduceAdd, Nat.reduceLT, Nat.reduceLeDiff, Nat.reduceEqDiff, true_and, and_true, List.length_nil, List.length_cons, or_true, true_or, or_false, false_or, Option.some.injEq, Sum.inl.injEq, Sum.inr.injEq, exists_eq_left', exists_eq_left, Int.reduceLE, Int.reduceLT, Int.reduceNeg, Int.reduceAdd, Int.reduceMul, Int.reduceSub, Int.reduceToNat, inR, Nat.zero_ne_one, false_and, Nat.succ_ne_zero, reduceCtorEq, false_implies, true_implies, not_false_eq_true, not_true_eq_false, Int.reduceEq, KRE, C_Model_look, FM, en1, c']
        repeat (first | refine ⟨by omega, ?_⟩ | refine ⟨fun _ _ => okt_nn (by omega), ?_⟩)
        try (first | (show _ ≤ _; omega) | (show _ < _; omega))
        first | exact rs | exact ⟨rfl, rs⟩ | exact ⟨by simp, rs⟩ | exact ⟨by omega, rs⟩ | exact ⟨by simp, rfl, rs⟩ | exact ⟨by omega, rfl, rs⟩ | exact ⟨by simp, by simp, rs⟩ | exact ⟨by omega, by simp, rs⟩ | (simp; first | exact rs | exact ⟨by omega, rs⟩)
      · have one0 := eq_false (show ¬ (1 : Int) = 0 by omega)
        rw [if_neg (by omega)]
        refine wpm_of (cuts := [31]) (by decide) 60 _ _ _ _ ?_
        simp (maxSteps := 2000000) only [↓reduceIte, wp_eq, wpd_eq, kont_eq, STP1, STP2, STP3, STP4, STP5, konM_eq, AMK, CZ, Option.map, List.getElem?_cons_zero, List.getElem?_cons_succ, List.mem_cons, List.not_mem_nil, if_false, if_true, Nat.reduceAdd, Nat.reduceLT, Nat.reduceLeDiff, Nat.reduceEqDiff, true_and, and_true, List.length_nil, List.length_cons, or_true, true_or, or_false, false_or, Option.some.injEq, Sum.inl.injEq, Sum.inr.injEq, exists_eq_left', exists_eq_left, Int.reduceLE, Int.reduceLT, Int.reduceNeg, Int.reduceAdd, Int.reduceMul, Int.reduceSub, Int.reduceToNat, inR, Nat.zero_ne_one, false_and, Nat.succ_ne_zero, reduceCtorEq, false_implies, true_implies, not_false_eq_true, not_true_eq_false, Int.reduceEq, KRE, C_Model_look, FM, en1, c', one0]
        repeat (first | refine ⟨by omega, ?_⟩ | refine ⟨fun _ _ => okt_nn (by omega), ?_⟩)
        try (first | (show _ ≤ _; omega) | (show _ < _; omega))
        first | exact rs | exact ⟨rfl, rs⟩ | exact ⟨by simp, rs⟩ | exact ⟨by omega, rs⟩ | exact ⟨by simp, rfl, rs⟩ | exact ⟨by omega, rfl, rs⟩ | exact ⟨by simp, by simp, rs⟩ | exact ⟨by omega, by simp, rs⟩ | (simp; first | exact rs | exact ⟨by omega, rs⟩)
    · have hlt : k < n := by omega
      have c' := eq_false (show ¬ (n : Int) ≤ k by omega)
      have K' := fun a5 => K hlt _ _ ⟨rfl, a5, rfl⟩
      rw [show lokN V (k + 1) = if (lokN V k).2 < V k then ((k : Int), V k) else lokN V k from rfl] at K'
      have l1 := lk k
      have v1 := Vi k
      have ULk := UL k hlt
      rw [eV] at ULk
      refine wpm_of (cuts := [31]) (by decide) 60 _ _ _ _ ?_
      simp (maxSteps := 2000000) only [↓reduceIte, wp_eq, wpd_eq, kont_eq, STP1, STP2, STP3, STP4, STP5, konM_eq, AMK, CZ, Option.map, List.getElem?_cons_zero, List.getElem?_cons_succ, List.mem_cons, List.not_mem_nil, if_false, if_true, Nat.reduceAdd, Nat.reduceLT, Nat.reduceLeDiff, Nat.reduceEqDiff, true_and, and_true, List.length_nil, List.length_cons, or_true, true_or, or_false, false_or, Option.some.injEq, Sum.inl.injEq, Sum.inr.injEq, exists_eq_left', exists_eq_left, Int.reduceLE, Int.reduceLT, Int.reduceNeg, Int.reduceAdd, Int.reduceMul, Int.reduceSub, Int.reduceToNat, inR, Nat.zero_ne_one, false_and, Nat.succ_ne_zero, reduceCtorEq, false_implies, true_implies, not_false_eq_true, not_true_eq_false, Int.reduceEq, KRE, C_Model_look, FM, en1, c']
      repeat (first | refine ⟨by omega, ?_⟩ | refine ⟨fun _ _ => okt_nn (by omega), ?_⟩)
      try (first | (show _ ≤ _; omega) | (show _ < _; omega))
      refine ULk.eq ?_
      by_cases cv : (lokN V k).2 < V k
      · rw [if_pos cv] at K'
        have cv' := eq_true cv
        try simp (maxSteps := 2000000) only [↓reduceIte, wp_eq, wpd_eq, kont_eq, STP1, STP2, STP3, STP4, STP5, konM_eq, AMK, CZ, Option.map, List.getElem?_cons_zero, List.getElem?_cons_succ, List.mem_cons, List.not_mem_nil, if_false, if_true, Nat.reduceAdd, Nat.reduceLT, Nat.reduceLeDiff, Nat.reduceEqDiff, true_and, and_true, List.length_nil, List.length_cons, or_true, true_or, or_false, false_or, Option.some.injEq, Sum.inl.injEq, Sum.inr.injEq, exists_eq_left', exists_eq_left, Int.reduceLE, Int.reduceLT, Int.reduceNeg, Int.reduceAdd, Int.reduceMul, Int.reduceSub, Int.reduceToNat, inR, Nat.zero_ne_one, false_and, Nat.succ_ne_zero, reduceCtorEq, false_implies, true_implies, not_false_eq_true, not_true_eq_false, Int.reduceEq, KRE, C_Model_look, cv']
        repeat (first | refine ⟨by omega, ?_⟩ | refine ⟨fun _ _ => okt_nn (by omega), ?_⟩)
        try (first | (show _ ≤ _; omega) | (show _ < _; omega))
        exact K' _
      · rw [if_neg cv] at K'
        have cv' := eq_false cv
        try simp (maxSteps := 2000000) only [↓reduceIte, wp_eq, wpd_eq, kont_eq, STP1, STP2, STP3, STP4, STP5, konM_eq, AMK, CZ, Option.map, List.getElem?_cons_zero, List.getElem?_cons_succ, List.mem_cons, List.not_mem_nil, if_false, if_true, Nat.reduceAdd, Nat.reduceLT, Nat.reduceLeDiff, Nat.reduceEqDiff, true_and, and_true, List.length_nil, List.length_cons, or_true, true_or, or_false, false_or, Option.some.injEq, Sum.inl.injEq, Sum.inr.injEq, exists_eq_left', exists_eq_left, Int.reduceLE, Int.reduceLT, Int.reduceNeg, Int.reduceAdd, Int.reduceMul, Int.reduceSub, Int.reduceToNat, inR, Nat.zero_ne_one, false_and, Nat.succ_ne_zero, reduceCtorEq, false_implies, true_implies, not_false_eq_true, not_true_eq_false, Int.reduceEq, KRE, C_Model_look, cv']
        repeat (first | refine ⟨by omega, ?_⟩ | refine ⟨fun _ _ => okt_nn (by omega), ?_⟩)
        try (first | (show _ ≤ _; omega) | (show _ < _; omega))
        exact K' _
  exact LP
set_option maxHeartbeats 600000 in
set_option maxRecDepth 20000 in
theorem Mlook_x {w : Int} (hw : inR w) (hx : w < 0 ∨ 1 < w) : CallI m_Model_look [.inr 154, .inl w] M (fun _ M' => rsM M 1 M') := by
  refine callP_of (by decide) (by decide) (Nat.le_of_ble_eq_true rfl) (wpm_of (cuts := [31]) (by decide) 60 _ _ _ _ ?_)
  rw [show lM m_Model_look = 6 from rfl]
  simp (maxSteps := 2000000) only [↓reduceIte, wp_eq, wpd_eq, kont_eq, STP1, STP2, STP3, STP4, STP5, konM_eq, AMK, CZ, Option.map, List.getElem?_cons_zero, List.getElem?_cons_succ, List.mem_cons, List.not_mem_nil, if_false, if_true, Nat.reduceAdd, Nat.reduceLT, Nat.reduceLeDiff, Nat.reduceEqDiff, true_and, and_true, List.length_nil, List.length_cons, or_true, true_or, or_false, false_or, Option.some.injEq, Sum.inl.injEq, Sum.inr.injEq, exists_eq_left', exists_eq_left, Int.reduceLE, Int.reduceLT, Int.reduceNeg, Int.reduceAdd, Int.reduceMul, Int.reduceSub, Int.reduceToNat, inR, Nat.zero_ne_one, false_and, Nat.succ_ne_zero, reduceCtorEq, false_implies, true_implies, not_false_eq_true, not_true_eq_false, Int.reduceEq, KRE, C_Model_look, FM]
  refine (Model_isIn_ok hw ⟨by omega, by omega⟩ ⟨by omega, by omega⟩).eq ?_
  rw [if_neg (by omega)]
  try simp (maxSteps := 2000000) only [↓reduceIte, wp_eq, wpd_eq, kont_eq, STP1, STP2, STP3, STP4, STP5, konM_eq, AMK, CZ, Option.map, List.getElem?_cons_zero, List.getElem?_cons_succ, List.mem_cons, List.not_mem_nil, if_false, if_true, Nat.reduceAdd, Nat.reduceLT, Nat.reduceLeDiff, Nat.reduceEqDiff, true_and, and_true, List.length_nil, List.length_cons, or_true, true_or, or_false, false_or, Option.some.injEq, Sum.inl.injEq, Sum.inr.injEq, exists_eq_left', exists_eq_left, Int.reduceLE, Int.reduceLT, Int.reduceNeg, Int.reduceAdd, Int.reduceMul, Int.reduceSub, Int.reduceToNat, inR, Nat.zero_ne_one, false_and, Nat.succ_ne_zero, reduceCtorEq, false_implies, true_implies, not_false_eq_true, not_true_eq_false, Int.reduceEq, KRE, C_Model_look, FM]
  repeat (first | refine ⟨by omega, ?_⟩ | refine ⟨fun _ _ => okt_nn (by omega), ?_⟩)
  try (first | (show _ ≤ _; omega) | (show _ < _; omega))
  exact (Model_fail_ok (k := 1) (M := mset M 154 1 0)).eq (rsM_fail rsM_0)
end MODH

/-! THE REFERENCE, I: chance, image, restore, feed. -/
section MODI
variable {n : Nat} {T : Nat → Rw} {Y : Nat → Int} {lap bnd mrg : Int} {M : Mm}
set_option maxHeartbeats 600000 in
set_option maxRecDepth 20000 in
theorem Model_draw_ok {s : Int} (hs : M 154 66 = s) : CallI m_Model_draw [.inr 154, .inl 99] M (fun x M' => x = drw (lcg s) - 1 ∧ M' = mset M 154 66 (lcg s)) := by
  have hm := bAnd_mask (bUshr (lcg s) 16)
  have e : mset M 154 66 (lcg s) 154 66 = lcg s := by simp [mset]
  have e2 := shr_mask (lcg s)
  have l : s * 1103515245 + 12345 = lcg s := rfl
  refine callP_of (by decide) (by decide) (Nat.le_of_ble_eq_true rfl) (wpm_of (cuts := []) (by decide) 60 _ _ _ _ ?_)
  rw [show lM m_Model_draw = 2 from rfl]
  simp (maxSteps := 2000000) only [↓reduceIte, wp_eq, wpd_eq, kont_eq, STP1, STP2, STP3, STP4, STP5, konM_eq, AMK, CZ, Option.map, List.getElem?_cons_zero, List.getElem?_cons_succ, List.mem_cons, List.not_mem_nil, if_false, if_true, Nat.reduceAdd, Nat.reduceLT, Nat.reduceLeDiff, Nat.reduceEqDiff, true_and, and_true, List.length_nil, List.length_cons, or_true, true_or, or_false, false_or, Option.some.injEq, Sum.inl.injEq, Sum.inr.injEq, exists_eq_left', exists_eq_left, Int.reduceLE, Int.reduceLT, Int.reduceNeg, Int.reduceAdd, Int.reduceMul, Int.reduceSub, Int.reduceToNat, inR, Nat.zero_ne_one, false_and, Nat.succ_ne_zero, reduceCtorEq, false_implies, true_implies, not_false_eq_true, not_true_eq_false, Int.reduceEq, KRE, C_Model_draw, FM, hs, l, e, e2]
  repeat (first | refine ⟨by omega, ?_⟩ | refine ⟨fun _ _ => okt_nn (by omega), ?_⟩)
  try (first | (show _ ≤ _; omega) | (show _ < _; omega))
  have d : drw (lcg s) - 1 = (bAnd (bUshr (lcg s) 16) 32767).tmod 99 := by unfold drw; omega
  rw [d]
def chP : Nat → Nat → Prop := fun b j => b = 154 ∧ (32 ≤ j ∧ j ≤ 41 ∨ j = 66) ∨ 165 ≤ b ∧ b ≤ 167
def mDr (M : Mm) (s : Int) (k : Nat) : Mm := mset (mFil M 165 (drG s) k) 154 66 (lcgN k s)
set_option maxHeartbeats 600000 in
set_option maxRecDepth 20000 in
theorem Model_chance_111 {s : Int} {c : Nat} {x0 x1 x2 x3 x4 x5 x6 x7 x8 x9 : Option AV} {Qc : Option AV → Mm → Prop} (hs : M 154 66 = s) (hc : M 154 28 = c) (c24 : c ≤ 24)
    (K : WPm m_Model_chance Qc 141 [some (.inr 154), x1, x2, x3, x4, x5, x6, x7, x8, x9, some (.inl (c : Int))] [] (mDr M s c)) :
    WPm m_Model_chance Qc 111 [some (.inr 154), x1, x2, x3, x4, x5, x6, x7, x8, x9, some (.inl 0)] [] M := by
  refine loopQ c (fun k ls M1 => M1 = mDr M s k ∧ ls = [some (.inr 154), x1, x2, x3, x4, x5, x6, x7, x8, x9, some (.inl (k : Int))]) ?_ _ _ ⟨?_, rfl⟩
  · rintro k _ _ hk ⟨rfl, rfl⟩ KK
    have e28 : mDr M s k 154 28 = c := by rw [← hc]; simp [mDr, mset, mFil]
    have e66 : mDr M s k 154 66 = lcgN k s := by simp [mDr, mset]
    by_cases ck : k = c
    · subst ck
      have c' := eq_true (show (k : Int) ≤ k by omega)
      refine wpm_of (cuts := [111, 141]) (by decide) 60 _ _ _ _ ?_
      simp (maxSteps := 2000000) only [↓reduceIte, wp_eq, wpd_eq, kont_eq, STP1, STP2, STP3, STP4, STP5, konM_eq, AMK, CZ, Option.map, List.getElem?_cons_zero, List.getElem?_cons_succ, List.mem_cons, List.not_mem_nil, if_false, if_true, Nat.reduceAdd, Nat.reduceLT, Nat.reduceLeDiff, Nat.reduceEqDiff, true_and, and_true, List.length_nil, List.length_cons, or_true, true_or, or_false, false_or, Option.some.injEq, Sum.inl.injEq, Sum.inr.injEq, exists_eq_left', exists_eq_left, Int.reduceLE, Int.reduceLT, Int.reduceNeg, Int.reduceAdd, Int.reduceMul, Int.reduceSub, Int.reduceToNat, inR, Nat.zero_ne_one, false_and, Nat.succ_ne_zero, reduceCtorEq, false_implies, true_implies, not_false_eq_true, not_true_eq_false, Int.reduceEq, KRE, C_Model_chance, FM, e28, c']
      repeat (first | refine ⟨by omega, ?_⟩ | refine ⟨fun _ _ => okt_nn (by omega), ?_⟩)
      try (first | (show _ ≤ _; omega) | (show _ < _; omega))
      exact K
    · have hlt : k < c := by omega
      have c' := eq_false (show ¬ (c : Int) ≤ k by omega)
      have K' := KK hlt _ _ ⟨rfl, rfl⟩
      refine wpm_of (cuts := [111, 141]) (by decide) 60 _ _ _ _ ?_
      simp (maxSteps := 2000000) only [↓reduceIte, wp_eq, wpd_eq, kont_eq, STP1, STP2, STP3, STP4, STP5, konM_eq, AMK, CZ, Option.map, List.getElem?_cons_zero, List.getElem?_cons_succ, List.mem_cons, List.not_mem_nil, if_false, if_true, Nat.reduceAdd, Nat.reduceLT, Nat.reduceLeDiff, Nat.reduceEqDiff, true_and, and_true, List.length_nil, List.length_cons, or_true, true_or, or_false, false_or, Option.some.injEq, Sum.inl.injEq, Sum.inr.injEq, exists_eq_left', exists_eq_left, Int.reduceLE, Int.reduceLT, Int.reduceNeg, Int.reduceAdd, Int.reduceMul, Int.reduceSub, Int.reduceToNat, inR, Nat.zero_ne_one, false_and, Nat.succ_ne_zero, reduceCtorEq, false_implies, true_implies, not_false_eq_true, not_true_eq_false, Int.reduceEq, KRE, C_Model_chance, FM, e28, c']
      repeat (first | refine ⟨by omega, ?_⟩ | refine ⟨fun _ _ => okt_nn (by omega), ?_⟩)
      try (first | (show _ ≤ _; omega) | (show _ < _; omega))
      refine (Model_draw_ok e66).eq ?_
      try simp (maxSteps := 2000000) only [↓reduceIte, wp_eq, wpd_eq, kont_eq, STP1, STP2, STP3, STP4, STP5, konM_eq, AMK, CZ, Option.map, List.getElem?_cons_zero, List.getElem?_cons_succ, List.mem_cons, List.not_mem_nil, if_false, if_true, Nat.reduceAdd, Nat.reduceLT, Nat.reduceLeDiff, Nat.reduceEqDiff, true_and, and_true, List.length_nil, List.length_cons, or_true, true_or, or_false, false_or, Option.some.injEq, Sum.inl.injEq, Sum.inr.injEq, exists_eq_left', exists_eq_left, Int.reduceLE, Int.reduceLT, Int.reduceNeg, Int.reduceAdd, Int.reduceMul, Int.reduceSub, Int.reduceToNat, inR, Nat.zero_ne_one, false_and, Nat.succ_ne_zero, reduceCtorEq, false_implies, true_implies, not_false_eq_true, not_true_eq_false, Int.reduceEq, KRE, C_Model_chance, FM, natT]
      repeat (first | refine ⟨by omega, ?_⟩ | refine ⟨fun _ _ => okt_nn (by omega), ?_⟩)
      try (first | (show _ ≤ _; omega) | (show _ < _; omega))
      refine WPm.eqM K' ?_
      have d : drw (lcg (lcgN k s)) - 1 + 1 = drG s k := by
        rw [Int.sub_add_cancel]
        rfl
      rw [d]
      unfold mDr
      rw [← mFil_s]
      funext b j
      simp only [mset]
      rw [show lcgN (k + 1) s = lcg (lcgN k s) from rfl]
      by_cases c1 : b = 154 ∧ j = 66
      · rw [if_pos c1, if_neg (by omega), if_pos c1]
      · rw [if_neg c1, if_neg c1]
        by_cases c2 : b = 165 ∧ j = k
        · rw [if_pos c2, if_pos c2]
        · rw [if_neg c2, if_neg c2, if_neg c1]
  · unfold mDr
    rw [mFil_0, show lcgN 0 s = s from rfl, ← hs, mset_same]
theorem rowB_dr {s : Int} {c : Nat} (hc : M 154 28 = c) (h3 : 3 ≤ c) (c24 : c ≤ 24) (hd : M 154 29 = 0) : numM (mDr M s c) 165 (dRw s c) ∧ rowB (mTell (mDr M s c) 166 167 (dRw s c) (dRw s c).2.1) (dRw s c) := by
  have ok := okT_drw (x := s) (c := (c : Int)) ⟨by omega, by omega⟩
  have num : numM (mDr M s c) 165 (dRw s c) := by
    refine ⟨by show (0 : Int) ≤ c; omega, okT_R ok, fun j hj => ?_⟩
    have hj' : (j : Int) < c := hj
    rw [mV_full (okT_full ok) (by omega) hj]
    have e : mDr M s c 165 j = drG s j := by
      simp only [mDr, mset, mFil]
      rw [if_neg (by omega), if_pos (by first | exact ⟨rfl, by omega⟩ | exact ⟨trivial, by omega⟩)]
    rw [e]
    show _ = if 0 ≤ (j : Int) ∧ (j : Int) < (c : Int) then (if (((j : Int).toNat : Nat) : Int) < (c : Int) then drG s (j : Int).toNat else 0) else 0
    rw [natT, if_pos ⟨by omega, hj'⟩, if_pos hj']
  have f4 := mTell_fr (M := mDr M s c) (s := 166) (r := 167) (A := dRw s c) (n := (dRw s c).2.1)
  refine ⟨num, ?_, by show (c : Int) ≤ 24; omega, mTell_fin num, ?_, okT_full ok⟩
  · rw [f4 _ _ (by omega)]
    show _ = (c : Int)
    rw [← hc]
    simp [mDr, mset, mFil]
  · rw [f4 _ _ (by omega)]
    have e : mDr M s c 154 29 = 0 := by rw [← hd]; simp [mDr, mset, mFil]
    rw [e]
    refine ⟨inR_0, fun k k0 k1 => ⟨fun z => ?_, fun z => absurd z (isD_0 k)⟩⟩
    exfalso
    apply z
    unfold sShk
    rw [if_neg]
    rintro ⟨-, -, z | z⟩
    · exact z (by unfold sD; split <;> rfl)
    · exact z (by unfold sD; split <;> rfl)
theorem chcN_s {A : Rw} {own lap seed c : Int} {k : Nat} : chcN A own lap seed c (k + 1) = ((chcN A own lap seed c k).1 + (if own ≤ chcS A own lap seed c k then 1 else 0), max (chcN A own lap seed c k).2.1 (chcS A own lap seed c k), (chcN A own lap seed c k).2.2 + chcS A own lap seed c k) := rfl
set_option maxHeartbeats 600000 in
set_option maxRecDepth 20000 in
theorem Model_chance_102 {A : Rw} {own seed w : Int} {c m : Nat} {x1 x2 a10 : Option AV} {M0 : Mm} (h : mdl M n T Y lap bnd mrg) (hA : rowA M A) (hc : M 154 28 = c) (h3 : 3 ≤ c) (c24 : c ≤ 24) (hd : M 154 29 = 0) (hs : M 154 66 = seed) (hm : m ≤ 40) (hw : 0 ≤ w ∧ w ≤ 2) (ho : 0 ≤ own ∧ own ≤ 100) (rs : rsM M0 0 M) :
    WPm m_Model_chance (fun v M' => ∃ y, v = some (.inl y) ∧ y = (if w = 0 then (chcN A own lap seed c m).1 else if w = 1 then (chcN A own lap seed c m).2.1 else (chcN A own lap seed c m).2.2) ∧ rsM M0 0 M') 102 [some (.inr 154), x1, x2, some (.inl (m : Int)), some (.inl w), some (.inl own), some (.inl 0), some (.inl 0), some (.inl 0), some (.inl 0), a10] [] M := by
  have sep : ∀ b j, chP b j → b ≠ 156 ∧ b ≠ 158 := fun b j z => by unfold chP at z; omega
  have hAA : 0 ≤ A.2.1 ∧ A.2.1 ≤ 924 := ⟨hA.2.2.1.1.1, hA.2.1⟩
  refine loopQ m (fun k ls M1 => (FrP chP M M1 ∧ M1 154 66 = lcgN (c * k) seed) ∧ ∃ a10, ls = [some (.inr 154), x1, x2, some (.inl (m : Int)), some (.inl w), some (.inl own), some (.inl (chcN A own lap seed c k).1), some (.inl (chcN A own lap seed c k).2.1), some (.inl (chcN A own lap seed c k).2.2), some (.inl (k : Int)), a10]) ?_ _ _ ⟨⟨FrP.rf, by rw [Nat.mul_zero]; exact hs⟩, a10, rfl⟩
  rintro k _ M1 hk ⟨⟨F, e66⟩, b10, rfl⟩ KK
  have ci := chc_in (own := own) (lap := lap) (seed := seed) hAA (c := (c : Int)) ⟨by omega, by omega⟩ k
  by_cases ck : k = m
  · subst ck
    have rs1 := rsM_fr rs F (fun b j z => by unfold chP at z; unfold scrM; omega)
    have c' := eq_true (show (k : Int) ≤ k by omega)
    generalize chcN A own lap seed c k = x at *
    rcases (show w = 0 ∨ w = 1 ∨ w = 2 by omega) with rfl | rfl | rfl
    · refine wpm_of (cuts := [102]) (by decide) 60 _ _ _ _ ?_
      simp (maxSteps := 2000000) only [↓reduceIte, wp_eq, wpd_eq, kont_eq, STP1, STP2, STP3, STP4, STP5, konM_eq, AMK, CZ, Option.map, List.getElem?_cons_zero, List.getElem?_cons_succ, List.mem_cons, List.not_mem_nil, if_false, if_true, Nat.reduceAdd, Nat.reduceLT, Nat.reduceLeDiff, Nat.reduceEqDiff, true_and, and_true, List.length_nil, List.length_cons, or_true, true_or, or_false, false_or, Option.some.injEq, Sum.inl.injEq, Sum.inr.injEq, exists_eq_left', exists_eq_left, Int.reduceLE, Int.reduceLT, Int.reduceNeg, Int.reduceAdd, Int.reduceMul, Int.reduceSub, Int.reduceToNat, inR, Nat.zero_ne_one, false_and, Nat.succ_ne_zero, reduceCtorEq, false_implies, true_implies, not_false_eq_true, not_true_eq_false, Int.reduceEq, KRE, C_Model_chance, FM, c']
      repeat (first | refine ⟨by omega, ?_⟩ | refine ⟨fun _ _ => okt_nn (by omega), ?_⟩)
      try (first | (show _ ≤ _; omega) | (show _ < _; omega))
      first | exact rs1 | exact ⟨rfl, rs1⟩ | exact ⟨by simp, rs1⟩ | exact ⟨by omega, rs1⟩ | exact ⟨by simp, rfl, rs1⟩ | exact ⟨by omega, rfl, rs1⟩ | exact ⟨by simp, by simp, rs1⟩ | exact ⟨by omega, by simp, rs1⟩ | (simp; first | exact rs1 | exact ⟨by omega, rs1⟩)
    · refine wpm_of (cuts := [102]) (by decide) 60 _ _ _ _ ?_
      simp (maxSteps := 2000000) only [↓reduceIte, wp_eq, wpd_eq, kont_eq, STP1, STP2, STP3, STP4, STP5, konM_eq, AMK, CZ, Option.map, List.getElem?_cons_zero, List.getElem?_cons_succ, List.mem_cons, List.not_mem_nil, if_false, if_true, Nat.reduceAdd, Nat.reduceLT, Nat.reduceLeDiff, Nat.reduceEqDiff, true_and, and_true, List.length_nil, List.length_cons, or_true, true_or, or_false, false_or, Option.some.injEq, Sum.inl.injEq, Sum.inr.injEq, exists_eq_left', exists_eq_left, Int.reduceLE, Int.reduceLT, Int.reduceNeg, Int.reduceAdd, Int.reduceMul, Int.reduceSub, Int.reduceToNat, inR, Nat.zero_ne_one, false_and, Nat.succ_ne_zero, reduceCtorEq, false_implies, true_implies, not_false_eq_true, not_true_eq_false, Int.reduceEq, KRE, C_Model_chance, FM, c']
      repeat (first | refine ⟨by omega, ?_⟩ | refine ⟨fun _ _ => okt_nn (by omega), ?_⟩)
      try (first | (show _ ≤ _; omega) | (show _ < _; omega))
      first | exact rs1 | exact ⟨rfl, rs1⟩ | exact ⟨by simp, rs1⟩ | exact ⟨by omega, rs1⟩ | exact ⟨by simp, rfl, rs1⟩ | exact ⟨by omega, rfl, rs1⟩ | exact ⟨by simp, by simp, rs1⟩ | exact ⟨by omega, by simp, rs1⟩ | (simp; first | exact rs1 | exact ⟨by omega, rs1⟩)
    · refine wpm_of (cuts := [102]) (by decide) 60 _ _ _ _ ?_
      simp (maxSteps := 2000000) only [↓reduceIte, wp_eq, wpd_eq, kont_eq, STP1, STP2, STP3, STP4, STP5, konM_eq, AMK, CZ, Option.map, List.getElem?_cons_zero, List.getElem?_cons_succ, List.mem_cons, List.not_mem_nil, if_false, if_true, Nat.reduceAdd, Nat.reduceLT, Nat.reduceLeDiff, Nat.reduceEqDiff, true_and, and_true, List.length_nil, List.length_cons, or_true, true_or, or_false, false_or, Option.some.injEq, Sum.inl.injEq, Sum.inr.injEq, exists_eq_left', exists_eq_left, Int.reduceLE, Int.reduceLT, Int.reduceNeg, Int.reduceAdd, Int.reduceMul, Int.reduceSub, Int.reduceToNat, inR, Nat.zero_ne_one, false_and, Nat.succ_ne_zero, reduceCtorEq, false_implies, true_implies, not_false_eq_true, not_true_eq_false, Int.reduceEq, KRE, C_Model_chance, FM, c']
      repeat (first | refine ⟨by omega, ?_⟩ | refine ⟨fun _ _ => okt_nn (by omega), ?_⟩)
      try (first | (show _ ≤ _; omega) | (show _ < _; omega))
      first | exact rs1 | exact ⟨rfl, rs1⟩ | exact ⟨by simp, rs1⟩ | exact ⟨by omega, rs1⟩ | exact ⟨by simp, rfl, rs1⟩ | exact ⟨by omega, rfl, rs1⟩ | exact ⟨by simp, by simp, rs1⟩ | exact ⟨by omega, by simp, rs1⟩ | (simp; first | exact rs1 | exact ⟨by omega, rs1⟩)
  · have hlt : k < m := by omega
    have c' := eq_false (show ¬ (m : Int) ≤ k by omega)
    have h1 := mdl_fr h F sep
    have hc1 : M1 154 28 = c := (F _ _ (by unfold chP; omega)).trans hc
    have hd1 : M1 154 29 = 0 := (F _ _ (by unfold chP; omega)).trans hd
    have hA1 : rowA M1 A := rowA_cells (fun b q1 q2 j => F _ _ (by unfold chP; omega)) (F _ _ (by unfold chP; omega)) (F _ _ (by unfold chP; omega)) hA
    have hb := h.2.2.1.1.2
    refine wpm_of (cuts := [102, 111]) (by decide) 60 _ _ _ _ ?_
    simp (maxSteps := 2000000) only [↓reduceIte, wp_eq, wpd_eq, kont_eq, STP1, STP2, STP3, STP4, STP5, konM_eq, AMK, CZ, Option.map, List.getElem?_cons_zero, List.getElem?_cons_succ, List.mem_cons, List.not_mem_nil, if_false, if_true, Nat.reduceAdd, Nat.reduceLT, Nat.reduceLeDiff, Nat.reduceEqDiff, true_and, and_true, List.length_nil, List.length_cons, or_true, true_or, or_false, false_or, Option.some.injEq, Sum.inl.injEq, Sum.inr.injEq, exists_eq_left', exists_eq_left, Int.reduceLE, Int.reduceLT, Int.reduceNeg, Int.reduceAdd, Int.reduceMul, Int.reduceSub, Int.reduceToNat, inR, Nat.zero_ne_one, false_and, Nat.succ_ne_zero, reduceCtorEq, false_implies, true_implies, not_false_eq_true, not_true_eq_false, Int.reduceEq, KRE, C_Model_chance, FM, c']
    repeat (first | refine ⟨by omega, ?_⟩ | refine ⟨fun _ _ => okt_nn (by omega), ?_⟩)
    try (first | (show _ ≤ _; omega) | (show _ < _; omega))
    refine Model_chance_111 (x0 := none) e66 hc1 c24 ?_
    obtain ⟨num, rB⟩ := rowB_dr (s := lcgN (c * k) seed) hc1 h3 c24 hd1
    have F2 : FrP chP M1 (mDr M1 (lcgN (c * k) seed) c) := by
      intro b j z
      unfold chP at z
      simp only [mDr, mset, mFil]
      rw [if_neg (by omega), if_neg (by omega)]
    have e662 : mDr M1 (lcgN (c * k) seed) c 154 66 = lcgN (c * (k + 1)) seed := by
      rw [Nat.mul_add, Nat.mul_one, lcgN_add]
      simp [mDr, mset]
    have e282 : mDr M1 (lcgN (c * k) seed) c 154 28 = (dRw (lcgN (c * k) seed) c).2.1 := (F2 _ _ (by unfold chP; omega)).trans hc1
    have okd := okT_drw (x := lcgN (c * k) seed) (c := (c : Int)) ⟨by omega, by omega⟩
    generalize mDr M1 (lcgN (c * k) seed) c = M2 at *
    refine wpm_of (cuts := [102, 168]) (by decide) 60 _ _ _ _ ?_
    simp (maxSteps := 2000000) only [↓reduceIte, wp_eq, wpd_eq, kont_eq, STP1, STP2, STP3, STP4, STP5, konM_eq, AMK, CZ, Option.map, List.getElem?_cons_zero, List.getElem?_cons_succ, List.mem_cons, List.not_mem_nil, if_false, if_true, Nat.reduceAdd, Nat.reduceLT, Nat.reduceLeDiff, Nat.reduceEqDiff, true_and, and_true, List.length_nil, List.length_cons, or_true, true_or, or_false, false_or, Option.some.injEq, Sum.inl.injEq, Sum.inr.injEq, exists_eq_left', exists_eq_left, Int.reduceLE, Int.reduceLT, Int.reduceNeg, Int.reduceAdd, Int.reduceMul, Int.reduceSub, Int.reduceToNat, inR, Nat.zero_ne_one, false_and, Nat.succ_ne_zero, reduceCtorEq, false_implies, true_implies, not_false_eq_true, not_true_eq_false, Int.reduceEq, KRE, C_Model_chance, FM]
    refine (Model_tellB_ok e282 (by show (c : Int) ≤ 24; omega) num).eq ?_
    have f4 := mTell_fr (M := M2) (s := 166) (r := 167) (A := dRw (lcgN (c * k) seed) c) (n := (dRw (lcgN (c * k) seed) c).2.1)
    have F3 : FrP chP M1 (mTell M2 166 167 (dRw (lcgN (c * k) seed) c) (dRw (lcgN (c * k) seed) c).2.1) := F2.tr (f4.wd (fun b j z => by unfold chP; omega))
    have e663 : mTell M2 166 167 (dRw (lcgN (c * k) seed) c) (dRw (lcgN (c * k) seed) c).2.1 154 66 = lcgN (c * (k + 1)) seed := (f4 _ _ (by omega)).trans e662
    generalize mTell M2 166 167 (dRw (lcgN (c * k) seed) c) (dRw (lcgN (c * k) seed) c).2.1 = M3 at *
    have h3' := mdl_fr h1 F3 sep
    have hA3 : rowA M3 A := rowA_cells (fun b q1 q2 j => F3 _ _ (by unfold chP; omega)) (F3 _ _ (by unfold chP; omega)) (F3 _ _ (by unfold chP; omega)) hA1
    try simp (maxSteps := 2000000) only [↓reduceIte, wp_eq, wpd_eq, kont_eq, STP1, STP2, STP3, STP4, STP5, konM_eq, AMK, CZ, Option.map, List.getElem?_cons_zero, List.getElem?_cons_succ, List.mem_cons, List.not_mem_nil, if_false, if_true, Nat.reduceAdd, Nat.reduceLT, Nat.reduceLeDiff, Nat.reduceEqDiff, true_and, and_true, List.length_nil, List.length_cons, or_true, true_or, or_false, false_or, Option.some.injEq, Sum.inl.injEq, Sum.inr.injEq, exists_eq_left', exists_eq_left, Int.reduceLE, Int.reduceLT, Int.reduceNeg, Int.reduceAdd, Int.reduceMul, Int.reduceSub, Int.reduceToNat, inR, Nat.zero_ne_one, false_and, Nat.succ_ne_zero, reduceCtorEq, false_implies, true_implies, not_false_eq_true, not_true_eq_false, Int.reduceEq, KRE, C_Model_chance, FM]
    refine (Model_bound_ok h3'.2.2.1).eq ?_
    try simp (maxSteps := 2000000) only [↓reduceIte, wp_eq, wpd_eq, kont_eq, STP1, STP2, STP3, STP4, STP5, konM_eq, AMK, CZ, Option.map, List.getElem?_cons_zero, List.getElem?_cons_succ, List.mem_cons, List.not_mem_nil, if_false, if_true, Nat.reduceAdd, Nat.reduceLT, Nat.reduceLeDiff, Nat.reduceEqDiff, true_and, and_true, List.length_nil, List.length_cons, or_true, true_or, or_false, false_or, Option.some.injEq, Sum.inl.injEq, Sum.inr.injEq, exists_eq_left', exists_eq_left, Int.reduceLE, Int.reduceLT, Int.reduceNeg, Int.reduceAdd, Int.reduceMul, Int.reduceSub, Int.reduceToNat, inR, Nat.zero_ne_one, false_and, Nat.succ_ne_zero, reduceCtorEq, false_implies, true_implies, not_false_eq_true, not_true_eq_false, Int.reduceEq, KRE, C_Model_chance, FM]
    refine (Model_tellBest_ok h3'.2.2.1 hA3 rB (by omega)).mono (fun M4 z => ?_)
    obtain ⟨⟨b1, b2, b3⟩, -, F4⟩ := z
    have F4' : FrP chP M M4 := (F.tr F3).tr (F4.wd (fun b j z => by unfold bestP at z; unfold chP; omega))
    have e664 : M4 154 66 = lcgN (c * (k + 1)) seed := (F4 _ _ (by unfold bestP; omega)).trans e663
    have ob := okB_best (A := A) (B := dRw (lcgN (c * k) seed) c) (lap := lap) hAA (by have := okd.1; omega)
    have si := scF_in ob
    have es : chcS A own lap seed c k = scF (best A (dRw (lcgN (c * k) seed) c) lap) := by
      unfold chcS
      rw [natT]
    have sb : scF (best A (dRw (lcgN (c * k) seed) c) lap) = if (best A (dRw (lcgN (c * k) seed) c) lap).1 = 0 then 0 else (best A (dRw (lcgN (c * k) seed) c) lap).2.2.1 := rfl
    have K' := fun a10 => KK hlt _ M4 ⟨⟨F4', e664⟩, a10, rfl⟩
    rw [chcN_s, es] at K'
    generalize best A (dRw (lcgN (c * k) seed) c) lap = y at *
    have KK2 : WPm m_Model_chance (fun v M' => ∃ y, v = some (.inl y) ∧ y = (if w = 0 then (chcN A own lap seed c m).1 else if w = 1 then (chcN A own lap seed c m).2.1 else (chcN A own lap seed c m).2.2) ∧ rsM M0 0 M') 168 [some (.inr 154), x1, x2, some (.inl (m : Int)), some (.inl w), some (.inl own), some (.inl (chcN A own lap seed c k).1), some (.inl (chcN A own lap seed c k).2.1), some (.inl (chcN A own lap seed c k).2.2), some (.inl (k : Int)), some (.inl (c : Int))] [.inl (scF y)] M4 := by
      generalize scF y = v at *
      generalize chcN A own lap seed c k = x at *
      by_cases cv : own ≤ v
      · rw [if_pos cv] at K'
        have cv' := eq_false (show ¬ v < own by omega)
        refine wpm_of (cuts := [102]) (by decide) 60 _ _ _ _ ?_
        simp (maxSteps := 2000000) only [↓reduceIte, wp_eq, wpd_eq, kont_eq, STP1, STP2, STP3, STP4, STP5, konM_eq, AMK, CZ, Option.map, List.getElem?_cons_zero, List.getElem?_cons_succ, List.mem_cons, List.not_mem_nil, if_false, if_true, Nat.reduceAdd, Nat.reduceLT, Nat.reduceLeDiff, Nat.reduceEqDiff, true_and, and_true, List.length_nil, List.length_cons, or_true, true_or, or_false, false_or, Option.some.injEq, Sum.inl.injEq, Sum.inr.injEq, exists_eq_left', exists_eq_left, Int.reduceLE, Int.reduceLT, Int.reduceNeg, Int.reduceAdd, Int.reduceMul, Int.reduceSub, Int.reduceToNat, inR, Nat.zero_ne_one, false_and, Nat.succ_ne_zero, reduceCtorEq, false_implies, true_implies, not_false_eq_true, not_true_eq_false, Int.reduceEq, KRE, C_Model_chance, FM, cv']
        repeat (first | refine ⟨by omega, ?_⟩ | refine ⟨fun _ _ => okt_nn (by omega), ?_⟩)
        try (first | (show _ ≤ _; omega) | (show _ < _; omega))
        exact K' _
      · rw [if_neg cv] at K'
        have cv' := eq_true (show v < own by omega)
        refine wpm_of (cuts := [102]) (by decide) 60 _ _ _ _ ?_
        simp (maxSteps := 2000000) only [↓reduceIte, wp_eq, wpd_eq, kont_eq, STP1, STP2, STP3, STP4, STP5, konM_eq, AMK, CZ, Option.map, List.getElem?_cons_zero, List.getElem?_cons_succ, List.mem_cons, List.not_mem_nil, if_false, if_true, Nat.reduceAdd, Nat.reduceLT, Nat.reduceLeDiff, Nat.reduceEqDiff, true_and, and_true, List.length_nil, List.length_cons, or_true, true_or, or_false, false_or, Option.some.injEq, Sum.inl.injEq, Sum.inr.injEq, exists_eq_left', exists_eq_left, Int.reduceLE, Int.reduceLT, Int.reduceNeg, Int.reduceAdd, Int.reduceMul, Int.reduceSub, Int.reduceToNat, inR, Nat.zero_ne_one, false_and, Nat.succ_ne_zero, reduceCtorEq, false_implies, true_implies, not_false_eq_true, not_true_eq_false, Int.reduceEq, KRE, C_Model_chance, FM, cv']
        repeat (first | refine ⟨by omega, ?_⟩ | refine ⟨fun _ _ => okt_nn (by omega), ?_⟩)
        try (first | (show _ ≤ _; omega) | (show _ < _; omega))
        exact K' _
    rcases ob.1 with o1 | o1
    · rw [if_pos o1] at sb
      rw [o1] at b1
      rw [sb] at KK2
      try simp (maxSteps := 2000000) only [↓reduceIte, wp_eq, wpd_eq, kont_eq, STP1, STP2, STP3, STP4, STP5, konM_eq, AMK, CZ, Option.map, List.getElem?_cons_zero, List.getElem?_cons_succ, List.mem_cons, List.not_mem_nil, if_false, if_true, Nat.reduceAdd, Nat.reduceLT, Nat.reduceLeDiff, Nat.reduceEqDiff, true_and, and_true, List.length_nil, List.length_cons, or_true, true_or, or_false, false_or, Option.some.injEq, Sum.inl.injEq, Sum.inr.injEq, exists_eq_left', exists_eq_left, Int.reduceLE, Int.reduceLT, Int.reduceNeg, Int.reduceAdd, Int.reduceMul, Int.reduceSub, Int.reduceToNat, inR, Nat.zero_ne_one, false_and, Nat.succ_ne_zero, reduceCtorEq, false_implies, true_implies, not_false_eq_true, not_true_eq_false, Int.reduceEq, KRE, C_Model_chance, FM, b1]
      repeat (first | refine ⟨by omega, ?_⟩ | refine ⟨fun _ _ => okt_nn (by omega), ?_⟩)
      try (first | (show _ ≤ _; omega) | (show _ < _; omega))
      exact KK2
    · rw [if_neg (by omega)] at sb
      have b4 := (b3 (by omega)).2.1
      rw [o1] at b1
      have one0 := eq_false (show ¬ (1 : Int) = 0 by omega)
      rw [sb] at KK2
      try simp (maxSteps := 2000000) only [↓reduceIte, wp_eq, wpd_eq, kont_eq, STP1, STP2, STP3, STP4, STP5, konM_eq, AMK, CZ, Option.map, List.getElem?_cons_zero, List.getElem?_cons_succ, List.mem_cons, List.not_mem_nil, if_false, if_true, Nat.reduceAdd, Nat.reduceLT, Nat.reduceLeDiff, Nat.reduceEqDiff, true_and, and_true, List.length_nil, List.length_cons, or_true, true_or, or_false, false_or, Option.some.injEq, Sum.inl.injEq, Sum.inr.injEq, exists_eq_left', exists_eq_left, Int.reduceLE, Int.reduceLT, Int.reduceNeg, Int.reduceAdd, Int.reduceMul, Int.reduceSub, Int.reduceToNat, inR, Nat.zero_ne_one, false_and, Nat.succ_ne_zero, reduceCtorEq, false_implies, true_implies, not_false_eq_true, not_true_eq_false, Int.reduceEq, KRE, C_Model_chance, FM, b1, b4, one0]
      repeat (first | refine ⟨by omega, ?_⟩ | refine ⟨fun _ _ => okt_nn (by omega), ?_⟩)
      try (first | (show _ ≤ _; omega) | (show _ < _; omega))
      exact KK2
set_option maxHeartbeats 600000 in
set_option maxRecDepth 20000 in
theorem Mchance_ok {t m : Nat} {seed w : Int} (h : mdl M n T Y lap bnd mrg) (ht : t < n) (hm : m ≤ 40) (hw : 0 ≤ w ∧ w ≤ 2) : CallI m_Model_chance [.inr 154, .inl (t : Int), .inl seed, .inl (m : Int), .inl w] M (fun y M' => y = (if w = 0 then (chcN (chr T Y (-1) n) (scF (best (chr T Y (-1) n) (T t) lap)) lap seed (T t).2.1 m).1 else if w = 1 then (chcN (chr T Y (-1) n) (scF (best (chr T Y (-1) n) (T t) lap)) lap seed (T t).2.1 m).2.1 else (chcN (chr T Y (-1) n) (scF (best (chr T Y (-1) n) (T t) lap)) lap seed (T t).2.1 m).2.2) ∧ rsM M 0 M') := by
  have h0 : mdl (mset M 154 1 0) n T Y lap bnd mrg := mdl_fr h scr_0 scr_mdl
  have n8 := h.1.2
  have lT := (mdl_t h ht).2.2.2.1.1
  have hc := h.2.2.2
  have rr := chr_R (wo := -1) hc
  have sep : ∀ b j, fitP b j → b ≠ 156 ∧ b ≠ 158 := fun b j z => by unfold fitP at z; omega
  obtain ⟨c, ec⟩ : ∃ c : Nat, (T t).2.1 = c := ⟨(T t).2.1.toNat, by omega⟩
  refine callP_of (by decide) (by decide) (Nat.le_of_ble_eq_true rfl) (wpm_of (cuts := [78, 102]) (by decide) 60 _ _ _ _ ?_)
  rw [show lM m_Model_chance = 11 from rfl]
  simp (maxSteps := 2000000) only [↓reduceIte, wp_eq, wpd_eq, kont_eq, STP1, STP2, STP3, STP4, STP5, konM_eq, AMK, CZ, Option.map, List.getElem?_cons_zero, List.getElem?_cons_succ, List.mem_cons, List.not_mem_nil, if_false, if_true, Nat.reduceAdd, Nat.reduceLT, Nat.reduceLeDiff, Nat.reduceEqDiff, true_and, and_true, List.length_nil, List.length_cons, or_true, true_or, or_false, false_or, Option.some.injEq, Sum.inl.injEq, Sum.inr.injEq, exists_eq_left', exists_eq_left, Int.reduceLE, Int.reduceLT, Int.reduceNeg, Int.reduceAdd, Int.reduceMul, Int.reduceSub, Int.reduceToNat, inR, Nat.zero_ne_one, false_and, Nat.succ_ne_zero, reduceCtorEq, false_implies, true_implies, not_false_eq_true, not_true_eq_false, Int.reduceEq, KRE, C_Model_chance, FM]
  refine (isTimber_y h0 ht).eq ?_
  try simp (maxSteps := 2000000) only [↓reduceIte, wp_eq, wpd_eq, kont_eq, STP1, STP2, STP3, STP4, STP5, konM_eq, AMK, CZ, Option.map, List.getElem?_cons_zero, List.getElem?_cons_succ, List.mem_cons, List.not_mem_nil, if_false, if_true, Nat.reduceAdd, Nat.reduceLT, Nat.reduceLeDiff, Nat.reduceEqDiff, true_and, and_true, List.length_nil, List.length_cons, or_true, true_or, or_false, false_or, Option.some.injEq, Sum.inl.injEq, Sum.inr.injEq, exists_eq_left', exists_eq_left, Int.reduceLE, Int.reduceLT, Int.reduceNeg, Int.reduceAdd, Int.reduceMul, Int.reduceSub, Int.reduceToNat, inR, Nat.zero_ne_one, false_and, Nat.succ_ne_zero, reduceCtorEq, false_implies, true_implies, not_false_eq_true, not_true_eq_false, Int.reduceEq, KRE, C_Model_chance, FM]
  repeat (first | refine ⟨by omega, ?_⟩ | refine ⟨fun _ _ => okt_nn (by omega), ?_⟩)
  try (first | (show _ ≤ _; omega) | (show _ < _; omega))
  refine (Model_isIn_ok ⟨by omega, by omega⟩ ⟨by omega, by omega⟩ ⟨by omega, by omega⟩).eq ?_
  rw [if_pos (by omega)]
  try simp (maxSteps := 2000000) only [↓reduceIte, wp_eq, wpd_eq, kont_eq, STP1, STP2, STP3, STP4, STP5, konM_eq, AMK, CZ, Option.map, List.getElem?_cons_zero, List.getElem?_cons_succ, List.mem_cons, List.not_mem_nil, if_false, if_true, Nat.reduceAdd, Nat.reduceLT, Nat.reduceLeDiff, Nat.reduceEqDiff, true_and, and_true, List.length_nil, List.length_cons, or_true, true_or, or_false, false_or, Option.some.injEq, Sum.inl.injEq, Sum.inr.injEq, exists_eq_left', exists_eq_left, Int.reduceLE, Int.reduceLT, Int.reduceNeg, Int.reduceAdd, Int.reduceMul, Int.reduceSub, Int.reduceToNat, inR, Nat.zero_ne_one, false_and, Nat.succ_ne_zero, reduceCtorEq, false_implies, true_implies, not_false_eq_true, not_true_eq_false, Int.reduceEq, KRE, C_Model_chance, FM]
  repeat (first | refine ⟨by omega, ?_⟩ | refine ⟨fun _ _ => okt_nn (by omega), ?_⟩)
  try (first | (show _ ≤ _; omega) | (show _ < _; omega))
  refine (Model_isIn_ok ⟨by omega, by omega⟩ ⟨by omega, by omega⟩ ⟨by omega, by omega⟩).eq ?_
  rw [if_pos (by omega)]
  try simp (maxSteps := 2000000) only [↓reduceIte, wp_eq, wpd_eq, kont_eq, STP1, STP2, STP3, STP4, STP5, konM_eq, AMK, CZ, Option.map, List.getElem?_cons_zero, List.getElem?_cons_succ, List.mem_cons, List.not_mem_nil, if_false, if_true, Nat.reduceAdd, Nat.reduceLT, Nat.reduceLeDiff, Nat.reduceEqDiff, true_and, and_true, List.length_nil, List.length_cons, or_true, true_or, or_false, false_or, Option.some.injEq, Sum.inl.injEq, Sum.inr.injEq, exists_eq_left', exists_eq_left, Int.reduceLE, Int.reduceLT, Int.reduceNeg, Int.reduceAdd, Int.reduceMul, Int.reduceSub, Int.reduceToNat, inR, Nat.zero_ne_one, false_and, Nat.succ_ne_zero, reduceCtorEq, false_implies, true_implies, not_false_eq_true, not_true_eq_false, Int.reduceEq, KRE, C_Model_chance, FM]
  repeat (first | refine ⟨by omega, ?_⟩ | refine ⟨fun _ _ => okt_nn (by omega), ?_⟩)
  try (first | (show _ ≤ _; omega) | (show _ < _; omega))
  refine (Model_layChronology_ok (wo := -1) h0 ⟨by omega, by omega⟩).mono (fun M1 z => ?_)
  obtain ⟨rA, -, F1⟩ := z
  have F1' : FrP fitP (mset M 154 1 0) M1 := F1.wd (fun b j z => by unfold chrP at z; unfold fitP; omega)
  have h1 := mdl_fr h0 F1' sep
  try simp (maxSteps := 2000000) only [↓reduceIte, wp_eq, wpd_eq, kont_eq, STP1, STP2, STP3, STP4, STP5, konM_eq, AMK, CZ, Option.map, List.getElem?_cons_zero, List.getElem?_cons_succ, List.mem_cons, List.not_mem_nil, if_false, if_true, Nat.reduceAdd, Nat.reduceLT, Nat.reduceLeDiff, Nat.reduceEqDiff, true_and, and_true, List.length_nil, List.length_cons, or_true, true_or, or_false, false_or, Option.some.injEq, Sum.inl.injEq, Sum.inr.injEq, exists_eq_left', exists_eq_left, Int.reduceLE, Int.reduceLT, Int.reduceNeg, Int.reduceAdd, Int.reduceMul, Int.reduceSub, Int.reduceToNat, inR, Nat.zero_ne_one, false_and, Nat.succ_ne_zero, reduceCtorEq, false_implies, true_implies, not_false_eq_true, not_true_eq_false, Int.reduceEq, KRE, C_Model_chance, FM]
  refine (Model_layB_ok h1 ht).mono (fun M2 z => ?_)
  obtain ⟨rB, F2⟩ := z
  have F2' : FrP fitP M1 M2 := F2.wd (fun b j z => by unfold layBP at z; unfold fitP; omega)
  have h2 := mdl_fr h1 F2' sep
  have rA2 : rowA M2 (chr T Y (-1) n) := rowA_cells (fun b q1 q2 j => F2 _ _ (by unfold layBP; omega)) (F2 _ _ (by unfold layBP; omega)) (F2 _ _ (by unfold layBP; omega)) rA
  try simp (maxSteps := 2000000) only [↓reduceIte, wp_eq, wpd_eq, kont_eq, STP1, STP2, STP3, STP4, STP5, konM_eq, AMK, CZ, Option.map, List.getElem?_cons_zero, List.getElem?_cons_succ, List.mem_cons, List.not_mem_nil, if_false, if_true, Nat.reduceAdd, Nat.reduceLT, Nat.reduceLeDiff, Nat.reduceEqDiff, true_and, and_true, List.length_nil, List.length_cons, or_true, true_or, or_false, false_or, Option.some.injEq, Sum.inl.injEq, Sum.inr.injEq, exists_eq_left', exists_eq_left, Int.reduceLE, Int.reduceLT, Int.reduceNeg, Int.reduceAdd, Int.reduceMul, Int.reduceSub, Int.reduceToNat, inR, Nat.zero_ne_one, false_and, Nat.succ_ne_zero, reduceCtorEq, false_implies, true_implies, not_false_eq_true, not_true_eq_false, Int.reduceEq, KRE, C_Model_chance, FM]
  refine (Model_bound_ok h2.2.2.1).eq ?_
  try simp (maxSteps := 2000000) only [↓reduceIte, wp_eq, wpd_eq, kont_eq, STP1, STP2, STP3, STP4, STP5, konM_eq, AMK, CZ, Option.map, List.getElem?_cons_zero, List.getElem?_cons_succ, List.mem_cons, List.not_mem_nil, if_false, if_true, Nat.reduceAdd, Nat.reduceLT, Nat.reduceLeDiff, Nat.reduceEqDiff, true_and, and_true, List.length_nil, List.length_cons, or_true, true_or, or_false, false_or, Option.some.injEq, Sum.inl.injEq, Sum.inr.injEq, exists_eq_left', exists_eq_left, Int.reduceLE, Int.reduceLT, Int.reduceNeg, Int.reduceAdd, Int.reduceMul, Int.reduceSub, Int.reduceToNat, inR, Nat.zero_ne_one, false_and, Nat.succ_ne_zero, reduceCtorEq, false_implies, true_implies, not_false_eq_true, not_true_eq_false, Int.reduceEq, KRE, C_Model_chance, FM]
  have hb := h2.2.2.1.1.2
  refine (Model_tellBest_ok h2.2.2.1 rA2 rB (by omega)).mono (fun M3 z => ?_)
  obtain ⟨⟨b1, b2, b3⟩, -, F3⟩ := z
  have F3' : FrP fitP M2 M3 := F3.wd (fun b j z => by unfold bestP at z; unfold fitP; omega)
  have rs := rsM_fr rsM_0 ((F1'.tr F2').tr F3') (fun b j z => by unfold fitP at z; unfold scrM; omega)
  have rA3 : rowA M3 (chr T Y (-1) n) := rowA_cells (fun b q1 q2 j => F3 _ _ (by unfold bestP; omega)) (F3 _ _ (by unfold bestP; omega)) (F3 _ _ (by unfold bestP; omega)) rA2
  have e28 : M3 154 28 = c := (F3 _ _ (by unfold bestP; omega)).trans (rB.1.trans ec)
  have h3 := mdl_fr h2 F3' sep
  have ob := okB_best (A := chr T Y (-1) n) (B := T t) (lap := lap) rr.2 (by omega)
  have si := scF_in ob
  have sb : scF (best (chr T Y (-1) n) (T t) lap) = if (best (chr T Y (-1) n) (T t) lap).1 = 0 then 0 else (best (chr T Y (-1) n) (T t) lap).2.2.1 := rfl
  rw [ec]
  have KK : WPm m_Model_chance (fun v M' => ∃ y, v = some (.inl y) ∧ y = (if w = 0 then (chcN (chr T Y (-1) n) (scF (best (chr T Y (-1) n) (T t) lap)) lap seed c m).1 else if w = 1 then (chcN (chr T Y (-1) n) (scF (best (chr T Y (-1) n) (T t) lap)) lap seed c m).2.1 else (chcN (chr T Y (-1) n) (scF (best (chr T Y (-1) n) (T t) lap)) lap seed c m).2.2) ∧ rsM M 0 M') 78 [some (.inr 154), some (.inl (t : Int)), some (.inl seed), some (.inl (m : Int)), some (.inl w), none, none, none, none, none, none] [.inl (scF (best (chr T Y (-1) n) (T t) lap))] M3 := by
    have F4 : FrP (fun b j => b = 154 ∧ (j = 66 ∨ j = 29)) M3 (mset (mset M3 154 66 seed) 154 29 0) := (FrP.rf.st ⟨rfl, Or.inl rfl⟩).st ⟨rfl, Or.inr rfl⟩
    have rA4 : rowA (mset (mset M3 154 66 seed) 154 29 0) (chr T Y (-1) n) := rowA_cells (fun b q1 q2 j => F4 _ _ (by omega)) (F4 _ _ (by omega)) (F4 _ _ (by omega)) rA3
    have G := fun x1 x2 => Model_chance_102 (x1 := x1) (x2 := x2) (a10 := none) (A := chr T Y (-1) n) (own := scF (best (chr T Y (-1) n) (T t) lap)) (seed := seed) (w := w) (m := m) (c := c) (M0 := M) (mdl_fr h3 F4 (fun b j z => by omega)) rA4 ((F4 _ _ (by omega)).trans e28) (by omega) (by omega) (by simp [mset]) (by simp [mset]) hm hw si (rsM_fr rs F4 (fun b j z => by unfold scrM; omega))
    refine wpm_of (cuts := [102]) (by decide) 60 _ _ _ _ ?_
    simp (maxSteps := 2000000) only [↓reduceIte, wp_eq, wpd_eq, kont_eq, STP1, STP2, STP3, STP4, STP5, konM_eq, AMK, CZ, Option.map, List.getElem?_cons_zero, List.getElem?_cons_succ, List.mem_cons, List.not_mem_nil, if_false, if_true, Nat.reduceAdd, Nat.reduceLT, Nat.reduceLeDiff, Nat.reduceEqDiff, true_and, and_true, List.length_nil, List.length_cons, or_true, true_or, or_false, false_or, Option.some.injEq, Sum.inl.injEq, Sum.inr.injEq, exists_eq_left', exists_eq_left, Int.reduceLE, Int.reduceLT, Int.reduceNeg, Int.reduceAdd, Int.reduceMul, Int.reduceSub, Int.reduceToNat, inR, Nat.zero_ne_one, false_and, Nat.succ_ne_zero, reduceCtorEq, false_implies, true_implies, not_false_eq_true, not_true_eq_false, Int.reduceEq, KRE, C_Model_chance, FM]
    repeat (first | refine ⟨by omega, ?_⟩ | refine ⟨fun _ _ => okt_nn (by omega), ?_⟩)
    try (first | (show _ ≤ _; omega) | (show _ < _; omega))
    exact G _ _
  rcases ob.1 with o1 | o1
  · rw [if_pos o1] at sb
    rw [o1] at b1
    rw [sb] at KK ⊢
    try simp (maxSteps := 2000000) only [↓reduceIte, wp_eq, wpd_eq, kont_eq, STP1, STP2, STP3, STP4, STP5, konM_eq, AMK, CZ, Option.map, List.getElem?_cons_zero, List.getElem?_cons_succ, List.mem_cons, List.not_mem_nil, if_false, if_true, Nat.reduceAdd, Nat.reduceLT, Nat.reduceLeDiff, Nat.reduceEqDiff, true_and, and_true, List.length_nil, List.length_cons, or_true, true_or, or_false, false_or, Option.some.injEq, Sum.inl.injEq, Sum.inr.injEq, exists_eq_left', exists_eq_left, Int.reduceLE, Int.reduceLT, Int.reduceNeg, Int.reduceAdd, Int.reduceMul, Int.reduceSub, Int.reduceToNat, inR, Nat.zero_ne_one, false_and, Nat.succ_ne_zero, reduceCtorEq, false_implies, true_implies, not_false_eq_true, not_true_eq_false, Int.reduceEq, KRE, C_Model_chance, FM, b1]
    repeat (first | refine ⟨by omega, ?_⟩ | refine ⟨fun _ _ => okt_nn (by omega), ?_⟩)
    try (first | (show _ ≤ _; omega) | (show _ < _; omega))
    exact KK
  · rw [if_neg (by omega)] at sb
    have b4 := (b3 (by omega)).2.1
    rw [o1] at b1
    have one0 := eq_false (show ¬ (1 : Int) = 0 by omega)
    rw [sb] at KK ⊢
    try simp (maxSteps := 2000000) only [↓reduceIte, wp_eq, wpd_eq, kont_eq, STP1, STP2, STP3, STP4, STP5, konM_eq, AMK, CZ, Option.map, List.getElem?_cons_zero, List.getElem?_cons_succ, List.mem_cons, List.not_mem_nil, if_false, if_true, Nat.reduceAdd, Nat.reduceLT, Nat.reduceLeDiff, Nat.reduceEqDiff, true_and, and_true, List.length_nil, List.length_cons, or_true, true_or, or_false, false_or, Option.some.injEq, Sum.inl.injEq, Sum.inr.injEq, exists_eq_left', exists_eq_left, Int.reduceLE, Int.reduceLT, Int.reduceNeg, Int.reduceAdd, Int.reduceMul, Int.reduceSub, Int.reduceToNat, inR, Nat.zero_ne_one, false_and, Nat.succ_ne_zero, reduceCtorEq, false_implies, true_implies, not_false_eq_true, not_true_eq_false, Int.reduceEq, KRE, C_Model_chance, FM, b1, b4, one0]
    repeat (first | refine ⟨by omega, ?_⟩ | refine ⟨fun _ _ => okt_nn (by omega), ?_⟩)
    try (first | (show _ ≤ _; omega) | (show _ < _; omega))
    exact KK
set_option maxHeartbeats 600000 in
set_option maxRecDepth 20000 in
theorem Mchance_x {t seed m w : Int} (h : mdl M n T Y lap bnd mrg) (ht : inR t) (hw : inR w) (hx : ¬ (0 ≤ t ∧ t < n) ∨ w < 0 ∨ 2 < w) : CallI m_Model_chance [.inr 154, .inl t, .inl seed, .inl m, .inl w] M (fun _ M' => rsM M 1 M') := by
  have h0 : mdl (mset M 154 1 0) n T Y lap bnd mrg := mdl_fr h scr_0 scr_mdl
  have F := (Model_fail_ok (k := 1) (M := mset M 154 1 0)).eq (G := fun x M' => rsM M 1 M') (rsM_fail rsM_0)
  refine callP_of (by decide) (by decide) (Nat.le_of_ble_eq_true rfl) (wpm_of (cuts := [45]) (by decide) 60 _ _ _ _ ?_)
  rw [show lM m_Model_chance = 11 from rfl]
  simp (maxSteps := 2000000) only [↓reduceIte, wp_eq, wpd_eq, kont_eq, STP1, STP2, STP3, STP4, STP5, konM_eq, AMK, CZ, Option.map, List.getElem?_cons_zero, List.getElem?_cons_succ, List.mem_cons, List.not_mem_nil, if_false, if_true, Nat.reduceAdd, Nat.reduceLT, Nat.reduceLeDiff, Nat.reduceEqDiff, true_and, and_true, List.length_nil, List.length_cons, or_true, true_or, or_false, false_or, Option.some.injEq, Sum.inl.injEq, Sum.inr.injEq, exists_eq_left', exists_eq_left, Int.reduceLE, Int.reduceLT, Int.reduceNeg, Int.reduceAdd, Int.reduceMul, Int.reduceSub, Int.reduceToNat, inR, Nat.zero_ne_one, false_and, Nat.succ_ne_zero, reduceCtorEq, false_implies, true_implies, not_false_eq_true, not_true_eq_false, Int.reduceEq, KRE, C_Model_chance, FM]
  refine (Model_isTimber_ok h0 ht).eq ?_
  by_cases c1 : 0 ≤ t ∧ t < n
  · rw [if_pos c1]
    try simp (maxSteps := 2000000) only [↓reduceIte, wp_eq, wpd_eq, kont_eq, STP1, STP2, STP3, STP4, STP5, konM_eq, AMK, CZ, Option.map, List.getElem?_cons_zero, List.getElem?_cons_succ, List.mem_cons, List.not_mem_nil, if_false, if_true, Nat.reduceAdd, Nat.reduceLT, Nat.reduceLeDiff, Nat.reduceEqDiff, true_and, and_true, List.length_nil, List.length_cons, or_true, true_or, or_false, false_or, Option.some.injEq, Sum.inl.injEq, Sum.inr.injEq, exists_eq_left', exists_eq_left, Int.reduceLE, Int.reduceLT, Int.reduceNeg, Int.reduceAdd, Int.reduceMul, Int.reduceSub, Int.reduceToNat, inR, Nat.zero_ne_one, false_and, Nat.succ_ne_zero, reduceCtorEq, false_implies, true_implies, not_false_eq_true, not_true_eq_false, Int.reduceEq, KRE, C_Model_chance, FM]
    repeat (first | refine ⟨by omega, ?_⟩ | refine ⟨fun _ _ => okt_nn (by omega), ?_⟩)
    try (first | (show _ ≤ _; omega) | (show _ < _; omega))
    refine (Model_isIn_ok hw ⟨by omega, by omega⟩ ⟨by omega, by omega⟩).eq ?_
    rw [if_neg (by omega)]
    try simp (maxSteps := 2000000) only [↓reduceIte, wp_eq, wpd_eq, kont_eq, STP1, STP2, STP3, STP4, STP5, konM_eq, AMK, CZ, Option.map, List.getElem?_cons_zero, List.getElem?_cons_succ, List.mem_cons, List.not_mem_nil, if_false, if_true, Nat.reduceAdd, Nat.reduceLT, Nat.reduceLeDiff, Nat.reduceEqDiff, true_and, and_true, List.length_nil, List.length_cons, or_true, true_or, or_false, false_or, Option.some.injEq, Sum.inl.injEq, Sum.inr.injEq, exists_eq_left', exists_eq_left, Int.reduceLE, Int.reduceLT, Int.reduceNeg, Int.reduceAdd, Int.reduceMul, Int.reduceSub, Int.reduceToNat, inR, Nat.zero_ne_one, false_and, Nat.succ_ne_zero, reduceCtorEq, false_implies, true_implies, not_false_eq_true, not_true_eq_false, Int.reduceEq, KRE, C_Model_chance, FM]
    repeat (first | refine ⟨by omega, ?_⟩ | refine ⟨fun _ _ => okt_nn (by omega), ?_⟩)
    try (first | (show _ ≤ _; omega) | (show _ < _; omega))
    exact F
  · rw [if_neg c1]
    try simp (maxSteps := 2000000) only [↓reduceIte, wp_eq, wpd_eq, kont_eq, STP1, STP2, STP3, STP4, STP5, konM_eq, AMK, CZ, Option.map, List.getElem?_cons_zero, List.getElem?_cons_succ, List.mem_cons, List.not_mem_nil, if_false, if_true, Nat.reduceAdd, Nat.reduceLT, Nat.reduceLeDiff, Nat.reduceEqDiff, true_and, and_true, List.length_nil, List.length_cons, or_true, true_or, or_false, false_or, Option.some.injEq, Sum.inl.injEq, Sum.inr.injEq, exists_eq_left', exists_eq_left, Int.reduceLE, Int.reduceLT, Int.reduceNeg, Int.reduceAdd, Int.reduceMul, Int.reduceSub, Int.reduceToNat, inR, Nat.zero_ne_one, false_and, Nat.succ_ne_zero, reduceCtorEq, false_implies, true_implies, not_false_eq_true, not_true_eq_false, Int.reduceEq, KRE, C_Model_chance, FM]
    repeat (first | refine ⟨by omega, ?_⟩ | refine ⟨fun _ _ => okt_nn (by omega), ?_⟩)
    try (first | (show _ ≤ _; omega) | (show _ < _; omega))
    exact F
set_option maxHeartbeats 600000 in
set_option maxRecDepth 20000 in
theorem Mchance_y {t seed m w : Int} (h : mdl M n T Y lap bnd mrg) (ht : 0 ≤ t ∧ t < n) (hm : inR m) (hw : 0 ≤ w ∧ w ≤ 2) (hx : m < 0 ∨ 40 < m) : CallI m_Model_chance [.inr 154, .inl t, .inl seed, .inl m, .inl w] M (fun _ M' => rsM M 2 M') := by
  have h0 : mdl (mset M 154 1 0) n T Y lap bnd mrg := mdl_fr h scr_0 scr_mdl
  have n8 := h.1.2
  have F := (Model_fail_ok (k := 2) (M := mset M 154 1 0)).eq (G := fun x M' => rsM M 2 M') (rsM_fail rsM_0)
  refine callP_of (by decide) (by decide) (Nat.le_of_ble_eq_true rfl) (wpm_of (cuts := [45]) (by decide) 60 _ _ _ _ ?_)
  rw [show lM m_Model_chance = 11 from rfl]
  simp (maxSteps := 2000000) only [↓reduceIte, wp_eq, wpd_eq, kont_eq, STP1, STP2, STP3, STP4, STP5, konM_eq, AMK, CZ, Option.map, List.getElem?_cons_zero, List.getElem?_cons_succ, List.mem_cons, List.not_mem_nil, if_false, if_true, Nat.reduceAdd, Nat.reduceLT, Nat.reduceLeDiff, Nat.reduceEqDiff, true_and, and_true, List.length_nil, List.length_cons, or_true, true_or, or_false, false_or, Option.some.injEq, Sum.inl.injEq, Sum.inr.injEq, exists_eq_left', exists_eq_left, Int.reduceLE, Int.reduceLT, Int.reduceNeg, Int.reduceAdd, Int.reduceMul, Int.reduceSub, Int.reduceToNat, inR, Nat.zero_ne_one, false_and, Nat.succ_ne_zero, reduceCtorEq, false_implies, true_implies, not_false_eq_true, not_true_eq_false, Int.reduceEq, KRE, C_Model_chance, FM]
  refine (Model_isTimber_ok h0 ⟨by omega, by omega⟩).eq ?_
  rw [if_pos ht]
  try simp (maxSteps := 2000000) only [↓reduceIte, wp_eq, wpd_eq, kont_eq, STP1, STP2, STP3, STP4, STP5, konM_eq, AMK, CZ, Option.map, List.getElem?_cons_zero, List.getElem?_cons_succ, List.mem_cons, List.not_mem_nil, if_false, if_true, Nat.reduceAdd, Nat.reduceLT, Nat.reduceLeDiff, Nat.reduceEqDiff, true_and, and_true, List.length_nil, List.length_cons, or_true, true_or, or_false, false_or, Option.some.injEq, Sum.inl.injEq, Sum.inr.injEq, exists_eq_left', exists_eq_left, Int.reduceLE, Int.reduceLT, Int.reduceNeg, Int.reduceAdd, Int.reduceMul, Int.reduceSub, Int.reduceToNat, inR, Nat.zero_ne_one, false_and, Nat.succ_ne_zero, reduceCtorEq, false_implies, true_implies, not_false_eq_true, not_true_eq_false, Int.reduceEq, KRE, C_Model_chance, FM]
  repeat (first | refine ⟨by omega, ?_⟩ | refine ⟨fun _ _ => okt_nn (by omega), ?_⟩)
  try (first | (show _ ≤ _; omega) | (show _ < _; omega))
  refine (Model_isIn_ok ⟨by omega, by omega⟩ ⟨by omega, by omega⟩ ⟨by omega, by omega⟩).eq ?_
  rw [if_pos (by omega)]
  try simp (maxSteps := 2000000) only [↓reduceIte, wp_eq, wpd_eq, kont_eq, STP1, STP2, STP3, STP4, STP5, konM_eq, AMK, CZ, Option.map, List.getElem?_cons_zero, List.getElem?_cons_succ, List.mem_cons, List.not_mem_nil, if_false, if_true, Nat.reduceAdd, Nat.reduceLT, Nat.reduceLeDiff, Nat.reduceEqDiff, true_and, and_true, List.length_nil, List.length_cons, or_true, true_or, or_false, false_or, Option.some.injEq, Sum.inl.injEq, Sum.inr.injEq, exists_eq_left', exists_eq_left, Int.reduceLE, Int.reduceLT, Int.reduceNeg, Int.reduceAdd, Int.reduceMul, Int.reduceSub, Int.reduceToNat, inR, Nat.zero_ne_one, false_and, Nat.succ_ne_zero, reduceCtorEq, false_implies, true_implies, not_false_eq_true, not_true_eq_false, Int.reduceEq, KRE, C_Model_chance, FM]
  repeat (first | refine ⟨by omega, ?_⟩ | refine ⟨fun _ _ => okt_nn (by omega), ?_⟩)
  try (first | (show _ ≤ _; omega) | (show _ < _; omega))
  refine (Model_isIn_ok hm ⟨by omega, by omega⟩ ⟨by omega, by omega⟩).eq ?_
  rw [if_neg (by omega)]
  try simp (maxSteps := 2000000) only [↓reduceIte, wp_eq, wpd_eq, kont_eq, STP1, STP2, STP3, STP4, STP5, konM_eq, AMK, CZ, Option.map, List.getElem?_cons_zero, List.getElem?_cons_succ, List.mem_cons, List.not_mem_nil, if_false, if_true, Nat.reduceAdd, Nat.reduceLT, Nat.reduceLeDiff, Nat.reduceEqDiff, true_and, and_true, List.length_nil, List.length_cons, or_true, true_or, or_false, false_or, Option.some.injEq, Sum.inl.injEq, Sum.inr.injEq, exists_eq_left', exists_eq_left, Int.reduceLE, Int.reduceLT, Int.reduceNeg, Int.reduceAdd, Int.reduceMul, Int.reduceSub, Int.reduceToNat, inR, Nat.zero_ne_one, false_and, Nat.succ_ne_zero, reduceCtorEq, false_implies, true_implies, not_false_eq_true, not_true_eq_false, Int.reduceEq, KRE, C_Model_chance, FM]
  repeat (first | refine ⟨by omega, ?_⟩ | refine ⟨fun _ _ => okt_nn (by omega), ?_⟩)
  try (first | (show _ ≤ _; omega) | (show _ < _; omega))
  exact F
/-- an image: rows copied -/
def mImg (M : Mm) : Mm := mCpR (mCpR (mCpR (mCpR (mCpR (mset (mset (mset M 154 69 1) 154 70 (M 154 58)) 154 71 (M 154 60)) 186 158 240) 187 181 9600) 188 182 8) 189 183 8) 190 160 3
def mRst (M : Mm) : Mm := mCpR (mCpR (mCpR (mCpR (mCpR (mset (mset M 154 58 (M 154 70)) 154 60 (M 154 71)) 158 186 240) 181 187 9600) 182 188 8) 183 189 8) 160 190 3
set_option maxHeartbeats 600000 in
set_option maxRecDepth 20000 in
theorem Mimage_ok : CallV m_Model_image [.inr 154] M (fun M' => M' = mImg (c0M M)) := by
  have e1 : mset (mset M 154 1 0) 154 69 1 154 58 = M 154 58 := by simp [mset]
  have e2 : ∀ v, mset (mset (mset M 154 1 0) 154 69 1) 154 70 v 154 60 = M 154 60 := fun v => by simp [mset]
  have e3 : c0M M 154 58 = M 154 58 := by simp [mset]
  have e4 : c0M M 154 60 = M 154 60 := by simp [mset]
  unfold mImg
  rw [e3, e4]
  refine callP_of (by decide) (by decide) (Nat.le_of_ble_eq_true rfl) (wpm_of (cuts := []) (by decide) 60 _ _ _ _ ?_)
  rw [show lM m_Model_image = 1 from rfl]
  simp (maxSteps := 2000000) only [↓reduceIte, wp_eq, wpd_eq, kont_eq, STP1, STP2, STP3, STP4, STP5, konM_eq, AMK, CZ, Option.map, List.getElem?_cons_zero, List.getElem?_cons_succ, List.mem_cons, List.not_mem_nil, if_false, if_true, Nat.reduceAdd, Nat.reduceLT, Nat.reduceLeDiff, Nat.reduceEqDiff, true_and, and_true, List.length_nil, List.length_cons, or_true, true_or, or_false, false_or, Option.some.injEq, Sum.inl.injEq, Sum.inr.injEq, exists_eq_left', exists_eq_left, Int.reduceLE, Int.reduceLT, Int.reduceNeg, Int.reduceAdd, Int.reduceMul, Int.reduceSub, Int.reduceToNat, inR, Nat.zero_ne_one, false_and, Nat.succ_ne_zero, reduceCtorEq, false_implies, true_implies, not_false_eq_true, not_true_eq_false, Int.reduceEq, KRE, C_Model_image, FM, e1, e2]
  refine (Model_copyTo_ok (a := 186) (f := 158) (n := 240) (by simp only [FM]) (by simp only [FM]) (by omega) (by omega)).eq ?_
  try simp (maxSteps := 2000000) only [↓reduceIte, wp_eq, wpd_eq, kont_eq, STP1, STP2, STP3, STP4, STP5, konM_eq, AMK, CZ, Option.map, List.getElem?_cons_zero, List.getElem?_cons_succ, List.mem_cons, List.not_mem_nil, if_false, if_true, Nat.reduceAdd, Nat.reduceLT, Nat.reduceLeDiff, Nat.reduceEqDiff, true_and, and_true, List.length_nil, List.length_cons, or_true, true_or, or_false, false_or, Option.some.injEq, Sum.inl.injEq, Sum.inr.injEq, exists_eq_left', exists_eq_left, Int.reduceLE, Int.reduceLT, Int.reduceNeg, Int.reduceAdd, Int.reduceMul, Int.reduceSub, Int.reduceToNat, inR, Nat.zero_ne_one, false_and, Nat.succ_ne_zero, reduceCtorEq, false_implies, true_implies, not_false_eq_true, not_true_eq_false, Int.reduceEq, KRE, C_Model_image, FM]
  refine (Model_copyTo_ok (a := 187) (f := 181) (n := 9600) (by simp only [FM]) (by simp only [FM]) (by omega) (by omega)).eq ?_
  try simp (maxSteps := 2000000) only [↓reduceIte, wp_eq, wpd_eq, kont_eq, STP1, STP2, STP3, STP4, STP5, konM_eq, AMK, CZ, Option.map, List.getElem?_cons_zero, List.getElem?_cons_succ, List.mem_cons, List.not_mem_nil, if_false, if_true, Nat.reduceAdd, Nat.reduceLT, Nat.reduceLeDiff, Nat.reduceEqDiff, true_and, and_true, List.length_nil, List.length_cons, or_true, true_or, or_false, false_or, Option.some.injEq, Sum.inl.injEq, Sum.inr.injEq, exists_eq_left', exists_eq_left, Int.reduceLE, Int.reduceLT, Int.reduceNeg, Int.reduceAdd, Int.reduceMul, Int.reduceSub, Int.reduceToNat, inR, Nat.zero_ne_one, false_and, Nat.succ_ne_zero, reduceCtorEq, false_implies, true_implies, not_false_eq_true, not_true_eq_false, Int.reduceEq, KRE, C_Model_image, FM]
  refine (Model_copyTo_ok (a := 188) (f := 182) (n := 8) (by simp only [FM]) (by simp only [FM]) (by omega) (by omega)).eq ?_
  try simp (maxSteps := 2000000) only [↓reduceIte, wp_eq, wpd_eq, kont_eq, STP1, STP2, STP3, STP4, STP5, konM_eq, AMK, CZ, Option.map, List.getElem?_cons_zero, List.getElem?_cons_succ, List.mem_cons, List.not_mem_nil, if_false, if_true, Nat.reduceAdd, Nat.reduceLT, Nat.reduceLeDiff, Nat.reduceEqDiff, true_and, and_true, List.length_nil, List.length_cons, or_true, true_or, or_false, false_or, Option.some.injEq, Sum.inl.injEq, Sum.inr.injEq, exists_eq_left', exists_eq_left, Int.reduceLE, Int.reduceLT, Int.reduceNeg, Int.reduceAdd, Int.reduceMul, Int.reduceSub, Int.reduceToNat, inR, Nat.zero_ne_one, false_and, Nat.succ_ne_zero, reduceCtorEq, false_implies, true_implies, not_false_eq_true, not_true_eq_false, Int.reduceEq, KRE, C_Model_image, FM]
  refine (Model_copyTo_ok (a := 189) (f := 183) (n := 8) (by simp only [FM]) (by simp only [FM]) (by omega) (by omega)).eq ?_
  try simp (maxSteps := 2000000) only [↓reduceIte, wp_eq, wpd_eq, kont_eq, STP1, STP2, STP3, STP4, STP5, konM_eq, AMK, CZ, Option.map, List.getElem?_cons_zero, List.getElem?_cons_succ, List.mem_cons, List.not_mem_nil, if_false, if_true, Nat.reduceAdd, Nat.reduceLT, Nat.reduceLeDiff, Nat.reduceEqDiff, true_and, and_true, List.length_nil, List.length_cons, or_true, true_or, or_false, false_or, Option.some.injEq, Sum.inl.injEq, Sum.inr.injEq, exists_eq_left', exists_eq_left, Int.reduceLE, Int.reduceLT, Int.reduceNeg, Int.reduceAdd, Int.reduceMul, Int.reduceSub, Int.reduceToNat, inR, Nat.zero_ne_one, false_and, Nat.succ_ne_zero, reduceCtorEq, false_implies, true_implies, not_false_eq_true, not_true_eq_false, Int.reduceEq, KRE, C_Model_image, FM]
  refine (Model_copyTo_ok (a := 190) (f := 160) (n := 3) (by simp only [FM]) (by simp only [FM]) (by omega) (by omega)).eq ?_
  try simp (maxSteps := 2000000) only [↓reduceIte, wp_eq, wpd_eq, kont_eq, STP1, STP2, STP3, STP4, STP5, konM_eq, AMK, CZ, Option.map, List.getElem?_cons_zero, List.getElem?_cons_succ, List.mem_cons, List.not_mem_nil, if_false, if_true, Nat.reduceAdd, Nat.reduceLT, Nat.reduceLeDiff, Nat.reduceEqDiff, true_and, and_true, List.length_nil, List.length_cons, or_true, true_or, or_false, false_or, Option.some.injEq, Sum.inl.injEq, Sum.inr.injEq, exists_eq_left', exists_eq_left, Int.reduceLE, Int.reduceLT, Int.reduceNeg, Int.reduceAdd, Int.reduceMul, Int.reduceSub, Int.reduceToNat, inR, Nat.zero_ne_one, false_and, Nat.succ_ne_zero, reduceCtorEq, false_implies, true_implies, not_false_eq_true, not_true_eq_false, Int.reduceEq, KRE, C_Model_image, FM]
set_option maxHeartbeats 600000 in
set_option maxRecDepth 20000 in
theorem Mrestore_no (h : M 154 69 = 0) : CallI m_Model_restore [.inr 154] M (fun x M' => x = 0 ∧ M' = c0M M) := by
  have e1 : mset M 154 1 0 154 69 = 0 := by rw [← h]; simp [mset]
  refine callP_of (by decide) (by decide) (Nat.le_of_ble_eq_true rfl) (wpm_of (cuts := []) (by decide) 60 _ _ _ _ ?_)
  rw [show lM m_Model_restore = 1 from rfl]
  simp (maxSteps := 2000000) only [↓reduceIte, wp_eq, wpd_eq, kont_eq, STP1, STP2, STP3, STP4, STP5, konM_eq, AMK, CZ, Option.map, List.getElem?_cons_zero, List.getElem?_cons_succ, List.mem_cons, List.not_mem_nil, if_false, if_true, Nat.reduceAdd, Nat.reduceLT, Nat.reduceLeDiff, Nat.reduceEqDiff, true_and, and_true, List.length_nil, List.length_cons, or_true, true_or, or_false, false_or, Option.some.injEq, Sum.inl.injEq, Sum.inr.injEq, exists_eq_left', exists_eq_left, Int.reduceLE, Int.reduceLT, Int.reduceNeg, Int.reduceAdd, Int.reduceMul, Int.reduceSub, Int.reduceToNat, inR, Nat.zero_ne_one, false_and, Nat.succ_ne_zero, reduceCtorEq, false_implies, true_implies, not_false_eq_true, not_true_eq_false, Int.reduceEq, KRE, C_Model_restore, FM, e1]
  repeat (first | refine ⟨by omega, ?_⟩ | refine ⟨fun _ _ => okt_nn (by omega), ?_⟩)
  try (first | (show _ ≤ _; omega) | (show _ < _; omega))
set_option maxHeartbeats 600000 in
set_option maxRecDepth 20000 in
theorem Mrestore_ok (h : M 154 69 = 1) : CallI m_Model_restore [.inr 154] M (fun x M' => x = 1 ∧ M' = mRst (c0M M)) := by
  have e0 : mset M 154 1 0 154 69 = 1 := by rw [← h]; simp [mset]
  have one0 := eq_false (show ¬ (1 : Int) = 0 by omega)
  have e1 : mset M 154 1 0 154 70 = M 154 70 := by simp [mset]
  have e2 : ∀ v, mset (mset M 154 1 0) 154 58 v 154 71 = M 154 71 := fun v => by simp [mset]
  have e3 : c0M M 154 70 = M 154 70 := by simp [mset]
  have e4 : c0M M 154 71 = M 154 71 := by simp [mset]
  unfold mRst
  rw [e3, e4]
  refine callP_of (by decide) (by decide) (Nat.le_of_ble_eq_true rfl) (wpm_of (cuts := []) (by decide) 60 _ _ _ _ ?_)
  rw [show lM m_Model_restore = 1 from rfl]
  simp (maxSteps := 2000000) only [↓reduceIte, wp_eq, wpd_eq, kont_eq, STP1, STP2, STP3, STP4, STP5, konM_eq, AMK, CZ, Option.map, List.getElem?_cons_zero, List.getElem?_cons_succ, List.mem_cons, List.not_mem_nil, if_false, if_true, Nat.reduceAdd, Nat.reduceLT, Nat.reduceLeDiff, Nat.reduceEqDiff, true_and, and_true, List.length_nil, List.length_cons, or_true, true_or, or_false, false_or, Option.some.injEq, Sum.inl.injEq, Sum.inr.injEq, exists_eq_left', exists_eq_left, Int.reduceLE, Int.reduceLT, Int.reduceNeg, Int.reduceAdd, Int.reduceMul, Int.reduceSub, Int.reduceToNat, inR, Nat.zero_ne_one, false_and, Nat.succ_ne_zero, reduceCtorEq, false_implies, true_implies, not_false_eq_true, not_true_eq_false, Int.reduceEq, KRE, C_Model_restore, FM, e0, one0, e1, e2]
  repeat (first | refine ⟨by omega, ?_⟩ | refine ⟨fun _ _ => okt_nn (by omega), ?_⟩)
  try (first | (show _ ≤ _; omega) | (show _ < _; omega))
  refine (Model_copyTo_ok (a := 158) (f := 186) (n := 240) (by simp only [FM]) (by simp only [FM]) (by omega) (by omega)).eq ?_
  try simp (maxSteps := 2000000) only [↓reduceIte, wp_eq, wpd_eq, kont_eq, STP1, STP2, STP3, STP4, STP5, konM_eq, AMK, CZ, Option.map, List.getElem?_cons_zero, List.getElem?_cons_succ, List.mem_cons, List.not_mem_nil, if_false, if_true, Nat.reduceAdd, Nat.reduceLT, Nat.reduceLeDiff, Nat.reduceEqDiff, true_and, and_true, List.length_nil, List.length_cons, or_true, true_or, or_false, false_or, Option.some.injEq, Sum.inl.injEq, Sum.inr.injEq, exists_eq_left', exists_eq_left, Int.reduceLE, Int.reduceLT, Int.reduceNeg, Int.reduceAdd, Int.reduceMul, Int.reduceSub, Int.reduceToNat, inR, Nat.zero_ne_one, false_and, Nat.succ_ne_zero, reduceCtorEq, false_implies, true_implies, not_false_eq_true, not_true_eq_false, Int.reduceEq, KRE, C_Model_restore, FM]
  refine (Model_copyTo_ok (a := 181) (f := 187) (n := 9600) (by simp only [FM]) (by simp only [FM]) (by omega) (by omega)).eq ?_
  try simp (maxSteps := 2000000) only [↓reduceIte, wp_eq, wpd_eq, kont_eq, STP1, STP2, STP3, STP4, STP5, konM_eq, AMK, CZ, Option.map, List.getElem?_cons_zero, List.getElem?_cons_succ, List.mem_cons, List.not_mem_nil, if_false, if_true, Nat.reduceAdd, Nat.reduceLT, Nat.reduceLeDiff, Nat.reduceEqDiff, true_and, and_true, List.length_nil, List.length_cons, or_true, true_or, or_false, false_or, Option.some.injEq, Sum.inl.injEq, Sum.inr.injEq, exists_eq_left', exists_eq_left, Int.reduceLE, Int.reduceLT, Int.reduceNeg, Int.reduceAdd, Int.reduceMul, Int.reduceSub, Int.reduceToNat, inR, Nat.zero_ne_one, false_and, Nat.succ_ne_zero, reduceCtorEq, false_implies, true_implies, not_false_eq_true, not_true_eq_false, Int.reduceEq, KRE, C_Model_restore, FM]
  refine (Model_copyTo_ok (a := 182) (f := 188) (n := 8) (by simp only [FM]) (by simp only [FM]) (by omega) (by omega)).eq ?_
  try simp (maxSteps := 2000000) only [↓reduceIte, wp_eq, wpd_eq, kont_eq, STP1, STP2, STP3, STP4, STP5, konM_eq, AMK, CZ, Option.map, List.getElem?_cons_zero, List.getElem?_cons_succ, List.mem_cons, List.not_mem_nil, if_false, if_true, Nat.reduceAdd, Nat.reduceLT, Nat.reduceLeDiff, Nat.reduceEqDiff, true_and, and_true, List.length_nil, List.length_cons, or_true, true_or, or_false, false_or, Option.some.injEq, Sum.inl.injEq, Sum.inr.injEq, exists_eq_left', exists_eq_left, Int.reduceLE, Int.reduceLT, Int.reduceNeg, Int.reduceAdd, Int.reduceMul, Int.reduceSub, Int.reduceToNat, inR, Nat.zero_ne_one, false_and, Nat.succ_ne_zero, reduceCtorEq, false_implies, true_implies, not_false_eq_true, not_true_eq_false, Int.reduceEq, KRE, C_Model_restore, FM]
  refine (Model_copyTo_ok (a := 183) (f := 189) (n := 8) (by simp only [FM]) (by simp only [FM]) (by omega) (by omega)).eq ?_
  try simp (maxSteps := 2000000) only [↓reduceIte, wp_eq, wpd_eq, kont_eq, STP1, STP2, STP3, STP4, STP5, konM_eq, AMK, CZ, Option.map, List.getElem?_cons_zero, List.getElem?_cons_succ, List.mem_cons, List.not_mem_nil, if_false, if_true, Nat.reduceAdd, Nat.reduceLT, Nat.reduceLeDiff, Nat.reduceEqDiff, true_and, and_true, List.length_nil, List.length_cons, or_true, true_or, or_false, false_or, Option.some.injEq, Sum.inl.injEq, Sum.inr.injEq, exists_eq_left', exists_eq_left, Int.reduceLE, Int.reduceLT, Int.reduceNeg, Int.reduceAdd, Int.reduceMul, Int.reduceSub, Int.reduceToNat, inR, Nat.zero_ne_one, false_and, Nat.succ_ne_zero, reduceCtorEq, false_implies, true_implies, not_false_eq_true, not_true_eq_false, Int.reduceEq, KRE, C_Model_restore, FM]
  refine (Model_copyTo_ok (a := 160) (f := 190) (n := 3) (by simp only [FM]) (by simp only [FM]) (by omega) (by omega)).eq ?_
  try simp (maxSteps := 2000000) only [↓reduceIte, wp_eq, wpd_eq, kont_eq, STP1, STP2, STP3, STP4, STP5, konM_eq, AMK, CZ, Option.map, List.getElem?_cons_zero, List.getElem?_cons_succ, List.mem_cons, List.not_mem_nil, if_false, if_true, Nat.reduceAdd, Nat.reduceLT, Nat.reduceLeDiff, Nat.reduceEqDiff, true_and, and_true, List.length_nil, List.length_cons, or_true, true_or, or_false, false_or, Option.some.injEq, Sum.inl.injEq, Sum.inr.injEq, exists_eq_left', exists_eq_left, Int.reduceLE, Int.reduceLT, Int.reduceNeg, Int.reduceAdd, Int.reduceMul, Int.reduceSub, Int.reduceToNat, inR, Nat.zero_ne_one, false_and, Nat.succ_ne_zero, reduceCtorEq, false_implies, true_implies, not_false_eq_true, not_true_eq_false, Int.reduceEq, KRE, C_Model_restore, FM]
/-- bytes of a word: the sign bit is not among them -/
theorem btI_ushr {k : Nat} (hk : k < 32) (x : Int) (i : Nat) : btI (bUshr x k) i = btI x (k + i) := by
  unfold btI bUshr
  rw [iN_ti, iN_nat]
  exact b_ushr k hk (iN x) i
theorem bUshr_in (x y : Int) : inR (bUshr x y) := by
  unfold bUshr
  have h1 := Int32.le_toInt ((((iN x).toUInt32 >>> ((iN y).toUInt32 &&& Int32.toUInt32 31)).toInt32))
  have h2 := Int32.toInt_lt ((((iN x).toUInt32 >>> ((iN y).toUInt32 &&& Int32.toUInt32 31)).toInt32))
  exact ⟨by omega, by omega⟩
theorem btI_255 (i : Nat) : btI 255 i = decide (i < 8) := b_255 i
theorem shr_byte (x : Int) {k : Nat} (hk : k ≤ 24) : bAnd (bShr x k) 255 = bAnd (bUshr x k) 255 := by
  refine btI_ext (bAnd_in _ _) (bAnd_in _ _) (fun i hi => ?_)
  rw [btI_and, btI_and, btI_255, btI_shr (by omega) _ hi, btI_ushr (by omega)]
  by_cases c : i < 8
  · rw [if_pos (by omega)]
  · simp [c]
def mFeedM (M : Mm) (L : Nat) (f : Nat → Int) (k : Nat) : Mm := fun b j => if b = 161 ∧ L ≤ j ∧ j < L + k then f (j - L) else if b = 154 ∧ j = 8 then (L + k : Nat) else M b j
theorem mFeedM_s {L k : Nat} {f : Nat → Int} : mset (mset (mFeedM M L f k) 161 (L + k) (f k)) 154 8 ((L : Int) + k + 1) = mFeedM M L f (k + 1) := by
  funext b j
  show (if b = 154 ∧ j = 8 then (L : Int) + k + 1 else if b = 161 ∧ j = L + k then f k else if b = 161 ∧ L ≤ j ∧ j < L + k then f (j - L) else if b = 154 ∧ j = 8 then ((L + k : Nat) : Int) else M b j) = (if b = 161 ∧ L ≤ j ∧ j < L + (k + 1) then f (j - L) else if b = 154 ∧ j = 8 then ((L + (k + 1) : Nat) : Int) else M b j)
  by_cases h0 : b = 154 ∧ j = 8
  · rw [if_pos h0, if_neg (by omega), if_pos h0]
    omega
  · rw [if_neg h0, if_neg h0, if_neg h0]
    by_cases h1 : b = 161 ∧ j = L + k
    · rw [if_pos h1, if_pos (by omega)]
      congr 1
      omega
    · rw [if_neg h1]
      exact if_cg (by omega) rfl rfl
set_option maxHeartbeats 600000 in
set_option maxRecDepth 20000 in
theorem Mfeed_ok {L : Nat} {a b c d e : Int} (hL : M 154 8 = L) (h : L + 20 ≤ 900) : CallI m_Model_feed [.inr 154, .inl a, .inl b, .inl c, .inl d, .inl e] M (fun x M' => x = (L + 20 : Nat) ∧ M' = mFeedM (c0M M) L (b20 a b c d e) 20) := by
  have e8 : mset M 154 1 0 154 8 = L := by rw [← hL]; simp [mset]
  have c0 := eq_true (show (L : Int) + 20 ≤ 900 by omega)
  refine callP_of (by decide) (by decide) (Nat.le_of_ble_eq_true rfl) (wpm_of (cuts := [23]) (by decide) 60 _ _ _ _ ?_)
  rw [show lM m_Model_feed = 8 from rfl]
  simp (maxSteps := 2000000) only [↓reduceIte, wp_eq, wpd_eq, kont_eq, STP1, STP2, STP3, STP4, STP5, konM_eq, AMK, CZ, Option.map, List.getElem?_cons_zero, List.getElem?_cons_succ, List.mem_cons, List.not_mem_nil, if_false, if_true, Nat.reduceAdd, Nat.reduceLT, Nat.reduceLeDiff, Nat.reduceEqDiff, true_and, and_true, List.length_nil, List.length_cons, or_true, true_or, or_false, false_or, Option.some.injEq, Sum.inl.injEq, Sum.inr.injEq, exists_eq_left', exists_eq_left, Int.reduceLE, Int.reduceLT, Int.reduceNeg, Int.reduceAdd, Int.reduceMul, Int.reduceSub, Int.reduceToNat, inR, Nat.zero_ne_one, false_and, Nat.succ_ne_zero, reduceCtorEq, false_implies, true_implies, not_false_eq_true, not_true_eq_false, Int.reduceEq, KRE, C_Model_feed, FM, e8, c0]
  repeat (first | refine ⟨by omega, ?_⟩ | refine ⟨fun _ _ => okt_nn (by omega), ?_⟩)
  try (first | (show _ ≤ _; omega) | (show _ < _; omega))
  refine loopQ 20 (fun k ls M1 => M1 = mFeedM (c0M M) L (b20 a b c d e) k ∧ ∃ a7, ls = [some (.inr 154), some (.inl a), some (.inl b), some (.inl c), some (.inl d), some (.inl e), some (.inl (k : Int)), a7]) ?_ _ _ ⟨?_, none, rfl⟩
  · rintro k _ _ hk ⟨rfl, a7, rfl⟩ K
    have e81 : mFeedM (c0M M) L (b20 a b c d e) k 154 8 = (L : Int) + k := by
      show (if 154 = 161 ∧ L ≤ 8 ∧ 8 < L + k then _ else if 154 = 154 ∧ 8 = 8 then ((L + k : Nat) : Int) else _) = _
      rw [if_neg (by omega), if_pos ⟨rfl, rfl⟩]
      omega
    by_cases ck : k = 20
    · subst ck
      have c' := eq_true (show (20 : Int) ≤ (20 : Nat) by omega)
      refine wpm_of (cuts := [23]) (by decide) 60 _ _ _ _ ?_
      simp (maxSteps := 2000000) only [↓reduceIte, wp_eq, wpd_eq, kont_eq, STP1, STP2, STP3, STP4, STP5, konM_eq, AMK, CZ, Option.map, List.getElem?_cons_zero, List.getElem?_cons_succ, List.mem_cons, List.not_mem_nil, if_false, if_true, Nat.reduceAdd, Nat.reduceLT, Nat.reduceLeDiff, Nat.reduceEqDiff, true_and, and_true, List.length_nil, List.length_cons, or_true, true_or, or_false, false_or, Option.some.injEq, Sum.inl.injEq, Sum.inr.injEq, exists_eq_left', exists_eq_left, Int.reduceLE, Int.reduceLT, Int.reduceNeg, Int.reduceAdd, Int.reduceMul, Int.reduceSub, Int.reduceToNat, inR, Nat.zero_ne_one, false_and, Nat.succ_ne_zero, reduceCtorEq, false_implies, true_implies, not_false_eq_true, not_true_eq_false, Int.reduceEq, KRE, C_Model_feed, FM, e81, c']
      repeat (first | refine ⟨by omega, ?_⟩ | refine ⟨fun _ _ => okt_nn (by omega), ?_⟩)
      try (first | (show _ ≤ _; omega) | (show _ < _; omega))
      all_goals (try omega)
    · have hlt : k < 20 := by omega
      have c' := eq_false (show ¬ (20 : Int) ≤ k by omega)
      have K' := fun a7 => K hlt _ _ ⟨rfl, a7, rfl⟩
      have ix : ((L : Int) + (k : Int)).toNat = L + k := by omega
      have er : (24 : Int) - 8 * (k : Int).tmod 4 = ((24 - 8 * (k % 4) : Nat) : Int) := by
        rw [Int.tmod_eq_emod_of_nonneg (by omega)]
        omega
      have e82 : ∀ v, mset (mFeedM (c0M M) L (b20 a b c d e) k) 161 (L + k) v 154 8 = (L : Int) + k := fun v => by rw [← e81]; simp [mset]
      have KK : ∀ wv : Int, wv = (if k < 4 then a else if k < 8 then b else if k < 12 then c else if k < 16 then d else e) → WPm m_Model_feed (fun v M' => ∃ x, v = some (.inl x) ∧ x = (L + 20 : Nat) ∧ M' = mFeedM (c0M M) L (b20 a b c d e) 20) 76 [some (.inr 154), some (.inl a), some (.inl b), some (.inl c), some (.inl d), some (.inl e), some (.inl (k : Int)), a7] [.inl wv] (mFeedM (c0M M) L (b20 a b c d e) k) := by
        intro wv hwv
        have eb : bAnd (bShr wv ((24 - 8 * (k % 4) : Nat) : Int)) 255 = b20 a b c d e k := by
          rw [shr_byte _ (by omega), hwv]
          unfold b20 b4N
          rw [show ((24 - 8 * (k % 4) : Nat) : Int) = 24 - 8 * ((k % 4 : Nat) : Int) by omega]
        refine wpm_of (cuts := [23]) (by decide) 60 _ _ _ _ ?_
        simp (maxSteps := 2000000) only [↓reduceIte, wp_eq, wpd_eq, kont_eq, STP1, STP2, STP3, STP4, STP5, konM_eq, AMK, CZ, Option.map, List.getElem?_cons_zero, List.getElem?_cons_succ, List.mem_cons, List.not_mem_nil, if_false, if_true, Nat.reduceAdd, Nat.reduceLT, Nat.reduceLeDiff, Nat.reduceEqDiff, true_and, and_true, List.length_nil, List.length_cons, or_true, true_or, or_false, false_or, Option.some.injEq, Sum.inl.injEq, Sum.inr.injEq, exists_eq_left', exists_eq_left, Int.reduceLE, Int.reduceLT, Int.reduceNeg, Int.reduceAdd, Int.reduceMul, Int.reduceSub, Int.reduceToNat, inR, Nat.zero_ne_one, false_and, Nat.succ_ne_zero, reduceCtorEq, false_implies, true_implies, not_false_eq_true, not_true_eq_false, Int.reduceEq, KRE, C_Model_feed, FM, e81, er, ix, eb, e82]
        repeat (first | refine ⟨by omega, ?_⟩ | refine ⟨fun _ _ => okt_nn (by omega), ?_⟩)
        try (first | (show _ ≤ _; omega) | (show _ < _; omega))
        rw [mFeedM_s]
        exact K' _
      by_cases k1 : k < 4
      · have q1 := eq_false (show ¬ (4 : Int) ≤ k by omega)
        have G := KK a (by rw [if_pos k1])
        refine wpm_of (cuts := [23, 76]) (by decide) 60 _ _ _ _ ?_
        simp (maxSteps := 2000000) only [↓reduceIte, wp_eq, wpd_eq, kont_eq, STP1, STP2, STP3, STP4, STP5, konM_eq, AMK, CZ, Option.map, List.getElem?_cons_zero, List.getElem?_cons_succ, List.mem_cons, List.not_mem_nil, if_false, if_true, Nat.reduceAdd, Nat.reduceLT, Nat.reduceLeDiff, Nat.reduceEqDiff, true_and, and_true, List.length_nil, List.length_cons, or_true, true_or, or_false, false_or, Option.some.injEq, Sum.inl.injEq, Sum.inr.injEq, exists_eq_left', exists_eq_left, Int.reduceLE, Int.reduceLT, Int.reduceNeg, Int.reduceAdd, Int.reduceMul, Int.reduceSub, Int.reduceToNat, inR, Nat.zero_ne_one, false_and, Nat.succ_ne_zero, reduceCtorEq, false_implies, true_implies, not_false_eq_true, not_true_eq_false, Int.reduceEq, KRE, C_Model_feed, FM, c', q1]
        repeat (first | refine ⟨by omega, ?_⟩ | refine ⟨fun _ _ => okt_nn (by omega), ?_⟩)
        try (first | (show _ ≤ _; omega) | (show _ < _; omega))
        exact G
      · have q1 := eq_true (show (4 : Int) ≤ k by omega)
        by_cases k2 : k < 8
        · have q2 := eq_false (show ¬ (8 : Int) ≤ k by omega)
          have G := KK b (by rw [if_neg k1, if_pos k2])
          refine wpm_of (cuts := [23, 76]) (by decide) 60 _ _ _ _ ?_
          simp (maxSteps := 2000000) only [↓reduceIte, wp_eq, wpd_eq, kont_eq, STP1, STP2, STP3, STP4, STP5, konM_eq, AMK, CZ, Option.map, List.getElem?_cons_zero, List.getElem?_cons_succ, List.mem_cons, List.not_mem_nil, if_false, if_true, Nat.reduceAdd, Nat.reduceLT, Nat.reduceLeDiff, Nat.reduceEqDiff, true_and, and_true, List.length_nil, List.length_cons, or_true, true_or, or_false, false_or, Option.some.injEq, Sum.inl.injEq, Sum.inr.injEq, exists_eq_left', exists_eq_left, Int.reduceLE, Int.reduceLT, Int.reduceNeg, Int.reduceAdd, Int.reduceMul, Int.reduceSub, Int.reduceToNat, inR, Nat.zero_ne_one, false_and, Nat.succ_ne_zero, reduceCtorEq, false_implies, true_implies, not_false_eq_true, not_true_eq_false, Int.reduceEq, KRE, C_Model_feed, FM, c', q1, q2]
          repeat (first | refine ⟨by omega, ?_⟩ | refine ⟨fun _ _ => okt_nn (by omega), ?_⟩)
          try (first | (show _ ≤ _; omega) | (show _ < _; omega))
          exact G
        · have q2 := eq_true (show (8 : Int) ≤ k by omega)
          by_cases k3 : k < 12
          · have q3 := eq_false (show ¬ (12 : Int) ≤ k by omega)
            have G := KK c (by rw [if_neg k1, if_neg k2, if_pos k3])
            refine wpm_of (cuts := [23, 76]) (by decide) 60 _ _ _ _ ?_
            simp (maxSteps := 2000000) only [↓reduceIte, wp_eq, wpd_eq, kont_eq, STP1, STP2, STP3, STP4, STP5, konM_eq, AMK, CZ, Option.map, List.getElem?_cons_zero, List.getElem?_cons_succ, List.mem_cons, List.not_mem_nil, if_false, if_true, Nat.reduceAdd, Nat.reduceLT, Nat.reduceLeDiff, Nat.reduceEqDiff, true_and, and_true, List.length_nil, List.length_cons, or_true, true_or, or_false, false_or, Option.some.injEq, Sum.inl.injEq, Sum.inr.injEq, exists_eq_left', exists_eq_left, Int.reduceLE, Int.reduceLT, Int.reduceNeg, Int.reduceAdd, Int.reduceMul, Int.reduceSub, Int.reduceToNat, inR, Nat.zero_ne_one, false_and, Nat.succ_ne_zero, reduceCtorEq, false_implies, true_implies, not_false_eq_true, not_true_eq_false, Int.reduceEq, KRE, C_Model_feed, FM, c', q1, q2, q3]
            repeat (first | refine ⟨by omega, ?_⟩ | refine ⟨fun _ _ => okt_nn (by omega), ?_⟩)
            try (first | (show _ ≤ _; omega) | (show _ < _; omega))
            exact G
          · have q3 := eq_true (show (12 : Int) ≤ k by omega)
            by_cases k4 : k < 16
            · have q4 := eq_false (show ¬ (16 : Int) ≤ k by omega)
              have G := KK d (by rw [if_neg k1, if_neg k2, if_neg k3, if_pos k4])
              refine wpm_of (cuts := [23, 76]) (by decide) 60 _ _ _ _ ?_
              simp (maxSteps := 2000000) only [↓reduceIte, wp_eq, wpd_eq, kont_eq, STP1, STP2, STP3, STP4, STP5, konM_eq, AMK, CZ, Option.map, List.getElem?_cons_zero, List.getElem?_cons_succ, List.mem_cons, List.not_mem_nil, if_false, if_true, Nat.reduceAdd, Nat.reduceLT, Nat.reduceLeDiff, Nat.reduceEqDiff, true_and, and_true, List.length_nil, List.length_cons, or_true, true_or, or_false, false_or, Option.some.injEq, Sum.inl.injEq, Sum.inr.injEq, exists_eq_left', exists_eq_left, Int.reduceLE, Int.reduceLT, Int.reduceNeg, Int.reduceAdd, Int.reduceMul, Int.reduceSub, Int.reduceToNat, inR, Nat.zero_ne_one, false_and, Nat.succ_ne_zero, reduceCtorEq, false_implies, true_implies, not_false_eq_true, not_true_eq_false, Int.reduceEq, KRE, C_Model_feed, FM, c', q1, q2, q3, q4]
              repeat (first | refine ⟨by omega, ?_⟩ | refine ⟨fun _ _ => okt_nn (by omega), ?_⟩)
              try (first | (show _ ≤ _; omega) | (show _ < _; omega))
              exact G
            · have q4 := eq_true (show (16 : Int) ≤ k by omega)
              have G := KK e (by rw [if_neg k1, if_neg k2, if_neg k3, if_neg k4])
              refine wpm_of (cuts := [23, 76]) (by decide) 60 _ _ _ _ ?_
              simp (maxSteps := 2000000) only [↓reduceIte, wp_eq, wpd_eq, kont_eq, STP1, STP2, STP3, STP4, STP5, konM_eq, AMK, CZ, Option.map, List.getElem?_cons_zero, List.getElem?_cons_succ, List.mem_cons, List.not_mem_nil, if_false, if_true, Nat.reduceAdd, Nat.reduceLT, Nat.reduceLeDiff, Nat.reduceEqDiff, true_and, and_true, List.length_nil, List.length_cons, or_true, true_or, or_false, false_or, Option.some.injEq, Sum.inl.injEq, Sum.inr.injEq, exists_eq_left', exists_eq_left, Int.reduceLE, Int.reduceLT, Int.reduceNeg, Int.reduceAdd, Int.reduceMul, Int.reduceSub, Int.reduceToNat, inR, Nat.zero_ne_one, false_and, Nat.succ_ne_zero, reduceCtorEq, false_implies, true_implies, not_false_eq_true, not_true_eq_false, Int.reduceEq, KRE, C_Model_feed, FM, c', q1, q2, q3, q4]
              repeat (first | refine ⟨by omega, ?_⟩ | refine ⟨fun _ _ => okt_nn (by omega), ?_⟩)
              try (first | (show _ ≤ _; omega) | (show _ < _; omega))
              exact G
  · funext q j
    show c0M M q j = if q = 161 ∧ L ≤ j ∧ j < L + 0 then _ else if q = 154 ∧ j = 8 then ((L + 0 : Nat) : Int) else c0M M q j
    rw [if_neg (by omega)]
    by_cases h1 : q = 154 ∧ j = 8
    · rw [if_pos h1, h1.1, h1.2]
      exact e8
    · rw [if_neg h1]
set_option maxHeartbeats 600000 in
set_option maxRecDepth 20000 in
theorem Mfeed_no {L : Nat} {a b c d e : Int} (hL : M 154 8 = L) (h : ¬ L + 20 ≤ 900) (h9 : L ≤ 900) : CallI m_Model_feed [.inr 154, .inl a, .inl b, .inl c, .inl d, .inl e] M (fun x M' => x = -1 ∧ M' = c0M M) := by
  have e8 : mset M 154 1 0 154 8 = L := by rw [← hL]; simp [mset]
  have c0 := eq_false (show ¬ (L : Int) + 20 ≤ 900 by omega)
  refine callP_of (by decide) (by decide) (Nat.le_of_ble_eq_true rfl) (wpm_of (cuts := [23]) (by decide) 60 _ _ _ _ ?_)
  rw [show lM m_Model_feed = 8 from rfl]
  simp (maxSteps := 2000000) only [↓reduceIte, wp_eq, wpd_eq, kont_eq, STP1, STP2, STP3, STP4, STP5, konM_eq, AMK, CZ, Option.map, List.getElem?_cons_zero, List.getElem?_cons_succ, List.mem_cons, List.not_mem_nil, if_false, if_true, Nat.reduceAdd, Nat.reduceLT, Nat.reduceLeDiff, Nat.reduceEqDiff, true_and, and_true, List.length_nil, List.length_cons, or_true, true_or, or_false, false_or, Option.some.injEq, Sum.inl.injEq, Sum.inr.injEq, exists_eq_left', exists_eq_left, Int.reduceLE, Int.reduceLT, Int.reduceNeg, Int.reduceAdd, Int.reduceMul, Int.reduceSub, Int.reduceToNat, inR, Nat.zero_ne_one, false_and, Nat.succ_ne_zero, reduceCtorEq, false_implies, true_implies, not_false_eq_true, not_true_eq_false, Int.reduceEq, KRE, C_Model_feed, FM, e8, c0]
  repeat (first | refine ⟨by omega, ?_⟩ | refine ⟨fun _ _ => okt_nn (by omega), ?_⟩)
  try (first | (show _ ≤ _; omega) | (show _ < _; omega))
end MODI

