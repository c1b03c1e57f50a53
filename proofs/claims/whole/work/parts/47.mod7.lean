/-! THE REFERENCE, 7: growing. -/
set_option maxHeartbeats 600000 in
set_option maxRecDepth 20000 in
theorem Model_copyTo_ok {a f n : Nat} {M : Mm} (la : lay a = .inl (0, n)) (lf : lay f = .inl (0, n)) (hn : n ≤ 10000) (hne : a ≠ f) : CallV m_Model_copyTo [.inr a, .inr f] M (fun M' => M' = mCpR M a f n) := by
  refine callP_of (by decide) (by decide) (Nat.le_of_ble_eq_true rfl) (wpm_of (cuts := [2]) (by decide) 50 _ _ _ _ ?_)
  rw [show lM m_Model_copyTo = 3 from rfl]
  simp (maxSteps := 2000000) only [↓reduceIte, wp_eq, wpd_eq, kont_eq, STP1, STP2, STP3, STP4, STP5, konM_eq, AMK, CZ, Option.map, List.getElem?_cons_zero, List.getElem?_cons_succ, List.mem_cons, List.not_mem_nil, if_false, if_true, Nat.reduceAdd, Nat.reduceLT, Nat.reduceLeDiff, Nat.reduceEqDiff, true_and, and_true, List.length_nil, List.length_cons, or_true, true_or, or_false, false_or, Option.some.injEq, Sum.inl.injEq, Sum.inr.injEq, exists_eq_left', exists_eq_left, Int.reduceLE, Int.reduceLT, Int.reduceNeg, Int.reduceAdd, Int.reduceMul, Int.reduceSub, Int.reduceToNat, inR, Nat.zero_ne_one, false_and, Nat.succ_ne_zero, reduceCtorEq, false_implies, true_implies, not_false_eq_true, not_true_eq_false, Int.reduceEq, KRE, C_Model_copyTo, la, lf, FM]
  refine loopQ n (fun k ls M1 => M1 = mCpR M a f k ∧ ls = [some (.inr a), some (.inr f), some (.inl (k : Int))]) ?_ _ _ ⟨by funext b j; simp [mCpR], rfl⟩
  rintro k _ _ hk ⟨rfl, rfl⟩ K
  by_cases c : k = n
  · subst c
    have c' := eq_true (show (k : Int) ≤ k by omega)
    refine wpm_of (cuts := [2]) (by decide) 50 _ _ _ _ ?_
    simp (maxSteps := 2000000) only [↓reduceIte, wp_eq, wpd_eq, kont_eq, STP1, STP2, STP3, STP4, STP5, konM_eq, AMK, CZ, Option.map, List.getElem?_cons_zero, List.getElem?_cons_succ, List.mem_cons, List.not_mem_nil, if_false, if_true, Nat.reduceAdd, Nat.reduceLT, Nat.reduceLeDiff, Nat.reduceEqDiff, true_and, and_true, List.length_nil, List.length_cons, or_true, true_or, or_false, false_or, Option.some.injEq, Sum.inl.injEq, Sum.inr.injEq, exists_eq_left', exists_eq_left, Int.reduceLE, Int.reduceLT, Int.reduceNeg, Int.reduceAdd, Int.reduceMul, Int.reduceSub, Int.reduceToNat, inR, Nat.zero_ne_one, false_and, Nat.succ_ne_zero, reduceCtorEq, false_implies, true_implies, not_false_eq_true, not_true_eq_false, Int.reduceEq, KRE, C_Model_copyTo, la, lf, c', FM]
    repeat (first | refine ⟨by omega, ?_⟩ | refine ⟨fun _ _ => okt_nn (by omega), ?_⟩)
    try (first | (show _ ≤ _; omega) | (show _ < _; omega))
  · have hlt : k < n := by omega
    have c' := eq_false (show ¬ (n : Int) ≤ k by omega)
    have e : mCpR M a f k f k = M f k := by simp [mCpR, Ne.symm hne]
    have K' := K hlt _ _ ⟨rfl, rfl⟩
    refine wpm_of (cuts := [2]) (by decide) 50 _ _ _ _ ?_
    simp (maxSteps := 2000000) only [↓reduceIte, wp_eq, wpd_eq, kont_eq, STP1, STP2, STP3, STP4, STP5, konM_eq, AMK, CZ, Option.map, List.getElem?_cons_zero, List.getElem?_cons_succ, List.mem_cons, List.not_mem_nil, if_false, if_true, Nat.reduceAdd, Nat.reduceLT, Nat.reduceLeDiff, Nat.reduceEqDiff, true_and, and_true, List.length_nil, List.length_cons, or_true, true_or, or_false, false_or, Option.some.injEq, Sum.inl.injEq, Sum.inr.injEq, exists_eq_left', exists_eq_left, Int.reduceLE, Int.reduceLT, Int.reduceNeg, Int.reduceAdd, Int.reduceMul, Int.reduceSub, Int.reduceToNat, inR, Nat.zero_ne_one, false_and, Nat.succ_ne_zero, reduceCtorEq, false_implies, true_implies, not_false_eq_true, not_true_eq_false, Int.reduceEq, KRE, C_Model_copyTo, la, lf, c', natT, e, FM]
    repeat (first | refine ⟨by omega, ?_⟩ | refine ⟨fun _ _ => okt_nn (by omega), ?_⟩)
    try (first | (show _ ≤ _; omega) | (show _ < _; omega))
    refine WPm.eqM K' ?_
    funext b j
    simp only [mset, mCpR]
    by_cases hj : j = k
    · subst hj
      grind
    · grind
/-- the row with the years F of the first n -/
def mYM (M : Mm) (F : Nat → Int) (n : Nat) : Mm := fun b j => if b = 158 ∧ j % 30 = 4 ∧ j / 30 < n then F (j / 30) else M b j
theorem mRw_eq {f g : Nat → Int} {t : Nat} (h : ∀ k, k < 30 → k ≠ 4 → f (30 * t + k) = g (30 * t + k)) (hl : g (30 * t) ≤ 24) : mRw f t = mRw g t := by
  have e0 := h 0 (by omega) (by omega)
  have e5 := h 5 (by omega) (by omega)
  simp only [Nat.add_zero] at e0
  unfold mRw
  rw [e0, e5]
  refine Prod.ext (funext fun j => ?_) rfl
  show (if (j : Int) < g (30 * t) then f (30 * t + 6 + j) else 0) = if (j : Int) < g (30 * t) then g (30 * t + 6 + j) else 0
  split
  · have := h (6 + j) (by omega) (by omega)
    rw [← Nat.add_assoc] at this
    exact this
  · rfl
theorem wfM_eq {f g : Nat → Int} {t : Nat} (h : ∀ k, k < 30 → k ≠ 4 → f (30 * t + k) = g (30 * t + k)) (hw : wfM g t) : wfM f t := by
  have e0 := h 0 (by omega) (by omega)
  simp only [Nat.add_zero] at e0
  unfold wfM at *
  rw [e0, h 1 (by omega) (by omega), h 2 (by omega) (by omega), h 3 (by omega) (by omega), h 5 (by omega) (by omega)]
  exact hw
theorem mdl_yr {n : Nat} {T : Nat → Rw} {Y F : Nat → Int} {lap bnd mrg : Int} {M M1 : Mm} (h : mdl M n T Y lap bnd mrg) (e6 : ∀ j, M1 156 j = M 156 j) (e8 : ∀ t, t < n → ∀ k, k < 30 → k ≠ 4 → M1 158 (30 * t + k) = M 158 (30 * t + k)) (e4 : ∀ t, t < n → M1 158 (30 * t + 4) = F t) (hc : okC T F n) : mdl M1 n T F lap bnd mrg := by
  obtain ⟨h1, h2, h3, h4⟩ := id h
  refine ⟨by rw [e6]; exact h1, fun t ht => ?_, setM_cells e6 h3, hc⟩
  have g := mdl_t h ht
  have gl := g.2.2.2.1.1
  obtain ⟨p1, p2, p3⟩ := h2 t ht
  exact ⟨(mRw_eq (e8 t ht) (by omega)).trans p1, e4 t ht, wfM_eq (e8 t ht) p3⟩
def growP : Nat → Nat → Prop := fun b j => b = 154 ∧ (26 ≤ j ∧ j ≤ 41 ∨ j = 55) ∨ 162 ≤ b ∧ b ≤ 168 ∨ 177 ≤ b ∧ b ≤ 179
/-- what has grown: c of them -/
def grownM (M : Mm) (T : Nat → Rw) (lap b mrg : Int) (n : Nat) (Y : Nat → Int) (c : Nat) : Prop := M 154 55 = c ∧ ∀ i, i < c → M 177 i = (gwP T lap b mrg n Y i).1 ∧ M 178 i = (gwP T lap b mrg n Y i).2.1 ∧ M 179 i = (gwP T lap b mrg n Y i).2.2
theorem Model_isIn_ok {v a b : Int} {M : Mm} (hv : inR v) (ha : inR a) (hb : inR b) : CallI m_Model_isIn [.inl v, .inl a, .inl b] M (fun x M' => x = (if a ≤ v ∧ v ≤ b then 1 else 0) ∧ M' = M) := by
  simp only [inR] at hv ha hb
  by_cases c1 : v < a
  · rw [if_neg (by omega)]
    have c1' := eq_true c1
    refine callP_of (by decide) (by decide) (Nat.le_of_ble_eq_true rfl) (wpm_of (cuts := []) (by decide) 50 _ _ _ _ ?_)
    rw [show lM m_Model_isIn = 3 from rfl]
    simp (maxSteps := 2000000) only [↓reduceIte, wp_eq, wpd_eq, kont_eq, STP1, STP2, STP3, STP4, STP5, konM_eq, AMK, CZ, Option.map, List.getElem?_cons_zero, List.getElem?_cons_succ, List.mem_cons, List.not_mem_nil, if_false, if_true, Nat.reduceAdd, Nat.reduceLT, Nat.reduceLeDiff, Nat.reduceEqDiff, true_and, and_true, List.length_nil, List.length_cons, or_true, true_or, or_false, false_or, Option.some.injEq, Sum.inl.injEq, Sum.inr.injEq, exists_eq_left', exists_eq_left, Int.reduceLE, Int.reduceLT, Int.reduceNeg, Int.reduceAdd, Int.reduceMul, Int.reduceSub, Int.reduceToNat, inR, Nat.zero_ne_one, false_and, Nat.succ_ne_zero, reduceCtorEq, false_implies, true_implies, not_false_eq_true, not_true_eq_false, Int.reduceEq, KRE, C_Model_isIn, c1', FM]
    repeat (first | refine ⟨by omega, ?_⟩ | refine ⟨fun _ _ => okt_nn (by omega), ?_⟩)
    try (first | (show _ ≤ _; omega) | (show _ < _; omega))
  · have c1' := eq_false c1
    by_cases c2 : b < v
    · rw [if_neg (by omega)]
      have c2' := eq_true c2
      refine callP_of (by decide) (by decide) (Nat.le_of_ble_eq_true rfl) (wpm_of (cuts := []) (by decide) 50 _ _ _ _ ?_)
      rw [show lM m_Model_isIn = 3 from rfl]
      simp (maxSteps := 2000000) only [↓reduceIte, wp_eq, wpd_eq, kont_eq, STP1, STP2, STP3, STP4, STP5, konM_eq, AMK, CZ, Option.map, List.getElem?_cons_zero, List.getElem?_cons_succ, List.mem_cons, List.not_mem_nil, if_false, if_true, Nat.reduceAdd, Nat.reduceLT, Nat.reduceLeDiff, Nat.reduceEqDiff, true_and, and_true, List.length_nil, List.length_cons, or_true, true_or, or_false, false_or, Option.some.injEq, Sum.inl.injEq, Sum.inr.injEq, exists_eq_left', exists_eq_left, Int.reduceLE, Int.reduceLT, Int.reduceNeg, Int.reduceAdd, Int.reduceMul, Int.reduceSub, Int.reduceToNat, inR, Nat.zero_ne_one, false_and, Nat.succ_ne_zero, reduceCtorEq, false_implies, true_implies, not_false_eq_true, not_true_eq_false, Int.reduceEq, KRE, C_Model_isIn, c1', c2', FM]
      repeat (first | refine ⟨by omega, ?_⟩ | refine ⟨fun _ _ => okt_nn (by omega), ?_⟩)
      try (first | (show _ ≤ _; omega) | (show _ < _; omega))
    · rw [if_pos (by omega)]
      have c2' := eq_false c2
      refine callP_of (by decide) (by decide) (Nat.le_of_ble_eq_true rfl) (wpm_of (cuts := []) (by decide) 50 _ _ _ _ ?_)
      rw [show lM m_Model_isIn = 3 from rfl]
      simp (maxSteps := 2000000) only [↓reduceIte, wp_eq, wpd_eq, kont_eq, STP1, STP2, STP3, STP4, STP5, konM_eq, AMK, CZ, Option.map, List.getElem?_cons_zero, List.getElem?_cons_succ, List.mem_cons, List.not_mem_nil, if_false, if_true, Nat.reduceAdd, Nat.reduceLT, Nat.reduceLeDiff, Nat.reduceEqDiff, true_and, and_true, List.length_nil, List.length_cons, or_true, true_or, or_false, false_or, Option.some.injEq, Sum.inl.injEq, Sum.inr.injEq, exists_eq_left', exists_eq_left, Int.reduceLE, Int.reduceLT, Int.reduceNeg, Int.reduceAdd, Int.reduceMul, Int.reduceSub, Int.reduceToNat, inR, Nat.zero_ne_one, false_and, Nat.succ_ne_zero, reduceCtorEq, false_implies, true_implies, not_false_eq_true, not_true_eq_false, Int.reduceEq, KRE, C_Model_isIn, c1', c2', FM]
      repeat (first | refine ⟨by omega, ?_⟩ | refine ⟨fun _ _ => okt_nn (by omega), ?_⟩)
      try (first | (show _ ≤ _; omega) | (show _ < _; omega))
theorem pkS_m {T : Nat → Rw} {A : Rw} {f : Int} {Y : Nat → Int} {lap bnd mrg : Int} {t n : Nat} {x : Pk} (hx : pkR Y n bnd x) (ob : okB (best A (T t) lap)) : pkS T A f Y lap bnd mrg t x = if Y t = -1 ∧ why (best A (T t) lap) bnd mrg = 0 ∧ (0 ≤ f + (best A (T t) lap).2.1 ∧ f + (best A (T t) lap).2.1 ≤ 900) ∧ x.2.2 < (best A (T t) lap).2.2.1 then ((t : Int), f + (best A (T t) lap).2.1, (best A (T t) lap).2.2.1) else x := by
  unfold pkS
  by_cases c : Y t = -1 ∧ why (best A (T t) lap) bnd mrg = 0
  · obtain ⟨g1, g2, g3, g4⟩ := why_0 ob c.2
    refine if_cg ?_ rfl rfl
    rcases hx with rfl | hx
    · simp only
      omega
    · omega
  · rw [if_neg (fun z => c ⟨z.1, z.2.1⟩), if_neg (fun z => c ⟨z.1, z.2.1⟩)]
set_option maxHeartbeats 4000000 in
/-- one round of growing: the best one is picked -/
theorem Model_growNow_r {n : Nat} {T : Nat → Rw} {Y : Nat → Int} {lap bnd mrg least : Int} {a3 a4 a5 a6 : Option AV} {M : Mm} {Qc : Option AV → Mm → Prop} (h : mdl M n T Y lap bnd mrg) (hl : 0 ≤ least ∧ least ≤ 1000)
    (K : ∀ M' a6, FrP (fun b j => b = 154 ∧ 26 ≤ j ∧ j ≤ 41 ∨ 162 ≤ b ∧ b ≤ 168) M M' → WPm m_Model_growNow Qc 125 [some (.inr 154), some (.inl least), some (.inl 1), some (.inl (pk T Y lap least mrg n).1), some (.inl (pk T Y lap least mrg n).2.1), some (.inl (pk T Y lap least mrg n).2.2), a6] [] M') :
    WPm m_Model_growNow Qc 7 [some (.inr 154), some (.inl least), some (.inl 1), a3, a4, a5, a6] [] M := by
  have sep : ∀ b j, (b = 154 ∧ 26 ≤ j ∧ j ≤ 41 ∨ 162 ≤ b ∧ b ≤ 168) → b ≠ 156 ∧ b ≠ 158 := fun b j z => by omega
  have n8 := h.1.2
  have one0 := eq_false (show ¬ (1 : Int) = 0 by omega)
  refine wpm_of (cuts := [27, 125]) (by decide) 50 _ _ _ _ ?_
  simp (maxSteps := 2000000) only [↓reduceIte, wp_eq, wpd_eq, kont_eq, STP1, STP2, STP3, STP4, STP5, konM_eq, AMK, CZ, Option.map, List.getElem?_cons_zero, List.getElem?_cons_succ, List.mem_cons, List.not_mem_nil, if_false, if_true, Nat.reduceAdd, Nat.reduceLT, Nat.reduceLeDiff, Nat.reduceEqDiff, true_and, and_true, List.length_nil, List.length_cons, or_true, true_or, or_false, false_or, Option.some.injEq, Sum.inl.injEq, Sum.inr.injEq, exists_eq_left', exists_eq_left, Int.reduceLE, Int.reduceLT, Int.reduceNeg, Int.reduceAdd, Int.reduceMul, Int.reduceSub, Int.reduceToNat, inR, Nat.zero_ne_one, false_and, Nat.succ_ne_zero, reduceCtorEq, false_implies, true_implies, not_false_eq_true, not_true_eq_false, Int.reduceEq, KRE, C_Model_growNow, FM, one0]
  repeat (first | refine ⟨by omega, ?_⟩ | refine ⟨fun _ _ => okt_nn (by omega), ?_⟩)
  try (first | (show _ ≤ _; omega) | (show _ < _; omega))
  refine (Model_layChronology_ok (wo := -1) h ⟨by omega, by omega⟩).mono (fun M1 z => ?_)
  obtain ⟨rA, e30, F1⟩ := z
  have F1' : FrP (fun b j => b = 154 ∧ 26 ≤ j ∧ j ≤ 41 ∨ 162 ≤ b ∧ b ≤ 168) M M1 := F1.wd (fun b j z => by unfold chrP at z; omega)
  have hc := h.2.2.2
  have rr := chr_R (wo := -1) hc
  have sp := (cSpan_in (wo := -1) hc).1
  try simp (maxSteps := 2000000) only [↓reduceIte, wp_eq, wpd_eq, kont_eq, STP1, STP2, STP3, STP4, STP5, konM_eq, AMK, CZ, Option.map, List.getElem?_cons_zero, List.getElem?_cons_succ, List.mem_cons, List.not_mem_nil, if_false, if_true, Nat.reduceAdd, Nat.reduceLT, Nat.reduceLeDiff, Nat.reduceEqDiff, true_and, and_true, List.length_nil, List.length_cons, or_true, true_or, or_false, false_or, Option.some.injEq, Sum.inl.injEq, Sum.inr.injEq, exists_eq_left', exists_eq_left, Int.reduceLE, Int.reduceLT, Int.reduceNeg, Int.reduceAdd, Int.reduceMul, Int.reduceSub, Int.reduceToNat, inR, Nat.zero_ne_one, false_and, Nat.succ_ne_zero, reduceCtorEq, false_implies, true_implies, not_false_eq_true, not_true_eq_false, Int.reduceEq, KRE, C_Model_growNow]
  refine loopQ n (fun t ls M2 => (rowA M2 (chr T Y (-1) n) ∧ M2 154 30 = (cSpan T Y (-1) n).1 ∧ FrP (fun b j => b = 154 ∧ 26 ≤ j ∧ j ≤ 41 ∨ 162 ≤ b ∧ b ≤ 168) M M2) ∧ ls = [some (.inr 154), some (.inl least), some (.inl 1), some (.inl (foldN (pkS T (chr T Y (-1) n) (cSpan T Y (-1) n).1 Y lap least mrg) (-1, 0, -1) t).1), some (.inl (foldN (pkS T (chr T Y (-1) n) (cSpan T Y (-1) n).1 Y lap least mrg) (-1, 0, -1) t).2.1), some (.inl (foldN (pkS T (chr T Y (-1) n) (cSpan T Y (-1) n).1 Y lap least mrg) (-1, 0, -1) t).2.2), some (.inl (t : Int))]) ?_ _ _ ⟨⟨rA, e30, F1'⟩, rfl⟩
  rintro t _ M2 ht ⟨⟨rA2, e302, F2⟩, rfl⟩ K2
  have h2 := mdl_fr h F2 sep
  have en2 := h2.1.1
  by_cases c : t = n
  · subst c
    have c' := eq_true (show (t : Int) ≤ t by omega)
    have K3 := K M2 (some (.inl (t : Int))) F2
    unfold pk at K3
    refine wpm_of (cuts := [27, 125]) (by decide) 50 _ _ _ _ ?_
    simp (maxSteps := 2000000) only [↓reduceIte, wp_eq, wpd_eq, kont_eq, STP1, STP2, STP3, STP4, STP5, konM_eq, AMK, CZ, Option.map, List.getElem?_cons_zero, List.getElem?_cons_succ, List.mem_cons, List.not_mem_nil, if_false, if_true, Nat.reduceAdd, Nat.reduceLT, Nat.reduceLeDiff, Nat.reduceEqDiff, true_and, and_true, List.length_nil, List.length_cons, or_true, true_or, or_false, false_or, Option.some.injEq, Sum.inl.injEq, Sum.inr.injEq, exists_eq_left', exists_eq_left, Int.reduceLE, Int.reduceLT, Int.reduceNeg, Int.reduceAdd, Int.reduceMul, Int.reduceSub, Int.reduceToNat, inR, Nat.zero_ne_one, false_and, Nat.succ_ne_zero, reduceCtorEq, false_implies, true_implies, not_false_eq_true, not_true_eq_false, Int.reduceEq, KRE, C_Model_growNow, FM, en2, c']
    repeat (first | refine ⟨by omega, ?_⟩ | refine ⟨fun _ _ => okt_nn (by omega), ?_⟩)
    try (first | (show _ ≤ _; omega) | (show _ < _; omega))
    exact K3
  · have htn : t < n := by omega
    have c' := eq_false (show ¬ (n : Int) ≤ t by omega)
    have pr := pk_R (T := T) (A := chr T Y (-1) n) (f := (cSpan T Y (-1) n).1) (Y := Y) (lap := lap) (bnd := least) (mrg := mrg) rr.2 (m := t) (fun u hu => (hc.2 u (by omega)).1)
    have pr' : pkR Y n least (foldN (pkS T (chr T Y (-1) n) (cSpan T Y (-1) n).1 Y lap least mrg) (-1, 0, -1) t) := by
      rcases pr with pr | pr
      · exact Or.inl pr
      · exact Or.inr ⟨by omega, pr.2⟩
    have oT := (hc.2 t htn).1
    have oY := (hc.2 t htn).2
    have lT := oT.1
    have ob := okB_best (A := chr T Y (-1) n) (B := T t) (lap := lap) rr.2 (by omega)
    have K2' := fun M' z => K2 htn _ M' ⟨z, rfl⟩
    rw [show foldN (pkS T (chr T Y (-1) n) (cSpan T Y (-1) n).1 Y lap least mrg) (-1, 0, -1) (t + 1) = pkS T (chr T Y (-1) n) (cSpan T Y (-1) n).1 Y lap least mrg t (foldN (pkS T (chr T Y (-1) n) (cSpan T Y (-1) n).1 Y lap least mrg) (-1, 0, -1) t) from rfl, pkS_m pr' ob, natI] at K2'
    have pb : -1 ≤ (foldN (pkS T (chr T Y (-1) n) (cSpan T Y (-1) n).1 Y lap least mrg) (-1, 0, -1) t).2.2 ∧ (foldN (pkS T (chr T Y (-1) n) (cSpan T Y (-1) n).1 Y lap least mrg) (-1, 0, -1) t).2.2 ≤ 100 := by
      rcases pr' with pr | pr
      · rw [pr]; decide
      · omega
    clear pr
    generalize foldN (pkS T (chr T Y (-1) n) (cSpan T Y (-1) n).1 Y lap least mrg) (-1, 0, -1) t = x at *
    refine wpm_of (cuts := [27, 125]) (by decide) 50 _ _ _ _ ?_
    simp (maxSteps := 2000000) only [↓reduceIte, wp_eq, wpd_eq, kont_eq, STP1, STP2, STP3, STP4, STP5, konM_eq, AMK, CZ, Option.map, List.getElem?_cons_zero, List.getElem?_cons_succ, List.mem_cons, List.not_mem_nil, if_false, if_true, Nat.reduceAdd, Nat.reduceLT, Nat.reduceLeDiff, Nat.reduceEqDiff, true_and, and_true, List.length_nil, List.length_cons, or_true, true_or, or_false, false_or, Option.some.injEq, Sum.inl.injEq, Sum.inr.injEq, exists_eq_left', exists_eq_left, Int.reduceLE, Int.reduceLT, Int.reduceNeg, Int.reduceAdd, Int.reduceMul, Int.reduceSub, Int.reduceToNat, inR, Nat.zero_ne_one, false_and, Nat.succ_ne_zero, reduceCtorEq, false_implies, true_implies, not_false_eq_true, not_true_eq_false, Int.reduceEq, KRE, C_Model_growNow, FM, en2, c']
    repeat (first | refine ⟨by omega, ?_⟩ | refine ⟨fun _ _ => okt_nn (by omega), ?_⟩)
    try (first | (show _ ≤ _; omega) | (show _ < _; omega))
    refine (dated_m h2 htn).eq ?_
    by_cases cY : Y t = -1
    · rw [if_neg (fun z => z cY)]
      try simp (maxSteps := 2000000) only [↓reduceIte, wp_eq, wpd_eq, kont_eq, STP1, STP2, STP3, STP4, STP5, konM_eq, AMK, CZ, Option.map, List.getElem?_cons_zero, List.getElem?_cons_succ, List.mem_cons, List.not_mem_nil, if_false, if_true, Nat.reduceAdd, Nat.reduceLT, Nat.reduceLeDiff, Nat.reduceEqDiff, true_and, and_true, List.length_nil, List.length_cons, or_true, true_or, or_false, false_or, Option.some.injEq, Sum.inl.injEq, Sum.inr.injEq, exists_eq_left', exists_eq_left, Int.reduceLE, Int.reduceLT, Int.reduceNeg, Int.reduceAdd, Int.reduceMul, Int.reduceSub, Int.reduceToNat, inR, Nat.zero_ne_one, false_and, Nat.succ_ne_zero, reduceCtorEq, false_implies, true_implies, not_false_eq_true, not_true_eq_false, Int.reduceEq, KRE, C_Model_growNow]
      repeat (first | refine ⟨by omega, ?_⟩ | refine ⟨fun _ _ => okt_nn (by omega), ?_⟩)
      try (first | (show _ ≤ _; omega) | (show _ < _; omega))
      refine (Model_layB_ok h2 htn).mono (fun M3 z => ?_)
      obtain ⟨rB, F3⟩ := z
      have F3' : FrP (fun b j => b = 154 ∧ 26 ≤ j ∧ j ≤ 41 ∨ 162 ≤ b ∧ b ≤ 168) M2 M3 := F3.wd (fun b j z => by unfold layBP at z; omega)
      have rA3 : rowA M3 (chr T Y (-1) n) := rowA_cells (fun b q1 q2 j => F3 _ _ (by unfold layBP; omega)) (F3 _ _ (by unfold layBP; omega)) (F3 _ _ (by unfold layBP; omega)) rA2
      have h3 := mdl_fr h2 F3' sep
      try simp (maxSteps := 2000000) only [↓reduceIte, wp_eq, wpd_eq, kont_eq, STP1, STP2, STP3, STP4, STP5, konM_eq, AMK, CZ, Option.map, List.getElem?_cons_zero, List.getElem?_cons_succ, List.mem_cons, List.not_mem_nil, if_false, if_true, Nat.reduceAdd, Nat.reduceLT, Nat.reduceLeDiff, Nat.reduceEqDiff, true_and, and_true, List.length_nil, List.length_cons, or_true, true_or, or_false, false_or, Option.some.injEq, Sum.inl.injEq, Sum.inr.injEq, exists_eq_left', exists_eq_left, Int.reduceLE, Int.reduceLT, Int.reduceNeg, Int.reduceAdd, Int.reduceMul, Int.reduceSub, Int.reduceToNat, inR, Nat.zero_ne_one, false_and, Nat.succ_ne_zero, reduceCtorEq, false_implies, true_implies, not_false_eq_true, not_true_eq_false, Int.reduceEq, KRE, C_Model_growNow]
      refine (Model_tellBest_ok h3.2.2.1 rA3 rB hl).mono (fun M4 z => ?_)
      obtain ⟨b1, b2, F4⟩ := z
      have F4' : FrP (fun b j => b = 154 ∧ 26 ≤ j ∧ j ≤ 41 ∨ 162 ≤ b ∧ b ≤ 168) M3 M4 := F4.wd (fun b j z => by unfold bestP at z; omega)
      have rA4 : rowA M4 (chr T Y (-1) n) := rowA_cells (fun b q1 q2 j => F4 _ _ (by unfold bestP; omega)) (F4 _ _ (by unfold bestP; omega)) (F4 _ _ (by unfold bestP; omega)) rA3
      have e304 : M4 154 30 = (cSpan T Y (-1) n).1 := ((F4 _ _ (by unfold bestP; omega)).trans (F3 _ _ (by unfold layBP; omega))).trans e302
      have F5 := (F2.tr F3').tr F4'
      have wi := why_in (best (chr T Y (-1) n) (T t) lap) least mrg
      have KN := K2' M4 ⟨rA4, e304, F5⟩
      by_cases cw : why (best (chr T Y (-1) n) (T t) lap) least mrg = 0
      · obtain ⟨g1, g2, g3, g4⟩ := why_0 ob cw
        obtain ⟨f2, f3, f4⟩ := b1.2.2 g1
        have cw' := eq_true cw
        try simp (maxSteps := 2000000) only [↓reduceIte, wp_eq, wpd_eq, kont_eq, STP1, STP2, STP3, STP4, STP5, konM_eq, AMK, CZ, Option.map, List.getElem?_cons_zero, List.getElem?_cons_succ, List.mem_cons, List.not_mem_nil, if_false, if_true, Nat.reduceAdd, Nat.reduceLT, Nat.reduceLeDiff, Nat.reduceEqDiff, true_and, and_true, List.length_nil, List.length_cons, or_true, true_or, or_false, false_or, Option.some.injEq, Sum.inl.injEq, Sum.inr.injEq, exists_eq_left', exists_eq_left, Int.reduceLE, Int.reduceLT, Int.reduceNeg, Int.reduceAdd, Int.reduceMul, Int.reduceSub, Int.reduceToNat, inR, Nat.zero_ne_one, false_and, Nat.succ_ne_zero, reduceCtorEq, false_implies, true_implies, not_false_eq_true, not_true_eq_false, Int.reduceEq, KRE, C_Model_growNow, FM, b2, cw', e304, f2]
        repeat (first | refine ⟨by omega, ?_⟩ | refine ⟨fun _ _ => okt_nn (by omega), ?_⟩)
        try (first | (show _ ≤ _; omega) | (show _ < _; omega))
        refine (Model_isIn_ok ⟨by omega, by omega⟩ ⟨by omega, by omega⟩ ⟨by omega, by omega⟩).eq ?_
        by_cases ci : 0 ≤ (cSpan T Y (-1) n).1 + (best (chr T Y (-1) n) (T t) lap).2.1 ∧ (cSpan T Y (-1) n).1 + (best (chr T Y (-1) n) (T t) lap).2.1 ≤ 900
        · rw [if_pos ci]
          by_cases cs : x.2.2 < (best (chr T Y (-1) n) (T t) lap).2.2.1
          · rw [if_pos ⟨cY, cw, ci, cs⟩] at KN
            have cs' := eq_true cs
            try simp (maxSteps := 2000000) only [↓reduceIte, wp_eq, wpd_eq, kont_eq, STP1, STP2, STP3, STP4, STP5, konM_eq, AMK, CZ, Option.map, List.getElem?_cons_zero, List.getElem?_cons_succ, List.mem_cons, List.not_mem_nil, if_false, if_true, Nat.reduceAdd, Nat.reduceLT, Nat.reduceLeDiff, Nat.reduceEqDiff, true_and, and_true, List.length_nil, List.length_cons, or_true, true_or, or_false, false_or, Option.some.injEq, Sum.inl.injEq, Sum.inr.injEq, exists_eq_left', exists_eq_left, Int.reduceLE, Int.reduceLT, Int.reduceNeg, Int.reduceAdd, Int.reduceMul, Int.reduceSub, Int.reduceToNat, inR, Nat.zero_ne_one, false_and, Nat.succ_ne_zero, reduceCtorEq, false_implies, true_implies, not_false_eq_true, not_true_eq_false, Int.reduceEq, KRE, C_Model_growNow, FM, f2, f3, e304, cs']
            repeat (first | refine ⟨by omega, ?_⟩ | refine ⟨fun _ _ => okt_nn (by omega), ?_⟩)
            try (first | (show _ ≤ _; omega) | (show _ < _; omega))
            exact KN
          · rw [if_neg (fun z => cs z.2.2.2)] at KN
            have cs' := eq_false cs
            try simp (maxSteps := 2000000) only [↓reduceIte, wp_eq, wpd_eq, kont_eq, STP1, STP2, STP3, STP4, STP5, konM_eq, AMK, CZ, Option.map, List.getElem?_cons_zero, List.getElem?_cons_succ, List.mem_cons, List.not_mem_nil, if_false, if_true, Nat.reduceAdd, Nat.reduceLT, Nat.reduceLeDiff, Nat.reduceEqDiff, true_and, and_true, List.length_nil, List.length_cons, or_true, true_or, or_false, false_or, Option.some.injEq, Sum.inl.injEq, Sum.inr.injEq, exists_eq_left', exists_eq_left, Int.reduceLE, Int.reduceLT, Int.reduceNeg, Int.reduceAdd, Int.reduceMul, Int.reduceSub, Int.reduceToNat, inR, Nat.zero_ne_one, false_and, Nat.succ_ne_zero, reduceCtorEq, false_implies, true_implies, not_false_eq_true, not_true_eq_false, Int.reduceEq, KRE, C_Model_growNow, FM, f2, f3, e304, cs']
            repeat (first | refine ⟨by omega, ?_⟩ | refine ⟨fun _ _ => okt_nn (by omega), ?_⟩)
            try (first | (show _ ≤ _; omega) | (show _ < _; omega))
            exact KN
        · rw [if_neg ci]
          rw [if_neg (fun z => ci z.2.2.1)] at KN
          try simp (maxSteps := 2000000) only [↓reduceIte, wp_eq, wpd_eq, kont_eq, STP1, STP2, STP3, STP4, STP5, konM_eq, AMK, CZ, Option.map, List.getElem?_cons_zero, List.getElem?_cons_succ, List.mem_cons, List.not_mem_nil, if_false, if_true, Nat.reduceAdd, Nat.reduceLT, Nat.reduceLeDiff, Nat.reduceEqDiff, true_and, and_true, List.length_nil, List.length_cons, or_true, true_or, or_false, false_or, Option.some.injEq, Sum.inl.injEq, Sum.inr.injEq, exists_eq_left', exists_eq_left, Int.reduceLE, Int.reduceLT, Int.reduceNeg, Int.reduceAdd, Int.reduceMul, Int.reduceSub, Int.reduceToNat, inR, Nat.zero_ne_one, false_and, Nat.succ_ne_zero, reduceCtorEq, false_implies, true_implies, not_false_eq_true, not_true_eq_false, Int.reduceEq, KRE, C_Model_growNow]
          repeat (first | refine ⟨by omega, ?_⟩ | refine ⟨fun _ _ => okt_nn (by omega), ?_⟩)
          try (first | (show _ ≤ _; omega) | (show _ < _; omega))
          exact KN
      · rw [if_neg (fun z => cw z.2.1)] at KN
        have cw' := eq_false cw
        try simp (maxSteps := 2000000) only [↓reduceIte, wp_eq, wpd_eq, kont_eq, STP1, STP2, STP3, STP4, STP5, konM_eq, AMK, CZ, Option.map, List.getElem?_cons_zero, List.getElem?_cons_succ, List.mem_cons, List.not_mem_nil, if_false, if_true, Nat.reduceAdd, Nat.reduceLT, Nat.reduceLeDiff, Nat.reduceEqDiff, true_and, and_true, List.length_nil, List.length_cons, or_true, true_or, or_false, false_or, Option.some.injEq, Sum.inl.injEq, Sum.inr.injEq, exists_eq_left', exists_eq_left, Int.reduceLE, Int.reduceLT, Int.reduceNeg, Int.reduceAdd, Int.reduceMul, Int.reduceSub, Int.reduceToNat, inR, Nat.zero_ne_one, false_and, Nat.succ_ne_zero, reduceCtorEq, false_implies, true_implies, not_false_eq_true, not_true_eq_false, Int.reduceEq, KRE, C_Model_growNow, FM, b2, cw']
        repeat (first | refine ⟨by omega, ?_⟩ | refine ⟨fun _ _ => okt_nn (by omega), ?_⟩)
        try (first | (show _ ≤ _; omega) | (show _ < _; omega))
        exact KN
    · rw [if_pos cY]
      rw [if_neg (fun z => cY z.1)] at K2'
      try simp (maxSteps := 2000000) only [↓reduceIte, wp_eq, wpd_eq, kont_eq, STP1, STP2, STP3, STP4, STP5, konM_eq, AMK, CZ, Option.map, List.getElem?_cons_zero, List.getElem?_cons_succ, List.mem_cons, List.not_mem_nil, if_false, if_true, Nat.reduceAdd, Nat.reduceLT, Nat.reduceLeDiff, Nat.reduceEqDiff, true_and, and_true, List.length_nil, List.length_cons, or_true, true_or, or_false, false_or, Option.some.injEq, Sum.inl.injEq, Sum.inr.injEq, exists_eq_left', exists_eq_left, Int.reduceLE, Int.reduceLT, Int.reduceNeg, Int.reduceAdd, Int.reduceMul, Int.reduceSub, Int.reduceToNat, inR, Nat.zero_ne_one, false_and, Nat.succ_ne_zero, reduceCtorEq, false_implies, true_implies, not_false_eq_true, not_true_eq_false, Int.reduceEq, KRE, C_Model_growNow]
      repeat (first | refine ⟨by omega, ?_⟩ | refine ⟨fun _ _ => okt_nn (by omega), ?_⟩)
      try (first | (show _ ≤ _; omega) | (show _ < _; omega))
      exact K2' M2 ⟨rA2, e302, F2⟩
set_option maxHeartbeats 600000 in
set_option maxRecDepth 20000 in
theorem Model_growNow_ok {n : Nat} {T : Nat → Rw} {Y : Nat → Int} {lap bnd mrg least : Int} {M : Mm} (h : mdl M n T Y lap bnd mrg) (hl : 0 ≤ least ∧ least ≤ 1000) :
    CallV m_Model_growNow [.inr 154, .inl least] M (fun M' => ∃ c, c ≤ n ∧ gwC T lap least mrg n Y c ∧ grownM M' T lap least mrg n Y c ∧ FrP growP (mYM M (gwY T lap least mrg n Y c) n) M') := by
  have n8 := h.1.2
  have hc := h.2.2.2
  have my0 : mYM M Y n = M := by
    funext b j
    simp only [mYM]
    split
    · rename_i z
      obtain ⟨rfl, z1, z2⟩ := z
      have := (mdl_t h z2).2.1
      rw [← this]
      congr 1
      omega
    · rfl
  refine callP_of (by decide) (by decide) (Nat.le_of_ble_eq_true rfl) (wpm_of (cuts := [7]) (by decide) 50 _ _ _ _ ?_)
  rw [show lM m_Model_growNow = 7 from rfl]
  simp (maxSteps := 2000000) only [↓reduceIte, wp_eq, wpd_eq, kont_eq, STP1, STP2, STP3, STP4, STP5, konM_eq, AMK, CZ, Option.map, List.getElem?_cons_zero, List.getElem?_cons_succ, List.mem_cons, List.not_mem_nil, if_false, if_true, Nat.reduceAdd, Nat.reduceLT, Nat.reduceLeDiff, Nat.reduceEqDiff, true_and, and_true, List.length_nil, List.length_cons, or_true, true_or, or_false, false_or, Option.some.injEq, Sum.inl.injEq, Sum.inr.injEq, exists_eq_left', exists_eq_left, Int.reduceLE, Int.reduceLT, Int.reduceNeg, Int.reduceAdd, Int.reduceMul, Int.reduceSub, Int.reduceToNat, inR, Nat.zero_ne_one, false_and, Nat.succ_ne_zero, reduceCtorEq, false_implies, true_implies, not_false_eq_true, not_true_eq_false, Int.reduceEq, KRE, C_Model_growNow, FM]
  refine loopQ n (fun r ls M1 => ((∀ i, i < r → (gwP T lap least mrg n Y i).1 ≠ -1) ∧ grownM M1 T lap least mrg n Y r ∧ FrP growP (mYM M (gwY T lap least mrg n Y r) n) M1) ∧ ∃ a3 a4 a5 a6, ls = [some (.inr 154), some (.inl least), some (.inl 1), a3, a4, a5, a6]) ?_ _ _ ⟨⟨fun i hi => by omega, ⟨by simp [mset], fun i hi => by omega⟩, ?_⟩, none, none, none, none, rfl⟩
  · rintro r _ M1 hr ⟨⟨g1, g2, F⟩, a3, a4, a5, a6, rfl⟩ K
    obtain ⟨ok1, pr⟩ := gwY_ok (lap := lap) (bnd := least) (mrg := mrg) hc r
    have hm : mdl M1 n T (gwY T lap least mrg n Y r) lap bnd mrg := by
      refine mdl_yr h (fun j => ?_) (fun t ht k hk hk4 => ?_) (fun t ht => ?_) ok1
      · rw [F _ _ (by unfold growP; omega)]; simp [mYM]
      · rw [F _ _ (by unfold growP; omega)]
        simp only [mYM]
        rw [if_neg (by omega)]
      · rw [F _ _ (by unfold growP; omega)]
        simp only [mYM]
        rw [if_pos (by first | exact ⟨rfl, by omega, by omega⟩ | exact ⟨trivial, by omega, by omega⟩ | (simp; omega))]
        congr 1
        omega
    refine Model_growNow_r hm hl (fun M2 b6 F2 => ?_)
    have ep : pk T (gwY T lap least mrg n Y r) lap least mrg n = gwP T lap least mrg n Y r := rfl
    rw [ep]
    have F2' : FrP growP M1 M2 := F2.wd (fun b j z => by unfold growP; omega)
    have g22 : grownM M2 T lap least mrg n Y r := by
      obtain ⟨q1, q2⟩ := g2
      refine ⟨(F2 _ _ (by omega)).trans q1, fun i hi => ?_⟩
      rw [F2 _ _ (by omega), F2 _ _ (by omega), F2 _ _ (by omega)]
      exact q2 i hi
    by_cases cp : (gwP T lap least mrg n Y r).1 = -1
    · have cp' := eq_true cp
      have out : ∀ a3 a4 a5 a6, WPm m_Model_growNow (fun v M' => v = none ∧ ∃ c, c ≤ n ∧ gwC T lap least mrg n Y c ∧ grownM M' T lap least mrg n Y c ∧ FrP growP (mYM M (gwY T lap least mrg n Y c) n) M') 7 [some (.inr 154), some (.inl least), some (.inl 0), a3, a4, a5, a6] [] M2 := by
        intro a3 a4 a5 a6
        refine wpm_of (cuts := []) (by decide) 50 _ _ _ _ ?_
        simp (maxSteps := 2000000) only [↓reduceIte, wp_eq, wpd_eq, kont_eq, STP1, STP2, STP3, STP4, STP5, konM_eq, AMK, CZ, Option.map, List.getElem?_cons_zero, List.getElem?_cons_succ, List.mem_cons, List.not_mem_nil, if_false, if_true, Nat.reduceAdd, Nat.reduceLT, Nat.reduceLeDiff, Nat.reduceEqDiff, true_and, and_true, List.length_nil, List.length_cons, or_true, true_or, or_false, false_or, Option.some.injEq, Sum.inl.injEq, Sum.inr.injEq, exists_eq_left', exists_eq_left, Int.reduceLE, Int.reduceLT, Int.reduceNeg, Int.reduceAdd, Int.reduceMul, Int.reduceSub, Int.reduceToNat, inR, Nat.zero_ne_one, false_and, Nat.succ_ne_zero, reduceCtorEq, false_implies, true_implies, not_false_eq_true, not_true_eq_false, Int.reduceEq, KRE, C_Model_growNow, FM]
        exact ⟨r, hr, ⟨g1, cp⟩, g22, F.tr F2'⟩
      refine wpm_of (cuts := [7]) (by decide) 50 _ _ _ _ ?_
      simp (maxSteps := 2000000) only [↓reduceIte, wp_eq, wpd_eq, kont_eq, STP1, STP2, STP3, STP4, STP5, konM_eq, AMK, CZ, Option.map, List.getElem?_cons_zero, List.getElem?_cons_succ, List.mem_cons, List.not_mem_nil, if_false, if_true, Nat.reduceAdd, Nat.reduceLT, Nat.reduceLeDiff, Nat.reduceEqDiff, true_and, and_true, List.length_nil, List.length_cons, or_true, true_or, or_false, false_or, Option.some.injEq, Sum.inl.injEq, Sum.inr.injEq, exists_eq_left', exists_eq_left, Int.reduceLE, Int.reduceLT, Int.reduceNeg, Int.reduceAdd, Int.reduceMul, Int.reduceSub, Int.reduceToNat, inR, Nat.zero_ne_one, false_and, Nat.succ_ne_zero, reduceCtorEq, false_implies, true_implies, not_false_eq_true, not_true_eq_false, Int.reduceEq, KRE, C_Model_growNow, cp', FM]
      repeat (first | refine ⟨by omega, ?_⟩ | refine ⟨fun _ _ => okt_nn (by omega), ?_⟩)
      try (first | (show _ ≤ _; omega) | (show _ < _; omega))
      exact out _ _ _ _
    · have cp' := eq_false cp
      have gn := gwC_n (lap := lap) (bnd := least) (mrg := mrg) (c := r + 1) hc (fun i hi => by
        by_cases e : i = r
        · rw [e]; exact cp
        · exact g1 i (by omega))
      rcases pr with pr | pr
      · exact absurd (congrArg Prod.fst pr) cp
      · obtain ⟨p1, p2, p3, p4, p5⟩ := pr
        have eY := gwY_succ cp
        have q55 := g22.1
        have one0 := eq_false (show ¬ (1 : Int) = 0 by omega)
        have K' := K (by omega) _ (mset (mset (mset (mset (mset M2 158 (30 * (gwP T lap least mrg n Y r).1 + 4).toNat (gwP T lap least mrg n Y r).2.1) 177 r (gwP T lap least mrg n Y r).1) 178 r (gwP T lap least mrg n Y r).2.1) 179 r (gwP T lap least mrg n Y r).2.2) 154 55 ((r : Int) + 1)) ⟨⟨fun i hi => ?_, ⟨?_, fun i hi => ?_⟩, ?_⟩, some (.inl (gwP T lap least mrg n Y r).1), some (.inl (gwP T lap least mrg n Y r).2.1), some (.inl (gwP T lap least mrg n Y r).2.2), b6, rfl⟩
        · refine wpm_of (cuts := [7]) (by decide) 80 _ _ _ _ ?_
          simp (maxSteps := 2000000) only [↓reduceIte, wp_eq, wpd_eq, kont_eq, STP1, STP2, STP3, STP4, STP5, konM_eq, AMK, CZ, Option.map, List.getElem?_cons_zero, List.getElem?_cons_succ, List.mem_cons, List.not_mem_nil, if_false, if_true, Nat.reduceAdd, Nat.reduceLT, Nat.reduceLeDiff, Nat.reduceEqDiff, true_and, and_true, List.length_nil, List.length_cons, or_true, true_or, or_false, false_or, Option.some.injEq, Sum.inl.injEq, Sum.inr.injEq, exists_eq_left', exists_eq_left, Int.reduceLE, Int.reduceLT, Int.reduceNeg, Int.reduceAdd, Int.reduceMul, Int.reduceSub, Int.reduceToNat, inR, Nat.zero_ne_one, false_and, Nat.succ_ne_zero, reduceCtorEq, false_implies, true_implies, not_false_eq_true, not_true_eq_false, Int.reduceEq, KRE, C_Model_growNow, FM, cp', one0, q55, natT, MSE]
          repeat (first | refine ⟨by omega, ?_⟩ | refine ⟨fun _ _ => okt_nn (by omega), ?_⟩)
          try (first | (show _ ≤ _; omega) | (show _ < _; omega))
          exact K'
        · by_cases e : i = r
          · rw [e]; exact cp
          · exact g1 i (by omega)
        · simp [mset]
        · by_cases e : i = r
          · subst e
            simp [mset]
          · have := g22.2 i (by omega)
            simp only [mset]
            simpa [e] using this
        · intro b j z
          unfold growP at z
          by_cases cb : b = 158
          · subst cb
            simp only [mset]
            rw [if_neg (by omega), if_neg (by omega), if_neg (by omega), if_neg (by omega)]
            have FF := (F.tr F2') 158 j (by unfold growP; omega)
            rw [FF, eY]
            simp only [mYM, updI]
            by_cases cj : j = (30 * (gwP T lap least mrg n Y r).1 + 4).toNat
            · rw [if_pos ⟨trivial, cj⟩, if_pos (by first | exact ⟨rfl, by omega, by omega⟩ | exact ⟨trivial, by omega, by omega⟩ | (simp; omega)), if_pos (by omega)]
            · rw [if_neg (fun w => cj w.2)]
              by_cases cj2 : j % 30 = 4 ∧ j / 30 < n
              · rw [if_pos ⟨trivial, cj2⟩, if_pos ⟨trivial, cj2⟩, if_neg (by omega)]
              · rw [if_neg (fun w => cj2 w.2), if_neg (fun w => cj2 w.2)]
          · simp only [mset]
            rw [if_neg (by omega), if_neg (by omega), if_neg (by omega), if_neg (by omega), if_neg (by omega)]
            have FF := (F.tr F2') b j (by unfold growP; omega)
            rw [FF]
            simp [mYM, cb]
  · have e := my0
    show FrP growP (mYM M Y n) _
    rw [e]
    exact FrP.rf.st (by unfold growP; omega)
def grownP : Nat → Nat → Prop := fun b j => growP b j ∨ b = 180
set_option maxHeartbeats 600000 in
set_option maxRecDepth 20000 in
theorem Model_tellGrown_ok {n : Nat} {T : Nat → Rw} {Y : Nat → Int} {lap bnd mrg : Int} {M : Mm} (h : mdl M n T Y lap bnd mrg) :
    CallV m_Model_tellGrown [.inr 154] M (fun M' => ∃ c, c ≤ n ∧ gwC T lap bnd mrg n Y c ∧ grownM M' T lap bnd mrg n Y c ∧ FrP grownP M M') := by
  have n8 := h.1.2
  have hb := h.2.2.1.1.2
  refine callP_of (by decide) (by decide) (Nat.le_of_ble_eq_true rfl) (wpm_of (cuts := []) (by decide) 50 _ _ _ _ ?_)
  rw [show lM m_Model_tellGrown = 1 from rfl]
  simp (maxSteps := 2000000) only [↓reduceIte, wp_eq, wpd_eq, kont_eq, STP1, STP2, STP3, STP4, STP5, konM_eq, AMK, CZ, Option.map, List.getElem?_cons_zero, List.getElem?_cons_succ, List.mem_cons, List.not_mem_nil, if_false, if_true, Nat.reduceAdd, Nat.reduceLT, Nat.reduceLeDiff, Nat.reduceEqDiff, true_and, and_true, List.length_nil, List.length_cons, or_true, true_or, or_false, false_or, Option.some.injEq, Sum.inl.injEq, Sum.inr.injEq, exists_eq_left', exists_eq_left, Int.reduceLE, Int.reduceLT, Int.reduceNeg, Int.reduceAdd, Int.reduceMul, Int.reduceSub, Int.reduceToNat, inR, Nat.zero_ne_one, false_and, Nat.succ_ne_zero, reduceCtorEq, false_implies, true_implies, not_false_eq_true, not_true_eq_false, Int.reduceEq, KRE, C_Model_tellGrown, FM]
  refine (Model_copyTo_ok (a := 180) (f := 158) (n := 240) (by simp only [FM]) (by simp only [FM]) (by omega) (by omega)).eq ?_
  have F1 : FrP (fun b _ => b = 180) M (mCpR M 180 158 240) := fun b j z => by simp [mCpR, z]
  have h1 := mdl_fr h F1 (fun b j z => by omega)
  try simp (maxSteps := 2000000) only [↓reduceIte, wp_eq, wpd_eq, kont_eq, STP1, STP2, STP3, STP4, STP5, konM_eq, AMK, CZ, Option.map, List.getElem?_cons_zero, List.getElem?_cons_succ, List.mem_cons, List.not_mem_nil, if_false, if_true, Nat.reduceAdd, Nat.reduceLT, Nat.reduceLeDiff, Nat.reduceEqDiff, true_and, and_true, List.length_nil, List.length_cons, or_true, true_or, or_false, false_or, Option.some.injEq, Sum.inl.injEq, Sum.inr.injEq, exists_eq_left', exists_eq_left, Int.reduceLE, Int.reduceLT, Int.reduceNeg, Int.reduceAdd, Int.reduceMul, Int.reduceSub, Int.reduceToNat, inR, Nat.zero_ne_one, false_and, Nat.succ_ne_zero, reduceCtorEq, false_implies, true_implies, not_false_eq_true, not_true_eq_false, Int.reduceEq, KRE, C_Model_tellGrown]
  refine (Model_bound_ok h1.2.2.1).eq ?_
  try simp (maxSteps := 2000000) only [↓reduceIte, wp_eq, wpd_eq, kont_eq, STP1, STP2, STP3, STP4, STP5, konM_eq, AMK, CZ, Option.map, List.getElem?_cons_zero, List.getElem?_cons_succ, List.mem_cons, List.not_mem_nil, if_false, if_true, Nat.reduceAdd, Nat.reduceLT, Nat.reduceLeDiff, Nat.reduceEqDiff, true_and, and_true, List.length_nil, List.length_cons, or_true, true_or, or_false, false_or, Option.some.injEq, Sum.inl.injEq, Sum.inr.injEq, exists_eq_left', exists_eq_left, Int.reduceLE, Int.reduceLT, Int.reduceNeg, Int.reduceAdd, Int.reduceMul, Int.reduceSub, Int.reduceToNat, inR, Nat.zero_ne_one, false_and, Nat.succ_ne_zero, reduceCtorEq, false_implies, true_implies, not_false_eq_true, not_true_eq_false, Int.reduceEq, KRE, C_Model_tellGrown]
  refine (Model_growNow_ok h1 (by omega)).mono (fun M2 z => ?_)
  obtain ⟨c, hc, g1, g2, F2⟩ := z
  try simp (maxSteps := 2000000) only [↓reduceIte, wp_eq, wpd_eq, kont_eq, STP1, STP2, STP3, STP4, STP5, konM_eq, AMK, CZ, Option.map, List.getElem?_cons_zero, List.getElem?_cons_succ, List.mem_cons, List.not_mem_nil, if_false, if_true, Nat.reduceAdd, Nat.reduceLT, Nat.reduceLeDiff, Nat.reduceEqDiff, true_and, and_true, List.length_nil, List.length_cons, or_true, true_or, or_false, false_or, Option.some.injEq, Sum.inl.injEq, Sum.inr.injEq, exists_eq_left', exists_eq_left, Int.reduceLE, Int.reduceLT, Int.reduceNeg, Int.reduceAdd, Int.reduceMul, Int.reduceSub, Int.reduceToNat, inR, Nat.zero_ne_one, false_and, Nat.succ_ne_zero, reduceCtorEq, false_implies, true_implies, not_false_eq_true, not_true_eq_false, Int.reduceEq, KRE, C_Model_tellGrown, FM]
  refine (Model_copyTo_ok (a := 158) (f := 180) (n := 240) (by simp only [FM]) (by simp only [FM]) (by omega) (by omega)).eq ?_
  try simp (maxSteps := 2000000) only [↓reduceIte, wp_eq, wpd_eq, kont_eq, STP1, STP2, STP3, STP4, STP5, konM_eq, AMK, CZ, Option.map, List.getElem?_cons_zero, List.getElem?_cons_succ, List.mem_cons, List.not_mem_nil, if_false, if_true, Nat.reduceAdd, Nat.reduceLT, Nat.reduceLeDiff, Nat.reduceEqDiff, true_and, and_true, List.length_nil, List.length_cons, or_true, true_or, or_false, false_or, Option.some.injEq, Sum.inl.injEq, Sum.inr.injEq, exists_eq_left', exists_eq_left, Int.reduceLE, Int.reduceLT, Int.reduceNeg, Int.reduceAdd, Int.reduceMul, Int.reduceSub, Int.reduceToNat, inR, Nat.zero_ne_one, false_and, Nat.succ_ne_zero, reduceCtorEq, false_implies, true_implies, not_false_eq_true, not_true_eq_false, Int.reduceEq, KRE, C_Model_tellGrown]
  refine ⟨c, hc, g1, ⟨?_, fun i hi => ?_⟩, ?_⟩
  · have := g2.1
    simpa [mCpR] using this
  · have := g2.2 i hi
    simpa [mCpR] using this
  · intro b j z
    unfold grownP at z
    by_cases cb : b = 158
    · subst cb
      by_cases cj : j < 240
      · have e1 : mCpR M2 158 180 240 158 j = M2 180 j := by simp [mCpR, cj]
        rw [e1, F2 180 j (by unfold growP; omega)]
        simp [mYM, mCpR, cj]
      · have e1 : mCpR M2 158 180 240 158 j = M2 158 j := by simp [mCpR, cj]
        rw [e1, F2 158 j (by unfold growP; omega)]
        simp only [mYM, mCpR]
        rw [if_neg (by omega), if_neg (by omega)]
    · have e1 : mCpR M2 158 180 240 b j = M2 b j := by simp [mCpR, cb]
      rw [e1, F2 b j (fun w => z (Or.inl w))]
      simp only [mYM, mCpR]
      rw [if_neg (fun w => cb w.1), if_neg (fun w => z (Or.inr w.1))]
