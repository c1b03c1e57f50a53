/-! THE REFERENCE, 7: growing. -/
set_option maxHeartbeats 600000 in
set_option maxRecDepth 20000 in
theorem Model_copyTo_ok {a f n : Nat} {M : Mm} (la : lay a = .inl (0, n)) (lf : lay f = .inl (0, n)) (hn : n ≤ 10000) (hne : a ≠ f) : CallV m_Model_copyTo [.inr a, .inr f] M (fun M' => M' = mCpR M a f n) := by
  refine callP_of (by decide) (by decide) (Nat.le_of_ble_eq_true rfl) (wpm_of (cuts := [2]) (by decide) 50 _ _ _ _ ?_)
  rw [show lM m_Model_copyTo = 3 from rfl]
  simp (maxSteps := 2000000) only [↓reduceIte, wp_eq, wpd_eq, kont_eq, STP1, STP2, STP3, STP4, STP5, konM_eq, AMK, CZ, Option.map, List.getElem?_cons_zero, List.getElem?_cons_succ, List.mem_cons, List.not_mem_nil, if_false, if_true, Nat.reduceAdd, Nat.reduceLT, Nat.reduceLeDiff, Nat.reduceEqDiff, true_and, and_true, List.length_nil, List.length_cons, or_true, true_or, or_false, false_or, Option.some.injEq, Sum.inl.injEq, Sum.inr.injEq, exists_eq_left', exists_eq_left, Int.reduceLE, Int.reduceLT, Int.reduceNeg, Int.reduceAdd, Int.reduceMul, Int.reduceSub, Int.reduceToNat, inR, Nat.zero_ne_one, false_and, Nat.succ_ne_zero, reduceCtorEq, false_implies, true_implies, not_false_eq_true, not_true_eq_false, Int.reduceEq, KRE, C_Model_copyTo, la, lf, FM]
  refine loopQ n (fun k ls M1 => M1 = mCpR M a f k ∧ ls = [some (.inr a), some (.inr f), some (.inl (k : Int))]) ?_ _ _ ⟨by funext b j; simp [mCpR], rfl⟩
  rintro k _ _ hk ⟨rfl, rfl⟩ K
  by_cases c : k = n
  · subst c
    have c' := eq_true (show (k : Int) ≤ k by omega)
    refine wpm_of (cuts := [2]) (by decide) 50 _ _ _ _ ?_
    simp (maxSteps := 2000000) only [↓reduceIte, wp_eq, wpd_eq, kont_eq, STP1, STP2, STP3, STP4, STP5, konM_eq, AMK, CZ, Option.map, List.getElem?_cons_zero, List.getElem?_cons_succ, List.mem_cons, List.not_mem_nil, if_false, if_true, Nat.reduceAdd, Nat.reduceLT, Nat.reduceLeDiff, Nat.reduceEqDiff, true_and, and_true, List.length_nil, List.length_cons, or_true, true_or, or_false, false_or, Option.some.injEq, Sum.inl.injEq, Sum.inr.injEq, exists_eq_left', exists_eq_left, Int.reduceLE, Int.reduceLT, Int.reduceNeg, Int.reduceAdd, Int.reduceMul, Int.reduceSub, Int.reduceToNat, inR, Nat.zero_ne_one, false_and, Nat.succ_ne_zero, reduceCtorEq, false_implies, true_implies, not_false_eq_true, not_true_eq_false, Int.reduceEq, KRE, C_Model_copyTo, la, lf, c', FM]
    repeat (first | refine ⟨by omega, ?_⟩ | refine ⟨fun _ _ => okt_nn (by omega), ?_⟩)
    try (first | (show _ ≤ _; omega) | (show _ < _; omega))
  · have hlt : k < n := by omega
    have c' := eq_false (show ¬ (n : Int) ≤ k by omega)
    have e : mCpR M a f k f k = M f k := by simp [mCpR, Ne.symm hne]
    have K' := K hlt _ _ ⟨rfl, rfl⟩
    refine wpm_of (cuts := [2]) (by decide) 50 _ _ _ _ ?_
    simp (maxSteps := 2000000) only [↓reduceIte, wp_eq, wpd_eq, kont_eq, STP1, STP2, STP3, STP4, STP5, konM_eq, AMK, CZ, Option.map, List.getElem?_cons_zero, List.getElem?_cons_succ, List.mem_cons, List.not_mem_nil, if_false, if_true, Nat.reduceAdd, Nat.reduceLT, Nat.reduceLeDiff, Nat.reduceEqDiff, true_and, and_true, List.length_nil, List.length_cons, or_true, true_or, or_false, false_or, Option.some.injEq, Sum.inl.injEq, Sum.inr.injEq, exists_eq_left', exists_eq_left, Int.reduceLE, Int.reduceLT, Int.reduceNeg, Int.reduceAdd, Int.reduceMul, Int.reduceSub, Int.reduceToNat, inR, Nat.zero_ne_one, false_and, Nat.succ_ne_zero, reduceCtorEq, false_implies, true_implies, not_false_eq_true, not_true_eq_false, Int.reduceEq, KRE, C_Model_copyTo, la, lf, c', natT, e, FM]
    repeat (first | refine ⟨by omega, ?_⟩ | refine ⟨fun _ _ => okt_nn (by omega), ?_⟩)
    try (first | (show _ ≤ _; omega) | (show _ < _; omega))
    refine WPm.eqM K' ?_
    funext b j
    simp only [mset, mCpR]
    by_cases hj : j = k
    · subst hj
      grind
    · grind
/-- the row with the years F of the first n -/
def mYM (M : Mm) (F : Nat → Int) (n : Nat) : Mm := fun b j => if b = 158 ∧ j % 30 = 4 ∧ j / 30 < n then F (j / 30) else M b j
theorem mRw_eq {f g : Nat → Int} {t : Nat} (h : ∀ k, k < 30 → k ≠ 4 → f (30 * t + k) = g (30 * t + k)) (hl : g (30 * t) ≤ 24) : mRw f t = mRw g t := by
  have e0 := h 0 (by omega) (by omega)
  have e5 := h 5 (by omega) (by omega)
  simp only [Nat.add_zero] at e0
  unfold mRw
  rw [e0, e5]
  refine Prod.ext (funext fun j => ?_) rfl
  show (if (j : Int) < g (30 * t) then f (30 * t + 6 + j) else 0) = if (j : Int) < g (30 * t) then g (30 * t + 6 + j) else 0
  split
  · have := h (6 + j) (by omega) (by omega)
    rw [← Nat.add_assoc] at this
    exact this
  · rfl
theorem wfM_eq {f g : Nat → Int} {t : Nat} (h : ∀ k, k < 30 → k ≠ 4 → f (30 * t + k) = g (30 * t + k)) (hw : wfM g t) : wfM f t := by
  have e0 := h 0 (by omega) (by omega)
  simp only [Nat.add_zero] at e0
  unfold wfM at *
  rw [e0, h 1 (by omega) (by omega), h 2 (by omega) (by omega), h 3 (by omega) (by omega), h 5 (by omega) (by omega)]
  exact hw
theorem mdl_yr {n : Nat} {T : Nat → Rw} {Y F : Nat → Int} {lap bnd mrg : Int} {M M1 : Mm} (h : mdl M n T Y lap bnd mrg) (e6 : ∀ j, M1 156 j = M 156 j) (e8 : ∀ t, t < n → ∀ k, k < 30 → k ≠ 4 → M1 158 (30 * t + k) = M 158 (30 * t + k)) (e4 : ∀ t, t < n → M1 158 (30 * t + 4) = F t) (hc : okC T F n) : mdl M1 n T F lap bnd mrg := by
  obtain ⟨h1, h2, h3, h4⟩ := id h
  refine ⟨by rw [e6]; exact h1, fun t ht => ?_, setM_cells e6 h3, hc⟩
  have g := mdl_t h ht
  have gl := g.2.2.2.1.1
  obtain ⟨p1, p2, p3⟩ := h2 t ht
  exact ⟨(mRw_eq (e8 t ht) (by omega)).trans p1, e4 t ht, wfM_eq (e8 t ht) p3⟩
def growP : Nat → Nat → Prop := fun b j => b = 154 ∧ (26 ≤ j ∧ j ≤ 41 ∨ j = 55) ∨ 162 ≤ b ∧ b ≤ 168 ∨ 177 ≤ b ∧ b ≤ 179
/-- what has grown: c of them -/
def grownM (M : Mm) (T : Nat → Rw) (lap b mrg : Int) (n : Nat) (Y : Nat → Int) (c : Nat) : Prop := M 154 55 = c ∧ ∀ i, i < c → M 177 i = (gwP T lap b mrg n Y i).1 ∧ M 178 i = (gwP T lap b mrg n Y i).2.1 ∧ M 179 i = (gwP T lap b mrg n Y i).2.2
theorem Model_isIn_ok {v a b : Int} {M : Mm} (hv : inR v) (ha : inR a) (hb : inR b) : CallI m_Model_isIn [.inl v, .inl a, .inl b] M (fun x M' => x = (if a ≤ v ∧ v ≤ b then 1 else 0) ∧ M' = M) := by
  simp only [inR] at hv ha hb
  by_cases c1 : v < a
  · rw [if_neg (by omega)]
    have c1' := eq_true c1
    refine callP_of (by decide) (by decide) (Nat.le_of_ble_eq_true rfl) (wpm_of (cuts := []) (by decide) 50 _ _ _ _ ?_)
    rw [show lM m_Model_isIn = 3 from rfl]
    simp (maxSteps := 2000000) only [↓reduceIte, wp_eq, wpd_eq, kont_eq, STP1, STP2, STP3, STP4, STP5, konM_eq, AMK, CZ, Option.map, List.getElem?_cons_zero, List.getElem?_cons_succ, List.mem_cons, List.not_mem_nil, if_false, if_true, Nat.reduceAdd, Nat.reduceLT, Nat.reduceLeDiff, Nat.reduceEqDiff, true_and, and_true, List.length_nil, List.length_cons, or_true, true_or, or_false, false_or, Option.some.injEq, Sum.inl.injEq, Sum.inr.injEq, exists_eq_left', exists_eq_left, Int.reduceLE, Int.reduceLT, Int.reduceNeg, Int.reduceAdd, Int.reduceMul, Int.reduceSub, Int.reduceToNat, inR, Nat.zero_ne_one, false_and, Nat.succ_ne_zero, reduceCtorEq, false_implies, true_implies, not_false_eq_true, not_true_eq_false, Int.reduceEq, KRE, C_Model_isIn, c1', FM]
    repeat (first | refine ⟨by omega, ?_⟩ | refine ⟨fun _ _ => okt_nn (by omega), ?_⟩)
    try (first | (show _ ≤ _; omega) | (show _ < _; omega))
  · have c1' := eq_false c1
    by_cases c2 : b < v
    · rw [if_neg (by omega)]
      have c2' := eq_true c2
      refine callP_of (by decide) (by decide) (Nat.le_of_ble_eq_true rfl) (wpm_of (cuts := []) (by decide) 50 _ _ _ _ ?_)
      rw [show lM m_Model_isIn = 3 from rfl]
      simp (maxSteps := 2000000) only [↓reduceIte, wp_eq, wpd_eq, kont_eq, STP1, STP2, STP3, STP4, STP5, konM_eq, AMK, CZ, Option.map, List.getElem?_cons_zero, List.getElem?_cons_succ, List.mem_cons, List.not_mem_nil, if_false, if_true, Nat.reduceAdd, Nat.reduceLT, Nat.reduceLeDiff, Nat.reduceEqDiff, true_and, and_true, List.length_nil, List.length_cons, or_true, true_or, or_false, false_or, Option.some.injEq, Sum.inl.injEq, Sum.inr.injEq, exists_eq_left', exists_eq_left, Int.reduceLE, Int.reduceLT, Int.reduceNeg, Int.reduceAdd, Int.reduceMul, Int.reduceSub, Int.reduceToNat, inR, Nat.zero_ne_one, false_and, Nat.succ_ne_zero, reduceCtorEq, false_implies, true_implies, not_false_eq_true, not_true_eq_false, Int.reduceEq, KRE, C_Model_isIn, c1', c2', FM]
      repeat (first | refine ⟨by omega, ?_⟩ | refine ⟨fun _ _ => okt_nn (by omega), ?_⟩)
      try (first | (show _ ≤ _; omega) | (show _ < _; omega))
    · rw [if_pos (by omega)]
      have c2' := eq_false c2
      refine callP_of (by decide) (by decide) (Nat.le_of_ble_eq_true rfl) (wpm_of (cuts := []) (by decide) 50 _ _ _ _ ?_)
      rw [show lM m_Model_isIn = 3 from rfl]
      simp (maxSteps := 2000000) only [↓reduceIte, wp_eq, wpd_eq, kont_eq, STP1, STP2, STP3, STP4, STP5, konM_eq, AMK, CZ, Option.map, List.getElem?_cons_zero, List.getElem?_cons_succ, List.mem_cons, List.not_mem_nil, if_false, if_true, Nat.reduceAdd, Nat.reduceLT, Nat.reduceLeDiff, Nat.reduceEqDiff, true_and, and_true, List.length_nil, List.length_cons, or_true, true_or, or_false, false_or, Option.some.injEq, Sum.inl.injEq, Sum.inr.injEq, exists_eq_left', exists_eq_left, Int.reduceLE, Int.reduceLT, Int.reduceNeg, Int.reduceAdd, Int.reduceMul, Int.reduceSub, Int.reduceToNat, inR, Nat.zero_ne_one, false_and, Nat.succ_ne_zero, reduceCtorEq, false_implies, true_implies, not_false_eq_true, not_true_eq_false, Int.reduceEq, KRE, C_Model_isIn, c1', c2', FM]
      repeat (first | refine ⟨by omega, ?_⟩ | refine ⟨fun _ _ => okt_nn (by omega), ?_⟩)
      try (first | (show _ ≤ _; omega) | (show _ < _; omega))
theorem pkS_m {T : Nat → Rw} {A : Rw} {f : Int} {Y : Nat → Int} {lap bnd mrg : Int} {t n : Nat} {x : Pk} (hx : pkR Y n bnd x) (ob : okB (best A (T t) lap)) : pkS T A f Y lap bnd mrg t x = if Y t = -1 ∧ why (best A (T t) lap) bnd mrg = 0 ∧ (0 ≤ f + (best A (T t) lap).2.1 ∧ f + (best A (T t) lap).2.1 ≤ 900) ∧ x.2.2 < (best A (T t) lap).2.2.1 then ((t : Int), f + (best A (T t) lap).2.1, (best A (T t) lap).2.2.1) else x := by
  unfold pkS
  by_cases c : Y t = -1 ∧ why (best A (T t) lap) bnd mrg = 0
  · obtain ⟨g1, g2, g3, g4⟩ := why_0 ob c.2
    refine if_cg ?_ rfl rfl
    rcases hx with rfl | hx
    · simp only
      omega
    · omega
  · rw [if_neg (fun z => c ⟨z.1, z.2.1⟩), if_neg (fun z => c ⟨z.1, z.2.1⟩)]
set_option maxHeartbeats 4000000 in
/-- one round of growing: the best one is picked -/
theorem Model_growNow_r {n : Nat} {T : Nat → Rw} {Y : Nat → Int} {lap bnd mrg least : Int} {a3 a4 a5 a6 : Option AV} {M : Mm} {Qc : Option AV → Mm → Prop} (h : mdl M n T Y lap bnd mrg) (hl : 0 ≤ least ∧ least ≤ 1000)
    (K : ∀ M' a6, FrP (fun b j => b = 154 ∧ 26 ≤ j ∧ j ≤ 41 ∨ 162 ≤ b ∧ b ≤ 168) M M' → WPm m_Model_growNow Qc 125 [some (.inr 154), some (.inl least), some (.inl 1), some (.inl (pk T Y lap least mrg n).1), some (.inl (pk T Y lap least mrg n).2.1), some (.inl (pk T Y lap least mrg n).2.2), a6] [] M') :
    WPm m_Model_growNow Qc 7 [some (.inr 154), some (.inl least), some (.inl 1), a3, a4, a5, a6] [] M := by
  have sep : ∀ b j, (b = 154 ∧ 26 ≤ j ∧ j ≤ 41 ∨ 162 ≤ b ∧ b ≤ 168) → b ≠ 156 ∧ b ≠ 158 := fun b j z => by omega
  have n8 := h.1.2
  have one0 := eq_false (show ¬ (1 : Int) = 0 by omega)
  refine wpm_of (cuts := [27, 125]) (by decide) 50 _ _ _ _ ?_
  simp (maxSteps := 2000000) only [↓reduceIte, wp_eq, wpd_eq, kont_eq, STP1, STP2, STP3, STP4, STP5, konM_eq, AMK, CZ, Option.map, List.getElem?_cons_zero, List.getElem?_cons_succ, List.mem_cons, List.not_mem_nil, if_false, if_true, Nat.reduceAdd, Nat.reduceLT, Nat.reduceLeDiff, Nat.reduceEqDiff, true_and, and_true, List.length_nil, List.length_cons, or_true, true_or, or_false, false_or, Option.some.injEq, Sum.inl.injEq, Sum.inr.injEq, exists_eq_left', exists_eq_left, Int.reduceLE, Int.reduceLT, Int.reduceNeg, Int.reduceAdd, Int.reduceMul, Int.reduceSub, Int.reduceToNat, inR, Nat.zero_ne_one, false_and, Nat.succ_ne_zero, reduceCtorEq, false_implies, true_implies, not_false_eq_true, not_true_eq_false, Int.reduceEq, KRE, C_Model_growNow, FM, one0]
  repeat (first | refine ⟨by omega, ?_⟩ | refine ⟨fun _ _ => okt_nn (by omega), ?_⟩)
  try (first | (show _ ≤ _; omega) | (show _ < _; omega))
  refine (Model_layChronology_ok (wo := -1) h ⟨by omega, by omega⟩).mono (fun M1 z => ?_)
  obtain ⟨rA, e30, F1⟩ := z
  have F1' : FrP (fun b j => b = 154 ∧ 26 ≤ j ∧ j ≤ 41 ∨ 162 ≤ b ∧ b ≤ 168) M M1 := F1.wd (fun b j z => by unfold chrP at z; omega)
  have hc := h.2.2.2
  have rr := chr_R (wo := -1) hc
  have sp := (cSpan_in (wo := -1) hc).1
  try simp (maxSteps := 2000000) only [↓reduceIte, wp_eq, wpd_eq, kont_eq, STP1, STP2, STP3, STP4, STP5, konM_eq, AMK, CZ, Option.map, List.getElem?_cons_zero, List.getElem?_cons_succ, List.mem_cons, List.not_mem_nil, if_false, if_true, Nat.reduceAdd, Nat.reduceLT, Nat.reduceLeDiff, Nat.reduceEqDiff, true_and, and_true, List.length_nil, List.length_cons, or_true, true_or, or_false, false_or, Option.some.injEq, Sum.inl.injEq, Sum.inr.injEq, exists_eq_left', exists_eq_left, Int.reduceLE, Int.reduceLT, Int.reduceNeg, Int.reduceAdd, Int.reduceMul, Int.reduceSub, Int.reduceToNat, inR, Nat.zero_ne_one, false_and, Nat.succ_ne_zero, reduceCtorEq, false_implies, true_implies, not_false_eq_true, not_true_eq_false, Int.reduceEq, KRE, C_Model_growNow]
  refine loopQ n (fun t ls M2 => (rowA M2 (chr T Y (-1) n) ∧ M2 154 30 = (cSpan T Y (-1) n).1 ∧ FrP (fun b j => b = 154 ∧ 26 ≤ j ∧ j ≤ 41 ∨ 162 ≤ b ∧ b ≤ 168) M M2) ∧ ls = [some (.inr 154), some (.inl least), some (.inl 1), some (.inl (foldN (pkS T (chr T Y (-1) n) (cSpan T Y (-1) n).1 Y lap least mrg) (-1, 0, -1) t).1), some (.inl (foldN (pkS T (chr T Y (-1) n) (cSpan T Y (-1) n).1 Y lap least mrg) (-1, 0, -1) t).2.1), some (.inl (foldN (pkS T (chr T Y (-1) n) (cSpan T Y (-1) n).1 Y lap least mrg) (-1, 0, -1) t).2.2), some (.inl (t : Int))]) ?_ _ _ ⟨⟨rA, e30, F1'⟩, rfl⟩
  rintro t _ M2 ht ⟨⟨rA2, e302, F2⟩, rfl⟩ K2
  have h2 := mdl_fr h F2 sep
  have en2 := h2.1.1
  by_cases c : t = n
  · subst c
    have c' := eq_true (show (t : Int) ≤ t by omega)
    have K3 := K M2 (some (.inl (t : Int))) F2
    unfold pk at K3
    refine wpm_of (cuts := [27, 125]) (by decide) 50 _ _ _ _ ?_
    simp (maxSteps := 2000000) only [↓reduceIte, wp_eq, wpd_eq, kont_eq, STP1, STP2, STP3, STP4, STP5, konM_eq, AMK, CZ, Option.map, List.getElem?_cons_zero, List.getElem?_cons_succ, List.mem_cons, List.not_mem_nil, if_false, if_true, Nat.reduceAdd, Nat.reduceLT, Nat.reduceLeDiff, Nat.reduceEqDiff, true_and, and_true, List.length_nil, List.length_cons, or_true, true_or, or_false, false_or, Option.some.injEq, Sum.inl.injEq, Sum.inr.injEq, exists_eq_left', exists_eq_left, Int.reduceLE, Int.reduceLT, Int.reduceNeg, Int.reduceAdd, Int.reduceMul, Int.reduceSub, Int.reduceToNat, inR, Nat.zero_ne_one, false_and, Nat.succ_ne_zero, reduceCtorEq, false_implies, true_implies, not_false_eq_true, not_true_eq_false, Int.reduceEq, KRE, C_Model_growNow, FM, en2, c']
    repeat (first | refine ⟨by omega, ?_⟩ | refine ⟨fun _ _ => okt_nn (by omega), ?_⟩)
    try (first | (show _ ≤ _; omega) | (show _ < _; omega))
    exact K3
  · have htn : t < n := by omega
    have c' := eq_false (show ¬ (n : Int) ≤ t by omega)
    have pr := pk_R (T := T) (A := chr T Y (-1) n) (f := (cSpan T Y (-1) n).1) (Y := Y) (lap := lap) (bnd := least) (mrg := mrg) rr.2 (m := t) (fun u hu => (hc.2 u (by omega)).1)
    have pr' : pkR Y n least (foldN (pkS T (chr T Y (-1) n) (cSpan T Y (-1) n).1 Y lap least mrg) (-1, 0, -1) t) := by
      rcases pr with pr | pr
      · exact Or.inl pr
      · exact Or.inr ⟨by omega, pr.2⟩
    have oT := (hc.2 t htn).1
    have oY := (hc.2 t htn).2
    have lT := oT.1
    have ob := okB_best (A := chr T Y (-1) n) (B := T t) (lap := lap) rr.2 (by omega)
    have K2' := fun M' z => K2 htn _ M' ⟨z, rfl⟩
    rw [show foldN (pkS T (chr T Y (-1) n) (cSpan T Y (-1) n).1 Y lap least mrg) (-1, 0, -1) (t + 1) = pkS T (chr T Y (-1) n) (cSpan T Y (-1) n).1 Y lap least mrg t (foldN (pkS T (chr T Y (-1) n) (cSpan T Y (-1) n).1 Y lap least mrg) (-1, 0, -1) t) from rfl, pkS_m pr' ob, natI] at K2'
    have pb : -1 ≤ (foldN (pkS T (chr T Y (-1) n) (cSpan T Y (-1) n).1 Y lap least mrg) (-1, 0, -1) t).2.2 ∧ (foldN (pkS T (chr T Y (-1) n) (cSpan T Y (-1) n).1 Y lap least mrg) (-1, 0, -1) t).2.2 ≤ 100 := by
      rcases pr' with pr | pr
      · rw [pr]; decide
      · omega
    clear pr
    generalize foldN (pkS T (chr T Y (-1) n) (cSpan T Y (-1) n).1 Y lap least mrg) (-1, 0, -1) t = x at *
    refine wpm_of (cuts := [27, 125]) (by decide) 50 _ _ _ _ ?_
    simp (maxSteps := 2000000) only [↓reduceIte, wp_eq, wpd_eq, kont_eq, STP1, STP2, STP3, STP4, STP5, konM_eq, AMK, CZ, Option.map, List.getElem?_cons_zero, List.getElem?_cons_succ, List.mem_cons, List.not_mem_nil, if_false, if_true, Nat.reduceAdd, Nat.reduceLT, Nat.reduceLeDiff, Nat.reduceEqDiff, true_and, and_true, List.length_nil, List.length_cons, or_true, true_or, or_false, false_or, Option.some.injEq, Sum.inl.injEq, Sum.inr.injEq, exists_eq_left', exists_eq_left, Int.reduceLE, Int.reduceLT, Int.reduceNeg, Int.reduceAdd, Int.reduceMul, Int.reduceSub, Int.reduceToNat, inR, Nat.zero_ne_one, false_and, Nat.succ_ne_zero, reduceCtorEq, false_implies, true_implies, not_false_eq_true, not_true_eq_false, Int.reduceEq, KRE, C_Model_growNow, FM, en2, c']
    repeat (first | refine ⟨by omega, ?_⟩ | refine ⟨fun _ _ => okt_nn (by omega), ?_⟩)
    try (first | (show _ ≤ _; omega) | (show _ < _; omega))
    refine (dated_m h2 htn).eq ?_
    by_cases cY : Y t = -1
    · rw [if_neg (fun z => z cY)]
      try simp (maxSteps := 2000000) only [↓reduceIte, wp_eq, wpd_eq, kont_eq, STP1, STP2, STP3, STP4, STP5, konM_eq, AMK, CZ, Option.map, List.getElem?_cons_zero, List.getElem?_cons_succ, List.mem_cons, List.not_mem_nil, if_false, if_true, Nat.reduceAdd, Nat.reduceLT, Nat.reduceLeDiff, Nat.reduceEqDiff, true_and, and_true, List.length_nil, List.length_cons, or_true, true_or, or_false, false_or, Option.some.injEq, Sum.inl.injEq, Sum.inr.injEq, exists_eq_left', exists_eq_left, Int.reduceLE, Int.reduceLT, Int.reduceNeg, Int.reduceAdd, Int.reduceMul, Int.reduceSub, Int.reduceToNat, inR, Nat.zero_ne_one, false_and, Nat.succ_ne_zero, reduceCtorEq, false_implies, true_implies, not_false_eq_true, not_true_eq_false, Int.reduceEq, KRE, C_Model_growNow]
      repeat (first | refine ⟨by omega, ?_⟩ | refine ⟨fun _ _ => okt_nn (by omega), ?_⟩)
      try (first | (show _ ≤ _; omega) | (show _ < _; omega))
      refine (Model_layB_ok h2 htn).mono (fun M3 z => ?_)
      obtain ⟨rB, F3⟩ := z
      have F3' : FrP (fun b j => b = 154 ∧ 26 ≤ j ∧ j ≤ 41 ∨ 162 ≤ b ∧ b ≤ 168) M2 M3 := F3.wd (fun b j z => by unfold layBP at z; omega)
      have rA3 : rowA M3 (chr T Y (-1) n) := rowA_cells (fun b q1 q2 j => F3 _ _ (by unfold layBP; omega)) (F3 _ _ (by unfold layBP; omega)) (F3 _ _ (by unfold layBP; omega)) rA2
      have h3 := mdl_fr h2 F3' sep
      try simp (maxSteps := 2000000) only [↓reduceIte, wp_eq, wpd_eq, kont_eq, STP1, STP2, STP3, STP4, STP5, konM_eq, AMK, CZ, Option.map, List.getElem?_cons_zero, List.getElem?_cons_succ, List.mem_cons, List.not_mem_nil, if_false, if_true, Nat.reduceAdd, Nat.reduceLT, Nat.reduceLeDiff, Nat.reduceEqDiff, true_and, and_true, List.length_nil, List.length_cons, or_true, true_or, or_false, false_or, Option.some.injEq, Sum.inl.injEq, Sum.inr.injEq, exists_eq_left', exists_eq_left, Int.reduceLE, Int.reduceLT, Int.reduceNeg, Int.reduceAdd, Int.reduceMul, Int.reduceSub, Int.reduceToNat, inR, Nat.zero_ne_one, false_and, Nat.succ_ne_zero, reduceCtorEq, false_implies, true_implies, not_false_eq_true, not_true_eq_false, Int.reduceEq, KRE, C_Model_growNow]
      refine (Model_tellBest_ok h3.2.2.1 rA3 rB hl).mono (fun M4 z => ?_)
      obtain ⟨b1, b2, F4⟩ := z
      have F4' : FrP (fun b j => b = 154 ∧ 26 ≤ j ∧ j ≤ 41 ∨ 162 ≤ b ∧ b ≤ 168) M3 M4 := F4.wd (fun b j z => by unfold bestP at z; omega)
      have rA4 : rowA M4 (chr T Y (-1) n) := rowA_cells (fun b q1 q2 j => F4 _ _ (by unfold bestP; omega)) (F4 _ _ (by unfold bestP; omega)) (F4 _ _ (by unfold bestP; omega)) rA3
      have e304 : M4 154 30 = (cSpan T Y (-1) n).1 := ((F4 _ _ (by unfold bestP; omega)).trans (F3 _ _ (by unfold layBP; omega))).trans e302
      have F5 := (F2.tr F3').tr F4'
      have wi := why_in (best (chr T Y (-1) n) (T t) lap) least mrg
      have KN := K2' M4 ⟨rA4, e304, F5⟩
      by_cases cw : why (best (chr T Y (-1) n) (T t) lap) least mrg = 0
      · obtain ⟨g1, g2, g3, g4⟩ := why_0 ob cw
        obtain ⟨f2, f3, f4⟩ := b1.2.2 g1
        have cw' := eq_true cw
        try simp (maxSteps := 2000000) only [↓reduceIte, wp_eq, wpd_eq, kont_eq, STP1, STP2, STP3, STP4, STP5, konM_eq, AMK, CZ, Option.map, List.getElem?_cons_zero, List.getElem?_cons_succ, List.mem_cons, List.not_mem_nil, if_false, if_true, Nat.reduceAdd, Nat.reduceLT, Nat.reduceLeDiff, Nat.reduceEqDiff, true_and, and_true, List.length_nil, List.length_cons, or_true, true_or, or_false, false_or, Option.some.injEq, Sum.inl.injEq, Sum.inr.injEq, exists_eq_left', exists_eq_left, Int.reduceLE, Int.reduceLT, Int.reduceNeg, Int.reduceAdd, Int.reduceMul, Int.reduceSub, Int.reduceToNat, inR, Nat.zero_ne_one, false_and, Nat.succ_ne_zero, reduceCtorEq, false_implies, true_implies, not_false_eq_true, not_true_eq_false, Int.reduceEq, KRE, C_Model_growNow, FM, b2, cw', e304, f2]
        repeat (first | refine ⟨by omega, ?_⟩ | refine ⟨fun _ _ => okt_nn (by omega), ?_⟩)
        try (first | (show _ ≤ _; omega) | (show _ < _; omega))
        refine (Model_isIn_ok ⟨by omega, by omega⟩ ⟨by omega, by omega⟩ ⟨by omega, by omega⟩).eq ?_
        by_cases ci : 0 ≤ (cSpan T Y (-1) n).1 + (best (chr T Y (-1) n) (T t) lap).2.1 ∧ (cSpan T Y (-1) n).1 + (best (chr T Y (-1) n) (T t) lap).2.1 ≤ 900
        · rw [if_pos ci]
          by_cases cs : x.2.2 < (best (chr T Y (-1) n) (T t) lap).2.2.1
          · rw [if_pos ⟨cY, cw, ci, cs⟩] at KN
            have cs' := eq_true cs
            try simp (maxSteps := 2000000) only [↓reduceIte, wp_eq, wpd_eq, kont_eq, STP1, STP2, STP3, STP4, STP5, konM_eq, AMK, CZ, Option.map, List.getElem?_cons_zero, List.getElem?_cons_succ, List.mem_cons, List.not_mem_nil, if_false, if_true, Nat.reduceAdd, Nat.reduceLT, Nat.reduceLeDiff, Nat.reduceEqDiff, true_and, and_true, List.length_nil, List.length_cons, or_true, true_or, or_false, false_or, Option.some.injEq, Sum.inl.injEq, Sum.inr.injEq, exists_eq_left', exists_eq_left, Int.reduceLE, Int.reduceLT, Int.reduceNeg, Int.reduceAdd, Int.reduceMul, Int.reduceSub, Int.reduceToNat, inR, Nat.zero_ne_one, false_and, Nat.succ_ne_zero, reduceCtorEq, false_implies, true_implies, not_false_eq_true, not_true_eq_false, Int.reduceEq, KRE, C_Model_growNow, FM, f2, f3, e304, cs']
            repeat (first | refine ⟨by omega, ?_⟩ | refine ⟨fun _ _ => okt_nn (by omega), ?_⟩)
            try (first | (show _ ≤ _; omega) | (show _ < _; omega))
            exact KN
          · rw [if_neg (fun z => cs z.2.2.2)] at KN
            have cs' := eq_false cs
            try simp (maxSteps := 2000000) only [↓reduceIte, wp_eq, wpd_eq, kont_eq, STP1, STP2, STP3, STP4, STP5, konM_eq, AMK, CZ, Option.map, List.getElem?_cons_zero, List.getElem?_cons_succ, List.mem_cons, List.not_mem_nil, if_false, if_true, Nat.reduceAdd, Nat.reduceLT, Nat.reduceLeDiff, Nat.reduceEqDiff, true_and, and_true, List.length_nil, List.length_cons, or_true, true_or, or_false, false_or, Option.some.injEq, Sum.inl.injEq, Sum.inr.injEq, exists_eq_left', exists_eq_left, Int.reduceLE, Int.reduceLT, Int.reduceNeg, Int.reduceAdd, Int.reduceMul, Int.reduceSub, Int.reduceToNat, inR, Nat.zero_ne_one, false_and, Nat.succ_ne_zero, reduceCtorEq, false_implies, true_implies, not_false_eq_true, not_true_eq_false, Int.reduceEq, KRE, C_Model_growNow, FM, f2, f3, e304, cs']
            repeat (first | refine ⟨by omega, ?_⟩ | refine ⟨fun _ _ => okt_nn (by omega), ?_⟩)
            try (first | (show _ ≤ _; omega) | (show _ < _; omega))
            exact KN
        · rw [if_neg ci]
          rw [if_neg (fun z => ci z.2.2.1)] at KN
          try simp (maxSteps := 2000000) only [↓reduceIte, wp_eq, wpd_eq, kont_eq, STP1, STP2, STP3, STP4, STP5, konM_eq, AMK, CZ, Option.map, List.getElem?_cons_zero, List.getElem?_cons_succ, List.mem_cons, List.not_mem_nil, if_false, if_true, Nat.reduceAdd, Nat.reduceLT, Nat.reduceLeDiff, Nat.reduceEqDiff, true_and, and_true, List.length_nil, List.length_cons, or_true, true_or, or_false, false_or, Option.some.injEq, Sum.inl.injEq, Sum.inr.injEq, exists_eq_left', exists_eq_left, Int.reduceLE, Int.reduceLT, Int.reduceNeg, Int.reduceAdd, Int.reduceMul, Int.reduceSub, Int.reduceToNat, inR, Nat.zero_ne_one, false_and, Nat.succ_ne_zero, reduceCtorEq, false_implies, true_implies, not_false_eq_true, not_true_eq_false, Int.reduceEq, KRE, C_Model_growNow]
          repeat (first | refine ⟨by omega, ?_⟩ | refine ⟨fun _ _ => okt_nn (by omega), ?_⟩)
          try (first | (show _ ≤ _; omega) | (show _ < _; omega))
          exact KN
      · rw [if_neg (fun z => cw z.2.1)] at KN
        have cw' := eq_false cw
        try simp (maxSteps := 2000000) only [↓reduceIte, wp_eq, wpd_eq, kont_eq, STP1, STP2, STP3, STP4, STP5, konM_eq, AMK, CZ, Option.map, List.getElem?_cons_zero, List.getElem?_cons_succ, List.mem_cons, List.not_mem_nil, if_false, if_true, Nat.reduceAdd, Nat.reduceLT, Nat.reduceLeDiff, Nat.reduceEqDiff, true_and, and_true, List.length_nil, List.length_cons, or_true, true_or, or_false, false_or, Option.some.injEq, Sum.inl.injEq, Sum.inr.injEq, exists_eq_left', exists_eq_left, Int.reduceLE, Int.reduceLT, Int.reduceNeg, Int.reduceAdd, Int.reduceMul, Int.reduceSub, Int.reduceToNat, inR, Nat.zero_ne_one, false_and, Nat.succ_ne_zero, reduceCtorEq, false_implies, true_implies, not_false_eq_true, not_true_eq_false, Int.reduceEq, KRE, C_Model_growNow, FM, b2, cw']
        repeat (first | refine ⟨by omega, ?_⟩ | refine ⟨fun _ _ => okt_nn (by omega), ?_⟩)
        try (first | (show _ ≤ _; omega) | (show _ < _; omega))
        exact KN
    · rw [if_pos cY]
      rw [if_neg (fun z => cY z.1)] at K2'
      try simp (maxSteps := 2000000) only [↓reduceIte, wp_eq, wpd_eq, kont_eq, STP1, STP2, STP3, STP4, STP5, konM_eq, AMK, CZ, Option.map, List.getElem?_cons_zero, List.getElem?_cons_succ, List.mem_cons, List.not_mem_nil, if_false, if_true, Nat.reduceAdd, Nat.reduceLT, Nat.reduceLeDiff, Nat.reduceEqDiff, true_and, and_true, List.length_nil, List.length_cons, or_true, true_or, or_false, false_or, Option.some.injEq, Sum.inl.injEq, Sum.inr.injEq, exists_eq_left', exists_eq_left, Int.reduceLE, Int.reduceLT, Int.reduceNeg, Int.reduceAdd, Int.reduceMul, Int.reduceSub, Int.reduceToNat, inR, Nat.zero_ne_one, false_and, Nat.succ_ne_zero, reduceCtorEq, false_implies, true_implies, not_false_eq_true, not_true_eq_false, Int.reduceEq, KRE, C_Model_growNow]
      repeat (first | refine ⟨by omega, ?_⟩ | refine ⟨fun _ _ => okt_nn (by omega), ?_⟩)
      try (first | (show _ ≤ _; omega) | (show _ < _; omega))
      exact K2' M2 ⟨rA2, e302, F2⟩
set_option maxHeartbeats 600000 in
set_option maxRecDepth 20000 in
theorem Model_growNow_ok {n : Nat} {T : Nat → Rw} {Y : Nat → Int} {lap bnd mrg least : Int} {M : Mm} (h : mdl M n T Y lap bnd mrg) (hl : 0 ≤ least ∧ least ≤ 1000) :
    CallV m_Model_growNow [.inr 154, .inl least] M (fun M' => ∃ c, c ≤ n ∧ gwC T lap least mrg n Y c ∧ grownM M' T lap least mrg n Y c ∧ FrP growP (mYM M (gwY T lap least mrg n Y c) n) M') := by
  have n8 := h.1.2
  have hc := h.2.2.2
  have my0 : mYM M Y n = M := by
    funext b j
    simp only [mYM]
    split
    · rename_i z
      obtain ⟨rfl, z1, z2⟩ := z
      have := (mdl_t h z2).2.1
      rw [← this]
      congr 1
      omega
    · rfl
  refine callP_of (by decide) (by decide) (Nat.le_of_ble_eq_true rfl) (wpm_of (cuts := [7]) (by decide) 50 _ _ _ _ ?_)
  rw [show lM m_Model_growNow = 7 from rfl]
  simp (maxSteps := 2000000) only [↓reduceIte, wp_eq, wpd_eq, kont_eq, STP1, STP2, STP3, STP4, STP5, konM_eq, AMK, CZ, Option.map, List.getElem?_cons_zero, List.getElem?_cons_succ, List.mem_cons, List.not_mem_nil, if_false, if_true, Nat.reduceAdd, Nat.reduceLT, Nat.reduceLeDiff, Nat.reduceEqDiff, true_and, and_true, List.length_nil, List.length_cons, or_true, true_or, or_false, false_or, Option.some.injEq, Sum.inl.injEq, Sum.inr.injEq, exists_eq_left', exists_eq_left, Int.reduceLE, Int.reduceLT, Int.reduceNeg, Int.reduceAdd, Int.reduceMul, Int.reduceSub, Int.reduceToNat, inR, Nat.zero_ne_one, false_and, Nat.succ_ne_zero, reduceCtorEq, false_implies, true_implies, not_false_eq_true, not_true_eq_false, Int.reduceEq, KRE, C_Model_growNow, FM]
  refine loopQ n (fun r ls M1 => ((∀ i, i < r → (gwP T lap least mrg n Y i).1 ≠ -1) ∧ grownM M1 T lap least mrg n Y r ∧ FrP growP (mYM M (gwY T lap least mrg n Y r) n) M1) ∧ ∃ a3 a4 a5 a6, ls = [some (.inr 154), some (.inl least), some (.inl 1), a3, a4, a5, a6]) ?_ _ _ ⟨⟨fun i hi => by omega, ⟨by simp [mset], fun i hi => by omega⟩, ?_⟩, none, none, none, none, rfl⟩
  · rintro r _ M1 hr ⟨⟨g1, g2, F⟩, a3, a4, a5, a6, rfl⟩ K
    obtain ⟨ok1, pr⟩ := gwY_ok (lap := lap) (bnd := least) (mrg := mrg) hc r
    have hm : mdl M1 n T (gwY T lap least mrg n Y r) lap bnd mrg := by
      refine mdl_yr h (fun j => ?_) (fun t ht k hk hk4 => ?_) (fun t ht => ?_) ok1
      · rw [F _ _ (by unfold growP; omega)]; simp [mYM]
      · rw [F _ _ (by unfold growP; omega)]
        simp only [mYM]
        rw [if_neg (by omega)]
      · rw [F _ _ (by unfold growP; omega)]
        simp only [mYM]
        rw [if_pos (by first | exact ⟨rfl, by omega, by omega⟩ | exact ⟨trivial, by omega, by omega⟩ | (simp; omega))]
        congr 1
        omega
    refine Model_growNow_r hm hl (fun M2 b6 F2 => ?_)
    have ep : pk T (gwY T lap least mrg n Y r) lap least mrg n = gwP T lap least mrg n Y r := rfl
    rw [ep]
    have F2' : FrP growP M1 M2 := F2.wd (fun b j z => by unfold growP; omega)
    have g22 : grownM M2 T lap least mrg n Y r := by
      obtain ⟨q1, q2⟩ := g2
      refine ⟨(F2 _ _ (by omega)).trans q1, fun i hi => ?_⟩
      rw [F2 _ _ (by omega), F2 _ _ (by omega), F2 _ _ (by omega)]
      exact q2 i hi
    by_cases cp : (gwP T lap least mrg n Y r).1 = -1
    · have cp' := eq_true cp
      have out : ∀ a3 a4 a5 a6, WPm m_Model_growNow (fun v M' => v = none ∧ ∃ c, c ≤ n ∧ gwC T lap least mrg n Y c ∧ grownM M' T lap least mrg n Y c ∧ FrP growP (mYM M (gwY T lap least mrg n Y c) n) M') 7 [some (.inr 154), some (.inl least), some (.inl 0), a3, a4, a5, a6] [] M2 := by
        intro a3 a4 a5 a6
        refine wpm_of (cuts := []) (by decide) 50 _ _ _ _ ?_
        simp (maxSteps := 2000000) only [↓reduceIte, wp_eq, wpd_eq, kont_eq, STP1, STP2, STP3, STP4, STP5, konM_eq, AMK, CZ, Option.map, List.getElem?_cons_zero, List.getElem?_cons_succ, List.mem_cons, List.not_mem_nil, if_false, if_true, Nat.reduceAdd, Nat.reduceLT, Nat.reduceLeDiff, Nat.reduceEqDiff, true_and, and_true, List.length_nil, List.length_cons, or_true, true_or, or_false, false_or, Option.some.injEq, Sum.inl.injEq, Sum.inr.injEq, exists_eq_left', exists_eq_left, Int.reduceLE, Int.reduceLT, Int.reduceNeg, Int.reduceAdd, Int.reduceMul, Int.reduceSub, Int.reduceToNat, inR, Nat.zero_ne_one, false_and, Nat.succ_ne_zero, reduceCtorEq, false_implies, true_implies, not_false_eq_true, not_true_eq_false, Int.reduceEq, KRE, C_Model_growNow, FM]
        exact ⟨r, hr, ⟨g1, cp⟩, g22, F.tr F2'⟩
      refine wpm_of (cuts := [7]) (by decide) 50 _ _ _ _ ?_
      simp (maxSteps := 2000000) only [↓reduceIte, wp_eq, wpd_eq, kont_eq, STP1, STP2, STP3, STP4, STP5, konM_eq, AMK, CZ, Option.map, List.getElem?_cons_zero, List.getElem?_cons_succ, List.mem_cons, List.not_mem_nil, if_false, if_true, Nat.reduceAdd, Nat.reduceLT, Nat.reduceLeDiff, Nat.reduceEqDiff, true_and, and_true, List.length_nil, List.length_cons, or_true, true_or, or_false, false_or, Option.some.injEq, Sum.inl.injEq, Sum.inr.injEq, exists_eq_left', exists_eq_left, Int.reduceLE, Int.reduceLT, Int.reduceNeg, Int.reduceAdd, Int.reduceMul, Int.reduceSub, Int.reduceToNat, inR, Nat.zero_ne_one, false_and, Nat.succ_ne_zero, reduceCtorEq, false_implies, true_implies, not_false_eq_true, not_true_eq_false, Int.reduceEq, KRE, C_Model_growNow, cp', FM]
      repeat (first | refine ⟨by omega, ?_⟩ | refine ⟨fun _ _ => okt_nn (by omega), ?_⟩)
      try (first | (show _ ≤ _; omega) | (show _ < _; omega))
      exact out _ _ _ _
    · have cp' := eq_false cp
      have gn := gwC_n (lap := lap) (bnd := least) (mrg := mrg) (c := r + 1) hc (fun i hi => by
        by_cases e : i = r
        · rw [e]; exact cp
        · exact g1 i (by omega))
      rcases pr with pr | pr
      · exact absurd (congrArg Prod.fst pr) cp
      · obtain ⟨p1, p2, p3, p4, p5⟩ := pr
        have eY := gwY_succ cp
        have q55 := g22.1
        have one0 := eq_false (show ¬ (1 : Int) = 0 by omega)
        have K' := K (by omega) _ (mset (mset (mset (mset (mset M2 158 (30 * (gwP T lap least mrg n Y r).1 + 4).toNat (gwP T lap least mrg n Y r).2.1) 177 r (gwP T lap least mrg n Y r).1) 178 r (gwP T lap least mrg n Y r).2.1) 179 r (gwP T lap least mrg n Y r).2.2) 154 55 ((r : Int) + 1)) ⟨⟨fun i hi => ?_, ⟨?_, fun i hi => ?_⟩, ?_⟩, some (.inl (gwP T lap least mrg n Y r).1), some (.inl (gwP T lap least mrg n Y r).2.1), some (.inl (gwP T lap least mrg n Y r).2.2), b6, rfl⟩
        · refine wpm_of (cuts := [7]) (by decide) 80 _ _ _ _ ?_
          simp (maxSteps := 2000000) only [↓reduceIte, wp_eq, wpd_eq, kont_eq, STP1, STP2, STP3, STP4, STP5, konM_eq, AMK, CZ, Option.map, List.getElem?_cons_zero, List.getElem?_cons_succ, List.mem_cons, List.not_mem_nil, if_false, if_true, Nat.reduceAdd, Nat.reduceLT, Nat.reduceLeDiff, Nat.reduceEqDiff, true_and, and_true, List.length_nil, List.length_cons, or_true, true_or, or_false, false_or, Option.some.injEq, Sum.inl.injEq, Sum.inr.injEq, exists_eq_left', exists_eq_left, Int.reduceLE, Int.reduceLT, Int.reduceNeg, Int.reduceAdd, Int.reduceMul, Int.reduceSub, Int.reduceToNat, inR, Nat.zero_ne_one, false_and, Nat.succ_ne_zero, reduceCtorEq, false_implies, true_implies, not_false_eq_true, not_true_eq_false, Int.reduceEq, KRE, C_Model_growNow, FM, cp', one0, q55, natT, MSE]
          repeat (first | refine ⟨by omega, ?_⟩ | refine ⟨fun _ _ => okt_nn (by omega), ?_⟩)
          try (first | (show _ ≤ _; omega) | (show _ < _; omega))
          exact K'
        · by_cases e : i = r
          · rw [e]; exact cp
          · exact g1 i (by omega)
        · simp [mset]
        · by_cases e : i = r
          · subst e
            simp [mset]
          · have := g22.2 i (by omega)
            simp only [mset]
            simpa [e] using this
        · intro b j z
          unfold growP at z
          by_cases cb : b = 158
          · subst cb
            simp only [mset]
            rw [if_neg (by omega), if_neg (by omega), if_neg (by omega), if_neg (by omega)]
            have FF := (F.tr F2') 158 j (by unfold growP; omega)
            rw [FF, eY]
            simp only [mYM, updI]
            by_cases cj : j = (30 * (gwP T lap least mrg n Y r).1 + 4).toNat
            · rw [if_pos ⟨trivial, cj⟩, if_pos (by first | exact ⟨rfl, by omega, by omega⟩ | exact ⟨trivial, by omega, by omega⟩ | (simp; omega)), if_pos (by omega)]
            · rw [if_neg (fun w => cj w.2)]
              by_cases cj2 : j % 30 = 4 ∧ j / 30 < n
              · rw [if_pos ⟨trivial, cj2⟩, if_pos ⟨trivial, cj2⟩, if_neg (by omega)]
              · rw [if_neg (fun w => cj2 w.2), if_neg (fun w => cj2 w.2)]
          · simp only [mset]
            rw [if_neg (by omega), if_neg (by omega), if_neg (by omega), if_neg (by omega), if_neg (by omega)]
            have FF := (F.tr F2') b j (by unfold growP; omega)
            rw [FF]
            simp [mYM, cb]
  · have e := my0
    show FrP growP (mYM M Y n) _
    rw [e]
    exact FrP.rf.st (by unfold growP; omega)
def grownP : Nat → Nat → Prop := fun b j => growP b j ∨ b = 180
set_option maxHeartbeats 600000 in
set_option maxRecDepth 20000 in
theorem Model_tellGrown_ok {n : Nat} {T : Nat → Rw} {Y : Nat → Int} {lap bnd mrg : Int} {M : Mm} (h : mdl M n T Y lap bnd mrg) :
    CallV m_Model_tellGrown [.inr 154] M (fun M' => ∃ c, c ≤ n ∧ gwC T lap bnd mrg n Y c ∧ grownM M' T lap bnd mrg n Y c ∧ FrP grownP M M') := by
  have n8 := h.1.2
  have hb := h.2.2.1.1.2
  refine callP_of (by decide) (by decide) (Nat.le_of_ble_eq_true rfl) (wpm_of (cuts := []) (by decide) 50 _ _ _ _ ?_)
  rw [show lM m_Model_tellGrown = 1 from rfl]
  simp (maxSteps := 2000000) only [↓reduceIte, wp_eq, wpd_eq, kont_eq, STP1, STP2, STP3, STP4, STP5, konM_eq, AMK, CZ, Option.map, List.getElem?_cons_zero, List.getElem?_cons_succ, List.mem_cons, List.not_mem_nil, if_false, if_true, Nat.reduceAdd, Nat.reduceLT, Nat.reduceLeDiff, Nat.reduceEqDiff, true_and, and_true, List.length_nil, List.length_cons, or_true, true_or, or_false, false_or, Option.some.injEq, Sum.inl.injEq, Sum.inr.injEq, exists_eq_left', exists_eq_left, Int.reduceLE, Int.reduceLT, Int.reduceNeg, Int.reduceAdd, Int.reduceMul, Int.reduceSub, Int.reduceToNat, inR, Nat.zero_ne_one, false_and, Nat.succ_ne_zero, reduceCtorEq, false_implies, true_implies, not_false_eq_true, not_true_eq_false, Int.reduceEq, KRE, C_Model_tellGrown, FM]
  refine (Model_copyTo_ok (a := 180) (f := 158) (n := 240) (by simp only [FM]) (by simp only [FM]) (by omega) (by omega)).eq ?_
  have F1 : FrP (fun b _ => b = 180) M (mCpR M 180 158 240) := fun b j z => by simp [mCpR, z]
  have h1 := mdl_fr h F1 (fun b j z => by omega)
  try simp (maxSteps := 2000000) only [↓reduceIte, wp_eq, wpd_eq, kont_eq, STP1, STP2, STP3, STP4, STP5, konM_eq, AMK, CZ, Option.map, List.getElem?_cons_zero, List.getElem?_cons_succ, List.mem_cons, List.not_mem_nil, if_false, if_true, Nat.reduceAdd, Nat.reduceLT, Nat.reduceLeDiff, Nat.reduceEqDiff, true_and, and_true, List.length_nil, List.length_cons, or_true, true_or, or_false, false_or, Option.some.injEq, Sum.inl.injEq, Sum.inr.injEq, exists_eq_left', exists_eq_left, Int.reduceLE, Int.reduceLT, Int.reduceNeg, Int.reduceAdd, Int.reduceMul, Int.reduceSub, Int.reduceToNat, inR, Nat.zero_ne_one, false_and, Nat.succ_ne_zero, reduceCtorEq, false_implies, true_implies, not_false_eq_true, not_true_eq_false, Int.reduceEq, KRE, C_Model_tellGrown]
  refine (Model_bound_ok h1.2.2.1).eq ?_
  try simp (maxSteps := 2000000) only [↓reduceIte, wp_eq, wpd_eq, kont_eq, STP1, STP2, STP3, STP4, STP5, konM_eq, AMK, CZ, Option.map, List.getElem?_cons_zero, List.getElem?_cons_succ, List.mem_cons, List.not_mem_nil, if_false, if_true, Nat.reduceAdd, Nat.reduceLT, Nat.reduceLeDiff, Nat.reduceEqDiff, true_and, and_true, List.length_nil, List.length_cons, or_true, true_or, or_false, false_or, Option.some.injEq, Sum.inl.injEq, Sum.inr.injEq, exists_eq_left', exists_eq_left, Int.reduceLE, Int.reduceLT, Int.reduceNeg, Int.reduceAdd, Int.reduceMul, Int.reduceSub, Int.reduceToNat, inR, Nat.zero_ne_one, false_and, Nat.succ_ne_zero, reduceCtorEq, false_implies, true_implies, not_false_eq_true, not_true_eq_false, Int.reduceEq, KRE, C_Model_tellGrown]
  refine (Model_growNow_ok h1 (by omega)).mono (fun M2 z => ?_)
  obtain ⟨c, hc, g1, g2, F2⟩ := z
  try simp (maxSteps := 2000000) only [↓reduceIte, wp_eq, wpd_eq, kont_eq, STP1, STP2, STP3, STP4, STP5, konM_eq, AMK, CZ, Option.map, List.getElem?_cons_zero, List.getElem?_cons_succ, List.mem_cons, List.not_mem_nil, if_false, if_true, Nat.reduceAdd, Nat.reduceLT, Nat.reduceLeDiff, Nat.reduceEqDiff, true_and, and_true, List.length_nil, List.length_cons, or_true, true_or, or_false, false_or, Option.some.injEq, Sum.inl.injEq, Sum.inr.injEq, exists_eq_left', exists_eq_left, Int.reduceLE, Int.reduceLT, Int.reduceNeg, Int.reduceAdd, Int.reduceMul, Int.reduceSub, Int.reduceToNat, inR, Nat.zero_ne_one, false_and, Nat.succ_ne_zero, reduceCtorEq, false_implies, true_implies, not_false_eq_true, not_true_eq_false, Int.reduceEq, KRE, C_Model_tellGrown, FM]
  refine (Model_copyTo_ok (a := 158) (f := 180) (n := 240) (by simp only [FM]) (by simp only [FM]) (by omega) (by omega)).eq ?_
  try simp (maxSteps := 2000000) only [↓reduceIte, wp_eq, wpd_eq, kont_eq, STP1, STP2, STP3, STP4, STP5, konM_eq, AMK, CZ, Option.map, List.getElem?_cons_zero, List.getElem?_cons_succ, List.mem_cons, List.not_mem_nil, if_false, if_true, Nat.reduceAdd, Nat.reduceLT, Nat.reduceLeDiff, Nat.reduceEqDiff, true_and, and_true, List.length_nil, List.length_cons, or_true, true_or, or_false, false_or, Option.some.injEq, Sum.inl.injEq, Sum.inr.injEq, exists_eq_left', exists_eq_left, Int.reduceLE, Int.reduceLT, Int.reduceNeg, Int.reduceAdd, Int.reduceMul, Int.reduceSub, Int.reduceToNat, inR, Nat.zero_ne_one, false_and, Nat.succ_ne_zero, reduceCtorEq, false_implies, true_implies, not_false_eq_true, not_true_eq_false, Int.reduceEq, KRE, C_Model_tellGrown]
  refine ⟨c, hc, g1, ⟨?_, fun i hi => ?_⟩, ?_⟩
  · have := g2.1
    simpa [mCpR] using this
  · have := g2.2 i hi
    simpa [mCpR] using this
  · intro b j z
    unfold grownP at z
    by_cases cb : b = 158
    · subst cb
      by_cases cj : j < 240
      · have e1 : mCpR M2 158 180 240 158 j = M2 180 j := by simp [mCpR, cj]
        rw [e1, F2 180 j (by unfold growP; omega)]
        simp [mYM, mCpR, cj]
      · have e1 : mCpR M2 158 180 240 158 j = M2 158 j := by simp [mCpR, cj]
        rw [e1, F2 158 j (by unfold growP; omega)]
        simp only [mYM, mCpR]
        rw [if_neg (by omega), if_neg (by omega)]
    · have e1 : mCpR M2 158 180 240 b j = M2 b j := by simp [mCpR, cb]
      rw [e1, F2 b j (fun w => z (Or.inl w))]
      simp only [mYM, mCpR]
      rw [if_neg (fun w => cb w.1), if_neg (fun w => z (Or.inr w.1))]

/-! THE REFERENCE, 8: felled, built, houses, pointers. -/
theorem fMaxF_congr {p q : Nat → Prop} [DecidablePred p] [DecidablePred q] {f g : Nat → Int} {n : Nat} (h : ∀ t, t < n → (p t ↔ q t)) (e : ∀ t, t < n → f t = g t) : fMaxF p f n = fMaxF q g n := by
  unfold fMaxF
  exact foldN_congr (fun t ht x => by rw [e t ht, if_cg (h t ht) rfl rfl])
theorem fMinF_congr {p q : Nat → Prop} [DecidablePred p] [DecidablePred q] {f g : Nat → Int} {n : Nat} (h : ∀ t, t < n → (p t ↔ q t)) (e : ∀ t, t < n → f t = g t) : fMinF p f n = fMinF q g n := by
  unfold fMinF
  exact foldN_congr (fun t ht x => by rw [e t ht, if_cg (and_congr_left' (h t ht)) rfl rfl])
section MOD8
variable {n : Nat} {T : Nat → Rw} {Y : Nat → Int} {lap bnd mrg : Int} {M : Mm}
theorem felS_in {c t : Nat} (h : mdl M n T Y lap bnd mrg) (ht : t < n) (hc : c = 1 ∨ c = 2) : 0 ≤ felS T Y (fun t => M 158 (30 * t + c)) t ∧ felS T Y (fun t => M 158 (30 * t + c)) t ≤ 953 := by
  have g := mdl_t h ht
  have o1 := g.2.2.2.1.1
  have gy := g.2.2.2.2.1
  obtain ⟨w1, w2, -⟩ := g.2.2.2.2.2.1
  unfold felS
  simp only
  rcases hc with rfl | rfl <;> omega
set_option maxHeartbeats 600000 in
set_option maxRecDepth 20000 in
theorem Model_felled_ok {c t : Nat} {x : Int} (h : mdl M n T Y lap bnd mrg) (ht : t < n) (hc : c = 1 ∨ c = 2) (hx : x = c) : CallI m_Model_felled [.inr 154, .inl (t : Int), .inl x] M (fun y M' => y = felS T Y (fun t => M 158 (30 * t + c)) t ∧ M' = M) := by
  subst hx
  have n8 := h.1.2
  refine callP_of (by decide) (by decide) (Nat.le_of_ble_eq_true rfl) (wpm_of (cuts := []) (by decide) 50 _ _ _ _ ?_)
  rw [show lM m_Model_felled = 3 from rfl]
  simp (maxSteps := 2000000) only [↓reduceIte, wp_eq, wpd_eq, kont_eq, STP1, STP2, STP3, STP4, STP5, konM_eq, AMK, CZ, Option.map, List.getElem?_cons_zero, List.getElem?_cons_succ, List.mem_cons, List.not_mem_nil, if_false, if_true, Nat.reduceAdd, Nat.reduceLT, Nat.reduceLeDiff, Nat.reduceEqDiff, true_and, and_true, List.length_nil, List.length_cons, or_true, true_or, or_false, false_or, Option.some.injEq, Sum.inl.injEq, Sum.inr.injEq, exists_eq_left', exists_eq_left, Int.reduceLE, Int.reduceLT, Int.reduceNeg, Int.reduceAdd, Int.reduceMul, Int.reduceSub, Int.reduceToNat, inR, Nat.zero_ne_one, false_and, Nat.succ_ne_zero, reduceCtorEq, false_implies, true_implies, not_false_eq_true, not_true_eq_false, Int.reduceEq, KRE, C_Model_felled, FM]
  refine (of_year h ht).eq ?_
  try simp (maxSteps := 2000000) only [↓reduceIte, wp_eq, wpd_eq, kont_eq, STP1, STP2, STP3, STP4, STP5, konM_eq, AMK, CZ, Option.map, List.getElem?_cons_zero, List.getElem?_cons_succ, List.mem_cons, List.not_mem_nil, if_false, if_true, Nat.reduceAdd, Nat.reduceLT, Nat.reduceLeDiff, Nat.reduceEqDiff, true_and, and_true, List.length_nil, List.length_cons, or_true, true_or, or_false, false_or, Option.some.injEq, Sum.inl.injEq, Sum.inr.injEq, exists_eq_left', exists_eq_left, Int.reduceLE, Int.reduceLT, Int.reduceNeg, Int.reduceAdd, Int.reduceMul, Int.reduceSub, Int.reduceToNat, inR, Nat.zero_ne_one, false_and, Nat.succ_ne_zero, reduceCtorEq, false_implies, true_implies, not_false_eq_true, not_true_eq_false, Int.reduceEq, KRE, C_Model_felled]
  refine (of_many h ht).eq ?_
  try simp (maxSteps := 2000000) only [↓reduceIte, wp_eq, wpd_eq, kont_eq, STP1, STP2, STP3, STP4, STP5, konM_eq, AMK, CZ, Option.map, List.getElem?_cons_zero, List.getElem?_cons_succ, List.mem_cons, List.not_mem_nil, if_false, if_true, Nat.reduceAdd, Nat.reduceLT, Nat.reduceLeDiff, Nat.reduceEqDiff, true_and, and_true, List.length_nil, List.length_cons, or_true, true_or, or_false, false_or, Option.some.injEq, Sum.inl.injEq, Sum.inr.injEq, exists_eq_left', exists_eq_left, Int.reduceLE, Int.reduceLT, Int.reduceNeg, Int.reduceAdd, Int.reduceMul, Int.reduceSub, Int.reduceToNat, inR, Nat.zero_ne_one, false_and, Nat.succ_ne_zero, reduceCtorEq, false_implies, true_implies, not_false_eq_true, not_true_eq_false, Int.reduceEq, KRE, C_Model_felled]
  refine (of_k (by omega) c (by omega) rfl).eq ?_
  try simp (maxSteps := 2000000) only [↓reduceIte, wp_eq, wpd_eq, kont_eq, STP1, STP2, STP3, STP4, STP5, konM_eq, AMK, CZ, Option.map, List.getElem?_cons_zero, List.getElem?_cons_succ, List.mem_cons, List.not_mem_nil, if_false, if_true, Nat.reduceAdd, Nat.reduceLT, Nat.reduceLeDiff, Nat.reduceEqDiff, true_and, and_true, List.length_nil, List.length_cons, or_true, true_or, or_false, false_or, Option.some.injEq, Sum.inl.injEq, Sum.inr.injEq, exists_eq_left', exists_eq_left, Int.reduceLE, Int.reduceLT, Int.reduceNeg, Int.reduceAdd, Int.reduceMul, Int.reduceSub, Int.reduceToNat, inR, Nat.zero_ne_one, false_and, Nat.succ_ne_zero, reduceCtorEq, false_implies, true_implies, not_false_eq_true, not_true_eq_false, Int.reduceEq, KRE, C_Model_felled]
  rfl
set_option maxHeartbeats 600000 in
set_option maxRecDepth 20000 in
theorem Model_datedSet_ok (h : mdl M n T Y lap bnd mrg) : CallI m_Model_datedSet [.inr 154] M (fun x M' => x = fBit (fun t => Y t ≠ -1) n ∧ M' = M) := by
  have en := h.1.1
  have n8 := h.1.2
  refine callP_of (by decide) (by decide) (Nat.le_of_ble_eq_true rfl) (wpm_of (cuts := [4]) (by decide) 50 _ _ _ _ ?_)
  rw [show lM m_Model_datedSet = 3 from rfl]
  simp (maxSteps := 2000000) only [↓reduceIte, wp_eq, wpd_eq, kont_eq, STP1, STP2, STP3, STP4, STP5, konM_eq, AMK, CZ, Option.map, List.getElem?_cons_zero, List.getElem?_cons_succ, List.mem_cons, List.not_mem_nil, if_false, if_true, Nat.reduceAdd, Nat.reduceLT, Nat.reduceLeDiff, Nat.reduceEqDiff, true_and, and_true, List.length_nil, List.length_cons, or_true, true_or, or_false, false_or, Option.some.injEq, Sum.inl.injEq, Sum.inr.injEq, exists_eq_left', exists_eq_left, Int.reduceLE, Int.reduceLT, Int.reduceNeg, Int.reduceAdd, Int.reduceMul, Int.reduceSub, Int.reduceToNat, inR, Nat.zero_ne_one, false_and, Nat.succ_ne_zero, reduceCtorEq, false_implies, true_implies, not_false_eq_true, not_true_eq_false, Int.reduceEq, KRE, C_Model_datedSet, FM]
  refine loopQ n (fun k ls M1 => M = M1 ∧ ls = [some (.inr 154), some (.inl (fBit (fun t => Y t ≠ -1) k)), some (.inl (k : Int))]) ?_ _ _ ⟨rfl, rfl⟩
  rintro k _ _ hk ⟨rfl, rfl⟩ K
  by_cases c : k = n
  · subst c
    have c' := eq_true (show (k : Int) ≤ k by omega)
    refine wpm_of (cuts := [4]) (by decide) 50 _ _ _ _ ?_
    simp (maxSteps := 2000000) only [↓reduceIte, wp_eq, wpd_eq, kont_eq, STP1, STP2, STP3, STP4, STP5, konM_eq, AMK, CZ, Option.map, List.getElem?_cons_zero, List.getElem?_cons_succ, List.mem_cons, List.not_mem_nil, if_false, if_true, Nat.reduceAdd, Nat.reduceLT, Nat.reduceLeDiff, Nat.reduceEqDiff, true_and, and_true, List.length_nil, List.length_cons, or_true, true_or, or_false, false_or, Option.some.injEq, Sum.inl.injEq, Sum.inr.injEq, exists_eq_left', exists_eq_left, Int.reduceLE, Int.reduceLT, Int.reduceNeg, Int.reduceAdd, Int.reduceMul, Int.reduceSub, Int.reduceToNat, inR, Nat.zero_ne_one, false_and, Nat.succ_ne_zero, reduceCtorEq, false_implies, true_implies, not_false_eq_true, not_true_eq_false, Int.reduceEq, KRE, C_Model_datedSet, FM, en, c']
    repeat (first | refine ⟨by omega, ?_⟩ | refine ⟨fun _ _ => okt_nn (by omega), ?_⟩)
    try (first | (show _ ≤ _; omega) | (show _ < _; omega))
  · have hlt : k < n := by omega
    have c' := eq_false (show ¬ (n : Int) ≤ k by omega)
    have K' := K hlt _ _ ⟨rfl, rfl⟩
    rw [fBit_succ] at K'
    refine wpm_of (cuts := [4]) (by decide) 50 _ _ _ _ ?_
    simp (maxSteps := 2000000) only [↓reduceIte, wp_eq, wpd_eq, kont_eq, STP1, STP2, STP3, STP4, STP5, konM_eq, AMK, CZ, Option.map, List.getElem?_cons_zero, List.getElem?_cons_succ, List.mem_cons, List.not_mem_nil, if_false, if_true, Nat.reduceAdd, Nat.reduceLT, Nat.reduceLeDiff, Nat.reduceEqDiff, true_and, and_true, List.length_nil, List.length_cons, or_true, true_or, or_false, false_or, Option.some.injEq, Sum.inl.injEq, Sum.inr.injEq, exists_eq_left', exists_eq_left, Int.reduceLE, Int.reduceLT, Int.reduceNeg, Int.reduceAdd, Int.reduceMul, Int.reduceSub, Int.reduceToNat, inR, Nat.zero_ne_one, false_and, Nat.succ_ne_zero, reduceCtorEq, false_implies, true_implies, not_false_eq_true, not_true_eq_false, Int.reduceEq, KRE, C_Model_datedSet, FM, en, c']
    repeat (first | refine ⟨by omega, ?_⟩ | refine ⟨fun _ _ => okt_nn (by omega), ?_⟩)
    try (first | (show _ ≤ _; omega) | (show _ < _; omega))
    refine (dated_m h hlt).eq ?_
    by_cases cY : Y k = -1
    · rw [if_neg (fun z => z cY)]
      rw [if_neg (fun z => z cY)] at K'
      try simp (maxSteps := 2000000) only [↓reduceIte, wp_eq, wpd_eq, kont_eq, STP1, STP2, STP3, STP4, STP5, konM_eq, AMK, CZ, Option.map, List.getElem?_cons_zero, List.getElem?_cons_succ, List.mem_cons, List.not_mem_nil, if_false, if_true, Nat.reduceAdd, Nat.reduceLT, Nat.reduceLeDiff, Nat.reduceEqDiff, true_and, and_true, List.length_nil, List.length_cons, or_true, true_or, or_false, false_or, Option.some.injEq, Sum.inl.injEq, Sum.inr.injEq, exists_eq_left', exists_eq_left, Int.reduceLE, Int.reduceLT, Int.reduceNeg, Int.reduceAdd, Int.reduceMul, Int.reduceSub, Int.reduceToNat, inR, Nat.zero_ne_one, false_and, Nat.succ_ne_zero, reduceCtorEq, false_implies, true_implies, not_false_eq_true, not_true_eq_false, Int.reduceEq, KRE, C_Model_datedSet]
      repeat (first | refine ⟨by omega, ?_⟩ | refine ⟨fun _ _ => okt_nn (by omega), ?_⟩)
      try (first | (show _ ≤ _; omega) | (show _ < _; omega))
      exact K'
    · rw [if_pos cY]
      rw [if_pos cY] at K'
      try simp (maxSteps := 2000000) only [↓reduceIte, wp_eq, wpd_eq, kont_eq, STP1, STP2, STP3, STP4, STP5, konM_eq, AMK, CZ, Option.map, List.getElem?_cons_zero, List.getElem?_cons_succ, List.mem_cons, List.not_mem_nil, if_false, if_true, Nat.reduceAdd, Nat.reduceLT, Nat.reduceLeDiff, Nat.reduceEqDiff, true_and, and_true, List.length_nil, List.length_cons, or_true, true_or, or_false, false_or, Option.some.injEq, Sum.inl.injEq, Sum.inr.injEq, exists_eq_left', exists_eq_left, Int.reduceLE, Int.reduceLT, Int.reduceNeg, Int.reduceAdd, Int.reduceMul, Int.reduceSub, Int.reduceToNat, inR, Nat.zero_ne_one, false_and, Nat.succ_ne_zero, reduceCtorEq, false_implies, true_implies, not_false_eq_true, not_true_eq_false, Int.reduceEq, KRE, C_Model_datedSet]
      repeat (first | refine ⟨by omega, ?_⟩ | refine ⟨fun _ _ => okt_nn (by omega), ?_⟩)
      try (first | (show _ ≤ _; omega) | (show _ < _; omega))
      exact K'
set_option maxHeartbeats 600000 in
set_option maxRecDepth 20000 in
theorem Model_edgeOf_ok {S : Int} (h : mdl M n T Y lap bnd mrg) : CallI m_Model_edgeOf [.inr 154, .inl S] M (fun x M' => x = fMaxF (fun t => btI S t = true ∧ Y t ≠ -1) (felS T Y (fun t => M 158 (30 * t + 1))) n ∧ M' = M) := by
  have en := h.1.1
  have n8 := h.1.2
  have b1 : ∀ k : Nat, k < 32 → bAnd (bShr S k) 1 = if btI S k then 1 else 0 := fun k hk => bit_test S hk
  refine callP_of (by decide) (by decide) (Nat.le_of_ble_eq_true rfl) (wpm_of (cuts := [4]) (by decide) 50 _ _ _ _ ?_)
  rw [show lM m_Model_edgeOf = 4 from rfl]
  simp (maxSteps := 2000000) only [↓reduceIte, wp_eq, wpd_eq, kont_eq, STP1, STP2, STP3, STP4, STP5, konM_eq, AMK, CZ, Option.map, List.getElem?_cons_zero, List.getElem?_cons_succ, List.mem_cons, List.not_mem_nil, if_false, if_true, Nat.reduceAdd, Nat.reduceLT, Nat.reduceLeDiff, Nat.reduceEqDiff, true_and, and_true, List.length_nil, List.length_cons, or_true, true_or, or_false, false_or, Option.some.injEq, Sum.inl.injEq, Sum.inr.injEq, exists_eq_left', exists_eq_left, Int.reduceLE, Int.reduceLT, Int.reduceNeg, Int.reduceAdd, Int.reduceMul, Int.reduceSub, Int.reduceToNat, inR, Nat.zero_ne_one, false_and, Nat.succ_ne_zero, reduceCtorEq, false_implies, true_implies, not_false_eq_true, not_true_eq_false, Int.reduceEq, KRE, C_Model_edgeOf, FM]
  refine loopQ n (fun k ls M1 => M = M1 ∧ ls = [some (.inr 154), some (.inl S), some (.inl (fMaxF (fun t => btI S t = true ∧ Y t ≠ -1) (felS T Y (fun t => M 158 (30 * t + 1))) k)), some (.inl (k : Int))]) ?_ _ _ ⟨rfl, rfl⟩
  rintro k _ _ hk ⟨rfl, rfl⟩ K
  by_cases c : k = n
  · subst c
    have c' := eq_true (show (k : Int) ≤ k by omega)
    refine wpm_of (cuts := [4]) (by decide) 50 _ _ _ _ ?_
    simp (maxSteps := 2000000) only [↓reduceIte, wp_eq, wpd_eq, kont_eq, STP1, STP2, STP3, STP4, STP5, konM_eq, AMK, CZ, Option.map, List.getElem?_cons_zero, List.getElem?_cons_succ, List.mem_cons, List.not_mem_nil, if_false, if_true, Nat.reduceAdd, Nat.reduceLT, Nat.reduceLeDiff, Nat.reduceEqDiff, true_and, and_true, List.length_nil, List.length_cons, or_true, true_or, or_false, false_or, Option.some.injEq, Sum.inl.injEq, Sum.inr.injEq, exists_eq_left', exists_eq_left, Int.reduceLE, Int.reduceLT, Int.reduceNeg, Int.reduceAdd, Int.reduceMul, Int.reduceSub, Int.reduceToNat, inR, Nat.zero_ne_one, false_and, Nat.succ_ne_zero, reduceCtorEq, false_implies, true_implies, not_false_eq_true, not_true_eq_false, Int.reduceEq, KRE, C_Model_edgeOf, FM, en, c']
    repeat (first | refine ⟨by omega, ?_⟩ | refine ⟨fun _ _ => okt_nn (by omega), ?_⟩)
    try (first | (show _ ≤ _; omega) | (show _ < _; omega))
  · have hlt : k < n := by omega
    have c' := eq_false (show ¬ (n : Int) ≤ k by omega)
    have b2 := b1 k (by omega)
    have f1 := felS_in (c := 1) h hlt (Or.inl rfl)
    have fx := fMaxF_in (p := fun t => btI S t = true ∧ Y t ≠ -1) (f := felS T Y (fun t => M 158 (30 * t + 1))) (c := 953) (by omega) (n := k) (fun t ht => (felS_in (c := 1) h (by omega) (Or.inl rfl)).2)
    have K' := K hlt _ _ ⟨rfl, rfl⟩
    rw [show fMaxF (fun t => btI S t = true ∧ Y t ≠ -1) (felS T Y (fun t => M 158 (30 * t + 1))) (k + 1) = if btI S k = true ∧ Y k ≠ -1 then max (fMaxF (fun t => btI S t = true ∧ Y t ≠ -1) (felS T Y (fun t => M 158 (30 * t + 1))) k) (felS T Y (fun t => M 158 (30 * t + 1)) k) else fMaxF (fun t => btI S t = true ∧ Y t ≠ -1) (felS T Y (fun t => M 158 (30 * t + 1))) k from rfl] at K'
    by_cases cb : btI S k = true
    · rw [if_pos cb] at b2
      by_cases cY : Y k = -1
      · rw [if_neg (fun z => z.2 cY)] at K'
        refine wpm_of (cuts := [4]) (by decide) 50 _ _ _ _ ?_
        simp (maxSteps := 2000000) only [↓reduceIte, wp_eq, wpd_eq, kont_eq, STP1, STP2, STP3, STP4, STP5, konM_eq, AMK, CZ, Option.map, List.getElem?_cons_zero, List.getElem?_cons_succ, List.mem_cons, List.not_mem_nil, if_false, if_true, Nat.reduceAdd, Nat.reduceLT, Nat.reduceLeDiff, Nat.reduceEqDiff, true_and, and_true, List.length_nil, List.length_cons, or_true, true_or, or_false, false_or, Option.some.injEq, Sum.inl.injEq, Sum.inr.injEq, exists_eq_left', exists_eq_left, Int.reduceLE, Int.reduceLT, Int.reduceNeg, Int.reduceAdd, Int.reduceMul, Int.reduceSub, Int.reduceToNat, inR, Nat.zero_ne_one, false_and, Nat.succ_ne_zero, reduceCtorEq, false_implies, true_implies, not_false_eq_true, not_true_eq_false, Int.reduceEq, KRE, C_Model_edgeOf, FM, en, c', b2]
        repeat (first | refine ⟨by omega, ?_⟩ | refine ⟨fun _ _ => okt_nn (by omega), ?_⟩)
        try (first | (show _ ≤ _; omega) | (show _ < _; omega))
        refine (dated_m h hlt).eq ?_
        rw [if_neg (fun z => z cY)]
        try simp (maxSteps := 2000000) only [↓reduceIte, wp_eq, wpd_eq, kont_eq, STP1, STP2, STP3, STP4, STP5, konM_eq, AMK, CZ, Option.map, List.getElem?_cons_zero, List.getElem?_cons_succ, List.mem_cons, List.not_mem_nil, if_false, if_true, Nat.reduceAdd, Nat.reduceLT, Nat.reduceLeDiff, Nat.reduceEqDiff, true_and, and_true, List.length_nil, List.length_cons, or_true, true_or, or_false, false_or, Option.some.injEq, Sum.inl.injEq, Sum.inr.injEq, exists_eq_left', exists_eq_left, Int.reduceLE, Int.reduceLT, Int.reduceNeg, Int.reduceAdd, Int.reduceMul, Int.reduceSub, Int.reduceToNat, inR, Nat.zero_ne_one, false_and, Nat.succ_ne_zero, reduceCtorEq, false_implies, true_implies, not_false_eq_true, not_true_eq_false, Int.reduceEq, KRE, C_Model_edgeOf]
        repeat (first | refine ⟨by omega, ?_⟩ | refine ⟨fun _ _ => okt_nn (by omega), ?_⟩)
        try (first | (show _ ≤ _; omega) | (show _ < _; omega))
        exact K'
      · rw [if_pos ⟨cb, cY⟩] at K'
        refine wpm_of (cuts := [4]) (by decide) 50 _ _ _ _ ?_
        simp (maxSteps := 2000000) only [↓reduceIte, wp_eq, wpd_eq, kont_eq, STP1, STP2, STP3, STP4, STP5, konM_eq, AMK, CZ, Option.map, List.getElem?_cons_zero, List.getElem?_cons_succ, List.mem_cons, List.not_mem_nil, if_false, if_true, Nat.reduceAdd, Nat.reduceLT, Nat.reduceLeDiff, Nat.reduceEqDiff, true_and, and_true, List.length_nil, List.length_cons, or_true, true_or, or_false, false_or, Option.some.injEq, Sum.inl.injEq, Sum.inr.injEq, exists_eq_left', exists_eq_left, Int.reduceLE, Int.reduceLT, Int.reduceNeg, Int.reduceAdd, Int.reduceMul, Int.reduceSub, Int.reduceToNat, inR, Nat.zero_ne_one, false_and, Nat.succ_ne_zero, reduceCtorEq, false_implies, true_implies, not_false_eq_true, not_true_eq_false, Int.reduceEq, KRE, C_Model_edgeOf, FM, en, c', b2]
        repeat (first | refine ⟨by omega, ?_⟩ | refine ⟨fun _ _ => okt_nn (by omega), ?_⟩)
        try (first | (show _ ≤ _; omega) | (show _ < _; omega))
        refine (dated_m h hlt).eq ?_
        rw [if_pos cY]
        try simp (maxSteps := 2000000) only [↓reduceIte, wp_eq, wpd_eq, kont_eq, STP1, STP2, STP3, STP4, STP5, konM_eq, AMK, CZ, Option.map, List.getElem?_cons_zero, List.getElem?_cons_succ, List.mem_cons, List.not_mem_nil, if_false, if_true, Nat.reduceAdd, Nat.reduceLT, Nat.reduceLeDiff, Nat.reduceEqDiff, true_and, and_true, List.length_nil, List.length_cons, or_true, true_or, or_false, false_or, Option.some.injEq, Sum.inl.injEq, Sum.inr.injEq, exists_eq_left', exists_eq_left, Int.reduceLE, Int.reduceLT, Int.reduceNeg, Int.reduceAdd, Int.reduceMul, Int.reduceSub, Int.reduceToNat, inR, Nat.zero_ne_one, false_and, Nat.succ_ne_zero, reduceCtorEq, false_implies, true_implies, not_false_eq_true, not_true_eq_false, Int.reduceEq, KRE, C_Model_edgeOf]
        repeat (first | refine ⟨by omega, ?_⟩ | refine ⟨fun _ _ => okt_nn (by omega), ?_⟩)
        try (first | (show _ ≤ _; omega) | (show _ < _; omega))
        refine (Model_felled_ok (c := 1) h hlt (Or.inl rfl) rfl).eq ?_
        try simp (maxSteps := 2000000) only [↓reduceIte, wp_eq, wpd_eq, kont_eq, STP1, STP2, STP3, STP4, STP5, konM_eq, AMK, CZ, Option.map, List.getElem?_cons_zero, List.getElem?_cons_succ, List.mem_cons, List.not_mem_nil, if_false, if_true, Nat.reduceAdd, Nat.reduceLT, Nat.reduceLeDiff, Nat.reduceEqDiff, true_and, and_true, List.length_nil, List.length_cons, or_true, true_or, or_false, false_or, Option.some.injEq, Sum.inl.injEq, Sum.inr.injEq, exists_eq_left', exists_eq_left, Int.reduceLE, Int.reduceLT, Int.reduceNeg, Int.reduceAdd, Int.reduceMul, Int.reduceSub, Int.reduceToNat, inR, Nat.zero_ne_one, false_and, Nat.succ_ne_zero, reduceCtorEq, false_implies, true_implies, not_false_eq_true, not_true_eq_false, Int.reduceEq, KRE, C_Model_edgeOf]
        repeat (first | refine ⟨by omega, ?_⟩ | refine ⟨fun _ _ => okt_nn (by omega), ?_⟩)
        try (first | (show _ ≤ _; omega) | (show _ < _; omega))
        exact K'
    · rw [if_neg cb] at b2
      rw [if_neg (fun z => cb z.1)] at K'
      refine wpm_of (cuts := [4]) (by decide) 50 _ _ _ _ ?_
      simp (maxSteps := 2000000) only [↓reduceIte, wp_eq, wpd_eq, kont_eq, STP1, STP2, STP3, STP4, STP5, konM_eq, AMK, CZ, Option.map, List.getElem?_cons_zero, List.getElem?_cons_succ, List.mem_cons, List.not_mem_nil, if_false, if_true, Nat.reduceAdd, Nat.reduceLT, Nat.reduceLeDiff, Nat.reduceEqDiff, true_and, and_true, List.length_nil, List.length_cons, or_true, true_or, or_false, false_or, Option.some.injEq, Sum.inl.injEq, Sum.inr.injEq, exists_eq_left', exists_eq_left, Int.reduceLE, Int.reduceLT, Int.reduceNeg, Int.reduceAdd, Int.reduceMul, Int.reduceSub, Int.reduceToNat, inR, Nat.zero_ne_one, false_and, Nat.succ_ne_zero, reduceCtorEq, false_implies, true_implies, not_false_eq_true, not_true_eq_false, Int.reduceEq, KRE, C_Model_edgeOf, FM, en, c', b2]
      repeat (first | refine ⟨by omega, ?_⟩ | refine ⟨fun _ _ => okt_nn (by omega), ?_⟩)
      try (first | (show _ ≤ _; omega) | (show _ < _; omega))
      exact K'
set_option maxHeartbeats 600000 in
set_option maxRecDepth 20000 in
theorem Model_lastOf_ok {S : Int} (h : mdl M n T Y lap bnd mrg) : CallI m_Model_lastOf [.inr 154, .inl S] M (fun x M' => x = fMinF (fun t => btI S t = true ∧ Y t ≠ -1) (felS T Y (fun t => M 158 (30 * t + 2))) n ∧ M' = M) := by
  have en := h.1.1
  have n8 := h.1.2
  have b1 : ∀ k : Nat, k < 32 → bAnd (bShr S k) 1 = if btI S k then 1 else 0 := fun k hk => bit_test S hk
  have e1 : ∀ t, t < n → Y t ≠ -1 → 0 ≤ felS T Y (fun t => M 158 (30 * t + 2)) t ∧ felS T Y (fun t => M 158 (30 * t + 2)) t ≤ 953 := fun t ht hy => by
    have := felS_in (c := 2) h ht (Or.inr rfl)
    omega
  refine callP_of (by decide) (by decide) (Nat.le_of_ble_eq_true rfl) (wpm_of (cuts := [4]) (by decide) 50 _ _ _ _ ?_)
  rw [show lM m_Model_lastOf = 4 from rfl]
  simp (maxSteps := 2000000) only [↓reduceIte, wp_eq, wpd_eq, kont_eq, STP1, STP2, STP3, STP4, STP5, konM_eq, AMK, CZ, Option.map, List.getElem?_cons_zero, List.getElem?_cons_succ, List.mem_cons, List.not_mem_nil, if_false, if_true, Nat.reduceAdd, Nat.reduceLT, Nat.reduceLeDiff, Nat.reduceEqDiff, true_and, and_true, List.length_nil, List.length_cons, or_true, true_or, or_false, false_or, Option.some.injEq, Sum.inl.injEq, Sum.inr.injEq, exists_eq_left', exists_eq_left, Int.reduceLE, Int.reduceLT, Int.reduceNeg, Int.reduceAdd, Int.reduceMul, Int.reduceSub, Int.reduceToNat, inR, Nat.zero_ne_one, false_and, Nat.succ_ne_zero, reduceCtorEq, false_implies, true_implies, not_false_eq_true, not_true_eq_false, Int.reduceEq, KRE, C_Model_lastOf, FM]
  refine loopQ n (fun k ls M1 => (M = M1 ∧ -1 ≤ fMinF (fun t => btI S t = true ∧ Y t ≠ -1) (felS T Y (fun t => M 158 (30 * t + 2))) k ∧ fMinF (fun t => btI S t = true ∧ Y t ≠ -1) (felS T Y (fun t => M 158 (30 * t + 2))) k ≤ 953) ∧ ls = [some (.inr 154), some (.inl S), some (.inl (fMinF (fun t => btI S t = true ∧ Y t ≠ -1) (felS T Y (fun t => M 158 (30 * t + 2))) k)), some (.inl (k : Int))]) ?_ _ _ ⟨⟨rfl, by show (-1 : Int) ≤ -1; decide, by show (-1 : Int) ≤ 953; decide⟩, rfl⟩
  rintro k _ _ hk ⟨⟨rfl, fx⟩, rfl⟩ K
  by_cases c : k = n
  · subst c
    have c' := eq_true (show (k : Int) ≤ k by omega)
    refine wpm_of (cuts := [4]) (by decide) 50 _ _ _ _ ?_
    simp (maxSteps := 2000000) only [↓reduceIte, wp_eq, wpd_eq, kont_eq, STP1, STP2, STP3, STP4, STP5, konM_eq, AMK, CZ, Option.map, List.getElem?_cons_zero, List.getElem?_cons_succ, List.mem_cons, List.not_mem_nil, if_false, if_true, Nat.reduceAdd, Nat.reduceLT, Nat.reduceLeDiff, Nat.reduceEqDiff, true_and, and_true, List.length_nil, List.length_cons, or_true, true_or, or_false, false_or, Option.some.injEq, Sum.inl.injEq, Sum.inr.injEq, exists_eq_left', exists_eq_left, Int.reduceLE, Int.reduceLT, Int.reduceNeg, Int.reduceAdd, Int.reduceMul, Int.reduceSub, Int.reduceToNat, inR, Nat.zero_ne_one, false_and, Nat.succ_ne_zero, reduceCtorEq, false_implies, true_implies, not_false_eq_true, not_true_eq_false, Int.reduceEq, KRE, C_Model_lastOf, FM, en, c']
    repeat (first | refine ⟨by omega, ?_⟩ | refine ⟨fun _ _ => okt_nn (by omega), ?_⟩)
    try (first | (show _ ≤ _; omega) | (show _ < _; omega))
  · have hlt : k < n := by omega
    have c' := eq_false (show ¬ (n : Int) ≤ k by omega)
    have b2 := b1 k (by omega)
    have f1 := e1 k hlt
    have K' := fun z => K hlt _ _ ⟨⟨rfl, z⟩, rfl⟩
    rw [show fMinF (fun t => btI S t = true ∧ Y t ≠ -1) (felS T Y (fun t => M 158 (30 * t + 2))) (k + 1) = if (btI S k = true ∧ Y k ≠ -1) ∧ (fMinF (fun t => btI S t = true ∧ Y t ≠ -1) (felS T Y (fun t => M 158 (30 * t + 2))) k = -1 ∨ felS T Y (fun t => M 158 (30 * t + 2)) k < fMinF (fun t => btI S t = true ∧ Y t ≠ -1) (felS T Y (fun t => M 158 (30 * t + 2))) k) then felS T Y (fun t => M 158 (30 * t + 2)) k else fMinF (fun t => btI S t = true ∧ Y t ≠ -1) (felS T Y (fun t => M 158 (30 * t + 2))) k from rfl] at K'
    generalize fMinF (fun t => btI S t = true ∧ Y t ≠ -1) (felS T Y (fun t => M 158 (30 * t + 2))) k = X at *
    by_cases cb : btI S k = true
    · rw [if_pos cb] at b2
      by_cases cY : Y k = -1
      · rw [if_neg (fun z => z.1.2 cY)] at K'
        refine wpm_of (cuts := [4]) (by decide) 50 _ _ _ _ ?_
        simp (maxSteps := 2000000) only [↓reduceIte, wp_eq, wpd_eq, kont_eq, STP1, STP2, STP3, STP4, STP5, konM_eq, AMK, CZ, Option.map, List.getElem?_cons_zero, List.getElem?_cons_succ, List.mem_cons, List.not_mem_nil, if_false, if_true, Nat.reduceAdd, Nat.reduceLT, Nat.reduceLeDiff, Nat.reduceEqDiff, true_and, and_true, List.length_nil, List.length_cons, or_true, true_or, or_false, false_or, Option.some.injEq, Sum.inl.injEq, Sum.inr.injEq, exists_eq_left', exists_eq_left, Int.reduceLE, Int.reduceLT, Int.reduceNeg, Int.reduceAdd, Int.reduceMul, Int.reduceSub, Int.reduceToNat, inR, Nat.zero_ne_one, false_and, Nat.succ_ne_zero, reduceCtorEq, false_implies, true_implies, not_false_eq_true, not_true_eq_false, Int.reduceEq, KRE, C_Model_lastOf, FM, en, c', b2]
        repeat (first | refine ⟨by omega, ?_⟩ | refine ⟨fun _ _ => okt_nn (by omega), ?_⟩)
        try (first | (show _ ≤ _; omega) | (show _ < _; omega))
        refine (dated_m h hlt).eq ?_
        rw [if_neg (fun z => z cY)]
        try simp (maxSteps := 2000000) only [↓reduceIte, wp_eq, wpd_eq, kont_eq, STP1, STP2, STP3, STP4, STP5, konM_eq, AMK, CZ, Option.map, List.getElem?_cons_zero, List.getElem?_cons_succ, List.mem_cons, List.not_mem_nil, if_false, if_true, Nat.reduceAdd, Nat.reduceLT, Nat.reduceLeDiff, Nat.reduceEqDiff, true_and, and_true, List.length_nil, List.length_cons, or_true, true_or, or_false, false_or, Option.some.injEq, Sum.inl.injEq, Sum.inr.injEq, exists_eq_left', exists_eq_left, Int.reduceLE, Int.reduceLT, Int.reduceNeg, Int.reduceAdd, Int.reduceMul, Int.reduceSub, Int.reduceToNat, inR, Nat.zero_ne_one, false_and, Nat.succ_ne_zero, reduceCtorEq, false_implies, true_implies, not_false_eq_true, not_true_eq_false, Int.reduceEq, KRE, C_Model_lastOf]
        repeat (first | refine ⟨by omega, ?_⟩ | refine ⟨fun _ _ => okt_nn (by omega), ?_⟩)
        try (first | (show _ ≤ _; omega) | (show _ < _; omega))
        exact K' fx
      · have f1 := f1 cY
        by_cases cx : X = -1
        · rw [if_pos ⟨⟨cb, cY⟩, Or.inl cx⟩] at K'
          have cx' := eq_true cx
          refine wpm_of (cuts := [4]) (by decide) 50 _ _ _ _ ?_
          simp (maxSteps := 2000000) only [↓reduceIte, wp_eq, wpd_eq, kont_eq, STP1, STP2, STP3, STP4, STP5, konM_eq, AMK, CZ, Option.map, List.getElem?_cons_zero, List.getElem?_cons_succ, List.mem_cons, List.not_mem_nil, if_false, if_true, Nat.reduceAdd, Nat.reduceLT, Nat.reduceLeDiff, Nat.reduceEqDiff, true_and, and_true, List.length_nil, List.length_cons, or_true, true_or, or_false, false_or, Option.some.injEq, Sum.inl.injEq, Sum.inr.injEq, exists_eq_left', exists_eq_left, Int.reduceLE, Int.reduceLT, Int.reduceNeg, Int.reduceAdd, Int.reduceMul, Int.reduceSub, Int.reduceToNat, inR, Nat.zero_ne_one, false_and, Nat.succ_ne_zero, reduceCtorEq, false_implies, true_implies, not_false_eq_true, not_true_eq_false, Int.reduceEq, KRE, C_Model_lastOf, FM, en, c', b2]
          repeat (first | refine ⟨by omega, ?_⟩ | refine ⟨fun _ _ => okt_nn (by omega), ?_⟩)
          try (first | (show _ ≤ _; omega) | (show _ < _; omega))
          refine (dated_m h hlt).eq ?_
          rw [if_pos cY]
          try simp (maxSteps := 2000000) only [↓reduceIte, wp_eq, wpd_eq, kont_eq, STP1, STP2, STP3, STP4, STP5, konM_eq, AMK, CZ, Option.map, List.getElem?_cons_zero, List.getElem?_cons_succ, List.mem_cons, List.not_mem_nil, if_false, if_true, Nat.reduceAdd, Nat.reduceLT, Nat.reduceLeDiff, Nat.reduceEqDiff, true_and, and_true, List.length_nil, List.length_cons, or_true, true_or, or_false, false_or, Option.some.injEq, Sum.inl.injEq, Sum.inr.injEq, exists_eq_left', exists_eq_left, Int.reduceLE, Int.reduceLT, Int.reduceNeg, Int.reduceAdd, Int.reduceMul, Int.reduceSub, Int.reduceToNat, inR, Nat.zero_ne_one, false_and, Nat.succ_ne_zero, reduceCtorEq, false_implies, true_implies, not_false_eq_true, not_true_eq_false, Int.reduceEq, KRE, C_Model_lastOf, cx']
          repeat (first | refine ⟨by omega, ?_⟩ | refine ⟨fun _ _ => okt_nn (by omega), ?_⟩)
          try (first | (show _ ≤ _; omega) | (show _ < _; omega))
          refine (Model_felled_ok (c := 2) h hlt (Or.inr rfl) rfl).eq ?_
          try simp (maxSteps := 2000000) only [↓reduceIte, wp_eq, wpd_eq, kont_eq, STP1, STP2, STP3, STP4, STP5, konM_eq, AMK, CZ, Option.map, List.getElem?_cons_zero, List.getElem?_cons_succ, List.mem_cons, List.not_mem_nil, if_false, if_true, Nat.reduceAdd, Nat.reduceLT, Nat.reduceLeDiff, Nat.reduceEqDiff, true_and, and_true, List.length_nil, List.length_cons, or_true, true_or, or_false, false_or, Option.some.injEq, Sum.inl.injEq, Sum.inr.injEq, exists_eq_left', exists_eq_left, Int.reduceLE, Int.reduceLT, Int.reduceNeg, Int.reduceAdd, Int.reduceMul, Int.reduceSub, Int.reduceToNat, inR, Nat.zero_ne_one, false_and, Nat.succ_ne_zero, reduceCtorEq, false_implies, true_implies, not_false_eq_true, not_true_eq_false, Int.reduceEq, KRE, C_Model_lastOf]
          exact K' (by omega)
        · have cx' := eq_false cx
          have KK : ((-1 ≤ min X (felS T Y (fun t => M 158 (30 * t + 2)) k) ∧ min X (felS T Y (fun t => M 158 (30 * t + 2)) k) ≤ 953) → WPm m_Model_lastOf (fun v M' => ∃ x, v = some (.inl x) ∧ x = fMinF (fun t => btI S t = true ∧ Y t ≠ -1) (felS T Y (fun t => M 158 (30 * t + 2))) n ∧ M' = M) 4 [some (.inr 154), some (.inl S), some (.inl (min X (felS T Y (fun t => M 158 (30 * t + 2)) k))), some (.inl ((k + 1 : Nat) : Int))] [] M) := by
            intro z
            by_cases cz : felS T Y (fun t => M 158 (30 * t + 2)) k < X
            · rw [if_pos ⟨⟨cb, cY⟩, Or.inr cz⟩] at K'
              rw [show min X (felS T Y (fun t => M 158 (30 * t + 2)) k) = felS T Y (fun t => M 158 (30 * t + 2)) k by omega] at z ⊢
              exact K' z
            · rw [if_neg (fun w => by omega)] at K'
              rw [show min X (felS T Y (fun t => M 158 (30 * t + 2)) k) = X by omega] at z ⊢
              exact K' z
          refine wpm_of (cuts := [4]) (by decide) 50 _ _ _ _ ?_
          simp (maxSteps := 2000000) only [↓reduceIte, wp_eq, wpd_eq, kont_eq, STP1, STP2, STP3, STP4, STP5, konM_eq, AMK, CZ, Option.map, List.getElem?_cons_zero, List.getElem?_cons_succ, List.mem_cons, List.not_mem_nil, if_false, if_true, Nat.reduceAdd, Nat.reduceLT, Nat.reduceLeDiff, Nat.reduceEqDiff, true_and, and_true, List.length_nil, List.length_cons, or_true, true_or, or_false, false_or, Option.some.injEq, Sum.inl.injEq, Sum.inr.injEq, exists_eq_left', exists_eq_left, Int.reduceLE, Int.reduceLT, Int.reduceNeg, Int.reduceAdd, Int.reduceMul, Int.reduceSub, Int.reduceToNat, inR, Nat.zero_ne_one, false_and, Nat.succ_ne_zero, reduceCtorEq, false_implies, true_implies, not_false_eq_true, not_true_eq_false, Int.reduceEq, KRE, C_Model_lastOf, FM, en, c', b2]
          repeat (first | refine ⟨by omega, ?_⟩ | refine ⟨fun _ _ => okt_nn (by omega), ?_⟩)
          try (first | (show _ ≤ _; omega) | (show _ < _; omega))
          refine (dated_m h hlt).eq ?_
          rw [if_pos cY]
          try simp (maxSteps := 2000000) only [↓reduceIte, wp_eq, wpd_eq, kont_eq, STP1, STP2, STP3, STP4, STP5, konM_eq, AMK, CZ, Option.map, List.getElem?_cons_zero, List.getElem?_cons_succ, List.mem_cons, List.not_mem_nil, if_false, if_true, Nat.reduceAdd, Nat.reduceLT, Nat.reduceLeDiff, Nat.reduceEqDiff, true_and, and_true, List.length_nil, List.length_cons, or_true, true_or, or_false, false_or, Option.some.injEq, Sum.inl.injEq, Sum.inr.injEq, exists_eq_left', exists_eq_left, Int.reduceLE, Int.reduceLT, Int.reduceNeg, Int.reduceAdd, Int.reduceMul, Int.reduceSub, Int.reduceToNat, inR, Nat.zero_ne_one, false_and, Nat.succ_ne_zero, reduceCtorEq, false_implies, true_implies, not_false_eq_true, not_true_eq_false, Int.reduceEq, KRE, C_Model_lastOf, cx']
          repeat (first | refine ⟨by omega, ?_⟩ | refine ⟨fun _ _ => okt_nn (by omega), ?_⟩)
          try (first | (show _ ≤ _; omega) | (show _ < _; omega))
          refine (Model_felled_ok (c := 2) h hlt (Or.inr rfl) rfl).eq ?_
          try simp (maxSteps := 2000000) only [↓reduceIte, wp_eq, wpd_eq, kont_eq, STP1, STP2, STP3, STP4, STP5, konM_eq, AMK, CZ, Option.map, List.getElem?_cons_zero, List.getElem?_cons_succ, List.mem_cons, List.not_mem_nil, if_false, if_true, Nat.reduceAdd, Nat.reduceLT, Nat.reduceLeDiff, Nat.reduceEqDiff, true_and, and_true, List.length_nil, List.length_cons, or_true, true_or, or_false, false_or, Option.some.injEq, Sum.inl.injEq, Sum.inr.injEq, exists_eq_left', exists_eq_left, Int.reduceLE, Int.reduceLT, Int.reduceNeg, Int.reduceAdd, Int.reduceMul, Int.reduceSub, Int.reduceToNat, inR, Nat.zero_ne_one, false_and, Nat.succ_ne_zero, reduceCtorEq, false_implies, true_implies, not_false_eq_true, not_true_eq_false, Int.reduceEq, KRE, C_Model_lastOf]
          repeat (first | refine ⟨by omega, ?_⟩ | refine ⟨fun _ _ => okt_nn (by omega), ?_⟩)
          try (first | (show _ ≤ _; omega) | (show _ < _; omega))
          exact KK (by omega)
    · rw [if_neg cb] at b2
      rw [if_neg (fun z => cb z.1.1)] at K'
      refine wpm_of (cuts := [4]) (by decide) 50 _ _ _ _ ?_
      simp (maxSteps := 2000000) only [↓reduceIte, wp_eq, wpd_eq, kont_eq, STP1, STP2, STP3, STP4, STP5, konM_eq, AMK, CZ, Option.map, List.getElem?_cons_zero, List.getElem?_cons_succ, List.mem_cons, List.not_mem_nil, if_false, if_true, Nat.reduceAdd, Nat.reduceLT, Nat.reduceLeDiff, Nat.reduceEqDiff, true_and, and_true, List.length_nil, List.length_cons, or_true, true_or, or_false, false_or, Option.some.injEq, Sum.inl.injEq, Sum.inr.injEq, exists_eq_left', exists_eq_left, Int.reduceLE, Int.reduceLT, Int.reduceNeg, Int.reduceAdd, Int.reduceMul, Int.reduceSub, Int.reduceToNat, inR, Nat.zero_ne_one, false_and, Nat.succ_ne_zero, reduceCtorEq, false_implies, true_implies, not_false_eq_true, not_true_eq_false, Int.reduceEq, KRE, C_Model_lastOf, FM, en, c', b2]
      repeat (first | refine ⟨by omega, ?_⟩ | refine ⟨fun _ _ => okt_nn (by omega), ?_⟩)
      try (first | (show _ ≤ _; omega) | (show _ < _; omega))
      exact K' fx
theorem dSet_bt {Y : Nat → Int} {n t : Nat} (hn : n ≤ 8) (ht : t < n) : (btI (fBit (fun t => Y t ≠ -1) n) t = true ∧ Y t ≠ -1) ↔ Y t ≠ -1 := by
  rw [fBit_bt _ (by omega) (by omega)]
  simp only [decide_eq_true_eq]
  exact ⟨fun z => z.2, fun z => ⟨⟨ht, z⟩, z⟩⟩
set_option maxHeartbeats 600000 in
set_option maxRecDepth 20000 in
theorem Model_built_ok {b : Int} (h : mdl M n T Y lap bnd mrg) (hb : b = 0 ∨ b = 1) : CallI m_Model_built [.inr 154, .inl b] M (fun x M' => x = (if fMaxF (fun t => Y t ≠ -1) (felS T Y (fun t => M 158 (30 * t + 1))) n ≤ fMinF (fun t => Y t ≠ -1) (felS T Y (fun t => M 158 (30 * t + 2))) n then (if b = 0 then fMaxF (fun t => Y t ≠ -1) (felS T Y (fun t => M 158 (30 * t + 1))) n else fMinF (fun t => Y t ≠ -1) (felS T Y (fun t => M 158 (30 * t + 2))) n) else -1) ∧ M' = M) := by
  have n8 := h.1.2
  have E := Model_edgeOf_ok (S := fBit (fun t => Y t ≠ -1) n) h
  rw [fMaxF_congr (q := fun t => Y t ≠ -1) (fun t ht => dSet_bt n8 ht) (fun t ht => rfl)] at E
  have L := Model_lastOf_ok (S := fBit (fun t => Y t ≠ -1) n) h
  rw [fMinF_congr (q := fun t => Y t ≠ -1) (fun t ht => dSet_bt n8 ht) (fun t ht => rfl)] at L
  have m1 := fMaxF_in (p := fun t => Y t ≠ -1) (f := felS T Y (fun t => M 158 (30 * t + 1))) (c := 953) (by omega) (n := n) (fun t ht => (felS_in (c := 1) h ht (Or.inl rfl)).2)
  have m2 := fMinF_in (p := fun t => Y t ≠ -1) (f := felS T Y (fun t => M 158 (30 * t + 2))) (c := 953) (by omega) (n := n) (fun t ht => by have := felS_in (c := 2) h ht (Or.inr rfl); omega)
  generalize fMaxF (fun t => Y t ≠ -1) (felS T Y (fun t => M 158 (30 * t + 1))) n = X at *
  generalize fMinF (fun t => Y t ≠ -1) (felS T Y (fun t => M 158 (30 * t + 2))) n = Z at *
  refine callP_of (by decide) (by decide) (Nat.le_of_ble_eq_true rfl) (wpm_of (cuts := []) (by decide) 50 _ _ _ _ ?_)
  rw [show lM m_Model_built = 3 from rfl]
  simp (maxSteps := 2000000) only [↓reduceIte, wp_eq, wpd_eq, kont_eq, STP1, STP2, STP3, STP4, STP5, konM_eq, AMK, CZ, Option.map, List.getElem?_cons_zero, List.getElem?_cons_succ, List.mem_cons, List.not_mem_nil, if_false, if_true, Nat.reduceAdd, Nat.reduceLT, Nat.reduceLeDiff, Nat.reduceEqDiff, true_and, and_true, List.length_nil, List.length_cons, or_true, true_or, or_false, false_or, Option.some.injEq, Sum.inl.injEq, Sum.inr.injEq, exists_eq_left', exists_eq_left, Int.reduceLE, Int.reduceLT, Int.reduceNeg, Int.reduceAdd, Int.reduceMul, Int.reduceSub, Int.reduceToNat, inR, Nat.zero_ne_one, false_and, Nat.succ_ne_zero, reduceCtorEq, false_implies, true_implies, not_false_eq_true, not_true_eq_false, Int.reduceEq, KRE, C_Model_built, FM]
  refine (Model_datedSet_ok h).eq ?_
  try simp (maxSteps := 2000000) only [↓reduceIte, wp_eq, wpd_eq, kont_eq, STP1, STP2, STP3, STP4, STP5, konM_eq, AMK, CZ, Option.map, List.getElem?_cons_zero, List.getElem?_cons_succ, List.mem_cons, List.not_mem_nil, if_false, if_true, Nat.reduceAdd, Nat.reduceLT, Nat.reduceLeDiff, Nat.reduceEqDiff, true_and, and_true, List.length_nil, List.length_cons, or_true, true_or, or_false, false_or, Option.some.injEq, Sum.inl.injEq, Sum.inr.injEq, exists_eq_left', exists_eq_left, Int.reduceLE, Int.reduceLT, Int.reduceNeg, Int.reduceAdd, Int.reduceMul, Int.reduceSub, Int.reduceToNat, inR, Nat.zero_ne_one, false_and, Nat.succ_ne_zero, reduceCtorEq, false_implies, true_implies, not_false_eq_true, not_true_eq_false, Int.reduceEq, KRE, C_Model_built]
  refine E.eq ?_
  try simp (maxSteps := 2000000) only [↓reduceIte, wp_eq, wpd_eq, kont_eq, STP1, STP2, STP3, STP4, STP5, konM_eq, AMK, CZ, Option.map, List.getElem?_cons_zero, List.getElem?_cons_succ, List.mem_cons, List.not_mem_nil, if_false, if_true, Nat.reduceAdd, Nat.reduceLT, Nat.reduceLeDiff, Nat.reduceEqDiff, true_and, and_true, List.length_nil, List.length_cons, or_true, true_or, or_false, false_or, Option.some.injEq, Sum.inl.injEq, Sum.inr.injEq, exists_eq_left', exists_eq_left, Int.reduceLE, Int.reduceLT, Int.reduceNeg, Int.reduceAdd, Int.reduceMul, Int.reduceSub, Int.reduceToNat, inR, Nat.zero_ne_one, false_and, Nat.succ_ne_zero, reduceCtorEq, false_implies, true_implies, not_false_eq_true, not_true_eq_false, Int.reduceEq, KRE, C_Model_built]
  refine L.eq ?_
  by_cases c1 : X ≤ Z
  · rw [if_pos c1]
    have c1' := eq_true c1
    rcases hb with rfl | rfl
    · try simp (maxSteps := 2000000) only [↓reduceIte, wp_eq, wpd_eq, kont_eq, STP1, STP2, STP3, STP4, STP5, konM_eq, AMK, CZ, Option.map, List.getElem?_cons_zero, List.getElem?_cons_succ, List.mem_cons, List.not_mem_nil, if_false, if_true, Nat.reduceAdd, Nat.reduceLT, Nat.reduceLeDiff, Nat.reduceEqDiff, true_and, and_true, List.length_nil, List.length_cons, or_true, true_or, or_false, false_or, Option.some.injEq, Sum.inl.injEq, Sum.inr.injEq, exists_eq_left', exists_eq_left, Int.reduceLE, Int.reduceLT, Int.reduceNeg, Int.reduceAdd, Int.reduceMul, Int.reduceSub, Int.reduceToNat, inR, Nat.zero_ne_one, false_and, Nat.succ_ne_zero, reduceCtorEq, false_implies, true_implies, not_false_eq_true, not_true_eq_false, Int.reduceEq, KRE, C_Model_built, c1']
      repeat (first | refine ⟨by omega, ?_⟩ | refine ⟨fun _ _ => okt_nn (by omega), ?_⟩)
      try (first | (show _ ≤ _; omega) | (show _ < _; omega))
      exact E.eq ⟨rfl, rfl⟩
    · have one0 := eq_false (show ¬ (1 : Int) = 0 by omega)
      rw [if_neg (by omega)]
      try simp (maxSteps := 2000000) only [↓reduceIte, wp_eq, wpd_eq, kont_eq, STP1, STP2, STP3, STP4, STP5, konM_eq, AMK, CZ, Option.map, List.getElem?_cons_zero, List.getElem?_cons_succ, List.mem_cons, List.not_mem_nil, if_false, if_true, Nat.reduceAdd, Nat.reduceLT, Nat.reduceLeDiff, Nat.reduceEqDiff, true_and, and_true, List.length_nil, List.length_cons, or_true, true_or, or_false, false_or, Option.some.injEq, Sum.inl.injEq, Sum.inr.injEq, exists_eq_left', exists_eq_left, Int.reduceLE, Int.reduceLT, Int.reduceNeg, Int.reduceAdd, Int.reduceMul, Int.reduceSub, Int.reduceToNat, inR, Nat.zero_ne_one, false_and, Nat.succ_ne_zero, reduceCtorEq, false_implies, true_implies, not_false_eq_true, not_true_eq_false, Int.reduceEq, KRE, C_Model_built, c1', one0]
      repeat (first | refine ⟨by omega, ?_⟩ | refine ⟨fun _ _ => okt_nn (by omega), ?_⟩)
      try (first | (show _ ≤ _; omega) | (show _ < _; omega))
      exact L.eq ⟨rfl, rfl⟩
  · rw [if_neg c1]
    have c1' := eq_false c1
    try simp (maxSteps := 2000000) only [↓reduceIte, wp_eq, wpd_eq, kont_eq, STP1, STP2, STP3, STP4, STP5, konM_eq, AMK, CZ, Option.map, List.getElem?_cons_zero, List.getElem?_cons_succ, List.mem_cons, List.not_mem_nil, if_false, if_true, Nat.reduceAdd, Nat.reduceLT, Nat.reduceLeDiff, Nat.reduceEqDiff, true_and, and_true, List.length_nil, List.length_cons, or_true, true_or, or_false, false_or, Option.some.injEq, Sum.inl.injEq, Sum.inr.injEq, exists_eq_left', exists_eq_left, Int.reduceLE, Int.reduceLT, Int.reduceNeg, Int.reduceAdd, Int.reduceMul, Int.reduceSub, Int.reduceToNat, inR, Nat.zero_ne_one, false_and, Nat.succ_ne_zero, reduceCtorEq, false_implies, true_implies, not_false_eq_true, not_true_eq_false, Int.reduceEq, KRE, C_Model_built, c1']
    repeat (first | refine ⟨by omega, ?_⟩ | refine ⟨fun _ _ => okt_nn (by omega), ?_⟩)
    try (first | (show _ ≤ _; omega) | (show _ < _; omega))
/-- the timbers of a house -/
def hsM (M : Mm) (a : Int) (n : Nat) : Int := fBit (fun t => M 158 (30 * t + 3) = a) n
set_option maxHeartbeats 600000 in
set_option maxRecDepth 20000 in
theorem Model_housed_ok {a : Int} (h : mdl M n T Y lap bnd mrg) (ha : inR a) : CallI m_Model_housed [.inr 154, .inl a] M (fun x M' => x = hsM M a n ∧ M' = M) := by
  have en := h.1.1
  have n8 := h.1.2
  simp only [inR] at ha
  unfold hsM
  refine callP_of (by decide) (by decide) (Nat.le_of_ble_eq_true rfl) (wpm_of (cuts := [4]) (by decide) 50 _ _ _ _ ?_)
  rw [show lM m_Model_housed = 4 from rfl]
  simp (maxSteps := 2000000) only [↓reduceIte, wp_eq, wpd_eq, kont_eq, STP1, STP2, STP3, STP4, STP5, konM_eq, AMK, CZ, Option.map, List.getElem?_cons_zero, List.getElem?_cons_succ, List.mem_cons, List.not_mem_nil, if_false, if_true, Nat.reduceAdd, Nat.reduceLT, Nat.reduceLeDiff, Nat.reduceEqDiff, true_and, and_true, List.length_nil, List.length_cons, or_true, true_or, or_false, false_or, Option.some.injEq, Sum.inl.injEq, Sum.inr.injEq, exists_eq_left', exists_eq_left, Int.reduceLE, Int.reduceLT, Int.reduceNeg, Int.reduceAdd, Int.reduceMul, Int.reduceSub, Int.reduceToNat, inR, Nat.zero_ne_one, false_and, Nat.succ_ne_zero, reduceCtorEq, false_implies, true_implies, not_false_eq_true, not_true_eq_false, Int.reduceEq, KRE, C_Model_housed, FM]
  refine loopQ n (fun k ls M1 => M = M1 ∧ ls = [some (.inr 154), some (.inl a), some (.inl (fBit (fun t => M 158 (30 * t + 3) = a) k)), some (.inl (k : Int))]) ?_ _ _ ⟨rfl, rfl⟩
  rintro k _ _ hk ⟨rfl, rfl⟩ K
  by_cases c : k = n
  · subst c
    have c' := eq_true (show (k : Int) ≤ k by omega)
    refine wpm_of (cuts := [4]) (by decide) 50 _ _ _ _ ?_
    simp (maxSteps := 2000000) only [↓reduceIte, wp_eq, wpd_eq, kont_eq, STP1, STP2, STP3, STP4, STP5, konM_eq, AMK, CZ, Option.map, List.getElem?_cons_zero, List.getElem?_cons_succ, List.mem_cons, List.not_mem_nil, if_false, if_true, Nat.reduceAdd, Nat.reduceLT, Nat.reduceLeDiff, Nat.reduceEqDiff, true_and, and_true, List.length_nil, List.length_cons, or_true, true_or, or_false, false_or, Option.some.injEq, Sum.inl.injEq, Sum.inr.injEq, exists_eq_left', exists_eq_left, Int.reduceLE, Int.reduceLT, Int.reduceNeg, Int.reduceAdd, Int.reduceMul, Int.reduceSub, Int.reduceToNat, inR, Nat.zero_ne_one, false_and, Nat.succ_ne_zero, reduceCtorEq, false_implies, true_implies, not_false_eq_true, not_true_eq_false, Int.reduceEq, KRE, C_Model_housed, FM, en, c']
    repeat (first | refine ⟨by omega, ?_⟩ | refine ⟨fun _ _ => okt_nn (by omega), ?_⟩)
    try (first | (show _ ≤ _; omega) | (show _ < _; omega))
  · have hlt : k < n := by omega
    have c' := eq_false (show ¬ (n : Int) ≤ k by omega)
    have w3 := (mdl_t h hlt).2.2.2.2.2.1.2.2.1
    have K' := K hlt _ _ ⟨rfl, rfl⟩
    rw [fBit_succ] at K'
    refine wpm_of (cuts := [4]) (by decide) 50 _ _ _ _ ?_
    simp (maxSteps := 2000000) only [↓reduceIte, wp_eq, wpd_eq, kont_eq, STP1, STP2, STP3, STP4, STP5, konM_eq, AMK, CZ, Option.map, List.getElem?_cons_zero, List.getElem?_cons_succ, List.mem_cons, List.not_mem_nil, if_false, if_true, Nat.reduceAdd, Nat.reduceLT, Nat.reduceLeDiff, Nat.reduceEqDiff, true_and, and_true, List.length_nil, List.length_cons, or_true, true_or, or_false, false_or, Option.some.injEq, Sum.inl.injEq, Sum.inr.injEq, exists_eq_left', exists_eq_left, Int.reduceLE, Int.reduceLT, Int.reduceNeg, Int.reduceAdd, Int.reduceMul, Int.reduceSub, Int.reduceToNat, inR, Nat.zero_ne_one, false_and, Nat.succ_ne_zero, reduceCtorEq, false_implies, true_implies, not_false_eq_true, not_true_eq_false, Int.reduceEq, KRE, C_Model_housed, FM, en, c']
    repeat (first | refine ⟨by omega, ?_⟩ | refine ⟨fun _ _ => okt_nn (by omega), ?_⟩)
    try (first | (show _ ≤ _; omega) | (show _ < _; omega))
    refine (of_k (by omega) 3 (by omega) rfl).eq ?_
    by_cases cY : M 158 (30 * k + 3) = a
    · rw [if_pos cY] at K'
      have cY' := eq_true cY
      try simp (maxSteps := 2000000) only [↓reduceIte, wp_eq, wpd_eq, kont_eq, STP1, STP2, STP3, STP4, STP5, konM_eq, AMK, CZ, Option.map, List.getElem?_cons_zero, List.getElem?_cons_succ, List.mem_cons, List.not_mem_nil, if_false, if_true, Nat.reduceAdd, Nat.reduceLT, Nat.reduceLeDiff, Nat.reduceEqDiff, true_and, and_true, List.length_nil, List.length_cons, or_true, true_or, or_false, false_or, Option.some.injEq, Sum.inl.injEq, Sum.inr.injEq, exists_eq_left', exists_eq_left, Int.reduceLE, Int.reduceLT, Int.reduceNeg, Int.reduceAdd, Int.reduceMul, Int.reduceSub, Int.reduceToNat, inR, Nat.zero_ne_one, false_and, Nat.succ_ne_zero, reduceCtorEq, false_implies, true_implies, not_false_eq_true, not_true_eq_false, Int.reduceEq, KRE, C_Model_housed, cY']
      repeat (first | refine ⟨by omega, ?_⟩ | refine ⟨fun _ _ => okt_nn (by omega), ?_⟩)
      try (first | (show _ ≤ _; omega) | (show _ < _; omega))
      exact K'
    · rw [if_neg cY] at K'
      have cY' := eq_false cY
      try simp (maxSteps := 2000000) only [↓reduceIte, wp_eq, wpd_eq, kont_eq, STP1, STP2, STP3, STP4, STP5, konM_eq, AMK, CZ, Option.map, List.getElem?_cons_zero, List.getElem?_cons_succ, List.mem_cons, List.not_mem_nil, if_false, if_true, Nat.reduceAdd, Nat.reduceLT, Nat.reduceLeDiff, Nat.reduceEqDiff, true_and, and_true, List.length_nil, List.length_cons, or_true, true_or, or_false, false_or, Option.some.injEq, Sum.inl.injEq, Sum.inr.injEq, exists_eq_left', exists_eq_left, Int.reduceLE, Int.reduceLT, Int.reduceNeg, Int.reduceAdd, Int.reduceMul, Int.reduceSub, Int.reduceToNat, inR, Nat.zero_ne_one, false_and, Nat.succ_ne_zero, reduceCtorEq, false_implies, true_implies, not_false_eq_true, not_true_eq_false, Int.reduceEq, KRE, C_Model_housed, cY']
      repeat (first | refine ⟨by omega, ?_⟩ | refine ⟨fun _ _ => okt_nn (by omega), ?_⟩)
      try (first | (show _ ≤ _; omega) | (show _ < _; omega))
      exact K'
theorem hsM_bt {a : Int} {t : Nat} (hn : n ≤ 8) (ht : t < n) : (btI (hsM M a n) t = true ∧ Y t ≠ -1) ↔ (Y t ≠ -1 ∧ M 158 (30 * t + 3) = a) := by
  unfold hsM
  rw [fBit_bt _ (by omega) (by omega)]
  simp only [decide_eq_true_eq]
  exact ⟨fun z => ⟨z.2, z.1.2⟩, fun z => ⟨⟨ht, z.2⟩, z.1⟩⟩
/-- the edge of a house; its timbers that are reused -/
def edM (M : Mm) (T : Nat → Rw) (Y : Nat → Int) (a : Int) (n : Nat) : Int := fMaxF (fun t => Y t ≠ -1 ∧ M 158 (30 * t + 3) = a) (felS T Y (fun t => M 158 (30 * t + 1))) n
def ruM (M : Mm) (T : Nat → Rw) (Y : Nat → Int) (a : Int) (n : Nat) : Int := fBit (fun t => (Y t ≠ -1 ∧ M 158 (30 * t + 3) = a) ∧ felS T Y (fun t => M 158 (30 * t + 2)) t < edM M T Y a n) n
theorem Model_edge_ok {a : Int} (h : mdl M n T Y lap bnd mrg) : CallI m_Model_edgeOf [.inr 154, .inl (hsM M a n)] M (fun x M' => x = edM M T Y a n ∧ M' = M) := by
  have E := Model_edgeOf_ok (S := hsM M a n) h
  rw [fMaxF_congr (q := fun t => Y t ≠ -1 ∧ M 158 (30 * t + 3) = a) (fun t ht => hsM_bt h.1.2 ht) (fun t ht => rfl)] at E
  exact E
set_option maxHeartbeats 600000 in
set_option maxRecDepth 20000 in
theorem Model_reused_ok {a : Int} (h : mdl M n T Y lap bnd mrg) (ha : inR a) : CallI m_Model_reused [.inr 154, .inl a] M (fun x M' => x = ruM M T Y a n ∧ M' = M) := by
  have en := h.1.1
  have n8 := h.1.2
  have b1 : ∀ k : Nat, k < 32 → bAnd (bShr (hsM M a n) k) 1 = if btI (hsM M a n) k then 1 else 0 := fun k hk => bit_test _ hk
  have ex := fMaxF_in (p := fun t => Y t ≠ -1 ∧ M 158 (30 * t + 3) = a) (f := felS T Y (fun t => M 158 (30 * t + 1))) (c := 953) (by omega) (n := n) (fun t ht => (felS_in (c := 1) h ht (Or.inl rfl)).2)
  have ex' : -1 ≤ edM M T Y a n ∧ edM M T Y a n ≤ 953 := ex
  have E := Model_edge_ok (a := a) h
  unfold ruM
  refine callP_of (by decide) (by decide) (Nat.le_of_ble_eq_true rfl) (wpm_of (cuts := [11]) (by decide) 50 _ _ _ _ ?_)
  rw [show lM m_Model_reused = 5 from rfl]
  simp (maxSteps := 2000000) only [↓reduceIte, wp_eq, wpd_eq, kont_eq, STP1, STP2, STP3, STP4, STP5, konM_eq, AMK, CZ, Option.map, List.getElem?_cons_zero, List.getElem?_cons_succ, List.mem_cons, List.not_mem_nil, if_false, if_true, Nat.reduceAdd, Nat.reduceLT, Nat.reduceLeDiff, Nat.reduceEqDiff, true_and, and_true, List.length_nil, List.length_cons, or_true, true_or, or_false, false_or, Option.some.injEq, Sum.inl.injEq, Sum.inr.injEq, exists_eq_left', exists_eq_left, Int.reduceLE, Int.reduceLT, Int.reduceNeg, Int.reduceAdd, Int.reduceMul, Int.reduceSub, Int.reduceToNat, inR, Nat.zero_ne_one, false_and, Nat.succ_ne_zero, reduceCtorEq, false_implies, true_implies, not_false_eq_true, not_true_eq_false, Int.reduceEq, KRE, C_Model_reused, FM]
  refine (Model_housed_ok h ha).eq ?_
  try simp (maxSteps := 2000000) only [↓reduceIte, wp_eq, wpd_eq, kont_eq, STP1, STP2, STP3, STP4, STP5, konM_eq, AMK, CZ, Option.map, List.getElem?_cons_zero, List.getElem?_cons_succ, List.mem_cons, List.not_mem_nil, if_false, if_true, Nat.reduceAdd, Nat.reduceLT, Nat.reduceLeDiff, Nat.reduceEqDiff, true_and, and_true, List.length_nil, List.length_cons, or_true, true_or, or_false, false_or, Option.some.injEq, Sum.inl.injEq, Sum.inr.injEq, exists_eq_left', exists_eq_left, Int.reduceLE, Int.reduceLT, Int.reduceNeg, Int.reduceAdd, Int.reduceMul, Int.reduceSub, Int.reduceToNat, inR, Nat.zero_ne_one, false_and, Nat.succ_ne_zero, reduceCtorEq, false_implies, true_implies, not_false_eq_true, not_true_eq_false, Int.reduceEq, KRE, C_Model_reused]
  refine loopQ n (fun k ls M1 => M = M1 ∧ ls = [some (.inr 154), some (.inl a), some (.inl (hsM M a n)), some (.inl (fBit (fun t => (Y t ≠ -1 ∧ M 158 (30 * t + 3) = a) ∧ felS T Y (fun t => M 158 (30 * t + 2)) t < edM M T Y a n) k)), some (.inl (k : Int))]) ?_ _ _ ⟨rfl, rfl⟩
  rintro k _ _ hk ⟨rfl, rfl⟩ K
  by_cases c : k = n
  · subst c
    have c' := eq_true (show (k : Int) ≤ k by omega)
    refine wpm_of (cuts := [11]) (by decide) 50 _ _ _ _ ?_
    simp (maxSteps := 2000000) only [↓reduceIte, wp_eq, wpd_eq, kont_eq, STP1, STP2, STP3, STP4, STP5, konM_eq, AMK, CZ, Option.map, List.getElem?_cons_zero, List.getElem?_cons_succ, List.mem_cons, List.not_mem_nil, if_false, if_true, Nat.reduceAdd, Nat.reduceLT, Nat.reduceLeDiff, Nat.reduceEqDiff, true_and, and_true, List.length_nil, List.length_cons, or_true, true_or, or_false, false_or, Option.some.injEq, Sum.inl.injEq, Sum.inr.injEq, exists_eq_left', exists_eq_left, Int.reduceLE, Int.reduceLT, Int.reduceNeg, Int.reduceAdd, Int.reduceMul, Int.reduceSub, Int.reduceToNat, inR, Nat.zero_ne_one, false_and, Nat.succ_ne_zero, reduceCtorEq, false_implies, true_implies, not_false_eq_true, not_true_eq_false, Int.reduceEq, KRE, C_Model_reused, FM, en, c']
    repeat (first | refine ⟨by omega, ?_⟩ | refine ⟨fun _ _ => okt_nn (by omega), ?_⟩)
    try (first | (show _ ≤ _; omega) | (show _ < _; omega))
  · have hlt : k < n := by omega
    have c' := eq_false (show ¬ (n : Int) ≤ k by omega)
    have b2 := b1 k (by omega)
    have hb := hsM_bt (M := M) (Y := Y) (a := a) n8 hlt
    have f1 := felS_in (c := 2) h hlt (Or.inr rfl)
    have K' := K hlt _ _ ⟨rfl, rfl⟩
    rw [fBit_succ] at K'
    by_cases cb : btI (hsM M a n) k = true
    · rw [if_pos cb] at b2
      by_cases cY : Y k = -1
      · rw [if_neg (fun z => z.1.1 cY)] at K'
        refine wpm_of (cuts := [11]) (by decide) 50 _ _ _ _ ?_
        simp (maxSteps := 2000000) only [↓reduceIte, wp_eq, wpd_eq, kont_eq, STP1, STP2, STP3, STP4, STP5, konM_eq, AMK, CZ, Option.map, List.getElem?_cons_zero, List.getElem?_cons_succ, List.mem_cons, List.not_mem_nil, if_false, if_true, Nat.reduceAdd, Nat.reduceLT, Nat.reduceLeDiff, Nat.reduceEqDiff, true_and, and_true, List.length_nil, List.length_cons, or_true, true_or, or_false, false_or, Option.some.injEq, Sum.inl.injEq, Sum.inr.injEq, exists_eq_left', exists_eq_left, Int.reduceLE, Int.reduceLT, Int.reduceNeg, Int.reduceAdd, Int.reduceMul, Int.reduceSub, Int.reduceToNat, inR, Nat.zero_ne_one, false_and, Nat.succ_ne_zero, reduceCtorEq, false_implies, true_implies, not_false_eq_true, not_true_eq_false, Int.reduceEq, KRE, C_Model_reused, FM, en, c', b2]
        repeat (first | refine ⟨by omega, ?_⟩ | refine ⟨fun _ _ => okt_nn (by omega), ?_⟩)
        try (first | (show _ ≤ _; omega) | (show _ < _; omega))
        refine (dated_m h hlt).eq ?_
        rw [if_neg (fun z => z cY)]
        try simp (maxSteps := 2000000) only [↓reduceIte, wp_eq, wpd_eq, kont_eq, STP1, STP2, STP3, STP4, STP5, konM_eq, AMK, CZ, Option.map, List.getElem?_cons_zero, List.getElem?_cons_succ, List.mem_cons, List.not_mem_nil, if_false, if_true, Nat.reduceAdd, Nat.reduceLT, Nat.reduceLeDiff, Nat.reduceEqDiff, true_and, and_true, List.length_nil, List.length_cons, or_true, true_or, or_false, false_or, Option.some.injEq, Sum.inl.injEq, Sum.inr.injEq, exists_eq_left', exists_eq_left, Int.reduceLE, Int.reduceLT, Int.reduceNeg, Int.reduceAdd, Int.reduceMul, Int.reduceSub, Int.reduceToNat, inR, Nat.zero_ne_one, false_and, Nat.succ_ne_zero, reduceCtorEq, false_implies, true_implies, not_false_eq_true, not_true_eq_false, Int.reduceEq, KRE, C_Model_reused]
        repeat (first | refine ⟨by omega, ?_⟩ | refine ⟨fun _ _ => okt_nn (by omega), ?_⟩)
        try (first | (show _ ≤ _; omega) | (show _ < _; omega))
        exact K'
      · have hb2 := hb.mp ⟨cb, cY⟩
        refine wpm_of (cuts := [11]) (by decide) 50 _ _ _ _ ?_
        simp (maxSteps := 2000000) only [↓reduceIte, wp_eq, wpd_eq, kont_eq, STP1, STP2, STP3, STP4, STP5, konM_eq, AMK, CZ, Option.map, List.getElem?_cons_zero, List.getElem?_cons_succ, List.mem_cons, List.not_mem_nil, if_false, if_true, Nat.reduceAdd, Nat.reduceLT, Nat.reduceLeDiff, Nat.reduceEqDiff, true_and, and_true, List.length_nil, List.length_cons, or_true, true_or, or_false, false_or, Option.some.injEq, Sum.inl.injEq, Sum.inr.injEq, exists_eq_left', exists_eq_left, Int.reduceLE, Int.reduceLT, Int.reduceNeg, Int.reduceAdd, Int.reduceMul, Int.reduceSub, Int.reduceToNat, inR, Nat.zero_ne_one, false_and, Nat.succ_ne_zero, reduceCtorEq, false_implies, true_implies, not_false_eq_true, not_true_eq_false, Int.reduceEq, KRE, C_Model_reused, FM, en, c', b2]
        repeat (first | refine ⟨by omega, ?_⟩ | refine ⟨fun _ _ => okt_nn (by omega), ?_⟩)
        try (first | (show _ ≤ _; omega) | (show _ < _; omega))
        refine (dated_m h hlt).eq ?_
        rw [if_pos cY]
        try simp (maxSteps := 2000000) only [↓reduceIte, wp_eq, wpd_eq, kont_eq, STP1, STP2, STP3, STP4, STP5, konM_eq, AMK, CZ, Option.map, List.getElem?_cons_zero, List.getElem?_cons_succ, List.mem_cons, List.not_mem_nil, if_false, if_true, Nat.reduceAdd, Nat.reduceLT, Nat.reduceLeDiff, Nat.reduceEqDiff, true_and, and_true, List.length_nil, List.length_cons, or_true, true_or, or_false, false_or, Option.some.injEq, Sum.inl.injEq, Sum.inr.injEq, exists_eq_left', exists_eq_left, Int.reduceLE, Int.reduceLT, Int.reduceNeg, Int.reduceAdd, Int.reduceMul, Int.reduceSub, Int.reduceToNat, inR, Nat.zero_ne_one, false_and, Nat.succ_ne_zero, reduceCtorEq, false_implies, true_implies, not_false_eq_true, not_true_eq_false, Int.reduceEq, KRE, C_Model_reused]
        repeat (first | refine ⟨by omega, ?_⟩ | refine ⟨fun _ _ => okt_nn (by omega), ?_⟩)
        try (first | (show _ ≤ _; omega) | (show _ < _; omega))
        refine (Model_felled_ok (c := 2) h hlt (Or.inr rfl) rfl).eq ?_
        try simp (maxSteps := 2000000) only [↓reduceIte, wp_eq, wpd_eq, kont_eq, STP1, STP2, STP3, STP4, STP5, konM_eq, AMK, CZ, Option.map, List.getElem?_cons_zero, List.getElem?_cons_succ, List.mem_cons, List.not_mem_nil, if_false, if_true, Nat.reduceAdd, Nat.reduceLT, Nat.reduceLeDiff, Nat.reduceEqDiff, true_and, and_true, List.length_nil, List.length_cons, or_true, true_or, or_false, false_or, Option.some.injEq, Sum.inl.injEq, Sum.inr.injEq, exists_eq_left', exists_eq_left, Int.reduceLE, Int.reduceLT, Int.reduceNeg, Int.reduceAdd, Int.reduceMul, Int.reduceSub, Int.reduceToNat, inR, Nat.zero_ne_one, false_and, Nat.succ_ne_zero, reduceCtorEq, false_implies, true_implies, not_false_eq_true, not_true_eq_false, Int.reduceEq, KRE, C_Model_reused]
        refine E.eq ?_
        by_cases cf : felS T Y (fun t => M 158 (30 * t + 2)) k < edM M T Y a n
        · rw [if_pos ⟨hb2, cf⟩] at K'
          have cf' := eq_false (show ¬ edM M T Y a n ≤ felS T Y (fun t => M 158 (30 * t + 2)) k by omega)
          try simp (maxSteps := 2000000) only [↓reduceIte, wp_eq, wpd_eq, kont_eq, STP1, STP2, STP3, STP4, STP5, konM_eq, AMK, CZ, Option.map, List.getElem?_cons_zero, List.getElem?_cons_succ, List.mem_cons, List.not_mem_nil, if_false, if_true, Nat.reduceAdd, Nat.reduceLT, Nat.reduceLeDiff, Nat.reduceEqDiff, true_and, and_true, List.length_nil, List.length_cons, or_true, true_or, or_false, false_or, Option.some.injEq, Sum.inl.injEq, Sum.inr.injEq, exists_eq_left', exists_eq_left, Int.reduceLE, Int.reduceLT, Int.reduceNeg, Int.reduceAdd, Int.reduceMul, Int.reduceSub, Int.reduceToNat, inR, Nat.zero_ne_one, false_and, Nat.succ_ne_zero, reduceCtorEq, false_implies, true_implies, not_false_eq_true, not_true_eq_false, Int.reduceEq, KRE, C_Model_reused, cf']
          repeat (first | refine ⟨by omega, ?_⟩ | refine ⟨fun _ _ => okt_nn (by omega), ?_⟩)
          try (first | (show _ ≤ _; omega) | (show _ < _; omega))
          exact K'
        · rw [if_neg (fun z => cf z.2)] at K'
          have cf' := eq_true (show edM M T Y a n ≤ felS T Y (fun t => M 158 (30 * t + 2)) k by omega)
          try simp (maxSteps := 2000000) only [↓reduceIte, wp_eq, wpd_eq, kont_eq, STP1, STP2, STP3, STP4, STP5, konM_eq, AMK, CZ, Option.map, List.getElem?_cons_zero, List.getElem?_cons_succ, List.mem_cons, List.not_mem_nil, if_false, if_true, Nat.reduceAdd, Nat.reduceLT, Nat.reduceLeDiff, Nat.reduceEqDiff, true_and, and_true, List.length_nil, List.length_cons, or_true, true_or, or_false, false_or, Option.some.injEq, Sum.inl.injEq, Sum.inr.injEq, exists_eq_left', exists_eq_left, Int.reduceLE, Int.reduceLT, Int.reduceNeg, Int.reduceAdd, Int.reduceMul, Int.reduceSub, Int.reduceToNat, inR, Nat.zero_ne_one, false_and, Nat.succ_ne_zero, reduceCtorEq, false_implies, true_implies, not_false_eq_true, not_true_eq_false, Int.reduceEq, KRE, C_Model_reused, cf']
          repeat (first | refine ⟨by omega, ?_⟩ | refine ⟨fun _ _ => okt_nn (by omega), ?_⟩)
          try (first | (show _ ≤ _; omega) | (show _ < _; omega))
          exact K'
    · rw [if_neg cb] at b2
      rw [if_neg (fun z => cb (by
        have := z.1
        unfold hsM
        rw [fBit_bt _ (by omega) (by omega)]
        simp only [decide_eq_true_eq]
        exact ⟨hlt, this.2⟩))] at K'
      refine wpm_of (cuts := [11]) (by decide) 50 _ _ _ _ ?_
      simp (maxSteps := 2000000) only [↓reduceIte, wp_eq, wpd_eq, kont_eq, STP1, STP2, STP3, STP4, STP5, konM_eq, AMK, CZ, Option.map, List.getElem?_cons_zero, List.getElem?_cons_succ, List.mem_cons, List.not_mem_nil, if_false, if_true, Nat.reduceAdd, Nat.reduceLT, Nat.reduceLeDiff, Nat.reduceEqDiff, true_and, and_true, List.length_nil, List.length_cons, or_true, true_or, or_false, false_or, Option.some.injEq, Sum.inl.injEq, Sum.inr.injEq, exists_eq_left', exists_eq_left, Int.reduceLE, Int.reduceLT, Int.reduceNeg, Int.reduceAdd, Int.reduceMul, Int.reduceSub, Int.reduceToNat, inR, Nat.zero_ne_one, false_and, Nat.succ_ne_zero, reduceCtorEq, false_implies, true_implies, not_false_eq_true, not_true_eq_false, Int.reduceEq, KRE, C_Model_reused, FM, en, c', b2]
      repeat (first | refine ⟨by omega, ?_⟩ | refine ⟨fun _ _ => okt_nn (by omega), ?_⟩)
      try (first | (show _ ≤ _; omega) | (show _ < _; omega))
      exact K'
end MOD8

/-! THE REFERENCE, 9: pointers; a number of a timber, of a ring. -/
section MOD9
variable {n : Nat} {T : Nat → Rw} {Y : Nat → Int} {lap bnd mrg : Int} {M : Mm}
def stMY (T : Nat → Rw) (Y : Nat → Int) (y : Int) (t : Nat) : Int := if Y t ≠ -1 ∧ Y t < y ∧ y < Y t + (T t).2.1 then stpY T Y y t else 2
set_option maxHeartbeats 600000 in
set_option maxRecDepth 20000 in
theorem Model_stepIn_ok {t : Nat} {y : Int} (h : mdl M n T Y lap bnd mrg) (ht : t < n) (hy : inR y) : CallI m_Model_stepIn [.inr 154, .inl (t : Int), .inl y] M (fun x M' => x = stMY T Y y t ∧ M' = M) := by
  have g := mdl_t h ht
  have o := g.2.2.2.1
  have o1 := o.1
  have gy := g.2.2.2.2.1
  have b1 := okT_N (r := y - Y t) o
  have b2 := okT_N (r := y - Y t - 1) o
  have er : rgIn T Y t y = if Y t ≠ -1 ∧ Y t ≤ y ∧ y < Y t + (T t).2.1 then y - Y t else -1 := rfl
  refine callP_of (by decide) (by decide) (Nat.le_of_ble_eq_true rfl) (wpm_of (cuts := []) (by decide) 50 _ _ _ _ ?_)
  rw [show lM m_Model_stepIn = 4 from rfl]
  simp (maxSteps := 2000000) only [↓reduceIte, wp_eq, wpd_eq, kont_eq, STP1, STP2, STP3, STP4, STP5, konM_eq, AMK, CZ, Option.map, List.getElem?_cons_zero, List.getElem?_cons_succ, List.mem_cons, List.not_mem_nil, if_false, if_true, Nat.reduceAdd, Nat.reduceLT, Nat.reduceLeDiff, Nat.reduceEqDiff, true_and, and_true, List.length_nil, List.length_cons, or_true, true_or, or_false, false_or, Option.some.injEq, Sum.inl.injEq, Sum.inr.injEq, exists_eq_left', exists_eq_left, Int.reduceLE, Int.reduceLT, Int.reduceNeg, Int.reduceAdd, Int.reduceMul, Int.reduceSub, Int.reduceToNat, inR, Nat.zero_ne_one, false_and, Nat.succ_ne_zero, reduceCtorEq, false_implies, true_implies, not_false_eq_true, not_true_eq_false, Int.reduceEq, KRE, C_Model_stepIn, FM]
  refine (Model_ringIn_ok h ht hy).eq ?_
  by_cases c : Y t ≠ -1 ∧ Y t < y ∧ y < Y t + (T t).2.1
  · rw [if_pos ⟨c.1, by omega, c.2.2⟩] at er
    rw [er]
    have c' := eq_true (show 1 ≤ y - Y t by omega)
    have e : stMY T Y y t = vCmp (sN (T t) (y - Y t)) (sN (T t) (y - Y t - 1)) := if_pos c
    rw [e]
    try simp (maxSteps := 2000000) only [↓reduceIte, wp_eq, wpd_eq, kont_eq, STP1, STP2, STP3, STP4, STP5, konM_eq, AMK, CZ, Option.map, List.getElem?_cons_zero, List.getElem?_cons_succ, List.mem_cons, List.not_mem_nil, if_false, if_true, Nat.reduceAdd, Nat.reduceLT, Nat.reduceLeDiff, Nat.reduceEqDiff, true_and, and_true, List.length_nil, List.length_cons, or_true, true_or, or_false, false_or, Option.some.injEq, Sum.inl.injEq, Sum.inr.injEq, exists_eq_left', exists_eq_left, Int.reduceLE, Int.reduceLT, Int.reduceNeg, Int.reduceAdd, Int.reduceMul, Int.reduceSub, Int.reduceToNat, inR, Nat.zero_ne_one, false_and, Nat.succ_ne_zero, reduceCtorEq, false_implies, true_implies, not_false_eq_true, not_true_eq_false, Int.reduceEq, KRE, C_Model_stepIn, c']
    repeat (first | refine ⟨by omega, ?_⟩ | refine ⟨fun _ _ => okt_nn (by omega), ?_⟩)
    try (first | (show _ ≤ _; omega) | (show _ < _; omega))
    refine (of_width h ht (by omega) (by omega)).eq ?_
    try simp (maxSteps := 2000000) only [↓reduceIte, wp_eq, wpd_eq, kont_eq, STP1, STP2, STP3, STP4, STP5, konM_eq, AMK, CZ, Option.map, List.getElem?_cons_zero, List.getElem?_cons_succ, List.mem_cons, List.not_mem_nil, if_false, if_true, Nat.reduceAdd, Nat.reduceLT, Nat.reduceLeDiff, Nat.reduceEqDiff, true_and, and_true, List.length_nil, List.length_cons, or_true, true_or, or_false, false_or, Option.some.injEq, Sum.inl.injEq, Sum.inr.injEq, exists_eq_left', exists_eq_left, Int.reduceLE, Int.reduceLT, Int.reduceNeg, Int.reduceAdd, Int.reduceMul, Int.reduceSub, Int.reduceToNat, inR, Nat.zero_ne_one, false_and, Nat.succ_ne_zero, reduceCtorEq, false_implies, true_implies, not_false_eq_true, not_true_eq_false, Int.reduceEq, KRE, C_Model_stepIn]
    rw [show 6 + (y - Y t) - 1 = 6 + (y - Y t - 1) by omega]
    refine (of_width h ht (by omega) (by omega)).eq ?_
    try simp (maxSteps := 2000000) only [↓reduceIte, wp_eq, wpd_eq, kont_eq, STP1, STP2, STP3, STP4, STP5, konM_eq, AMK, CZ, Option.map, List.getElem?_cons_zero, List.getElem?_cons_succ, List.mem_cons, List.not_mem_nil, if_false, if_true, Nat.reduceAdd, Nat.reduceLT, Nat.reduceLeDiff, Nat.reduceEqDiff, true_and, and_true, List.length_nil, List.length_cons, or_true, true_or, or_false, false_or, Option.some.injEq, Sum.inl.injEq, Sum.inr.injEq, exists_eq_left', exists_eq_left, Int.reduceLE, Int.reduceLT, Int.reduceNeg, Int.reduceAdd, Int.reduceMul, Int.reduceSub, Int.reduceToNat, inR, Nat.zero_ne_one, false_and, Nat.succ_ne_zero, reduceCtorEq, false_implies, true_implies, not_false_eq_true, not_true_eq_false, Int.reduceEq, KRE, C_Model_stepIn]
    exact (Integer_compare_ok ⟨by omega, by omega⟩ ⟨by omega, by omega⟩).eq ⟨rfl, rfl⟩
  · have e : stMY T Y y t = 2 := if_neg c
    have e2 : ¬ 1 ≤ rgIn T Y t y ∧ -1 ≤ rgIn T Y t y := by
      rw [er]
      split <;> omega
    rw [e]
    generalize rgIn T Y t y = r at *
    have c' := eq_false e2.1
    try simp (maxSteps := 2000000) only [↓reduceIte, wp_eq, wpd_eq, kont_eq, STP1, STP2, STP3, STP4, STP5, konM_eq, AMK, CZ, Option.map, List.getElem?_cons_zero, List.getElem?_cons_succ, List.mem_cons, List.not_mem_nil, if_false, if_true, Nat.reduceAdd, Nat.reduceLT, Nat.reduceLeDiff, Nat.reduceEqDiff, true_and, and_true, List.length_nil, List.length_cons, or_true, true_or, or_false, false_or, Option.some.injEq, Sum.inl.injEq, Sum.inr.injEq, exists_eq_left', exists_eq_left, Int.reduceLE, Int.reduceLT, Int.reduceNeg, Int.reduceAdd, Int.reduceMul, Int.reduceSub, Int.reduceToNat, inR, Nat.zero_ne_one, false_and, Nat.succ_ne_zero, reduceCtorEq, false_implies, true_implies, not_false_eq_true, not_true_eq_false, Int.reduceEq, KRE, C_Model_stepIn, c']
    repeat (first | refine ⟨by omega, ?_⟩ | refine ⟨fun _ _ => okt_nn (by omega), ?_⟩)
    try (first | (show _ ≤ _; omega) | (show _ < _; omega))
set_option maxHeartbeats 600000 in
set_option maxRecDepth 20000 in
theorem Model_pointerIn_ok {y : Int} (h : mdl M n T Y lap bnd mrg) (hy : inR y) : CallI m_Model_pointerIn [.inr 154, .inl y] M (fun x M' => x = ptr T Y y n ∧ M' = M) := by
  have en := h.1.1
  have n8 := h.1.2
  refine callP_of (by decide) (by decide) (Nat.le_of_ble_eq_true rfl) (wpm_of (cuts := [10]) (by decide) 50 _ _ _ _ ?_)
  rw [show lM m_Model_pointerIn = 7 from rfl]
  simp (maxSteps := 2000000) only [↓reduceIte, wp_eq, wpd_eq, kont_eq, STP1, STP2, STP3, STP4, STP5, konM_eq, AMK, CZ, Option.map, List.getElem?_cons_zero, List.getElem?_cons_succ, List.mem_cons, List.not_mem_nil, if_false, if_true, Nat.reduceAdd, Nat.reduceLT, Nat.reduceLeDiff, Nat.reduceEqDiff, true_and, and_true, List.length_nil, List.length_cons, or_true, true_or, or_false, false_or, Option.some.injEq, Sum.inl.injEq, Sum.inr.injEq, exists_eq_left', exists_eq_left, Int.reduceLE, Int.reduceLT, Int.reduceNeg, Int.reduceAdd, Int.reduceMul, Int.reduceSub, Int.reduceToNat, inR, Nat.zero_ne_one, false_and, Nat.succ_ne_zero, reduceCtorEq, false_implies, true_implies, not_false_eq_true, not_true_eq_false, Int.reduceEq, KRE, C_Model_pointerIn, FM]
  refine loopQ n (fun k ls M1 => M = M1 ∧ ∃ a6, ls = [some (.inr 154), some (.inl y), some (.inl (pUp T Y y k)), some (.inl (pDn T Y y k)), some (.inl (pAll T Y y k)), some (.inl (k : Int)), a6]) ?_ _ _ ⟨rfl, none, rfl⟩
  rintro k _ _ hk ⟨rfl, a6, rfl⟩ K
  have pin := p_in T Y y (n := k) (by omega)
  by_cases c : k = n
  · subst c
    have c' := eq_true (show (k : Int) ≤ k by omega)
    have ep : ptr T Y y k = if pAll T Y y k < 3 then 0 else if 3 * pAll T Y y k ≤ 4 * pUp T Y y k then 1 else if 3 * pAll T Y y k ≤ 4 * pDn T Y y k then -1 else 0 := rfl
    generalize pAll T Y y k = a at *
    generalize pUp T Y y k = u at *
    generalize pDn T Y y k = d at *
    by_cases c1 : a < 3
    · rw [if_pos c1] at ep
      rw [ep]
      have c1' := eq_false (show ¬ 3 ≤ a by omega)
      refine wpm_of (cuts := [10]) (by decide) 80 _ _ _ _ ?_
      simp (maxSteps := 2000000) only [↓reduceIte, wp_eq, wpd_eq, kont_eq, STP1, STP2, STP3, STP4, STP5, konM_eq, AMK, CZ, Option.map, List.getElem?_cons_zero, List.getElem?_cons_succ, List.mem_cons, List.not_mem_nil, if_false, if_true, Nat.reduceAdd, Nat.reduceLT, Nat.reduceLeDiff, Nat.reduceEqDiff, true_and, and_true, List.length_nil, List.length_cons, or_true, true_or, or_false, false_or, Option.some.injEq, Sum.inl.injEq, Sum.inr.injEq, exists_eq_left', exists_eq_left, Int.reduceLE, Int.reduceLT, Int.reduceNeg, Int.reduceAdd, Int.reduceMul, Int.reduceSub, Int.reduceToNat, inR, Nat.zero_ne_one, false_and, Nat.succ_ne_zero, reduceCtorEq, false_implies, true_implies, not_false_eq_true, not_true_eq_false, Int.reduceEq, KRE, C_Model_pointerIn, FM, en, c', c1']
      repeat (first | refine ⟨by omega, ?_⟩ | refine ⟨fun _ _ => okt_nn (by omega), ?_⟩)
      try (first | (show _ ≤ _; omega) | (show _ < _; omega))
    · rw [if_neg c1] at ep
      have c1' := eq_true (show 3 ≤ a by omega)
      by_cases c2 : 3 * a ≤ 4 * u
      · rw [if_pos c2] at ep
        rw [ep]
        have c2' := eq_false (show ¬ 4 * u < 3 * a by omega)
        refine wpm_of (cuts := [10]) (by decide) 80 _ _ _ _ ?_
        simp (maxSteps := 2000000) only [↓reduceIte, wp_eq, wpd_eq, kont_eq, STP1, STP2, STP3, STP4, STP5, konM_eq, AMK, CZ, Option.map, List.getElem?_cons_zero, List.getElem?_cons_succ, List.mem_cons, List.not_mem_nil, if_false, if_true, Nat.reduceAdd, Nat.reduceLT, Nat.reduceLeDiff, Nat.reduceEqDiff, true_and, and_true, List.length_nil, List.length_cons, or_true, true_or, or_false, false_or, Option.some.injEq, Sum.inl.injEq, Sum.inr.injEq, exists_eq_left', exists_eq_left, Int.reduceLE, Int.reduceLT, Int.reduceNeg, Int.reduceAdd, Int.reduceMul, Int.reduceSub, Int.reduceToNat, inR, Nat.zero_ne_one, false_and, Nat.succ_ne_zero, reduceCtorEq, false_implies, true_implies, not_false_eq_true, not_true_eq_false, Int.reduceEq, KRE, C_Model_pointerIn, FM, en, c', c1', c2']
        repeat (first | refine ⟨by omega, ?_⟩ | refine ⟨fun _ _ => okt_nn (by omega), ?_⟩)
        try (first | (show _ ≤ _; omega) | (show _ < _; omega))
      · rw [if_neg c2] at ep
        have c2' := eq_true (show 4 * u < 3 * a by omega)
        by_cases c3 : 3 * a ≤ 4 * d
        · rw [if_pos c3] at ep
          rw [ep]
          have c3' := eq_false (show ¬ 4 * d < 3 * a by omega)
          refine wpm_of (cuts := [10]) (by decide) 80 _ _ _ _ ?_
          simp (maxSteps := 2000000) only [↓reduceIte, wp_eq, wpd_eq, kont_eq, STP1, STP2, STP3, STP4, STP5, konM_eq, AMK, CZ, Option.map, List.getElem?_cons_zero, List.getElem?_cons_succ, List.mem_cons, List.not_mem_nil, if_false, if_true, Nat.reduceAdd, Nat.reduceLT, Nat.reduceLeDiff, Nat.reduceEqDiff, true_and, and_true, List.length_nil, List.length_cons, or_true, true_or, or_false, false_or, Option.some.injEq, Sum.inl.injEq, Sum.inr.injEq, exists_eq_left', exists_eq_left, Int.reduceLE, Int.reduceLT, Int.reduceNeg, Int.reduceAdd, Int.reduceMul, Int.reduceSub, Int.reduceToNat, inR, Nat.zero_ne_one, false_and, Nat.succ_ne_zero, reduceCtorEq, false_implies, true_implies, not_false_eq_true, not_true_eq_false, Int.reduceEq, KRE, C_Model_pointerIn, FM, en, c', c1', c2', c3']
          repeat (first | refine ⟨by omega, ?_⟩ | refine ⟨fun _ _ => okt_nn (by omega), ?_⟩)
          try (first | (show _ ≤ _; omega) | (show _ < _; omega))
        · rw [if_neg c3] at ep
          rw [ep]
          have c3' := eq_true (show 4 * d < 3 * a by omega)
          refine wpm_of (cuts := [10]) (by decide) 80 _ _ _ _ ?_
          simp (maxSteps := 2000000) only [↓reduceIte, wp_eq, wpd_eq, kont_eq, STP1, STP2, STP3, STP4, STP5, konM_eq, AMK, CZ, Option.map, List.getElem?_cons_zero, List.getElem?_cons_succ, List.mem_cons, List.not_mem_nil, if_false, if_true, Nat.reduceAdd, Nat.reduceLT, Nat.reduceLeDiff, Nat.reduceEqDiff, true_and, and_true, List.length_nil, List.length_cons, or_true, true_or, or_false, false_or, Option.some.injEq, Sum.inl.injEq, Sum.inr.injEq, exists_eq_left', exists_eq_left, Int.reduceLE, Int.reduceLT, Int.reduceNeg, Int.reduceAdd, Int.reduceMul, Int.reduceSub, Int.reduceToNat, inR, Nat.zero_ne_one, false_and, Nat.succ_ne_zero, reduceCtorEq, false_implies, true_implies, not_false_eq_true, not_true_eq_false, Int.reduceEq, KRE, C_Model_pointerIn, FM, en, c', c1', c2', c3']
          repeat (first | refine ⟨by omega, ?_⟩ | refine ⟨fun _ _ => okt_nn (by omega), ?_⟩)
          try (first | (show _ ≤ _; omega) | (show _ < _; omega))
  · have hlt : k < n := by omega
    have c' := eq_false (show ¬ (n : Int) ≤ k by omega)
    have K' := fun a6 => K hlt _ _ ⟨rfl, a6, rfl⟩
    have e1 : pAll T Y y (k + 1) = pAll T Y y k + if Y k ≠ -1 ∧ Y k < y ∧ y < Y k + (T k).2.1 then 1 else 0 := rfl
    have e2 : pUp T Y y (k + 1) = pUp T Y y k + if (Y k ≠ -1 ∧ Y k < y ∧ y < Y k + (T k).2.1) ∧ stpY T Y y k = 1 then 1 else 0 := rfl
    have e3 : pDn T Y y (k + 1) = pDn T Y y k + if (Y k ≠ -1 ∧ Y k < y ∧ y < Y k + (T k).2.1) ∧ stpY T Y y k = -1 then 1 else 0 := rfl
    rw [e1, e2, e3] at K'
    have vi : -1 ≤ stpY T Y y k ∧ stpY T Y y k ≤ 1 := vCmp_in _ _
    refine wpm_of (cuts := [10]) (by decide) 80 _ _ _ _ ?_
    simp (maxSteps := 2000000) only [↓reduceIte, wp_eq, wpd_eq, kont_eq, STP1, STP2, STP3, STP4, STP5, konM_eq, AMK, CZ, Option.map, List.getElem?_cons_zero, List.getElem?_cons_succ, List.mem_cons, List.not_mem_nil, if_false, if_true, Nat.reduceAdd, Nat.reduceLT, Nat.reduceLeDiff, Nat.reduceEqDiff, true_and, and_true, List.length_nil, List.length_cons, or_true, true_or, or_false, false_or, Option.some.injEq, Sum.inl.injEq, Sum.inr.injEq, exists_eq_left', exists_eq_left, Int.reduceLE, Int.reduceLT, Int.reduceNeg, Int.reduceAdd, Int.reduceMul, Int.reduceSub, Int.reduceToNat, inR, Nat.zero_ne_one, false_and, Nat.succ_ne_zero, reduceCtorEq, false_implies, true_implies, not_false_eq_true, not_true_eq_false, Int.reduceEq, KRE, C_Model_pointerIn, FM, en, c']
    repeat (first | refine ⟨by omega, ?_⟩ | refine ⟨fun _ _ => okt_nn (by omega), ?_⟩)
    try (first | (show _ ≤ _; omega) | (show _ < _; omega))
    refine (Model_stepIn_ok h hlt hy).eq ?_
    by_cases c1 : Y k ≠ -1 ∧ Y k < y ∧ y < Y k + (T k).2.1
    · rw [show stMY T Y y k = stpY T Y y k from if_pos c1]
      rw [if_pos c1] at K'
      rcases (show stpY T Y y k = 1 ∨ stpY T Y y k = -1 ∨ stpY T Y y k = 0 by omega) with q | q | q
      · rw [if_pos ⟨c1, q⟩, if_neg (fun z => by omega)] at K'
        rw [q]
        try simp (maxSteps := 2000000) only [↓reduceIte, wp_eq, wpd_eq, kont_eq, STP1, STP2, STP3, STP4, STP5, konM_eq, AMK, CZ, Option.map, List.getElem?_cons_zero, List.getElem?_cons_succ, List.mem_cons, List.not_mem_nil, if_false, if_true, Nat.reduceAdd, Nat.reduceLT, Nat.reduceLeDiff, Nat.reduceEqDiff, true_and, and_true, List.length_nil, List.length_cons, or_true, true_or, or_false, false_or, Option.some.injEq, Sum.inl.injEq, Sum.inr.injEq, exists_eq_left', exists_eq_left, Int.reduceLE, Int.reduceLT, Int.reduceNeg, Int.reduceAdd, Int.reduceMul, Int.reduceSub, Int.reduceToNat, inR, Nat.zero_ne_one, false_and, Nat.succ_ne_zero, reduceCtorEq, false_implies, true_implies, not_false_eq_true, not_true_eq_false, Int.reduceEq, KRE, C_Model_pointerIn]
        repeat (first | refine ⟨by omega, ?_⟩ | refine ⟨fun _ _ => okt_nn (by omega), ?_⟩)
        try (first | (show _ ≤ _; omega) | (show _ < _; omega))
        exact K' _
      · rw [if_neg (fun z => by omega), if_pos ⟨c1, q⟩] at K'
        rw [q]
        try simp (maxSteps := 2000000) only [↓reduceIte, wp_eq, wpd_eq, kont_eq, STP1, STP2, STP3, STP4, STP5, konM_eq, AMK, CZ, Option.map, List.getElem?_cons_zero, List.getElem?_cons_succ, List.mem_cons, List.not_mem_nil, if_false, if_true, Nat.reduceAdd, Nat.reduceLT, Nat.reduceLeDiff, Nat.reduceEqDiff, true_and, and_true, List.length_nil, List.length_cons, or_true, true_or, or_false, false_or, Option.some.injEq, Sum.inl.injEq, Sum.inr.injEq, exists_eq_left', exists_eq_left, Int.reduceLE, Int.reduceLT, Int.reduceNeg, Int.reduceAdd, Int.reduceMul, Int.reduceSub, Int.reduceToNat, inR, Nat.zero_ne_one, false_and, Nat.succ_ne_zero, reduceCtorEq, false_implies, true_implies, not_false_eq_true, not_true_eq_false, Int.reduceEq, KRE, C_Model_pointerIn]
        repeat (first | refine ⟨by omega, ?_⟩ | refine ⟨fun _ _ => okt_nn (by omega), ?_⟩)
        try (first | (show _ ≤ _; omega) | (show _ < _; omega))
        exact K' _
      · rw [if_neg (fun z => by omega), if_neg (fun z => by omega)] at K'
        rw [q]
        try simp (maxSteps := 2000000) only [↓reduceIte, wp_eq, wpd_eq, kont_eq, STP1, STP2, STP3, STP4, STP5, konM_eq, AMK, CZ, Option.map, List.getElem?_cons_zero, List.getElem?_cons_succ, List.mem_cons, List.not_mem_nil, if_false, if_true, Nat.reduceAdd, Nat.reduceLT, Nat.reduceLeDiff, Nat.reduceEqDiff, true_and, and_true, List.length_nil, List.length_cons, or_true, true_or, or_false, false_or, Option.some.injEq, Sum.inl.injEq, Sum.inr.injEq, exists_eq_left', exists_eq_left, Int.reduceLE, Int.reduceLT, Int.reduceNeg, Int.reduceAdd, Int.reduceMul, Int.reduceSub, Int.reduceToNat, inR, Nat.zero_ne_one, false_and, Nat.succ_ne_zero, reduceCtorEq, false_implies, true_implies, not_false_eq_true, not_true_eq_false, Int.reduceEq, KRE, C_Model_pointerIn]
        repeat (first | refine ⟨by omega, ?_⟩ | refine ⟨fun _ _ => okt_nn (by omega), ?_⟩)
        try (first | (show _ ≤ _; omega) | (show _ < _; omega))
        exact K' _
    · rw [show stMY T Y y k = 2 from if_neg c1]
      rw [if_neg c1, if_neg (fun z => c1 z.1), if_neg (fun z => c1 z.1)] at K'
      try simp (maxSteps := 2000000) only [↓reduceIte, wp_eq, wpd_eq, kont_eq, STP1, STP2, STP3, STP4, STP5, konM_eq, AMK, CZ, Option.map, List.getElem?_cons_zero, List.getElem?_cons_succ, List.mem_cons, List.not_mem_nil, if_false, if_true, Nat.reduceAdd, Nat.reduceLT, Nat.reduceLeDiff, Nat.reduceEqDiff, true_and, and_true, List.length_nil, List.length_cons, or_true, true_or, or_false, false_or, Option.some.injEq, Sum.inl.injEq, Sum.inr.injEq, exists_eq_left', exists_eq_left, Int.reduceLE, Int.reduceLT, Int.reduceNeg, Int.reduceAdd, Int.reduceMul, Int.reduceSub, Int.reduceToNat, inR, Nat.zero_ne_one, false_and, Nat.succ_ne_zero, reduceCtorEq, false_implies, true_implies, not_false_eq_true, not_true_eq_false, Int.reduceEq, KRE, C_Model_pointerIn]
      repeat (first | refine ⟨by omega, ?_⟩ | refine ⟨fun _ _ => okt_nn (by omega), ?_⟩)
      try (first | (show _ ≤ _; omega) | (show _ < _; omega))
      exact K' _
set_option maxHeartbeats 600000 in
set_option maxRecDepth 20000 in
theorem Model_pointers_ok (h : mdl M n T Y lap bnd mrg) : CallI m_Model_pointers [.inr 154] M (fun x M' => x = cntP T Y n 1000 ∧ M' = M) := by
  refine callP_of (by decide) (by decide) (Nat.le_of_ble_eq_true rfl) (wpm_of (cuts := [4]) (by decide) 50 _ _ _ _ ?_)
  rw [show lM m_Model_pointers = 3 from rfl]
  simp (maxSteps := 2000000) only [↓reduceIte, wp_eq, wpd_eq, kont_eq, STP1, STP2, STP3, STP4, STP5, konM_eq, AMK, CZ, Option.map, List.getElem?_cons_zero, List.getElem?_cons_succ, List.mem_cons, List.not_mem_nil, if_false, if_true, Nat.reduceAdd, Nat.reduceLT, Nat.reduceLeDiff, Nat.reduceEqDiff, true_and, and_true, List.length_nil, List.length_cons, or_true, true_or, or_false, false_or, Option.some.injEq, Sum.inl.injEq, Sum.inr.injEq, exists_eq_left', exists_eq_left, Int.reduceLE, Int.reduceLT, Int.reduceNeg, Int.reduceAdd, Int.reduceMul, Int.reduceSub, Int.reduceToNat, inR, Nat.zero_ne_one, false_and, Nat.succ_ne_zero, reduceCtorEq, false_implies, true_implies, not_false_eq_true, not_true_eq_false, Int.reduceEq, KRE, C_Model_pointers, FM]
  refine loopQ 1000 (fun k ls M1 => M = M1 ∧ ls = [some (.inr 154), some (.inl (cntP T Y n k)), some (.inl (k : Int))]) ?_ _ _ ⟨rfl, rfl⟩
  rintro k _ _ hk ⟨rfl, rfl⟩ K
  by_cases c : k = 1000
  · subst c
    have c' := eq_true (show (1000 : Int) ≤ (1000 : Nat) by omega)
    refine wpm_of (cuts := [4]) (by decide) 50 _ _ _ _ ?_
    simp (maxSteps := 2000000) only [↓reduceIte, wp_eq, wpd_eq, kont_eq, STP1, STP2, STP3, STP4, STP5, konM_eq, AMK, CZ, Option.map, List.getElem?_cons_zero, List.getElem?_cons_succ, List.mem_cons, List.not_mem_nil, if_false, if_true, Nat.reduceAdd, Nat.reduceLT, Nat.reduceLeDiff, Nat.reduceEqDiff, true_and, and_true, List.length_nil, List.length_cons, or_true, true_or, or_false, false_or, Option.some.injEq, Sum.inl.injEq, Sum.inr.injEq, exists_eq_left', exists_eq_left, Int.reduceLE, Int.reduceLT, Int.reduceNeg, Int.reduceAdd, Int.reduceMul, Int.reduceSub, Int.reduceToNat, inR, Nat.zero_ne_one, false_and, Nat.succ_ne_zero, reduceCtorEq, false_implies, true_implies, not_false_eq_true, not_true_eq_false, Int.reduceEq, KRE, C_Model_pointers, FM, c']
    repeat (first | refine ⟨by omega, ?_⟩ | refine ⟨fun _ _ => okt_nn (by omega), ?_⟩)
    try (first | (show _ ≤ _; omega) | (show _ < _; omega))
  · have hlt : k < 1000 := by omega
    have c' := eq_false (show ¬ (1000 : Int) ≤ k by omega)
    have K' := K hlt _ _ ⟨rfl, rfl⟩
    rw [show cntP T Y n (k + 1) = cntP T Y n k + if ptr T Y k n ≠ 0 then 1 else 0 from cntP_succ] at K'
    have pv := ptr_v T Y k n
    refine wpm_of (cuts := [4]) (by decide) 50 _ _ _ _ ?_
    simp (maxSteps := 2000000) only [↓reduceIte, wp_eq, wpd_eq, kont_eq, STP1, STP2, STP3, STP4, STP5, konM_eq, AMK, CZ, Option.map, List.getElem?_cons_zero, List.getElem?_cons_succ, List.mem_cons, List.not_mem_nil, if_false, if_true, Nat.reduceAdd, Nat.reduceLT, Nat.reduceLeDiff, Nat.reduceEqDiff, true_and, and_true, List.length_nil, List.length_cons, or_true, true_or, or_false, false_or, Option.some.injEq, Sum.inl.injEq, Sum.inr.injEq, exists_eq_left', exists_eq_left, Int.reduceLE, Int.reduceLT, Int.reduceNeg, Int.reduceAdd, Int.reduceMul, Int.reduceSub, Int.reduceToNat, inR, Nat.zero_ne_one, false_and, Nat.succ_ne_zero, reduceCtorEq, false_implies, true_implies, not_false_eq_true, not_true_eq_false, Int.reduceEq, KRE, C_Model_pointers, FM, c']
    repeat (first | refine ⟨by omega, ?_⟩ | refine ⟨fun _ _ => okt_nn (by omega), ?_⟩)
    try (first | (show _ ≤ _; omega) | (show _ < _; omega))
    refine (Model_pointerIn_ok h ⟨by omega, by omega⟩).eq ?_
    by_cases cp : ptr T Y k n = 0
    · rw [if_neg (fun z => z cp)] at K'
      have cp' := eq_true cp
      try simp (maxSteps := 2000000) only [↓reduceIte, wp_eq, wpd_eq, kont_eq, STP1, STP2, STP3, STP4, STP5, konM_eq, AMK, CZ, Option.map, List.getElem?_cons_zero, List.getElem?_cons_succ, List.mem_cons, List.not_mem_nil, if_false, if_true, Nat.reduceAdd, Nat.reduceLT, Nat.reduceLeDiff, Nat.reduceEqDiff, true_and, and_true, List.length_nil, List.length_cons, or_true, true_or, or_false, false_or, Option.some.injEq, Sum.inl.injEq, Sum.inr.injEq, exists_eq_left', exists_eq_left, Int.reduceLE, Int.reduceLT, Int.reduceNeg, Int.reduceAdd, Int.reduceMul, Int.reduceSub, Int.reduceToNat, inR, Nat.zero_ne_one, false_and, Nat.succ_ne_zero, reduceCtorEq, false_implies, true_implies, not_false_eq_true, not_true_eq_false, Int.reduceEq, KRE, C_Model_pointers, cp']
      repeat (first | refine ⟨by omega, ?_⟩ | refine ⟨fun _ _ => okt_nn (by omega), ?_⟩)
      try (first | (show _ ≤ _; omega) | (show _ < _; omega))
      exact K'
    · rw [if_pos cp] at K'
      have cp' := eq_false cp
      try simp (maxSteps := 2000000) only [↓reduceIte, wp_eq, wpd_eq, kont_eq, STP1, STP2, STP3, STP4, STP5, konM_eq, AMK, CZ, Option.map, List.getElem?_cons_zero, List.getElem?_cons_succ, List.mem_cons, List.not_mem_nil, if_false, if_true, Nat.reduceAdd, Nat.reduceLT, Nat.reduceLeDiff, Nat.reduceEqDiff, true_and, and_true, List.length_nil, List.length_cons, or_true, true_or, or_false, false_or, Option.some.injEq, Sum.inl.injEq, Sum.inr.injEq, exists_eq_left', exists_eq_left, Int.reduceLE, Int.reduceLT, Int.reduceNeg, Int.reduceAdd, Int.reduceMul, Int.reduceSub, Int.reduceToNat, inR, Nat.zero_ne_one, false_and, Nat.succ_ne_zero, reduceCtorEq, false_implies, true_implies, not_false_eq_true, not_true_eq_false, Int.reduceEq, KRE, C_Model_pointers, cp']
      repeat (first | refine ⟨by omega, ?_⟩ | refine ⟨fun _ _ => okt_nn (by omega), ?_⟩)
      try (first | (show _ ≤ _; omega) | (show _ < _; omega))
      exact K'
/-- an answer: the code k, nothing but scratch has changed -/
def rsM (M : Mm) (k : Int) (M' : Mm) : Prop := M' 154 1 = k ∧ FrP scrM M M'
theorem scr_0 : FrP scrM M (mset M 154 1 0) := FrP.rf.st (Or.inl ⟨rfl, Or.inl rfl⟩)
theorem rsM_0 : rsM M 0 (mset M 154 1 0) := ⟨by simp [mset], scr_0⟩
theorem rsM_fr {P : Nat → Nat → Prop} {M1 M2 : Mm} {k : Int} (h : rsM M k M1) (f : FrP P M1 M2) (hP : ∀ b j, P b j → scrM b j ∧ ¬ (b = 154 ∧ j = 1)) : rsM M k M2 :=
  ⟨(f _ _ (fun z => (hP _ _ z).2 ⟨rfl, rfl⟩)).trans h.1, h.2.tr (f.wd (fun b j z => (hP b j z).1))⟩
set_option maxHeartbeats 600000 in
set_option maxRecDepth 20000 in
theorem Model_fail_ok {k : Int} : CallI m_Model_fail [.inr 154, .inl k] M (fun x M' => x = 0 ∧ M' = mset M 154 1 k) := by
  refine callP_of (by decide) (by decide) (Nat.le_of_ble_eq_true rfl) (wpm_of (cuts := []) (by decide) 50 _ _ _ _ ?_)
  rw [show lM m_Model_fail = 2 from rfl]
  simp (maxSteps := 2000000) only [↓reduceIte, wp_eq, wpd_eq, kont_eq, STP1, STP2, STP3, STP4, STP5, konM_eq, AMK, CZ, Option.map, List.getElem?_cons_zero, List.getElem?_cons_succ, List.mem_cons, List.not_mem_nil, if_false, if_true, Nat.reduceAdd, Nat.reduceLT, Nat.reduceLeDiff, Nat.reduceEqDiff, true_and, and_true, List.length_nil, List.length_cons, or_true, true_or, or_false, false_or, Option.some.injEq, Sum.inl.injEq, Sum.inr.injEq, exists_eq_left', exists_eq_left, Int.reduceLE, Int.reduceLT, Int.reduceNeg, Int.reduceAdd, Int.reduceMul, Int.reduceSub, Int.reduceToNat, inR, Nat.zero_ne_one, false_and, Nat.succ_ne_zero, reduceCtorEq, false_implies, true_implies, not_false_eq_true, not_true_eq_false, Int.reduceEq, KRE, C_Model_fail, FM]
theorem rsM_fail {k k0 : Int} {M1 : Mm} (h : rsM M k0 M1) : rsM M k (mset M1 154 1 k) := ⟨by simp [mset], h.2.st (Or.inl ⟨rfl, Or.inl rfl⟩)⟩
set_option maxHeartbeats 600000 in
set_option maxRecDepth 20000 in
theorem Model_isTimber_ok {t : Int} (h : mdl M n T Y lap bnd mrg) (ht : inR t) : CallI m_Model_isTimber [.inr 154, .inl t] M (fun x M' => x = (if 0 ≤ t ∧ t < n then 1 else 0) ∧ M' = M) := by
  have en := h.1.1
  have n8 := h.1.2
  refine callP_of (by decide) (by decide) (Nat.le_of_ble_eq_true rfl) (wpm_of (cuts := []) (by decide) 50 _ _ _ _ ?_)
  rw [show lM m_Model_isTimber = 2 from rfl]
  simp (maxSteps := 2000000) only [↓reduceIte, wp_eq, wpd_eq, kont_eq, STP1, STP2, STP3, STP4, STP5, konM_eq, AMK, CZ, Option.map, List.getElem?_cons_zero, List.getElem?_cons_succ, List.mem_cons, List.not_mem_nil, if_false, if_true, Nat.reduceAdd, Nat.reduceLT, Nat.reduceLeDiff, Nat.reduceEqDiff, true_and, and_true, List.length_nil, List.length_cons, or_true, true_or, or_false, false_or, Option.some.injEq, Sum.inl.injEq, Sum.inr.injEq, exists_eq_left', exists_eq_left, Int.reduceLE, Int.reduceLT, Int.reduceNeg, Int.reduceAdd, Int.reduceMul, Int.reduceSub, Int.reduceToNat, inR, Nat.zero_ne_one, false_and, Nat.succ_ne_zero, reduceCtorEq, false_implies, true_implies, not_false_eq_true, not_true_eq_false, Int.reduceEq, KRE, C_Model_isTimber, FM, en]
  refine (Model_isIn_ok ht ⟨by omega, by omega⟩ ⟨by omega, by omega⟩).eq ?_
  by_cases c : 0 ≤ t ∧ t < n
  · rw [if_pos (show 0 ≤ t ∧ t ≤ (n : Int) - 1 by omega), if_pos c]
    simp
  · rw [if_neg (show ¬ (0 ≤ t ∧ t ≤ (n : Int) - 1) by omega), if_neg c]
    simp
theorem isTimber_y {t : Nat} (h : mdl M n T Y lap bnd mrg) (ht : t < n) : CallI m_Model_isTimber [.inr 154, .inl (t : Int)] M (fun x M' => x = 1 ∧ M' = M) := by
  have n8 := h.1.2
  have := Model_isTimber_ok (t := (t : Int)) h ⟨by omega, by omega⟩
  rw [if_pos (by omega)] at this
  exact this
theorem isTimber_n {t : Int} (h : mdl M n T Y lap bnd mrg) (ht : inR t) (hn : ¬ (0 ≤ t ∧ t < n)) : CallI m_Model_isTimber [.inr 154, .inl t] M (fun x M' => x = 0 ∧ M' = M) := by
  have := Model_isTimber_ok (t := t) h ht
  rw [if_neg hn] at this
  exact this
set_option maxHeartbeats 600000 in
set_option maxRecDepth 20000 in
theorem isRing_y {t : Nat} {r : Int} (h : mdl M n T Y lap bnd mrg) (ht : t < n) (hr : 0 ≤ r ∧ r < (T t).2.1) : CallI m_Model_isRing [.inr 154, .inl (t : Int), .inl r] M (fun x M' => x = 1 ∧ M' = M) := by
  have o1 := (mdl_t h ht).2.2.2.1.1
  refine callP_of (by decide) (by decide) (Nat.le_of_ble_eq_true rfl) (wpm_of (cuts := []) (by decide) 50 _ _ _ _ ?_)
  rw [show lM m_Model_isRing = 3 from rfl]
  simp (maxSteps := 2000000) only [↓reduceIte, wp_eq, wpd_eq, kont_eq, STP1, STP2, STP3, STP4, STP5, konM_eq, AMK, CZ, Option.map, List.getElem?_cons_zero, List.getElem?_cons_succ, List.mem_cons, List.not_mem_nil, if_false, if_true, Nat.reduceAdd, Nat.reduceLT, Nat.reduceLeDiff, Nat.reduceEqDiff, true_and, and_true, List.length_nil, List.length_cons, or_true, true_or, or_false, false_or, Option.some.injEq, Sum.inl.injEq, Sum.inr.injEq, exists_eq_left', exists_eq_left, Int.reduceLE, Int.reduceLT, Int.reduceNeg, Int.reduceAdd, Int.reduceMul, Int.reduceSub, Int.reduceToNat, inR, Nat.zero_ne_one, false_and, Nat.succ_ne_zero, reduceCtorEq, false_implies, true_implies, not_false_eq_true, not_true_eq_false, Int.reduceEq, KRE, C_Model_isRing, FM]
  refine (isTimber_y h ht).eq ?_
  try simp (maxSteps := 2000000) only [↓reduceIte, wp_eq, wpd_eq, kont_eq, STP1, STP2, STP3, STP4, STP5, konM_eq, AMK, CZ, Option.map, List.getElem?_cons_zero, List.getElem?_cons_succ, List.mem_cons, List.not_mem_nil, if_false, if_true, Nat.reduceAdd, Nat.reduceLT, Nat.reduceLeDiff, Nat.reduceEqDiff, true_and, and_true, List.length_nil, List.length_cons, or_true, true_or, or_false, false_or, Option.some.injEq, Sum.inl.injEq, Sum.inr.injEq, exists_eq_left', exists_eq_left, Int.reduceLE, Int.reduceLT, Int.reduceNeg, Int.reduceAdd, Int.reduceMul, Int.reduceSub, Int.reduceToNat, inR, Nat.zero_ne_one, false_and, Nat.succ_ne_zero, reduceCtorEq, false_implies, true_implies, not_false_eq_true, not_true_eq_false, Int.reduceEq, KRE, C_Model_isRing]
  repeat (first | refine ⟨by omega, ?_⟩ | refine ⟨fun _ _ => okt_nn (by omega), ?_⟩)
  try (first | (show _ ≤ _; omega) | (show _ < _; omega))
  refine (of_many h ht).eq ?_
  try simp (maxSteps := 2000000) only [↓reduceIte, wp_eq, wpd_eq, kont_eq, STP1, STP2, STP3, STP4, STP5, konM_eq, AMK, CZ, Option.map, List.getElem?_cons_zero, List.getElem?_cons_succ, List.mem_cons, List.not_mem_nil, if_false, if_true, Nat.reduceAdd, Nat.reduceLT, Nat.reduceLeDiff, Nat.reduceEqDiff, true_and, and_true, List.length_nil, List.length_cons, or_true, true_or, or_false, false_or, Option.some.injEq, Sum.inl.injEq, Sum.inr.injEq, exists_eq_left', exists_eq_left, Int.reduceLE, Int.reduceLT, Int.reduceNeg, Int.reduceAdd, Int.reduceMul, Int.reduceSub, Int.reduceToNat, inR, Nat.zero_ne_one, false_and, Nat.succ_ne_zero, reduceCtorEq, false_implies, true_implies, not_false_eq_true, not_true_eq_false, Int.reduceEq, KRE, C_Model_isRing]
  refine (Model_isIn_ok ⟨by omega, by omega⟩ ⟨by omega, by omega⟩ ⟨by omega, by omega⟩).eq ?_
  rw [if_pos (by omega)]
  try simp (maxSteps := 2000000) only [↓reduceIte, wp_eq, wpd_eq, kont_eq, STP1, STP2, STP3, STP4, STP5, konM_eq, AMK, CZ, Option.map, List.getElem?_cons_zero, List.getElem?_cons_succ, List.mem_cons, List.not_mem_nil, if_false, if_true, Nat.reduceAdd, Nat.reduceLT, Nat.reduceLeDiff, Nat.reduceEqDiff, true_and, and_true, List.length_nil, List.length_cons, or_true, true_or, or_false, false_or, Option.some.injEq, Sum.inl.injEq, Sum.inr.injEq, exists_eq_left', exists_eq_left, Int.reduceLE, Int.reduceLT, Int.reduceNeg, Int.reduceAdd, Int.reduceMul, Int.reduceSub, Int.reduceToNat, inR, Nat.zero_ne_one, false_and, Nat.succ_ne_zero, reduceCtorEq, false_implies, true_implies, not_false_eq_true, not_true_eq_false, Int.reduceEq, KRE, C_Model_isRing]
  repeat (first | refine ⟨by omega, ?_⟩ | refine ⟨fun _ _ => okt_nn (by omega), ?_⟩)
  try (first | (show _ ≤ _; omega) | (show _ < _; omega))
set_option maxHeartbeats 600000 in
set_option maxRecDepth 20000 in
theorem isRing_n {t r : Int} (h : mdl M n T Y lap bnd mrg) (ht : inR t) (hr : inR r) (hn : ¬ (0 ≤ t ∧ t < n) ∨ ¬ (0 ≤ r ∧ r < (T t.toNat).2.1)) : CallI m_Model_isRing [.inr 154, .inl t, .inl r] M (fun x M' => x = 0 ∧ M' = M) := by
  by_cases c : 0 ≤ t ∧ t < n
  · obtain ⟨u, rfl⟩ : ∃ u : Nat, t = u := ⟨t.toNat, by omega⟩
    have hu : u < n := by omega
    rw [natT] at hn
    have o1 := (mdl_t h hu).2.2.2.1.1
    refine callP_of (by decide) (by decide) (Nat.le_of_ble_eq_true rfl) (wpm_of (cuts := []) (by decide) 50 _ _ _ _ ?_)
    rw [show lM m_Model_isRing = 3 from rfl]
    simp (maxSteps := 2000000) only [↓reduceIte, wp_eq, wpd_eq, kont_eq, STP1, STP2, STP3, STP4, STP5, konM_eq, AMK, CZ, Option.map, List.getElem?_cons_zero, List.getElem?_cons_succ, List.mem_cons, List.not_mem_nil, if_false, if_true, Nat.reduceAdd, Nat.reduceLT, Nat.reduceLeDiff, Nat.reduceEqDiff, true_and, and_true, List.length_nil, List.length_cons, or_true, true_or, or_false, false_or, Option.some.injEq, Sum.inl.injEq, Sum.inr.injEq, exists_eq_left', exists_eq_left, Int.reduceLE, Int.reduceLT, Int.reduceNeg, Int.reduceAdd, Int.reduceMul, Int.reduceSub, Int.reduceToNat, inR, Nat.zero_ne_one, false_and, Nat.succ_ne_zero, reduceCtorEq, false_implies, true_implies, not_false_eq_true, not_true_eq_false, Int.reduceEq, KRE, C_Model_isRing, FM]
    refine (isTimber_y h hu).eq ?_
    try simp (maxSteps := 2000000) only [↓reduceIte, wp_eq, wpd_eq, kont_eq, STP1, STP2, STP3, STP4, STP5, konM_eq, AMK, CZ, Option.map, List.getElem?_cons_zero, List.getElem?_cons_succ, List.mem_cons, List.not_mem_nil, if_false, if_true, Nat.reduceAdd, Nat.reduceLT, Nat.reduceLeDiff, Nat.reduceEqDiff, true_and, and_true, List.length_nil, List.length_cons, or_true, true_or, or_false, false_or, Option.some.injEq, Sum.inl.injEq, Sum.inr.injEq, exists_eq_left', exists_eq_left, Int.reduceLE, Int.reduceLT, Int.reduceNeg, Int.reduceAdd, Int.reduceMul, Int.reduceSub, Int.reduceToNat, inR, Nat.zero_ne_one, false_and, Nat.succ_ne_zero, reduceCtorEq, false_implies, true_implies, not_false_eq_true, not_true_eq_false, Int.reduceEq, KRE, C_Model_isRing]
    repeat (first | refine ⟨by omega, ?_⟩ | refine ⟨fun _ _ => okt_nn (by omega), ?_⟩)
    try (first | (show _ ≤ _; omega) | (show _ < _; omega))
    refine (of_many h hu).eq ?_
    try simp (maxSteps := 2000000) only [↓reduceIte, wp_eq, wpd_eq, kont_eq, STP1, STP2, STP3, STP4, STP5, konM_eq, AMK, CZ, Option.map, List.getElem?_cons_zero, List.getElem?_cons_succ, List.mem_cons, List.not_mem_nil, if_false, if_true, Nat.reduceAdd, Nat.reduceLT, Nat.reduceLeDiff, Nat.reduceEqDiff, true_and, and_true, List.length_nil, List.length_cons, or_true, true_or, or_false, false_or, Option.some.injEq, Sum.inl.injEq, Sum.inr.injEq, exists_eq_left', exists_eq_left, Int.reduceLE, Int.reduceLT, Int.reduceNeg, Int.reduceAdd, Int.reduceMul, Int.reduceSub, Int.reduceToNat, inR, Nat.zero_ne_one, false_and, Nat.succ_ne_zero, reduceCtorEq, false_implies, true_implies, not_false_eq_true, not_true_eq_false, Int.reduceEq, KRE, C_Model_isRing]
    refine (Model_isIn_ok hr ⟨by omega, by omega⟩ ⟨by omega, by omega⟩).eq ?_
    rw [if_neg (by omega)]
    try simp (maxSteps := 2000000) only [↓reduceIte, wp_eq, wpd_eq, kont_eq, STP1, STP2, STP3, STP4, STP5, konM_eq, AMK, CZ, Option.map, List.getElem?_cons_zero, List.getElem?_cons_succ, List.mem_cons, List.not_mem_nil, if_false, if_true, Nat.reduceAdd, Nat.reduceLT, Nat.reduceLeDiff, Nat.reduceEqDiff, true_and, and_true, List.length_nil, List.length_cons, or_true, true_or, or_false, false_or, Option.some.injEq, Sum.inl.injEq, Sum.inr.injEq, exists_eq_left', exists_eq_left, Int.reduceLE, Int.reduceLT, Int.reduceNeg, Int.reduceAdd, Int.reduceMul, Int.reduceSub, Int.reduceToNat, inR, Nat.zero_ne_one, false_and, Nat.succ_ne_zero, reduceCtorEq, false_implies, true_implies, not_false_eq_true, not_true_eq_false, Int.reduceEq, KRE, C_Model_isRing]
    repeat (first | refine ⟨by omega, ?_⟩ | refine ⟨fun _ _ => okt_nn (by omega), ?_⟩)
    try (first | (show _ ≤ _; omega) | (show _ < _; omega))
  · refine callP_of (by decide) (by decide) (Nat.le_of_ble_eq_true rfl) (wpm_of (cuts := []) (by decide) 50 _ _ _ _ ?_)
    rw [show lM m_Model_isRing = 3 from rfl]
    simp (maxSteps := 2000000) only [↓reduceIte, wp_eq, wpd_eq, kont_eq, STP1, STP2, STP3, STP4, STP5, konM_eq, AMK, CZ, Option.map, List.getElem?_cons_zero, List.getElem?_cons_succ, List.mem_cons, List.not_mem_nil, if_false, if_true, Nat.reduceAdd, Nat.reduceLT, Nat.reduceLeDiff, Nat.reduceEqDiff, true_and, and_true, List.length_nil, List.length_cons, or_true, true_or, or_false, false_or, Option.some.injEq, Sum.inl.injEq, Sum.inr.injEq, exists_eq_left', exists_eq_left, Int.reduceLE, Int.reduceLT, Int.reduceNeg, Int.reduceAdd, Int.reduceMul, Int.reduceSub, Int.reduceToNat, inR, Nat.zero_ne_one, false_and, Nat.succ_ne_zero, reduceCtorEq, false_implies, true_implies, not_false_eq_true, not_true_eq_false, Int.reduceEq, KRE, C_Model_isRing, FM]
    refine (isTimber_n h ht c).eq ?_
    try simp (maxSteps := 2000000) only [↓reduceIte, wp_eq, wpd_eq, kont_eq, STP1, STP2, STP3, STP4, STP5, konM_eq, AMK, CZ, Option.map, List.getElem?_cons_zero, List.getElem?_cons_succ, List.mem_cons, List.not_mem_nil, if_false, if_true, Nat.reduceAdd, Nat.reduceLT, Nat.reduceLeDiff, Nat.reduceEqDiff, true_and, and_true, List.length_nil, List.length_cons, or_true, true_or, or_false, false_or, Option.some.injEq, Sum.inl.injEq, Sum.inr.injEq, exists_eq_left', exists_eq_left, Int.reduceLE, Int.reduceLT, Int.reduceNeg, Int.reduceAdd, Int.reduceMul, Int.reduceSub, Int.reduceToNat, inR, Nat.zero_ne_one, false_and, Nat.succ_ne_zero, reduceCtorEq, false_implies, true_implies, not_false_eq_true, not_true_eq_false, Int.reduceEq, KRE, C_Model_isRing]
    repeat (first | refine ⟨by omega, ?_⟩ | refine ⟨fun _ _ => okt_nn (by omega), ?_⟩)
    try (first | (show _ ≤ _; omega) | (show _ < _; omega))
end MOD9

/-! THE REFERENCE, 9b: what count asks for. -/
section MODZ
variable {n : Nat} {T : Nat → Rw} {Y : Nat → Int} {lap bnd mrg : Int} {M : Mm}
theorem sumN_01 {f : Nat → Int} (hf : ∀ j, 0 ≤ f j ∧ f j ≤ 1) (n : Nat) : 0 ≤ sumN f n ∧ sumN f n ≤ n := by
  have := sumN_in (f := f) (a := 0) (b := 1) (n := n) (fun j _ => hf j)
  omega
set_option maxHeartbeats 600000 in
set_option maxRecDepth 20000 in
theorem Model_pieces_ok (h : mdl M n T Y lap bnd mrg) : CallI m_Model_pieces [.inr 154] M (fun x M' => x = sumN (fun t => if (pcN (lks T lap bnd mrg n n).2 (lks T lap bnd mrg n n).1).1 t = t then 1 else 0) n ∧ FrP linkP M M') := by
  refine callP_of (by decide) (by decide) (Nat.le_of_ble_eq_true rfl) (wpm_of (cuts := [8]) (by decide) 50 _ _ _ _ ?_)
  rw [show lM m_Model_pieces = 3 from rfl]
  simp (maxSteps := 2000000) only [↓reduceIte, wp_eq, wpd_eq, kont_eq, STP1, STP2, STP3, STP4, STP5, konM_eq, AMK, CZ, Option.map, List.getElem?_cons_zero, List.getElem?_cons_succ, List.mem_cons, List.not_mem_nil, if_false, if_true, Nat.reduceAdd, Nat.reduceLT, Nat.reduceLeDiff, Nat.reduceEqDiff, true_and, and_true, List.length_nil, List.length_cons, or_true, true_or, or_false, false_or, Option.some.injEq, Sum.inl.injEq, Sum.inr.injEq, exists_eq_left', exists_eq_left, Int.reduceLE, Int.reduceLT, Int.reduceNeg, Int.reduceAdd, Int.reduceMul, Int.reduceSub, Int.reduceToNat, inR, Nat.zero_ne_one, false_and, Nat.succ_ne_zero, reduceCtorEq, false_implies, true_implies, not_false_eq_true, not_true_eq_false, Int.reduceEq, KRE, C_Model_pieces, FM]
  refine (Model_tellLinks_ok h).mono (fun M1 z => ?_)
  obtain ⟨⟨l1, l2, l3, l4, l5, l6, l7⟩, F1⟩ := z
  have h1 := mdl_fr h F1 (fun b j z => by unfold linkP at z; omega)
  have en := h1.1.1
  have n8 := h1.1.2
  have pI := pcI_N l1 _ (Nat.le_refl _)
  try simp (maxSteps := 2000000) only [↓reduceIte, wp_eq, wpd_eq, kont_eq, STP1, STP2, STP3, STP4, STP5, konM_eq, AMK, CZ, Option.map, List.getElem?_cons_zero, List.getElem?_cons_succ, List.mem_cons, List.not_mem_nil, if_false, if_true, Nat.reduceAdd, Nat.reduceLT, Nat.reduceLeDiff, Nat.reduceEqDiff, true_and, and_true, List.length_nil, List.length_cons, or_true, true_or, or_false, false_or, Option.some.injEq, Sum.inl.injEq, Sum.inr.injEq, exists_eq_left', exists_eq_left, Int.reduceLE, Int.reduceLT, Int.reduceNeg, Int.reduceAdd, Int.reduceMul, Int.reduceSub, Int.reduceToNat, inR, Nat.zero_ne_one, false_and, Nat.succ_ne_zero, reduceCtorEq, false_implies, true_implies, not_false_eq_true, not_true_eq_false, Int.reduceEq, KRE, C_Model_pieces]
  generalize pcN (lks T lap bnd mrg n n).2 (lks T lap bnd mrg n n).1 = X at *
  refine loopQ n (fun k ls M2 => M1 = M2 ∧ ls = [some (.inr 154), some (.inl (sumN (fun t => if X.1 t = t then 1 else 0) k)), some (.inl (k : Int))]) ?_ _ _ ⟨rfl, rfl⟩
  rintro k _ _ hk ⟨rfl, rfl⟩ K
  by_cases c : k = n
  · subst c
    have c' := eq_true (show (k : Int) ≤ k by omega)
    refine wpm_of (cuts := [8]) (by decide) 50 _ _ _ _ ?_
    simp (maxSteps := 2000000) only [↓reduceIte, wp_eq, wpd_eq, kont_eq, STP1, STP2, STP3, STP4, STP5, konM_eq, AMK, CZ, Option.map, List.getElem?_cons_zero, List.getElem?_cons_succ, List.mem_cons, List.not_mem_nil, if_false, if_true, Nat.reduceAdd, Nat.reduceLT, Nat.reduceLeDiff, Nat.reduceEqDiff, true_and, and_true, List.length_nil, List.length_cons, or_true, true_or, or_false, false_or, Option.some.injEq, Sum.inl.injEq, Sum.inr.injEq, exists_eq_left', exists_eq_left, Int.reduceLE, Int.reduceLT, Int.reduceNeg, Int.reduceAdd, Int.reduceMul, Int.reduceSub, Int.reduceToNat, inR, Nat.zero_ne_one, false_and, Nat.succ_ne_zero, reduceCtorEq, false_implies, true_implies, not_false_eq_true, not_true_eq_false, Int.reduceEq, KRE, C_Model_pieces, FM, en, c']
    repeat (first | refine ⟨by omega, ?_⟩ | refine ⟨fun _ _ => okt_nn (by omega), ?_⟩)
    try (first | (show _ ≤ _; omega) | (show _ < _; omega))
    exact F1
  · have hlt : k < n := by omega
    have c' := eq_false (show ¬ (n : Int) ≤ k by omega)
    have K' := K hlt _ _ ⟨rfl, rfl⟩
    rw [show sumN (fun t => if X.1 t = t then 1 else 0) (k + 1) = sumN (fun t => if X.1 t = t then 1 else 0) k + (if X.1 k = k then 1 else 0) from rfl] at K'
    have e6 := l6 k hlt
    have pk := (pI.1 k (by omega)).1
    by_cases cp : X.1 k = k
    · rw [if_pos cp] at K'
      have cp' := eq_true cp
      refine wpm_of (cuts := [8]) (by decide) 50 _ _ _ _ ?_
      simp (maxSteps := 2000000) only [↓reduceIte, wp_eq, wpd_eq, kont_eq, STP1, STP2, STP3, STP4, STP5, konM_eq, AMK, CZ, Option.map, List.getElem?_cons_zero, List.getElem?_cons_succ, List.mem_cons, List.not_mem_nil, if_false, if_true, Nat.reduceAdd, Nat.reduceLT, Nat.reduceLeDiff, Nat.reduceEqDiff, true_and, and_true, List.length_nil, List.length_cons, or_true, true_or, or_false, false_or, Option.some.injEq, Sum.inl.injEq, Sum.inr.injEq, exists_eq_left', exists_eq_left, Int.reduceLE, Int.reduceLT, Int.reduceNeg, Int.reduceAdd, Int.reduceMul, Int.reduceSub, Int.reduceToNat, inR, Nat.zero_ne_one, false_and, Nat.succ_ne_zero, reduceCtorEq, false_implies, true_implies, not_false_eq_true, not_true_eq_false, Int.reduceEq, KRE, C_Model_pieces, FM, en, c', natT, e6, cp']
      repeat (first | refine ⟨by omega, ?_⟩ | refine ⟨fun _ _ => okt_nn (by omega), ?_⟩)
      try (first | (show _ ≤ _; omega) | (show _ < _; omega))
      exact K'
    · rw [if_neg cp] at K'
      have cp' := eq_false cp
      refine wpm_of (cuts := [8]) (by decide) 50 _ _ _ _ ?_
      simp (maxSteps := 2000000) only [↓reduceIte, wp_eq, wpd_eq, kont_eq, STP1, STP2, STP3, STP4, STP5, konM_eq, AMK, CZ, Option.map, List.getElem?_cons_zero, List.getElem?_cons_succ, List.mem_cons, List.not_mem_nil, if_false, if_true, Nat.reduceAdd, Nat.reduceLT, Nat.reduceLeDiff, Nat.reduceEqDiff, true_and, and_true, List.length_nil, List.length_cons, or_true, true_or, or_false, false_or, Option.some.injEq, Sum.inl.injEq, Sum.inr.injEq, exists_eq_left', exists_eq_left, Int.reduceLE, Int.reduceLT, Int.reduceNeg, Int.reduceAdd, Int.reduceMul, Int.reduceSub, Int.reduceToNat, inR, Nat.zero_ne_one, false_and, Nat.succ_ne_zero, reduceCtorEq, false_implies, true_implies, not_false_eq_true, not_true_eq_false, Int.reduceEq, KRE, C_Model_pieces, FM, en, c', natT, e6, cp']
      repeat (first | refine ⟨by omega, ?_⟩ | refine ⟨fun _ _ => okt_nn (by omega), ?_⟩)
      try (first | (show _ ≤ _; omega) | (show _ < _; omega))
      exact K'
theorem ag_eq {X : Lks} {M1 : Mm} (hA : lkAll n X) (hq : mqI n (fun t => M1 173 t, fun t => M1 174 t) (pcN X.2 X.1)) {i : Nat} (hi : i < X.1) (h0 : pcT X.2 i = 0) : M1 174 (X.2 1 i).toNat - M1 174 (X.2 0 i).toNat = (pcN X.2 X.1).2 (X.2 1 i).toNat - (pcN X.2 X.1).2 (X.2 0 i).toNat := by
  obtain ⟨a0, a1⟩ := hA i hi
  exact (hq (X.2 0 i).toNat (X.2 1 i).toNat (by omega) (by omega)).2 (pcT_stay h0 _ (by omega))
set_option maxHeartbeats 600000 in
set_option maxRecDepth 20000 in
theorem Model_against_ok (h : mdl M n T Y lap bnd mrg) : CallI m_Model_against [.inr 154] M (fun x M' => x = sumN (agF (lks T lap bnd mrg n n) (pcN (lks T lap bnd mrg n n).2 (lks T lap bnd mrg n n).1).2) (lks T lap bnd mrg n n).1 ∧ FrP linkP M M') := by
  refine callP_of (by decide) (by decide) (Nat.le_of_ble_eq_true rfl) (wpm_of (cuts := [8]) (by decide) 50 _ _ _ _ ?_)
  rw [show lM m_Model_against = 3 from rfl]
  simp (maxSteps := 2000000) only [↓reduceIte, wp_eq, wpd_eq, kont_eq, STP1, STP2, STP3, STP4, STP5, konM_eq, AMK, CZ, Option.map, List.getElem?_cons_zero, List.getElem?_cons_succ, List.mem_cons, List.not_mem_nil, if_false, if_true, Nat.reduceAdd, Nat.reduceLT, Nat.reduceLeDiff, Nat.reduceEqDiff, true_and, and_true, List.length_nil, List.length_cons, or_true, true_or, or_false, false_or, Option.some.injEq, Sum.inl.injEq, Sum.inr.injEq, exists_eq_left', exists_eq_left, Int.reduceLE, Int.reduceLT, Int.reduceNeg, Int.reduceAdd, Int.reduceMul, Int.reduceSub, Int.reduceToNat, inR, Nat.zero_ne_one, false_and, Nat.succ_ne_zero, reduceCtorEq, false_implies, true_implies, not_false_eq_true, not_true_eq_false, Int.reduceEq, KRE, C_Model_against, FM]
  refine (Model_tellLinks_ok h).mono (fun M1 z => ?_)
  obtain ⟨⟨l1, l2, l3, l4, l5, l6, l7⟩, F1⟩ := z
  have n8 := h.1.2
  have pI := pcI_N l1 _ (Nat.le_refl _)
  have ag := fun {i} => ag_eq (i := i) l2 l7
  try simp (maxSteps := 2000000) only [↓reduceIte, wp_eq, wpd_eq, kont_eq, STP1, STP2, STP3, STP4, STP5, konM_eq, AMK, CZ, Option.map, List.getElem?_cons_zero, List.getElem?_cons_succ, List.mem_cons, List.not_mem_nil, if_false, if_true, Nat.reduceAdd, Nat.reduceLT, Nat.reduceLeDiff, Nat.reduceEqDiff, true_and, and_true, List.length_nil, List.length_cons, or_true, true_or, or_false, false_or, Option.some.injEq, Sum.inl.injEq, Sum.inr.injEq, exists_eq_left', exists_eq_left, Int.reduceLE, Int.reduceLT, Int.reduceNeg, Int.reduceAdd, Int.reduceMul, Int.reduceSub, Int.reduceToNat, inR, Nat.zero_ne_one, false_and, Nat.succ_ne_zero, reduceCtorEq, false_implies, true_implies, not_false_eq_true, not_true_eq_false, Int.reduceEq, KRE, C_Model_against]
  generalize lks T lap bnd mrg n n = X at *
  refine loopQ X.1 (fun k ls M2 => M1 = M2 ∧ ls = [some (.inr 154), some (.inl (sumN (agF X (pcN X.2 X.1).2) k)), some (.inl (k : Int))]) ?_ _ _ ⟨rfl, rfl⟩
  rintro k _ _ hk ⟨rfl, rfl⟩ K
  have x28 := l1.1
  by_cases c : k = X.1
  · subst c
    have c' := eq_true (show (X.1 : Int) ≤ X.1 by omega)
    refine wpm_of (cuts := [8]) (by decide) 50 _ _ _ _ ?_
    simp (maxSteps := 2000000) only [↓reduceIte, wp_eq, wpd_eq, kont_eq, STP1, STP2, STP3, STP4, STP5, konM_eq, AMK, CZ, Option.map, List.getElem?_cons_zero, List.getElem?_cons_succ, List.mem_cons, List.not_mem_nil, if_false, if_true, Nat.reduceAdd, Nat.reduceLT, Nat.reduceLeDiff, Nat.reduceEqDiff, true_and, and_true, List.length_nil, List.length_cons, or_true, true_or, or_false, false_or, Option.some.injEq, Sum.inl.injEq, Sum.inr.injEq, exists_eq_left', exists_eq_left, Int.reduceLE, Int.reduceLT, Int.reduceNeg, Int.reduceAdd, Int.reduceMul, Int.reduceSub, Int.reduceToNat, inR, Nat.zero_ne_one, false_and, Nat.succ_ne_zero, reduceCtorEq, false_implies, true_implies, not_false_eq_true, not_true_eq_false, Int.reduceEq, KRE, C_Model_against, FM, l4, c']
    repeat (first | refine ⟨by omega, ?_⟩ | refine ⟨fun _ _ => okt_nn (by omega), ?_⟩)
    try (first | (show _ ≤ _; omega) | (show _ < _; omega))
    exact F1
  · have hlt : k < X.1 := by omega
    have c' := eq_false (show ¬ (X.1 : Int) ≤ k by omega)
    have K' := K hlt _ _ ⟨rfl, rfl⟩
    have ea : agF X (pcN X.2 X.1).2 k = if pcT X.2 k = 0 ∧ (pcN X.2 X.1).2 (X.2 1 k).toNat - (pcN X.2 X.1).2 (X.2 0 k).toNat ≠ X.2 2 k then 1 else 0 := rfl
    rw [show sumN (agF X (pcN X.2 X.1).2) (k + 1) = sumN (agF X (pcN X.2 X.1).2) k + agF X (pcN X.2 X.1).2 k from rfl, ea] at K'
    obtain ⟨a0, a1⟩ := l2 k hlt
    have g0 : M1 169 k = X.2 0 k := l3 0 (by omega) k hlt
    have g1 : M1 170 k = X.2 1 k := l3 1 (by omega) k hlt
    have g2 : M1 171 k = X.2 2 k := l3 2 (by omega) k hlt
    have e5 := l5 k hlt
    have q0 := (pcI_in pI (t := (X.2 0 k).toNat) (by omega)).1
    have q1 := (pcI_in pI (t := (X.2 1 k).toNat) (by omega)).1
    have rk := (l1.2 k hlt).2.2.1
    have e7 := ag hlt
    by_cases cT : pcT X.2 k = 0
    · have e7 := e7 cT
      have cT' := eq_true cT
      by_cases cd : (pcN X.2 X.1).2 (X.2 1 k).toNat - (pcN X.2 X.1).2 (X.2 0 k).toNat = X.2 2 k
      · rw [if_neg (fun z => z.2 cd)] at K'
        have cd' := eq_true (e7.trans cd)
        refine wpm_of (cuts := [8]) (by decide) 60 _ _ _ _ ?_
        simp (maxSteps := 2000000) only [↓reduceIte, wp_eq, wpd_eq, kont_eq, STP1, STP2, STP3, STP4, STP5, konM_eq, AMK, CZ, Option.map, List.getElem?_cons_zero, List.getElem?_cons_succ, List.mem_cons, List.not_mem_nil, if_false, if_true, Nat.reduceAdd, Nat.reduceLT, Nat.reduceLeDiff, Nat.reduceEqDiff, true_and, and_true, List.length_nil, List.length_cons, or_true, true_or, or_false, false_or, Option.some.injEq, Sum.inl.injEq, Sum.inr.injEq, exists_eq_left', exists_eq_left, Int.reduceLE, Int.reduceLT, Int.reduceNeg, Int.reduceAdd, Int.reduceMul, Int.reduceSub, Int.reduceToNat, inR, Nat.zero_ne_one, false_and, Nat.succ_ne_zero, reduceCtorEq, false_implies, true_implies, not_false_eq_true, not_true_eq_false, Int.reduceEq, KRE, C_Model_against, FM, l4, c', natT, g0, g1, g2, e5, cT, cd']
        repeat (first | refine ⟨by omega, ?_⟩ | refine ⟨fun _ _ => okt_nn (by omega), ?_⟩)
        try (first | (show _ ≤ _; omega) | (show _ < _; omega))
        exact K'
      · rw [if_pos ⟨cT, cd⟩] at K'
        have cd' := eq_false (fun z => cd (e7.symm.trans z))
        refine wpm_of (cuts := [8]) (by decide) 60 _ _ _ _ ?_
        simp (maxSteps := 2000000) only [↓reduceIte, wp_eq, wpd_eq, kont_eq, STP1, STP2, STP3, STP4, STP5, konM_eq, AMK, CZ, Option.map, List.getElem?_cons_zero, List.getElem?_cons_succ, List.mem_cons, List.not_mem_nil, if_false, if_true, Nat.reduceAdd, Nat.reduceLT, Nat.reduceLeDiff, Nat.reduceEqDiff, true_and, and_true, List.length_nil, List.length_cons, or_true, true_or, or_false, false_or, Option.some.injEq, Sum.inl.injEq, Sum.inr.injEq, exists_eq_left', exists_eq_left, Int.reduceLE, Int.reduceLT, Int.reduceNeg, Int.reduceAdd, Int.reduceMul, Int.reduceSub, Int.reduceToNat, inR, Nat.zero_ne_one, false_and, Nat.succ_ne_zero, reduceCtorEq, false_implies, true_implies, not_false_eq_true, not_true_eq_false, Int.reduceEq, KRE, C_Model_against, FM, l4, c', natT, g0, g1, g2, e5, cT, cd']
        repeat (first | refine ⟨by omega, ?_⟩ | refine ⟨fun _ _ => okt_nn (by omega), ?_⟩)
        try (first | (show _ ≤ _; omega) | (show _ < _; omega))
        exact K'
    · rw [if_neg (fun z => cT z.1)] at K'
      have e1 : pcT X.2 k = 1 := by
        unfold pcT at cT ⊢
        split
        · rfl
        · rename_i z
          rw [if_neg z] at cT
          exact absurd rfl cT
      have one0 := eq_false (show ¬ (1 : Int) = 0 by omega)
      refine wpm_of (cuts := [8]) (by decide) 60 _ _ _ _ ?_
      simp (maxSteps := 2000000) only [↓reduceIte, wp_eq, wpd_eq, kont_eq, STP1, STP2, STP3, STP4, STP5, konM_eq, AMK, CZ, Option.map, List.getElem?_cons_zero, List.getElem?_cons_succ, List.mem_cons, List.not_mem_nil, if_false, if_true, Nat.reduceAdd, Nat.reduceLT, Nat.reduceLeDiff, Nat.reduceEqDiff, true_and, and_true, List.length_nil, List.length_cons, or_true, true_or, or_false, false_or, Option.some.injEq, Sum.inl.injEq, Sum.inr.injEq, exists_eq_left', exists_eq_left, Int.reduceLE, Int.reduceLT, Int.reduceNeg, Int.reduceAdd, Int.reduceMul, Int.reduceSub, Int.reduceToNat, inR, Nat.zero_ne_one, false_and, Nat.succ_ne_zero, reduceCtorEq, false_implies, true_implies, not_false_eq_true, not_true_eq_false, Int.reduceEq, KRE, C_Model_against, FM, l4, c', natT, e5, e1, one0]
      repeat (first | refine ⟨by omega, ?_⟩ | refine ⟨fun _ _ => okt_nn (by omega), ?_⟩)
      try (first | (show _ ≤ _; omega) | (show _ < _; omega))
      exact K'
def fitP : Nat → Nat → Prop := fun b j => b = 154 ∧ 26 ≤ j ∧ j ≤ 41 ∨ 162 ≤ b ∧ b ≤ 168
set_option maxHeartbeats 600000 in
set_option maxRecDepth 20000 in
theorem Model_fitOf_ok {t : Nat} (h : mdl M n T Y lap bnd mrg) (ht : t < n) : CallI m_Model_fitOf [.inr 154, .inl (t : Int)] M (fun x M' => x = fitS T Y n t ∧ FrP fitP M M') := by
  have n8 := h.1.2
  have hc := h.2.2.2
  have sp := (cSpan_in (wo := (t : Int)) hc).1
  have rr := chr_R (wo := (t : Int)) hc
  have gy := (hc.2 t ht).2
  have lT := (hc.2 t ht).1.1
  have sep : ∀ b j, fitP b j → b ≠ 156 ∧ b ≠ 158 := fun b j z => by unfold fitP at z; omega
  refine callP_of (by decide) (by decide) (Nat.le_of_ble_eq_true rfl) (wpm_of (cuts := []) (by decide) 50 _ _ _ _ ?_)
  rw [show lM m_Model_fitOf = 2 from rfl]
  simp (maxSteps := 2000000) only [↓reduceIte, wp_eq, wpd_eq, kont_eq, STP1, STP2, STP3, STP4, STP5, konM_eq, AMK, CZ, Option.map, List.getElem?_cons_zero, List.getElem?_cons_succ, List.mem_cons, List.not_mem_nil, if_false, if_true, Nat.reduceAdd, Nat.reduceLT, Nat.reduceLeDiff, Nat.reduceEqDiff, true_and, and_true, List.length_nil, List.length_cons, or_true, true_or, or_false, false_or, Option.some.injEq, Sum.inl.injEq, Sum.inr.injEq, exists_eq_left', exists_eq_left, Int.reduceLE, Int.reduceLT, Int.reduceNeg, Int.reduceAdd, Int.reduceMul, Int.reduceSub, Int.reduceToNat, inR, Nat.zero_ne_one, false_and, Nat.succ_ne_zero, reduceCtorEq, false_implies, true_implies, not_false_eq_true, not_true_eq_false, Int.reduceEq, KRE, C_Model_fitOf, FM]
  refine (Model_layChronology_ok (wo := (t : Int)) h ⟨by omega, by omega⟩).mono (fun M1 z => ?_)
  obtain ⟨rA, e30, F1⟩ := z
  have F1' : FrP fitP M M1 := F1.wd (fun b j z => by unfold chrP at z; unfold fitP; omega)
  have h1 := mdl_fr h F1' sep
  try simp (maxSteps := 2000000) only [↓reduceIte, wp_eq, wpd_eq, kont_eq, STP1, STP2, STP3, STP4, STP5, konM_eq, AMK, CZ, Option.map, List.getElem?_cons_zero, List.getElem?_cons_succ, List.mem_cons, List.not_mem_nil, if_false, if_true, Nat.reduceAdd, Nat.reduceLT, Nat.reduceLeDiff, Nat.reduceEqDiff, true_and, and_true, List.length_nil, List.length_cons, or_true, true_or, or_false, false_or, Option.some.injEq, Sum.inl.injEq, Sum.inr.injEq, exists_eq_left', exists_eq_left, Int.reduceLE, Int.reduceLT, Int.reduceNeg, Int.reduceAdd, Int.reduceMul, Int.reduceSub, Int.reduceToNat, inR, Nat.zero_ne_one, false_and, Nat.succ_ne_zero, reduceCtorEq, false_implies, true_implies, not_false_eq_true, not_true_eq_false, Int.reduceEq, KRE, C_Model_fitOf]
  refine (Model_layB_ok h1 ht).mono (fun M2 z => ?_)
  obtain ⟨rB, F2⟩ := z
  have F2' : FrP fitP M1 M2 := F2.wd (fun b j z => by unfold layBP at z; unfold fitP; omega)
  have h2 := mdl_fr h1 F2' sep
  have rA2 : rowA M2 (chr T Y t n) := rowA_cells (fun b q1 q2 j => F2 _ _ (by unfold layBP; omega)) (F2 _ _ (by unfold layBP; omega)) (F2 _ _ (by unfold layBP; omega)) rA
  have e302 : M2 154 30 = (cSpan T Y t n).1 := (F2 _ _ (by unfold layBP; omega)).trans e30
  try simp (maxSteps := 2000000) only [↓reduceIte, wp_eq, wpd_eq, kont_eq, STP1, STP2, STP3, STP4, STP5, konM_eq, AMK, CZ, Option.map, List.getElem?_cons_zero, List.getElem?_cons_succ, List.mem_cons, List.not_mem_nil, if_false, if_true, Nat.reduceAdd, Nat.reduceLT, Nat.reduceLeDiff, Nat.reduceEqDiff, true_and, and_true, List.length_nil, List.length_cons, or_true, true_or, or_false, false_or, Option.some.injEq, Sum.inl.injEq, Sum.inr.injEq, exists_eq_left', exists_eq_left, Int.reduceLE, Int.reduceLT, Int.reduceNeg, Int.reduceAdd, Int.reduceMul, Int.reduceSub, Int.reduceToNat, inR, Nat.zero_ne_one, false_and, Nat.succ_ne_zero, reduceCtorEq, false_implies, true_implies, not_false_eq_true, not_true_eq_false, Int.reduceEq, KRE, C_Model_fitOf]
  refine (of_year h2 ht).eq ?_
  try simp (maxSteps := 2000000) only [↓reduceIte, wp_eq, wpd_eq, kont_eq, STP1, STP2, STP3, STP4, STP5, konM_eq, AMK, CZ, Option.map, List.getElem?_cons_zero, List.getElem?_cons_succ, List.mem_cons, List.not_mem_nil, if_false, if_true, Nat.reduceAdd, Nat.reduceLT, Nat.reduceLeDiff, Nat.reduceEqDiff, true_and, and_true, List.length_nil, List.length_cons, or_true, true_or, or_false, false_or, Option.some.injEq, Sum.inl.injEq, Sum.inr.injEq, exists_eq_left', exists_eq_left, Int.reduceLE, Int.reduceLT, Int.reduceNeg, Int.reduceAdd, Int.reduceMul, Int.reduceSub, Int.reduceToNat, inR, Nat.zero_ne_one, false_and, Nat.succ_ne_zero, reduceCtorEq, false_implies, true_implies, not_false_eq_true, not_true_eq_false, Int.reduceEq, KRE, C_Model_fitOf, FM, e302]
  refine (Model_slide_ok rA2 rB ⟨by omega, by omega⟩).eq ?_
  have F3 := mSlM_fr M2 (chr T Y t n) (T t) (Y t - (cSpan T Y t n).1)
  have F3' : FrP fitP M2 _ := F3.wd (fun b j z => by unfold fitP; omega)
  obtain ⟨g1, -, -, g4⟩ := mSlM_get M2 (chr T Y t n) (T t) (Y t - (cSpan T Y t n).1)
  have e26 : mSlM M2 (chr T Y t n) (T t) (Y t - (cSpan T Y t n).1) 154 26 = (chr T Y t n).2.1 := (F3 _ _ (by omega)).trans rA2.1
  have el : (chr T Y t n).2.1 = if (cSpan T Y t n).1 = -1 then 0 else (cSpan T Y t n).2 - (cSpan T Y t n).1 + 1 := rfl
  have ef : fitS T Y n t = if (cSpan T Y t n).1 = -1 then 0 else slScore (chr T Y t n) (T t) (Y t - (cSpan T Y t n).1) := rfl
  have F4 := (F1'.tr F2').tr F3'
  by_cases c : (cSpan T Y t n).1 = -1
  · rw [if_pos c] at el ef
    rw [el] at e26
    rw [ef]
    try simp (maxSteps := 2000000) only [↓reduceIte, wp_eq, wpd_eq, kont_eq, STP1, STP2, STP3, STP4, STP5, konM_eq, AMK, CZ, Option.map, List.getElem?_cons_zero, List.getElem?_cons_succ, List.mem_cons, List.not_mem_nil, if_false, if_true, Nat.reduceAdd, Nat.reduceLT, Nat.reduceLeDiff, Nat.reduceEqDiff, true_and, and_true, List.length_nil, List.length_cons, or_true, true_or, or_false, false_or, Option.some.injEq, Sum.inl.injEq, Sum.inr.injEq, exists_eq_left', exists_eq_left, Int.reduceLE, Int.reduceLT, Int.reduceNeg, Int.reduceAdd, Int.reduceMul, Int.reduceSub, Int.reduceToNat, inR, Nat.zero_ne_one, false_and, Nat.succ_ne_zero, reduceCtorEq, false_implies, true_implies, not_false_eq_true, not_true_eq_false, Int.reduceEq, KRE, C_Model_fitOf, FM, e26]
    repeat (first | refine ⟨by omega, ?_⟩ | refine ⟨fun _ _ => okt_nn (by omega), ?_⟩)
    try (first | (show _ ≤ _; omega) | (show _ < _; omega))
    exact F4
  · rw [if_neg c] at el ef
    rw [ef]
    have c' := eq_false (show ¬ (chr T Y t n).2.1 = 0 by omega)
    try simp (maxSteps := 2000000) only [↓reduceIte, wp_eq, wpd_eq, kont_eq, STP1, STP2, STP3, STP4, STP5, konM_eq, AMK, CZ, Option.map, List.getElem?_cons_zero, List.getElem?_cons_succ, List.mem_cons, List.not_mem_nil, if_false, if_true, Nat.reduceAdd, Nat.reduceLT, Nat.reduceLeDiff, Nat.reduceEqDiff, true_and, and_true, List.length_nil, List.length_cons, or_true, true_or, or_false, false_or, Option.some.injEq, Sum.inl.injEq, Sum.inr.injEq, exists_eq_left', exists_eq_left, Int.reduceLE, Int.reduceLT, Int.reduceNeg, Int.reduceAdd, Int.reduceMul, Int.reduceSub, Int.reduceToNat, inR, Nat.zero_ne_one, false_and, Nat.succ_ne_zero, reduceCtorEq, false_implies, true_implies, not_false_eq_true, not_true_eq_false, Int.reduceEq, KRE, C_Model_fitOf, FM, e26, c', g4]
    repeat (first | refine ⟨by omega, ?_⟩ | refine ⟨fun _ _ => okt_nn (by omega), ?_⟩)
    try (first | (show _ ≤ _; omega) | (show _ < _; omega))
    exact F4
set_option maxHeartbeats 600000 in
set_option maxRecDepth 20000 in
theorem Model_odd_ok (h : mdl M n T Y lap bnd mrg) : CallI m_Model_odd [.inr 154] M (fun x M' => x = (oddS (fitS T Y n) Y n).1 ∧ FrP fitP M M') := by
  have n8 := h.1.2
  have sep : ∀ b j, fitP b j → b ≠ 156 ∧ b ≠ 158 := fun b j z => by unfold fitP at z; omega
  refine callP_of (by decide) (by decide) (Nat.le_of_ble_eq_true rfl) (wpm_of (cuts := [6]) (by decide) 50 _ _ _ _ ?_)
  rw [show lM m_Model_odd = 5 from rfl]
  simp (maxSteps := 2000000) only [↓reduceIte, wp_eq, wpd_eq, kont_eq, STP1, STP2, STP3, STP4, STP5, konM_eq, AMK, CZ, Option.map, List.getElem?_cons_zero, List.getElem?_cons_succ, List.mem_cons, List.not_mem_nil, if_false, if_true, Nat.reduceAdd, Nat.reduceLT, Nat.reduceLeDiff, Nat.reduceEqDiff, true_and, and_true, List.length_nil, List.length_cons, or_true, true_or, or_false, false_or, Option.some.injEq, Sum.inl.injEq, Sum.inr.injEq, exists_eq_left', exists_eq_left, Int.reduceLE, Int.reduceLT, Int.reduceNeg, Int.reduceAdd, Int.reduceMul, Int.reduceSub, Int.reduceToNat, inR, Nat.zero_ne_one, false_and, Nat.succ_ne_zero, reduceCtorEq, false_implies, true_implies, not_false_eq_true, not_true_eq_false, Int.reduceEq, KRE, C_Model_odd, FM]
  refine loopQ n (fun k ls M1 => FrP fitP M M1 ∧ ∃ a4, ls = [some (.inr 154), some (.inl (oddS (fitS T Y n) Y k).1), some (.inl (oddS (fitS T Y n) Y k).2), some (.inl (k : Int)), a4]) ?_ _ _ ⟨FrP.rf, none, rfl⟩
  rintro k _ M1 hk ⟨F, a4, rfl⟩ K
  have h1 := mdl_fr h F sep
  have en := h1.1.1
  have oi := oddS_in (F := fitS T Y n) (Y := Y) (fun t => fitS_in T Y n t) k
  by_cases c : k = n
  · subst c
    have c' := eq_true (show (k : Int) ≤ k by omega)
    refine wpm_of (cuts := [6]) (by decide) 50 _ _ _ _ ?_
    simp (maxSteps := 2000000) only [↓reduceIte, wp_eq, wpd_eq, kont_eq, STP1, STP2, STP3, STP4, STP5, konM_eq, AMK, CZ, Option.map, List.getElem?_cons_zero, List.getElem?_cons_succ, List.mem_cons, List.not_mem_nil, if_false, if_true, Nat.reduceAdd, Nat.reduceLT, Nat.reduceLeDiff, Nat.reduceEqDiff, true_and, and_true, List.length_nil, List.length_cons, or_true, true_or, or_false, false_or, Option.some.injEq, Sum.inl.injEq, Sum.inr.injEq, exists_eq_left', exists_eq_left, Int.reduceLE, Int.reduceLT, Int.reduceNeg, Int.reduceAdd, Int.reduceMul, Int.reduceSub, Int.reduceToNat, inR, Nat.zero_ne_one, false_and, Nat.succ_ne_zero, reduceCtorEq, false_implies, true_implies, not_false_eq_true, not_true_eq_false, Int.reduceEq, KRE, C_Model_odd, FM, en, c']
    repeat (first | refine ⟨by omega, ?_⟩ | refine ⟨fun _ _ => okt_nn (by omega), ?_⟩)
    try (first | (show _ ≤ _; omega) | (show _ < _; omega))
    exact F
  · have hlt : k < n := by omega
    have c' := eq_false (show ¬ (n : Int) ≤ k by omega)
    have K' := fun M' a4 z => K hlt _ M' ⟨z, a4, rfl⟩
    rw [show oddS (fitS T Y n) Y (k + 1) = if Y k ≠ -1 ∧ ((oddS (fitS T Y n) Y k).1 = -1 ∨ fitS T Y n k < (oddS (fitS T Y n) Y k).2) then ((k : Int), fitS T Y n k) else oddS (fitS T Y n) Y k from rfl] at K'
    generalize oddS (fitS T Y n) Y k = x at *
    have fi := fitS_in T Y n k
    refine wpm_of (cuts := [6]) (by decide) 50 _ _ _ _ ?_
    simp (maxSteps := 2000000) only [↓reduceIte, wp_eq, wpd_eq, kont_eq, STP1, STP2, STP3, STP4, STP5, konM_eq, AMK, CZ, Option.map, List.getElem?_cons_zero, List.getElem?_cons_succ, List.mem_cons, List.not_mem_nil, if_false, if_true, Nat.reduceAdd, Nat.reduceLT, Nat.reduceLeDiff, Nat.reduceEqDiff, true_and, and_true, List.length_nil, List.length_cons, or_true, true_or, or_false, false_or, Option.some.injEq, Sum.inl.injEq, Sum.inr.injEq, exists_eq_left', exists_eq_left, Int.reduceLE, Int.reduceLT, Int.reduceNeg, Int.reduceAdd, Int.reduceMul, Int.reduceSub, Int.reduceToNat, inR, Nat.zero_ne_one, false_and, Nat.succ_ne_zero, reduceCtorEq, false_implies, true_implies, not_false_eq_true, not_true_eq_false, Int.reduceEq, KRE, C_Model_odd, FM, en, c']
    repeat (first | refine ⟨by omega, ?_⟩ | refine ⟨fun _ _ => okt_nn (by omega), ?_⟩)
    try (first | (show _ ≤ _; omega) | (show _ < _; omega))
    refine (dated_m h1 hlt).eq ?_
    by_cases cY : Y k = -1
    · rw [if_neg (fun z => z.1 cY)] at K'
      rw [if_neg (fun z => z cY)]
      try simp (maxSteps := 2000000) only [↓reduceIte, wp_eq, wpd_eq, kont_eq, STP1, STP2, STP3, STP4, STP5, konM_eq, AMK, CZ, Option.map, List.getElem?_cons_zero, List.getElem?_cons_succ, List.mem_cons, List.not_mem_nil, if_false, if_true, Nat.reduceAdd, Nat.reduceLT, Nat.reduceLeDiff, Nat.reduceEqDiff, true_and, and_true, List.length_nil, List.length_cons, or_true, true_or, or_false, false_or, Option.some.injEq, Sum.inl.injEq, Sum.inr.injEq, exists_eq_left', exists_eq_left, Int.reduceLE, Int.reduceLT, Int.reduceNeg, Int.reduceAdd, Int.reduceMul, Int.reduceSub, Int.reduceToNat, inR, Nat.zero_ne_one, false_and, Nat.succ_ne_zero, reduceCtorEq, false_implies, true_implies, not_false_eq_true, not_true_eq_false, Int.reduceEq, KRE, C_Model_odd]
      repeat (first | refine ⟨by omega, ?_⟩ | refine ⟨fun _ _ => okt_nn (by omega), ?_⟩)
      try (first | (show _ ≤ _; omega) | (show _ < _; omega))
      exact K' _ _ F
    · rw [if_pos cY]
      try simp (maxSteps := 2000000) only [↓reduceIte, wp_eq, wpd_eq, kont_eq, STP1, STP2, STP3, STP4, STP5, konM_eq, AMK, CZ, Option.map, List.getElem?_cons_zero, List.getElem?_cons_succ, List.mem_cons, List.not_mem_nil, if_false, if_true, Nat.reduceAdd, Nat.reduceLT, Nat.reduceLeDiff, Nat.reduceEqDiff, true_and, and_true, List.length_nil, List.length_cons, or_true, true_or, or_false, false_or, Option.some.injEq, Sum.inl.injEq, Sum.inr.injEq, exists_eq_left', exists_eq_left, Int.reduceLE, Int.reduceLT, Int.reduceNeg, Int.reduceAdd, Int.reduceMul, Int.reduceSub, Int.reduceToNat, inR, Nat.zero_ne_one, false_and, Nat.succ_ne_zero, reduceCtorEq, false_implies, true_implies, not_false_eq_true, not_true_eq_false, Int.reduceEq, KRE, C_Model_odd]
      repeat (first | refine ⟨by omega, ?_⟩ | refine ⟨fun _ _ => okt_nn (by omega), ?_⟩)
      try (first | (show _ ≤ _; omega) | (show _ < _; omega))
      refine (Model_fitOf_ok h1 hlt).mono (fun y M2 z => ?_)
      obtain ⟨rfl, F2⟩ := z
      by_cases c1 : x.1 = -1
      · rw [if_pos ⟨cY, Or.inl c1⟩] at K'
        have c1' := eq_true c1
        try simp (maxSteps := 2000000) only [↓reduceIte, wp_eq, wpd_eq, kont_eq, STP1, STP2, STP3, STP4, STP5, konM_eq, AMK, CZ, Option.map, List.getElem?_cons_zero, List.getElem?_cons_succ, List.mem_cons, List.not_mem_nil, if_false, if_true, Nat.reduceAdd, Nat.reduceLT, Nat.reduceLeDiff, Nat.reduceEqDiff, true_and, and_true, List.length_nil, List.length_cons, or_true, true_or, or_false, false_or, Option.some.injEq, Sum.inl.injEq, Sum.inr.injEq, exists_eq_left', exists_eq_left, Int.reduceLE, Int.reduceLT, Int.reduceNeg, Int.reduceAdd, Int.reduceMul, Int.reduceSub, Int.reduceToNat, inR, Nat.zero_ne_one, false_and, Nat.succ_ne_zero, reduceCtorEq, false_implies, true_implies, not_false_eq_true, not_true_eq_false, Int.reduceEq, KRE, C_Model_odd, c1']
        repeat (first | refine ⟨by omega, ?_⟩ | refine ⟨fun _ _ => okt_nn (by omega), ?_⟩)
        try (first | (show _ ≤ _; omega) | (show _ < _; omega))
        exact K' _ _ (F.tr F2)
      · have c1' := eq_false c1
        by_cases c2 : fitS T Y n k < x.2
        · rw [if_pos ⟨cY, Or.inr c2⟩] at K'
          have c2' := eq_true c2
          try simp (maxSteps := 2000000) only [↓reduceIte, wp_eq, wpd_eq, kont_eq, STP1, STP2, STP3, STP4, STP5, konM_eq, AMK, CZ, Option.map, List.getElem?_cons_zero, List.getElem?_cons_succ, List.mem_cons, List.not_mem_nil, if_false, if_true, Nat.reduceAdd, Nat.reduceLT, Nat.reduceLeDiff, Nat.reduceEqDiff, true_and, and_true, List.length_nil, List.length_cons, or_true, true_or, or_false, false_or, Option.some.injEq, Sum.inl.injEq, Sum.inr.injEq, exists_eq_left', exists_eq_left, Int.reduceLE, Int.reduceLT, Int.reduceNeg, Int.reduceAdd, Int.reduceMul, Int.reduceSub, Int.reduceToNat, inR, Nat.zero_ne_one, false_and, Nat.succ_ne_zero, reduceCtorEq, false_implies, true_implies, not_false_eq_true, not_true_eq_false, Int.reduceEq, KRE, C_Model_odd, c1', c2']
          repeat (first | refine ⟨by omega, ?_⟩ | refine ⟨fun _ _ => okt_nn (by omega), ?_⟩)
          try (first | (show _ ≤ _; omega) | (show _ < _; omega))
          exact K' _ _ (F.tr F2)
        · rw [if_neg (fun z => by omega)] at K'
          have c2' := eq_false c2
          try simp (maxSteps := 2000000) only [↓reduceIte, wp_eq, wpd_eq, kont_eq, STP1, STP2, STP3, STP4, STP5, konM_eq, AMK, CZ, Option.map, List.getElem?_cons_zero, List.getElem?_cons_succ, List.mem_cons, List.not_mem_nil, if_false, if_true, Nat.reduceAdd, Nat.reduceLT, Nat.reduceLeDiff, Nat.reduceEqDiff, true_and, and_true, List.length_nil, List.length_cons, or_true, true_or, or_false, false_or, Option.some.injEq, Sum.inl.injEq, Sum.inr.injEq, exists_eq_left', exists_eq_left, Int.reduceLE, Int.reduceLT, Int.reduceNeg, Int.reduceAdd, Int.reduceMul, Int.reduceSub, Int.reduceToNat, inR, Nat.zero_ne_one, false_and, Nat.succ_ne_zero, reduceCtorEq, false_implies, true_implies, not_false_eq_true, not_true_eq_false, Int.reduceEq, KRE, C_Model_odd, c1', c2']
          repeat (first | refine ⟨by omega, ?_⟩ | refine ⟨fun _ _ => okt_nn (by omega), ?_⟩)
          try (first | (show _ ≤ _; omega) | (show _ < _; omega))
          exact K' _ _ (F.tr F2)
set_option maxHeartbeats 600000 in
set_option maxRecDepth 20000 in
theorem Model_whyNot_ok {t : Nat} (h : mdl M n T Y lap bnd mrg) (ht : t < n) : CallI m_Model_whyNot [.inr 154, .inl (t : Int)] M (fun x M' => x = whyU T Y lap bnd mrg n t ∧ M' 154 30 = (cSpan T Y t n).1 ∧ bstM M' (bestO T Y lap n t) ∧ FrP fitP M M') := by
  have n8 := h.1.2
  have hc := h.2.2.2
  have sp := (cSpan_in (wo := (t : Int)) hc).1
  have sep : ∀ b j, fitP b j → b ≠ 156 ∧ b ≠ 158 := fun b j z => by unfold fitP at z; omega
  have ob := bestO_ok (lap := lap) hc ht
  have ew : whyU T Y lap bnd mrg n t = if why (bestO T Y lap n t) bnd mrg ≠ 0 then why (bestO T Y lap n t) bnd mrg else if 0 ≤ (cSpan T Y t n).1 + (bestO T Y lap n t).2.1 ∧ (cSpan T Y t n).1 + (bestO T Y lap n t).2.1 ≤ 900 then 0 else 4 := rfl
  refine callP_of (by decide) (by decide) (Nat.le_of_ble_eq_true rfl) (wpm_of (cuts := []) (by decide) 50 _ _ _ _ ?_)
  rw [show lM m_Model_whyNot = 2 from rfl]
  simp (maxSteps := 2000000) only [↓reduceIte, wp_eq, wpd_eq, kont_eq, STP1, STP2, STP3, STP4, STP5, konM_eq, AMK, CZ, Option.map, List.getElem?_cons_zero, List.getElem?_cons_succ, List.mem_cons, List.not_mem_nil, if_false, if_true, Nat.reduceAdd, Nat.reduceLT, Nat.reduceLeDiff, Nat.reduceEqDiff, true_and, and_true, List.length_nil, List.length_cons, or_true, true_or, or_false, false_or, Option.some.injEq, Sum.inl.injEq, Sum.inr.injEq, exists_eq_left', exists_eq_left, Int.reduceLE, Int.reduceLT, Int.reduceNeg, Int.reduceAdd, Int.reduceMul, Int.reduceSub, Int.reduceToNat, inR, Nat.zero_ne_one, false_and, Nat.succ_ne_zero, reduceCtorEq, false_implies, true_implies, not_false_eq_true, not_true_eq_false, Int.reduceEq, KRE, C_Model_whyNot, FM]
  refine (Model_layChronology_ok (wo := (t : Int)) h ⟨by omega, by omega⟩).mono (fun M1 z => ?_)
  obtain ⟨rA, e30, F1⟩ := z
  have F1' : FrP fitP M M1 := F1.wd (fun b j z => by unfold chrP at z; unfold fitP; omega)
  have h1 := mdl_fr h F1' sep
  try simp (maxSteps := 2000000) only [↓reduceIte, wp_eq, wpd_eq, kont_eq, STP1, STP2, STP3, STP4, STP5, konM_eq, AMK, CZ, Option.map, List.getElem?_cons_zero, List.getElem?_cons_succ, List.mem_cons, List.not_mem_nil, if_false, if_true, Nat.reduceAdd, Nat.reduceLT, Nat.reduceLeDiff, Nat.reduceEqDiff, true_and, and_true, List.length_nil, List.length_cons, or_true, true_or, or_false, false_or, Option.some.injEq, Sum.inl.injEq, Sum.inr.injEq, exists_eq_left', exists_eq_left, Int.reduceLE, Int.reduceLT, Int.reduceNeg, Int.reduceAdd, Int.reduceMul, Int.reduceSub, Int.reduceToNat, inR, Nat.zero_ne_one, false_and, Nat.succ_ne_zero, reduceCtorEq, false_implies, true_implies, not_false_eq_true, not_true_eq_false, Int.reduceEq, KRE, C_Model_whyNot]
  refine (Model_layB_ok h1 ht).mono (fun M2 z => ?_)
  obtain ⟨rB, F2⟩ := z
  have F2' : FrP fitP M1 M2 := F2.wd (fun b j z => by unfold layBP at z; unfold fitP; omega)
  have h2 := mdl_fr h1 F2' sep
  have rA2 : rowA M2 (chr T Y t n) := rowA_cells (fun b q1 q2 j => F2 _ _ (by unfold layBP; omega)) (F2 _ _ (by unfold layBP; omega)) (F2 _ _ (by unfold layBP; omega)) rA
  have e302 : M2 154 30 = (cSpan T Y t n).1 := (F2 _ _ (by unfold layBP; omega)).trans e30
  try simp (maxSteps := 2000000) only [↓reduceIte, wp_eq, wpd_eq, kont_eq, STP1, STP2, STP3, STP4, STP5, konM_eq, AMK, CZ, Option.map, List.getElem?_cons_zero, List.getElem?_cons_succ, List.mem_cons, List.not_mem_nil, if_false, if_true, Nat.reduceAdd, Nat.reduceLT, Nat.reduceLeDiff, Nat.reduceEqDiff, true_and, and_true, List.length_nil, List.length_cons, or_true, true_or, or_false, false_or, Option.some.injEq, Sum.inl.injEq, Sum.inr.injEq, exists_eq_left', exists_eq_left, Int.reduceLE, Int.reduceLT, Int.reduceNeg, Int.reduceAdd, Int.reduceMul, Int.reduceSub, Int.reduceToNat, inR, Nat.zero_ne_one, false_and, Nat.succ_ne_zero, reduceCtorEq, false_implies, true_implies, not_false_eq_true, not_true_eq_false, Int.reduceEq, KRE, C_Model_whyNot]
  refine (Model_bound_ok h2.2.2.1).eq ?_
  try simp (maxSteps := 2000000) only [↓reduceIte, wp_eq, wpd_eq, kont_eq, STP1, STP2, STP3, STP4, STP5, konM_eq, AMK, CZ, Option.map, List.getElem?_cons_zero, List.getElem?_cons_succ, List.mem_cons, List.not_mem_nil, if_false, if_true, Nat.reduceAdd, Nat.reduceLT, Nat.reduceLeDiff, Nat.reduceEqDiff, true_and, and_true, List.length_nil, List.length_cons, or_true, true_or, or_false, false_or, Option.some.injEq, Sum.inl.injEq, Sum.inr.injEq, exists_eq_left', exists_eq_left, Int.reduceLE, Int.reduceLT, Int.reduceNeg, Int.reduceAdd, Int.reduceMul, Int.reduceSub, Int.reduceToNat, inR, Nat.zero_ne_one, false_and, Nat.succ_ne_zero, reduceCtorEq, false_implies, true_implies, not_false_eq_true, not_true_eq_false, Int.reduceEq, KRE, C_Model_whyNot]
  have hb := h2.2.2.1.1.2
  refine (Model_tellBest_ok h2.2.2.1 rA2 rB (by omega)).mono (fun M3 z => ?_)
  obtain ⟨b1, b2, F3⟩ := z
  have F3' : FrP fitP M2 M3 := F3.wd (fun b j z => by unfold bestP at z; unfold fitP; omega)
  have e303 : M3 154 30 = (cSpan T Y t n).1 := (F3 _ _ (by unfold bestP; omega)).trans e302
  have F4 := (F1'.tr F2').tr F3'
  have eb : best (chr T Y t n) (T t) lap = bestO T Y lap n t := rfl
  rw [eb] at b1 b2
  have wi := why_in (bestO T Y lap n t) bnd mrg
  by_cases cw : why (bestO T Y lap n t) bnd mrg = 0
  · rw [if_neg (fun z => z cw)] at ew
    obtain ⟨g1, g2, g3, g4⟩ := why_0 ob cw
    obtain ⟨f2, f3, f4⟩ := b1.2.2 g1
    have cw' := eq_true cw
    try simp (maxSteps := 2000000) only [↓reduceIte, wp_eq, wpd_eq, kont_eq, STP1, STP2, STP3, STP4, STP5, konM_eq, AMK, CZ, Option.map, List.getElem?_cons_zero, List.getElem?_cons_succ, List.mem_cons, List.not_mem_nil, if_false, if_true, Nat.reduceAdd, Nat.reduceLT, Nat.reduceLeDiff, Nat.reduceEqDiff, true_and, and_true, List.length_nil, List.length_cons, or_true, true_or, or_false, false_or, Option.some.injEq, Sum.inl.injEq, Sum.inr.injEq, exists_eq_left', exists_eq_left, Int.reduceLE, Int.reduceLT, Int.reduceNeg, Int.reduceAdd, Int.reduceMul, Int.reduceSub, Int.reduceToNat, inR, Nat.zero_ne_one, false_and, Nat.succ_ne_zero, reduceCtorEq, false_implies, true_implies, not_false_eq_true, not_true_eq_false, Int.reduceEq, KRE, C_Model_whyNot, FM, b2, cw', e303, f2]
    repeat (first | refine ⟨by omega, ?_⟩ | refine ⟨fun _ _ => okt_nn (by omega), ?_⟩)
    try (first | (show _ ≤ _; omega) | (show _ < _; omega))
    refine (Model_isIn_ok ⟨by omega, by omega⟩ ⟨by omega, by omega⟩ ⟨by omega, by omega⟩).eq ?_
    by_cases ci : 0 ≤ (cSpan T Y t n).1 + (bestO T Y lap n t).2.1 ∧ (cSpan T Y t n).1 + (bestO T Y lap n t).2.1 ≤ 900
    · rw [if_pos ci] at ew ⊢
      rw [ew]
      try simp (maxSteps := 2000000) only [↓reduceIte, wp_eq, wpd_eq, kont_eq, STP1, STP2, STP3, STP4, STP5, konM_eq, AMK, CZ, Option.map, List.getElem?_cons_zero, List.getElem?_cons_succ, List.mem_cons, List.not_mem_nil, if_false, if_true, Nat.reduceAdd, Nat.reduceLT, Nat.reduceLeDiff, Nat.reduceEqDiff, true_and, and_true, List.length_nil, List.length_cons, or_true, true_or, or_false, false_or, Option.some.injEq, Sum.inl.injEq, Sum.inr.injEq, exists_eq_left', exists_eq_left, Int.reduceLE, Int.reduceLT, Int.reduceNeg, Int.reduceAdd, Int.reduceMul, Int.reduceSub, Int.reduceToNat, inR, Nat.zero_ne_one, false_and, Nat.succ_ne_zero, reduceCtorEq, false_implies, true_implies, not_false_eq_true, not_true_eq_false, Int.reduceEq, KRE, C_Model_whyNot]
      repeat (first | refine ⟨by omega, ?_⟩ | refine ⟨fun _ _ => okt_nn (by omega), ?_⟩)
      try (first | (show _ ≤ _; omega) | (show _ < _; omega))
      exact F4
    · rw [if_neg ci] at ew ⊢
      rw [ew]
      try simp (maxSteps := 2000000) only [↓reduceIte, wp_eq, wpd_eq, kont_eq, STP1, STP2, STP3, STP4, STP5, konM_eq, AMK, CZ, Option.map, List.getElem?_cons_zero, List.getElem?_cons_succ, List.mem_cons, List.not_mem_nil, if_false, if_true, Nat.reduceAdd, Nat.reduceLT, Nat.reduceLeDiff, Nat.reduceEqDiff, true_and, and_true, List.length_nil, List.length_cons, or_true, true_or, or_false, false_or, Option.some.injEq, Sum.inl.injEq, Sum.inr.injEq, exists_eq_left', exists_eq_left, Int.reduceLE, Int.reduceLT, Int.reduceNeg, Int.reduceAdd, Int.reduceMul, Int.reduceSub, Int.reduceToNat, inR, Nat.zero_ne_one, false_and, Nat.succ_ne_zero, reduceCtorEq, false_implies, true_implies, not_false_eq_true, not_true_eq_false, Int.reduceEq, KRE, C_Model_whyNot]
      repeat (first | refine ⟨by omega, ?_⟩ | refine ⟨fun _ _ => okt_nn (by omega), ?_⟩)
      try (first | (show _ ≤ _; omega) | (show _ < _; omega))
      exact F4
  · rw [if_pos cw] at ew
    have cw' := eq_false cw
    try simp (maxSteps := 2000000) only [↓reduceIte, wp_eq, wpd_eq, kont_eq, STP1, STP2, STP3, STP4, STP5, konM_eq, AMK, CZ, Option.map, List.getElem?_cons_zero, List.getElem?_cons_succ, List.mem_cons, List.not_mem_nil, if_false, if_true, Nat.reduceAdd, Nat.reduceLT, Nat.reduceLeDiff, Nat.reduceEqDiff, true_and, and_true, List.length_nil, List.length_cons, or_true, true_or, or_false, false_or, Option.some.injEq, Sum.inl.injEq, Sum.inr.injEq, exists_eq_left', exists_eq_left, Int.reduceLE, Int.reduceLT, Int.reduceNeg, Int.reduceAdd, Int.reduceMul, Int.reduceSub, Int.reduceToNat, inR, Nat.zero_ne_one, false_and, Nat.succ_ne_zero, reduceCtorEq, false_implies, true_implies, not_false_eq_true, not_true_eq_false, Int.reduceEq, KRE, C_Model_whyNot, FM, b2, cw', e303]
    repeat (first | refine ⟨by omega, ?_⟩ | refine ⟨fun _ _ => okt_nn (by omega), ?_⟩)
    try (first | (show _ ≤ _; omega) | (show _ < _; omega))
    exact F4
end MODZ

/-! THE REFERENCE, A: count (printed by g4a.py). -/
section MODA
variable {n : Nat} {T : Nat → Rw} {Y : Nat → Int} {lap bnd mrg : Int} {M : Mm}
set_option maxHeartbeats 600000 in
set_option maxRecDepth 20000 in
theorem Mcount_0 (h : mdl M n T Y lap bnd mrg) : CallI m_Model_count [.inr 154, .inl 0] M (fun x M' => x = n ∧ rsM M 0 M') := by
  have h0 : mdl (mset M 154 1 0) n T Y lap bnd mrg := mdl_fr h scr_0 scr_mdl
  have en0 := h0.1.1
  have n8 := h.1.2
  have hst := h0.2.2.1
  refine callP_of (by decide) (by decide) (Nat.le_of_ble_eq_true rfl) (wpm_of (cuts := []) (by decide) 60 _ _ _ _ ?_)
  rw [show lM m_Model_count = 2 from rfl]
  simp (maxSteps := 2000000) only [↓reduceIte, wp_eq, wpd_eq, kont_eq, STP1, STP2, STP3, STP4, STP5, konM_eq, AMK, CZ, Option.map, List.getElem?_cons_zero, List.getElem?_cons_succ, List.mem_cons, List.not_mem_nil, if_false, if_true, Nat.reduceAdd, Nat.reduceLT, Nat.reduceLeDiff, Nat.reduceEqDiff, true_and, and_true, List.length_nil, List.length_cons, or_true, true_or, or_false, false_or, Option.some.injEq, Sum.inl.injEq, Sum.inr.injEq, exists_eq_left', exists_eq_left, Int.reduceLE, Int.reduceLT, Int.reduceNeg, Int.reduceAdd, Int.reduceMul, Int.reduceSub, Int.reduceToNat, inR, Nat.zero_ne_one, false_and, Nat.succ_ne_zero, reduceCtorEq, false_implies, true_implies, not_false_eq_true, not_true_eq_false, Int.reduceEq, KRE, C_Model_count, FM, en0]
  repeat (first | refine ⟨by omega, ?_⟩ | refine ⟨fun _ _ => okt_nn (by omega), ?_⟩)
  try (first | (show _ ≤ _; omega) | (show _ < _; omega))
  exact rsM_0
set_option maxHeartbeats 600000 in
set_option maxRecDepth 20000 in
theorem Mcount_1 (h : mdl M n T Y lap bnd mrg) : CallI m_Model_count [.inr 154, .inl 1] M (fun x M' => x = bnd ∧ rsM M 0 M') := by
  have h0 : mdl (mset M 154 1 0) n T Y lap bnd mrg := mdl_fr h scr_0 scr_mdl
  have en0 := h0.1.1
  have n8 := h.1.2
  have hst := h0.2.2.1
  refine callP_of (by decide) (by decide) (Nat.le_of_ble_eq_true rfl) (wpm_of (cuts := []) (by decide) 60 _ _ _ _ ?_)
  rw [show lM m_Model_count = 2 from rfl]
  simp (maxSteps := 2000000) only [↓reduceIte, wp_eq, wpd_eq, kont_eq, STP1, STP2, STP3, STP4, STP5, konM_eq, AMK, CZ, Option.map, List.getElem?_cons_zero, List.getElem?_cons_succ, List.mem_cons, List.not_mem_nil, if_false, if_true, Nat.reduceAdd, Nat.reduceLT, Nat.reduceLeDiff, Nat.reduceEqDiff, true_and, and_true, List.length_nil, List.length_cons, or_true, true_or, or_false, false_or, Option.some.injEq, Sum.inl.injEq, Sum.inr.injEq, exists_eq_left', exists_eq_left, Int.reduceLE, Int.reduceLT, Int.reduceNeg, Int.reduceAdd, Int.reduceMul, Int.reduceSub, Int.reduceToNat, inR, Nat.zero_ne_one, false_and, Nat.succ_ne_zero, reduceCtorEq, false_implies, true_implies, not_false_eq_true, not_true_eq_false, Int.reduceEq, KRE, C_Model_count, FM, en0]
  repeat (first | refine ⟨by omega, ?_⟩ | refine ⟨fun _ _ => okt_nn (by omega), ?_⟩)
  try (first | (show _ ≤ _; omega) | (show _ < _; omega))
  exact (Model_bound_ok hst).eq ⟨rfl, rsM_0⟩
set_option maxHeartbeats 600000 in
set_option maxRecDepth 20000 in
theorem Mcount_2 (h : mdl M n T Y lap bnd mrg) : CallI m_Model_count [.inr 154, .inl 2] M (fun x M' => x = lap ∧ rsM M 0 M') := by
  have h0 : mdl (mset M 154 1 0) n T Y lap bnd mrg := mdl_fr h scr_0 scr_mdl
  have en0 := h0.1.1
  have n8 := h.1.2
  have hst := h0.2.2.1
  refine callP_of (by decide) (by decide) (Nat.le_of_ble_eq_true rfl) (wpm_of (cuts := []) (by decide) 60 _ _ _ _ ?_)
  rw [show lM m_Model_count = 2 from rfl]
  simp (maxSteps := 2000000) only [↓reduceIte, wp_eq, wpd_eq, kont_eq, STP1, STP2, STP3, STP4, STP5, konM_eq, AMK, CZ, Option.map, List.getElem?_cons_zero, List.getElem?_cons_succ, List.mem_cons, List.not_mem_nil, if_false, if_true, Nat.reduceAdd, Nat.reduceLT, Nat.reduceLeDiff, Nat.reduceEqDiff, true_and, and_true, List.length_nil, List.length_cons, or_true, true_or, or_false, false_or, Option.some.injEq, Sum.inl.injEq, Sum.inr.injEq, exists_eq_left', exists_eq_left, Int.reduceLE, Int.reduceLT, Int.reduceNeg, Int.reduceAdd, Int.reduceMul, Int.reduceSub, Int.reduceToNat, inR, Nat.zero_ne_one, false_and, Nat.succ_ne_zero, reduceCtorEq, false_implies, true_implies, not_false_eq_true, not_true_eq_false, Int.reduceEq, KRE, C_Model_count, FM, en0]
  repeat (first | refine ⟨by omega, ?_⟩ | refine ⟨fun _ _ => okt_nn (by omega), ?_⟩)
  try (first | (show _ ≤ _; omega) | (show _ < _; omega))
  exact (Model_lap_ok hst).eq ⟨rfl, rsM_0⟩
set_option maxHeartbeats 600000 in
set_option maxRecDepth 20000 in
theorem Mcount_3 (h : mdl M n T Y lap bnd mrg) : CallI m_Model_count [.inr 154, .inl 3] M (fun x M' => x = mrg ∧ rsM M 0 M') := by
  have h0 : mdl (mset M 154 1 0) n T Y lap bnd mrg := mdl_fr h scr_0 scr_mdl
  have en0 := h0.1.1
  have n8 := h.1.2
  have hst := h0.2.2.1
  refine callP_of (by decide) (by decide) (Nat.le_of_ble_eq_true rfl) (wpm_of (cuts := []) (by decide) 60 _ _ _ _ ?_)
  rw [show lM m_Model_count = 2 from rfl]
  simp (maxSteps := 2000000) only [↓reduceIte, wp_eq, wpd_eq, kont_eq, STP1, STP2, STP3, STP4, STP5, konM_eq, AMK, CZ, Option.map, List.getElem?_cons_zero, List.getElem?_cons_succ, List.mem_cons, List.not_mem_nil, if_false, if_true, Nat.reduceAdd, Nat.reduceLT, Nat.reduceLeDiff, Nat.reduceEqDiff, true_and, and_true, List.length_nil, List.length_cons, or_true, true_or, or_false, false_or, Option.some.injEq, Sum.inl.injEq, Sum.inr.injEq, exists_eq_left', exists_eq_left, Int.reduceLE, Int.reduceLT, Int.reduceNeg, Int.reduceAdd, Int.reduceMul, Int.reduceSub, Int.reduceToNat, inR, Nat.zero_ne_one, false_and, Nat.succ_ne_zero, reduceCtorEq, false_implies, true_implies, not_false_eq_true, not_true_eq_false, Int.reduceEq, KRE, C_Model_count, FM, en0]
  repeat (first | refine ⟨by omega, ?_⟩ | refine ⟨fun _ _ => okt_nn (by omega), ?_⟩)
  try (first | (show _ ≤ _; omega) | (show _ < _; omega))
  exact (Model_margin_ok hst).eq ⟨rfl, rsM_0⟩
set_option maxHeartbeats 600000 in
set_option maxRecDepth 20000 in
theorem Mcount_4 (h : mdl M n T Y lap bnd mrg) : CallI m_Model_count [.inr 154, .inl 4] M (fun x M' => x = fBit (fun t => Y t ≠ -1) n ∧ rsM M 0 M') := by
  have h0 : mdl (mset M 154 1 0) n T Y lap bnd mrg := mdl_fr h scr_0 scr_mdl
  have en0 := h0.1.1
  have n8 := h.1.2
  have hst := h0.2.2.1
  refine callP_of (by decide) (by decide) (Nat.le_of_ble_eq_true rfl) (wpm_of (cuts := []) (by decide) 60 _ _ _ _ ?_)
  rw [show lM m_Model_count = 2 from rfl]
  simp (maxSteps := 2000000) only [↓reduceIte, wp_eq, wpd_eq, kont_eq, STP1, STP2, STP3, STP4, STP5, konM_eq, AMK, CZ, Option.map, List.getElem?_cons_zero, List.getElem?_cons_succ, List.mem_cons, List.not_mem_nil, if_false, if_true, Nat.reduceAdd, Nat.reduceLT, Nat.reduceLeDiff, Nat.reduceEqDiff, true_and, and_true, List.length_nil, List.length_cons, or_true, true_or, or_false, false_or, Option.some.injEq, Sum.inl.injEq, Sum.inr.injEq, exists_eq_left', exists_eq_left, Int.reduceLE, Int.reduceLT, Int.reduceNeg, Int.reduceAdd, Int.reduceMul, Int.reduceSub, Int.reduceToNat, inR, Nat.zero_ne_one, false_and, Nat.succ_ne_zero, reduceCtorEq, false_implies, true_implies, not_false_eq_true, not_true_eq_false, Int.reduceEq, KRE, C_Model_count, FM, en0]
  repeat (first | refine ⟨by omega, ?_⟩ | refine ⟨fun _ _ => okt_nn (by omega), ?_⟩)
  try (first | (show _ ≤ _; omega) | (show _ < _; omega))
  exact (Model_datedSet_ok h0).eq ⟨rfl, rsM_0⟩
set_option maxHeartbeats 600000 in
set_option maxRecDepth 20000 in
theorem Mcount_5 (h : mdl M n T Y lap bnd mrg) : CallI m_Model_count [.inr 154, .inl 5] M (fun x M' => x = (cSpan T Y (-1) n).1 ∧ rsM M 0 M') := by
  have h0 : mdl (mset M 154 1 0) n T Y lap bnd mrg := mdl_fr h scr_0 scr_mdl
  have en0 := h0.1.1
  have n8 := h.1.2
  have hst := h0.2.2.1
  refine callP_of (by decide) (by decide) (Nat.le_of_ble_eq_true rfl) (wpm_of (cuts := []) (by decide) 60 _ _ _ _ ?_)
  rw [show lM m_Model_count = 2 from rfl]
  simp (maxSteps := 2000000) only [↓reduceIte, wp_eq, wpd_eq, kont_eq, STP1, STP2, STP3, STP4, STP5, konM_eq, AMK, CZ, Option.map, List.getElem?_cons_zero, List.getElem?_cons_succ, List.mem_cons, List.not_mem_nil, if_false, if_true, Nat.reduceAdd, Nat.reduceLT, Nat.reduceLeDiff, Nat.reduceEqDiff, true_and, and_true, List.length_nil, List.length_cons, or_true, true_or, or_false, false_or, Option.some.injEq, Sum.inl.injEq, Sum.inr.injEq, exists_eq_left', exists_eq_left, Int.reduceLE, Int.reduceLT, Int.reduceNeg, Int.reduceAdd, Int.reduceMul, Int.reduceSub, Int.reduceToNat, inR, Nat.zero_ne_one, false_and, Nat.succ_ne_zero, reduceCtorEq, false_implies, true_implies, not_false_eq_true, not_true_eq_false, Int.reduceEq, KRE, C_Model_count, FM, en0]
  repeat (first | refine ⟨by omega, ?_⟩ | refine ⟨fun _ _ => okt_nn (by omega), ?_⟩)
  try (first | (show _ ≤ _; omega) | (show _ < _; omega))
  refine (Model_layChronology_ok (wo := -1) h0 ⟨by omega, by omega⟩).mono (fun M1 z => ?_)
  obtain ⟨⟨r1, -, -, -⟩, e30, F1⟩ := z
  have rs := rsM_fr rsM_0 F1 (fun b j z => by unfold chrP at z; unfold scrM; omega)
  have sp := (cSpan_in (wo := -1) h.2.2.2).1
  have el : (chr T Y (-1) n).2.1 = if (cSpan T Y (-1) n).1 = -1 then 0 else (cSpan T Y (-1) n).2 - (cSpan T Y (-1) n).1 + 1 := rfl
  by_cases c : (cSpan T Y (-1) n).1 = -1
  · rw [if_pos c] at el
    rw [el] at r1
    try simp (maxSteps := 2000000) only [↓reduceIte, wp_eq, wpd_eq, kont_eq, STP1, STP2, STP3, STP4, STP5, konM_eq, AMK, CZ, Option.map, List.getElem?_cons_zero, List.getElem?_cons_succ, List.mem_cons, List.not_mem_nil, if_false, if_true, Nat.reduceAdd, Nat.reduceLT, Nat.reduceLeDiff, Nat.reduceEqDiff, true_and, and_true, List.length_nil, List.length_cons, or_true, true_or, or_false, false_or, Option.some.injEq, Sum.inl.injEq, Sum.inr.injEq, exists_eq_left', exists_eq_left, Int.reduceLE, Int.reduceLT, Int.reduceNeg, Int.reduceAdd, Int.reduceMul, Int.reduceSub, Int.reduceToNat, inR, Nat.zero_ne_one, false_and, Nat.succ_ne_zero, reduceCtorEq, false_implies, true_implies, not_false_eq_true, not_true_eq_false, Int.reduceEq, KRE, C_Model_count, FM, r1]
    repeat (first | refine ⟨by omega, ?_⟩ | refine ⟨fun _ _ => okt_nn (by omega), ?_⟩)
    try (first | (show _ ≤ _; omega) | (show _ < _; omega))
    repeat (first | refine ⟨by omega, ?_⟩ | refine ⟨fun _ _ => okt_nn (by omega), ?_⟩)
    try (first | (show _ ≤ _; omega) | (show _ < _; omega))
    exact rs
  · rw [if_neg c] at el
    have c' := eq_false (show ¬ (chr T Y (-1) n).2.1 = 0 by omega)
    try simp (maxSteps := 2000000) only [↓reduceIte, wp_eq, wpd_eq, kont_eq, STP1, STP2, STP3, STP4, STP5, konM_eq, AMK, CZ, Option.map, List.getElem?_cons_zero, List.getElem?_cons_succ, List.mem_cons, List.not_mem_nil, if_false, if_true, Nat.reduceAdd, Nat.reduceLT, Nat.reduceLeDiff, Nat.reduceEqDiff, true_and, and_true, List.length_nil, List.length_cons, or_true, true_or, or_false, false_or, Option.some.injEq, Sum.inl.injEq, Sum.inr.injEq, exists_eq_left', exists_eq_left, Int.reduceLE, Int.reduceLT, Int.reduceNeg, Int.reduceAdd, Int.reduceMul, Int.reduceSub, Int.reduceToNat, inR, Nat.zero_ne_one, false_and, Nat.succ_ne_zero, reduceCtorEq, false_implies, true_implies, not_false_eq_true, not_true_eq_false, Int.reduceEq, KRE, C_Model_count, FM, r1, e30, c']
    repeat (first | refine ⟨by omega, ?_⟩ | refine ⟨fun _ _ => okt_nn (by omega), ?_⟩)
    try (first | (show _ ≤ _; omega) | (show _ < _; omega))
    repeat (first | refine ⟨by omega, ?_⟩ | refine ⟨fun _ _ => okt_nn (by omega), ?_⟩)
    try (first | (show _ ≤ _; omega) | (show _ < _; omega))
    exact rs
set_option maxHeartbeats 600000 in
set_option maxRecDepth 20000 in
theorem Mcount_6 (h : mdl M n T Y lap bnd mrg) : CallI m_Model_count [.inr 154, .inl 6] M (fun x M' => x = (cSpan T Y (-1) n).2 ∧ rsM M 0 M') := by
  have h0 : mdl (mset M 154 1 0) n T Y lap bnd mrg := mdl_fr h scr_0 scr_mdl
  have en0 := h0.1.1
  have n8 := h.1.2
  have hst := h0.2.2.1
  refine callP_of (by decide) (by decide) (Nat.le_of_ble_eq_true rfl) (wpm_of (cuts := []) (by decide) 60 _ _ _ _ ?_)
  rw [show lM m_Model_count = 2 from rfl]
  simp (maxSteps := 2000000) only [↓reduceIte, wp_eq, wpd_eq, kont_eq, STP1, STP2, STP3, STP4, STP5, konM_eq, AMK, CZ, Option.map, List.getElem?_cons_zero, List.getElem?_cons_succ, List.mem_cons, List.not_mem_nil, if_false, if_true, Nat.reduceAdd, Nat.reduceLT, Nat.reduceLeDiff, Nat.reduceEqDiff, true_and, and_true, List.length_nil, List.length_cons, or_true, true_or, or_false, false_or, Option.some.injEq, Sum.inl.injEq, Sum.inr.injEq, exists_eq_left', exists_eq_left, Int.reduceLE, Int.reduceLT, Int.reduceNeg, Int.reduceAdd, Int.reduceMul, Int.reduceSub, Int.reduceToNat, inR, Nat.zero_ne_one, false_and, Nat.succ_ne_zero, reduceCtorEq, false_implies, true_implies, not_false_eq_true, not_true_eq_false, Int.reduceEq, KRE, C_Model_count, FM, en0]
  repeat (first | refine ⟨by omega, ?_⟩ | refine ⟨fun _ _ => okt_nn (by omega), ?_⟩)
  try (first | (show _ ≤ _; omega) | (show _ < _; omega))
  refine (Model_layChronology_ok (wo := -1) h0 ⟨by omega, by omega⟩).mono (fun M1 z => ?_)
  obtain ⟨⟨r1, -, -, -⟩, e30, F1⟩ := z
  have rs := rsM_fr rsM_0 F1 (fun b j z => by unfold chrP at z; unfold scrM; omega)
  have sp := (cSpan_in (wo := -1) h.2.2.2).1
  have el : (chr T Y (-1) n).2.1 = if (cSpan T Y (-1) n).1 = -1 then 0 else (cSpan T Y (-1) n).2 - (cSpan T Y (-1) n).1 + 1 := rfl
  by_cases c : (cSpan T Y (-1) n).1 = -1
  · rw [if_pos c] at el
    rw [el] at r1
    try simp (maxSteps := 2000000) only [↓reduceIte, wp_eq, wpd_eq, kont_eq, STP1, STP2, STP3, STP4, STP5, konM_eq, AMK, CZ, Option.map, List.getElem?_cons_zero, List.getElem?_cons_succ, List.mem_cons, List.not_mem_nil, if_false, if_true, Nat.reduceAdd, Nat.reduceLT, Nat.reduceLeDiff, Nat.reduceEqDiff, true_and, and_true, List.length_nil, List.length_cons, or_true, true_or, or_false, false_or, Option.some.injEq, Sum.inl.injEq, Sum.inr.injEq, exists_eq_left', exists_eq_left, Int.reduceLE, Int.reduceLT, Int.reduceNeg, Int.reduceAdd, Int.reduceMul, Int.reduceSub, Int.reduceToNat, inR, Nat.zero_ne_one, false_and, Nat.succ_ne_zero, reduceCtorEq, false_implies, true_implies, not_false_eq_true, not_true_eq_false, Int.reduceEq, KRE, C_Model_count, FM, r1]
    repeat (first | refine ⟨by omega, ?_⟩ | refine ⟨fun _ _ => okt_nn (by omega), ?_⟩)
    try (first | (show _ ≤ _; omega) | (show _ < _; omega))
    repeat (first | refine ⟨by omega, ?_⟩ | refine ⟨fun _ _ => okt_nn (by omega), ?_⟩)
    try (first | (show _ ≤ _; omega) | (show _ < _; omega))
    exact rs
  · rw [if_neg c] at el
    have c' := eq_false (show ¬ (chr T Y (-1) n).2.1 = 0 by omega)
    try simp (maxSteps := 2000000) only [↓reduceIte, wp_eq, wpd_eq, kont_eq, STP1, STP2, STP3, STP4, STP5, konM_eq, AMK, CZ, Option.map, List.getElem?_cons_zero, List.getElem?_cons_succ, List.mem_cons, List.not_mem_nil, if_false, if_true, Nat.reduceAdd, Nat.reduceLT, Nat.reduceLeDiff, Nat.reduceEqDiff, true_and, and_true, List.length_nil, List.length_cons, or_true, true_or, or_false, false_or, Option.some.injEq, Sum.inl.injEq, Sum.inr.injEq, exists_eq_left', exists_eq_left, Int.reduceLE, Int.reduceLT, Int.reduceNeg, Int.reduceAdd, Int.reduceMul, Int.reduceSub, Int.reduceToNat, inR, Nat.zero_ne_one, false_and, Nat.succ_ne_zero, reduceCtorEq, false_implies, true_implies, not_false_eq_true, not_true_eq_false, Int.reduceEq, KRE, C_Model_count, FM, r1, e30, c']
    repeat (first | refine ⟨by omega, ?_⟩ | refine ⟨fun _ _ => okt_nn (by omega), ?_⟩)
    try (first | (show _ ≤ _; omega) | (show _ < _; omega))
    repeat (first | refine ⟨by omega, ?_⟩ | refine ⟨fun _ _ => okt_nn (by omega), ?_⟩)
    try (first | (show _ ≤ _; omega) | (show _ < _; omega))
    exact rs
set_option maxHeartbeats 600000 in
set_option maxRecDepth 20000 in
theorem Mcount_7 (h : mdl M n T Y lap bnd mrg) : CallI m_Model_count [.inr 154, .inl 7] M (fun x M' => x = (lks T lap bnd mrg n n).1 ∧ rsM M 0 M') := by
  have h0 : mdl (mset M 154 1 0) n T Y lap bnd mrg := mdl_fr h scr_0 scr_mdl
  have en0 := h0.1.1
  have n8 := h.1.2
  have hst := h0.2.2.1
  refine callP_of (by decide) (by decide) (Nat.le_of_ble_eq_true rfl) (wpm_of (cuts := []) (by decide) 60 _ _ _ _ ?_)
  rw [show lM m_Model_count = 2 from rfl]
  simp (maxSteps := 2000000) only [↓reduceIte, wp_eq, wpd_eq, kont_eq, STP1, STP2, STP3, STP4, STP5, konM_eq, AMK, CZ, Option.map, List.getElem?_cons_zero, List.getElem?_cons_succ, List.mem_cons, List.not_mem_nil, if_false, if_true, Nat.reduceAdd, Nat.reduceLT, Nat.reduceLeDiff, Nat.reduceEqDiff, true_and, and_true, List.length_nil, List.length_cons, or_true, true_or, or_false, false_or, Option.some.injEq, Sum.inl.injEq, Sum.inr.injEq, exists_eq_left', exists_eq_left, Int.reduceLE, Int.reduceLT, Int.reduceNeg, Int.reduceAdd, Int.reduceMul, Int.reduceSub, Int.reduceToNat, inR, Nat.zero_ne_one, false_and, Nat.succ_ne_zero, reduceCtorEq, false_implies, true_implies, not_false_eq_true, not_true_eq_false, Int.reduceEq, KRE, C_Model_count, FM, en0]
  repeat (first | refine ⟨by omega, ?_⟩ | refine ⟨fun _ _ => okt_nn (by omega), ?_⟩)
  try (first | (show _ ≤ _; omega) | (show _ < _; omega))
  refine (Model_tellLinks_ok h0).mono (fun M1 z => ?_)
  obtain ⟨⟨l1, l2, l3, l4, l5, l6, l7⟩, F1⟩ := z
  have rs := rsM_fr rsM_0 F1 (fun b j z => by unfold linkP at z; unfold scrM; omega)
  try simp (maxSteps := 2000000) only [↓reduceIte, wp_eq, wpd_eq, kont_eq, STP1, STP2, STP3, STP4, STP5, konM_eq, AMK, CZ, Option.map, List.getElem?_cons_zero, List.getElem?_cons_succ, List.mem_cons, List.not_mem_nil, if_false, if_true, Nat.reduceAdd, Nat.reduceLT, Nat.reduceLeDiff, Nat.reduceEqDiff, true_and, and_true, List.length_nil, List.length_cons, or_true, true_or, or_false, false_or, Option.some.injEq, Sum.inl.injEq, Sum.inr.injEq, exists_eq_left', exists_eq_left, Int.reduceLE, Int.reduceLT, Int.reduceNeg, Int.reduceAdd, Int.reduceMul, Int.reduceSub, Int.reduceToNat, inR, Nat.zero_ne_one, false_and, Nat.succ_ne_zero, reduceCtorEq, false_implies, true_implies, not_false_eq_true, not_true_eq_false, Int.reduceEq, KRE, C_Model_count, FM, l4]
  exact rs
set_option maxHeartbeats 600000 in
set_option maxRecDepth 20000 in
theorem Mcount_8 (h : mdl M n T Y lap bnd mrg) : CallI m_Model_count [.inr 154, .inl 8] M (fun x M' => x = sumN (fun t => if (pcN (lks T lap bnd mrg n n).2 (lks T lap bnd mrg n n).1).1 t = t then 1 else 0) n ∧ rsM M 0 M') := by
  have h0 : mdl (mset M 154 1 0) n T Y lap bnd mrg := mdl_fr h scr_0 scr_mdl
  have en0 := h0.1.1
  have n8 := h.1.2
  have hst := h0.2.2.1
  refine callP_of (by decide) (by decide) (Nat.le_of_ble_eq_true rfl) (wpm_of (cuts := []) (by decide) 60 _ _ _ _ ?_)
  rw [show lM m_Model_count = 2 from rfl]
  simp (maxSteps := 2000000) only [↓reduceIte, wp_eq, wpd_eq, kont_eq, STP1, STP2, STP3, STP4, STP5, konM_eq, AMK, CZ, Option.map, List.getElem?_cons_zero, List.getElem?_cons_succ, List.mem_cons, List.not_mem_nil, if_false, if_true, Nat.reduceAdd, Nat.reduceLT, Nat.reduceLeDiff, Nat.reduceEqDiff, true_and, and_true, List.length_nil, List.length_cons, or_true, true_or, or_false, false_or, Option.some.injEq, Sum.inl.injEq, Sum.inr.injEq, exists_eq_left', exists_eq_left, Int.reduceLE, Int.reduceLT, Int.reduceNeg, Int.reduceAdd, Int.reduceMul, Int.reduceSub, Int.reduceToNat, inR, Nat.zero_ne_one, false_and, Nat.succ_ne_zero, reduceCtorEq, false_implies, true_implies, not_false_eq_true, not_true_eq_false, Int.reduceEq, KRE, C_Model_count, FM, en0]
  repeat (first | refine ⟨by omega, ?_⟩ | refine ⟨fun _ _ => okt_nn (by omega), ?_⟩)
  try (first | (show _ ≤ _; omega) | (show _ < _; omega))
  refine (Model_pieces_ok h0).mono (fun x M1 z => ?_)
  exact ⟨z.1, rsM_fr rsM_0 z.2 (fun b j z => by unfold linkP at z; unfold scrM; omega)⟩
set_option maxHeartbeats 600000 in
set_option maxRecDepth 20000 in
theorem Mcount_9 (h : mdl M n T Y lap bnd mrg) : CallI m_Model_count [.inr 154, .inl 9] M (fun x M' => x = sumN (agF (lks T lap bnd mrg n n) (pcN (lks T lap bnd mrg n n).2 (lks T lap bnd mrg n n).1).2) (lks T lap bnd mrg n n).1 ∧ rsM M 0 M') := by
  have h0 : mdl (mset M 154 1 0) n T Y lap bnd mrg := mdl_fr h scr_0 scr_mdl
  have en0 := h0.1.1
  have n8 := h.1.2
  have hst := h0.2.2.1
  refine callP_of (by decide) (by decide) (Nat.le_of_ble_eq_true rfl) (wpm_of (cuts := []) (by decide) 60 _ _ _ _ ?_)
  rw [show lM m_Model_count = 2 from rfl]
  simp (maxSteps := 2000000) only [↓reduceIte, wp_eq, wpd_eq, kont_eq, STP1, STP2, STP3, STP4, STP5, konM_eq, AMK, CZ, Option.map, List.getElem?_cons_zero, List.getElem?_cons_succ, List.mem_cons, List.not_mem_nil, if_false, if_true, Nat.reduceAdd, Nat.reduceLT, Nat.reduceLeDiff, Nat.reduceEqDiff, true_and, and_true, List.length_nil, List.length_cons, or_true, true_or, or_false, false_or, Option.some.injEq, Sum.inl.injEq, Sum.inr.injEq, exists_eq_left', exists_eq_left, Int.reduceLE, Int.reduceLT, Int.reduceNeg, Int.reduceAdd, Int.reduceMul, Int.reduceSub, Int.reduceToNat, inR, Nat.zero_ne_one, false_and, Nat.succ_ne_zero, reduceCtorEq, false_implies, true_implies, not_false_eq_true, not_true_eq_false, Int.reduceEq, KRE, C_Model_count, FM, en0]
  repeat (first | refine ⟨by omega, ?_⟩ | refine ⟨fun _ _ => okt_nn (by omega), ?_⟩)
  try (first | (show _ ≤ _; omega) | (show _ < _; omega))
  refine (Model_against_ok h0).mono (fun x M1 z => ?_)
  exact ⟨z.1, rsM_fr rsM_0 z.2 (fun b j z => by unfold linkP at z; unfold scrM; omega)⟩
set_option maxHeartbeats 600000 in
set_option maxRecDepth 20000 in
theorem Mcount_10 (h : mdl M n T Y lap bnd mrg) : CallI m_Model_count [.inr 154, .inl 10] M (fun x M' => x = (if fMaxF (fun t => Y t ≠ -1) (felS T Y (fun t => M 158 (30 * t + 1))) n ≤ fMinF (fun t => Y t ≠ -1) (felS T Y (fun t => M 158 (30 * t + 2))) n then fMaxF (fun t => Y t ≠ -1) (felS T Y (fun t => M 158 (30 * t + 1))) n else -1) ∧ rsM M 0 M') := by
  have h0 : mdl (mset M 154 1 0) n T Y lap bnd mrg := mdl_fr h scr_0 scr_mdl
  have en0 := h0.1.1
  have n8 := h.1.2
  have hst := h0.2.2.1
  refine callP_of (by decide) (by decide) (Nat.le_of_ble_eq_true rfl) (wpm_of (cuts := []) (by decide) 60 _ _ _ _ ?_)
  rw [show lM m_Model_count = 2 from rfl]
  simp (maxSteps := 2000000) only [↓reduceIte, wp_eq, wpd_eq, kont_eq, STP1, STP2, STP3, STP4, STP5, konM_eq, AMK, CZ, Option.map, List.getElem?_cons_zero, List.getElem?_cons_succ, List.mem_cons, List.not_mem_nil, if_false, if_true, Nat.reduceAdd, Nat.reduceLT, Nat.reduceLeDiff, Nat.reduceEqDiff, true_and, and_true, List.length_nil, List.length_cons, or_true, true_or, or_false, false_or, Option.some.injEq, Sum.inl.injEq, Sum.inr.injEq, exists_eq_left', exists_eq_left, Int.reduceLE, Int.reduceLT, Int.reduceNeg, Int.reduceAdd, Int.reduceMul, Int.reduceSub, Int.reduceToNat, inR, Nat.zero_ne_one, false_and, Nat.succ_ne_zero, reduceCtorEq, false_implies, true_implies, not_false_eq_true, not_true_eq_false, Int.reduceEq, KRE, C_Model_count, FM, en0]
  repeat (first | refine ⟨by omega, ?_⟩ | refine ⟨fun _ _ => okt_nn (by omega), ?_⟩)
  try (first | (show _ ≤ _; omega) | (show _ < _; omega))
  refine (Model_built_ok (b := 0) h0 (by omega)).eq ?_
  exact ⟨rfl, rsM_0⟩
set_option maxHeartbeats 600000 in
set_option maxRecDepth 20000 in
theorem Mcount_11 (h : mdl M n T Y lap bnd mrg) : CallI m_Model_count [.inr 154, .inl 11] M (fun x M' => x = (if fMaxF (fun t => Y t ≠ -1) (felS T Y (fun t => M 158 (30 * t + 1))) n ≤ fMinF (fun t => Y t ≠ -1) (felS T Y (fun t => M 158 (30 * t + 2))) n then fMinF (fun t => Y t ≠ -1) (felS T Y (fun t => M 158 (30 * t + 2))) n else -1) ∧ rsM M 0 M') := by
  have h0 : mdl (mset M 154 1 0) n T Y lap bnd mrg := mdl_fr h scr_0 scr_mdl
  have en0 := h0.1.1
  have n8 := h.1.2
  have hst := h0.2.2.1
  refine callP_of (by decide) (by decide) (Nat.le_of_ble_eq_true rfl) (wpm_of (cuts := []) (by decide) 60 _ _ _ _ ?_)
  rw [show lM m_Model_count = 2 from rfl]
  simp (maxSteps := 2000000) only [↓reduceIte, wp_eq, wpd_eq, kont_eq, STP1, STP2, STP3, STP4, STP5, konM_eq, AMK, CZ, Option.map, List.getElem?_cons_zero, List.getElem?_cons_succ, List.mem_cons, List.not_mem_nil, if_false, if_true, Nat.reduceAdd, Nat.reduceLT, Nat.reduceLeDiff, Nat.reduceEqDiff, true_and, and_true, List.length_nil, List.length_cons, or_true, true_or, or_false, false_or, Option.some.injEq, Sum.inl.injEq, Sum.inr.injEq, exists_eq_left', exists_eq_left, Int.reduceLE, Int.reduceLT, Int.reduceNeg, Int.reduceAdd, Int.reduceMul, Int.reduceSub, Int.reduceToNat, inR, Nat.zero_ne_one, false_and, Nat.succ_ne_zero, reduceCtorEq, false_implies, true_implies, not_false_eq_true, not_true_eq_false, Int.reduceEq, KRE, C_Model_count, FM, en0]
  repeat (first | refine ⟨by omega, ?_⟩ | refine ⟨fun _ _ => okt_nn (by omega), ?_⟩)
  try (first | (show _ ≤ _; omega) | (show _ < _; omega))
  refine (Model_built_ok (b := 1) h0 (by omega)).eq ?_
  exact ⟨rfl, rsM_0⟩
set_option maxHeartbeats 600000 in
set_option maxRecDepth 20000 in
theorem Mcount_12 (h : mdl M n T Y lap bnd mrg) : CallI m_Model_count [.inr 154, .inl 12] M (fun x M' => x = fMaxF (fun t => Y t ≠ -1) (felS T Y (fun t => M 158 (30 * t + 1))) n ∧ rsM M 0 M') := by
  have h0 : mdl (mset M 154 1 0) n T Y lap bnd mrg := mdl_fr h scr_0 scr_mdl
  have en0 := h0.1.1
  have n8 := h.1.2
  have hst := h0.2.2.1
  have E := Model_edgeOf_ok (S := fBit (fun t => Y t ≠ -1) n) h0
  rw [fMaxF_congr (q := fun t => Y t ≠ -1) (fun t ht => dSet_bt n8 ht) (fun t ht => rfl)] at E
  refine callP_of (by decide) (by decide) (Nat.le_of_ble_eq_true rfl) (wpm_of (cuts := []) (by decide) 60 _ _ _ _ ?_)
  rw [show lM m_Model_count = 2 from rfl]
  simp (maxSteps := 2000000) only [↓reduceIte, wp_eq, wpd_eq, kont_eq, STP1, STP2, STP3, STP4, STP5, konM_eq, AMK, CZ, Option.map, List.getElem?_cons_zero, List.getElem?_cons_succ, List.mem_cons, List.not_mem_nil, if_false, if_true, Nat.reduceAdd, Nat.reduceLT, Nat.reduceLeDiff, Nat.reduceEqDiff, true_and, and_true, List.length_nil, List.length_cons, or_true, true_or, or_false, false_or, Option.some.injEq, Sum.inl.injEq, Sum.inr.injEq, exists_eq_left', exists_eq_left, Int.reduceLE, Int.reduceLT, Int.reduceNeg, Int.reduceAdd, Int.reduceMul, Int.reduceSub, Int.reduceToNat, inR, Nat.zero_ne_one, false_and, Nat.succ_ne_zero, reduceCtorEq, false_implies, true_implies, not_false_eq_true, not_true_eq_false, Int.reduceEq, KRE, C_Model_count, FM, en0]
  repeat (first | refine ⟨by omega, ?_⟩ | refine ⟨fun _ _ => okt_nn (by omega), ?_⟩)
  try (first | (show _ ≤ _; omega) | (show _ < _; omega))
  refine (Model_datedSet_ok h0).eq ?_
  try simp (maxSteps := 2000000) only [↓reduceIte, wp_eq, wpd_eq, kont_eq, STP1, STP2, STP3, STP4, STP5, konM_eq, AMK, CZ, Option.map, List.getElem?_cons_zero, List.getElem?_cons_succ, List.mem_cons, List.not_mem_nil, if_false, if_true, Nat.reduceAdd, Nat.reduceLT, Nat.reduceLeDiff, Nat.reduceEqDiff, true_and, and_true, List.length_nil, List.length_cons, or_true, true_or, or_false, false_or, Option.some.injEq, Sum.inl.injEq, Sum.inr.injEq, exists_eq_left', exists_eq_left, Int.reduceLE, Int.reduceLT, Int.reduceNeg, Int.reduceAdd, Int.reduceMul, Int.reduceSub, Int.reduceToNat, inR, Nat.zero_ne_one, false_and, Nat.succ_ne_zero, reduceCtorEq, false_implies, true_implies, not_false_eq_true, not_true_eq_false, Int.reduceEq, KRE, C_Model_count]
  exact E.eq ⟨rfl, rsM_0⟩
set_option maxHeartbeats 600000 in
set_option maxRecDepth 20000 in
theorem Mcount_13 (h : mdl M n T Y lap bnd mrg) : CallI m_Model_count [.inr 154, .inl 13] M (fun x M' => x = cntP T Y n 1000 ∧ rsM M 0 M') := by
  have h0 : mdl (mset M 154 1 0) n T Y lap bnd mrg := mdl_fr h scr_0 scr_mdl
  have en0 := h0.1.1
  have n8 := h.1.2
  have hst := h0.2.2.1
  refine callP_of (by decide) (by decide) (Nat.le_of_ble_eq_true rfl) (wpm_of (cuts := []) (by decide) 60 _ _ _ _ ?_)
  rw [show lM m_Model_count = 2 from rfl]
  simp (maxSteps := 2000000) only [↓reduceIte, wp_eq, wpd_eq, kont_eq, STP1, STP2, STP3, STP4, STP5, konM_eq, AMK, CZ, Option.map, List.getElem?_cons_zero, List.getElem?_cons_succ, List.mem_cons, List.not_mem_nil, if_false, if_true, Nat.reduceAdd, Nat.reduceLT, Nat.reduceLeDiff, Nat.reduceEqDiff, true_and, and_true, List.length_nil, List.length_cons, or_true, true_or, or_false, false_or, Option.some.injEq, Sum.inl.injEq, Sum.inr.injEq, exists_eq_left', exists_eq_left, Int.reduceLE, Int.reduceLT, Int.reduceNeg, Int.reduceAdd, Int.reduceMul, Int.reduceSub, Int.reduceToNat, inR, Nat.zero_ne_one, false_and, Nat.succ_ne_zero, reduceCtorEq, false_implies, true_implies, not_false_eq_true, not_true_eq_false, Int.reduceEq, KRE, C_Model_count, FM, en0]
  repeat (first | refine ⟨by omega, ?_⟩ | refine ⟨fun _ _ => okt_nn (by omega), ?_⟩)
  try (first | (show _ ≤ _; omega) | (show _ < _; omega))
  exact (Model_pointers_ok h0).eq ⟨rfl, rsM_0⟩
set_option maxHeartbeats 600000 in
set_option maxRecDepth 20000 in
theorem Mcount_14 (h : mdl M n T Y lap bnd mrg) : CallI m_Model_count [.inr 154, .inl 14] M (fun x M' => x = (oddS (fitS T Y n) Y n).1 ∧ rsM M 0 M') := by
  have h0 : mdl (mset M 154 1 0) n T Y lap bnd mrg := mdl_fr h scr_0 scr_mdl
  have en0 := h0.1.1
  have n8 := h.1.2
  have hst := h0.2.2.1
  refine callP_of (by decide) (by decide) (Nat.le_of_ble_eq_true rfl) (wpm_of (cuts := []) (by decide) 60 _ _ _ _ ?_)
  rw [show lM m_Model_count = 2 from rfl]
  simp (maxSteps := 2000000) only [↓reduceIte, wp_eq, wpd_eq, kont_eq, STP1, STP2, STP3, STP4, STP5, konM_eq, AMK, CZ, Option.map, List.getElem?_cons_zero, List.getElem?_cons_succ, List.mem_cons, List.not_mem_nil, if_false, if_true, Nat.reduceAdd, Nat.reduceLT, Nat.reduceLeDiff, Nat.reduceEqDiff, true_and, and_true, List.length_nil, List.length_cons, or_true, true_or, or_false, false_or, Option.some.injEq, Sum.inl.injEq, Sum.inr.injEq, exists_eq_left', exists_eq_left, Int.reduceLE, Int.reduceLT, Int.reduceNeg, Int.reduceAdd, Int.reduceMul, Int.reduceSub, Int.reduceToNat, inR, Nat.zero_ne_one, false_and, Nat.succ_ne_zero, reduceCtorEq, false_implies, true_implies, not_false_eq_true, not_true_eq_false, Int.reduceEq, KRE, C_Model_count, FM, en0]
  repeat (first | refine ⟨by omega, ?_⟩ | refine ⟨fun _ _ => okt_nn (by omega), ?_⟩)
  try (first | (show _ ≤ _; omega) | (show _ < _; omega))
  refine (Model_odd_ok h0).mono (fun x M1 z => ?_)
  exact ⟨z.1, rsM_fr rsM_0 z.2 (fun b j z => by unfold fitP at z; unfold scrM; omega)⟩
set_option maxHeartbeats 600000 in
set_option maxRecDepth 20000 in
theorem Mcount_15 (h : mdl M n T Y lap bnd mrg) {c : Nat} (hc : gwC T lap bnd mrg n Y c) : CallI m_Model_count [.inr 154, .inl 15] M (fun x M' => x = c ∧ rsM M 0 M') := by
  have h0 : mdl (mset M 154 1 0) n T Y lap bnd mrg := mdl_fr h scr_0 scr_mdl
  have en0 := h0.1.1
  have n8 := h.1.2
  have hst := h0.2.2.1
  refine callP_of (by decide) (by decide) (Nat.le_of_ble_eq_true rfl) (wpm_of (cuts := []) (by decide) 60 _ _ _ _ ?_)
  rw [show lM m_Model_count = 2 from rfl]
  simp (maxSteps := 2000000) only [↓reduceIte, wp_eq, wpd_eq, kont_eq, STP1, STP2, STP3, STP4, STP5, konM_eq, AMK, CZ, Option.map, List.getElem?_cons_zero, List.getElem?_cons_succ, List.mem_cons, List.not_mem_nil, if_false, if_true, Nat.reduceAdd, Nat.reduceLT, Nat.reduceLeDiff, Nat.reduceEqDiff, true_and, and_true, List.length_nil, List.length_cons, or_true, true_or, or_false, false_or, Option.some.injEq, Sum.inl.injEq, Sum.inr.injEq, exists_eq_left', exists_eq_left, Int.reduceLE, Int.reduceLT, Int.reduceNeg, Int.reduceAdd, Int.reduceMul, Int.reduceSub, Int.reduceToNat, inR, Nat.zero_ne_one, false_and, Nat.succ_ne_zero, reduceCtorEq, false_implies, true_implies, not_false_eq_true, not_true_eq_false, Int.reduceEq, KRE, C_Model_count, FM, en0]
  repeat (first | refine ⟨by omega, ?_⟩ | refine ⟨fun _ _ => okt_nn (by omega), ?_⟩)
  try (first | (show _ ≤ _; omega) | (show _ < _; omega))
  refine (Model_tellGrown_ok h0).mono (fun M1 z => ?_)
  obtain ⟨d, -, g1, g2, F1⟩ := z
  obtain rfl := gwC_u g1 hc
  have rs := rsM_fr rsM_0 F1 (fun b j z => by unfold grownP growP at z; unfold scrM; omega)
  have g3 := g2.1
  try simp (maxSteps := 2000000) only [↓reduceIte, wp_eq, wpd_eq, kont_eq, STP1, STP2, STP3, STP4, STP5, konM_eq, AMK, CZ, Option.map, List.getElem?_cons_zero, List.getElem?_cons_succ, List.mem_cons, List.not_mem_nil, if_false, if_true, Nat.reduceAdd, Nat.reduceLT, Nat.reduceLeDiff, Nat.reduceEqDiff, true_and, and_true, List.length_nil, List.length_cons, or_true, true_or, or_false, false_or, Option.some.injEq, Sum.inl.injEq, Sum.inr.injEq, exists_eq_left', exists_eq_left, Int.reduceLE, Int.reduceLT, Int.reduceNeg, Int.reduceAdd, Int.reduceMul, Int.reduceSub, Int.reduceToNat, inR, Nat.zero_ne_one, false_and, Nat.succ_ne_zero, reduceCtorEq, false_implies, true_implies, not_false_eq_true, not_true_eq_false, Int.reduceEq, KRE, C_Model_count, FM, g3]
  exact rs
set_option maxHeartbeats 600000 in
set_option maxRecDepth 20000 in
theorem Mcount_16 (h : mdl M n T Y lap bnd mrg) : CallI m_Model_count [.inr 154, .inl 16] M (fun x M' => x = M 154 58 ∧ rsM M 0 M') := by
  have h0 : mdl (mset M 154 1 0) n T Y lap bnd mrg := mdl_fr h scr_0 scr_mdl
  have en0 := h0.1.1
  have n8 := h.1.2
  have hst := h0.2.2.1
  have e1 : mset M 154 1 0 154 58 = M 154 58 := by simp [mset]
  refine callP_of (by decide) (by decide) (Nat.le_of_ble_eq_true rfl) (wpm_of (cuts := []) (by decide) 60 _ _ _ _ ?_)
  rw [show lM m_Model_count = 2 from rfl]
  simp (maxSteps := 2000000) only [↓reduceIte, wp_eq, wpd_eq, kont_eq, STP1, STP2, STP3, STP4, STP5, konM_eq, AMK, CZ, Option.map, List.getElem?_cons_zero, List.getElem?_cons_succ, List.mem_cons, List.not_mem_nil, if_false, if_true, Nat.reduceAdd, Nat.reduceLT, Nat.reduceLeDiff, Nat.reduceEqDiff, true_and, and_true, List.length_nil, List.length_cons, or_true, true_or, or_false, false_or, Option.some.injEq, Sum.inl.injEq, Sum.inr.injEq, exists_eq_left', exists_eq_left, Int.reduceLE, Int.reduceLT, Int.reduceNeg, Int.reduceAdd, Int.reduceMul, Int.reduceSub, Int.reduceToNat, inR, Nat.zero_ne_one, false_and, Nat.succ_ne_zero, reduceCtorEq, false_implies, true_implies, not_false_eq_true, not_true_eq_false, Int.reduceEq, KRE, C_Model_count, FM, en0, e1]
  repeat (first | refine ⟨by omega, ?_⟩ | refine ⟨fun _ _ => okt_nn (by omega), ?_⟩)
  try (first | (show _ ≤ _; omega) | (show _ < _; omega))
  exact rsM_0
set_option maxHeartbeats 600000 in
set_option maxRecDepth 20000 in
theorem Mcount_17 (h : mdl M n T Y lap bnd mrg) : CallI m_Model_count [.inr 154, .inl 17] M (fun x M' => x = M 154 60 ∧ rsM M 0 M') := by
  have h0 : mdl (mset M 154 1 0) n T Y lap bnd mrg := mdl_fr h scr_0 scr_mdl
  have en0 := h0.1.1
  have n8 := h.1.2
  have hst := h0.2.2.1
  have e1 : mset M 154 1 0 154 60 = M 154 60 := by simp [mset]
  refine callP_of (by decide) (by decide) (Nat.le_of_ble_eq_true rfl) (wpm_of (cuts := []) (by decide) 60 _ _ _ _ ?_)
  rw [show lM m_Model_count = 2 from rfl]
  simp (maxSteps := 2000000) only [↓reduceIte, wp_eq, wpd_eq, kont_eq, STP1, STP2, STP3, STP4, STP5, konM_eq, AMK, CZ, Option.map, List.getElem?_cons_zero, List.getElem?_cons_succ, List.mem_cons, List.not_mem_nil, if_false, if_true, Nat.reduceAdd, Nat.reduceLT, Nat.reduceLeDiff, Nat.reduceEqDiff, true_and, and_true, List.length_nil, List.length_cons, or_true, true_or, or_false, false_or, Option.some.injEq, Sum.inl.injEq, Sum.inr.injEq, exists_eq_left', exists_eq_left, Int.reduceLE, Int.reduceLT, Int.reduceNeg, Int.reduceAdd, Int.reduceMul, Int.reduceSub, Int.reduceToNat, inR, Nat.zero_ne_one, false_and, Nat.succ_ne_zero, reduceCtorEq, false_implies, true_implies, not_false_eq_true, not_true_eq_false, Int.reduceEq, KRE, C_Model_count, FM, en0, e1]
  repeat (first | refine ⟨by omega, ?_⟩ | refine ⟨fun _ _ => okt_nn (by omega), ?_⟩)
  try (first | (show _ ≤ _; omega) | (show _ < _; omega))
  exact rsM_0
set_option maxHeartbeats 600000 in
set_option maxRecDepth 20000 in
theorem Mcount_18 (h : mdl M n T Y lap bnd mrg) : CallI m_Model_count [.inr 154, .inl 18] M (fun x M' => x = M 154 8 ∧ rsM M 0 M') := by
  have h0 : mdl (mset M 154 1 0) n T Y lap bnd mrg := mdl_fr h scr_0 scr_mdl
  have en0 := h0.1.1
  have n8 := h.1.2
  have hst := h0.2.2.1
  have e1 : mset M 154 1 0 154 8 = M 154 8 := by simp [mset]
  refine callP_of (by decide) (by decide) (Nat.le_of_ble_eq_true rfl) (wpm_of (cuts := []) (by decide) 60 _ _ _ _ ?_)
  rw [show lM m_Model_count = 2 from rfl]
  simp (maxSteps := 2000000) only [↓reduceIte, wp_eq, wpd_eq, kont_eq, STP1, STP2, STP3, STP4, STP5, konM_eq, AMK, CZ, Option.map, List.getElem?_cons_zero, List.getElem?_cons_succ, List.mem_cons, List.not_mem_nil, if_false, if_true, Nat.reduceAdd, Nat.reduceLT, Nat.reduceLeDiff, Nat.reduceEqDiff, true_and, and_true, List.length_nil, List.length_cons, or_true, true_or, or_false, false_or, Option.some.injEq, Sum.inl.injEq, Sum.inr.injEq, exists_eq_left', exists_eq_left, Int.reduceLE, Int.reduceLT, Int.reduceNeg, Int.reduceAdd, Int.reduceMul, Int.reduceSub, Int.reduceToNat, inR, Nat.zero_ne_one, false_and, Nat.succ_ne_zero, reduceCtorEq, false_implies, true_implies, not_false_eq_true, not_true_eq_false, Int.reduceEq, KRE, C_Model_count, FM, en0, e1]
  repeat (first | refine ⟨by omega, ?_⟩ | refine ⟨fun _ _ => okt_nn (by omega), ?_⟩)
  try (first | (show _ ≤ _; omega) | (show _ < _; omega))
  exact rsM_0
set_option maxHeartbeats 600000 in
set_option maxRecDepth 20000 in
theorem Mcount_19 (h : mdl M n T Y lap bnd mrg) : CallI m_Model_count [.inr 154, .inl 19] M (fun x M' => x = M 160 0 ∧ rsM M 0 M') := by
  have h0 : mdl (mset M 154 1 0) n T Y lap bnd mrg := mdl_fr h scr_0 scr_mdl
  have en0 := h0.1.1
  have n8 := h.1.2
  have hst := h0.2.2.1
  have e1 : mset M 154 1 0 160 0 = M 160 0 := by simp [mset]
  refine callP_of (by decide) (by decide) (Nat.le_of_ble_eq_true rfl) (wpm_of (cuts := []) (by decide) 60 _ _ _ _ ?_)
  rw [show lM m_Model_count = 2 from rfl]
  simp (maxSteps := 2000000) only [↓reduceIte, wp_eq, wpd_eq, kont_eq, STP1, STP2, STP3, STP4, STP5, konM_eq, AMK, CZ, Option.map, List.getElem?_cons_zero, List.getElem?_cons_succ, List.mem_cons, List.not_mem_nil, if_false, if_true, Nat.reduceAdd, Nat.reduceLT, Nat.reduceLeDiff, Nat.reduceEqDiff, true_and, and_true, List.length_nil, List.length_cons, or_true, true_or, or_false, false_or, Option.some.injEq, Sum.inl.injEq, Sum.inr.injEq, exists_eq_left', exists_eq_left, Int.reduceLE, Int.reduceLT, Int.reduceNeg, Int.reduceAdd, Int.reduceMul, Int.reduceSub, Int.reduceToNat, inR, Nat.zero_ne_one, false_and, Nat.succ_ne_zero, reduceCtorEq, false_implies, true_implies, not_false_eq_true, not_true_eq_false, Int.reduceEq, KRE, C_Model_count, FM, en0, e1]
  repeat (first | refine ⟨by omega, ?_⟩ | refine ⟨fun _ _ => okt_nn (by omega), ?_⟩)
  try (first | (show _ ≤ _; omega) | (show _ < _; omega))
  exact rsM_0
set_option maxHeartbeats 600000 in
set_option maxRecDepth 20000 in
theorem Mcount_20 (h : mdl M n T Y lap bnd mrg) : CallI m_Model_count [.inr 154, .inl 20] M (fun x M' => x = M 160 1 ∧ rsM M 0 M') := by
  have h0 : mdl (mset M 154 1 0) n T Y lap bnd mrg := mdl_fr h scr_0 scr_mdl
  have en0 := h0.1.1
  have n8 := h.1.2
  have hst := h0.2.2.1
  have e1 : mset M 154 1 0 160 1 = M 160 1 := by simp [mset]
  refine callP_of (by decide) (by decide) (Nat.le_of_ble_eq_true rfl) (wpm_of (cuts := []) (by decide) 60 _ _ _ _ ?_)
  rw [show lM m_Model_count = 2 from rfl]
  simp (maxSteps := 2000000) only [↓reduceIte, wp_eq, wpd_eq, kont_eq, STP1, STP2, STP3, STP4, STP5, konM_eq, AMK, CZ, Option.map, List.getElem?_cons_zero, List.getElem?_cons_succ, List.mem_cons, List.not_mem_nil, if_false, if_true, Nat.reduceAdd, Nat.reduceLT, Nat.reduceLeDiff, Nat.reduceEqDiff, true_and, and_true, List.length_nil, List.length_cons, or_true, true_or, or_false, false_or, Option.some.injEq, Sum.inl.injEq, Sum.inr.injEq, exists_eq_left', exists_eq_left, Int.reduceLE, Int.reduceLT, Int.reduceNeg, Int.reduceAdd, Int.reduceMul, Int.reduceSub, Int.reduceToNat, inR, Nat.zero_ne_one, false_and, Nat.succ_ne_zero, reduceCtorEq, false_implies, true_implies, not_false_eq_true, not_true_eq_false, Int.reduceEq, KRE, C_Model_count, FM, en0, e1]
  repeat (first | refine ⟨by omega, ?_⟩ | refine ⟨fun _ _ => okt_nn (by omega), ?_⟩)
  try (first | (show _ ≤ _; omega) | (show _ < _; omega))
  exact rsM_0
set_option maxHeartbeats 600000 in
set_option maxRecDepth 20000 in
theorem Mcount_21 (h : mdl M n T Y lap bnd mrg) : CallI m_Model_count [.inr 154, .inl 21] M (fun x M' => x = M 160 2 ∧ rsM M 0 M') := by
  have h0 : mdl (mset M 154 1 0) n T Y lap bnd mrg := mdl_fr h scr_0 scr_mdl
  have en0 := h0.1.1
  have n8 := h.1.2
  have hst := h0.2.2.1
  have e1 : mset M 154 1 0 160 2 = M 160 2 := by simp [mset]
  refine callP_of (by decide) (by decide) (Nat.le_of_ble_eq_true rfl) (wpm_of (cuts := []) (by decide) 60 _ _ _ _ ?_)
  rw [show lM m_Model_count = 2 from rfl]
  simp (maxSteps := 2000000) only [↓reduceIte, wp_eq, wpd_eq, kont_eq, STP1, STP2, STP3, STP4, STP5, konM_eq, AMK, CZ, Option.map, List.getElem?_cons_zero, List.getElem?_cons_succ, List.mem_cons, List.not_mem_nil, if_false, if_true, Nat.reduceAdd, Nat.reduceLT, Nat.reduceLeDiff, Nat.reduceEqDiff, true_and, and_true, List.length_nil, List.length_cons, or_true, true_or, or_false, false_or, Option.some.injEq, Sum.inl.injEq, Sum.inr.injEq, exists_eq_left', exists_eq_left, Int.reduceLE, Int.reduceLT, Int.reduceNeg, Int.reduceAdd, Int.reduceMul, Int.reduceSub, Int.reduceToNat, inR, Nat.zero_ne_one, false_and, Nat.succ_ne_zero, reduceCtorEq, false_implies, true_implies, not_false_eq_true, not_true_eq_false, Int.reduceEq, KRE, C_Model_count, FM, en0, e1]
  repeat (first | refine ⟨by omega, ?_⟩ | refine ⟨fun _ _ => okt_nn (by omega), ?_⟩)
  try (first | (show _ ≤ _; omega) | (show _ < _; omega))
  exact rsM_0
set_option maxHeartbeats 600000 in
set_option maxRecDepth 20000 in
theorem Mcount_x {w : Int} (hw : inR w) (hx : w < 0 ∨ 21 < w) : CallI m_Model_count [.inr 154, .inl w] M (fun x M' => rsM M 1 M') := by
  simp only [inR] at hw
  refine callP_of (by decide) (by decide) (Nat.le_of_ble_eq_true rfl) (wpm_of (cuts := []) (by decide) 60 _ _ _ _ ?_)
  rw [show lM m_Model_count = 2 from rfl]
  simp (maxSteps := 2000000) only [↓reduceIte, wp_eq, wpd_eq, kont_eq, STP1, STP2, STP3, STP4, STP5, konM_eq, AMK, CZ, Option.map, List.getElem?_cons_zero, List.getElem?_cons_succ, List.mem_cons, List.not_mem_nil, if_false, if_true, Nat.reduceAdd, Nat.reduceLT, Nat.reduceLeDiff, Nat.reduceEqDiff, true_and, and_true, List.length_nil, List.length_cons, or_true, true_or, or_false, false_or, Option.some.injEq, Sum.inl.injEq, Sum.inr.injEq, exists_eq_left', exists_eq_left, Int.reduceLE, Int.reduceLT, Int.reduceNeg, Int.reduceAdd, Int.reduceMul, Int.reduceSub, Int.reduceToNat, inR, Nat.zero_ne_one, false_and, Nat.succ_ne_zero, reduceCtorEq, false_implies, true_implies, not_false_eq_true, not_true_eq_false, Int.reduceEq, KRE, C_Model_count, FM]
  repeat (first | refine ⟨by omega, ?_⟩ | refine ⟨fun _ _ => okt_nn (by omega), ?_⟩)
  try (first | (show _ ≤ _; omega) | (show _ < _; omega))
  have F := (Model_fail_ok (k := 1) (M := mset M 154 1 0)).eq (G := fun x M' => rsM M 1 M') (rsM_fail rsM_0)
  refine ⟨fun _ => F, ?_⟩
  repeat (first | refine ⟨fun z => absurd z (by omega), ?_⟩ | exact fun z => absurd z (by omega))
end MODA

