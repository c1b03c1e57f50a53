/-! THE CLASS READS, 3: the clauses (printed by wip/whole/g6b.py). -/
theorem vT_up {f : Nat → Int} {t tt c : Nat} {v : Int} (hc : c = 3 ∨ c = 4) (hl : f (30 * t) ≤ 24) : vT (updI f (30 * tt + c) v) t = vT f t := by
  have e : ∀ k, k < 30 → k ≠ c → updI f (30 * tt + c) v (30 * t + k) = f (30 * t + k) := fun k hk hn => if_neg (by omega)
  have e0 := e 0 (by omega) (by omega)
  have e5 := e 5 (by omega) (by omega)
  simp only [Nat.add_zero] at e0
  unfold vT mRw
  rw [e0, e5]
  refine Prod.ext (funext fun j => ?_) rfl
  show (if (j : Int) < f (30 * t) then updI f (30 * tt + c) v (30 * t + 6 + j) else 0) = if (j : Int) < f (30 * t) then f (30 * t + 6 + j) else 0
  split
  · have := e (6 + j) (by omega) (by omega)
    rw [← Nat.add_assoc] at this
    exact this
  · rfl
theorem drC_yr {M : Mm} {f r : Nat → Int} {kb hb kb' v : Int} {tt : Nat} (D : drC M f r kb hb) (hr : 0 ≤ r 0 ∧ r 0 ≤ 8) (ht : tt < (r 0).toNat) (hv : 0 ≤ v ∧ v ≤ 900) : drC (mset (mset M 1 10 kb') 8 tt v) (updI f (30 * tt + 4) v) r kb' hb := by
  obtain ⟨d1, d2, d3, d4, d5, d6⟩ := D
  have e : ∀ b j, ¬ (b = 1 ∧ j = 10) → ¬ (b = 8 ∧ j = tt) → mset (mset M 1 10 kb') 8 tt v b j = M b j := fun b j z1 z2 => (if_neg z2).trans (if_neg z1)
  have e8 : ∀ t, mset (mset M 1 10 kb') 8 tt v 8 t = if t = tt then v else M 8 t := fun t => by
    show (if 8 = 8 ∧ t = tt then v else if 8 = 1 ∧ t = 10 then kb' else M 8 t) = if t = tt then v else M 8 t
    exact if_cg (by omega) rfl (if_neg (by omega))
  have e10 : mset (mset M 1 10 kb') 8 tt v 1 10 = kb' := by simp [mset]
  generalize mset (mset M 1 10 kb') 8 tt v = M1 at *
  have fj : ∀ t j, j < 30 → j ≠ 4 → updI f (30 * tt + 4) v (30 * t + j) = f (30 * t + j) := fun t j h1 h2 => if_neg (by omega)
  have f4 : ∀ t, updI f (30 * tt + 4) v (30 * t + 4) = if t = tt then v else f (30 * t + 4) := fun t => if_cg (by omega) rfl rfl
  obtain ⟨w0, w1, w2, w3, w4, w5, w6⟩ := d1
  refine ⟨⟨by rw [e _ _ (by omega) (by omega)]; exact w0, by rw [e _ _ (by omega) (by omega)]; exact w1, by rw [e _ _ (by omega) (by omega)]; exact w2, by rw [e _ _ (by omega) (by omega)]; exact w3, fun t ht => wfT_cells (fun b p1 p2 j => e _ _ (by omega) (by omega)) (w4 t ht), wfT_cells (fun b p1 p2 j => e _ _ (by omega) (by omega)) w5, fun t ht => ?_⟩, ?_, ?_, fun t h => ?_, fun t h => ?_, fun t h1 h2 => ?_⟩
  · show -1 ≤ M1 8 t ∧ M1 8 t ≤ 900
    rw [e8]
    have := w6 t ht
    rw [show (3 + 5 : Nat) = 8 from rfl] at this
    split <;> omega
  · rw [e _ _ (by omega) (by omega), e _ _ (by omega) (by omega), e _ _ (by omega) (by omega), e _ _ (by omega) (by omega)]; exact d2
  · rw [e _ _ (by omega) (by omega), e10, e 1 11 (by omega) (by omega)]; exact ⟨d3.1, rfl, d3.2.2⟩
  · obtain ⟨y1, y2, y3, y4, y5⟩ := d4 t h
    have l := (d5 t h).1.1
    rw [vT_len] at l
    rw [vT_up (Or.inr rfl) (by omega)]
    refine ⟨(tRw_fr (fun q hq j => e _ _ (by omega) (by omega))).trans y1, ?_, ?_, ?_, ?_⟩
    · show M1 8 t = updI f (30 * tt + 4) v (30 * t + 4)
      rw [e8, f4]
      exact if_cg Iff.rfl rfl y2
    · rw [e _ _ (by omega) (by omega), fj t 1 (by omega) (by omega)]; exact y3
    · rw [e _ _ (by omega) (by omega), fj t 2 (by omega) (by omega)]; exact y4
    · show M1 _ 5 = updI f (30 * tt + 4) v (30 * t + 3)
      rw [e _ _ (by omega) (by omega), fj t 3 (by omega) (by omega)]; exact y5
  · obtain ⟨y1, y2, y3⟩ := d5 t h
    have l := y1.1
    rw [vT_len] at l
    rw [vT_up (Or.inr rfl) (by omega)]
    refine ⟨y1, ?_, wfM_eq (fun k h1 h2 => fj t k h1 h2) y3⟩
    show -1 ≤ updI f (30 * tt + 4) v (30 * t + 4) ∧ updI f (30 * tt + 4) v (30 * t + 4) ≤ 900
    rw [f4]
    have y2' : -1 ≤ f (30 * t + 4) ∧ f (30 * t + 4) ≤ 900 := y2
    split <;> omega
  · rw [e8, if_neg (by omega)]; exact d6 t h1 h2
theorem drC_ho {M : Mm} {f r : Nat → Int} {kb hb hb' v : Int} {tt : Nat} (D : drC M f r kb hb) (hr : 0 ≤ r 0 ∧ r 0 ≤ 8) (ht : tt < (r 0).toNat) (hv : 0 ≤ v ∧ v ≤ 3) : drC (mset (mset M 1 11 hb') (9 + 3 * tt) 5 v) (updI f (30 * tt + 3) v) r kb hb' := by
  obtain ⟨d1, d2, d3, d4, d5, d6⟩ := D
  have e : ∀ b j, ¬ (b = 1 ∧ j = 11) → ¬ (b = 9 + 3 * tt ∧ j = 5) → mset (mset M 1 11 hb') (9 + 3 * tt) 5 v b j = M b j := fun b j z1 z2 => (if_neg z2).trans (if_neg z1)
  have e8 : mset (mset M 1 11 hb') (9 + 3 * tt) 5 v (9 + 3 * tt) 5 = v := by simp [mset]
  have e10 : mset (mset M 1 11 hb') (9 + 3 * tt) 5 v 1 11 = hb' := by
    exact (if_neg (by omega)).trans (if_pos ⟨rfl, rfl⟩)
  generalize mset (mset M 1 11 hb') (9 + 3 * tt) 5 v = M1 at *
  have fj : ∀ t j, j < 30 → j ≠ 3 → updI f (30 * tt + 3) v (30 * t + j) = f (30 * t + j) := fun t j h1 h2 => if_neg (by omega)
  have f4 : ∀ t, updI f (30 * tt + 3) v (30 * t + 3) = if t = tt then v else f (30 * t + 3) := fun t => if_cg (by omega) rfl rfl
  have t8 : tt < 8 := by omega
  have tw := wfS_T d1 t8
  have w' : wfT M1 (9 + 3 * tt) := by
    obtain ⟨u0, u1, u2, u3, u4, u5⟩ := tw
    exact ⟨by rw [e _ _ (by omega) (by omega)]; exact u0, fun j hj => by rw [e _ _ (by omega) (by omega)]; exact u1 j hj, fun j hj => by rw [e _ _ (by omega) (by omega)]; exact u2 j hj, by rw [e _ _ (by omega) (by omega)]; exact u3, by rw [e _ _ (by omega) (by omega)]; exact u4, by rw [e8]; exact hv⟩
  refine ⟨wfS_one d1 t8 (fun b p1 p2 p3 j => e _ _ (by omega) (by omega)) w', ?_, ?_, fun t h => ?_, fun t h => ?_, fun t h1 h2 => ?_⟩
  · rw [e _ _ (by omega) (by omega), e _ _ (by omega) (by omega), e _ _ (by omega) (by omega), e _ _ (by omega) (by omega)]; exact d2
  · rw [e _ _ (by omega) (by omega), e10, e 1 10 (by omega) (by omega)]; exact ⟨d3.1, d3.2.1, rfl⟩
  · obtain ⟨y1, y2, y3, y4, y5⟩ := d4 t h
    have l := (d5 t h).1.1
    rw [vT_len] at l
    rw [vT_up (Or.inl rfl) (by omega)]
    have tr : tRw M1 (3 + 6 + 3 * t) = tRw M (3 + 6 + 3 * t) := by
      have e2 := e (3 + 6 + 3 * t) 2 (by omega) (by omega)
      have e21 : ∀ j, M1 (3 + 6 + 3 * t + 1) j = M (3 + 6 + 3 * t + 1) j := fun j => e _ _ (by omega) (by omega)
      have e22 : ∀ j, M1 (3 + 6 + 3 * t + 2) j = M (3 + 6 + 3 * t + 2) j := fun j => e _ _ (by omega) (by omega)
      unfold tRw
      rw [e2]
      simp only [e21, e22]
    refine ⟨tr.trans y1, ?_, ?_, ?_, ?_⟩
    · show M1 8 t = updI f (30 * tt + 3) v (30 * t + 4)
      rw [e _ _ (by omega) (by omega), fj t 4 (by omega) (by omega)]
      exact y2
    · rw [e _ _ (by omega) (by omega), fj t 1 (by omega) (by omega)]; exact y3
    · rw [e _ _ (by omega) (by omega), fj t 2 (by omega) (by omega)]; exact y4
    · show M1 (3 + 6 + 3 * t) 5 = updI f (30 * tt + 3) v (30 * t + 3)
      rw [f4]
      by_cases c : t = tt
      · subst c
        rw [if_pos rfl, show 3 + 6 + 3 * t = 9 + 3 * t by omega]
        exact e8
      · rw [if_neg c, e _ _ (by omega) (by omega)]; exact y5
  · obtain ⟨y1, y2, y3⟩ := d5 t h
    have l := y1.1
    rw [vT_len] at l
    rw [vT_up (Or.inl rfl) (by omega)]
    refine ⟨y1, ?_, ?_⟩
    · show -1 ≤ updI f (30 * tt + 3) v (30 * t + 4) ∧ updI f (30 * tt + 3) v (30 * t + 4) ≤ 900
      rw [fj t 4 (by omega) (by omega)]
      exact y2
    · have g0 := fj t 0 (by omega) (by omega)
      simp only [Nat.add_zero] at g0
      obtain ⟨z1, z2, z3, z4, z5⟩ := y3
      unfold wfM
      rw [g0, fj t 1 (by omega) (by omega), fj t 2 (by omega) (by omega), fj t 5 (by omega) (by omega), f4]
      refine ⟨z1, z2, ?_, z4, z5⟩
      split <;> omega
  · rw [e _ _ (by omega) (by omega)]; exact d6 t h1 h2
set_option maxHeartbeats 600000 in
set_option maxRecDepth 20000 in
theorem whyC_ok {M : Mm} {n t set : Int} (hw : wfS M 3) (h3 : M 3 3 = n) (h8 : M 1 8 = t) (ht : 0 ≤ t ∧ t ≤ 7) : CallI m_Reader_whyNotTimber [.inr 1, .inl set] M (fun x M' => x = (if n ≤ t then 3 else if bAnd (bShr set t) 1 = 1 then 4 else 0) ∧ M' = M) := by
  have HT := Stock_has_ok (s := 3) (t := t) isStk_3 ⟨by omega, by omega⟩ hw
  rw [h3] at HT
  have kcS : kc (lay 3) 8 = True := by rw [isStk_3.1]; exact eq_true rfl
  have bi := bAnd_in (bShr set t) 1
  obtain ⟨bi1, bi2⟩ := bi
  have b01 := bit_testI set ht.1 (by omega : t < 32)
  by_cases c : n ≤ t
  · rw [if_pos c]
    rw [if_neg (by omega)] at HT
    refine callP_of (by decide) (by decide) (Nat.le_of_ble_eq_true rfl) (wpm_of (cuts := []) (by decide) 60 _ _ _ _ ?_)
    rw [show lM m_Reader_whyNotTimber = 2 from rfl]
    simp (maxSteps := 2000000) only [↓reduceIte, wp_eq, wpd_eq, kont_eq, STP1, STP2, STP3, STP4, STP5, konM_eq, AMK, CZ, Option.map, List.getElem?_cons_zero, List.getElem?_cons_succ, List.mem_cons, List.not_mem_nil, if_false, if_true, Nat.reduceAdd, Nat.reduceLT, Nat.reduceLeDiff, Nat.reduceEqDiff, true_and, and_true, List.length_nil, List.length_cons, or_true, true_or, or_false, false_or, Option.some.injEq, Sum.inl.injEq, Sum.inr.injEq, exists_eq_left', exists_eq_left, Int.reduceLE, Int.reduceLT, Int.reduceNeg, Int.reduceAdd, Int.reduceMul, Int.reduceSub, Int.reduceToNat, inR, Nat.zero_ne_one, false_and, Nat.succ_ne_zero, reduceCtorEq, false_implies, true_implies, not_false_eq_true, not_true_eq_false, Int.reduceEq, KRE, C_Reader_whyNotTimber, FD, L3, h8, kcS]
    repeat (first | refine And.intro (by omega) ?_ | refine And.intro (fun _ _ => okt_nn (by omega)) ?_)
    refine HT.eq ?_
    try simp (maxSteps := 2000000) only [↓reduceIte, wp_eq, wpd_eq, kont_eq, STP1, STP2, STP3, STP4, STP5, konM_eq, AMK, CZ, Option.map, List.getElem?_cons_zero, List.getElem?_cons_succ, List.mem_cons, List.not_mem_nil, if_false, if_true, Nat.reduceAdd, Nat.reduceLT, Nat.reduceLeDiff, Nat.reduceEqDiff, true_and, and_true, List.length_nil, List.length_cons, or_true, true_or, or_false, false_or, Option.some.injEq, Sum.inl.injEq, Sum.inr.injEq, exists_eq_left', exists_eq_left, Int.reduceLE, Int.reduceLT, Int.reduceNeg, Int.reduceAdd, Int.reduceMul, Int.reduceSub, Int.reduceToNat, inR, Nat.zero_ne_one, false_and, Nat.succ_ne_zero, reduceCtorEq, false_implies, true_implies, not_false_eq_true, not_true_eq_false, Int.reduceEq, KRE, C_Reader_whyNotTimber, FD, L3]
    repeat (first | refine And.intro (by omega) ?_ | refine And.intro (fun _ _ => okt_nn (by omega)) ?_)
    try (first | omega | exact ⟨rfl, rfl⟩)
  · rw [if_neg c]
    rw [if_pos (by omega)] at HT
    by_cases c1 : bAnd (bShr set t) 1 = 1
    · rw [if_pos c1]
      refine callP_of (by decide) (by decide) (Nat.le_of_ble_eq_true rfl) (wpm_of (cuts := []) (by decide) 60 _ _ _ _ ?_)
      rw [show lM m_Reader_whyNotTimber = 2 from rfl]
      simp (maxSteps := 2000000) only [↓reduceIte, wp_eq, wpd_eq, kont_eq, STP1, STP2, STP3, STP4, STP5, konM_eq, AMK, CZ, Option.map, List.getElem?_cons_zero, List.getElem?_cons_succ, List.mem_cons, List.not_mem_nil, if_false, if_true, Nat.reduceAdd, Nat.reduceLT, Nat.reduceLeDiff, Nat.reduceEqDiff, true_and, and_true, List.length_nil, List.length_cons, or_true, true_or, or_false, false_or, Option.some.injEq, Sum.inl.injEq, Sum.inr.injEq, exists_eq_left', exists_eq_left, Int.reduceLE, Int.reduceLT, Int.reduceNeg, Int.reduceAdd, Int.reduceMul, Int.reduceSub, Int.reduceToNat, inR, Nat.zero_ne_one, false_and, Nat.succ_ne_zero, reduceCtorEq, false_implies, true_implies, not_false_eq_true, not_true_eq_false, Int.reduceEq, KRE, C_Reader_whyNotTimber, FD, L3, h8, kcS]
      repeat (first | refine And.intro (by omega) ?_ | refine And.intro (fun _ _ => okt_nn (by omega)) ?_)
      refine HT.eq ?_
      try simp (maxSteps := 2000000) only [↓reduceIte, wp_eq, wpd_eq, kont_eq, STP1, STP2, STP3, STP4, STP5, konM_eq, AMK, CZ, Option.map, List.getElem?_cons_zero, List.getElem?_cons_succ, List.mem_cons, List.not_mem_nil, if_false, if_true, Nat.reduceAdd, Nat.reduceLT, Nat.reduceLeDiff, Nat.reduceEqDiff, true_and, and_true, List.length_nil, List.length_cons, or_true, true_or, or_false, false_or, Option.some.injEq, Sum.inl.injEq, Sum.inr.injEq, exists_eq_left', exists_eq_left, Int.reduceLE, Int.reduceLT, Int.reduceNeg, Int.reduceAdd, Int.reduceMul, Int.reduceSub, Int.reduceToNat, inR, Nat.zero_ne_one, false_and, Nat.succ_ne_zero, reduceCtorEq, false_implies, true_implies, not_false_eq_true, not_true_eq_false, Int.reduceEq, KRE, C_Reader_whyNotTimber, FD, L3, h8, c1]
      repeat (first | refine And.intro (by omega) ?_ | refine And.intro (fun _ _ => okt_nn (by omega)) ?_)
      try (first | omega | exact ⟨rfl, rfl⟩)
    · rw [if_neg c1]
      have c2 : bAnd (bShr set t) 1 = 0 := by
        rw [b01] at c1 ⊢
        split at c1
        · exact absurd rfl c1
        · rename_i z; exact if_neg z
      refine callP_of (by decide) (by decide) (Nat.le_of_ble_eq_true rfl) (wpm_of (cuts := []) (by decide) 60 _ _ _ _ ?_)
      rw [show lM m_Reader_whyNotTimber = 2 from rfl]
      simp (maxSteps := 2000000) only [↓reduceIte, wp_eq, wpd_eq, kont_eq, STP1, STP2, STP3, STP4, STP5, konM_eq, AMK, CZ, Option.map, List.getElem?_cons_zero, List.getElem?_cons_succ, List.mem_cons, List.not_mem_nil, if_false, if_true, Nat.reduceAdd, Nat.reduceLT, Nat.reduceLeDiff, Nat.reduceEqDiff, true_and, and_true, List.length_nil, List.length_cons, or_true, true_or, or_false, false_or, Option.some.injEq, Sum.inl.injEq, Sum.inr.injEq, exists_eq_left', exists_eq_left, Int.reduceLE, Int.reduceLT, Int.reduceNeg, Int.reduceAdd, Int.reduceMul, Int.reduceSub, Int.reduceToNat, inR, Nat.zero_ne_one, false_and, Nat.succ_ne_zero, reduceCtorEq, false_implies, true_implies, not_false_eq_true, not_true_eq_false, Int.reduceEq, KRE, C_Reader_whyNotTimber, FD, L3, h8, kcS]
      repeat (first | refine And.intro (by omega) ?_ | refine And.intro (fun _ _ => okt_nn (by omega)) ?_)
      refine HT.eq ?_
      try simp (maxSteps := 2000000) only [↓reduceIte, wp_eq, wpd_eq, kont_eq, STP1, STP2, STP3, STP4, STP5, konM_eq, AMK, CZ, Option.map, List.getElem?_cons_zero, List.getElem?_cons_succ, List.mem_cons, List.not_mem_nil, if_false, if_true, Nat.reduceAdd, Nat.reduceLT, Nat.reduceLeDiff, Nat.reduceEqDiff, true_and, and_true, List.length_nil, List.length_cons, or_true, true_or, or_false, false_or, Option.some.injEq, Sum.inl.injEq, Sum.inr.injEq, exists_eq_left', exists_eq_left, Int.reduceLE, Int.reduceLT, Int.reduceNeg, Int.reduceAdd, Int.reduceMul, Int.reduceSub, Int.reduceToNat, inR, Nat.zero_ne_one, false_and, Nat.succ_ne_zero, reduceCtorEq, false_implies, true_implies, not_false_eq_true, not_true_eq_false, Int.reduceEq, KRE, C_Reader_whyNotTimber, FD, L3, h8, c2]
      repeat (first | refine And.intro (by omega) ?_ | refine And.intro (fun _ _ => okt_nn (by omega)) ?_)
      try (first | omega | exact ⟨rfl, rfl⟩)
theorem drC_s1 {M : Mm} {f r : Nat → Int} {kb hb v : Int} (D : drC M f r kb hb) (hr : 0 ≤ r 0 ∧ r 0 ≤ 8) (hv : 50 ≤ v ∧ v ≤ 100) : drC (mset (mset M 1 9 (bOr (M 1 9) (bShl 1 0))) 3 (4 + 0) v) f (updI r 1 v) kb hb := by
  obtain ⟨d1, d2, d3, d4, d5, d6⟩ := D
  have e : ∀ b j, ¬ (b = 1 ∧ j = 9) → ¬ (b = 3 ∧ j = 4 + 0) → mset (mset M 1 9 (bOr (M 1 9) (bShl 1 0))) 3 (4 + 0) v b j = M b j := fun b j z1 z2 => (if_neg z2).trans (if_neg z1)
  have e3 : mset (mset M 1 9 (bOr (M 1 9) (bShl 1 0))) 3 (4 + 0) v 3 (4 + 0) = v := by simp [mset]
  have e9 : mset (mset M 1 9 (bOr (M 1 9) (bShl 1 0))) 3 (4 + 0) v 1 9 = bOr (M 1 9) (bShl 1 0) := by simp [mset]
  generalize mset (mset M 1 9 (bOr (M 1 9) (bShl 1 0))) 3 (4 + 0) v = M1 at *
  have SB := (stb_ok (decide (r 1 ≠ -1)) (decide (r 2 ≠ -1)) (decide (r 3 ≠ -1))).1.2
  rw [← d3.1] at SB
  have r0 : updI r 1 v 0 = r 0 := rfl
  have rW : updI r 1 v 1 = v := rfl
  obtain ⟨w0, w1, w2, w3, w4, w5, w6⟩ := d1
  refine ⟨⟨by rw [e _ _ (by omega) (by omega)]; exact w0, ?_, ?_, ?_, fun t ht => wfT_cells (fun b p1 p2 j => e _ _ (by omega) (by omega)) (w4 t ht), wfT_cells (fun b p1 p2 j => e _ _ (by omega) (by omega)) w5, fun t ht => by rw [e _ _ (by omega) (by omega)]; exact w6 t ht⟩, ⟨?_, ?_, ?_, ?_⟩, ⟨?_, ?_, ?_⟩, ?_, ?_, fun t h1 h2 => ?_⟩
  · show _ ≤ M1 3 (4 + 0) ∧ M1 3 (4 + 0) ≤ _
    rw [e3]; omega
  · rw [e _ _ (by omega) (by omega)]; exact w2
  · rw [e _ _ (by omega) (by omega)]; exact w3
  · rw [e _ _ (by omega) (by omega), r0]; exact d2.1
  · show M1 3 (4 + 0) = _
    rw [e3, rW, if_neg (by omega)]
  · rw [e _ _ (by omega) (by omega), show updI r 1 v 2 = r 2 from rfl]; exact d2.2.2.1
  · rw [e _ _ (by omega) (by omega), show updI r 1 v 3 = r 3 from rfl]; exact d2.2.2.2
  · rw [e9, SB]
    have x1 : updI r 1 v 1 ≠ -1 := by rw [rW]; omega
    show stb true (decide (r 2 ≠ -1)) (decide (r 3 ≠ -1)) = stb (decide (updI r 1 v 1 ≠ -1)) (decide (updI r 1 v 2 ≠ -1)) (decide (updI r 1 v 3 ≠ -1))
    rw [show decide (updI r 1 v 1 ≠ -1) = true from decide_eq_true x1]
    rfl
  · rw [e _ _ (by omega) (by omega)]; exact d3.2.1
  · rw [e _ _ (by omega) (by omega)]; exact d3.2.2
  · rw [r0]; exact rowR_fr (by omega) (fun b p1 p2 j => e _ _ (by omega) (by omega)) d4
  · rw [r0]; exact d5
  · rw [r0] at h1; rw [e _ _ (by omega) (by omega)]; exact d6 t h1 h2
set_option maxHeartbeats 600000 in
set_option maxRecDepth 20000 in
theorem setC_1 {M : Mm} {g f r : Nat → Int} {E a : Nat} {kb hb : Int} (hE : E ≤ 900) (ha : a ≤ 900) (h : tsC M g E a) (D : drC M f r kb hb) (hi : rdI r kb hb) : CallI m_Reader_readSetting [.inr 1, .inl 0, .inl 50, .inl 100] M (fun x M' => clQ M g E (clW g E a 1 f r kb hb) x M') := by
  obtain ⟨hr, -⟩ := id hi
  have eC : clW g E a 1 f r kb hb = if r 1 ≠ -1 then (4, a, f, r, kb, hb) else if nmF g E (nxT g E a) 50 100 ≠ 0 then (nmF g E (nxT g E a) 50 100, nxT g E a, f, r, kb, hb) else enS g E (nxT g E (nxT g E a)) f (updI r 1 (nmN g E (nxT g E a))) kb hb := clW_1
  have SB := (stb_ok (decide (r 1 ≠ -1)) (decide (r 2 ≠ -1)) (decide (r 3 ≠ -1))).1.1
  rw [← D.2.2.1.1] at SB
  by_cases c1 : r 1 = -1
  · rw [if_neg (fun z => z c1)] at eC
    rw [decide_eq_false (fun z => z c1)] at SB
    have SB0 : bAnd (bShr (M 1 9) 0) 1 = 0 := SB
    have b9 := nxT_le (g := g) hE ha
    have N := numC_ok (lo := 50) (hi := 100) h hE ha ⟨by omega, by omega⟩ ⟨by omega, by omega⟩
    have i1 := nmF_in g E (nxT g E a) 50 100
    refine callP_of (by decide) (by decide) (Nat.le_of_ble_eq_true rfl) (wpm_of (cuts := []) (by decide) 60 _ _ _ _ ?_)
    rw [show lM m_Reader_readSetting = 5 from rfl]
    simp (maxSteps := 2000000) only [↓reduceIte, wp_eq, wpd_eq, kont_eq, STP1, STP2, STP3, STP4, STP5, konM_eq, AMK, CZ, Option.map, List.getElem?_cons_zero, List.getElem?_cons_succ, List.mem_cons, List.not_mem_nil, if_false, if_true, Nat.reduceAdd, Nat.reduceLT, Nat.reduceLeDiff, Nat.reduceEqDiff, true_and, and_true, List.length_nil, List.length_cons, or_true, true_or, or_false, false_or, Option.some.injEq, Sum.inl.injEq, Sum.inr.injEq, exists_eq_left', exists_eq_left, Int.reduceLE, Int.reduceLT, Int.reduceNeg, Int.reduceAdd, Int.reduceMul, Int.reduceSub, Int.reduceToNat, inR, Nat.zero_ne_one, false_and, Nat.succ_ne_zero, reduceCtorEq, false_implies, true_implies, not_false_eq_true, not_true_eq_false, Int.reduceEq, KRE, C_Reader_readSetting, FD, L3, SB0]
    repeat (first | refine And.intro (by omega) ?_ | refine And.intro (fun _ _ => okt_nn (by omega)) ?_)
    refine N.mono (fun x M1 z => ?_)
    obtain ⟨rfl, F1, T1⟩ := z
    have F1' : FrP clP M M1 := clP_st FrP.rf F1
    have D1 := drC_st hr D F1
    by_cases cF : nmF g E (nxT g E a) 50 100 = 0
    · rw [if_neg (fun z => z cF)] at eC
      rw [eC]
      have k2 := (kd_all g E (nxT g E a)).2.1.mpr (nmF_2 cF)
      obtain ⟨n1, n2, n3⟩ := T1.2.2.2.2.2.2 k2
      have nb := nmN_in cF
      have D2 := drC_s1 (v := nmN g E (nxT g E a)) D1 hr nb
      have T2 : tsC (mset (mset M1 1 9 (bOr (M1 1 9) (bShl 1 0))) 3 (4 + 0) (nmN g E (nxT g E a))) g E (nxT g E a) := tsC_mv T1 (fun b j z => (if_neg (by omega)).trans (if_neg (by omega)))
      have F2 : FrP clP M (mset (mset M1 1 9 (bOr (M1 1 9) (bShl 1 0))) 3 (4 + 0) (nmN g E (nxT g E a))) := (F1'.st (by unfold clP; omega)).st (by unfold clP; omega)
      have EN := endQ (M0 := M) hE b9 (show 0 ≤ updI r 1 (nmN g E (nxT g E a)) 0 ∧ updI r 1 (nmN g E (nxT g E a)) 0 ≤ 8 from hr) T2 D2 F2
      have e8 : mset M1 1 9 (bOr (M1 1 9) (bShl 1 0)) 1 8 = nmN g E (nxT g E a) := by rw [← n1]; simp [mset]
      have CH : CallV m_Stock_change [.inr 3, .inl 0, .inl (nmN g E (nxT g E a))] (mset M1 1 9 (bOr (M1 1 9) (bShl 1 0))) (fun M' => M' = mset (mset M1 1 9 (bOr (M1 1 9) (bShl 1 0))) 3 (4 + 0) (nmN g E (nxT g E a))) := Stock_change_ok isStk_3 (by omega)
      have kcS : kc (lay 3) 8 = True := by rw [isStk_3.1]; exact eq_true rfl
      try simp (maxSteps := 2000000) only [↓reduceIte, wp_eq, wpd_eq, kont_eq, STP1, STP2, STP3, STP4, STP5, konM_eq, AMK, CZ, Option.map, List.getElem?_cons_zero, List.getElem?_cons_succ, List.mem_cons, List.not_mem_nil, if_false, if_true, Nat.reduceAdd, Nat.reduceLT, Nat.reduceLeDiff, Nat.reduceEqDiff, true_and, and_true, List.length_nil, List.length_cons, or_true, true_or, or_false, false_or, Option.some.injEq, Sum.inl.injEq, Sum.inr.injEq, exists_eq_left', exists_eq_left, Int.reduceLE, Int.reduceLT, Int.reduceNeg, Int.reduceAdd, Int.reduceMul, Int.reduceSub, Int.reduceToNat, inR, Nat.zero_ne_one, false_and, Nat.succ_ne_zero, reduceCtorEq, false_implies, true_implies, not_false_eq_true, not_true_eq_false, Int.reduceEq, KRE, C_Reader_readSetting, FD, L3, cF, e8, kcS]
      repeat (first | refine And.intro (by omega) ?_ | refine And.intro (fun _ _ => okt_nn (by omega)) ?_)
      refine CH.eq ?_
      try simp (maxSteps := 2000000) only [↓reduceIte, wp_eq, wpd_eq, kont_eq, STP1, STP2, STP3, STP4, STP5, konM_eq, AMK, CZ, Option.map, List.getElem?_cons_zero, List.getElem?_cons_succ, List.mem_cons, List.not_mem_nil, if_false, if_true, Nat.reduceAdd, Nat.reduceLT, Nat.reduceLeDiff, Nat.reduceEqDiff, true_and, and_true, List.length_nil, List.length_cons, or_true, true_or, or_false, false_or, Option.some.injEq, Sum.inl.injEq, Sum.inr.injEq, exists_eq_left', exists_eq_left, Int.reduceLE, Int.reduceLT, Int.reduceNeg, Int.reduceAdd, Int.reduceMul, Int.reduceSub, Int.reduceToNat, inR, Nat.zero_ne_one, false_and, Nat.succ_ne_zero, reduceCtorEq, false_implies, true_implies, not_false_eq_true, not_true_eq_false, Int.reduceEq, KRE, C_Reader_readSetting, FD, L3]
      repeat (first | refine And.intro (by omega) ?_ | refine And.intro (fun _ _ => okt_nn (by omega)) ?_)
      refine EN.mono (fun x M' w => ?_)
      try simp (maxSteps := 2000000) only [↓reduceIte, wp_eq, wpd_eq, kont_eq, STP1, STP2, STP3, STP4, STP5, konM_eq, AMK, CZ, Option.map, List.getElem?_cons_zero, List.getElem?_cons_succ, List.mem_cons, List.not_mem_nil, if_false, if_true, Nat.reduceAdd, Nat.reduceLT, Nat.reduceLeDiff, Nat.reduceEqDiff, true_and, and_true, List.length_nil, List.length_cons, or_true, true_or, or_false, false_or, Option.some.injEq, Sum.inl.injEq, Sum.inr.injEq, exists_eq_left', exists_eq_left, Int.reduceLE, Int.reduceLT, Int.reduceNeg, Int.reduceAdd, Int.reduceMul, Int.reduceSub, Int.reduceToNat, inR, Nat.zero_ne_one, false_and, Nat.succ_ne_zero, reduceCtorEq, false_implies, true_implies, not_false_eq_true, not_true_eq_false, Int.reduceEq, KRE, C_Reader_readSetting, FD, L3]
      repeat (first | refine And.intro (by omega) ?_ | refine And.intro (fun _ _ => okt_nn (by omega)) ?_)
      all_goals first | exact w | exact ⟨by omega, w⟩ | exact ⟨_, rfl, w⟩
    · rw [if_pos cF] at eC
      rw [eC]
      have R : clQ M g E (nmF g E (nxT g E a) 50 100, nxT g E a, f, r, kb, hb) (nmF g E (nxT g E a) 50 100) M1 := clQ_bad (S := (nmF g E (nxT g E a) 50 100, nxT g E a, f, r, kb, hb)) F1' D1.1 cF T1.2.2.2.1
      have q3 := eq_false cF
      generalize hX : clQ M g E (nmF g E (nxT g E a) 50 100, nxT g E a, f, r, kb, hb) = X at *
      generalize nmF g E (nxT g E a) 50 100 = cc at *
      try simp (maxSteps := 2000000) only [↓reduceIte, wp_eq, wpd_eq, kont_eq, STP1, STP2, STP3, STP4, STP5, konM_eq, AMK, CZ, Option.map, List.getElem?_cons_zero, List.getElem?_cons_succ, List.mem_cons, List.not_mem_nil, if_false, if_true, Nat.reduceAdd, Nat.reduceLT, Nat.reduceLeDiff, Nat.reduceEqDiff, true_and, and_true, List.length_nil, List.length_cons, or_true, true_or, or_false, false_or, Option.some.injEq, Sum.inl.injEq, Sum.inr.injEq, exists_eq_left', exists_eq_left, Int.reduceLE, Int.reduceLT, Int.reduceNeg, Int.reduceAdd, Int.reduceMul, Int.reduceSub, Int.reduceToNat, inR, Nat.zero_ne_one, false_and, Nat.succ_ne_zero, reduceCtorEq, false_implies, true_implies, not_false_eq_true, not_true_eq_false, Int.reduceEq, KRE, C_Reader_readSetting, FD, L3, q3]
      repeat (first | refine And.intro (by omega) ?_ | refine And.intro (fun _ _ => okt_nn (by omega)) ?_)
      all_goals first | exact R | exact ⟨by omega, R⟩ | exact ⟨_, rfl, R⟩
  · rw [if_pos c1] at eC
    rw [decide_eq_true c1] at SB
    have SB0 : bAnd (bShr (M 1 9) 0) 1 = 1 := SB
    rw [eC]
    have R : clQ M g E (4, a, f, r, kb, hb) 4 M := clQ_bad (S := (4, a, f, r, kb, hb)) FrP.rf D.1 (by show (4 : Int) ≠ 0; omega) h.2.2.2.1
    generalize hX : clQ M g E (4, a, f, r, kb, hb) = X at *
    refine callP_of (by decide) (by decide) (Nat.le_of_ble_eq_true rfl) (wpm_of (cuts := []) (by decide) 60 _ _ _ _ ?_)
    rw [show lM m_Reader_readSetting = 5 from rfl]
    simp (maxSteps := 2000000) only [↓reduceIte, wp_eq, wpd_eq, kont_eq, STP1, STP2, STP3, STP4, STP5, konM_eq, AMK, CZ, Option.map, List.getElem?_cons_zero, List.getElem?_cons_succ, List.mem_cons, List.not_mem_nil, if_false, if_true, Nat.reduceAdd, Nat.reduceLT, Nat.reduceLeDiff, Nat.reduceEqDiff, true_and, and_true, List.length_nil, List.length_cons, or_true, true_or, or_false, false_or, Option.some.injEq, Sum.inl.injEq, Sum.inr.injEq, exists_eq_left', exists_eq_left, Int.reduceLE, Int.reduceLT, Int.reduceNeg, Int.reduceAdd, Int.reduceMul, Int.reduceSub, Int.reduceToNat, inR, Nat.zero_ne_one, false_and, Nat.succ_ne_zero, reduceCtorEq, false_implies, true_implies, not_false_eq_true, not_true_eq_false, Int.reduceEq, KRE, C_Reader_readSetting, FD, L3, SB0]
    repeat (first | refine And.intro (by omega) ?_ | refine And.intro (fun _ _ => okt_nn (by omega)) ?_)
    all_goals first | exact R | exact ⟨by omega, R⟩ | exact ⟨_, rfl, R⟩
theorem drC_s2 {M : Mm} {f r : Nat → Int} {kb hb v : Int} (D : drC M f r kb hb) (hr : 0 ≤ r 0 ∧ r 0 ≤ 8) (hv : 3 ≤ v ∧ v ≤ 24) : drC (mset (mset M 1 9 (bOr (M 1 9) (bShl 1 1))) 3 (4 + 1) v) f (updI r 2 v) kb hb := by
  obtain ⟨d1, d2, d3, d4, d5, d6⟩ := D
  have e : ∀ b j, ¬ (b = 1 ∧ j = 9) → ¬ (b = 3 ∧ j = 4 + 1) → mset (mset M 1 9 (bOr (M 1 9) (bShl 1 1))) 3 (4 + 1) v b j = M b j := fun b j z1 z2 => (if_neg z2).trans (if_neg z1)
  have e3 : mset (mset M 1 9 (bOr (M 1 9) (bShl 1 1))) 3 (4 + 1) v 3 (4 + 1) = v := by simp [mset]
  have e9 : mset (mset M 1 9 (bOr (M 1 9) (bShl 1 1))) 3 (4 + 1) v 1 9 = bOr (M 1 9) (bShl 1 1) := by simp [mset]
  generalize mset (mset M 1 9 (bOr (M 1 9) (bShl 1 1))) 3 (4 + 1) v = M1 at *
  have SB := (stb_ok (decide (r 1 ≠ -1)) (decide (r 2 ≠ -1)) (decide (r 3 ≠ -1))).2.1.2
  rw [← d3.1] at SB
  have r0 : updI r 2 v 0 = r 0 := rfl
  have rW : updI r 2 v 2 = v := rfl
  obtain ⟨w0, w1, w2, w3, w4, w5, w6⟩ := d1
  refine ⟨⟨by rw [e _ _ (by omega) (by omega)]; exact w0, ?_, ?_, ?_, fun t ht => wfT_cells (fun b p1 p2 j => e _ _ (by omega) (by omega)) (w4 t ht), wfT_cells (fun b p1 p2 j => e _ _ (by omega) (by omega)) w5, fun t ht => by rw [e _ _ (by omega) (by omega)]; exact w6 t ht⟩, ⟨?_, ?_, ?_, ?_⟩, ⟨?_, ?_, ?_⟩, ?_, ?_, fun t h1 h2 => ?_⟩
  · rw [e _ _ (by omega) (by omega)]; exact w1
  · show _ ≤ M1 3 (4 + 1) ∧ M1 3 (4 + 1) ≤ _
    rw [e3]; omega
  · rw [e _ _ (by omega) (by omega)]; exact w3
  · rw [e _ _ (by omega) (by omega), r0]; exact d2.1
  · rw [e _ _ (by omega) (by omega), show updI r 2 v 1 = r 1 from rfl]; exact d2.2.1
  · show M1 3 (4 + 1) = _
    rw [e3, rW, if_neg (by omega)]
  · rw [e _ _ (by omega) (by omega), show updI r 2 v 3 = r 3 from rfl]; exact d2.2.2.2
  · rw [e9, SB]
    have x1 : updI r 2 v 2 ≠ -1 := by rw [rW]; omega
    show stb (decide (r 1 ≠ -1)) true (decide (r 3 ≠ -1)) = stb (decide (updI r 2 v 1 ≠ -1)) (decide (updI r 2 v 2 ≠ -1)) (decide (updI r 2 v 3 ≠ -1))
    rw [show decide (updI r 2 v 2 ≠ -1) = true from decide_eq_true x1]
    rfl
  · rw [e _ _ (by omega) (by omega)]; exact d3.2.1
  · rw [e _ _ (by omega) (by omega)]; exact d3.2.2
  · rw [r0]; exact rowR_fr (by omega) (fun b p1 p2 j => e _ _ (by omega) (by omega)) d4
  · rw [r0]; exact d5
  · rw [r0] at h1; rw [e _ _ (by omega) (by omega)]; exact d6 t h1 h2
set_option maxHeartbeats 600000 in
set_option maxRecDepth 20000 in
theorem setC_2 {M : Mm} {g f r : Nat → Int} {E a : Nat} {kb hb : Int} (hE : E ≤ 900) (ha : a ≤ 900) (h : tsC M g E a) (D : drC M f r kb hb) (hi : rdI r kb hb) : CallI m_Reader_readSetting [.inr 1, .inl 1, .inl 3, .inl 24] M (fun x M' => clQ M g E (clW g E a 2 f r kb hb) x M') := by
  obtain ⟨hr, -⟩ := id hi
  have eC : clW g E a 2 f r kb hb = if r 2 ≠ -1 then (4, a, f, r, kb, hb) else if nmF g E (nxT g E a) 3 24 ≠ 0 then (nmF g E (nxT g E a) 3 24, nxT g E a, f, r, kb, hb) else enS g E (nxT g E (nxT g E a)) f (updI r 2 (nmN g E (nxT g E a))) kb hb := clW_2
  have SB := (stb_ok (decide (r 1 ≠ -1)) (decide (r 2 ≠ -1)) (decide (r 3 ≠ -1))).2.1.1
  rw [← D.2.2.1.1] at SB
  by_cases c1 : r 2 = -1
  · rw [if_neg (fun z => z c1)] at eC
    rw [decide_eq_false (fun z => z c1)] at SB
    have SB0 : bAnd (bShr (M 1 9) 1) 1 = 0 := SB
    have b9 := nxT_le (g := g) hE ha
    have N := numC_ok (lo := 3) (hi := 24) h hE ha ⟨by omega, by omega⟩ ⟨by omega, by omega⟩
    have i1 := nmF_in g E (nxT g E a) 3 24
    refine callP_of (by decide) (by decide) (Nat.le_of_ble_eq_true rfl) (wpm_of (cuts := []) (by decide) 60 _ _ _ _ ?_)
    rw [show lM m_Reader_readSetting = 5 from rfl]
    simp (maxSteps := 2000000) only [↓reduceIte, wp_eq, wpd_eq, kont_eq, STP1, STP2, STP3, STP4, STP5, konM_eq, AMK, CZ, Option.map, List.getElem?_cons_zero, List.getElem?_cons_succ, List.mem_cons, List.not_mem_nil, if_false, if_true, Nat.reduceAdd, Nat.reduceLT, Nat.reduceLeDiff, Nat.reduceEqDiff, true_and, and_true, List.length_nil, List.length_cons, or_true, true_or, or_false, false_or, Option.some.injEq, Sum.inl.injEq, Sum.inr.injEq, exists_eq_left', exists_eq_left, Int.reduceLE, Int.reduceLT, Int.reduceNeg, Int.reduceAdd, Int.reduceMul, Int.reduceSub, Int.reduceToNat, inR, Nat.zero_ne_one, false_and, Nat.succ_ne_zero, reduceCtorEq, false_implies, true_implies, not_false_eq_true, not_true_eq_false, Int.reduceEq, KRE, C_Reader_readSetting, FD, L3, SB0]
    repeat (first | refine And.intro (by omega) ?_ | refine And.intro (fun _ _ => okt_nn (by omega)) ?_)
    refine N.mono (fun x M1 z => ?_)
    obtain ⟨rfl, F1, T1⟩ := z
    have F1' : FrP clP M M1 := clP_st FrP.rf F1
    have D1 := drC_st hr D F1
    by_cases cF : nmF g E (nxT g E a) 3 24 = 0
    · rw [if_neg (fun z => z cF)] at eC
      rw [eC]
      have k2 := (kd_all g E (nxT g E a)).2.1.mpr (nmF_2 cF)
      obtain ⟨n1, n2, n3⟩ := T1.2.2.2.2.2.2 k2
      have nb := nmN_in cF
      have D2 := drC_s2 (v := nmN g E (nxT g E a)) D1 hr nb
      have T2 : tsC (mset (mset M1 1 9 (bOr (M1 1 9) (bShl 1 1))) 3 (4 + 1) (nmN g E (nxT g E a))) g E (nxT g E a) := tsC_mv T1 (fun b j z => (if_neg (by omega)).trans (if_neg (by omega)))
      have F2 : FrP clP M (mset (mset M1 1 9 (bOr (M1 1 9) (bShl 1 1))) 3 (4 + 1) (nmN g E (nxT g E a))) := (F1'.st (by unfold clP; omega)).st (by unfold clP; omega)
      have EN := endQ (M0 := M) hE b9 (show 0 ≤ updI r 2 (nmN g E (nxT g E a)) 0 ∧ updI r 2 (nmN g E (nxT g E a)) 0 ≤ 8 from hr) T2 D2 F2
      have e8 : mset M1 1 9 (bOr (M1 1 9) (bShl 1 1)) 1 8 = nmN g E (nxT g E a) := by rw [← n1]; simp [mset]
      have CH : CallV m_Stock_change [.inr 3, .inl 1, .inl (nmN g E (nxT g E a))] (mset M1 1 9 (bOr (M1 1 9) (bShl 1 1))) (fun M' => M' = mset (mset M1 1 9 (bOr (M1 1 9) (bShl 1 1))) 3 (4 + 1) (nmN g E (nxT g E a))) := Stock_change_ok isStk_3 (by omega)
      have kcS : kc (lay 3) 8 = True := by rw [isStk_3.1]; exact eq_true rfl
      try simp (maxSteps := 2000000) only [↓reduceIte, wp_eq, wpd_eq, kont_eq, STP1, STP2, STP3, STP4, STP5, konM_eq, AMK, CZ, Option.map, List.getElem?_cons_zero, List.getElem?_cons_succ, List.mem_cons, List.not_mem_nil, if_false, if_true, Nat.reduceAdd, Nat.reduceLT, Nat.reduceLeDiff, Nat.reduceEqDiff, true_and, and_true, List.length_nil, List.length_cons, or_true, true_or, or_false, false_or, Option.some.injEq, Sum.inl.injEq, Sum.inr.injEq, exists_eq_left', exists_eq_left, Int.reduceLE, Int.reduceLT, Int.reduceNeg, Int.reduceAdd, Int.reduceMul, Int.reduceSub, Int.reduceToNat, inR, Nat.zero_ne_one, false_and, Nat.succ_ne_zero, reduceCtorEq, false_implies, true_implies, not_false_eq_true, not_true_eq_false, Int.reduceEq, KRE, C_Reader_readSetting, FD, L3, cF, e8, kcS]
      repeat (first | refine And.intro (by omega) ?_ | refine And.intro (fun _ _ => okt_nn (by omega)) ?_)
      refine CH.eq ?_
      try simp (maxSteps := 2000000) only [↓reduceIte, wp_eq, wpd_eq, kont_eq, STP1, STP2, STP3, STP4, STP5, konM_eq, AMK, CZ, Option.map, List.getElem?_cons_zero, List.getElem?_cons_succ, List.mem_cons, List.not_mem_nil, if_false, if_true, Nat.reduceAdd, Nat.reduceLT, Nat.reduceLeDiff, Nat.reduceEqDiff, true_and, and_true, List.length_nil, List.length_cons, or_true, true_or, or_false, false_or, Option.some.injEq, Sum.inl.injEq, Sum.inr.injEq, exists_eq_left', exists_eq_left, Int.reduceLE, Int.reduceLT, Int.reduceNeg, Int.reduceAdd, Int.reduceMul, Int.reduceSub, Int.reduceToNat, inR, Nat.zero_ne_one, false_and, Nat.succ_ne_zero, reduceCtorEq, false_implies, true_implies, not_false_eq_true, not_true_eq_false, Int.reduceEq, KRE, C_Reader_readSetting, FD, L3]
      repeat (first | refine And.intro (by omega) ?_ | refine And.intro (fun _ _ => okt_nn (by omega)) ?_)
      refine EN.mono (fun x M' w => ?_)
      try simp (maxSteps := 2000000) only [↓reduceIte, wp_eq, wpd_eq, kont_eq, STP1, STP2, STP3, STP4, STP5, konM_eq, AMK, CZ, Option.map, List.getElem?_cons_zero, List.getElem?_cons_succ, List.mem_cons, List.not_mem_nil, if_false, if_true, Nat.reduceAdd, Nat.reduceLT, Nat.reduceLeDiff, Nat.reduceEqDiff, true_and, and_true, List.length_nil, List.length_cons, or_true, true_or, or_false, false_or, Option.some.injEq, Sum.inl.injEq, Sum.inr.injEq, exists_eq_left', exists_eq_left, Int.reduceLE, Int.reduceLT, Int.reduceNeg, Int.reduceAdd, Int.reduceMul, Int.reduceSub, Int.reduceToNat, inR, Nat.zero_ne_one, false_and, Nat.succ_ne_zero, reduceCtorEq, false_implies, true_implies, not_false_eq_true, not_true_eq_false, Int.reduceEq, KRE, C_Reader_readSetting, FD, L3]
      repeat (first | refine And.intro (by omega) ?_ | refine And.intro (fun _ _ => okt_nn (by omega)) ?_)
      all_goals first | exact w | exact ⟨by omega, w⟩ | exact ⟨_, rfl, w⟩
    · rw [if_pos cF] at eC
      rw [eC]
      have R : clQ M g E (nmF g E (nxT g E a) 3 24, nxT g E a, f, r, kb, hb) (nmF g E (nxT g E a) 3 24) M1 := clQ_bad (S := (nmF g E (nxT g E a) 3 24, nxT g E a, f, r, kb, hb)) F1' D1.1 cF T1.2.2.2.1
      have q3 := eq_false cF
      generalize hX : clQ M g E (nmF g E (nxT g E a) 3 24, nxT g E a, f, r, kb, hb) = X at *
      generalize nmF g E (nxT g E a) 3 24 = cc at *
      try simp (maxSteps := 2000000) only [↓reduceIte, wp_eq, wpd_eq, kont_eq, STP1, STP2, STP3, STP4, STP5, konM_eq, AMK, CZ, Option.map, List.getElem?_cons_zero, List.getElem?_cons_succ, List.mem_cons, List.not_mem_nil, if_false, if_true, Nat.reduceAdd, Nat.reduceLT, Nat.reduceLeDiff, Nat.reduceEqDiff, true_and, and_true, List.length_nil, List.length_cons, or_true, true_or, or_false, false_or, Option.some.injEq, Sum.inl.injEq, Sum.inr.injEq, exists_eq_left', exists_eq_left, Int.reduceLE, Int.reduceLT, Int.reduceNeg, Int.reduceAdd, Int.reduceMul, Int.reduceSub, Int.reduceToNat, inR, Nat.zero_ne_one, false_and, Nat.succ_ne_zero, reduceCtorEq, false_implies, true_implies, not_false_eq_true, not_true_eq_false, Int.reduceEq, KRE, C_Reader_readSetting, FD, L3, q3]
      repeat (first | refine And.intro (by omega) ?_ | refine And.intro (fun _ _ => okt_nn (by omega)) ?_)
      all_goals first | exact R | exact ⟨by omega, R⟩ | exact ⟨_, rfl, R⟩
  · rw [if_pos c1] at eC
    rw [decide_eq_true c1] at SB
    have SB0 : bAnd (bShr (M 1 9) 1) 1 = 1 := SB
    rw [eC]
    have R : clQ M g E (4, a, f, r, kb, hb) 4 M := clQ_bad (S := (4, a, f, r, kb, hb)) FrP.rf D.1 (by show (4 : Int) ≠ 0; omega) h.2.2.2.1
    generalize hX : clQ M g E (4, a, f, r, kb, hb) = X at *
    refine callP_of (by decide) (by decide) (Nat.le_of_ble_eq_true rfl) (wpm_of (cuts := []) (by decide) 60 _ _ _ _ ?_)
    rw [show lM m_Reader_readSetting = 5 from rfl]
    simp (maxSteps := 2000000) only [↓reduceIte, wp_eq, wpd_eq, kont_eq, STP1, STP2, STP3, STP4, STP5, konM_eq, AMK, CZ, Option.map, List.getElem?_cons_zero, List.getElem?_cons_succ, List.mem_cons, List.not_mem_nil, if_false, if_true, Nat.reduceAdd, Nat.reduceLT, Nat.reduceLeDiff, Nat.reduceEqDiff, true_and, and_true, List.length_nil, List.length_cons, or_true, true_or, or_false, false_or, Option.some.injEq, Sum.inl.injEq, Sum.inr.injEq, exists_eq_left', exists_eq_left, Int.reduceLE, Int.reduceLT, Int.reduceNeg, Int.reduceAdd, Int.reduceMul, Int.reduceSub, Int.reduceToNat, inR, Nat.zero_ne_one, false_and, Nat.succ_ne_zero, reduceCtorEq, false_implies, true_implies, not_false_eq_true, not_true_eq_false, Int.reduceEq, KRE, C_Reader_readSetting, FD, L3, SB0]
    repeat (first | refine And.intro (by omega) ?_ | refine And.intro (fun _ _ => okt_nn (by omega)) ?_)
    all_goals first | exact R | exact ⟨by omega, R⟩ | exact ⟨_, rfl, R⟩
theorem drC_s3 {M : Mm} {f r : Nat → Int} {kb hb v : Int} (D : drC M f r kb hb) (hr : 0 ≤ r 0 ∧ r 0 ≤ 8) (hv : 0 ≤ v ∧ v ≤ 50) : drC (mset (mset M 1 9 (bOr (M 1 9) (bShl 1 2))) 3 (4 + 2) v) f (updI r 3 v) kb hb := by
  obtain ⟨d1, d2, d3, d4, d5, d6⟩ := D
  have e : ∀ b j, ¬ (b = 1 ∧ j = 9) → ¬ (b = 3 ∧ j = 4 + 2) → mset (mset M 1 9 (bOr (M 1 9) (bShl 1 2))) 3 (4 + 2) v b j = M b j := fun b j z1 z2 => (if_neg z2).trans (if_neg z1)
  have e3 : mset (mset M 1 9 (bOr (M 1 9) (bShl 1 2))) 3 (4 + 2) v 3 (4 + 2) = v := by simp [mset]
  have e9 : mset (mset M 1 9 (bOr (M 1 9) (bShl 1 2))) 3 (4 + 2) v 1 9 = bOr (M 1 9) (bShl 1 2) := by simp [mset]
  generalize mset (mset M 1 9 (bOr (M 1 9) (bShl 1 2))) 3 (4 + 2) v = M1 at *
  have SB := (stb_ok (decide (r 1 ≠ -1)) (decide (r 2 ≠ -1)) (decide (r 3 ≠ -1))).2.2.2
  rw [← d3.1] at SB
  have r0 : updI r 3 v 0 = r 0 := rfl
  have rW : updI r 3 v 3 = v := rfl
  obtain ⟨w0, w1, w2, w3, w4, w5, w6⟩ := d1
  refine ⟨⟨by rw [e _ _ (by omega) (by omega)]; exact w0, ?_, ?_, ?_, fun t ht => wfT_cells (fun b p1 p2 j => e _ _ (by omega) (by omega)) (w4 t ht), wfT_cells (fun b p1 p2 j => e _ _ (by omega) (by omega)) w5, fun t ht => by rw [e _ _ (by omega) (by omega)]; exact w6 t ht⟩, ⟨?_, ?_, ?_, ?_⟩, ⟨?_, ?_, ?_⟩, ?_, ?_, fun t h1 h2 => ?_⟩
  · rw [e _ _ (by omega) (by omega)]; exact w1
  · rw [e _ _ (by omega) (by omega)]; exact w2
  · show _ ≤ M1 3 (4 + 2) ∧ M1 3 (4 + 2) ≤ _
    rw [e3]; omega
  · rw [e _ _ (by omega) (by omega), r0]; exact d2.1
  · rw [e _ _ (by omega) (by omega), show updI r 3 v 1 = r 1 from rfl]; exact d2.2.1
  · rw [e _ _ (by omega) (by omega), show updI r 3 v 2 = r 2 from rfl]; exact d2.2.2.1
  · show M1 3 (4 + 2) = _
    rw [e3, rW, if_neg (by omega)]
  · rw [e9, SB]
    have x1 : updI r 3 v 3 ≠ -1 := by rw [rW]; omega
    show stb (decide (r 1 ≠ -1)) (decide (r 2 ≠ -1)) true = stb (decide (updI r 3 v 1 ≠ -1)) (decide (updI r 3 v 2 ≠ -1)) (decide (updI r 3 v 3 ≠ -1))
    rw [show decide (updI r 3 v 3 ≠ -1) = true from decide_eq_true x1]
    rfl
  · rw [e _ _ (by omega) (by omega)]; exact d3.2.1
  · rw [e _ _ (by omega) (by omega)]; exact d3.2.2
  · rw [r0]; exact rowR_fr (by omega) (fun b p1 p2 j => e _ _ (by omega) (by omega)) d4
  · rw [r0]; exact d5
  · rw [r0] at h1; rw [e _ _ (by omega) (by omega)]; exact d6 t h1 h2
set_option maxHeartbeats 600000 in
set_option maxRecDepth 20000 in
theorem setC_3 {M : Mm} {g f r : Nat → Int} {E a : Nat} {kb hb : Int} (hE : E ≤ 900) (ha : a ≤ 900) (h : tsC M g E a) (D : drC M f r kb hb) (hi : rdI r kb hb) : CallI m_Reader_readSetting [.inr 1, .inl 2, .inl 0, .inl 50] M (fun x M' => clQ M g E (clW g E a 3 f r kb hb) x M') := by
  obtain ⟨hr, -⟩ := id hi
  have eC : clW g E a 3 f r kb hb = if r 3 ≠ -1 then (4, a, f, r, kb, hb) else if nmF g E (nxT g E a) 0 50 ≠ 0 then (nmF g E (nxT g E a) 0 50, nxT g E a, f, r, kb, hb) else enS g E (nxT g E (nxT g E a)) f (updI r 3 (nmN g E (nxT g E a))) kb hb := clW_3
  have SB := (stb_ok (decide (r 1 ≠ -1)) (decide (r 2 ≠ -1)) (decide (r 3 ≠ -1))).2.2.1
  rw [← D.2.2.1.1] at SB
  by_cases c1 : r 3 = -1
  · rw [if_neg (fun z => z c1)] at eC
    rw [decide_eq_false (fun z => z c1)] at SB
    have SB0 : bAnd (bShr (M 1 9) 2) 1 = 0 := SB
    have b9 := nxT_le (g := g) hE ha
    have N := numC_ok (lo := 0) (hi := 50) h hE ha ⟨by omega, by omega⟩ ⟨by omega, by omega⟩
    have i1 := nmF_in g E (nxT g E a) 0 50
    refine callP_of (by decide) (by decide) (Nat.le_of_ble_eq_true rfl) (wpm_of (cuts := []) (by decide) 60 _ _ _ _ ?_)
    rw [show lM m_Reader_readSetting = 5 from rfl]
    simp (maxSteps := 2000000) only [↓reduceIte, wp_eq, wpd_eq, kont_eq, STP1, STP2, STP3, STP4, STP5, konM_eq, AMK, CZ, Option.map, List.getElem?_cons_zero, List.getElem?_cons_succ, List.mem_cons, List.not_mem_nil, if_false, if_true, Nat.reduceAdd, Nat.reduceLT, Nat.reduceLeDiff, Nat.reduceEqDiff, true_and, and_true, List.length_nil, List.length_cons, or_true, true_or, or_false, false_or, Option.some.injEq, Sum.inl.injEq, Sum.inr.injEq, exists_eq_left', exists_eq_left, Int.reduceLE, Int.reduceLT, Int.reduceNeg, Int.reduceAdd, Int.reduceMul, Int.reduceSub, Int.reduceToNat, inR, Nat.zero_ne_one, false_and, Nat.succ_ne_zero, reduceCtorEq, false_implies, true_implies, not_false_eq_true, not_true_eq_false, Int.reduceEq, KRE, C_Reader_readSetting, FD, L3, SB0]
    repeat (first | refine And.intro (by omega) ?_ | refine And.intro (fun _ _ => okt_nn (by omega)) ?_)
    refine N.mono (fun x M1 z => ?_)
    obtain ⟨rfl, F1, T1⟩ := z
    have F1' : FrP clP M M1 := clP_st FrP.rf F1
    have D1 := drC_st hr D F1
    by_cases cF : nmF g E (nxT g E a) 0 50 = 0
    · rw [if_neg (fun z => z cF)] at eC
      rw [eC]
      have k2 := (kd_all g E (nxT g E a)).2.1.mpr (nmF_2 cF)
      obtain ⟨n1, n2, n3⟩ := T1.2.2.2.2.2.2 k2
      have nb := nmN_in cF
      have D2 := drC_s3 (v := nmN g E (nxT g E a)) D1 hr nb
      have T2 : tsC (mset (mset M1 1 9 (bOr (M1 1 9) (bShl 1 2))) 3 (4 + 2) (nmN g E (nxT g E a))) g E (nxT g E a) := tsC_mv T1 (fun b j z => (if_neg (by omega)).trans (if_neg (by omega)))
      have F2 : FrP clP M (mset (mset M1 1 9 (bOr (M1 1 9) (bShl 1 2))) 3 (4 + 2) (nmN g E (nxT g E a))) := (F1'.st (by unfold clP; omega)).st (by unfold clP; omega)
      have EN := endQ (M0 := M) hE b9 (show 0 ≤ updI r 3 (nmN g E (nxT g E a)) 0 ∧ updI r 3 (nmN g E (nxT g E a)) 0 ≤ 8 from hr) T2 D2 F2
      have e8 : mset M1 1 9 (bOr (M1 1 9) (bShl 1 2)) 1 8 = nmN g E (nxT g E a) := by rw [← n1]; simp [mset]
      have CH : CallV m_Stock_change [.inr 3, .inl 2, .inl (nmN g E (nxT g E a))] (mset M1 1 9 (bOr (M1 1 9) (bShl 1 2))) (fun M' => M' = mset (mset M1 1 9 (bOr (M1 1 9) (bShl 1 2))) 3 (4 + 2) (nmN g E (nxT g E a))) := Stock_change_ok isStk_3 (by omega)
      have kcS : kc (lay 3) 8 = True := by rw [isStk_3.1]; exact eq_true rfl
      try simp (maxSteps := 2000000) only [↓reduceIte, wp_eq, wpd_eq, kont_eq, STP1, STP2, STP3, STP4, STP5, konM_eq, AMK, CZ, Option.map, List.getElem?_cons_zero, List.getElem?_cons_succ, List.mem_cons, List.not_mem_nil, if_false, if_true, Nat.reduceAdd, Nat.reduceLT, Nat.reduceLeDiff, Nat.reduceEqDiff, true_and, and_true, List.length_nil, List.length_cons, or_true, true_or, or_false, false_or, Option.some.injEq, Sum.inl.injEq, Sum.inr.injEq, exists_eq_left', exists_eq_left, Int.reduceLE, Int.reduceLT, Int.reduceNeg, Int.reduceAdd, Int.reduceMul, Int.reduceSub, Int.reduceToNat, inR, Nat.zero_ne_one, false_and, Nat.succ_ne_zero, reduceCtorEq, false_implies, true_implies, not_false_eq_true, not_true_eq_false, Int.reduceEq, KRE, C_Reader_readSetting, FD, L3, cF, e8, kcS]
      repeat (first | refine And.intro (by omega) ?_ | refine And.intro (fun _ _ => okt_nn (by omega)) ?_)
      refine CH.eq ?_
      try simp (maxSteps := 2000000) only [↓reduceIte, wp_eq, wpd_eq, kont_eq, STP1, STP2, STP3, STP4, STP5, konM_eq, AMK, CZ, Option.map, List.getElem?_cons_zero, List.getElem?_cons_succ, List.mem_cons, List.not_mem_nil, if_false, if_true, Nat.reduceAdd, Nat.reduceLT, Nat.reduceLeDiff, Nat.reduceEqDiff, true_and, and_true, List.length_nil, List.length_cons, or_true, true_or, or_false, false_or, Option.some.injEq, Sum.inl.injEq, Sum.inr.injEq, exists_eq_left', exists_eq_left, Int.reduceLE, Int.reduceLT, Int.reduceNeg, Int.reduceAdd, Int.reduceMul, Int.reduceSub, Int.reduceToNat, inR, Nat.zero_ne_one, false_and, Nat.succ_ne_zero, reduceCtorEq, false_implies, true_implies, not_false_eq_true, not_true_eq_false, Int.reduceEq, KRE, C_Reader_readSetting, FD, L3]
      repeat (first | refine And.intro (by omega) ?_ | refine And.intro (fun _ _ => okt_nn (by omega)) ?_)
      refine EN.mono (fun x M' w => ?_)
      try simp (maxSteps := 2000000) only [↓reduceIte, wp_eq, wpd_eq, kont_eq, STP1, STP2, STP3, STP4, STP5, konM_eq, AMK, CZ, Option.map, List.getElem?_cons_zero, List.getElem?_cons_succ, List.mem_cons, List.not_mem_nil, if_false, if_true, Nat.reduceAdd, Nat.reduceLT, Nat.reduceLeDiff, Nat.reduceEqDiff, true_and, and_true, List.length_nil, List.length_cons, or_true, true_or, or_false, false_or, Option.some.injEq, Sum.inl.injEq, Sum.inr.injEq, exists_eq_left', exists_eq_left, Int.reduceLE, Int.reduceLT, Int.reduceNeg, Int.reduceAdd, Int.reduceMul, Int.reduceSub, Int.reduceToNat, inR, Nat.zero_ne_one, false_and, Nat.succ_ne_zero, reduceCtorEq, false_implies, true_implies, not_false_eq_true, not_true_eq_false, Int.reduceEq, KRE, C_Reader_readSetting, FD, L3]
      repeat (first | refine And.intro (by omega) ?_ | refine And.intro (fun _ _ => okt_nn (by omega)) ?_)
      all_goals first | exact w | exact ⟨by omega, w⟩ | exact ⟨_, rfl, w⟩
    · rw [if_pos cF] at eC
      rw [eC]
      have R : clQ M g E (nmF g E (nxT g E a) 0 50, nxT g E a, f, r, kb, hb) (nmF g E (nxT g E a) 0 50) M1 := clQ_bad (S := (nmF g E (nxT g E a) 0 50, nxT g E a, f, r, kb, hb)) F1' D1.1 cF T1.2.2.2.1
      have q3 := eq_false cF
      generalize hX : clQ M g E (nmF g E (nxT g E a) 0 50, nxT g E a, f, r, kb, hb) = X at *
      generalize nmF g E (nxT g E a) 0 50 = cc at *
      try simp (maxSteps := 2000000) only [↓reduceIte, wp_eq, wpd_eq, kont_eq, STP1, STP2, STP3, STP4, STP5, konM_eq, AMK, CZ, Option.map, List.getElem?_cons_zero, List.getElem?_cons_succ, List.mem_cons, List.not_mem_nil, if_false, if_true, Nat.reduceAdd, Nat.reduceLT, Nat.reduceLeDiff, Nat.reduceEqDiff, true_and, and_true, List.length_nil, List.length_cons, or_true, true_or, or_false, false_or, Option.some.injEq, Sum.inl.injEq, Sum.inr.injEq, exists_eq_left', exists_eq_left, Int.reduceLE, Int.reduceLT, Int.reduceNeg, Int.reduceAdd, Int.reduceMul, Int.reduceSub, Int.reduceToNat, inR, Nat.zero_ne_one, false_and, Nat.succ_ne_zero, reduceCtorEq, false_implies, true_implies, not_false_eq_true, not_true_eq_false, Int.reduceEq, KRE, C_Reader_readSetting, FD, L3, q3]
      repeat (first | refine And.intro (by omega) ?_ | refine And.intro (fun _ _ => okt_nn (by omega)) ?_)
      all_goals first | exact R | exact ⟨by omega, R⟩ | exact ⟨_, rfl, R⟩
  · rw [if_pos c1] at eC
    rw [decide_eq_true c1] at SB
    have SB0 : bAnd (bShr (M 1 9) 2) 1 = 1 := SB
    rw [eC]
    have R : clQ M g E (4, a, f, r, kb, hb) 4 M := clQ_bad (S := (4, a, f, r, kb, hb)) FrP.rf D.1 (by show (4 : Int) ≠ 0; omega) h.2.2.2.1
    generalize hX : clQ M g E (4, a, f, r, kb, hb) = X at *
    refine callP_of (by decide) (by decide) (Nat.le_of_ble_eq_true rfl) (wpm_of (cuts := []) (by decide) 60 _ _ _ _ ?_)
    rw [show lM m_Reader_readSetting = 5 from rfl]
    simp (maxSteps := 2000000) only [↓reduceIte, wp_eq, wpd_eq, kont_eq, STP1, STP2, STP3, STP4, STP5, konM_eq, AMK, CZ, Option.map, List.getElem?_cons_zero, List.getElem?_cons_succ, List.mem_cons, List.not_mem_nil, if_false, if_true, Nat.reduceAdd, Nat.reduceLT, Nat.reduceLeDiff, Nat.reduceEqDiff, true_and, and_true, List.length_nil, List.length_cons, or_true, true_or, or_false, false_or, Option.some.injEq, Sum.inl.injEq, Sum.inr.injEq, exists_eq_left', exists_eq_left, Int.reduceLE, Int.reduceLT, Int.reduceNeg, Int.reduceAdd, Int.reduceMul, Int.reduceSub, Int.reduceToNat, inR, Nat.zero_ne_one, false_and, Nat.succ_ne_zero, reduceCtorEq, false_implies, true_implies, not_false_eq_true, not_true_eq_false, Int.reduceEq, KRE, C_Reader_readSetting, FD, L3, SB0]
    repeat (first | refine And.intro (by omega) ?_ | refine And.intro (fun _ _ => okt_nn (by omega)) ?_)
    all_goals first | exact R | exact ⟨by omega, R⟩ | exact ⟨_, rfl, R⟩
set_option maxHeartbeats 600000 in
set_option maxRecDepth 20000 in
theorem clsC_4 {M : Mm} {g f r : Nat → Int} {E a : Nat} {kb hb : Int} (hE : E ≤ 900) (ha : a ≤ 900) (h : tsC M g E a) (D : drC M f r kb hb) (hi : rdI r kb hb) : CallI m_Reader_readKnown [.inr 1] M (fun x M' => clQ M g E (clW g E a 4 f r kb hb) x M') := by
  obtain ⟨hr, -⟩ := id hi
  have b9 := nxT_le (g := g) hE ha
  have c9 := nxT_le (g := g) hE b9
  have eC : clW g E a 4 f r kb hb = if tnF g E (nxT g E a) (r 0) kb ≠ 0 then (tnF g E (nxT g E a) (r 0) kb, nxT g E a, f, r, kb, hb) else if nmF g E (nxT g E (nxT g E a)) 0 900 ≠ 0 then (nmF g E (nxT g E (nxT g E a)) 0 900, nxT g E (nxT g E a), f, r, kb, hb) else enS g E (nxT g E (nxT g E (nxT g E a))) (updI f (30 * (nmN g E (nxT g E a)).toNat + 4) (nmN g E (nxT g E (nxT g E a)))) r (bOr kb (bShl 1 (nmN g E (nxT g E a)))) (hb) := clW_4
  have N1 := numC_ok (lo := 0) (hi := 7) h hE ha ⟨by omega, by omega⟩ ⟨by omega, by omega⟩
  have i1 := nmF_in g E (nxT g E a) 0 7
  have it := tnF_in g E (nxT g E a) (r 0) kb
  have kcS : kc (lay 3) 8 = True := by rw [isStk_3.1]; exact eq_true rfl
  refine callP_of (by decide) (by decide) (Nat.le_of_ble_eq_true rfl) (wpm_of (cuts := []) (by decide) 60 _ _ _ _ ?_)
  rw [show lM m_Reader_readKnown = 3 from rfl]
  simp (maxSteps := 2000000) only [↓reduceIte, wp_eq, wpd_eq, kont_eq, STP1, STP2, STP3, STP4, STP5, konM_eq, AMK, CZ, Option.map, List.getElem?_cons_zero, List.getElem?_cons_succ, List.mem_cons, List.not_mem_nil, if_false, if_true, Nat.reduceAdd, Nat.reduceLT, Nat.reduceLeDiff, Nat.reduceEqDiff, true_and, and_true, List.length_nil, List.length_cons, or_true, true_or, or_false, false_or, Option.some.injEq, Sum.inl.injEq, Sum.inr.injEq, exists_eq_left', exists_eq_left, Int.reduceLE, Int.reduceLT, Int.reduceNeg, Int.reduceAdd, Int.reduceMul, Int.reduceSub, Int.reduceToNat, inR, Nat.zero_ne_one, false_and, Nat.succ_ne_zero, reduceCtorEq, false_implies, true_implies, not_false_eq_true, not_true_eq_false, Int.reduceEq, KRE, C_Reader_readKnown, FD, L3]
  repeat (first | refine And.intro (by omega) ?_ | refine And.intro (fun _ _ => okt_nn (by omega)) ?_)
  refine N1.mono (fun x M1 z => ?_)
  obtain ⟨rfl, F1, T1⟩ := z
  have F1' : FrP clP M M1 := clP_st FrP.rf F1
  have D1 := drC_st hr D F1
  by_cases cF : nmF g E (nxT g E a) 0 7 = 0
  · have eT : tnF g E (nxT g E a) (r 0) kb = if r 0 ≤ nmN g E (nxT g E a) then 3 else if bAnd (bShr kb (nmN g E (nxT g E a))) 1 = 1 then 4 else 0 := if_neg (fun z => z cF)
    have k2 := (kd_all g E (nxT g E a)).2.1.mpr (nmF_2 cF)
    obtain ⟨n1, n2, n3⟩ := T1.2.2.2.2.2.2 k2
    have nb := nmN_in cF
    have WN := whyC_ok (set := kb) D1.1 D1.2.1.1 n1 nb
    rw [← eT] at WN
    have eS : M1 1 10 = kb := D1.2.2.1.2.1
    try simp (maxSteps := 2000000) only [↓reduceIte, wp_eq, wpd_eq, kont_eq, STP1, STP2, STP3, STP4, STP5, konM_eq, AMK, CZ, Option.map, List.getElem?_cons_zero, List.getElem?_cons_succ, List.mem_cons, List.not_mem_nil, if_false, if_true, Nat.reduceAdd, Nat.reduceLT, Nat.reduceLeDiff, Nat.reduceEqDiff, true_and, and_true, List.length_nil, List.length_cons, or_true, true_or, or_false, false_or, Option.some.injEq, Sum.inl.injEq, Sum.inr.injEq, exists_eq_left', exists_eq_left, Int.reduceLE, Int.reduceLT, Int.reduceNeg, Int.reduceAdd, Int.reduceMul, Int.reduceSub, Int.reduceToNat, inR, Nat.zero_ne_one, false_and, Nat.succ_ne_zero, reduceCtorEq, false_implies, true_implies, not_false_eq_true, not_true_eq_false, Int.reduceEq, KRE, C_Reader_readKnown, FD, L3, cF, eS]
    repeat (first | refine And.intro (by omega) ?_ | refine And.intro (fun _ _ => okt_nn (by omega)) ?_)
    refine WN.eq ?_
    by_cases cT : tnF g E (nxT g E a) (r 0) kb = 0
    · rw [if_neg (fun z => z cT)] at eC
      have tn : nmN g E (nxT g E a) < r 0 := by
        rw [cT] at eT
        by_cases z : r 0 ≤ nmN g E (nxT g E a)
        · rw [if_pos z] at eT; omega
        · omega
      have N2 := numC_ok (lo := 0) (hi := 900) T1 hE b9 ⟨by omega, by omega⟩ ⟨by omega, by omega⟩
      have i2 := nmF_in g E (nxT g E (nxT g E a)) 0 900
      try simp (maxSteps := 2000000) only [↓reduceIte, wp_eq, wpd_eq, kont_eq, STP1, STP2, STP3, STP4, STP5, konM_eq, AMK, CZ, Option.map, List.getElem?_cons_zero, List.getElem?_cons_succ, List.mem_cons, List.not_mem_nil, if_false, if_true, Nat.reduceAdd, Nat.reduceLT, Nat.reduceLeDiff, Nat.reduceEqDiff, true_and, and_true, List.length_nil, List.length_cons, or_true, true_or, or_false, false_or, Option.some.injEq, Sum.inl.injEq, Sum.inr.injEq, exists_eq_left', exists_eq_left, Int.reduceLE, Int.reduceLT, Int.reduceNeg, Int.reduceAdd, Int.reduceMul, Int.reduceSub, Int.reduceToNat, inR, Nat.zero_ne_one, false_and, Nat.succ_ne_zero, reduceCtorEq, false_implies, true_implies, not_false_eq_true, not_true_eq_false, Int.reduceEq, KRE, C_Reader_readKnown, FD, L3, cT, n1]
      repeat (first | refine And.intro (by omega) ?_ | refine And.intro (fun _ _ => okt_nn (by omega)) ?_)
      refine N2.mono (fun x M2 z => ?_)
      obtain ⟨rfl, F2, T2⟩ := z
      have F2' := clP_st F1' F2
      have D2 := drC_st hr D1 F2
      by_cases cG : nmF g E (nxT g E (nxT g E a)) 0 900 = 0
      · rw [if_neg (fun z => z cG)] at eC
        rw [eC]
        have k22 := (kd_all g E (nxT g E (nxT g E a))).2.1.mpr (nmF_2 cG)
        obtain ⟨m1, m2, m3⟩ := T2.2.2.2.2.2.2 k22
        have mb := nmN_in cG
        have eS2 : M2 1 10 = kb := D2.2.2.1.2.1
        obtain ⟨tt, ett⟩ : ∃ tt : Nat, nmN g E (nxT g E a) = tt := ⟨(nmN g E (nxT g E a)).toNat, by omega⟩
        rw [ett, show ((tt : Nat) : Int).toNat = tt from rfl]
        rw [ett] at tn nb
        have tl : tt < (r 0).toNat := by omega
        have D3 := drC_yr (kb' := bOr kb (bShl 1 tt)) (v := nmN g E (nxT g E (nxT g E a))) D2 hr tl mb
        have e8 : mset M2 1 10 (bOr kb (bShl 1 tt)) 1 8 = nmN g E (nxT g E (nxT g E a)) := by rw [← m1]; simp [mset]
        have T3 : tsC (mset (mset M2 1 10 (bOr kb (bShl 1 tt))) 8 tt (nmN g E (nxT g E (nxT g E a)))) g E (nxT g E (nxT g E a)) := tsC_mv T2 (fun b j z => (if_neg (by omega)).trans (if_neg (by omega)))
        have F3 : FrP clP M (mset (mset M2 1 10 (bOr kb (bShl 1 tt))) 8 tt (nmN g E (nxT g E (nxT g E a)))) := (F2'.st (by unfold clP; omega)).st (by unfold clP; omega)
        have EN := endQ (M0 := M) hE c9 hr T3 D3 F3
        have w3 : wfS (mset M2 1 10 (bOr kb (bShl 1 tt))) 3 := wfS_cells (fun b p1 p2 j => if_neg (by omega)) D2.1
        have s3 : mset M2 1 10 (bOr kb (bShl 1 tt)) 3 3 = r 0 := by rw [← D2.2.1.1]; simp [mset]
        have SY := Stock_setYear_ok (s := 3) (t := (tt : Int)) (y := nmN g E (nxT g E (nxT g E a))) isStk_3 ⟨by omega, by omega⟩ w3
        rw [s3, if_pos (by omega)] at SY
        have SY' : CallV m_Stock_setYear [.inr 3, .inl (tt : Int), .inl (nmN g E (nxT g E (nxT g E a)))] (mset M2 1 10 (bOr kb (bShl 1 tt))) (fun M' => M' = mset (mset M2 1 10 (bOr kb (bShl 1 tt))) 8 tt (nmN g E (nxT g E (nxT g E a)))) := SY
        try simp (maxSteps := 2000000) only [↓reduceIte, wp_eq, wpd_eq, kont_eq, STP1, STP2, STP3, STP4, STP5, konM_eq, AMK, CZ, Option.map, List.getElem?_cons_zero, List.getElem?_cons_succ, List.mem_cons, List.not_mem_nil, if_false, if_true, Nat.reduceAdd, Nat.reduceLT, Nat.reduceLeDiff, Nat.reduceEqDiff, true_and, and_true, List.length_nil, List.length_cons, or_true, true_or, or_false, false_or, Option.some.injEq, Sum.inl.injEq, Sum.inr.injEq, exists_eq_left', exists_eq_left, Int.reduceLE, Int.reduceLT, Int.reduceNeg, Int.reduceAdd, Int.reduceMul, Int.reduceSub, Int.reduceToNat, inR, Nat.zero_ne_one, false_and, Nat.succ_ne_zero, reduceCtorEq, false_implies, true_implies, not_false_eq_true, not_true_eq_false, Int.reduceEq, KRE, C_Reader_readKnown, FD, L3, cG, eS2, ett, e8, kcS]
        repeat (first | refine And.intro (by omega) ?_ | refine And.intro (fun _ _ => okt_nn (by omega)) ?_)
        refine SY'.eq ?_
        try simp (maxSteps := 2000000) only [↓reduceIte, wp_eq, wpd_eq, kont_eq, STP1, STP2, STP3, STP4, STP5, konM_eq, AMK, CZ, Option.map, List.getElem?_cons_zero, List.getElem?_cons_succ, List.mem_cons, List.not_mem_nil, if_false, if_true, Nat.reduceAdd, Nat.reduceLT, Nat.reduceLeDiff, Nat.reduceEqDiff, true_and, and_true, List.length_nil, List.length_cons, or_true, true_or, or_false, false_or, Option.some.injEq, Sum.inl.injEq, Sum.inr.injEq, exists_eq_left', exists_eq_left, Int.reduceLE, Int.reduceLT, Int.reduceNeg, Int.reduceAdd, Int.reduceMul, Int.reduceSub, Int.reduceToNat, inR, Nat.zero_ne_one, false_and, Nat.succ_ne_zero, reduceCtorEq, false_implies, true_implies, not_false_eq_true, not_true_eq_false, Int.reduceEq, KRE, C_Reader_readKnown, FD, L3]
        repeat (first | refine And.intro (by omega) ?_ | refine And.intro (fun _ _ => okt_nn (by omega)) ?_)
        refine EN.mono (fun x M' w => ?_)
        try simp (maxSteps := 2000000) only [↓reduceIte, wp_eq, wpd_eq, kont_eq, STP1, STP2, STP3, STP4, STP5, konM_eq, AMK, CZ, Option.map, List.getElem?_cons_zero, List.getElem?_cons_succ, List.mem_cons, List.not_mem_nil, if_false, if_true, Nat.reduceAdd, Nat.reduceLT, Nat.reduceLeDiff, Nat.reduceEqDiff, true_and, and_true, List.length_nil, List.length_cons, or_true, true_or, or_false, false_or, Option.some.injEq, Sum.inl.injEq, Sum.inr.injEq, exists_eq_left', exists_eq_left, Int.reduceLE, Int.reduceLT, Int.reduceNeg, Int.reduceAdd, Int.reduceMul, Int.reduceSub, Int.reduceToNat, inR, Nat.zero_ne_one, false_and, Nat.succ_ne_zero, reduceCtorEq, false_implies, true_implies, not_false_eq_true, not_true_eq_false, Int.reduceEq, KRE, C_Reader_readKnown, FD, L3]
        repeat (first | refine And.intro (by omega) ?_ | refine And.intro (fun _ _ => okt_nn (by omega)) ?_)
        all_goals first | exact w | exact ⟨by omega, w⟩ | exact ⟨_, rfl, w⟩
      · rw [if_pos cG] at eC
        rw [eC]
        have R : clQ M g E (nmF g E (nxT g E (nxT g E a)) 0 900, nxT g E (nxT g E a), f, r, kb, hb) (nmF g E (nxT g E (nxT g E a)) 0 900) M2 := clQ_bad (S := (nmF g E (nxT g E (nxT g E a)) 0 900, nxT g E (nxT g E a), f, r, kb, hb)) F2' D2.1 cG T2.2.2.2.1
        have q3 := eq_false cG
        generalize hX : clQ M g E (nmF g E (nxT g E (nxT g E a)) 0 900, nxT g E (nxT g E a), f, r, kb, hb) = X at *
        generalize nmF g E (nxT g E (nxT g E a)) 0 900 = cc at *
        try simp (maxSteps := 2000000) only [↓reduceIte, wp_eq, wpd_eq, kont_eq, STP1, STP2, STP3, STP4, STP5, konM_eq, AMK, CZ, Option.map, List.getElem?_cons_zero, List.getElem?_cons_succ, List.mem_cons, List.not_mem_nil, if_false, if_true, Nat.reduceAdd, Nat.reduceLT, Nat.reduceLeDiff, Nat.reduceEqDiff, true_and, and_true, List.length_nil, List.length_cons, or_true, true_or, or_false, false_or, Option.some.injEq, Sum.inl.injEq, Sum.inr.injEq, exists_eq_left', exists_eq_left, Int.reduceLE, Int.reduceLT, Int.reduceNeg, Int.reduceAdd, Int.reduceMul, Int.reduceSub, Int.reduceToNat, inR, Nat.zero_ne_one, false_and, Nat.succ_ne_zero, reduceCtorEq, false_implies, true_implies, not_false_eq_true, not_true_eq_false, Int.reduceEq, KRE, C_Reader_readKnown, FD, L3, q3]
        repeat (first | refine And.intro (by omega) ?_ | refine And.intro (fun _ _ => okt_nn (by omega)) ?_)
        all_goals first | exact R | exact ⟨by omega, R⟩ | exact ⟨_, rfl, R⟩
    · rw [if_pos cT] at eC
      rw [eC]
      have R : clQ M g E (tnF g E (nxT g E a) (r 0) kb, nxT g E a, f, r, kb, hb) (tnF g E (nxT g E a) (r 0) kb) M1 := clQ_bad (S := (tnF g E (nxT g E a) (r 0) kb, nxT g E a, f, r, kb, hb)) F1' D1.1 cT T1.2.2.2.1
      have q3 := eq_false cT
      generalize hX : clQ M g E (tnF g E (nxT g E a) (r 0) kb, nxT g E a, f, r, kb, hb) = X at *
      generalize tnF g E (nxT g E a) (r 0) kb = cc at *
      try simp (maxSteps := 2000000) only [↓reduceIte, wp_eq, wpd_eq, kont_eq, STP1, STP2, STP3, STP4, STP5, konM_eq, AMK, CZ, Option.map, List.getElem?_cons_zero, List.getElem?_cons_succ, List.mem_cons, List.not_mem_nil, if_false, if_true, Nat.reduceAdd, Nat.reduceLT, Nat.reduceLeDiff, Nat.reduceEqDiff, true_and, and_true, List.length_nil, List.length_cons, or_true, true_or, or_false, false_or, Option.some.injEq, Sum.inl.injEq, Sum.inr.injEq, exists_eq_left', exists_eq_left, Int.reduceLE, Int.reduceLT, Int.reduceNeg, Int.reduceAdd, Int.reduceMul, Int.reduceSub, Int.reduceToNat, inR, Nat.zero_ne_one, false_and, Nat.succ_ne_zero, reduceCtorEq, false_implies, true_implies, not_false_eq_true, not_true_eq_false, Int.reduceEq, KRE, C_Reader_readKnown, FD, L3, q3]
      repeat (first | refine And.intro (by omega) ?_ | refine And.intro (fun _ _ => okt_nn (by omega)) ?_)
      all_goals first | exact R | exact ⟨by omega, R⟩ | exact ⟨_, rfl, R⟩
  · have eT : tnF g E (nxT g E a) (r 0) kb = nmF g E (nxT g E a) 0 7 := if_pos cF
    rw [eT, if_pos cF] at eC
    rw [eC]
    have R : clQ M g E (nmF g E (nxT g E a) 0 7, nxT g E a, f, r, kb, hb) (nmF g E (nxT g E a) 0 7) M1 := clQ_bad (S := (nmF g E (nxT g E a) 0 7, nxT g E a, f, r, kb, hb)) F1' D1.1 cF T1.2.2.2.1
    have q3 := eq_false cF
    generalize hX : clQ M g E (nmF g E (nxT g E a) 0 7, nxT g E a, f, r, kb, hb) = X at *
    generalize nmF g E (nxT g E a) 0 7 = cc at *
    try simp (maxSteps := 2000000) only [↓reduceIte, wp_eq, wpd_eq, kont_eq, STP1, STP2, STP3, STP4, STP5, konM_eq, AMK, CZ, Option.map, List.getElem?_cons_zero, List.getElem?_cons_succ, List.mem_cons, List.not_mem_nil, if_false, if_true, Nat.reduceAdd, Nat.reduceLT, Nat.reduceLeDiff, Nat.reduceEqDiff, true_and, and_true, List.length_nil, List.length_cons, or_true, true_or, or_false, false_or, Option.some.injEq, Sum.inl.injEq, Sum.inr.injEq, exists_eq_left', exists_eq_left, Int.reduceLE, Int.reduceLT, Int.reduceNeg, Int.reduceAdd, Int.reduceMul, Int.reduceSub, Int.reduceToNat, inR, Nat.zero_ne_one, false_and, Nat.succ_ne_zero, reduceCtorEq, false_implies, true_implies, not_false_eq_true, not_true_eq_false, Int.reduceEq, KRE, C_Reader_readKnown, FD, L3, q3]
    repeat (first | refine And.intro (by omega) ?_ | refine And.intro (fun _ _ => okt_nn (by omega)) ?_)
    all_goals first | exact R | exact ⟨by omega, R⟩ | exact ⟨_, rfl, R⟩
set_option maxHeartbeats 600000 in
set_option maxRecDepth 20000 in
theorem clsC_5 {M : Mm} {g f r : Nat → Int} {E a : Nat} {kb hb : Int} (hE : E ≤ 900) (ha : a ≤ 900) (h : tsC M g E a) (D : drC M f r kb hb) (hi : rdI r kb hb) : CallI m_Reader_readHouse [.inr 1] M (fun x M' => clQ M g E (clW g E a 5 f r kb hb) x M') := by
  obtain ⟨hr, -⟩ := id hi
  have b9 := nxT_le (g := g) hE ha
  have c9 := nxT_le (g := g) hE b9
  have eC : clW g E a 5 f r kb hb = if tnF g E (nxT g E a) (r 0) hb ≠ 0 then (tnF g E (nxT g E a) (r 0) hb, nxT g E a, f, r, kb, hb) else if nmF g E (nxT g E (nxT g E a)) 0 3 ≠ 0 then (nmF g E (nxT g E (nxT g E a)) 0 3, nxT g E (nxT g E a), f, r, kb, hb) else enS g E (nxT g E (nxT g E (nxT g E a))) (updI f (30 * (nmN g E (nxT g E a)).toNat + 3) (nmN g E (nxT g E (nxT g E a)))) r (kb) (bOr hb (bShl 1 (nmN g E (nxT g E a)))) := clW_5
  have N1 := numC_ok (lo := 0) (hi := 7) h hE ha ⟨by omega, by omega⟩ ⟨by omega, by omega⟩
  have i1 := nmF_in g E (nxT g E a) 0 7
  have it := tnF_in g E (nxT g E a) (r 0) hb
  have kcS : kc (lay 3) 8 = True := by rw [isStk_3.1]; exact eq_true rfl
  refine callP_of (by decide) (by decide) (Nat.le_of_ble_eq_true rfl) (wpm_of (cuts := []) (by decide) 60 _ _ _ _ ?_)
  rw [show lM m_Reader_readHouse = 3 from rfl]
  simp (maxSteps := 2000000) only [↓reduceIte, wp_eq, wpd_eq, kont_eq, STP1, STP2, STP3, STP4, STP5, konM_eq, AMK, CZ, Option.map, List.getElem?_cons_zero, List.getElem?_cons_succ, List.mem_cons, List.not_mem_nil, if_false, if_true, Nat.reduceAdd, Nat.reduceLT, Nat.reduceLeDiff, Nat.reduceEqDiff, true_and, and_true, List.length_nil, List.length_cons, or_true, true_or, or_false, false_or, Option.some.injEq, Sum.inl.injEq, Sum.inr.injEq, exists_eq_left', exists_eq_left, Int.reduceLE, Int.reduceLT, Int.reduceNeg, Int.reduceAdd, Int.reduceMul, Int.reduceSub, Int.reduceToNat, inR, Nat.zero_ne_one, false_and, Nat.succ_ne_zero, reduceCtorEq, false_implies, true_implies, not_false_eq_true, not_true_eq_false, Int.reduceEq, KRE, C_Reader_readHouse, FD, L3]
  repeat (first | refine And.intro (by omega) ?_ | refine And.intro (fun _ _ => okt_nn (by omega)) ?_)
  refine N1.mono (fun x M1 z => ?_)
  obtain ⟨rfl, F1, T1⟩ := z
  have F1' : FrP clP M M1 := clP_st FrP.rf F1
  have D1 := drC_st hr D F1
  by_cases cF : nmF g E (nxT g E a) 0 7 = 0
  · have eT : tnF g E (nxT g E a) (r 0) hb = if r 0 ≤ nmN g E (nxT g E a) then 3 else if bAnd (bShr hb (nmN g E (nxT g E a))) 1 = 1 then 4 else 0 := if_neg (fun z => z cF)
    have k2 := (kd_all g E (nxT g E a)).2.1.mpr (nmF_2 cF)
    obtain ⟨n1, n2, n3⟩ := T1.2.2.2.2.2.2 k2
    have nb := nmN_in cF
    have WN := whyC_ok (set := hb) D1.1 D1.2.1.1 n1 nb
    rw [← eT] at WN
    have eS : M1 1 11 = hb := D1.2.2.1.2.2
    try simp (maxSteps := 2000000) only [↓reduceIte, wp_eq, wpd_eq, kont_eq, STP1, STP2, STP3, STP4, STP5, konM_eq, AMK, CZ, Option.map, List.getElem?_cons_zero, List.getElem?_cons_succ, List.mem_cons, List.not_mem_nil, if_false, if_true, Nat.reduceAdd, Nat.reduceLT, Nat.reduceLeDiff, Nat.reduceEqDiff, true_and, and_true, List.length_nil, List.length_cons, or_true, true_or, or_false, false_or, Option.some.injEq, Sum.inl.injEq, Sum.inr.injEq, exists_eq_left', exists_eq_left, Int.reduceLE, Int.reduceLT, Int.reduceNeg, Int.reduceAdd, Int.reduceMul, Int.reduceSub, Int.reduceToNat, inR, Nat.zero_ne_one, false_and, Nat.succ_ne_zero, reduceCtorEq, false_implies, true_implies, not_false_eq_true, not_true_eq_false, Int.reduceEq, KRE, C_Reader_readHouse, FD, L3, cF, eS]
    repeat (first | refine And.intro (by omega) ?_ | refine And.intro (fun _ _ => okt_nn (by omega)) ?_)
    refine WN.eq ?_
    by_cases cT : tnF g E (nxT g E a) (r 0) hb = 0
    · rw [if_neg (fun z => z cT)] at eC
      have tn : nmN g E (nxT g E a) < r 0 := by
        rw [cT] at eT
        by_cases z : r 0 ≤ nmN g E (nxT g E a)
        · rw [if_pos z] at eT; omega
        · omega
      have N2 := numC_ok (lo := 0) (hi := 3) T1 hE b9 ⟨by omega, by omega⟩ ⟨by omega, by omega⟩
      have i2 := nmF_in g E (nxT g E (nxT g E a)) 0 3
      try simp (maxSteps := 2000000) only [↓reduceIte, wp_eq, wpd_eq, kont_eq, STP1, STP2, STP3, STP4, STP5, konM_eq, AMK, CZ, Option.map, List.getElem?_cons_zero, List.getElem?_cons_succ, List.mem_cons, List.not_mem_nil, if_false, if_true, Nat.reduceAdd, Nat.reduceLT, Nat.reduceLeDiff, Nat.reduceEqDiff, true_and, and_true, List.length_nil, List.length_cons, or_true, true_or, or_false, false_or, Option.some.injEq, Sum.inl.injEq, Sum.inr.injEq, exists_eq_left', exists_eq_left, Int.reduceLE, Int.reduceLT, Int.reduceNeg, Int.reduceAdd, Int.reduceMul, Int.reduceSub, Int.reduceToNat, inR, Nat.zero_ne_one, false_and, Nat.succ_ne_zero, reduceCtorEq, false_implies, true_implies, not_false_eq_true, not_true_eq_false, Int.reduceEq, KRE, C_Reader_readHouse, FD, L3, cT, n1]
      repeat (first | refine And.intro (by omega) ?_ | refine And.intro (fun _ _ => okt_nn (by omega)) ?_)
      refine N2.mono (fun x M2 z => ?_)
      obtain ⟨rfl, F2, T2⟩ := z
      have F2' := clP_st F1' F2
      have D2 := drC_st hr D1 F2
      by_cases cG : nmF g E (nxT g E (nxT g E a)) 0 3 = 0
      · rw [if_neg (fun z => z cG)] at eC
        rw [eC]
        have k22 := (kd_all g E (nxT g E (nxT g E a))).2.1.mpr (nmF_2 cG)
        obtain ⟨m1, m2, m3⟩ := T2.2.2.2.2.2.2 k22
        have mb := nmN_in cG
        have eS2 : M2 1 11 = hb := D2.2.2.1.2.2
        obtain ⟨tt, ett⟩ : ∃ tt : Nat, nmN g E (nxT g E a) = tt := ⟨(nmN g E (nxT g E a)).toNat, by omega⟩
        rw [ett, show ((tt : Nat) : Int).toNat = tt from rfl]
        rw [ett] at tn nb
        have tl : tt < (r 0).toNat := by omega
        have D3 := drC_ho (hb' := bOr hb (bShl 1 tt)) (v := nmN g E (nxT g E (nxT g E a))) D2 hr tl mb
        have e8 : mset M2 1 11 (bOr hb (bShl 1 tt)) 1 8 = nmN g E (nxT g E (nxT g E a)) := by rw [← m1]; simp [mset]
        have T3 : tsC (mset (mset M2 1 11 (bOr hb (bShl 1 tt))) (9 + 3 * tt) 5 (nmN g E (nxT g E (nxT g E a)))) g E (nxT g E (nxT g E a)) := tsC_mv T2 (fun b j z => (if_neg (by omega)).trans (if_neg (by omega)))
        have F3 : FrP clP M (mset (mset M2 1 11 (bOr hb (bShl 1 tt))) (9 + 3 * tt) 5 (nmN g E (nxT g E (nxT g E a)))) := (F2'.st (by unfold clP; omega)).st (by unfold clP; omega)
        have EN := endQ (M0 := M) hE c9 hr T3 D3 F3
        have w3 : wfS (mset M2 1 11 (bOr hb (bShl 1 tt))) 3 := wfS_cells (fun b p1 p2 j => if_neg (by omega)) D2.1
        have s3 : mset M2 1 11 (bOr hb (bShl 1 tt)) 3 3 = r 0 := by rw [← D2.2.1.1]; simp [mset]
        have TA := Stock_timberAt_ok (s := 3) (t := (tt : Int)) isStk_3 ⟨by omega, by omega⟩ w3
        rw [tmA_k (show (tt : Int) < mset M2 1 11 (bOr hb (bShl 1 tt)) 3 3 by rw [s3]; omega), show 3 + 6 + 3 * tt = 9 + 3 * tt by omega] at TA
        have l0 := (isT (show tt < 8 by omega)).1
        try simp (maxSteps := 2000000) only [↓reduceIte, wp_eq, wpd_eq, kont_eq, STP1, STP2, STP3, STP4, STP5, konM_eq, AMK, CZ, Option.map, List.getElem?_cons_zero, List.getElem?_cons_succ, List.mem_cons, List.not_mem_nil, if_false, if_true, Nat.reduceAdd, Nat.reduceLT, Nat.reduceLeDiff, Nat.reduceEqDiff, true_and, and_true, List.length_nil, List.length_cons, or_true, true_or, or_false, false_or, Option.some.injEq, Sum.inl.injEq, Sum.inr.injEq, exists_eq_left', exists_eq_left, Int.reduceLE, Int.reduceLT, Int.reduceNeg, Int.reduceAdd, Int.reduceMul, Int.reduceSub, Int.reduceToNat, inR, Nat.zero_ne_one, false_and, Nat.succ_ne_zero, reduceCtorEq, false_implies, true_implies, not_false_eq_true, not_true_eq_false, Int.reduceEq, KRE, C_Reader_readHouse, FD, L3, cG, eS2, ett, e8, kcS]
        repeat (first | refine And.intro (by omega) ?_ | refine And.intro (fun _ _ => okt_nn (by omega)) ?_)
        refine TA.eq ?_
        try simp (maxSteps := 2000000) only [↓reduceIte, wp_eq, wpd_eq, kont_eq, STP1, STP2, STP3, STP4, STP5, konM_eq, AMK, CZ, Option.map, List.getElem?_cons_zero, List.getElem?_cons_succ, List.mem_cons, List.not_mem_nil, if_false, if_true, Nat.reduceAdd, Nat.reduceLT, Nat.reduceLeDiff, Nat.reduceEqDiff, true_and, and_true, List.length_nil, List.length_cons, or_true, true_or, or_false, false_or, Option.some.injEq, Sum.inl.injEq, Sum.inr.injEq, exists_eq_left', exists_eq_left, Int.reduceLE, Int.reduceLT, Int.reduceNeg, Int.reduceAdd, Int.reduceMul, Int.reduceSub, Int.reduceToNat, inR, Nat.zero_ne_one, false_and, Nat.succ_ne_zero, reduceCtorEq, false_implies, true_implies, not_false_eq_true, not_true_eq_false, Int.reduceEq, KRE, C_Reader_readHouse, FD, L3, e8, l0]
        repeat (first | refine And.intro (by omega) ?_ | refine And.intro (fun _ _ => okt_nn (by omega)) ?_)
        refine EN.mono (fun x M' w => ?_)
        try simp (maxSteps := 2000000) only [↓reduceIte, wp_eq, wpd_eq, kont_eq, STP1, STP2, STP3, STP4, STP5, konM_eq, AMK, CZ, Option.map, List.getElem?_cons_zero, List.getElem?_cons_succ, List.mem_cons, List.not_mem_nil, if_false, if_true, Nat.reduceAdd, Nat.reduceLT, Nat.reduceLeDiff, Nat.reduceEqDiff, true_and, and_true, List.length_nil, List.length_cons, or_true, true_or, or_false, false_or, Option.some.injEq, Sum.inl.injEq, Sum.inr.injEq, exists_eq_left', exists_eq_left, Int.reduceLE, Int.reduceLT, Int.reduceNeg, Int.reduceAdd, Int.reduceMul, Int.reduceSub, Int.reduceToNat, inR, Nat.zero_ne_one, false_and, Nat.succ_ne_zero, reduceCtorEq, false_implies, true_implies, not_false_eq_true, not_true_eq_false, Int.reduceEq, KRE, C_Reader_readHouse, FD, L3]
        repeat (first | refine And.intro (by omega) ?_ | refine And.intro (fun _ _ => okt_nn (by omega)) ?_)
        all_goals first | exact w | exact ⟨by omega, w⟩ | exact ⟨_, rfl, w⟩
      · rw [if_pos cG] at eC
        rw [eC]
        have R : clQ M g E (nmF g E (nxT g E (nxT g E a)) 0 3, nxT g E (nxT g E a), f, r, kb, hb) (nmF g E (nxT g E (nxT g E a)) 0 3) M2 := clQ_bad (S := (nmF g E (nxT g E (nxT g E a)) 0 3, nxT g E (nxT g E a), f, r, kb, hb)) F2' D2.1 cG T2.2.2.2.1
        have q3 := eq_false cG
        generalize hX : clQ M g E (nmF g E (nxT g E (nxT g E a)) 0 3, nxT g E (nxT g E a), f, r, kb, hb) = X at *
        generalize nmF g E (nxT g E (nxT g E a)) 0 3 = cc at *
        try simp (maxSteps := 2000000) only [↓reduceIte, wp_eq, wpd_eq, kont_eq, STP1, STP2, STP3, STP4, STP5, konM_eq, AMK, CZ, Option.map, List.getElem?_cons_zero, List.getElem?_cons_succ, List.mem_cons, List.not_mem_nil, if_false, if_true, Nat.reduceAdd, Nat.reduceLT, Nat.reduceLeDiff, Nat.reduceEqDiff, true_and, and_true, List.length_nil, List.length_cons, or_true, true_or, or_false, false_or, Option.some.injEq, Sum.inl.injEq, Sum.inr.injEq, exists_eq_left', exists_eq_left, Int.reduceLE, Int.reduceLT, Int.reduceNeg, Int.reduceAdd, Int.reduceMul, Int.reduceSub, Int.reduceToNat, inR, Nat.zero_ne_one, false_and, Nat.succ_ne_zero, reduceCtorEq, false_implies, true_implies, not_false_eq_true, not_true_eq_false, Int.reduceEq, KRE, C_Reader_readHouse, FD, L3, q3]
        repeat (first | refine And.intro (by omega) ?_ | refine And.intro (fun _ _ => okt_nn (by omega)) ?_)
        all_goals first | exact R | exact ⟨by omega, R⟩ | exact ⟨_, rfl, R⟩
    · rw [if_pos cT] at eC
      rw [eC]
      have R : clQ M g E (tnF g E (nxT g E a) (r 0) hb, nxT g E a, f, r, kb, hb) (tnF g E (nxT g E a) (r 0) hb) M1 := clQ_bad (S := (tnF g E (nxT g E a) (r 0) hb, nxT g E a, f, r, kb, hb)) F1' D1.1 cT T1.2.2.2.1
      have q3 := eq_false cT
      generalize hX : clQ M g E (tnF g E (nxT g E a) (r 0) hb, nxT g E a, f, r, kb, hb) = X at *
      generalize tnF g E (nxT g E a) (r 0) hb = cc at *
      try simp (maxSteps := 2000000) only [↓reduceIte, wp_eq, wpd_eq, kont_eq, STP1, STP2, STP3, STP4, STP5, konM_eq, AMK, CZ, Option.map, List.getElem?_cons_zero, List.getElem?_cons_succ, List.mem_cons, List.not_mem_nil, if_false, if_true, Nat.reduceAdd, Nat.reduceLT, Nat.reduceLeDiff, Nat.reduceEqDiff, true_and, and_true, List.length_nil, List.length_cons, or_true, true_or, or_false, false_or, Option.some.injEq, Sum.inl.injEq, Sum.inr.injEq, exists_eq_left', exists_eq_left, Int.reduceLE, Int.reduceLT, Int.reduceNeg, Int.reduceAdd, Int.reduceMul, Int.reduceSub, Int.reduceToNat, inR, Nat.zero_ne_one, false_and, Nat.succ_ne_zero, reduceCtorEq, false_implies, true_implies, not_false_eq_true, not_true_eq_false, Int.reduceEq, KRE, C_Reader_readHouse, FD, L3, q3]
      repeat (first | refine And.intro (by omega) ?_ | refine And.intro (fun _ _ => okt_nn (by omega)) ?_)
      all_goals first | exact R | exact ⟨by omega, R⟩ | exact ⟨_, rfl, R⟩
  · have eT : tnF g E (nxT g E a) (r 0) hb = nmF g E (nxT g E a) 0 7 := if_pos cF
    rw [eT, if_pos cF] at eC
    rw [eC]
    have R : clQ M g E (nmF g E (nxT g E a) 0 7, nxT g E a, f, r, kb, hb) (nmF g E (nxT g E a) 0 7) M1 := clQ_bad (S := (nmF g E (nxT g E a) 0 7, nxT g E a, f, r, kb, hb)) F1' D1.1 cF T1.2.2.2.1
    have q3 := eq_false cF
    generalize hX : clQ M g E (nmF g E (nxT g E a) 0 7, nxT g E a, f, r, kb, hb) = X at *
    generalize nmF g E (nxT g E a) 0 7 = cc at *
    try simp (maxSteps := 2000000) only [↓reduceIte, wp_eq, wpd_eq, kont_eq, STP1, STP2, STP3, STP4, STP5, konM_eq, AMK, CZ, Option.map, List.getElem?_cons_zero, List.getElem?_cons_succ, List.mem_cons, List.not_mem_nil, if_false, if_true, Nat.reduceAdd, Nat.reduceLT, Nat.reduceLeDiff, Nat.reduceEqDiff, true_and, and_true, List.length_nil, List.length_cons, or_true, true_or, or_false, false_or, Option.some.injEq, Sum.inl.injEq, Sum.inr.injEq, exists_eq_left', exists_eq_left, Int.reduceLE, Int.reduceLT, Int.reduceNeg, Int.reduceAdd, Int.reduceMul, Int.reduceSub, Int.reduceToNat, inR, Nat.zero_ne_one, false_and, Nat.succ_ne_zero, reduceCtorEq, false_implies, true_implies, not_false_eq_true, not_true_eq_false, Int.reduceEq, KRE, C_Reader_readHouse, FD, L3, q3]
    repeat (first | refine And.intro (by omega) ?_ | refine And.intro (fun _ _ => okt_nn (by omega)) ?_)
    all_goals first | exact R | exact ⟨by omega, R⟩ | exact ⟨_, rfl, R⟩
set_option maxHeartbeats 600000 in
set_option maxRecDepth 20000 in
theorem clauseC_ok {M : Mm} {g f r : Nat → Int} {E a : Nat} {kb hb : Int} (hp : oct g E) (hE : E ≤ 900) (ha : a ≤ 900) (h : tsC M g E a) (D : drC M f r kb hb) (hi : rdI r kb hb) : CallI m_Reader_readClause [.inr 1] M (fun x M' => clQ M g E (clS g E a f r kb hb) x M') := by
  obtain ⟨kd1, -, -, -, -, kA, kB⟩ := kd_all g E a
  have h6 := h.2.2.2.2.2.1
  by_cases k1 : kdC g E a = 1
  · have IW := fun i hi => isWordC_ok (i := i) h k1 hE ha hp hi
    have I0 := IW 0 (by omega)
    have I1 := IW 1 (by omega)
    have I2 := IW 2 (by omega)
    have I3 := IW 3 (by omega)
    have I4 := IW 4 (by omega)
    have I5 := IW 5 (by omega)
    have q := eq_true (h6.trans k1)
    have RT := timberC_ok hp hE ha h D hi
    have R1 := setC_1 hE ha h D hi
    have R2 := setC_2 hE ha h D hi
    have R3 := setC_3 hE ha h D hi
    have R4 := clsC_4 hE ha h D hi
    have R5 := clsC_5 hE ha h D hi
    have w : clS g E a f r kb hb = clW g E a (wdW g E a) f r kb hb := rfl
    unfold wdW at w
    refine callP_of (by decide) (by decide) (Nat.le_of_ble_eq_true rfl) (wpm_of (cuts := []) (by decide) 120 _ _ _ _ ?_)
    rw [show lM m_Reader_readClause = 1 from rfl]
    simp (maxSteps := 2000000) only [↓reduceIte, wp_eq, wpd_eq, kont_eq, STP1, STP2, STP3, STP4, STP5, konM_eq, AMK, CZ, Option.map, List.getElem?_cons_zero, List.getElem?_cons_succ, List.mem_cons, List.not_mem_nil, if_false, if_true, Nat.reduceAdd, Nat.reduceLT, Nat.reduceLeDiff, Nat.reduceEqDiff, true_and, and_true, List.length_nil, List.length_cons, or_true, true_or, or_false, false_or, Option.some.injEq, Sum.inl.injEq, Sum.inr.injEq, exists_eq_left', exists_eq_left, Int.reduceLE, Int.reduceLT, Int.reduceNeg, Int.reduceAdd, Int.reduceMul, Int.reduceSub, Int.reduceToNat, inR, Nat.zero_ne_one, false_and, Nat.succ_ne_zero, reduceCtorEq, false_implies, true_implies, not_false_eq_true, not_true_eq_false, Int.reduceEq, KRE, C_Reader_readClause, FD, L3, q]
    repeat (first | refine And.intro (by omega) ?_ | refine And.intro (fun _ _ => okt_nn (by omega)) ?_)
    refine I0.eq ?_
    by_cases c0 : wdB g E a 0 = true
    · rw [if_pos c0] at w ⊢
      rw [w]
      generalize hX : clQ M g E = X at *
      try simp (maxSteps := 2000000) only [↓reduceIte, wp_eq, wpd_eq, kont_eq, STP1, STP2, STP3, STP4, STP5, konM_eq, AMK, CZ, Option.map, List.getElem?_cons_zero, List.getElem?_cons_succ, List.mem_cons, List.not_mem_nil, if_false, if_true, Nat.reduceAdd, Nat.reduceLT, Nat.reduceLeDiff, Nat.reduceEqDiff, true_and, and_true, List.length_nil, List.length_cons, or_true, true_or, or_false, false_or, Option.some.injEq, Sum.inl.injEq, Sum.inr.injEq, exists_eq_left', exists_eq_left, Int.reduceLE, Int.reduceLT, Int.reduceNeg, Int.reduceAdd, Int.reduceMul, Int.reduceSub, Int.reduceToNat, inR, Nat.zero_ne_one, false_and, Nat.succ_ne_zero, reduceCtorEq, false_implies, true_implies, not_false_eq_true, not_true_eq_false, Int.reduceEq, KRE, C_Reader_readClause, FD]
      repeat (first | refine And.intro (by omega) ?_ | refine And.intro (fun _ _ => okt_nn (by omega)) ?_)
      refine RT.mono (fun x M' z => ?_)
      try simp (maxSteps := 2000000) only [↓reduceIte, wp_eq, wpd_eq, kont_eq, STP1, STP2, STP3, STP4, STP5, konM_eq, AMK, CZ, Option.map, List.getElem?_cons_zero, List.getElem?_cons_succ, List.mem_cons, List.not_mem_nil, if_false, if_true, Nat.reduceAdd, Nat.reduceLT, Nat.reduceLeDiff, Nat.reduceEqDiff, true_and, and_true, List.length_nil, List.length_cons, or_true, true_or, or_false, false_or, Option.some.injEq, Sum.inl.injEq, Sum.inr.injEq, exists_eq_left', exists_eq_left, Int.reduceLE, Int.reduceLT, Int.reduceNeg, Int.reduceAdd, Int.reduceMul, Int.reduceSub, Int.reduceToNat, inR, Nat.zero_ne_one, false_and, Nat.succ_ne_zero, reduceCtorEq, false_implies, true_implies, not_false_eq_true, not_true_eq_false, Int.reduceEq, KRE, C_Reader_readClause, FD]
      repeat (first | refine And.intro (by omega) ?_ | refine And.intro (fun _ _ => okt_nn (by omega)) ?_)
      all_goals first | exact z | exact ⟨_, rfl, z⟩
    · rw [if_neg c0] at w ⊢
      try simp (maxSteps := 2000000) only [↓reduceIte, wp_eq, wpd_eq, kont_eq, STP1, STP2, STP3, STP4, STP5, konM_eq, AMK, CZ, Option.map, List.getElem?_cons_zero, List.getElem?_cons_succ, List.mem_cons, List.not_mem_nil, if_false, if_true, Nat.reduceAdd, Nat.reduceLT, Nat.reduceLeDiff, Nat.reduceEqDiff, true_and, and_true, List.length_nil, List.length_cons, or_true, true_or, or_false, false_or, Option.some.injEq, Sum.inl.injEq, Sum.inr.injEq, exists_eq_left', exists_eq_left, Int.reduceLE, Int.reduceLT, Int.reduceNeg, Int.reduceAdd, Int.reduceMul, Int.reduceSub, Int.reduceToNat, inR, Nat.zero_ne_one, false_and, Nat.succ_ne_zero, reduceCtorEq, false_implies, true_implies, not_false_eq_true, not_true_eq_false, Int.reduceEq, KRE, C_Reader_readClause, FD]
      repeat (first | refine And.intro (by omega) ?_ | refine And.intro (fun _ _ => okt_nn (by omega)) ?_)
      refine I1.eq ?_
      by_cases c1 : wdB g E a 1 = true
      · rw [if_pos c1] at w ⊢
        rw [w]
        generalize hX : clQ M g E = X at *
        try simp (maxSteps := 2000000) only [↓reduceIte, wp_eq, wpd_eq, kont_eq, STP1, STP2, STP3, STP4, STP5, konM_eq, AMK, CZ, Option.map, List.getElem?_cons_zero, List.getElem?_cons_succ, List.mem_cons, List.not_mem_nil, if_false, if_true, Nat.reduceAdd, Nat.reduceLT, Nat.reduceLeDiff, Nat.reduceEqDiff, true_and, and_true, List.length_nil, List.length_cons, or_true, true_or, or_false, false_or, Option.some.injEq, Sum.inl.injEq, Sum.inr.injEq, exists_eq_left', exists_eq_left, Int.reduceLE, Int.reduceLT, Int.reduceNeg, Int.reduceAdd, Int.reduceMul, Int.reduceSub, Int.reduceToNat, inR, Nat.zero_ne_one, false_and, Nat.succ_ne_zero, reduceCtorEq, false_implies, true_implies, not_false_eq_true, not_true_eq_false, Int.reduceEq, KRE, C_Reader_readClause, FD]
        repeat (first | refine And.intro (by omega) ?_ | refine And.intro (fun _ _ => okt_nn (by omega)) ?_)
        refine R1.mono (fun x M' z => ?_)
        try simp (maxSteps := 2000000) only [↓reduceIte, wp_eq, wpd_eq, kont_eq, STP1, STP2, STP3, STP4, STP5, konM_eq, AMK, CZ, Option.map, List.getElem?_cons_zero, List.getElem?_cons_succ, List.mem_cons, List.not_mem_nil, if_false, if_true, Nat.reduceAdd, Nat.reduceLT, Nat.reduceLeDiff, Nat.reduceEqDiff, true_and, and_true, List.length_nil, List.length_cons, or_true, true_or, or_false, false_or, Option.some.injEq, Sum.inl.injEq, Sum.inr.injEq, exists_eq_left', exists_eq_left, Int.reduceLE, Int.reduceLT, Int.reduceNeg, Int.reduceAdd, Int.reduceMul, Int.reduceSub, Int.reduceToNat, inR, Nat.zero_ne_one, false_and, Nat.succ_ne_zero, reduceCtorEq, false_implies, true_implies, not_false_eq_true, not_true_eq_false, Int.reduceEq, KRE, C_Reader_readClause, FD]
        repeat (first | refine And.intro (by omega) ?_ | refine And.intro (fun _ _ => okt_nn (by omega)) ?_)
        all_goals first | exact z | exact ⟨_, rfl, z⟩
      · rw [if_neg c1] at w ⊢
        try simp (maxSteps := 2000000) only [↓reduceIte, wp_eq, wpd_eq, kont_eq, STP1, STP2, STP3, STP4, STP5, konM_eq, AMK, CZ, Option.map, List.getElem?_cons_zero, List.getElem?_cons_succ, List.mem_cons, List.not_mem_nil, if_false, if_true, Nat.reduceAdd, Nat.reduceLT, Nat.reduceLeDiff, Nat.reduceEqDiff, true_and, and_true, List.length_nil, List.length_cons, or_true, true_or, or_false, false_or, Option.some.injEq, Sum.inl.injEq, Sum.inr.injEq, exists_eq_left', exists_eq_left, Int.reduceLE, Int.reduceLT, Int.reduceNeg, Int.reduceAdd, Int.reduceMul, Int.reduceSub, Int.reduceToNat, inR, Nat.zero_ne_one, false_and, Nat.succ_ne_zero, reduceCtorEq, false_implies, true_implies, not_false_eq_true, not_true_eq_false, Int.reduceEq, KRE, C_Reader_readClause, FD]
        repeat (first | refine And.intro (by omega) ?_ | refine And.intro (fun _ _ => okt_nn (by omega)) ?_)
        refine I2.eq ?_
        by_cases c2 : wdB g E a 2 = true
        · rw [if_pos c2] at w ⊢
          rw [w]
          generalize hX : clQ M g E = X at *
          try simp (maxSteps := 2000000) only [↓reduceIte, wp_eq, wpd_eq, kont_eq, STP1, STP2, STP3, STP4, STP5, konM_eq, AMK, CZ, Option.map, List.getElem?_cons_zero, List.getElem?_cons_succ, List.mem_cons, List.not_mem_nil, if_false, if_true, Nat.reduceAdd, Nat.reduceLT, Nat.reduceLeDiff, Nat.reduceEqDiff, true_and, and_true, List.length_nil, List.length_cons, or_true, true_or, or_false, false_or, Option.some.injEq, Sum.inl.injEq, Sum.inr.injEq, exists_eq_left', exists_eq_left, Int.reduceLE, Int.reduceLT, Int.reduceNeg, Int.reduceAdd, Int.reduceMul, Int.reduceSub, Int.reduceToNat, inR, Nat.zero_ne_one, false_and, Nat.succ_ne_zero, reduceCtorEq, false_implies, true_implies, not_false_eq_true, not_true_eq_false, Int.reduceEq, KRE, C_Reader_readClause, FD]
          repeat (first | refine And.intro (by omega) ?_ | refine And.intro (fun _ _ => okt_nn (by omega)) ?_)
          refine R2.mono (fun x M' z => ?_)
          try simp (maxSteps := 2000000) only [↓reduceIte, wp_eq, wpd_eq, kont_eq, STP1, STP2, STP3, STP4, STP5, konM_eq, AMK, CZ, Option.map, List.getElem?_cons_zero, List.getElem?_cons_succ, List.mem_cons, List.not_mem_nil, if_false, if_true, Nat.reduceAdd, Nat.reduceLT, Nat.reduceLeDiff, Nat.reduceEqDiff, true_and, and_true, List.length_nil, List.length_cons, or_true, true_or, or_false, false_or, Option.some.injEq, Sum.inl.injEq, Sum.inr.injEq, exists_eq_left', exists_eq_left, Int.reduceLE, Int.reduceLT, Int.reduceNeg, Int.reduceAdd, Int.reduceMul, Int.reduceSub, Int.reduceToNat, inR, Nat.zero_ne_one, false_and, Nat.succ_ne_zero, reduceCtorEq, false_implies, true_implies, not_false_eq_true, not_true_eq_false, Int.reduceEq, KRE, C_Reader_readClause, FD]
          repeat (first | refine And.intro (by omega) ?_ | refine And.intro (fun _ _ => okt_nn (by omega)) ?_)
          all_goals first | exact z | exact ⟨_, rfl, z⟩
        · rw [if_neg c2] at w ⊢
          try simp (maxSteps := 2000000) only [↓reduceIte, wp_eq, wpd_eq, kont_eq, STP1, STP2, STP3, STP4, STP5, konM_eq, AMK, CZ, Option.map, List.getElem?_cons_zero, List.getElem?_cons_succ, List.mem_cons, List.not_mem_nil, if_false, if_true, Nat.reduceAdd, Nat.reduceLT, Nat.reduceLeDiff, Nat.reduceEqDiff, true_and, and_true, List.length_nil, List.length_cons, or_true, true_or, or_false, false_or, Option.some.injEq, Sum.inl.injEq, Sum.inr.injEq, exists_eq_left', exists_eq_left, Int.reduceLE, Int.reduceLT, Int.reduceNeg, Int.reduceAdd, Int.reduceMul, Int.reduceSub, Int.reduceToNat, inR, Nat.zero_ne_one, false_and, Nat.succ_ne_zero, reduceCtorEq, false_implies, true_implies, not_false_eq_true, not_true_eq_false, Int.reduceEq, KRE, C_Reader_readClause, FD]
          repeat (first | refine And.intro (by omega) ?_ | refine And.intro (fun _ _ => okt_nn (by omega)) ?_)
          refine I3.eq ?_
          by_cases c3 : wdB g E a 3 = true
          · rw [if_pos c3] at w ⊢
            rw [w]
            generalize hX : clQ M g E = X at *
            try simp (maxSteps := 2000000) only [↓reduceIte, wp_eq, wpd_eq, kont_eq, STP1, STP2, STP3, STP4, STP5, konM_eq, AMK, CZ, Option.map, List.getElem?_cons_zero, List.getElem?_cons_succ, List.mem_cons, List.not_mem_nil, if_false, if_true, Nat.reduceAdd, Nat.reduceLT, Nat.reduceLeDiff, Nat.reduceEqDiff, true_and, and_true, List.length_nil, List.length_cons, or_true, true_or, or_false, false_or, Option.some.injEq, Sum.inl.injEq, Sum.inr.injEq, exists_eq_left', exists_eq_left, Int.reduceLE, Int.reduceLT, Int.reduceNeg, Int.reduceAdd, Int.reduceMul, Int.reduceSub, Int.reduceToNat, inR, Nat.zero_ne_one, false_and, Nat.succ_ne_zero, reduceCtorEq, false_implies, true_implies, not_false_eq_true, not_true_eq_false, Int.reduceEq, KRE, C_Reader_readClause, FD]
            repeat (first | refine And.intro (by omega) ?_ | refine And.intro (fun _ _ => okt_nn (by omega)) ?_)
            refine R3.mono (fun x M' z => ?_)
            try simp (maxSteps := 2000000) only [↓reduceIte, wp_eq, wpd_eq, kont_eq, STP1, STP2, STP3, STP4, STP5, konM_eq, AMK, CZ, Option.map, List.getElem?_cons_zero, List.getElem?_cons_succ, List.mem_cons, List.not_mem_nil, if_false, if_true, Nat.reduceAdd, Nat.reduceLT, Nat.reduceLeDiff, Nat.reduceEqDiff, true_and, and_true, List.length_nil, List.length_cons, or_true, true_or, or_false, false_or, Option.some.injEq, Sum.inl.injEq, Sum.inr.injEq, exists_eq_left', exists_eq_left, Int.reduceLE, Int.reduceLT, Int.reduceNeg, Int.reduceAdd, Int.reduceMul, Int.reduceSub, Int.reduceToNat, inR, Nat.zero_ne_one, false_and, Nat.succ_ne_zero, reduceCtorEq, false_implies, true_implies, not_false_eq_true, not_true_eq_false, Int.reduceEq, KRE, C_Reader_readClause, FD]
            repeat (first | refine And.intro (by omega) ?_ | refine And.intro (fun _ _ => okt_nn (by omega)) ?_)
            all_goals first | exact z | exact ⟨_, rfl, z⟩
          · rw [if_neg c3] at w ⊢
            try simp (maxSteps := 2000000) only [↓reduceIte, wp_eq, wpd_eq, kont_eq, STP1, STP2, STP3, STP4, STP5, konM_eq, AMK, CZ, Option.map, List.getElem?_cons_zero, List.getElem?_cons_succ, List.mem_cons, List.not_mem_nil, if_false, if_true, Nat.reduceAdd, Nat.reduceLT, Nat.reduceLeDiff, Nat.reduceEqDiff, true_and, and_true, List.length_nil, List.length_cons, or_true, true_or, or_false, false_or, Option.some.injEq, Sum.inl.injEq, Sum.inr.injEq, exists_eq_left', exists_eq_left, Int.reduceLE, Int.reduceLT, Int.reduceNeg, Int.reduceAdd, Int.reduceMul, Int.reduceSub, Int.reduceToNat, inR, Nat.zero_ne_one, false_and, Nat.succ_ne_zero, reduceCtorEq, false_implies, true_implies, not_false_eq_true, not_true_eq_false, Int.reduceEq, KRE, C_Reader_readClause, FD]
            repeat (first | refine And.intro (by omega) ?_ | refine And.intro (fun _ _ => okt_nn (by omega)) ?_)
            refine I4.eq ?_
            by_cases c4 : wdB g E a 4 = true
            · rw [if_pos c4] at w ⊢
              rw [w]
              generalize hX : clQ M g E = X at *
              try simp (maxSteps := 2000000) only [↓reduceIte, wp_eq, wpd_eq, kont_eq, STP1, STP2, STP3, STP4, STP5, konM_eq, AMK, CZ, Option.map, List.getElem?_cons_zero, List.getElem?_cons_succ, List.mem_cons, List.not_mem_nil, if_false, if_true, Nat.reduceAdd, Nat.reduceLT, Nat.reduceLeDiff, Nat.reduceEqDiff, true_and, and_true, List.length_nil, List.length_cons, or_true, true_or, or_false, false_or, Option.some.injEq, Sum.inl.injEq, Sum.inr.injEq, exists_eq_left', exists_eq_left, Int.reduceLE, Int.reduceLT, Int.reduceNeg, Int.reduceAdd, Int.reduceMul, Int.reduceSub, Int.reduceToNat, inR, Nat.zero_ne_one, false_and, Nat.succ_ne_zero, reduceCtorEq, false_implies, true_implies, not_false_eq_true, not_true_eq_false, Int.reduceEq, KRE, C_Reader_readClause, FD]
              repeat (first | refine And.intro (by omega) ?_ | refine And.intro (fun _ _ => okt_nn (by omega)) ?_)
              refine R4.mono (fun x M' z => ?_)
              try simp (maxSteps := 2000000) only [↓reduceIte, wp_eq, wpd_eq, kont_eq, STP1, STP2, STP3, STP4, STP5, konM_eq, AMK, CZ, Option.map, List.getElem?_cons_zero, List.getElem?_cons_succ, List.mem_cons, List.not_mem_nil, if_false, if_true, Nat.reduceAdd, Nat.reduceLT, Nat.reduceLeDiff, Nat.reduceEqDiff, true_and, and_true, List.length_nil, List.length_cons, or_true, true_or, or_false, false_or, Option.some.injEq, Sum.inl.injEq, Sum.inr.injEq, exists_eq_left', exists_eq_left, Int.reduceLE, Int.reduceLT, Int.reduceNeg, Int.reduceAdd, Int.reduceMul, Int.reduceSub, Int.reduceToNat, inR, Nat.zero_ne_one, false_and, Nat.succ_ne_zero, reduceCtorEq, false_implies, true_implies, not_false_eq_true, not_true_eq_false, Int.reduceEq, KRE, C_Reader_readClause, FD]
              repeat (first | refine And.intro (by omega) ?_ | refine And.intro (fun _ _ => okt_nn (by omega)) ?_)
              all_goals first | exact z | exact ⟨_, rfl, z⟩
            · rw [if_neg c4] at w ⊢
              try simp (maxSteps := 2000000) only [↓reduceIte, wp_eq, wpd_eq, kont_eq, STP1, STP2, STP3, STP4, STP5, konM_eq, AMK, CZ, Option.map, List.getElem?_cons_zero, List.getElem?_cons_succ, List.mem_cons, List.not_mem_nil, if_false, if_true, Nat.reduceAdd, Nat.reduceLT, Nat.reduceLeDiff, Nat.reduceEqDiff, true_and, and_true, List.length_nil, List.length_cons, or_true, true_or, or_false, false_or, Option.some.injEq, Sum.inl.injEq, Sum.inr.injEq, exists_eq_left', exists_eq_left, Int.reduceLE, Int.reduceLT, Int.reduceNeg, Int.reduceAdd, Int.reduceMul, Int.reduceSub, Int.reduceToNat, inR, Nat.zero_ne_one, false_and, Nat.succ_ne_zero, reduceCtorEq, false_implies, true_implies, not_false_eq_true, not_true_eq_false, Int.reduceEq, KRE, C_Reader_readClause, FD]
              repeat (first | refine And.intro (by omega) ?_ | refine And.intro (fun _ _ => okt_nn (by omega)) ?_)
              refine I5.eq ?_
              by_cases c5 : wdB g E a 5 = true
              · rw [if_pos c5] at w ⊢
                rw [w]
                generalize hX : clQ M g E = X at *
                try simp (maxSteps := 2000000) only [↓reduceIte, wp_eq, wpd_eq, kont_eq, STP1, STP2, STP3, STP4, STP5, konM_eq, AMK, CZ, Option.map, List.getElem?_cons_zero, List.getElem?_cons_succ, List.mem_cons, List.not_mem_nil, if_false, if_true, Nat.reduceAdd, Nat.reduceLT, Nat.reduceLeDiff, Nat.reduceEqDiff, true_and, and_true, List.length_nil, List.length_cons, or_true, true_or, or_false, false_or, Option.some.injEq, Sum.inl.injEq, Sum.inr.injEq, exists_eq_left', exists_eq_left, Int.reduceLE, Int.reduceLT, Int.reduceNeg, Int.reduceAdd, Int.reduceMul, Int.reduceSub, Int.reduceToNat, inR, Nat.zero_ne_one, false_and, Nat.succ_ne_zero, reduceCtorEq, false_implies, true_implies, not_false_eq_true, not_true_eq_false, Int.reduceEq, KRE, C_Reader_readClause, FD]
                repeat (first | refine And.intro (by omega) ?_ | refine And.intro (fun _ _ => okt_nn (by omega)) ?_)
                refine R5.mono (fun x M' z => ?_)
                try simp (maxSteps := 2000000) only [↓reduceIte, wp_eq, wpd_eq, kont_eq, STP1, STP2, STP3, STP4, STP5, konM_eq, AMK, CZ, Option.map, List.getElem?_cons_zero, List.getElem?_cons_succ, List.mem_cons, List.not_mem_nil, if_false, if_true, Nat.reduceAdd, Nat.reduceLT, Nat.reduceLeDiff, Nat.reduceEqDiff, true_and, and_true, List.length_nil, List.length_cons, or_true, true_or, or_false, false_or, Option.some.injEq, Sum.inl.injEq, Sum.inr.injEq, exists_eq_left', exists_eq_left, Int.reduceLE, Int.reduceLT, Int.reduceNeg, Int.reduceAdd, Int.reduceMul, Int.reduceSub, Int.reduceToNat, inR, Nat.zero_ne_one, false_and, Nat.succ_ne_zero, reduceCtorEq, false_implies, true_implies, not_false_eq_true, not_true_eq_false, Int.reduceEq, KRE, C_Reader_readClause, FD]
                repeat (first | refine And.intro (by omega) ?_ | refine And.intro (fun _ _ => okt_nn (by omega)) ?_)
                all_goals first | exact z | exact ⟨_, rfl, z⟩
              · rw [if_neg c5] at w ⊢
                rw [w, clW_m1]
                have R : clQ M g E (1, a, f, r, kb, hb) 1 M := clQ_bad (S := (1, a, f, r, kb, hb)) FrP.rf D.1 (by show (1 : Int) ≠ 0; omega) h.2.2.2.1
                generalize hX : clQ M g E (1, a, f, r, kb, hb) = X at *
                try simp (maxSteps := 2000000) only [↓reduceIte, wp_eq, wpd_eq, kont_eq, STP1, STP2, STP3, STP4, STP5, konM_eq, AMK, CZ, Option.map, List.getElem?_cons_zero, List.getElem?_cons_succ, List.mem_cons, List.not_mem_nil, if_false, if_true, Nat.reduceAdd, Nat.reduceLT, Nat.reduceLeDiff, Nat.reduceEqDiff, true_and, and_true, List.length_nil, List.length_cons, or_true, true_or, or_false, false_or, Option.some.injEq, Sum.inl.injEq, Sum.inr.injEq, exists_eq_left', exists_eq_left, Int.reduceLE, Int.reduceLT, Int.reduceNeg, Int.reduceAdd, Int.reduceMul, Int.reduceSub, Int.reduceToNat, inR, Nat.zero_ne_one, false_and, Nat.succ_ne_zero, reduceCtorEq, false_implies, true_implies, not_false_eq_true, not_true_eq_false, Int.reduceEq, KRE, C_Reader_readClause, FD]
                repeat (first | refine And.intro (by omega) ?_ | refine And.intro (fun _ _ => okt_nn (by omega)) ?_)
                all_goals first | exact R | exact ⟨by omega, R⟩ | exact ⟨_, rfl, R⟩
  · have w0 : ∀ i, ¬ wdB g E a i = true := fun i z => k1 (kd1.mpr (wdB_iff.mp z).1)
    have w : wdW g E a = -1 := by
      unfold wdW
      rw [if_neg (w0 0), if_neg (w0 1), if_neg (w0 2), if_neg (w0 3), if_neg (w0 4), if_neg (w0 5)]
    unfold clS
    rw [w, clW_m1]
    have R : clQ M g E (1, a, f, r, kb, hb) 1 M := clQ_bad (S := (1, a, f, r, kb, hb)) FrP.rf D.1 (by show (1 : Int) ≠ 0; omega) h.2.2.2.1
    have q := eq_false (show ¬ M 1 7 = 1 by rw [h6]; exact k1)
    generalize hX : clQ M g E (1, a, f, r, kb, hb) = X at *
    refine callP_of (by decide) (by decide) (Nat.le_of_ble_eq_true rfl) (wpm_of (cuts := []) (by decide) 120 _ _ _ _ ?_)
    rw [show lM m_Reader_readClause = 1 from rfl]
    simp (maxSteps := 2000000) only [↓reduceIte, wp_eq, wpd_eq, kont_eq, STP1, STP2, STP3, STP4, STP5, konM_eq, AMK, CZ, Option.map, List.getElem?_cons_zero, List.getElem?_cons_succ, List.mem_cons, List.not_mem_nil, if_false, if_true, Nat.reduceAdd, Nat.reduceLT, Nat.reduceLeDiff, Nat.reduceEqDiff, true_and, and_true, List.length_nil, List.length_cons, or_true, true_or, or_false, false_or, Option.some.injEq, Sum.inl.injEq, Sum.inr.injEq, exists_eq_left', exists_eq_left, Int.reduceLE, Int.reduceLT, Int.reduceNeg, Int.reduceAdd, Int.reduceMul, Int.reduceSub, Int.reduceToNat, inR, Nat.zero_ne_one, false_and, Nat.succ_ne_zero, reduceCtorEq, false_implies, true_implies, not_false_eq_true, not_true_eq_false, Int.reduceEq, KRE, C_Reader_readClause, FD, L3, q]
    repeat (first | refine And.intro (by omega) ?_ | refine And.intro (fun _ _ => okt_nn (by omega)) ?_)
    all_goals first | exact R | exact ⟨by omega, R⟩ | exact ⟨_, rfl, R⟩
