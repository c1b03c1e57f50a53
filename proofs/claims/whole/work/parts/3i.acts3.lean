/-! THE FACE: grow, image, restore, feed. -/
def mYr (M : Mm) (F : Nat → Int) : Mm := fun b j => if b = 81 ∧ j < 8 then F j else M b j
theorem gwY_rng {T : Nat → Rw} {lap bnd mrg : Int} {n : Nat} {Y : Nat → Int} (h : okC T Y n) (hY : ∀ j, j < 8 → -1 ≤ Y j ∧ Y j ≤ 900) : ∀ r j, j < 8 → -1 ≤ gwY T lap bnd mrg n Y r j ∧ gwY T lap bnd mrg n Y r j ≤ 900
  | 0, j, hj => hY j hj
  | r + 1, j, hj => by
    have i := gwY_rng (lap := lap) (bnd := bnd) (mrg := mrg) h hY r j hj
    have p := (gwY_ok (lap := lap) (bnd := bnd) (mrg := mrg) h r).2
    rw [gwY]
    split
    · exact i
    · rename_i c
      rcases p with p | p
      · exact absurd (congrArg Prod.fst p) c
      · have p2 := p.2.2.1
        unfold gwP at p2
        unfold updI
        split
        · omega
        · exact i
theorem gwY_succ {T : Nat → Rw} {lap bnd mrg : Int} {n r : Nat} {Y : Nat → Int} (hc : (gwP T lap bnd mrg n Y r).1 ≠ -1) : gwY T lap bnd mrg n Y (r + 1) = updI (gwY T lap bnd mrg n Y r) (gwP T lap bnd mrg n Y r).1.toNat (gwP T lap bnd mrg n Y r).2.1 := by
  rw [gwY]
  exact if_neg hc
set_option maxHeartbeats 600000 in
set_option maxRecDepth 20000 in
theorem RingDater_grow_ok {n c : Nat} {T : Nat → Rw} {Y : Nat → Int} {lap bnd mrg : Int} {M : Mm} (h : cls M n T Y lap bnd mrg) (hl : ldK M) (hc : gwC T lap bnd mrg n Y c) (c0 : 0 < c) : CallI m_RingDater_grow [.inr 0] M (fun x M' => x = c ∧ ∃ M2, cls M2 n T Y lap bnd mrg ∧ FrP scrF M M2 ∧ gwIs M2 T lap bnd mrg n Y c ∧ M' = mYr (mRec M2 106 1 (gwB (M2 69) c) 0 (-1)) (gwY T lap bnd mrg n Y c)) := by
  have l0 := isStk_76.1
  have k68 : kc (lay 68) 2 = True := FG.1
  have k76 : kc (lay 76) 8 = True := by rw [l0]; exact eq_true rfl
  have k106 : kc (lay 106) 3 = True := by rw [isLed_106.1]; exact eq_true rfl
  have r4 := h.2.2.2.2.1.1
  have b4 := h.2.2.2.2.1.2
  have n8 := h.2.1.2
  refine callP_of (by decide) (by decide) (Nat.le_of_ble_eq_true rfl) (wpm_of (cuts := [51]) (by decide) 60 _ _ _ _ ?_)
  rw [show lM m_RingDater_grow = 3 from rfl]
  simp (maxSteps := 2000000) only [↓reduceIte, wp_eq, wpd_eq, kont_eq, STP1, STP2, STP3, STP4, STP5, konM_eq, AMK, CZ, Option.map, List.getElem?_cons_zero, List.getElem?_cons_succ, List.mem_cons, List.not_mem_nil, if_false, if_true, Nat.reduceAdd, Nat.reduceLT, Nat.reduceLeDiff, Nat.reduceEqDiff, true_and, and_true, List.length_nil, List.length_cons, or_true, true_or, or_false, false_or, Option.some.injEq, Sum.inl.injEq, Sum.inr.injEq, exists_eq_left', exists_eq_left, Int.reduceLE, Int.reduceLT, Int.reduceNeg, Int.reduceAdd, Int.reduceMul, Int.reduceSub, Int.reduceToNat, inR, Nat.zero_ne_one, false_and, Nat.succ_ne_zero, reduceCtorEq, false_implies, true_implies, not_false_eq_true, not_true_eq_false, Int.reduceEq, KRE, C_RingDater_grow, FR, l0, k68, r4]
  repeat (first | refine ⟨by omega, ?_⟩ | refine ⟨fun _ _ => okt_nn (by omega), ?_⟩)
  try (first | (show _ ≤ _; omega) | (show _ < _; omega))
  refine (run_cls h (by omega)).mono (fun x M2 z => ?_)
  obtain ⟨d, rfl, z2, z3, z4, z5, z6⟩ := z
  obtain rfl := gwC_u z3 hc
  obtain ⟨q1, q2, q3⟩ := id z4
  have ne := eq_false (show ¬ (d : Int) = 0 by omega)
  try simp (maxSteps := 2000000) only [↓reduceIte, wp_eq, wpd_eq, kont_eq, STP1, STP2, STP3, STP4, STP5, konM_eq, AMK, CZ, Option.map, List.getElem?_cons_zero, List.getElem?_cons_succ, List.mem_cons, List.not_mem_nil, if_false, if_true, Nat.reduceAdd, Nat.reduceLT, Nat.reduceLeDiff, Nat.reduceEqDiff, true_and, and_true, List.length_nil, List.length_cons, or_true, true_or, or_false, false_or, Option.some.injEq, Sum.inl.injEq, Sum.inr.injEq, exists_eq_left', exists_eq_left, Int.reduceLE, Int.reduceLT, Int.reduceNeg, Int.reduceAdd, Int.reduceMul, Int.reduceSub, Int.reduceToNat, inR, Nat.zero_ne_one, false_and, Nat.succ_ne_zero, reduceCtorEq, false_implies, true_implies, not_false_eq_true, not_true_eq_false, Int.reduceEq, KRE, C_RingDater_grow, FR, FG, k68, ne]
  repeat (first | refine ⟨by omega, ?_⟩ | refine ⟨fun _ _ => okt_nn (by omega), ?_⟩)
  try (first | (show _ ≤ _; omega) | (show _ < _; omega))
  refine (Growth_bits_ok q2 q1).eq ?_
  have e4 : M2 106 4 = M 106 4 := z6 106 4 (by unfold scrF; omega)
  have hl2 : ldK M2 := by unfold ldK at *; rw [e4]; exact hl
  try simp (maxSteps := 2000000) only [↓reduceIte, wp_eq, wpd_eq, kont_eq, STP1, STP2, STP3, STP4, STP5, konM_eq, AMK, CZ, Option.map, List.getElem?_cons_zero, List.getElem?_cons_succ, List.mem_cons, List.not_mem_nil, if_false, if_true, Nat.reduceAdd, Nat.reduceLT, Nat.reduceLeDiff, Nat.reduceEqDiff, true_and, and_true, List.length_nil, List.length_cons, or_true, true_or, or_false, false_or, Option.some.injEq, Sum.inl.injEq, Sum.inr.injEq, exists_eq_left', exists_eq_left, Int.reduceLE, Int.reduceLT, Int.reduceNeg, Int.reduceAdd, Int.reduceMul, Int.reduceSub, Int.reduceToNat, inR, Nat.zero_ne_one, false_and, Nat.succ_ne_zero, reduceCtorEq, false_implies, true_implies, not_false_eq_true, not_true_eq_false, Int.reduceEq, KRE, C_RingDater_grow, FR, k106]
  repeat (first | refine ⟨by omega, ?_⟩ | refine ⟨fun _ _ => okt_nn (by omega), ?_⟩)
  try (first | (show _ ≤ _; omega) | (show _ < _; omega))
  refine (Ledger_record_ok isLed_106 hl2.1 hl2.2).eq ?_
  have c2 := cls_rec (a := 1) (b := gwB (M2 69) d) (c := 0) (d := -1) z5
  have o2 : ∀ b j, b < 106 → mRec M2 106 1 (gwB (M2 69) d) 0 (-1) b j = M2 b j := fun b j q => mRec_out b j (by omega)
  generalize hM3 : mRec M2 106 1 (gwB (M2 69) d) 0 (-1) = M3 at *
  have okc := h.2.2.2.2.2.2
  have yR : ∀ j, j < 8 → -1 ≤ Y j ∧ Y j ≤ 900 := fun j hj => by
    rw [← (h.2.2.1 j hj).2]
    exact h.1.1.1.2.2.2.2.2.2 j hj
  refine loopQ d (fun k ls M1 => M1 = mYr M3 (gwY T lap bnd mrg n Y k) ∧ ls = [some (.inr 0), some (.inl d), some (.inl k)]) ?_ _ _ ⟨?_, rfl⟩
  · rintro k _ _ hk ⟨rfl, rfl⟩ K
    by_cases hz : (d : Int) ≤ k
    · obtain rfl : k = d := by omega
      refine wpm_of (cuts := [51]) (by decide) 60 _ _ _ _ ?_
      simp (maxSteps := 2000000) only [↓reduceIte, wp_eq, wpd_eq, kont_eq, STP1, STP2, STP3, STP4, STP5, konM_eq, AMK, CZ, Option.map, List.getElem?_cons_zero, List.getElem?_cons_succ, List.mem_cons, List.not_mem_nil, if_false, if_true, Nat.reduceAdd, Nat.reduceLT, Nat.reduceLeDiff, Nat.reduceEqDiff, true_and, and_true, List.length_nil, List.length_cons, or_true, true_or, or_false, false_or, Option.some.injEq, Sum.inl.injEq, Sum.inr.injEq, exists_eq_left', exists_eq_left, Int.reduceLE, Int.reduceLT, Int.reduceNeg, Int.reduceAdd, Int.reduceMul, Int.reduceSub, Int.reduceToNat, inR, Nat.zero_ne_one, false_and, Nat.succ_ne_zero, reduceCtorEq, false_implies, true_implies, not_false_eq_true, not_true_eq_false, Int.reduceEq, KRE, C_RingDater_grow, FR, hz]
      repeat (first | refine And.intro (by omega) ?_ | refine And.intro (fun _ _ => okt_nn (by omega)) ?_)
      first | exact ⟨rfl, M2, z5, z6, z4, by rw [hM3]⟩ | exact ⟨M2, z5, z6, z4, by rw [hM3]⟩
    · have out : ∀ b j, b ≠ 81 → mYr M3 (gwY T lap bnd mrg n Y k) b j = M3 b j := fun b j q => if_neg (fun z => q z.1)
      have g6 : mYr M3 (gwY T lap bnd mrg n Y k) 68 6 = d := (out 68 6 (by omega)).trans ((o2 68 6 (by omega)).trans q2)
      obtain ⟨p1, p2, p3⟩ := q3 k (by omega)
      have gi := gwP_in okc hc (show k < d by omega)
      refine wpm_of (cuts := [51]) (by decide) 60 _ _ _ _ ?_
      simp (maxSteps := 2000000) only [↓reduceIte, wp_eq, wpd_eq, kont_eq, STP1, STP2, STP3, STP4, STP5, konM_eq, AMK, CZ, Option.map, List.getElem?_cons_zero, List.getElem?_cons_succ, List.mem_cons, List.not_mem_nil, if_false, if_true, Nat.reduceAdd, Nat.reduceLT, Nat.reduceLeDiff, Nat.reduceEqDiff, true_and, and_true, List.length_nil, List.length_cons, or_true, true_or, or_false, false_or, Option.some.injEq, Sum.inl.injEq, Sum.inr.injEq, exists_eq_left', exists_eq_left, Int.reduceLE, Int.reduceLT, Int.reduceNeg, Int.reduceAdd, Int.reduceMul, Int.reduceSub, Int.reduceToNat, inR, Nat.zero_ne_one, false_and, Nat.succ_ne_zero, reduceCtorEq, false_implies, true_implies, not_false_eq_true, not_true_eq_false, Int.reduceEq, KRE, C_RingDater_grow, FR, FG, hz, k68]
      repeat (first | refine ⟨by omega, ?_⟩ | refine ⟨fun _ _ => okt_nn (by omega), ?_⟩)
      try (first | (show _ ≤ _; omega) | (show _ < _; omega))
      refine (Growth_tell_ok (i := (k : Int)) (w := 0) g6 (by omega) (by omega) (by omega)).eq ?_
      rw [natT, show 69 + Int.toNat 0 = 69 from rfl, out 69 k (by omega), o2 69 k (by omega), p1]
      try simp (maxSteps := 2000000) only [↓reduceIte, wp_eq, wpd_eq, kont_eq, STP1, STP2, STP3, STP4, STP5, konM_eq, AMK, CZ, Option.map, List.getElem?_cons_zero, List.getElem?_cons_succ, List.mem_cons, List.not_mem_nil, if_false, if_true, Nat.reduceAdd, Nat.reduceLT, Nat.reduceLeDiff, Nat.reduceEqDiff, true_and, and_true, List.length_nil, List.length_cons, or_true, true_or, or_false, false_or, Option.some.injEq, Sum.inl.injEq, Sum.inr.injEq, exists_eq_left', exists_eq_left, Int.reduceLE, Int.reduceLT, Int.reduceNeg, Int.reduceAdd, Int.reduceMul, Int.reduceSub, Int.reduceToNat, inR, Nat.zero_ne_one, false_and, Nat.succ_ne_zero, reduceCtorEq, false_implies, true_implies, not_false_eq_true, not_true_eq_false, Int.reduceEq, KRE, C_RingDater_grow, FR, FG, k68]
      repeat (first | refine ⟨by omega, ?_⟩ | refine ⟨fun _ _ => okt_nn (by omega), ?_⟩)
      try (first | (show _ ≤ _; omega) | (show _ < _; omega))
      refine (Growth_tell_ok (i := (k : Int)) (w := 1) g6 (by omega) (by omega) (by omega)).eq ?_
      rw [natT, show 69 + Int.toNat 1 = 70 from rfl, out 70 k (by omega), o2 70 k (by omega), p2]
      have wS : wfS (mYr M3 (gwY T lap bnd mrg n Y k)) 76 := by
        obtain ⟨v0, v1, v2, v3, v4, v5, v6⟩ := c2.1.1.1
        refine ⟨by rw [out 76 _ (by omega)]; exact v0, by rw [out 76 _ (by omega)]; exact v1, by rw [out 76 _ (by omega)]; exact v2, by rw [out 76 _ (by omega)]; exact v3, fun t ht => wfT_cells (fun b p1 p2 j => out b j (by omega)) (v4 t ht), wfT_cells (fun b p1 p2 j => out b j (by omega)) v5, fun t ht => ?_⟩
        have := gwY_rng (lap := lap) (bnd := bnd) (mrg := mrg) okc yR k t ht
        show -1 ≤ mYr M3 (gwY T lap bnd mrg n Y k) 81 t ∧ mYr M3 (gwY T lap bnd mrg n Y k) 81 t ≤ 900
        rw [show mYr M3 (gwY T lap bnd mrg n Y k) 81 t = gwY T lap bnd mrg n Y k t from if_pos ⟨rfl, ht⟩]
        exact this
      have e3 : mYr M3 (gwY T lap bnd mrg n Y k) 76 3 = n := (out 76 3 (by omega)).trans c2.2.1.1
      try simp (maxSteps := 2000000) only [↓reduceIte, wp_eq, wpd_eq, kont_eq, STP1, STP2, STP3, STP4, STP5, konM_eq, AMK, CZ, Option.map, List.getElem?_cons_zero, List.getElem?_cons_succ, List.mem_cons, List.not_mem_nil, if_false, if_true, Nat.reduceAdd, Nat.reduceLT, Nat.reduceLeDiff, Nat.reduceEqDiff, true_and, and_true, List.length_nil, List.length_cons, or_true, true_or, or_false, false_or, Option.some.injEq, Sum.inl.injEq, Sum.inr.injEq, exists_eq_left', exists_eq_left, Int.reduceLE, Int.reduceLT, Int.reduceNeg, Int.reduceAdd, Int.reduceMul, Int.reduceSub, Int.reduceToNat, inR, Nat.zero_ne_one, false_and, Nat.succ_ne_zero, reduceCtorEq, false_implies, true_implies, not_false_eq_true, not_true_eq_false, Int.reduceEq, KRE, C_RingDater_grow, FR, k76]
      repeat (first | refine ⟨by omega, ?_⟩ | refine ⟨fun _ _ => okt_nn (by omega), ?_⟩)
      try (first | (show _ ≤ _; omega) | (show _ < _; omega))
      refine (Stock_setYear_ok (t := (gwP T lap bnd mrg n Y k).1) isStk_76 ⟨by omega, by omega⟩ wS).eq ?_
      rw [e3, if_pos ⟨gi.1.1, gi.1.2⟩]
      refine WPm.eqM (K (by omega) _ _ ⟨rfl, rfl⟩) ?_
      rw [gwY_succ (hc.1 k (by omega))]
      generalize gwY T lap bnd mrg n Y k = F
      generalize hpt : (gwP T lap bnd mrg n Y k).1.toNat = pt
      have pt8 : pt < 8 := by omega
      funext b j
      simp only [mYr, mset, updI]
      grind
  · funext b j
    simp only [mYr]
    by_cases hb : b = 81 ∧ j < 8
    · rw [if_pos hb]
      obtain ⟨rfl, hj⟩ := hb
      show M3 81 j = Y j
      exact (c2.2.2.1 j hj).2
    · rw [if_neg hb]
set_option maxHeartbeats 600000 in
set_option maxRecDepth 20000 in
theorem RingDater_grow_no {n : Nat} {T : Nat → Rw} {Y : Nat → Int} {lap bnd mrg : Int} {M : Mm} (h : cls M n T Y lap bnd mrg) (hc : gwC T lap bnd mrg n Y 0) : CallI m_RingDater_grow [.inr 0] M (fun x M' => x = -1 ∧ ∃ M2, cls M2 n T Y lap bnd mrg ∧ FrP scrF M M2 ∧ M' = mRef M2) := by
  have l0 := isStk_76.1
  have k0 : kc (lay 0) 11 = True := FR.1
  have k68 : kc (lay 68) 2 = True := FG.1
  have r4 := h.2.2.2.2.1.1
  have b4 := h.2.2.2.2.1.2
  unfold mRef
  refine callP_of (by decide) (by decide) (Nat.le_of_ble_eq_true rfl) (wpm_of (cuts := [51]) (by decide) 60 _ _ _ _ ?_)
  rw [show lM m_RingDater_grow = 3 from rfl]
  simp (maxSteps := 2000000) only [↓reduceIte, wp_eq, wpd_eq, kont_eq, STP1, STP2, STP3, STP4, STP5, konM_eq, AMK, CZ, Option.map, List.getElem?_cons_zero, List.getElem?_cons_succ, List.mem_cons, List.not_mem_nil, if_false, if_true, Nat.reduceAdd, Nat.reduceLT, Nat.reduceLeDiff, Nat.reduceEqDiff, true_and, and_true, List.length_nil, List.length_cons, or_true, true_or, or_false, false_or, Option.some.injEq, Sum.inl.injEq, Sum.inr.injEq, exists_eq_left', exists_eq_left, Int.reduceLE, Int.reduceLT, Int.reduceNeg, Int.reduceAdd, Int.reduceMul, Int.reduceSub, Int.reduceToNat, inR, Nat.zero_ne_one, false_and, Nat.succ_ne_zero, reduceCtorEq, false_implies, true_implies, not_false_eq_true, not_true_eq_false, Int.reduceEq, KRE, C_RingDater_grow, FR, l0, k68, r4, k0]
  repeat (first | refine ⟨by omega, ?_⟩ | refine ⟨fun _ _ => okt_nn (by omega), ?_⟩)
  try (first | (show _ ≤ _; omega) | (show _ < _; omega))
  refine (run_cls h (by omega)).mono (fun x M2 z => ?_)
  obtain ⟨d, rfl, z2, z3, z4, z5, z6⟩ := z
  obtain rfl := gwC_u z3 hc
  try simp (maxSteps := 2000000) only [↓reduceIte, wp_eq, wpd_eq, kont_eq, STP1, STP2, STP3, STP4, STP5, konM_eq, AMK, CZ, Option.map, List.getElem?_cons_zero, List.getElem?_cons_succ, List.mem_cons, List.not_mem_nil, if_false, if_true, Nat.reduceAdd, Nat.reduceLT, Nat.reduceLeDiff, Nat.reduceEqDiff, true_and, and_true, List.length_nil, List.length_cons, or_true, true_or, or_false, false_or, Option.some.injEq, Sum.inl.injEq, Sum.inr.injEq, exists_eq_left', exists_eq_left, Int.reduceLE, Int.reduceLT, Int.reduceNeg, Int.reduceAdd, Int.reduceMul, Int.reduceSub, Int.reduceToNat, inR, Nat.zero_ne_one, false_and, Nat.succ_ne_zero, reduceCtorEq, false_implies, true_implies, not_false_eq_true, not_true_eq_false, Int.reduceEq, KRE, C_RingDater_grow, FR, Int.natCast_zero, k0]
  repeat (first | refine ⟨by omega, ?_⟩ | refine ⟨fun _ _ => okt_nn (by omega), ?_⟩)
  try (first | (show _ ≤ _; omega) | (show _ < _; omega))
  refine RingDater_refusedAct_ok.eq ?_
  exact ⟨rfl, M2, z5, z6, rfl⟩
/-- four bytes, the highest first -/
def b4N (x : Int) (j : Nat) : Int := bAnd (bUshr x (24 - 8 * (j : Int))) 255
def mPut (M : Mm) (L : Nat) (x : Int) (k : Nat) : Mm := fun b j => if b = 2 ∧ L ≤ j ∧ j < L + k then b4N x (j - L) else if b = 1 ∧ j = 2 then (L + k : Nat) else M b j
set_option maxHeartbeats 600000 in
set_option maxRecDepth 20000 in
theorem Reader_putFour_ok {L : Nat} {x : Int} {M : Mm} (hL : M 1 2 = L) (h : L + 4 ≤ 900) : CallV m_Reader_putFour [.inr 1, .inl x] M (fun M' => M' = mPut M L x 4) := by
  refine callP_of (by decide) (by decide) (Nat.le_of_ble_eq_true rfl) (wpm_of (cuts := [3]) (by decide) 60 _ _ _ _ ?_)
  rw [show lM m_Reader_putFour = 3 from rfl]
  simp (maxSteps := 2000000) only [↓reduceIte, wp_eq, wpd_eq, kont_eq, STP1, STP2, STP3, STP4, STP5, konM_eq, AMK, CZ, Option.map, List.getElem?_cons_zero, List.getElem?_cons_succ, List.mem_cons, List.not_mem_nil, if_false, if_true, Nat.reduceAdd, Nat.reduceLT, Nat.reduceLeDiff, Nat.reduceEqDiff, true_and, and_true, List.length_nil, List.length_cons, or_true, true_or, or_false, false_or, Option.some.injEq, Sum.inl.injEq, Sum.inr.injEq, exists_eq_left', exists_eq_left, Int.reduceLE, Int.reduceLT, Int.reduceNeg, Int.reduceAdd, Int.reduceMul, Int.reduceSub, Int.reduceToNat, inR, Nat.zero_ne_one, false_and, Nat.succ_ne_zero, reduceCtorEq, false_implies, true_implies, not_false_eq_true, not_true_eq_false, Int.reduceEq, KRE, C_Reader_putFour, FD]
  refine loopQ 4 (fun k ls M1 => M1 = mPut M L x k ∧ ls = [some (.inr 1), some (.inl x), some (.inl (24 - 8 * k))]) ?_ _ _ ⟨?_, rfl⟩
  · rintro k _ _ hk ⟨rfl, rfl⟩ K
    have e2 : mPut M L x k 1 2 = (L + k : Nat) := by simp [mPut]
    by_cases hz : (24 : Int) - 8 * k < 0
    · obtain rfl : k = 4 := by omega
      refine wpm_of (cuts := [3]) (by decide) 60 _ _ _ _ ?_
      simp (maxSteps := 2000000) only [↓reduceIte, wp_eq, wpd_eq, kont_eq, STP1, STP2, STP3, STP4, STP5, konM_eq, AMK, CZ, Option.map, List.getElem?_cons_zero, List.getElem?_cons_succ, List.mem_cons, List.not_mem_nil, if_false, if_true, Nat.reduceAdd, Nat.reduceLT, Nat.reduceLeDiff, Nat.reduceEqDiff, true_and, and_true, List.length_nil, List.length_cons, or_true, true_or, or_false, false_or, Option.some.injEq, Sum.inl.injEq, Sum.inr.injEq, exists_eq_left', exists_eq_left, Int.reduceLE, Int.reduceLT, Int.reduceNeg, Int.reduceAdd, Int.reduceMul, Int.reduceSub, Int.reduceToNat, inR, Nat.zero_ne_one, false_and, Nat.succ_ne_zero, reduceCtorEq, false_implies, true_implies, not_false_eq_true, not_true_eq_false, Int.reduceEq, KRE, C_Reader_putFour, FD, hz]
      repeat (first | refine ⟨by omega, ?_⟩ | refine ⟨fun _ _ => okt_nn (by omega), ?_⟩)
      try (first | (show _ ≤ _; omega) | (show _ < _; omega))
    · have z1 : ¬ ((L + k : Nat) : Int) < 0 := by omega
      have z2 : ¬ (900 : Int) ≤ (L + k : Nat) := by omega
      refine wpm_of (cuts := [3]) (by decide) 60 _ _ _ _ ?_
      simp (maxSteps := 2000000) only [↓reduceIte, wp_eq, wpd_eq, kont_eq, STP1, STP2, STP3, STP4, STP5, konM_eq, AMK, CZ, Option.map, List.getElem?_cons_zero, List.getElem?_cons_succ, List.mem_cons, List.not_mem_nil, if_false, if_true, Nat.reduceAdd, Nat.reduceLT, Nat.reduceLeDiff, Nat.reduceEqDiff, true_and, and_true, List.length_nil, List.length_cons, or_true, true_or, or_false, false_or, Option.some.injEq, Sum.inl.injEq, Sum.inr.injEq, exists_eq_left', exists_eq_left, Int.reduceLE, Int.reduceLT, Int.reduceNeg, Int.reduceAdd, Int.reduceMul, Int.reduceSub, Int.reduceToNat, inR, Nat.zero_ne_one, false_and, Nat.succ_ne_zero, reduceCtorEq, false_implies, true_implies, not_false_eq_true, not_true_eq_false, Int.reduceEq, KRE, C_Reader_putFour, FD, hz, e2, z1, z2, natT, MSE]
      repeat (first | refine ⟨by omega, ?_⟩ | refine ⟨fun _ _ => okt_nn (by omega), ?_⟩)
      try (first | (show _ ≤ _; omega) | (show _ < _; omega))
      refine WPm.eqL (K (by omega) _ _ ⟨rfl, rfl⟩) ?_ rfl ?_
      · rw [show (24 : Int) - 8 * (k + 1 : Nat) = 24 - 8 * k + -8 by omega]
      · funext b j
        simp only [mset, mPut]
        by_cases h2 : b = 2
        · subst h2
          by_cases hj : j = L + k
          · subst hj
            simp [b4N]
          · have e : (j < L + (k + 1)) = (j < L + k) := propext ⟨fun z => by omega, fun z => by omega⟩
            simp [hj, e]
        · by_cases h1 : b = 1
          · subst h1
            by_cases hj : j = 2
            · subst hj
              simp
              omega
            · simp [hj]
          · simp [h1, h2]
  · funext b j
    simp only [mPut]
    by_cases h1 : b = 1 ∧ j = 2
    · obtain ⟨rfl, rfl⟩ := h1
      simp [hL]
    · rw [if_neg (by omega), if_neg h1]
def mFeed (M : Mm) (L : Nat) (f : Nat → Int) : Mm := fun b j => if b = 2 ∧ L ≤ j ∧ j < L + 20 then f (j - L) else if b = 1 ∧ j = 2 then (L + 20 : Nat) else M b j
def b20 (a b c d e : Int) (j : Nat) : Int := b4N (if j < 4 then a else if j < 8 then b else if j < 12 then c else if j < 16 then d else e) (j % 4)
set_option maxHeartbeats 600000 in
set_option maxRecDepth 20000 in
theorem RingDater_feed_ok {L : Nat} {a b c d e : Int} {M : Mm} (hL : M 1 2 = L) (h : L + 20 ≤ 900) : CallI m_RingDater_feed [.inr 0, .inl a, .inl b, .inl c, .inl d, .inl e] M (fun x M' => x = (L + 20 : Nat) ∧ M' = mFeed M L (b20 a b c d e)) := by
  have k1 : kc (lay 1) 5 = True := FD.1
  have z1 : (L : Int) + 20 ≤ 900 := by omega
  have g : ∀ (M : Mm) K x, mPut M K x 4 1 2 = (K + 4 : Nat) := fun M K x => by simp [mPut]
  refine callP_of (by decide) (by decide) (Nat.le_of_ble_eq_true rfl) (wpm_of (cuts := []) (by decide) 60 _ _ _ _ ?_)
  rw [show lM m_RingDater_feed = 6 from rfl]
  simp (maxSteps := 2000000) only [↓reduceIte, wp_eq, wpd_eq, kont_eq, STP1, STP2, STP3, STP4, STP5, konM_eq, AMK, CZ, Option.map, List.getElem?_cons_zero, List.getElem?_cons_succ, List.mem_cons, List.not_mem_nil, if_false, if_true, Nat.reduceAdd, Nat.reduceLT, Nat.reduceLeDiff, Nat.reduceEqDiff, true_and, and_true, List.length_nil, List.length_cons, or_true, true_or, or_false, false_or, Option.some.injEq, Sum.inl.injEq, Sum.inr.injEq, exists_eq_left', exists_eq_left, Int.reduceLE, Int.reduceLT, Int.reduceNeg, Int.reduceAdd, Int.reduceMul, Int.reduceSub, Int.reduceToNat, inR, Nat.zero_ne_one, false_and, Nat.succ_ne_zero, reduceCtorEq, false_implies, true_implies, not_false_eq_true, not_true_eq_false, Int.reduceEq, KRE, C_RingDater_feed, FR, FD, hL, z1, k1]
  repeat (first | refine ⟨by omega, ?_⟩ | refine ⟨fun _ _ => okt_nn (by omega), ?_⟩)
  try (first | (show _ ≤ _; omega) | (show _ < _; omega))
  refine (Reader_putFour_ok (L := L) hL (by omega)).eq ?_
  try simp (maxSteps := 2000000) only [↓reduceIte, wp_eq, wpd_eq, kont_eq, STP1, STP2, STP3, STP4, STP5, konM_eq, AMK, CZ, Option.map, List.getElem?_cons_zero, List.getElem?_cons_succ, List.mem_cons, List.not_mem_nil, if_false, if_true, Nat.reduceAdd, Nat.reduceLT, Nat.reduceLeDiff, Nat.reduceEqDiff, true_and, and_true, List.length_nil, List.length_cons, or_true, true_or, or_false, false_or, Option.some.injEq, Sum.inl.injEq, Sum.inr.injEq, exists_eq_left', exists_eq_left, Int.reduceLE, Int.reduceLT, Int.reduceNeg, Int.reduceAdd, Int.reduceMul, Int.reduceSub, Int.reduceToNat, inR, Nat.zero_ne_one, false_and, Nat.succ_ne_zero, reduceCtorEq, false_implies, true_implies, not_false_eq_true, not_true_eq_false, Int.reduceEq, KRE, C_RingDater_feed, FR, FD, k1]
  refine (Reader_putFour_ok (L := L + 4) (g _ _ _) (by omega)).eq ?_
  try simp (maxSteps := 2000000) only [↓reduceIte, wp_eq, wpd_eq, kont_eq, STP1, STP2, STP3, STP4, STP5, konM_eq, AMK, CZ, Option.map, List.getElem?_cons_zero, List.getElem?_cons_succ, List.mem_cons, List.not_mem_nil, if_false, if_true, Nat.reduceAdd, Nat.reduceLT, Nat.reduceLeDiff, Nat.reduceEqDiff, true_and, and_true, List.length_nil, List.length_cons, or_true, true_or, or_false, false_or, Option.some.injEq, Sum.inl.injEq, Sum.inr.injEq, exists_eq_left', exists_eq_left, Int.reduceLE, Int.reduceLT, Int.reduceNeg, Int.reduceAdd, Int.reduceMul, Int.reduceSub, Int.reduceToNat, inR, Nat.zero_ne_one, false_and, Nat.succ_ne_zero, reduceCtorEq, false_implies, true_implies, not_false_eq_true, not_true_eq_false, Int.reduceEq, KRE, C_RingDater_feed, FR, FD, k1]
  refine (Reader_putFour_ok (L := L + 4 + 4) (g _ _ _) (by omega)).eq ?_
  try simp (maxSteps := 2000000) only [↓reduceIte, wp_eq, wpd_eq, kont_eq, STP1, STP2, STP3, STP4, STP5, konM_eq, AMK, CZ, Option.map, List.getElem?_cons_zero, List.getElem?_cons_succ, List.mem_cons, List.not_mem_nil, if_false, if_true, Nat.reduceAdd, Nat.reduceLT, Nat.reduceLeDiff, Nat.reduceEqDiff, true_and, and_true, List.length_nil, List.length_cons, or_true, true_or, or_false, false_or, Option.some.injEq, Sum.inl.injEq, Sum.inr.injEq, exists_eq_left', exists_eq_left, Int.reduceLE, Int.reduceLT, Int.reduceNeg, Int.reduceAdd, Int.reduceMul, Int.reduceSub, Int.reduceToNat, inR, Nat.zero_ne_one, false_and, Nat.succ_ne_zero, reduceCtorEq, false_implies, true_implies, not_false_eq_true, not_true_eq_false, Int.reduceEq, KRE, C_RingDater_feed, FR, FD, k1]
  refine (Reader_putFour_ok (L := L + 4 + 4 + 4) (g _ _ _) (by omega)).eq ?_
  try simp (maxSteps := 2000000) only [↓reduceIte, wp_eq, wpd_eq, kont_eq, STP1, STP2, STP3, STP4, STP5, konM_eq, AMK, CZ, Option.map, List.getElem?_cons_zero, List.getElem?_cons_succ, List.mem_cons, List.not_mem_nil, if_false, if_true, Nat.reduceAdd, Nat.reduceLT, Nat.reduceLeDiff, Nat.reduceEqDiff, true_and, and_true, List.length_nil, List.length_cons, or_true, true_or, or_false, false_or, Option.some.injEq, Sum.inl.injEq, Sum.inr.injEq, exists_eq_left', exists_eq_left, Int.reduceLE, Int.reduceLT, Int.reduceNeg, Int.reduceAdd, Int.reduceMul, Int.reduceSub, Int.reduceToNat, inR, Nat.zero_ne_one, false_and, Nat.succ_ne_zero, reduceCtorEq, false_implies, true_implies, not_false_eq_true, not_true_eq_false, Int.reduceEq, KRE, C_RingDater_feed, FR, FD, k1]
  refine (Reader_putFour_ok (L := L + 4 + 4 + 4 + 4) (g _ _ _) (by omega)).eq ?_
  try simp (maxSteps := 2000000) only [↓reduceIte, wp_eq, wpd_eq, kont_eq, STP1, STP2, STP3, STP4, STP5, konM_eq, AMK, CZ, Option.map, List.getElem?_cons_zero, List.getElem?_cons_succ, List.mem_cons, List.not_mem_nil, if_false, if_true, Nat.reduceAdd, Nat.reduceLT, Nat.reduceLeDiff, Nat.reduceEqDiff, true_and, and_true, List.length_nil, List.length_cons, or_true, true_or, or_false, false_or, Option.some.injEq, Sum.inl.injEq, Sum.inr.injEq, exists_eq_left', exists_eq_left, Int.reduceLE, Int.reduceLT, Int.reduceNeg, Int.reduceAdd, Int.reduceMul, Int.reduceSub, Int.reduceToNat, inR, Nat.zero_ne_one, false_and, Nat.succ_ne_zero, reduceCtorEq, false_implies, true_implies, not_false_eq_true, not_true_eq_false, Int.reduceEq, KRE, C_RingDater_feed, FR, FD, k1, g]
  first | refine And.intro (by omega) ?_ | skip
  funext q j
  simp only [mPut, mFeed]
  by_cases h2 : q = 2
  · subst h2
    by_cases hj : L ≤ j ∧ j < L + 20
    · obtain ⟨i, rfl⟩ : ∃ i, j = L + i := ⟨j - L, by omega⟩
      have e0 : L + i - L = i := by omega
      rw [e0]
      unfold b20
      rcases (show i < 4 ∨ (4 ≤ i ∧ i < 8) ∨ (8 ≤ i ∧ i < 12) ∨ (12 ≤ i ∧ i < 16) ∨ (16 ≤ i ∧ i < 20) by omega) with r | r | r | r | r
      · rw [show i % 4 = i by omega]
        rw [if_neg (by omega), if_neg (by omega), if_neg (by omega), if_neg (by omega), if_neg (by omega), if_neg (by omega), if_neg (by omega), if_neg (by omega), if_pos (by omega), if_pos (by omega), if_pos r]
      · rw [show i % 4 = L + i - (L + 4) by omega]
        rw [if_neg (by omega), if_neg (by omega), if_neg (by omega), if_neg (by omega), if_neg (by omega), if_neg (by omega), if_pos (by omega), if_pos (by omega), if_neg (by omega), if_pos (by omega)]
      · rw [show i % 4 = L + i - (L + 4 + 4) by omega]
        rw [if_neg (by omega), if_neg (by omega), if_neg (by omega), if_neg (by omega), if_pos (by omega), if_pos (by omega), if_neg (by omega), if_neg (by omega), if_pos (by omega)]
      · rw [show i % 4 = L + i - (L + 4 + 4 + 4) by omega]
        rw [if_neg (by omega), if_neg (by omega), if_pos (by omega), if_pos (by omega), if_neg (by omega), if_neg (by omega), if_neg (by omega), if_pos (by omega)]
      · rw [show i % 4 = L + i - (L + 4 + 4 + 4 + 4) by omega]
        rw [if_pos (by omega), if_pos (by omega), if_neg (by omega), if_neg (by omega), if_neg (by omega), if_neg (by omega)]
    · rw [if_neg (by omega), if_neg (by omega), if_neg (by omega), if_neg (by omega), if_neg (by omega), if_neg (by omega), if_neg (by omega), if_neg (by omega), if_neg (by omega), if_neg (by omega), if_neg (fun z => hj z.2), if_neg (by omega)]
  · by_cases h1 : q = 1 ∧ j = 2
    · obtain ⟨rfl, rfl⟩ := h1
      simp
      omega
    · simp [h2, h1]
set_option maxHeartbeats 600000 in
set_option maxRecDepth 20000 in
theorem RingDater_feed_no {L : Nat} {a b c d e : Int} {M : Mm} (hL : M 1 2 = L) (h : ¬ L + 20 ≤ 900) (h9 : L ≤ 900) : CallI m_RingDater_feed [.inr 0, .inl a, .inl b, .inl c, .inl d, .inl e] M (fun x M' => x = -1 ∧ M' = M) := by
  have z1 : ¬ (L : Int) + 20 ≤ 900 := by omega
  refine callP_of (by decide) (by decide) (Nat.le_of_ble_eq_true rfl) (wpm_of (cuts := []) (by decide) 60 _ _ _ _ ?_)
  rw [show lM m_RingDater_feed = 6 from rfl]
  simp (maxSteps := 2000000) only [↓reduceIte, wp_eq, wpd_eq, kont_eq, STP1, STP2, STP3, STP4, STP5, konM_eq, AMK, CZ, Option.map, List.getElem?_cons_zero, List.getElem?_cons_succ, List.mem_cons, List.not_mem_nil, if_false, if_true, Nat.reduceAdd, Nat.reduceLT, Nat.reduceLeDiff, Nat.reduceEqDiff, true_and, and_true, List.length_nil, List.length_cons, or_true, true_or, or_false, false_or, Option.some.injEq, Sum.inl.injEq, Sum.inr.injEq, exists_eq_left', exists_eq_left, Int.reduceLE, Int.reduceLT, Int.reduceNeg, Int.reduceAdd, Int.reduceMul, Int.reduceSub, Int.reduceToNat, inR, Nat.zero_ne_one, false_and, Nat.succ_ne_zero, reduceCtorEq, false_implies, true_implies, not_false_eq_true, not_true_eq_false, Int.reduceEq, KRE, C_RingDater_feed, FR, FD, hL, z1]
  repeat (first | refine ⟨by omega, ?_⟩ | refine ⟨fun _ _ => okt_nn (by omega), ?_⟩)
  try (first | (show _ ≤ _; omega) | (show _ < _; omega))
/-- what an image keeps: the timbers of s, the ledger of l, the notes of o, the status of u -/
def ldEq (M' : Mm) (l : Nat) (M : Mm) (g : Nat) : Prop := M' l 4 = M g 4 ∧ ∀ q, 1 ≤ q → q ≤ 4 → ∀ j, j < 40 → M' (l + q) j = M (g + q) j
def ntEq (M' : Mm) (o : Nat) (M : Mm) (g : Nat) : Prop := M' o 2 = M g 2 ∧ ∀ q, 1 ≤ q → q ≤ 2 → ∀ j, j < 8 → M' (o + q) j = M (g + q) j
theorem mCpR_in {M : Mm} {a f n j : Nat} (h : j < n) : mCpR M a f n a j = M f j := if_pos ⟨rfl, h⟩
theorem mCpR_out {M : Mm} {a f n b j : Nat} (h : b ≠ a) : mCpR M a f n b j = M b j := if_neg (fun z => h z.1)
set_option maxHeartbeats 600000 in
set_option maxRecDepth 20000 in
theorem RingDater_image_ok {M : Mm} (hw : wfS M 76) : CallV m_RingDater_image [.inr 0] M (fun M' => stEq M' 115 M 76 ∧ ldEq M' 145 M 106 ∧ ntEq M' 150 M 111 ∧ (∀ j, j < 3 → M' 153 j = M 114 j) ∧ M' 0 14 = 1 ∧ (∀ b, 116 ≤ b → b < 120 → ∀ j, M' b j = M b j) ∧ FrP (fun b j => 115 ≤ b ∧ b < 154 ∨ b = 0 ∧ j = 14) M M') := by
  have l115 := isStk_115.1
  have l145 := isLed_145.1
  have l150 := isNts_150.1
  refine callP_of (by decide) (by decide) (Nat.le_of_ble_eq_true rfl) (wpm_of (cuts := []) (by decide) 60 _ _ _ _ ?_)
  rw [show lM m_RingDater_image = 1 from rfl]
  simp (maxSteps := 2000000) only [↓reduceIte, wp_eq, wpd_eq, kont_eq, STP1, STP2, STP3, STP4, STP5, konM_eq, AMK, CZ, Option.map, List.getElem?_cons_zero, List.getElem?_cons_succ, List.mem_cons, List.not_mem_nil, if_false, if_true, Nat.reduceAdd, Nat.reduceLT, Nat.reduceLeDiff, Nat.reduceEqDiff, true_and, and_true, List.length_nil, List.length_cons, or_true, true_or, or_false, false_or, Option.some.injEq, Sum.inl.injEq, Sum.inr.injEq, exists_eq_left', exists_eq_left, Int.reduceLE, Int.reduceLT, Int.reduceNeg, Int.reduceAdd, Int.reduceMul, Int.reduceSub, Int.reduceToNat, inR, Nat.zero_ne_one, false_and, Nat.succ_ne_zero, reduceCtorEq, false_implies, true_implies, not_false_eq_true, not_true_eq_false, Int.reduceEq, KRE, C_RingDater_image, FR, l115, l145, l150]
  repeat (first | refine And.intro (by omega) ?_ | refine And.intro (fun _ _ => okt_nn (by omega)) ?_)
  refine (Stock_copyFrom_ok isStk_115 isStk_76 hw (by omega)).mono (fun M1 z => ?_)
  obtain ⟨z1, z2, z3⟩ := z
  try simp (maxSteps := 2000000) only [↓reduceIte, wp_eq, wpd_eq, kont_eq, STP1, STP2, STP3, STP4, STP5, konM_eq, AMK, CZ, Option.map, List.getElem?_cons_zero, List.getElem?_cons_succ, List.mem_cons, List.not_mem_nil, if_false, if_true, Nat.reduceAdd, Nat.reduceLT, Nat.reduceLeDiff, Nat.reduceEqDiff, true_and, and_true, List.length_nil, List.length_cons, or_true, true_or, or_false, false_or, Option.some.injEq, Sum.inl.injEq, Sum.inr.injEq, exists_eq_left', exists_eq_left, Int.reduceLE, Int.reduceLT, Int.reduceNeg, Int.reduceAdd, Int.reduceMul, Int.reduceSub, Int.reduceToNat, inR, Nat.zero_ne_one, false_and, Nat.succ_ne_zero, reduceCtorEq, false_implies, true_implies, not_false_eq_true, not_true_eq_false, Int.reduceEq, KRE, C_RingDater_image, FR, l145]
  refine (Ledger_copyFrom_ok isLed_145 isLed_106 (by omega)).eq ?_
  try simp (maxSteps := 2000000) only [↓reduceIte, wp_eq, wpd_eq, kont_eq, STP1, STP2, STP3, STP4, STP5, konM_eq, AMK, CZ, Option.map, List.getElem?_cons_zero, List.getElem?_cons_succ, List.mem_cons, List.not_mem_nil, if_false, if_true, Nat.reduceAdd, Nat.reduceLT, Nat.reduceLeDiff, Nat.reduceEqDiff, true_and, and_true, List.length_nil, List.length_cons, or_true, true_or, or_false, false_or, Option.some.injEq, Sum.inl.injEq, Sum.inr.injEq, exists_eq_left', exists_eq_left, Int.reduceLE, Int.reduceLT, Int.reduceNeg, Int.reduceAdd, Int.reduceMul, Int.reduceSub, Int.reduceToNat, inR, Nat.zero_ne_one, false_and, Nat.succ_ne_zero, reduceCtorEq, false_implies, true_implies, not_false_eq_true, not_true_eq_false, Int.reduceEq, KRE, C_RingDater_image, FR, l150]
  refine (Notes_copyFrom_ok isNts_150 isNts_111 (by omega)).eq ?_
  try simp (maxSteps := 2000000) only [↓reduceIte, wp_eq, wpd_eq, kont_eq, STP1, STP2, STP3, STP4, STP5, konM_eq, AMK, CZ, Option.map, List.getElem?_cons_zero, List.getElem?_cons_succ, List.mem_cons, List.not_mem_nil, if_false, if_true, Nat.reduceAdd, Nat.reduceLT, Nat.reduceLeDiff, Nat.reduceEqDiff, true_and, and_true, List.length_nil, List.length_cons, or_true, true_or, or_false, false_or, Option.some.injEq, Sum.inl.injEq, Sum.inr.injEq, exists_eq_left', exists_eq_left, Int.reduceLE, Int.reduceLT, Int.reduceNeg, Int.reduceAdd, Int.reduceMul, Int.reduceSub, Int.reduceToNat, inR, Nat.zero_ne_one, false_and, Nat.succ_ne_zero, reduceCtorEq, false_implies, true_implies, not_false_eq_true, not_true_eq_false, Int.reduceEq, KRE, C_RingDater_image, FR]
  refine (RingDater_copyRow_ok (a := 153) (f := 114) (n := 3) rfl rfl (by omega) (by omega)).eq ?_
  try simp (maxSteps := 2000000) only [↓reduceIte, wp_eq, wpd_eq, kont_eq, STP1, STP2, STP3, STP4, STP5, konM_eq, AMK, CZ, Option.map, List.getElem?_cons_zero, List.getElem?_cons_succ, List.mem_cons, List.not_mem_nil, if_false, if_true, Nat.reduceAdd, Nat.reduceLT, Nat.reduceLeDiff, Nat.reduceEqDiff, true_and, and_true, List.length_nil, List.length_cons, or_true, true_or, or_false, false_or, Option.some.injEq, Sum.inl.injEq, Sum.inr.injEq, exists_eq_left', exists_eq_left, Int.reduceLE, Int.reduceLT, Int.reduceNeg, Int.reduceAdd, Int.reduceMul, Int.reduceSub, Int.reduceToNat, inR, Nat.zero_ne_one, false_and, Nat.succ_ne_zero, reduceCtorEq, false_implies, true_implies, not_false_eq_true, not_true_eq_false, Int.reduceEq, KRE, C_RingDater_image, FR]
  repeat (first | refine And.intro (by omega) ?_ | refine And.intro (fun _ _ => okt_nn (by omega)) ?_)
  have hs : ∀ b j, 115 ≤ b → b < 145 → mset (mCpR (mset (mCpR (mCpR (mset (mCpR (mCpR (mCpR (mCpR M1 (145 + 1) (106 + 1) 40) (145 + 2) (106 + 2) 40) (145 + 3) (106 + 3) 40) (145 + 4) (106 + 4) 40) 145 4 (M1 106 4)) (150 + 1) (111 + 1) 8) (150 + 2) (111 + 2) 8) 150 2 (mset (mCpR (mCpR (mCpR (mCpR M1 (145 + 1) (106 + 1) 40) (145 + 2) (106 + 2) 40) (145 + 3) (106 + 3) 40) (145 + 4) (106 + 4) 40) 145 4 (M1 106 4) 111 2)) 153 114 3) 0 14 1 b j = M1 b j := by
    intro b j h1 h2
    rw [mset_ne _ (by omega), mCpR_out (by omega), mset_ne _ (by omega), mCpR_out (by omega), mCpR_out (by omega), mset_ne _ (by omega), mCpR_out (by omega), mCpR_out (by omega), mCpR_out (by omega), mCpR_out (by omega)]
  have o1 : ∀ b j, (b < 115 ∨ 145 ≤ b) → M1 b j = M b j := fun b j h => z2 b (by omega) j
  refine ⟨?_, ⟨?_, fun q q1 q2 j hj => ?_⟩, ⟨?_, fun q q1 q2 j hj => ?_⟩, fun j hj => ?_, if_pos ⟨rfl, rfl⟩, fun b h1 h2 j => ?_, fun b j hb => ?_⟩
  · obtain ⟨y1, y2, y3, y4, y5, y6⟩ := z1
    refine ⟨fun t ht => tmEq_fr (y1 t ht) (fun b p1 p2 j => hs b j (by omega) (by omega)), fun t ht => (hs 120 t (by omega) (by omega)).trans (y2 t ht), (hs 115 3 (by omega) (by omega)).trans y3, (hs 115 4 (by omega) (by omega)).trans y4, (hs 115 5 (by omega) (by omega)).trans y5, (hs 115 6 (by omega) (by omega)).trans y6⟩
  · simp [mset, mCpR]
    exact o1 106 4 (by omega)
  · rcases (show q = 1 ∨ q = 2 ∨ q = 3 ∨ q = 4 by omega) with rfl | rfl | rfl | rfl
    · simp [mset, mCpR, hj]
      exact o1 107 j (by omega)
    · simp [mset, mCpR, hj]
      exact o1 108 j (by omega)
    · simp [mset, mCpR, hj]
      exact o1 109 j (by omega)
    · simp [mset, mCpR, hj]
      exact o1 110 j (by omega)
  · simp [mset, mCpR]
    exact o1 111 2 (by omega)
  · rcases (show q = 1 ∨ q = 2 by omega) with rfl | rfl
    · simp [mset, mCpR, hj]
      exact o1 112 j (by omega)
    · simp [mset, mCpR, hj]
      exact o1 113 j (by omega)
  · simp [mset, mCpR, hj]
    exact o1 114 j (by omega)
  · rw [hs b j (by omega) (by omega)]
    exact z3 b (by omega) (by omega) j
  · refine (if_neg (fun z => hb (Or.inr z))).trans ?_
    rw [mCpR_out (by omega), mset_ne _ (by omega), mCpR_out (by omega), mCpR_out (by omega), mset_ne _ (by omega), mCpR_out (by omega), mCpR_out (by omega), mCpR_out (by omega), mCpR_out (by omega)]
    exact o1 b j (by omega)
set_option maxHeartbeats 600000 in
set_option maxRecDepth 20000 in
theorem RingDater_restore_no {M : Mm} (h : M 0 14 = 0) : CallI m_RingDater_restore [.inr 0] M (fun x M' => x = 0 ∧ M' = M) := by
  refine callP_of (by decide) (by decide) (Nat.le_of_ble_eq_true rfl) (wpm_of (cuts := []) (by decide) 60 _ _ _ _ ?_)
  rw [show lM m_RingDater_restore = 1 from rfl]
  simp (maxSteps := 2000000) only [↓reduceIte, wp_eq, wpd_eq, kont_eq, STP1, STP2, STP3, STP4, STP5, konM_eq, AMK, CZ, Option.map, List.getElem?_cons_zero, List.getElem?_cons_succ, List.mem_cons, List.not_mem_nil, if_false, if_true, Nat.reduceAdd, Nat.reduceLT, Nat.reduceLeDiff, Nat.reduceEqDiff, true_and, and_true, List.length_nil, List.length_cons, or_true, true_or, or_false, false_or, Option.some.injEq, Sum.inl.injEq, Sum.inr.injEq, exists_eq_left', exists_eq_left, Int.reduceLE, Int.reduceLT, Int.reduceNeg, Int.reduceAdd, Int.reduceMul, Int.reduceSub, Int.reduceToNat, inR, Nat.zero_ne_one, false_and, Nat.succ_ne_zero, reduceCtorEq, false_implies, true_implies, not_false_eq_true, not_true_eq_false, Int.reduceEq, KRE, C_RingDater_restore, FR, h]
set_option maxHeartbeats 600000 in
set_option maxRecDepth 20000 in
theorem RingDater_restore_ok {M : Mm} (h : M 0 14 = 1) (hw : wfS M 115) : CallI m_RingDater_restore [.inr 0] M (fun x M' => x = 1 ∧ stEq M' 76 M 115 ∧ ldEq M' 106 M 145 ∧ ntEq M' 111 M 150 ∧ (∀ j, j < 3 → M' 114 j = M 153 j) ∧ (∀ b, 77 ≤ b → b < 81 → ∀ j, M' b j = M b j) ∧ FrP (fun b _ => 76 ≤ b ∧ b < 115) M M') := by
  have l76 := isStk_76.1
  have l106 := isLed_106.1
  have l111 := isNts_111.1
  refine callP_of (by decide) (by decide) (Nat.le_of_ble_eq_true rfl) (wpm_of (cuts := []) (by decide) 60 _ _ _ _ ?_)
  rw [show lM m_RingDater_restore = 1 from rfl]
  simp (maxSteps := 2000000) only [↓reduceIte, wp_eq, wpd_eq, kont_eq, STP1, STP2, STP3, STP4, STP5, konM_eq, AMK, CZ, Option.map, List.getElem?_cons_zero, List.getElem?_cons_succ, List.mem_cons, List.not_mem_nil, if_false, if_true, Nat.reduceAdd, Nat.reduceLT, Nat.reduceLeDiff, Nat.reduceEqDiff, true_and, and_true, List.length_nil, List.length_cons, or_true, true_or, or_false, false_or, Option.some.injEq, Sum.inl.injEq, Sum.inr.injEq, exists_eq_left', exists_eq_left, Int.reduceLE, Int.reduceLT, Int.reduceNeg, Int.reduceAdd, Int.reduceMul, Int.reduceSub, Int.reduceToNat, inR, Nat.zero_ne_one, false_and, Nat.succ_ne_zero, reduceCtorEq, false_implies, true_implies, not_false_eq_true, not_true_eq_false, Int.reduceEq, KRE, C_RingDater_restore, FR, l76, l106, l111, h]
  repeat (first | refine And.intro (by omega) ?_ | refine And.intro (fun _ _ => okt_nn (by omega)) ?_)
  refine (Stock_copyFrom_ok isStk_76 isStk_115 hw (by omega)).mono (fun M1 z => ?_)
  obtain ⟨z1, z2, z3⟩ := z
  try simp (maxSteps := 2000000) only [↓reduceIte, wp_eq, wpd_eq, kont_eq, STP1, STP2, STP3, STP4, STP5, konM_eq, AMK, CZ, Option.map, List.getElem?_cons_zero, List.getElem?_cons_succ, List.mem_cons, List.not_mem_nil, if_false, if_true, Nat.reduceAdd, Nat.reduceLT, Nat.reduceLeDiff, Nat.reduceEqDiff, true_and, and_true, List.length_nil, List.length_cons, or_true, true_or, or_false, false_or, Option.some.injEq, Sum.inl.injEq, Sum.inr.injEq, exists_eq_left', exists_eq_left, Int.reduceLE, Int.reduceLT, Int.reduceNeg, Int.reduceAdd, Int.reduceMul, Int.reduceSub, Int.reduceToNat, inR, Nat.zero_ne_one, false_and, Nat.succ_ne_zero, reduceCtorEq, false_implies, true_implies, not_false_eq_true, not_true_eq_false, Int.reduceEq, KRE, C_RingDater_restore, FR, l106]
  refine (Ledger_copyFrom_ok isLed_106 isLed_145 (by omega)).eq ?_
  try simp (maxSteps := 2000000) only [↓reduceIte, wp_eq, wpd_eq, kont_eq, STP1, STP2, STP3, STP4, STP5, konM_eq, AMK, CZ, Option.map, List.getElem?_cons_zero, List.getElem?_cons_succ, List.mem_cons, List.not_mem_nil, if_false, if_true, Nat.reduceAdd, Nat.reduceLT, Nat.reduceLeDiff, Nat.reduceEqDiff, true_and, and_true, List.length_nil, List.length_cons, or_true, true_or, or_false, false_or, Option.some.injEq, Sum.inl.injEq, Sum.inr.injEq, exists_eq_left', exists_eq_left, Int.reduceLE, Int.reduceLT, Int.reduceNeg, Int.reduceAdd, Int.reduceMul, Int.reduceSub, Int.reduceToNat, inR, Nat.zero_ne_one, false_and, Nat.succ_ne_zero, reduceCtorEq, false_implies, true_implies, not_false_eq_true, not_true_eq_false, Int.reduceEq, KRE, C_RingDater_restore, FR, l111]
  refine (Notes_copyFrom_ok isNts_111 isNts_150 (by omega)).eq ?_
  try simp (maxSteps := 2000000) only [↓reduceIte, wp_eq, wpd_eq, kont_eq, STP1, STP2, STP3, STP4, STP5, konM_eq, AMK, CZ, Option.map, List.getElem?_cons_zero, List.getElem?_cons_succ, List.mem_cons, List.not_mem_nil, if_false, if_true, Nat.reduceAdd, Nat.reduceLT, Nat.reduceLeDiff, Nat.reduceEqDiff, true_and, and_true, List.length_nil, List.length_cons, or_true, true_or, or_false, false_or, Option.some.injEq, Sum.inl.injEq, Sum.inr.injEq, exists_eq_left', exists_eq_left, Int.reduceLE, Int.reduceLT, Int.reduceNeg, Int.reduceAdd, Int.reduceMul, Int.reduceSub, Int.reduceToNat, inR, Nat.zero_ne_one, false_and, Nat.succ_ne_zero, reduceCtorEq, false_implies, true_implies, not_false_eq_true, not_true_eq_false, Int.reduceEq, KRE, C_RingDater_restore, FR]
  refine (RingDater_copyRow_ok (a := 114) (f := 153) (n := 3) rfl rfl (by omega) (by omega)).eq ?_
  try simp (maxSteps := 2000000) only [↓reduceIte, wp_eq, wpd_eq, kont_eq, STP1, STP2, STP3, STP4, STP5, konM_eq, AMK, CZ, Option.map, List.getElem?_cons_zero, List.getElem?_cons_succ, List.mem_cons, List.not_mem_nil, if_false, if_true, Nat.reduceAdd, Nat.reduceLT, Nat.reduceLeDiff, Nat.reduceEqDiff, true_and, and_true, List.length_nil, List.length_cons, or_true, true_or, or_false, false_or, Option.some.injEq, Sum.inl.injEq, Sum.inr.injEq, exists_eq_left', exists_eq_left, Int.reduceLE, Int.reduceLT, Int.reduceNeg, Int.reduceAdd, Int.reduceMul, Int.reduceSub, Int.reduceToNat, inR, Nat.zero_ne_one, false_and, Nat.succ_ne_zero, reduceCtorEq, false_implies, true_implies, not_false_eq_true, not_true_eq_false, Int.reduceEq, KRE, C_RingDater_restore, FR]
  repeat (first | refine And.intro (by omega) ?_ | refine And.intro (fun _ _ => okt_nn (by omega)) ?_)
  have hs : ∀ b j, 76 ≤ b → b < 106 → mCpR (mset (mCpR (mCpR (mset (mCpR (mCpR (mCpR (mCpR M1 (106 + 1) (145 + 1) 40) (106 + 2) (145 + 2) 40) (106 + 3) (145 + 3) 40) (106 + 4) (145 + 4) 40) 106 4 (M1 145 4)) (111 + 1) (150 + 1) 8) (111 + 2) (150 + 2) 8) 111 2 (mset (mCpR (mCpR (mCpR (mCpR M1 (106 + 1) (145 + 1) 40) (106 + 2) (145 + 2) 40) (106 + 3) (145 + 3) 40) (106 + 4) (145 + 4) 40) 106 4 (M1 145 4) 150 2)) 114 153 3 b j = M1 b j := by
    intro b j h1 h2
    rw [mCpR_out (by omega), mset_ne _ (by omega), mCpR_out (by omega), mCpR_out (by omega), mset_ne _ (by omega), mCpR_out (by omega), mCpR_out (by omega), mCpR_out (by omega), mCpR_out (by omega)]
  have o1 : ∀ b j, (b < 76 ∨ 106 ≤ b) → M1 b j = M b j := fun b j h => z2 b (by omega) j
  refine ⟨?_, ⟨?_, fun q q1 q2 j hj => ?_⟩, ⟨?_, fun q q1 q2 j hj => ?_⟩, fun j hj => ?_, fun b h1 h2 j => ?_, fun b j hb => ?_⟩
  · obtain ⟨y1, y2, y3, y4, y5, y6⟩ := z1
    refine ⟨fun t ht => tmEq_fr (y1 t ht) (fun b p1 p2 j => hs b j (by omega) (by omega)), fun t ht => (hs 81 t (by omega) (by omega)).trans (y2 t ht), (hs 76 3 (by omega) (by omega)).trans y3, (hs 76 4 (by omega) (by omega)).trans y4, (hs 76 5 (by omega) (by omega)).trans y5, (hs 76 6 (by omega) (by omega)).trans y6⟩
  · simp [mset, mCpR]
    exact o1 145 4 (by omega)
  · rcases (show q = 1 ∨ q = 2 ∨ q = 3 ∨ q = 4 by omega) with rfl | rfl | rfl | rfl
    · simp [mset, mCpR, hj]
      exact o1 146 j (by omega)
    · simp [mset, mCpR, hj]
      exact o1 147 j (by omega)
    · simp [mset, mCpR, hj]
      exact o1 148 j (by omega)
    · simp [mset, mCpR, hj]
      exact o1 149 j (by omega)
  · simp [mset, mCpR]
    exact o1 150 2 (by omega)
  · rcases (show q = 1 ∨ q = 2 by omega) with rfl | rfl
    · simp [mset, mCpR, hj]
      exact o1 151 j (by omega)
    · simp [mset, mCpR, hj]
      exact o1 152 j (by omega)
  · simp [mset, mCpR, hj]
    exact o1 153 j (by omega)
  · rw [hs b j (by omega) (by omega)]
    exact z3 b (by omega) (by omega) j
  · have hb' : ¬ (76 ≤ b ∧ b < 115) := hb
    rw [mCpR_out (by omega), mset_ne _ (by omega), mCpR_out (by omega), mCpR_out (by omega), mset_ne _ (by omega), mCpR_out (by omega), mCpR_out (by omega), mCpR_out (by omega), mCpR_out (by omega)]
    exact o1 b j (by omega)
