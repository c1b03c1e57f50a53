/-! WEB, 2. -/
def lkStep (T : Nat → Rw) (lap bnd mrg : Int) (a b : Nat) (x : Lks) : Lks := if why (best (T a) (T b) lap) bnd mrg = 0 then lkIns (lkV a b (best (T a) (T b) lap).2.1 (best (T a) (T b) lap).2.2.1) x else x
def lkRowS (T : Nat → Rw) (lap bnd mrg : Int) (a : Nat) (b : Nat) (x : Lks) : Lks := if a < b then lkStep T lap bnd mrg a b x else x
def lks (T : Nat → Rw) (lap bnd mrg : Int) (n : Nat) : Nat → Lks := foldN (fun a x => foldN (lkRowS T lap bnd mrg a) x n) (0, fun _ _ => 0)
def lkB : Nat → Nat
  | 0 => 0
  | 1 => 7
  | 2 => 13
  | 3 => 18
  | 4 => 22
  | 5 => 25
  | 6 => 27
  | _ => 28
theorem lkB_s {a : Nat} (h : a < 8) : lkB (a + 1) = lkB a + (7 - a) := by
  match a, h with
  | 0, _ => rfl
  | 1, _ => rfl
  | 2, _ => rfl
  | 3, _ => rfl
  | 4, _ => rfl
  | 5, _ => rfl
  | 6, _ => rfl
  | 7, _ => rfl
theorem lkB_le (a : Nat) : lkB a ≤ 28 := by
  match a with
  | 0 => decide
  | 1 => decide
  | 2 => decide
  | 3 => decide
  | 4 => decide
  | 5 => decide
  | 6 => decide
  | n + 7 => exact Nat.le_refl 28
theorem why_0 {x : Bst} {b m : Int} (hx : okB x) (h : why x b m = 0) : x.1 ≠ 0 ∧ (-1000 ≤ x.2.1 ∧ x.2.1 ≤ 1000) ∧ (0 ≤ x.2.2.1 ∧ x.2.2.1 ≤ 100) ∧ b ≤ x.2.2.1 := by
  unfold why at h
  by_cases e : x.1 = 0
  · rw [if_pos e] at h
    omega
  · rw [if_neg e] at h
    have := hx.2.2.1 e
    refine ⟨e, this.1, this.2.1, ?_⟩
    by_cases e2 : x.2.2.1 < b
    · rw [if_pos e2] at h
      omega
    · omega
theorem lkRow_0 {T : Nat → Rw} {lap bnd mrg : Int} {a : Nat} {X : Lks} : ∀ m, m ≤ a + 1 → foldN (lkRowS T lap bnd mrg a) X m = X
  | 0, _ => rfl
  | m + 1, h => by
    rw [foldN, lkRow_0 m (by omega)]
    exact if_neg (by omega)
theorem lkRow_R {T : Nat → Rw} {lap bnd mrg : Int} {a n : Nat} {X : Lks} (hn : n ≤ 8) (ha : a < n) (hT : ∀ t, t < n → okT (T t)) (hX : lkR X ∧ X.1 ≤ lkB a) : ∀ m, m ≤ n → lkR (foldN (lkRowS T lap bnd mrg a) X m) ∧ (foldN (lkRowS T lap bnd mrg a) X m).1 ≤ lkB a + (m - (a + 1))
  | 0, _ => ⟨hX.1, by have := hX.2; show X.1 ≤ _; omega⟩
  | m + 1, h => by
    obtain ⟨i1, i2⟩ := lkRow_R hn ha hT hX m (by omega)
    rw [foldN]
    generalize foldN (lkRowS T lap bnd mrg a) X m = Z at *
    unfold lkRowS lkStep
    by_cases c : a < m
    · rw [if_pos c]
      have ob := okB_best (A := T a) (B := T m) (lap := lap) (by have := (hT a ha).1; omega) (by have := (hT m (by omega)).1; omega)
      split
      · rename_i c2
        obtain ⟨w1, w2, w3, w4⟩ := why_0 ob c2
        have b1 := lkB_s (a := a) (by omega)
        have b2 := lkB_le (a + 1)
        refine ⟨lkR_ins i1 (by omega) ⟨?_, ?_, w2, w3⟩, ?_⟩
        · show 0 ≤ (a : Int) ∧ (a : Int) ≤ 7
          omega
        · show 0 ≤ (m : Int) ∧ (m : Int) ≤ 7
          omega
        · show Z.1 + 1 ≤ _
          omega
      · exact ⟨i1, by omega⟩
    · rw [if_neg c]
      exact ⟨i1, by omega⟩
theorem lks_R {T : Nat → Rw} {lap bnd mrg : Int} {n : Nat} (hn : n ≤ 8) (hT : ∀ t, t < n → okT (T t)) : ∀ a, a ≤ n → lkR (lks T lap bnd mrg n a) ∧ (lks T lap bnd mrg n a).1 ≤ lkB a
  | 0, _ => ⟨⟨by show 0 ≤ 28; decide, fun j hj => absurd (show j < 0 from hj) (by omega)⟩, by show 0 ≤ 0; decide⟩
  | a + 1, h => by
    have i := lks_R (lap := lap) (bnd := bnd) (mrg := mrg) hn hT a (by omega)
    have r := lkRow_R (lap := lap) (bnd := bnd) (mrg := mrg) hn (show a < n by omega) hT i n (Nat.le_refl _)
    have b1 := lkB_s (a := a) (by omega)
    refine ⟨r.1, Nat.le_trans r.2 ?_⟩
    omega
theorem lks_congr {T T' : Nat → Rw} {lap bnd mrg : Int} {n : Nat} (h : ∀ t, t < n → T t = T' t) : lks T lap bnd mrg n n = lks T' lap bnd mrg n n := by
  refine foldN_congr (fun a ha x => foldN_congr (fun b hb y => ?_))
  unfold lkRowS lkStep
  rw [h a ha, h b hb]
def stOK (M : Mm) : Prop := wfS M 76 ∧ okC (stT M 76) (fun t => M 81 t) (M 76 3).toNat
theorem stOK_cells {M M1 : Mm} (e : ∀ b, 76 ≤ b → b < 106 → ∀ j, M1 b j = M b j) (h : stOK M) : stOK M1 ∧ (∀ t, t < 8 → stT M1 76 t = stT M 76 t) ∧ (∀ t, M1 81 t = M 81 t) ∧ ∀ j, M1 76 j = M 76 j := by
  have e' : ∀ b, 76 ≤ b → b < 76 + 30 → ∀ j, M1 b j = M b j := e
  refine ⟨⟨wfS_cells e' h.1, ?_⟩, fun t ht => stT_cells e' ht, fun t => e 81 (by omega) (by omega) t, fun j => e 76 (by omega) (by omega) j⟩
  have h2 := okC_cells (M1 := M1) e' h.2
  rw [e 76 (by omega) (by omega) 3, show (fun t => M1 81 t) = fun t => M 81 t from funext (fun t => e 81 (by omega) (by omega) t)]
  exact h2
def webIs (M : Mm) (X : Lks) : Prop := lkR X ∧ lkIs M 61 X ∧ M 60 7 = X.1 ∧ (∀ t, t < 8 → M 66 t = (pcN X.2 X.1).1 t ∧ M 67 t = (pcN X.2 X.1).2 t) ∧ ∀ i, i < X.1 → M 65 i = pcT X.2 i
set_option maxHeartbeats 4000000 in
set_option maxRecDepth 20000 in
theorem Web_spin_ok {n : Nat} {T : Nat → Rw} {lap bnd mrg : Int} {M : Mm} (hs : stOK M) (hb : benOK M) (hn : n = (M 76 3).toNat) (hT : T = stT M 76) (h5 : M 76 5 = lap) (h4 : M 76 4 = bnd) (h6 : M 76 6 = mrg) :
    CallV m_Web_spin [.inr 60, .inr 76, .inr 33] M (fun M' => webIs M' (lks T lap bnd mrg n n) ∧ benOK M' ∧ FrP (fun b _ => 34 ≤ b ∧ b < 48 ∨ 58 ≤ b ∧ b < 68) M M') := by
  obtain ⟨l0, l1, l2, l3, l4⟩ := isStk_76
  obtain ⟨hw, hc⟩ := id hs
  have w0 := hw.1
  have w1 := hw.2.1
  have w2 := hw.2.2.1
  have w3 := hw.2.2.2.1
  have n8 := hc.1
  rw [← hn] at n8
  have okTs : ∀ t, t < n → okT (T t) := fun t ht => by rw [hT]; exact (hc.2 t (by omega)).1
  have f1 : lay 58 = .inr (.inl (1, [some (58 + 1), none, none, none, none, none])) := isFnd_58.1
  have k33 : kc (lay 33) 0 = True := FB.1
  refine callP_of (by decide) (by decide) (Nat.le_of_ble_eq_true rfl) (wpm_of (cuts := [7]) (by decide) 50 _ _ _ _ ?_)
  rw [show lM m_Web_spin = 6 from rfl]
  simp (maxSteps := 2000000) only [↓reduceIte, wp_eq, wpd_eq, kont_eq, STP1, STP2, STP3, STP4, STP5, konM_eq, AMK, CZ, Option.map, List.getElem?_cons_zero, List.getElem?_cons_succ, List.mem_cons, List.not_mem_nil, if_false, if_true, Nat.reduceAdd, Nat.reduceLT, Nat.reduceLeDiff, Nat.reduceEqDiff, true_and, and_true, List.length_nil, List.length_cons, or_true, true_or, or_false, false_or, Option.some.injEq, Sum.inl.injEq, Sum.inr.injEq, exists_eq_left', exists_eq_left, Int.reduceLE, Int.reduceLT, Int.reduceNeg, Int.reduceAdd, Int.reduceMul, Int.reduceSub, Int.reduceToNat, inR, Nat.zero_ne_one, false_and, Nat.succ_ne_zero, reduceCtorEq, false_implies, true_implies, not_false_eq_true, not_true_eq_false, Int.reduceEq, KRE, C_Web_spin, FW, l0]
  repeat (refine ⟨by omega, ?_⟩)
  try (first | (show _ ≤ _; omega) | (show _ < _; omega))
  refine loopQ n (fun a ls M1 => (lkIs M1 61 (lks T lap bnd mrg n a) ∧ M1 60 7 = (lks T lap bnd mrg n a).1 ∧ benOK M1 ∧ FrP (fun b _ => 34 ≤ b ∧ b < 48 ∨ 58 ≤ b ∧ b < 68) M M1) ∧ ∃ a4 a5, ls = [some (.inr 60), some (.inr 76), some (.inr 33), some (.inl a), a4, a5]) ?_ _ _ ⟨⟨fun q hq j hj => absurd (show j < 0 from hj) (by omega), by simp [mset]; rfl, ⟨rowOK_cells (fun b p1 p2 j => mset_ne b (by omega) j) hb.1, rowOK_cells (fun b p1 p2 j => mset_ne b (by omega) j) hb.2.1, rowOK_cells (fun b p1 p2 j => mset_ne b (by omega) j) hb.2.2⟩, FrP.rf.st (by omega)⟩, none, none, rfl⟩
  rintro a _ M1 ha ⟨⟨i1, i2, i3, i4⟩, a4, a5, rfl⟩ K
  obtain ⟨rX, bX⟩ := lks_R (lap := lap) (bnd := bnd) (mrg := mrg) n8 okTs a ha
  have z3 : M1 76 3 = n := by rw [i4 76 3 (by omega)]; omega
  by_cases hz : (n : Int) ≤ a
  · refine wpm_of (cuts := [7, 20]) (by decide) 100 _ _ _ _ ?_
    simp (maxSteps := 2000000) only [↓reduceIte, wp_eq, wpd_eq, kont_eq, STP1, STP2, STP3, STP4, STP5, konM_eq, AMK, CZ, Option.map, List.getElem?_cons_zero, List.getElem?_cons_succ, List.mem_cons, List.not_mem_nil, if_false, if_true, Nat.reduceAdd, Nat.reduceLT, Nat.reduceLeDiff, Nat.reduceEqDiff, true_and, and_true, List.length_nil, List.length_cons, or_true, true_or, or_false, false_or, Option.some.injEq, Sum.inl.injEq, Sum.inr.injEq, exists_eq_left', exists_eq_left, Int.reduceLE, Int.reduceLT, Int.reduceNeg, Int.reduceAdd, Int.reduceMul, Int.reduceSub, Int.reduceToNat, inR, Nat.zero_ne_one, false_and, Nat.succ_ne_zero, reduceCtorEq, false_implies, true_implies, not_false_eq_true, not_true_eq_false, Int.reduceEq, KRE, C_Web_spin, FW, l0, z3, hz]
    repeat (refine ⟨by omega, ?_⟩)
    try (first | (show _ ≤ _; omega) | (show _ < _; omega))
    refine (Web_tieAll_ok i1 rX i2).eq ?_
    have ea : a = n := by omega
    subst ea
    generalize lks T lap bnd mrg a a = X at *
    have out : ∀ b j, b ≠ 65 → b ≠ 66 → b ≠ 67 → mTie M1 X.2 X.1 b j = M1 b j := fun b j q1 q2 q3 => by simp [mTie, q1, q2, q3]
    refine ⟨⟨rX, fun q hq j hj => ?_, ?_, fun t ht => ?_, fun i hi => ?_⟩, ⟨rowOK_cells (fun b p1 p2 j => out b j (by omega) (by omega) (by omega)) i3.1, rowOK_cells (fun b p1 p2 j => out b j (by omega) (by omega) (by omega)) i3.2.1, rowOK_cells (fun b p1 p2 j => out b j (by omega) (by omega) (by omega)) i3.2.2⟩, fun b j hbj => ?_⟩
    · rw [out _ _ (by omega) (by omega) (by omega)]
      exact i1 q hq j hj
    · rw [out _ _ (by omega) (by omega) (by omega)]
      exact i2
    · simp [mTie, ht]
    · simp [mTie, hi]
    · rw [out _ _ (by omega) (by omega) (by omega)]
      exact i4 b j hbj
  · refine wpm_of (cuts := [7, 20]) (by decide) 100 _ _ _ _ ?_
    simp (maxSteps := 2000000) only [↓reduceIte, wp_eq, wpd_eq, kont_eq, STP1, STP2, STP3, STP4, STP5, konM_eq, AMK, CZ, Option.map, List.getElem?_cons_zero, List.getElem?_cons_succ, List.mem_cons, List.not_mem_nil, if_false, if_true, Nat.reduceAdd, Nat.reduceLT, Nat.reduceLeDiff, Nat.reduceEqDiff, true_and, and_true, List.length_nil, List.length_cons, or_true, true_or, or_false, false_or, Option.some.injEq, Sum.inl.injEq, Sum.inr.injEq, exists_eq_left', exists_eq_left, Int.reduceLE, Int.reduceLT, Int.reduceNeg, Int.reduceAdd, Int.reduceMul, Int.reduceSub, Int.reduceToNat, inR, Nat.zero_ne_one, false_and, Nat.succ_ne_zero, reduceCtorEq, false_implies, true_implies, not_false_eq_true, not_true_eq_false, Int.reduceEq, KRE, C_Web_spin, FW, l0, z3, hz]
    repeat (refine ⟨by omega, ?_⟩)
    try (first | (show _ ≤ _; omega) | (show _ < _; omega))
    refine loopQ (n - (a + 1)) (fun d ls M2 => (lkIs M2 61 (foldN (lkRowS T lap bnd mrg a) (lks T lap bnd mrg n a) (a + 1 + d)) ∧ M2 60 7 = (foldN (lkRowS T lap bnd mrg a) (lks T lap bnd mrg n a) (a + 1 + d)).1 ∧ benOK M2 ∧ FrP (fun b _ => 34 ≤ b ∧ b < 48 ∨ 58 ≤ b ∧ b < 68) M M2) ∧ ∃ a5, ls = [some (.inr 60), some (.inr 76), some (.inr 33), some (.inl a), some (.inl (a + 1 + d : Nat)), a5]) ?_ _ _ ⟨⟨?_, ?_, i3, i4⟩, a5, rfl⟩
    · rintro d _ M2 hd ⟨⟨j1, j2, j3, j4⟩, a5, rfl⟩ K2
      have y3 : M2 76 3 = n := by rw [j4 76 3 (by omega)]; omega
      by_cases hz2 : (n : Int) ≤ (a + 1 + d : Nat)
      · refine wpm_of (cuts := [7, 20]) (by decide) 100 _ _ _ _ ?_
        simp (maxSteps := 2000000) only [↓reduceIte, wp_eq, wpd_eq, kont_eq, STP1, STP2, STP3, STP4, STP5, konM_eq, AMK, CZ, Option.map, List.getElem?_cons_zero, List.getElem?_cons_succ, List.mem_cons, List.not_mem_nil, if_false, if_true, Nat.reduceAdd, Nat.reduceLT, Nat.reduceLeDiff, Nat.reduceEqDiff, true_and, and_true, List.length_nil, List.length_cons, or_true, true_or, or_false, false_or, Option.some.injEq, Sum.inl.injEq, Sum.inr.injEq, exists_eq_left', exists_eq_left, Int.reduceLE, Int.reduceLT, Int.reduceNeg, Int.reduceAdd, Int.reduceMul, Int.reduceSub, Int.reduceToNat, inR, Nat.zero_ne_one, false_and, Nat.succ_ne_zero, reduceCtorEq, false_implies, true_implies, not_false_eq_true, not_true_eq_false, Int.reduceEq, KRE, C_Web_spin, FW, l0, y3, hz2]
        repeat (refine ⟨by omega, ?_⟩)
        try (first | (show _ ≤ _; omega) | (show _ < _; omega))
        refine K (by omega) _ _ ⟨⟨?_, ?_, j3, j4⟩, _, _, rfl⟩
        · rw [show a + 1 + d = n by omega] at j1
          exact j1
        · rw [show a + 1 + d = n by omega] at j2
          exact j2
      · obtain ⟨s1, s2, s3, s4⟩ := stOK_cells (M1 := M2) (fun b p1 p2 j => j4 b j (by omega)) hs
        generalize hb' : a + 1 + d = b at *
        have K2' := fun x y z => K2 (by omega) x y z
        rw [show a + 1 + (d + 1) = b + 1 by omega] at K2'
        obtain ⟨rZ, bZ⟩ := lkRow_R (lap := lap) (bnd := bnd) (mrg := mrg) n8 (show a < n by omega) okTs ⟨rX, bX⟩ b (by omega)
        have eZ : foldN (lkRowS T lap bnd mrg a) (lks T lap bnd mrg n a) (b + 1) = lkStep T lap bnd mrg a b (foldN (lkRowS T lap bnd mrg a) (lks T lap bnd mrg n a) b) := if_pos (by omega)
        rw [eZ] at K2'
        generalize foldN (lkRowS T lap bnd mrg a) (lks T lap bnd mrg n a) b = Z at *
        refine wpm_of (cuts := [7, 20]) (by decide) 100 _ _ _ _ ?_
        simp (maxSteps := 2000000) only [↓reduceIte, wp_eq, wpd_eq, kont_eq, STP1, STP2, STP3, STP4, STP5, konM_eq, AMK, CZ, Option.map, List.getElem?_cons_zero, List.getElem?_cons_succ, List.mem_cons, List.not_mem_nil, if_false, if_true, Nat.reduceAdd, Nat.reduceLT, Nat.reduceLeDiff, Nat.reduceEqDiff, true_and, and_true, List.length_nil, List.length_cons, or_true, true_or, or_false, false_or, Option.some.injEq, Sum.inl.injEq, Sum.inr.injEq, exists_eq_left', exists_eq_left, Int.reduceLE, Int.reduceLT, Int.reduceNeg, Int.reduceAdd, Int.reduceMul, Int.reduceSub, Int.reduceToNat, inR, Nat.zero_ne_one, false_and, Nat.succ_ne_zero, reduceCtorEq, false_implies, true_implies, not_false_eq_true, not_true_eq_false, Int.reduceEq, KRE, C_Web_spin, FW, l0, y3, hz2]
        repeat (refine ⟨by omega, ?_⟩)
        try (first | (show _ ≤ _; omega) | (show _ < _; omega))
        refine (Stock_timberAt_ok (t := (b : Int)) isStk_76 ⟨by omega, by omega⟩ s1.1).eq ?_
        refine (Stock_timberAt_ok (t := (a : Int)) isStk_76 ⟨by omega, by omega⟩ s1.1).eq ?_
        rw [tmA_k (k := a) (by omega), tmA_k (k := b) (by omega)]
        have ta := l4 a (by omega)
        have tb := l4 b (by omega)
        have eTa : tRw M2 (76 + 6 + 3 * a) = T a := by rw [hT]; exact s2 a (by omega)
        have eTb : tRw M2 (76 + 6 + 3 * b) = T b := by rw [hT]; exact s2 b (by omega)
        have v5 : M2 76 5 = lap := (s4 5).trans h5
        simp (maxSteps := 2000000) only [↓reduceIte, wp_eq, wpd_eq, kont_eq, STP1, STP2, STP3, STP4, STP5, konM_eq, AMK, CZ, Option.map, List.getElem?_cons_zero, List.getElem?_cons_succ, List.mem_cons, List.not_mem_nil, if_false, if_true, Nat.reduceAdd, Nat.reduceLT, Nat.reduceLeDiff, Nat.reduceEqDiff, true_and, and_true, List.length_nil, List.length_cons, or_true, true_or, or_false, false_or, Option.some.injEq, Sum.inl.injEq, Sum.inr.injEq, exists_eq_left', exists_eq_left, Int.reduceLE, Int.reduceLT, Int.reduceNeg, Int.reduceAdd, Int.reduceMul, Int.reduceSub, Int.reduceToNat, inR, Nat.zero_ne_one, false_and, Nat.succ_ne_zero, reduceCtorEq, false_implies, true_implies, not_false_eq_true, not_true_eq_false, Int.reduceEq, KRE, C_Web_spin, FW, l0, k33, v5]
        refine (Bench_seekOn_ok (o := 76 + 6 + 3 * b) (p := 76 + 6 + 3 * a) tb ta j3 (s1.1.2.2.2.2.1 b (by omega)) (by rw [eTb]; exact okTs b (by omega)) (s1.1.2.2.2.2.1 a (by omega)) (by omega) (by omega) (by omega)).mono (fun y M3 z => ?_)
        obtain ⟨rfl, z1, z2, z4⟩ := z
        rw [eTa, eTb] at z1
        have u4 : M3 76 4 = bnd := ((z4 76 4 (by omega)).trans (s4 4)).trans h4
        have u6 : M3 76 6 = mrg := ((z4 76 6 (by omega)).trans (s4 6)).trans h6
        have la := (okTs a (by omega)).1
        have lb := (okTs b (by omega)).1
        have ob := okB_best (A := T a) (B := T b) (lap := lap) (by omega) (by omega)
        simp (maxSteps := 2000000) only [↓reduceIte, wp_eq, wpd_eq, kont_eq, STP1, STP2, STP3, STP4, STP5, konM_eq, AMK, CZ, Option.map, List.getElem?_cons_zero, List.getElem?_cons_succ, List.mem_cons, List.not_mem_nil, if_false, if_true, Nat.reduceAdd, Nat.reduceLT, Nat.reduceLeDiff, Nat.reduceEqDiff, true_and, and_true, List.length_nil, List.length_cons, or_true, true_or, or_false, false_or, Option.some.injEq, Sum.inl.injEq, Sum.inr.injEq, exists_eq_left', exists_eq_left, Int.reduceLE, Int.reduceLT, Int.reduceNeg, Int.reduceAdd, Int.reduceMul, Int.reduceSub, Int.reduceToNat, inR, Nat.zero_ne_one, false_and, Nat.succ_ne_zero, reduceCtorEq, false_implies, true_implies, not_false_eq_true, not_true_eq_false, Int.reduceEq, KRE, C_Web_spin, FW, l0, f1, u4, u6]
        refine (Finding_whyNotSure_ok (b := bnd) (m := mrg) isFnd_58 ob z1 (by omega) (by omega)).eq ?_
        have hwy : -1000 ≤ why (best (T a) (T b) lap) bnd mrg ∧ why (best (T a) (T b) lap) bnd mrg ≤ 1000 := by
          unfold why
          split
          · omega
          · split
            · omega
            · split <;> omega
        have eS : lkStep T lap bnd mrg a b Z = if why (best (T a) (T b) lap) bnd mrg = 0 then lkIns (lkV a b (best (T a) (T b) lap).2.1 (best (T a) (T b) lap).2.2.1) Z else Z := rfl
        have fr3 : FrP (fun b _ => 34 ≤ b ∧ b < 48 ∨ 58 ≤ b ∧ b < 68) M M3 := j4.tr (z4.wd (fun b j q => by omega))
        have li3 : lkIs M3 61 Z := fun q hq j hj => by rw [z4 _ _ (by omega)]; exact j1 q hq j hj
        have k3 : M3 60 7 = Z.1 := (z4 60 7 (by omega)).trans j2
        by_cases cw : why (best (T a) (T b) lap) bnd mrg = 0
        · rw [if_pos cw] at eS
          obtain ⟨g1, g2, g3, g4⟩ := why_0 ob cw
          have cw' := eq_true cw
          obtain ⟨f2, f3, f4⟩ := z1.2.2 g1
          simp (maxSteps := 2000000) only [↓reduceIte, wp_eq, wpd_eq, kont_eq, STP1, STP2, STP3, STP4, STP5, konM_eq, AMK, CZ, Option.map, List.getElem?_cons_zero, List.getElem?_cons_succ, List.mem_cons, List.not_mem_nil, if_false, if_true, Nat.reduceAdd, Nat.reduceLT, Nat.reduceLeDiff, Nat.reduceEqDiff, true_and, and_true, List.length_nil, List.length_cons, or_true, true_or, or_false, false_or, Option.some.injEq, Sum.inl.injEq, Sum.inr.injEq, exists_eq_left', exists_eq_left, Int.reduceLE, Int.reduceLT, Int.reduceNeg, Int.reduceAdd, Int.reduceMul, Int.reduceSub, Int.reduceToNat, inR, Nat.zero_ne_one, false_and, Nat.succ_ne_zero, reduceCtorEq, false_implies, true_implies, not_false_eq_true, not_true_eq_false, Int.reduceEq, KRE, C_Web_spin, FW, cw', f2, f3]
          repeat (refine ⟨by omega, ?_⟩)
          try (first | (show _ ≤ _; omega) | (show _ < _; omega))
          have bs := lkB_s (a := a) (by omega)
          have bl := lkB_le (a + 1)
          refine (Web_insert_ok (a := a) (b := b) (s := (best (T a) (T b) lap).2.1) (c := (best (T a) (T b) lap).2.2.1) li3 rZ k3 (by omega) g3).mono (fun M4 z => ?_)
          obtain ⟨z5, z6, z7⟩ := z
          rw [eS] at K2'
          refine K2' _ _ ⟨⟨z5, z6, ⟨rowOK_cells (fun b p1 p2 j => z7 b (by omega) j) z2.1, rowOK_cells (fun b p1 p2 j => z7 b (by omega) j) z2.2.1, rowOK_cells (fun b p1 p2 j => z7 b (by omega) j) z2.2.2⟩, fun b j hbj => (z7 b (by omega) j).trans (fr3 b j hbj)⟩, _, rfl⟩
        · rw [if_neg cw] at eS
          rw [eS] at K2'
          have cw' := eq_false cw
          simp (maxSteps := 2000000) only [↓reduceIte, wp_eq, wpd_eq, kont_eq, STP1, STP2, STP3, STP4, STP5, konM_eq, AMK, CZ, Option.map, List.getElem?_cons_zero, List.getElem?_cons_succ, List.mem_cons, List.not_mem_nil, if_false, if_true, Nat.reduceAdd, Nat.reduceLT, Nat.reduceLeDiff, Nat.reduceEqDiff, true_and, and_true, List.length_nil, List.length_cons, or_true, true_or, or_false, false_or, Option.some.injEq, Sum.inl.injEq, Sum.inr.injEq, exists_eq_left', exists_eq_left, Int.reduceLE, Int.reduceLT, Int.reduceNeg, Int.reduceAdd, Int.reduceMul, Int.reduceSub, Int.reduceToNat, inR, Nat.zero_ne_one, false_and, Nat.succ_ne_zero, reduceCtorEq, false_implies, true_implies, not_false_eq_true, not_true_eq_false, Int.reduceEq, KRE, C_Web_spin, FW, cw']
          repeat (refine ⟨by omega, ?_⟩)
          try (first | (show _ ≤ _; omega) | (show _ < _; omega))
          exact K2' _ _ ⟨⟨li3, k3, z2, fr3⟩, _, rfl⟩
    · rw [lkRow_0 (a + 1 + 0) (by omega)]
      exact i1
    · rw [lkRow_0 (a + 1 + 0) (by omega)]
      exact i2
