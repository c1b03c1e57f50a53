/-! WEB, 3: pieces and their places. -/
theorem sumN_add (f g : Nat → Int) : ∀ n, sumN (fun t => f t + g t) n = sumN f n + sumN g n
  | 0 => rfl
  | n + 1 => by
    rw [sumN, sumN, sumN, sumN_add f g n]
    omega
theorem sumN_ind (m : Nat) : ∀ n, sumN (fun t => if t = m then 1 else 0) n = if m < n then 1 else 0
  | 0 => by simp [sumN]
  | n + 1 => by
    rw [sumN, sumN_ind m n]
    by_cases e : n = m
    · subst e
      simp
    · by_cases l : m < n
      · rw [if_pos l, if_neg e, if_pos (by omega)]
        omega
      · rw [if_neg l, if_neg e, if_neg (by omega)]
        omega
def bd : Nat → Int
  | 0 => 0
  | n + 1 => 3 * bd n + 1000
theorem bd_in : ∀ n, 0 ≤ bd n ∧ bd n ≤ bd (n + 1)
  | 0 => ⟨by decide, by decide⟩
  | n + 1 => by
    have := bd_in n
    simp only [bd] at *
    omega
theorem bd_mono {a b : Nat} (h : a ≤ b) : bd a ≤ bd b := by
  induction b with
  | zero =>
    obtain rfl : a = 0 := by omega
    exact Int.le_refl _
  | succ b ih =>
    by_cases e : a = b + 1
    · subst e
      exact Int.le_refl _
    · exact Int.le_trans (ih (by omega)) (bd_in b).2
def fxN (L : Nat → Int) : Int := sumN (fun t => if L t = t then 1 else 0) 8
/-- a timber's least is in its piece, and lies by 0 -/
def pcI (x : Pcs) : Prop := (∀ t, t < 8 → (0 ≤ x.1 t ∧ x.1 t ≤ t) ∧ x.1 (x.1 t).toNat = x.1 t ∧ x.2 (x.1 t).toNat = 0) ∧ ∀ t, t < 8 → -bd (8 - fxN x.1).toNat ≤ x.2 t ∧ x.2 t ≤ bd (8 - fxN x.1).toNat
theorem fx_1 {L : Nat → Int} (h : ∀ t, t < 8 → 0 ≤ L t ∧ L t ≤ t) : 1 ≤ fxN L ∧ fxN L ≤ 8 := by
  have h0 := h 0 (by omega)
  have e0 : L 0 = 0 := by omega
  have a := sumN_in (f := fun t => if L t = t then 1 else 0) (a := 0) (b := 1) (n := 8) (fun j hj => by split <;> omega)
  have b := sumN_mul (f := fun t => if t = 0 then 1 else 0) (g := fun t => if L t = t then 1 else 0) (c := 1) (n := 8) (fun j hj => by
    by_cases e : j = 0
    · subst e
      simp [e0]
    · rw [if_neg e]
      split <;> omega)
  rw [sumN_ind] at b
  unfold fxN
  simp at b
  omega
theorem pcI_0 : pcI (fun t => (t : Int), fun _ => 0) := by
  refine ⟨fun t ht => ⟨⟨Int.natCast_nonneg t, Int.le_refl _⟩, rfl, rfl⟩, fun t ht => ?_⟩
  have := (bd_in (8 - fxN (fun t => (t : Int))).toNat).1
  exact ⟨by show -bd (8 - fxN (fun t => (t : Int))).toNat ≤ 0; omega, this⟩
theorem pcI_J {x : Pcs} {a b s : Int} (h : pcI x) (ha : 0 ≤ a ∧ a ≤ 7) (hb : 0 ≤ b ∧ b ≤ 7) (hs : -1000 ≤ s ∧ s ≤ 1000) (hne : x.1 a.toNat ≠ x.1 b.toNat) : pcI (pcJ (x.1 a.toNat) (x.1 b.toNat) (x.2 a.toNat + s - x.2 b.toNat) x) := by
  obtain ⟨h1, h2⟩ := h
  obtain ⟨a1, a2, a3⟩ := h1 a.toNat (by omega)
  obtain ⟨b1, b2, b3⟩ := h1 b.toNat (by omega)
  have pa := h2 a.toNat (by omega)
  have pb := h2 b.toNat (by omega)
  have fx := fx_1 (fun t ht => (h1 t ht).1)
  generalize hf : x.1 a.toNat = f at *
  generalize hg : x.1 b.toNat = g at *
  generalize hd : x.2 a.toNat + s - x.2 b.toNat = d at *
  have eL : ∀ t, (pcJ f g d x).1 t = if min f g = f ∧ x.1 t = g then f else if min f g = g ∧ x.1 t = f then g else x.1 t := fun t => rfl
  have eP : ∀ t, (pcJ f g d x).2 t = if min f g = f ∧ x.1 t = g then x.2 t + d else if min f g = g ∧ x.1 t = f then x.2 t - d else x.2 t := fun t => rfl
  have fxe : fxN (pcJ f g d x).1 + 1 = fxN x.1 := by
    have e := sumN_add (fun t => if (pcJ f g d x).1 t = t then 1 else 0) (fun t => if t = (max f g).toNat then 1 else 0) 8
    rw [sumN_ind, if_pos (by omega)] at e
    have e2 : fxN x.1 = sumN (fun t => (if (pcJ f g d x).1 t = t then 1 else 0) + (if t = (max f g).toNat then 1 else 0)) 8 := by
      refine sumN_congr (fun t ht => ?_)
      rw [eL]
      have ht1 := h1 t ht
      by_cases c : t = (max f g).toNat
      · rw [if_pos c]
        have e3 : x.1 t = t := by
          rcases (show max f g = f ∨ max f g = g by omega) with q | q
          · rw [c, q, a2]; omega
          · rw [c, q, b2]; omega
        rw [if_pos e3]
        have e4 : (if min f g = f ∧ x.1 t = g then f else if min f g = g ∧ x.1 t = f then g else x.1 t) ≠ t := by
          by_cases m : min f g = f
          · rw [if_pos ⟨m, by omega⟩]; omega
          · rw [if_neg (fun z => m z.1), if_pos ⟨by omega, by omega⟩]; omega
        rw [if_neg e4]
        rfl
      · rw [if_neg c]
        by_cases m : min f g = f ∧ x.1 t = g
        · rw [if_pos m]
          have n1 : x.1 t ≠ t := by omega
          have n2 : f ≠ t := fun z => by
            have : x.1 t = f := by rw [← a2, z]; rfl
            omega
          rw [if_neg n1, if_neg n2]
          rfl
        · rw [if_neg m]
          by_cases m2 : min f g = g ∧ x.1 t = f
          · rw [if_pos m2]
            have n1 : x.1 t ≠ t := by omega
            have n2 : g ≠ t := fun z => by
              have : x.1 t = g := by rw [← b2, z]; rfl
              omega
            rw [if_neg n1, if_neg n2]
            rfl
          · rw [if_neg m2]
            exact (Int.add_zero _).symm
    unfold fxN at *
    omega
  have bde : bd (8 - fxN (pcJ f g d x).1).toNat = 3 * bd (8 - fxN x.1).toNat + 1000 := by
    rw [show (8 - fxN (pcJ f g d x).1).toNat = (8 - fxN x.1).toNat + 1 by omega]
    rfl
  have b0 := (bd_in (8 - fxN x.1).toNat).1
  refine ⟨fun t ht => ?_, fun t ht => ?_⟩
  · obtain ⟨t1, t2, t3⟩ := h1 t ht
    rw [eL t]
    by_cases m : min f g = f ∧ x.1 t = g
    · rw [if_pos m, eL, eP, a2, if_neg (by omega), if_neg (by omega), if_neg (by omega), if_neg (by omega)]
      exact ⟨by omega, rfl, a3⟩
    · rw [if_neg m]
      by_cases m2 : min f g = g ∧ x.1 t = f
      · rw [if_pos m2, eL, eP, b2, if_neg (by omega), if_neg (by omega), if_neg (by omega), if_neg (by omega)]
        exact ⟨by omega, rfl, b3⟩
      · rw [if_neg m2, eL, eP, t2, if_neg m, if_neg m2, if_neg m, if_neg m2]
        exact ⟨t1, rfl, t3⟩
  · have p := h2 t ht
    rw [bde, eP]
    split
    · omega
    · split <;> omega
theorem pcI_N {x : Lks} (h : lkR x) : ∀ k, k ≤ x.1 → pcI (pcN x.2 k)
  | 0, _ => pcI_0
  | k + 1, hk => by
    have i := pcI_N h k (by omega)
    obtain ⟨r0, r1, r2, r3⟩ := h.2 k (by omega)
    rw [pcN_succ]
    unfold pcS
    split
    · exact pcI_J i r0 r1 r2 (by assumption)
    · exact i
theorem pcI_in {x : Pcs} (h : pcI x) {t : Nat} (ht : t < 8) : (-1093000 ≤ x.2 t ∧ x.2 t ≤ 1093000) ∧ (0 ≤ x.1 t ∧ x.1 t ≤ t) := by
  have fx := fx_1 (fun t ht => (h.1 t ht).1)
  have b1 := bd_mono (show (8 - fxN x.1).toNat ≤ 7 by omega)
  have b2 : bd 7 = 1093000 := by decide
  have := h.2 t ht
  exact ⟨by omega, (h.1 t ht).1⟩
set_option maxHeartbeats 4000000 in
set_option maxRecDepth 20000 in
theorem Web_countPieces_ok {n : Nat} {X : Lks} {M : Mm} (hx : webIs M X) (hn : n ≤ 8) : CallI m_Web_countPieces [.inr 60, .inl n] M (fun y M' => y = sumN (fun t => if (pcN X.2 X.1).1 t = t then 1 else 0) n ∧ M' = M) := by
  obtain ⟨rX, x1, x2, x3, x4⟩ := hx
  have I := pcI_N rX X.1 (Nat.le_refl _)
  generalize pcN X.2 X.1 = P at *
  refine callP_of (by decide) (by decide) (Nat.le_of_ble_eq_true rfl) (wpm_of (cuts := [4]) (by decide) 50 _ _ _ _ ?_)
  rw [show lM m_Web_countPieces = 4 from rfl]
  simp (maxSteps := 2000000) only [↓reduceIte, wp_eq, wpd_eq, kont_eq, STP1, STP2, STP3, STP4, STP5, konM_eq, AMK, CZ, Option.map, List.getElem?_cons_zero, List.getElem?_cons_succ, List.mem_cons, List.not_mem_nil, if_false, if_true, Nat.reduceAdd, Nat.reduceLT, Nat.reduceLeDiff, Nat.reduceEqDiff, true_and, and_true, List.length_nil, List.length_cons, or_true, true_or, or_false, false_or, Option.some.injEq, Sum.inl.injEq, Sum.inr.injEq, exists_eq_left', exists_eq_left, Int.reduceLE, Int.reduceLT, Int.reduceNeg, Int.reduceAdd, Int.reduceMul, Int.reduceSub, Int.reduceToNat, inR, Nat.zero_ne_one, false_and, Nat.succ_ne_zero, reduceCtorEq, false_implies, true_implies, not_false_eq_true, not_true_eq_false, Int.reduceEq, KRE, C_Web_countPieces, FW]
  refine loopQ n (fun k ls M1 => M = M1 ∧ ls = [some (.inr 60), some (.inl n), some (.inl (sumN (fun t => if P.1 t = t then 1 else 0) k)), some (.inl k)]) ?_ _ _ ⟨rfl, rfl⟩
  rintro k _ _ hk ⟨rfl, rfl⟩ K
  by_cases hz : (n : Int) ≤ k
  · refine wpm_of (cuts := [4]) (by decide) 100 _ _ _ _ ?_
    simp (maxSteps := 2000000) only [↓reduceIte, wp_eq, wpd_eq, kont_eq, STP1, STP2, STP3, STP4, STP5, konM_eq, AMK, CZ, Option.map, List.getElem?_cons_zero, List.getElem?_cons_succ, List.mem_cons, List.not_mem_nil, if_false, if_true, Nat.reduceAdd, Nat.reduceLT, Nat.reduceLeDiff, Nat.reduceEqDiff, true_and, and_true, List.length_nil, List.length_cons, or_true, true_or, or_false, false_or, Option.some.injEq, Sum.inl.injEq, Sum.inr.injEq, exists_eq_left', exists_eq_left, Int.reduceLE, Int.reduceLT, Int.reduceNeg, Int.reduceAdd, Int.reduceMul, Int.reduceSub, Int.reduceToNat, inR, Nat.zero_ne_one, false_and, Nat.succ_ne_zero, reduceCtorEq, false_implies, true_implies, not_false_eq_true, not_true_eq_false, Int.reduceEq, KRE, C_Web_countPieces, FW, hz]
    repeat (refine ⟨by omega, ?_⟩)
    try (first | (show _ ≤ _; omega) | (show _ < _; omega))
    rw [show k = n by omega]
  · refine wpm_of (cuts := [4]) (by decide) 100 _ _ _ _ ?_
    simp (maxSteps := 2000000) only [↓reduceIte, wp_eq, wpd_eq, kont_eq, STP1, STP2, STP3, STP4, STP5, konM_eq, AMK, CZ, Option.map, List.getElem?_cons_zero, List.getElem?_cons_succ, List.mem_cons, List.not_mem_nil, if_false, if_true, Nat.reduceAdd, Nat.reduceLT, Nat.reduceLeDiff, Nat.reduceEqDiff, true_and, and_true, List.length_nil, List.length_cons, or_true, true_or, or_false, false_or, Option.some.injEq, Sum.inl.injEq, Sum.inr.injEq, exists_eq_left', exists_eq_left, Int.reduceLE, Int.reduceLT, Int.reduceNeg, Int.reduceAdd, Int.reduceMul, Int.reduceSub, Int.reduceToNat, inR, Nat.zero_ne_one, false_and, Nat.succ_ne_zero, reduceCtorEq, false_implies, true_implies, not_false_eq_true, not_true_eq_false, Int.reduceEq, KRE, C_Web_countPieces, FW, hz]
    repeat (refine ⟨by omega, ?_⟩)
    try (first | (show _ ≤ _; omega) | (show _ < _; omega))
    refine (Web_leastOfPiece_ok (t := (k : Int)) ⟨by omega, by omega⟩).eq ?_
    rw [if_pos (by omega), natT, (x3 k (by omega)).1]
    have b := (pcI_in I (t := k) (by omega)).2
    have K' := K (by omega) _ _ ⟨rfl, rfl⟩
    rw [sumN] at K'
    refine ⟨by omega, by omega, fun c => ?_, fun c => ?_⟩
    · rw [if_neg c] at K'
      exact K'
    · rw [if_pos (by omega)] at K'
      exact K'
def agF (X : Lks) (P : Nat → Int) (i : Nat) : Int := if pcT X.2 i = 0 ∧ P (X.2 1 i).toNat - P (X.2 0 i).toNat ≠ X.2 2 i then 1 else 0
set_option maxHeartbeats 4000000 in
set_option maxRecDepth 20000 in
theorem Web_countAgainst_ok {X : Lks} {M : Mm} (hx : webIs M X) : CallI m_Web_countAgainst [.inr 60] M (fun y M' => y = sumN (agF X (pcN X.2 X.1).2) X.1 ∧ M' = M) := by
  obtain ⟨rX, x1, x2, x3, x4⟩ := hx
  have I := pcI_N rX X.1 (Nat.le_refl _)
  generalize pcN X.2 X.1 = P at *
  have n28 := rX.1
  refine callP_of (by decide) (by decide) (Nat.le_of_ble_eq_true rfl) (wpm_of (cuts := [4]) (by decide) 50 _ _ _ _ ?_)
  rw [show lM m_Web_countAgainst = 4 from rfl]
  simp (maxSteps := 2000000) only [↓reduceIte, wp_eq, wpd_eq, kont_eq, STP1, STP2, STP3, STP4, STP5, konM_eq, AMK, CZ, Option.map, List.getElem?_cons_zero, List.getElem?_cons_succ, List.mem_cons, List.not_mem_nil, if_false, if_true, Nat.reduceAdd, Nat.reduceLT, Nat.reduceLeDiff, Nat.reduceEqDiff, true_and, and_true, List.length_nil, List.length_cons, or_true, true_or, or_false, false_or, Option.some.injEq, Sum.inl.injEq, Sum.inr.injEq, exists_eq_left', exists_eq_left, Int.reduceLE, Int.reduceLT, Int.reduceNeg, Int.reduceAdd, Int.reduceMul, Int.reduceSub, Int.reduceToNat, inR, Nat.zero_ne_one, false_and, Nat.succ_ne_zero, reduceCtorEq, false_implies, true_implies, not_false_eq_true, not_true_eq_false, Int.reduceEq, KRE, C_Web_countAgainst, FW]
  refine loopQ X.1 (fun k ls M1 => M = M1 ∧ ∃ a3, ls = [some (.inr 60), some (.inl (sumN (agF X P.2) k)), some (.inl k), a3]) ?_ _ _ ⟨rfl, none, rfl⟩
  rintro k _ _ hk ⟨rfl, a3, rfl⟩ K
  by_cases hz : (X.1 : Int) ≤ k
  · refine wpm_of (cuts := [4]) (by decide) 100 _ _ _ _ ?_
    simp (maxSteps := 2000000) only [↓reduceIte, wp_eq, wpd_eq, kont_eq, STP1, STP2, STP3, STP4, STP5, konM_eq, AMK, CZ, Option.map, List.getElem?_cons_zero, List.getElem?_cons_succ, List.mem_cons, List.not_mem_nil, if_false, if_true, Nat.reduceAdd, Nat.reduceLT, Nat.reduceLeDiff, Nat.reduceEqDiff, true_and, and_true, List.length_nil, List.length_cons, or_true, true_or, or_false, false_or, Option.some.injEq, Sum.inl.injEq, Sum.inr.injEq, exists_eq_left', exists_eq_left, Int.reduceLE, Int.reduceLT, Int.reduceNeg, Int.reduceAdd, Int.reduceMul, Int.reduceSub, Int.reduceToNat, inR, Nat.zero_ne_one, false_and, Nat.succ_ne_zero, reduceCtorEq, false_implies, true_implies, not_false_eq_true, not_true_eq_false, Int.reduceEq, KRE, C_Web_countAgainst, FW, x2, hz]
    repeat (refine ⟨by omega, ?_⟩)
    try (first | (show _ ≤ _; omega) | (show _ < _; omega))
    rw [show k = X.1 by omega]
  · obtain ⟨r0, r1, r2, r3⟩ := rX.2 k (by omega)
    have hz2 : ¬ (28 : Int) ≤ k := by omega
    have g0 : M 61 k = X.2 0 k := x1 0 (by omega) k (by omega)
    have g1 : M 62 k = X.2 1 k := x1 1 (by omega) k (by omega)
    have g2 : M 63 k = X.2 2 k := x1 2 (by omega) k (by omega)
    have g5 := x4 k (by omega)
    have tT : pcT X.2 k = 0 ∨ pcT X.2 k = 1 := by unfold pcT; split <;> omega
    have b0 := (pcI_in I (t := (X.2 0 k).toNat) (by omega)).1
    have b1 := (pcI_in I (t := (X.2 1 k).toNat) (by omega)).1
    refine wpm_of (cuts := [4]) (by decide) 100 _ _ _ _ ?_
    simp (maxSteps := 2000000) only [↓reduceIte, wp_eq, wpd_eq, kont_eq, STP1, STP2, STP3, STP4, STP5, konM_eq, AMK, CZ, Option.map, List.getElem?_cons_zero, List.getElem?_cons_succ, List.mem_cons, List.not_mem_nil, if_false, if_true, Nat.reduceAdd, Nat.reduceLT, Nat.reduceLeDiff, Nat.reduceEqDiff, true_and, and_true, List.length_nil, List.length_cons, or_true, true_or, or_false, false_or, Option.some.injEq, Sum.inl.injEq, Sum.inr.injEq, exists_eq_left', exists_eq_left, Int.reduceLE, Int.reduceLT, Int.reduceNeg, Int.reduceAdd, Int.reduceMul, Int.reduceSub, Int.reduceToNat, inR, Nat.zero_ne_one, false_and, Nat.succ_ne_zero, reduceCtorEq, false_implies, true_implies, not_false_eq_true, not_true_eq_false, Int.reduceEq, KRE, C_Web_countAgainst, FW, x2, hz, hz2, natT, g0, g1, g2, g5]
    repeat (refine ⟨by omega, ?_⟩)
    try (first | (show _ ≤ _; omega) | (show _ < _; omega))
    refine (Web_placeOf_ok (t := X.2 1 k) ⟨by omega, by omega⟩).eq ?_
    rw [if_pos (by omega), (x3 _ (by omega)).2]
    simp (maxSteps := 2000000) only [↓reduceIte, wp_eq, wpd_eq, kont_eq, STP1, STP2, STP3, STP4, STP5, konM_eq, AMK, CZ, Option.map, List.getElem?_cons_zero, List.getElem?_cons_succ, List.mem_cons, List.not_mem_nil, if_false, if_true, Nat.reduceAdd, Nat.reduceLT, Nat.reduceLeDiff, Nat.reduceEqDiff, true_and, and_true, List.length_nil, List.length_cons, or_true, true_or, or_false, false_or, Option.some.injEq, Sum.inl.injEq, Sum.inr.injEq, exists_eq_left', exists_eq_left, Int.reduceLE, Int.reduceLT, Int.reduceNeg, Int.reduceAdd, Int.reduceMul, Int.reduceSub, Int.reduceToNat, inR, Nat.zero_ne_one, false_and, Nat.succ_ne_zero, reduceCtorEq, false_implies, true_implies, not_false_eq_true, not_true_eq_false, Int.reduceEq, KRE, C_Web_countAgainst, FW, natT, g0, g1, g2, g5]
    repeat (refine ⟨by omega, ?_⟩)
    try (first | (show _ ≤ _; omega) | (show _ < _; omega))
    refine (Web_placeOf_ok (t := X.2 0 k) ⟨by omega, by omega⟩).eq ?_
    rw [if_pos (by omega), (x3 _ (by omega)).2]
    have K' := fun a3 => K (by omega) _ _ ⟨rfl, a3, rfl⟩
    have eA : sumN (agF X P.2) (k + 1) = sumN (agF X P.2) k + (if pcT X.2 k = 0 ∧ P.2 (X.2 1 k).toNat - P.2 (X.2 0 k).toNat ≠ X.2 2 k then 1 else 0) := rfl
    rw [eA] at K'
    by_cases c : P.2 (X.2 1 k).toNat - P.2 (X.2 0 k).toNat = X.2 2 k
    · rw [if_neg (by omega)] at K'
      have c' := eq_true c
      rcases tT with tT | tT
      · simp (maxSteps := 2000000) only [↓reduceIte, wp_eq, wpd_eq, kont_eq, STP1, STP2, STP3, STP4, STP5, konM_eq, AMK, CZ, Option.map, List.getElem?_cons_zero, List.getElem?_cons_succ, List.mem_cons, List.not_mem_nil, if_false, if_true, Nat.reduceAdd, Nat.reduceLT, Nat.reduceLeDiff, Nat.reduceEqDiff, true_and, and_true, List.length_nil, List.length_cons, or_true, true_or, or_false, false_or, Option.some.injEq, Sum.inl.injEq, Sum.inr.injEq, exists_eq_left', exists_eq_left, Int.reduceLE, Int.reduceLT, Int.reduceNeg, Int.reduceAdd, Int.reduceMul, Int.reduceSub, Int.reduceToNat, inR, Nat.zero_ne_one, false_and, Nat.succ_ne_zero, reduceCtorEq, false_implies, true_implies, not_false_eq_true, not_true_eq_false, Int.reduceEq, KRE, C_Web_countAgainst, FW, natT, g2, g5, c', tT]
        repeat (refine ⟨by omega, ?_⟩)
        try (first | (show _ ≤ _; omega) | (show _ < _; omega))
        exact K' _
      · simp (maxSteps := 2000000) only [↓reduceIte, wp_eq, wpd_eq, kont_eq, STP1, STP2, STP3, STP4, STP5, konM_eq, AMK, CZ, Option.map, List.getElem?_cons_zero, List.getElem?_cons_succ, List.mem_cons, List.not_mem_nil, if_false, if_true, Nat.reduceAdd, Nat.reduceLT, Nat.reduceLeDiff, Nat.reduceEqDiff, true_and, and_true, List.length_nil, List.length_cons, or_true, true_or, or_false, false_or, Option.some.injEq, Sum.inl.injEq, Sum.inr.injEq, exists_eq_left', exists_eq_left, Int.reduceLE, Int.reduceLT, Int.reduceNeg, Int.reduceAdd, Int.reduceMul, Int.reduceSub, Int.reduceToNat, inR, Nat.zero_ne_one, false_and, Nat.succ_ne_zero, reduceCtorEq, false_implies, true_implies, not_false_eq_true, not_true_eq_false, Int.reduceEq, KRE, C_Web_countAgainst, FW, natT, g2, g5, c', tT]
        repeat (refine ⟨by omega, ?_⟩)
        try (first | (show _ ≤ _; omega) | (show _ < _; omega))
        exact K' _
    · have c' := eq_false c
      rcases tT with tT | tT
      · rw [if_pos ⟨tT, c⟩] at K'
        simp (maxSteps := 2000000) only [↓reduceIte, wp_eq, wpd_eq, kont_eq, STP1, STP2, STP3, STP4, STP5, konM_eq, AMK, CZ, Option.map, List.getElem?_cons_zero, List.getElem?_cons_succ, List.mem_cons, List.not_mem_nil, if_false, if_true, Nat.reduceAdd, Nat.reduceLT, Nat.reduceLeDiff, Nat.reduceEqDiff, true_and, and_true, List.length_nil, List.length_cons, or_true, true_or, or_false, false_or, Option.some.injEq, Sum.inl.injEq, Sum.inr.injEq, exists_eq_left', exists_eq_left, Int.reduceLE, Int.reduceLT, Int.reduceNeg, Int.reduceAdd, Int.reduceMul, Int.reduceSub, Int.reduceToNat, inR, Nat.zero_ne_one, false_and, Nat.succ_ne_zero, reduceCtorEq, false_implies, true_implies, not_false_eq_true, not_true_eq_false, Int.reduceEq, KRE, C_Web_countAgainst, FW, natT, g2, g5, c', tT]
        repeat (refine ⟨by omega, ?_⟩)
        try (first | (show _ ≤ _; omega) | (show _ < _; omega))
        exact K' _
      · rw [if_neg (by omega)] at K'
        simp (maxSteps := 2000000) only [↓reduceIte, wp_eq, wpd_eq, kont_eq, STP1, STP2, STP3, STP4, STP5, konM_eq, AMK, CZ, Option.map, List.getElem?_cons_zero, List.getElem?_cons_succ, List.mem_cons, List.not_mem_nil, if_false, if_true, Nat.reduceAdd, Nat.reduceLT, Nat.reduceLeDiff, Nat.reduceEqDiff, true_and, and_true, List.length_nil, List.length_cons, or_true, true_or, or_false, false_or, Option.some.injEq, Sum.inl.injEq, Sum.inr.injEq, exists_eq_left', exists_eq_left, Int.reduceLE, Int.reduceLT, Int.reduceNeg, Int.reduceAdd, Int.reduceMul, Int.reduceSub, Int.reduceToNat, inR, Nat.zero_ne_one, false_and, Nat.succ_ne_zero, reduceCtorEq, false_implies, true_implies, not_false_eq_true, not_true_eq_false, Int.reduceEq, KRE, C_Web_countAgainst, FW, natT, g2, g5, c', tT]
        repeat (refine ⟨by omega, ?_⟩)
        try (first | (show _ ≤ _; omega) | (show _ < _; omega))
        exact K' _
theorem okt_nn {pc : Nat} {f : Int} (h : 0 ≤ f) : am_okt pc f := by
  match f, h with
  | .ofNat k, _ => rfl
set_option maxHeartbeats 4000000 in
set_option maxRecDepth 20000 in
theorem Web_tell_ok {i w : Int} {X : Lks} {M : Mm} (hx : webIs M X) (hi : 0 ≤ i ∧ i < X.1) (hw : 0 ≤ w ∧ w ≤ 4) : CallI m_Web_tell [.inr 60, .inl i, .inl w] M (fun y M' => y = (if w = 4 then pcT X.2 i.toNat else X.2 w.toNat i.toNat) ∧ M' = M) := by
  obtain ⟨rX, x1, x2, x3, x4⟩ := hx
  have n28 := rX.1
  have h1 : ¬ i < 0 := by omega
  have h2 : ¬ (X.1 : Int) ≤ i := by omega
  have h3 : i < 28 := by omega
  have g0 : M 61 i.toNat = X.2 0 i.toNat := x1 0 (by omega) i.toNat (by omega)
  have g1 : M 62 i.toNat = X.2 1 i.toNat := x1 1 (by omega) i.toNat (by omega)
  have g2 : M 63 i.toNat = X.2 2 i.toNat := x1 2 (by omega) i.toNat (by omega)
  have g3 : M 64 i.toNat = X.2 3 i.toNat := x1 3 (by omega) i.toNat (by omega)
  have g5 := x4 i.toNat (by omega)
  have tT : pcT X.2 i.toNat = 0 ∨ pcT X.2 i.toNat = 1 := by unfold pcT; split <;> omega
  rcases (show w = 0 ∨ w = 1 ∨ w = 2 ∨ w = 3 ∨ w = 4 by omega) with rfl | rfl | rfl | rfl | rfl
  · refine callP_of (by decide) (by decide) (Nat.le_of_ble_eq_true rfl) (wpm_of (cuts := []) (by decide) 60 _ _ _ _ ?_)
    rw [show lM m_Web_tell = 3 from rfl]
    simp (maxSteps := 2000000) only [↓reduceIte, wp_eq, wpd_eq, kont_eq, STP1, STP2, STP3, STP4, STP5, konM_eq, AMK, CZ, Option.map, List.getElem?_cons_zero, List.getElem?_cons_succ, List.mem_cons, List.not_mem_nil, if_false, if_true, Nat.reduceAdd, Nat.reduceLT, Nat.reduceLeDiff, Nat.reduceEqDiff, true_and, and_true, List.length_nil, List.length_cons, or_true, true_or, or_false, false_or, Option.some.injEq, Sum.inl.injEq, Sum.inr.injEq, exists_eq_left', exists_eq_left, Int.reduceLE, Int.reduceLT, Int.reduceNeg, Int.reduceAdd, Int.reduceMul, Int.reduceSub, Int.reduceToNat, inR, Nat.zero_ne_one, false_and, Nat.succ_ne_zero, reduceCtorEq, false_implies, true_implies, not_false_eq_true, not_true_eq_false, Int.reduceEq, KRE, C_Web_tell, FW, x2, h1, h2, h3, g0, g1, g2, g3, g5]
    repeat' (first | with_reducible apply And.intro | with_reducible intro _)
    all_goals first | exact rfl | exact okt_nn (by omega) | exact (by simp) | omega
  · refine callP_of (by decide) (by decide) (Nat.le_of_ble_eq_true rfl) (wpm_of (cuts := []) (by decide) 60 _ _ _ _ ?_)
    rw [show lM m_Web_tell = 3 from rfl]
    simp (maxSteps := 2000000) only [↓reduceIte, wp_eq, wpd_eq, kont_eq, STP1, STP2, STP3, STP4, STP5, konM_eq, AMK, CZ, Option.map, List.getElem?_cons_zero, List.getElem?_cons_succ, List.mem_cons, List.not_mem_nil, if_false, if_true, Nat.reduceAdd, Nat.reduceLT, Nat.reduceLeDiff, Nat.reduceEqDiff, true_and, and_true, List.length_nil, List.length_cons, or_true, true_or, or_false, false_or, Option.some.injEq, Sum.inl.injEq, Sum.inr.injEq, exists_eq_left', exists_eq_left, Int.reduceLE, Int.reduceLT, Int.reduceNeg, Int.reduceAdd, Int.reduceMul, Int.reduceSub, Int.reduceToNat, inR, Nat.zero_ne_one, false_and, Nat.succ_ne_zero, reduceCtorEq, false_implies, true_implies, not_false_eq_true, not_true_eq_false, Int.reduceEq, KRE, C_Web_tell, FW, x2, h1, h2, h3, g0, g1, g2, g3, g5]
    repeat' (first | with_reducible apply And.intro | with_reducible intro _)
    all_goals first | exact rfl | exact okt_nn (by omega) | exact (by simp) | omega
  · refine callP_of (by decide) (by decide) (Nat.le_of_ble_eq_true rfl) (wpm_of (cuts := []) (by decide) 60 _ _ _ _ ?_)
    rw [show lM m_Web_tell = 3 from rfl]
    simp (maxSteps := 2000000) only [↓reduceIte, wp_eq, wpd_eq, kont_eq, STP1, STP2, STP3, STP4, STP5, konM_eq, AMK, CZ, Option.map, List.getElem?_cons_zero, List.getElem?_cons_succ, List.mem_cons, List.not_mem_nil, if_false, if_true, Nat.reduceAdd, Nat.reduceLT, Nat.reduceLeDiff, Nat.reduceEqDiff, true_and, and_true, List.length_nil, List.length_cons, or_true, true_or, or_false, false_or, Option.some.injEq, Sum.inl.injEq, Sum.inr.injEq, exists_eq_left', exists_eq_left, Int.reduceLE, Int.reduceLT, Int.reduceNeg, Int.reduceAdd, Int.reduceMul, Int.reduceSub, Int.reduceToNat, inR, Nat.zero_ne_one, false_and, Nat.succ_ne_zero, reduceCtorEq, false_implies, true_implies, not_false_eq_true, not_true_eq_false, Int.reduceEq, KRE, C_Web_tell, FW, x2, h1, h2, h3, g0, g1, g2, g3, g5]
    repeat' (first | with_reducible apply And.intro | with_reducible intro _)
    all_goals first | exact rfl | exact okt_nn (by omega) | exact (by simp) | omega
  · refine callP_of (by decide) (by decide) (Nat.le_of_ble_eq_true rfl) (wpm_of (cuts := []) (by decide) 60 _ _ _ _ ?_)
    rw [show lM m_Web_tell = 3 from rfl]
    simp (maxSteps := 2000000) only [↓reduceIte, wp_eq, wpd_eq, kont_eq, STP1, STP2, STP3, STP4, STP5, konM_eq, AMK, CZ, Option.map, List.getElem?_cons_zero, List.getElem?_cons_succ, List.mem_cons, List.not_mem_nil, if_false, if_true, Nat.reduceAdd, Nat.reduceLT, Nat.reduceLeDiff, Nat.reduceEqDiff, true_and, and_true, List.length_nil, List.length_cons, or_true, true_or, or_false, false_or, Option.some.injEq, Sum.inl.injEq, Sum.inr.injEq, exists_eq_left', exists_eq_left, Int.reduceLE, Int.reduceLT, Int.reduceNeg, Int.reduceAdd, Int.reduceMul, Int.reduceSub, Int.reduceToNat, inR, Nat.zero_ne_one, false_and, Nat.succ_ne_zero, reduceCtorEq, false_implies, true_implies, not_false_eq_true, not_true_eq_false, Int.reduceEq, KRE, C_Web_tell, FW, x2, h1, h2, h3, g0, g1, g2, g3, g5]
    repeat' (first | with_reducible apply And.intro | with_reducible intro _)
    all_goals first | exact rfl | exact okt_nn (by omega) | exact (by simp) | omega
  · refine callP_of (by decide) (by decide) (Nat.le_of_ble_eq_true rfl) (wpm_of (cuts := []) (by decide) 60 _ _ _ _ ?_)
    rw [show lM m_Web_tell = 3 from rfl]
    simp (maxSteps := 2000000) only [↓reduceIte, wp_eq, wpd_eq, kont_eq, STP1, STP2, STP3, STP4, STP5, konM_eq, AMK, CZ, Option.map, List.getElem?_cons_zero, List.getElem?_cons_succ, List.mem_cons, List.not_mem_nil, if_false, if_true, Nat.reduceAdd, Nat.reduceLT, Nat.reduceLeDiff, Nat.reduceEqDiff, true_and, and_true, List.length_nil, List.length_cons, or_true, true_or, or_false, false_or, Option.some.injEq, Sum.inl.injEq, Sum.inr.injEq, exists_eq_left', exists_eq_left, Int.reduceLE, Int.reduceLT, Int.reduceNeg, Int.reduceAdd, Int.reduceMul, Int.reduceSub, Int.reduceToNat, inR, Nat.zero_ne_one, false_and, Nat.succ_ne_zero, reduceCtorEq, false_implies, true_implies, not_false_eq_true, not_true_eq_false, Int.reduceEq, KRE, C_Web_tell, FW, x2, h1, h2, h3, g0, g1, g2, g3, g5]
    repeat' (first | with_reducible apply And.intro | with_reducible intro _)
    all_goals first | exact rfl | exact okt_nn (by omega) | exact (by grind) | omega
