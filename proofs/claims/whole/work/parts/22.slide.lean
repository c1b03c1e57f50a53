/-! SLIDE. -/
def isSld (s : Nat) : Prop := lay s = .inr (.inl (7, [none, none, none, none]))
theorem isSld.ne {s r c : Nat} (h : isSld s) (g : isRow r c) : s ≠ r ∧ s ≠ r + 1 ∧ s ≠ r + 2 ∧ s ≠ r + 3 ∧ s ≠ r + 4 ∧ s ≠ r + 5 ∧ s ≠ r + 6 := by
  unfold isSld at h
  obtain ⟨g0, g1, g2, g3, g4, g5, g6⟩ := g
  refine ⟨?_, ?_, ?_, ?_, ?_, ?_, ?_⟩ <;> (intro e; rw [e] at h; first | (rw [g0] at h; cases h; done) | (rw [g1] at h; cases h; done) | (rw [g2] at h; cases h; done) | (rw [g3] at h; cases h; done) | (rw [g4] at h; cases h; done) | (rw [g5] at h; cases h; done) | (rw [g6] at h; cases h; done))
theorem finR_mset {M : Mm} {r c a k : Nat} {v : Int} {A : Rw} (h : a ≠ r ∧ a ≠ r + 1 ∧ a ≠ r + 2 ∧ a ≠ r + 3 ∧ a ≠ r + 4 ∧ a ≠ r + 5 ∧ a ≠ r + 6) (hw : finR M r c A) : finR (mset M a k v) r c A := by
  obtain ⟨w0, w1, w2, w3, w4⟩ := hw
  have e : ∀ b, b ≠ a → ∀ j, mset M a k v b j = M b j := fun b hb j => mset_ne b hb j
  obtain ⟨n0, n1, n2, n3, n4, n5, n6⟩ := h
  refine ⟨by rw [e r (Ne.symm n0)]; exact w0, w1, w2, fun j hj => by rw [e _ (Ne.symm n3)]; exact w3 j hj, fun j hj => ?_⟩
  rw [e _ (Ne.symm n1), e _ (Ne.symm n3), e _ (Ne.symm n4), e _ (Ne.symm n5), e _ (Ne.symm n6), e _ (Ne.symm n6)]
  exact w4 j hj
set_option maxHeartbeats 4000000 in
set_option maxRecDepth 20000 in
theorem Slide_likeness_ok {x y : Int} {M : Mm} (hx : inR x) (hy : inR y) : CallI m_Slide_likeness [.inl x, .inl y] M (fun z M' => z = like x y ∧ M' = M) := by
  simp only [inR] at hx hy
  refine callP_of (by decide) (by decide) (Nat.le_of_ble_eq_true rfl) (wpm_of (cuts := []) (by decide) 50 _ _ _ _ ?_)
  rw [show lM m_Slide_likeness = 2 from rfl]
  simp (maxSteps := 2000000) only [↓reduceIte, wp_eq, wpd_eq, kont_eq, STP1, STP2, STP3, STP4, STP5, konM_eq, AMK, CZ, Option.map, List.getElem?_cons_zero, List.getElem?_cons_succ, List.mem_cons, List.not_mem_nil, if_false, if_true, Nat.reduceAdd, Nat.reduceLT, Nat.reduceLeDiff, Nat.reduceEqDiff, true_and, and_true, List.length_nil, List.length_cons, or_true, true_or, or_false, false_or, Option.some.injEq, Sum.inl.injEq, Sum.inr.injEq, exists_eq_left', exists_eq_left, Int.reduceLE, Int.reduceLT, Int.reduceNeg, Int.reduceAdd, Int.reduceMul, Int.reduceSub, Int.reduceToNat, inR, Nat.zero_ne_one, false_and, Nat.succ_ne_zero, reduceCtorEq, false_implies, true_implies, not_false_eq_true, not_true_eq_false, Int.reduceEq, KRE, C_Slide_likeness]
  simp only [like]
  grind
theorem mP_in (A B : Rw) (s j : Int) : 0 ≤ mP A B s j ∧ mP A B s j ≤ 1 := by
  unfold mP
  split <;> omega
theorem mO_in (A B : Rw) (s j : Int) : 0 ≤ mO A B s j ∧ mO A B s j ≤ 5 := by
  unfold mO
  have h1 := sRank_in A (j + s)
  have h2 := sRank_in B j
  split <;> omega
theorem mS_in (A B : Rw) (s j : Int) : 0 ≤ mS A B s j ∧ mS A B s j ≤ 1 := by
  unfold mS
  split <;> omega
theorem mA_in (A B : Rw) (s j : Int) : 0 ≤ mA A B s j ∧ mA A B s j ≤ 2 := by
  unfold mA like
  split
  · split
    · omega
    · split
      · omega
      · split <;> omega
  · omega
def mSl (M : Mm) (s : Nat) (A B : Rw) (x : Int) : Mm := mset (mset (mset (mset M s 0 (slPairs A B x)) s 1 (slSigns A B x)) s 2 (slRanks A B x)) s 3 (slScore A B x)
set_option maxHeartbeats 4000000 in
set_option maxRecDepth 20000 in
theorem Slide_measure_e {s : Nat} {x1 x2 x3 x7 x8 x9 x10 x11 x12 x13 : Option AV} {P O S Z : Int} {M : Mm} {Qc : Option AV → Mm → Prop} (hs : isSld s) (hp : M s 0 = P) (b1 : 0 ≤ P ∧ P ≤ 924) (b2 : 0 ≤ S ∧ S ≤ 924) (b3 : 0 ≤ O ∧ O ≤ 4620) (b4 : 0 ≤ Z ∧ Z ≤ 1848)
    (hq : ∀ sg rk : Int, sg = (if S < 1 then 0 else (Z * 100).tdiv (2 * S)) → rk = (if P < 1 then 0 else 100 - (O * 25).tdiv P) → Qc none (mset (mset (mset M s 1 sg) s 2 rk) s 3 ((2 * sg + rk).tdiv 3))) :
    WPm m_Slide_measure Qc 179 [some (.inr s), x1, x2, x3, some (.inl O), some (.inl S), some (.inl Z), x7, x8, x9, x10, x11, x12, x13] [] M := by
  have l0 : lay s = .inr (.inl (7, [none, none, none, none])) := hs
  have d1 : 0 ≤ (Z * 100).tdiv (2 * S) ∧ (Z * 100).tdiv (2 * S) ≤ 184800 := by
    rw [Int.tdiv_eq_ediv_of_nonneg (by omega)]
    refine ⟨Int.ediv_nonneg (by omega) (by omega), ?_⟩
    by_cases h : S = 0
    · rw [h]; simp
    · exact Int.le_trans (Int.ediv_le_self _ (by omega)) (by omega)
  have d2 : 0 ≤ (O * 25).tdiv P ∧ (O * 25).tdiv P ≤ 115500 := by
    rw [Int.tdiv_eq_ediv_of_nonneg (by omega)]
    refine ⟨Int.ediv_nonneg (by omega) (by omega), ?_⟩
    by_cases h : P = 0
    · rw [h]; simp
    · exact Int.le_trans (Int.ediv_le_self _ (by omega)) (by omega)
  have K := hq _ _ rfl rfl
  refine wpm_of (cuts := []) (by decide) 300 _ _ _ _ ?_
  simp (maxSteps := 2000000) only [↓reduceIte, wp_eq, wpd_eq, kont_eq, STP1, STP2, STP3, STP4, STP5, konM_eq, AMK, CZ, Option.map, List.getElem?_cons_zero, List.getElem?_cons_succ, List.mem_cons, List.not_mem_nil, if_false, if_true, Nat.reduceAdd, Nat.reduceLT, Nat.reduceLeDiff, Nat.reduceEqDiff, true_and, and_true, List.length_nil, List.length_cons, or_true, true_or, or_false, false_or, Option.some.injEq, Sum.inl.injEq, Sum.inr.injEq, exists_eq_left', exists_eq_left, Int.reduceLE, Int.reduceLT, Int.reduceNeg, Int.reduceAdd, Int.reduceMul, Int.reduceSub, Int.reduceToNat, inR, Nat.zero_ne_one, false_and, Nat.succ_ne_zero, reduceCtorEq, false_implies, true_implies, not_false_eq_true, not_true_eq_false, Int.reduceEq, KRE, C_Slide_measure, l0, MSE, hp]
  generalize (Z * 100).tdiv (2 * S) = e1 at d1 K ⊢
  generalize (O * 25).tdiv P = e2 at d2 K ⊢
  repeat' (first | omega | with_reducible apply And.intro | with_reducible intro _ | with_reducible rfl)
  · rw [if_neg (by omega), if_neg (by omega)] at K; exact K
  · rw [if_neg (by omega), if_pos (by omega)] at K; exact K
  · rw [if_pos (by omega), if_neg (by omega)] at K; exact K
  · rw [if_pos (by omega), if_pos (by omega)] at K; exact K
set_option maxHeartbeats 4000000 in
set_option maxRecDepth 20000 in
theorem Slide_measure_lp {s r1 c1 r2 c2 : Nat} {A B : Rw} {x : Int} {M : Mm} {Qc : Option AV → Mm → Prop} (hs : isSld s) (h1 : isRow r1 c1) (h2 : isRow r2 c2) (f1 : finR M r1 c1 A) (f2 : finR M r2 c2 B) (hx : -1000 ≤ x ∧ x ≤ 1000) (hq : Qc none (mSl M s A B x)) :
    ∀ (n : Nat) (j a : Int) (a10 a11 a12 a13 : Option AV), (slT A B x - j).toNat ≤ n → slF x ≤ j → (j ≤ slT A B x ∨ j = slF x) →
      WPm m_Slide_measure Qc 41 [some (.inr s), some (.inr r1), some (.inr r2), some (.inl x), some (.inl (sumR (mO A B x) (slF x) j)), some (.inl (sumR (mS A B x) (slF x) j)), some (.inl (sumR (mA A B x) (slF x) j)), some (.inl a), some (.inl (slT A B x)), some (.inl j), a10, a11, a12, a13] [] (mset M s 0 (sumR (mP A B x) (slF x) j)) := by
  have l0 : lay s = .inr (.inl (7, [none, none, none, none])) := hs
  have r0 := h1.1
  have q0 := h2.1
  have n1 := hs.ne h1
  have n2 := hs.ne h2
  have b1 := f1.2.1
  have b2 := f2.2.1
  have b3 := f1.2.2.1
  have b4 := f2.2.2.1
  have bF : slF x = max 0 (-x) := rfl
  have bT : slT A B x = min B.2.1 (A.2.1 - x) := rfl
  have fin : ∀ j : Int, slF x ≤ j → slT A B x ≤ j → (j ≤ slT A B x ∨ j = slF x) → sumR (mP A B x) (slF x) j = slPairs A B x ∧ sumR (mS A B x) (slF x) j = slBoth A B x ∧ sumR (mO A B x) (slF x) j = sumR (mO A B x) (slF x) (slT A B x) ∧ sumR (mA A B x) (slF x) j = sumR (mA A B x) (slF x) (slT A B x) := by
    intro j g1 g2 g3
    rcases g3 with g3 | g3
    · rw [show j = slT A B x by omega]
      exact ⟨rfl, rfl, rfl, rfl⟩
    · subst g3
      unfold slPairs slBoth
      rw [sumR_0, sumR_0, sumR_0, sumR_0, sumR_e g2, sumR_e g2, sumR_e g2, sumR_e g2]
      exact ⟨rfl, rfl, rfl, rfl⟩
  have bnd : (0 ≤ slPairs A B x ∧ slPairs A B x ≤ 924) ∧ (0 ≤ slBoth A B x ∧ slBoth A B x ≤ 924) ∧ (0 ≤ sumR (mO A B x) (slF x) (slT A B x) ∧ sumR (mO A B x) (slF x) (slT A B x) ≤ 4620) ∧ (0 ≤ sumR (mA A B x) (slF x) (slT A B x) ∧ sumR (mA A B x) (slF x) (slT A B x) ≤ 1848) := by
    unfold slPairs slBoth
    by_cases hle : slF x ≤ slT A B x
    · have q1 := sumR_in hle (f := mP A B x) (fun j _ _ => mP_in A B x j)
      have q2 := sumR_in hle (f := mS A B x) (fun j _ _ => mS_in A B x j)
      have q3 := sumR_in hle (f := mO A B x) (fun j _ _ => mO_in A B x j)
      have q4 := sumR_in hle (f := mA A B x) (fun j _ _ => mA_in A B x j)
      omega
    · rw [sumR_e (by omega), sumR_e (by omega), sumR_e (by omega), sumR_e (by omega)]
      omega
  have out : ∀ (j a : Int) (a10 a11 a12 a13 : Option AV), slF x ≤ j → (j ≤ slT A B x ∨ j = slF x) → slT A B x ≤ j →
      WPm m_Slide_measure Qc 41 [some (.inr s), some (.inr r1), some (.inr r2), some (.inl x), some (.inl (sumR (mO A B x) (slF x) j)), some (.inl (sumR (mS A B x) (slF x) j)), some (.inl (sumR (mA A B x) (slF x) j)), some (.inl a), some (.inl (slT A B x)), some (.inl j), a10, a11, a12, a13] [] (mset M s 0 (sumR (mP A B x) (slF x) j)) := by
    intro j a a10 a11 a12 a13 g1 g2 g3
    obtain ⟨e1, e2, e3, e4⟩ := fin j g1 g3 g2
    rw [e1, e2, e3, e4]
    have K := fun x1 x2 x3 x7 x8 x9 x10 x11 x12 x13 => Slide_measure_e (s := s) (x1 := x1) (x2 := x2) (x3 := x3) (x7 := x7) (x8 := x8) (x9 := x9) (x10 := x10) (x11 := x11) (x12 := x12) (x13 := x13) (Qc := Qc) (M := mset M s 0 (slPairs A B x)) (P := slPairs A B x) hs (by simp only [mset]; simp) bnd.1 bnd.2.1 bnd.2.2.1 bnd.2.2.2 (fun sg rk h1 h2 => by
      subst h1; subst h2
      exact hq)
    refine wpm_of (cuts := [41, 173, 179]) (by decide) 300 _ _ _ _ ?_
    simp (maxSteps := 2000000) only [↓reduceIte, wp_eq, wpd_eq, kont_eq, STP1, STP2, STP3, STP4, STP5, konM_eq, AMK, CZ, Option.map, List.getElem?_cons_zero, List.getElem?_cons_succ, List.mem_cons, List.not_mem_nil, if_false, if_true, Nat.reduceAdd, Nat.reduceLT, Nat.reduceLeDiff, Nat.reduceEqDiff, true_and, and_true, List.length_nil, List.length_cons, or_true, true_or, or_false, false_or, Option.some.injEq, Sum.inl.injEq, Sum.inr.injEq, exists_eq_left', exists_eq_left, Int.reduceLE, Int.reduceLT, Int.reduceNeg, Int.reduceAdd, Int.reduceMul, Int.reduceSub, Int.reduceToNat, inR, Nat.zero_ne_one, false_and, Nat.succ_ne_zero, reduceCtorEq, false_implies, true_implies, not_false_eq_true, not_true_eq_false, Int.reduceEq, KRE, C_Slide_measure, l0, r0, q0]
    refine ⟨by omega, by omega, fun _ => K _ _ _ _ _ _ _ _ _ _, fun z => absurd g3 z⟩
  intro n
  induction n with
  | zero =>
    intro j a a10 a11 a12 a13 hn g1 g2
    exact out j a a10 a11 a12 a13 g1 g2 (by omega)
  | succ n ih =>
    intro j a a10 a11 a12 a13 hn g1 g2
    by_cases hj : slT A B x ≤ j
    · exact out j a a10 a11 a12 a13 g1 g2 hj
    · have KK : ∀ a10 a11 a12 a13 : Option AV, WPm m_Slide_measure Qc 173 [some (.inr s), some (.inr r1), some (.inr r2), some (.inl x), some (.inl (sumR (mO A B x) (slF x) j + mO A B x j)), some (.inl (sumR (mS A B x) (slF x) j + mS A B x j)), some (.inl (sumR (mA A B x) (slF x) j + mA A B x j)), some (.inl a), some (.inl (slT A B x)), some (.inl j), a10, a11, a12, a13] [] (mset M s 0 (sumR (mP A B x) (slF x) j + mP A B x j)) := by
        intro a10 a11 a12 a13
        have K := ih (j + 1) a a10 a11 a12 a13 (by omega) (by omega) (by omega)
        rw [sumR_succ _ g1, sumR_succ _ g1, sumR_succ _ g1, sumR_succ _ g1] at K
        refine wpm_of (cuts := [41]) (by decide) 300 _ _ _ _ ?_
        simp (maxSteps := 2000000) only [↓reduceIte, wp_eq, wpd_eq, kont_eq, STP1, STP2, STP3, STP4, STP5, konM_eq, AMK, CZ, Option.map, List.getElem?_cons_zero, List.getElem?_cons_succ, List.mem_cons, List.not_mem_nil, if_false, if_true, Nat.reduceAdd, Nat.reduceLT, Nat.reduceLeDiff, Nat.reduceEqDiff, true_and, and_true, List.length_nil, List.length_cons, or_true, true_or, or_false, false_or, Option.some.injEq, Sum.inl.injEq, Sum.inr.injEq, exists_eq_left', exists_eq_left, Int.reduceLE, Int.reduceLT, Int.reduceNeg, Int.reduceAdd, Int.reduceMul, Int.reduceSub, Int.reduceToNat, inR, Nat.zero_ne_one, false_and, Nat.succ_ne_zero, reduceCtorEq, false_implies, true_implies, not_false_eq_true, not_true_eq_false, Int.reduceEq, KRE, C_Slide_measure, l0]
        exact K
      have w1 : ∀ k v, finR (mset M s k v) r1 c1 A := fun k v => finR_mset n1 f1
      have w2 : ∀ k v, finR (mset M s k v) r2 c2 B := fun k v => finR_mset n2 f2
      have i1 := sRank_in A (j + x)
      have i2 := sRank_in B j
      have i3 := sStep_in A (j + x)
      have i4 := sStep_in B j
      have e1 := sRank_none A (j + x)
      have e2 := sRank_none B j
      have k5 : sShk A (j + x) = 0 ∨ sShk A (j + x) = 1 := by unfold sShk; split <;> omega
      have k6 : sShk B j = 0 ∨ sShk B j = 1 := by unfold sShk; split <;> omega
      have vP : mP A B x j = if sRank A (j + x) ≠ -1 ∧ sRank B j ≠ -1 then 1 else 0 := by
        unfold mP
        by_cases h : sN A (j + x) = 0 <;> by_cases h' : sN B j = 0 <;> simp [e1, e2, h, h']
      have vO : mO A B x j = if mP A B x j = 1 then max (sRank A (j + x) - sRank B j) (-(sRank A (j + x) - sRank B j)) else 0 := rfl
      have vS : mS A B x j = if mP A B x j = 1 ∧ sStep A (j + x) ≠ 2 ∧ sStep B j ≠ 2 then 1 else 0 := rfl
      have vA : mA A B x j = if mS A B x j = 1 then (if sShk A (j + x) ≠ 0 ∨ sShk B j ≠ 0 then 1 else like (sStep A (j + x)) (sStep B j)) else 0 := rfl
      have ms0 : ∀ v, mset M s 0 v s 0 = v := fun v => if_pos ⟨rfl, rfl⟩
      clear fin bnd out ih
      refine wpm_of (cuts := [41, 173, 179]) (by decide) 300 _ _ _ _ ?_
      simp (maxSteps := 2000000) only [↓reduceIte, wp_eq, wpd_eq, kont_eq, STP1, STP2, STP3, STP4, STP5, konM_eq, AMK, CZ, Option.map, List.getElem?_cons_zero, List.getElem?_cons_succ, List.mem_cons, List.not_mem_nil, if_false, if_true, Nat.reduceAdd, Nat.reduceLT, Nat.reduceLeDiff, Nat.reduceEqDiff, true_and, and_true, List.length_nil, List.length_cons, or_true, true_or, or_false, false_or, Option.some.injEq, Sum.inl.injEq, Sum.inr.injEq, exists_eq_left', exists_eq_left, Int.reduceLE, Int.reduceLT, Int.reduceNeg, Int.reduceAdd, Int.reduceMul, Int.reduceSub, Int.reduceToNat, inR, Nat.zero_ne_one, false_and, Nat.succ_ne_zero, reduceCtorEq, false_implies, true_implies, not_false_eq_true, not_true_eq_false, Int.reduceEq, KRE, C_Slide_measure, l0, r0, q0, hj]
      refine ⟨by omega, by omega, ?_⟩
      refine (Row_rankAt_ok h1 (w1 _ _) ⟨by omega, by omega⟩).eq ?_
      refine (Row_rankAt_ok h2 (w2 _ _) ⟨by omega, by omega⟩).eq ?_
      clear hq
      by_cases hp : sRank A (j + x) = -1
      · rw [if_neg (by omega)] at vP
        rw [vP, if_neg (by omega)] at vO
        rw [vP, if_neg (by omega)] at vS
        rw [vS, if_neg (by omega)] at vA
        rw [vO, vS, vA, vP] at KK
        simp only [Int.add_zero] at KK
        simp (maxSteps := 2000000) only [↓reduceIte, wp_eq, wpd_eq, kont_eq, STP1, STP2, STP3, STP4, STP5, konM_eq, AMK, CZ, Option.map, List.getElem?_cons_zero, List.getElem?_cons_succ, List.mem_cons, List.not_mem_nil, if_false, if_true, Nat.reduceAdd, Nat.reduceLT, Nat.reduceLeDiff, Nat.reduceEqDiff, true_and, and_true, List.length_nil, List.length_cons, or_true, true_or, or_false, false_or, Option.some.injEq, Sum.inl.injEq, Sum.inr.injEq, exists_eq_left', exists_eq_left, Int.reduceLE, Int.reduceLT, Int.reduceNeg, Int.reduceAdd, Int.reduceMul, Int.reduceSub, Int.reduceToNat, inR, Nat.zero_ne_one, false_and, Nat.succ_ne_zero, reduceCtorEq, false_implies, true_implies, not_false_eq_true, not_true_eq_false, Int.reduceEq, KRE, C_Slide_measure, hp]
        exact KK _ _ _ _
      · by_cases hp2 : sRank B j = -1
        · rw [if_neg (by omega)] at vP
          rw [vP, if_neg (by omega)] at vO
          rw [vP, if_neg (by omega)] at vS
          rw [vS, if_neg (by omega)] at vA
          rw [vO, vS, vA, vP] at KK
          simp only [Int.add_zero] at KK
          simp (maxSteps := 2000000) only [↓reduceIte, wp_eq, wpd_eq, kont_eq, STP1, STP2, STP3, STP4, STP5, konM_eq, AMK, CZ, Option.map, List.getElem?_cons_zero, List.getElem?_cons_succ, List.mem_cons, List.not_mem_nil, if_false, if_true, Nat.reduceAdd, Nat.reduceLT, Nat.reduceLeDiff, Nat.reduceEqDiff, true_and, and_true, List.length_nil, List.length_cons, or_true, true_or, or_false, false_or, Option.some.injEq, Sum.inl.injEq, Sum.inr.injEq, exists_eq_left', exists_eq_left, Int.reduceLE, Int.reduceLT, Int.reduceNeg, Int.reduceAdd, Int.reduceMul, Int.reduceSub, Int.reduceToNat, inR, Nat.zero_ne_one, false_and, Nat.succ_ne_zero, reduceCtorEq, false_implies, true_implies, not_false_eq_true, not_true_eq_false, Int.reduceEq, KRE, C_Slide_measure, hp, hp2]
          exact ⟨by omega, KK _ _ _ _⟩
        · rw [if_pos ⟨hp, hp2⟩] at vP
          rw [vP, if_pos rfl] at vO
          rw [vP] at vS
          rw [vO, vP] at KK
          simp (maxSteps := 2000000) only [↓reduceIte, wp_eq, wpd_eq, kont_eq, STP1, STP2, STP3, STP4, STP5, konM_eq, AMK, CZ, Option.map, List.getElem?_cons_zero, List.getElem?_cons_succ, List.mem_cons, List.not_mem_nil, if_false, if_true, Nat.reduceAdd, Nat.reduceLT, Nat.reduceLeDiff, Nat.reduceEqDiff, true_and, and_true, List.length_nil, List.length_cons, or_true, true_or, or_false, false_or, Option.some.injEq, Sum.inl.injEq, Sum.inr.injEq, exists_eq_left', exists_eq_left, Int.reduceLE, Int.reduceLT, Int.reduceNeg, Int.reduceAdd, Int.reduceMul, Int.reduceSub, Int.reduceToNat, inR, Nat.zero_ne_one, false_and, Nat.succ_ne_zero, reduceCtorEq, false_implies, true_implies, not_false_eq_true, not_true_eq_false, Int.reduceEq, KRE, C_Slide_measure, hp, hp2, ms0, mset_mset]
          refine ⟨by omega, by omega, by omega, ?_⟩
          refine (Row_stepAt_ok h1 (w1 _ _) ⟨by omega, by omega⟩).eq ?_
          refine (Row_stepAt_ok h2 (w2 _ _) ⟨by omega, by omega⟩).eq ?_
          by_cases hs1 : sStep A (j + x) = 2
          · rw [if_neg (by omega)] at vS
            rw [vS, if_neg (by omega)] at vA
            rw [vS, vA] at KK
            simp only [Int.add_zero] at KK
            simp (maxSteps := 2000000) only [↓reduceIte, wp_eq, wpd_eq, kont_eq, STP1, STP2, STP3, STP4, STP5, konM_eq, AMK, CZ, Option.map, List.getElem?_cons_zero, List.getElem?_cons_succ, List.mem_cons, List.not_mem_nil, if_false, if_true, Nat.reduceAdd, Nat.reduceLT, Nat.reduceLeDiff, Nat.reduceEqDiff, true_and, and_true, List.length_nil, List.length_cons, or_true, true_or, or_false, false_or, Option.some.injEq, Sum.inl.injEq, Sum.inr.injEq, exists_eq_left', exists_eq_left, Int.reduceLE, Int.reduceLT, Int.reduceNeg, Int.reduceAdd, Int.reduceMul, Int.reduceSub, Int.reduceToNat, inR, Nat.zero_ne_one, false_and, Nat.succ_ne_zero, reduceCtorEq, false_implies, true_implies, not_false_eq_true, not_true_eq_false, Int.reduceEq, KRE, C_Slide_measure, hs1]
            exact KK _ _ _ _
          · by_cases hs2 : sStep B j = 2
            · rw [if_neg (by omega)] at vS
              rw [vS, if_neg (by omega)] at vA
              rw [vS, vA] at KK
              simp only [Int.add_zero] at KK
              simp (maxSteps := 2000000) only [↓reduceIte, wp_eq, wpd_eq, kont_eq, STP1, STP2, STP3, STP4, STP5, konM_eq, AMK, CZ, Option.map, List.getElem?_cons_zero, List.getElem?_cons_succ, List.mem_cons, List.not_mem_nil, if_false, if_true, Nat.reduceAdd, Nat.reduceLT, Nat.reduceLeDiff, Nat.reduceEqDiff, true_and, and_true, List.length_nil, List.length_cons, or_true, true_or, or_false, false_or, Option.some.injEq, Sum.inl.injEq, Sum.inr.injEq, exists_eq_left', exists_eq_left, Int.reduceLE, Int.reduceLT, Int.reduceNeg, Int.reduceAdd, Int.reduceMul, Int.reduceSub, Int.reduceToNat, inR, Nat.zero_ne_one, false_and, Nat.succ_ne_zero, reduceCtorEq, false_implies, true_implies, not_false_eq_true, not_true_eq_false, Int.reduceEq, KRE, C_Slide_measure, hs1, hs2]
              exact ⟨by omega, KK _ _ _ _⟩
            · rw [if_pos ⟨rfl, hs1, hs2⟩] at vS
              rw [vS, if_pos rfl] at vA
              rw [vS] at KK
              simp (maxSteps := 2000000) only [↓reduceIte, wp_eq, wpd_eq, kont_eq, STP1, STP2, STP3, STP4, STP5, konM_eq, AMK, CZ, Option.map, List.getElem?_cons_zero, List.getElem?_cons_succ, List.mem_cons, List.not_mem_nil, if_false, if_true, Nat.reduceAdd, Nat.reduceLT, Nat.reduceLeDiff, Nat.reduceEqDiff, true_and, and_true, List.length_nil, List.length_cons, or_true, true_or, or_false, false_or, Option.some.injEq, Sum.inl.injEq, Sum.inr.injEq, exists_eq_left', exists_eq_left, Int.reduceLE, Int.reduceLT, Int.reduceNeg, Int.reduceAdd, Int.reduceMul, Int.reduceSub, Int.reduceToNat, inR, Nat.zero_ne_one, false_and, Nat.succ_ne_zero, reduceCtorEq, false_implies, true_implies, not_false_eq_true, not_true_eq_false, Int.reduceEq, KRE, C_Slide_measure, hs1, hs2]
              refine ⟨by omega, by omega, ?_⟩
              refine (Row_isShaky_ok h1 (w1 _ _) ⟨by omega, by omega⟩).eq ?_
              rcases k5 with k5 | k5
              · simp (maxSteps := 2000000) only [↓reduceIte, wp_eq, wpd_eq, kont_eq, STP1, STP2, STP3, STP4, STP5, konM_eq, AMK, CZ, Option.map, List.getElem?_cons_zero, List.getElem?_cons_succ, List.mem_cons, List.not_mem_nil, if_false, if_true, Nat.reduceAdd, Nat.reduceLT, Nat.reduceLeDiff, Nat.reduceEqDiff, true_and, and_true, List.length_nil, List.length_cons, or_true, true_or, or_false, false_or, Option.some.injEq, Sum.inl.injEq, Sum.inr.injEq, exists_eq_left', exists_eq_left, Int.reduceLE, Int.reduceLT, Int.reduceNeg, Int.reduceAdd, Int.reduceMul, Int.reduceSub, Int.reduceToNat, inR, Nat.zero_ne_one, false_and, Nat.succ_ne_zero, reduceCtorEq, false_implies, true_implies, not_false_eq_true, not_true_eq_false, Int.reduceEq, KRE, C_Slide_measure, k5]
                refine (Row_isShaky_ok h2 (w2 _ _) ⟨by omega, by omega⟩).eq ?_
                rcases k6 with k6 | k6
                · rw [if_neg (by omega)] at vA
                  rw [vA] at KK
                  simp (maxSteps := 2000000) only [↓reduceIte, wp_eq, wpd_eq, kont_eq, STP1, STP2, STP3, STP4, STP5, konM_eq, AMK, CZ, Option.map, List.getElem?_cons_zero, List.getElem?_cons_succ, List.mem_cons, List.not_mem_nil, if_false, if_true, Nat.reduceAdd, Nat.reduceLT, Nat.reduceLeDiff, Nat.reduceEqDiff, true_and, and_true, List.length_nil, List.length_cons, or_true, true_or, or_false, false_or, Option.some.injEq, Sum.inl.injEq, Sum.inr.injEq, exists_eq_left', exists_eq_left, Int.reduceLE, Int.reduceLT, Int.reduceNeg, Int.reduceAdd, Int.reduceMul, Int.reduceSub, Int.reduceToNat, inR, Nat.zero_ne_one, false_and, Nat.succ_ne_zero, reduceCtorEq, false_implies, true_implies, not_false_eq_true, not_true_eq_false, Int.reduceEq, KRE, C_Slide_measure, k6]
                  exact (Slide_likeness_ok ⟨by omega, by omega⟩ ⟨by omega, by omega⟩).eq (KK _ _ _ _)
                · rw [if_pos (by omega)] at vA
                  rw [vA] at KK
                  simp (maxSteps := 2000000) only [↓reduceIte, wp_eq, wpd_eq, kont_eq, STP1, STP2, STP3, STP4, STP5, konM_eq, AMK, CZ, Option.map, List.getElem?_cons_zero, List.getElem?_cons_succ, List.mem_cons, List.not_mem_nil, if_false, if_true, Nat.reduceAdd, Nat.reduceLT, Nat.reduceLeDiff, Nat.reduceEqDiff, true_and, and_true, List.length_nil, List.length_cons, or_true, true_or, or_false, false_or, Option.some.injEq, Sum.inl.injEq, Sum.inr.injEq, exists_eq_left', exists_eq_left, Int.reduceLE, Int.reduceLT, Int.reduceNeg, Int.reduceAdd, Int.reduceMul, Int.reduceSub, Int.reduceToNat, inR, Nat.zero_ne_one, false_and, Nat.succ_ne_zero, reduceCtorEq, false_implies, true_implies, not_false_eq_true, not_true_eq_false, Int.reduceEq, KRE, C_Slide_measure, k6]
                  exact KK _ _ _ _
              · rw [if_pos (by omega)] at vA
                rw [vA] at KK
                simp (maxSteps := 2000000) only [↓reduceIte, wp_eq, wpd_eq, kont_eq, STP1, STP2, STP3, STP4, STP5, konM_eq, AMK, CZ, Option.map, List.getElem?_cons_zero, List.getElem?_cons_succ, List.mem_cons, List.not_mem_nil, if_false, if_true, Nat.reduceAdd, Nat.reduceLT, Nat.reduceLeDiff, Nat.reduceEqDiff, true_and, and_true, List.length_nil, List.length_cons, or_true, true_or, or_false, false_or, Option.some.injEq, Sum.inl.injEq, Sum.inr.injEq, exists_eq_left', exists_eq_left, Int.reduceLE, Int.reduceLT, Int.reduceNeg, Int.reduceAdd, Int.reduceMul, Int.reduceSub, Int.reduceToNat, inR, Nat.zero_ne_one, false_and, Nat.succ_ne_zero, reduceCtorEq, false_implies, true_implies, not_false_eq_true, not_true_eq_false, Int.reduceEq, KRE, C_Slide_measure, k5]
                exact KK _ _ _ _
set_option maxHeartbeats 4000000 in
set_option maxRecDepth 20000 in
theorem Slide_measure_ok {s r1 c1 r2 c2 : Nat} {A B : Rw} {x : Int} {M : Mm} (hs : isSld s) (h1 : isRow r1 c1) (h2 : isRow r2 c2) (f1 : finR M r1 c1 A) (f2 : finR M r2 c2 B) (hx : -1000 ≤ x ∧ x ≤ 1000) : CallV m_Slide_measure [.inr s, .inr r1, .inr r2, .inl x] M (fun M' => M' = mSl M s A B x) := by
  have l0 : lay s = .inr (.inl (7, [none, none, none, none])) := hs
  have r0 := h1.1
  have q0 := h2.1
  have n1 := hs.ne h1
  have n2 := hs.ne h2
  have b1 := f1.2.1
  have b2 := f2.2.1
  have b3 := f1.2.2.1
  have b4 := f2.2.2.1
  have g1 : mset M s 0 0 r1 7 = A.2.1 := by rw [mset_ne _ (Ne.symm n1.1)]; exact f1.1
  have g2 : mset M s 0 0 r2 7 = B.2.1 := by rw [mset_ne _ (Ne.symm n2.1)]; exact f2.1
  refine callP_of (by decide) (by decide) (Nat.le_of_ble_eq_true rfl) (wpm_of (cuts := [41]) (by decide) 50 _ _ _ _ ?_)
  rw [show lM m_Slide_measure = 14 from rfl]
  simp (maxSteps := 2000000) only [↓reduceIte, wp_eq, wpd_eq, kont_eq, STP1, STP2, STP3, STP4, STP5, konM_eq, AMK, CZ, Option.map, List.getElem?_cons_zero, List.getElem?_cons_succ, List.mem_cons, List.not_mem_nil, if_false, if_true, Nat.reduceAdd, Nat.reduceLT, Nat.reduceLeDiff, Nat.reduceEqDiff, true_and, and_true, List.length_nil, List.length_cons, or_true, true_or, or_false, false_or, Option.some.injEq, Sum.inl.injEq, Sum.inr.injEq, exists_eq_left', exists_eq_left, Int.reduceLE, Int.reduceLT, Int.reduceNeg, Int.reduceAdd, Int.reduceMul, Int.reduceSub, Int.reduceToNat, inR, Nat.zero_ne_one, false_and, Nat.succ_ne_zero, reduceCtorEq, false_implies, true_implies, not_false_eq_true, not_true_eq_false, Int.reduceEq, KRE, C_Slide_measure, l0, r0, q0, g1, g2]
  refine ⟨by omega, by omega, by omega, ?_⟩
  have K := Slide_measure_lp (Qc := fun v M' => v = none ∧ M' = mSl M s A B x) hs h1 h2 f1 f2 hx ⟨rfl, rfl⟩ _ (slF x) (slF x) none none none none (Nat.le_refl _) (Int.le_refl _) (Or.inr rfl)
  rw [sumR_0, sumR_0, sumR_0, sumR_0] at K
  exact K
