/-! SLIDE. -/
def isSld (s : Nat) : Prop := lay s = .inr (.inl (7, [none, none, none, none]))
theorem isSld.ne {s r c : Nat} (h : isSld s) (g : isRow r c) : s ≠ r ∧ s ≠ r + 1 ∧ s ≠ r + 2 ∧ s ≠ r + 3 ∧ s ≠ r + 4 ∧ s ≠ r + 5 ∧ s ≠ r + 6 := by
  unfold isSld at h
  obtain ⟨g0, g1, g2, g3, g4, g5, g6⟩ := g
  refine ⟨?_, ?_, ?_, ?_, ?_, ?_, ?_⟩ <;> (intro e; rw [e] at h; first | (rw [g0] at h; cases h; done) | (rw [g1] at h; cases h; done) | (rw [g2] at h; cases h; done) | (rw [g3] at h; cases h; done) | (rw [g4] at h; cases h; done) | (rw [g5] at h; cases h; done) | (rw [g6] at h; cases h; done))
theorem mset_mset (M : Mm) (a k : Nat) (v w : Int) : mset (mset M a k v) a k w = mset M a k w := by
  funext b j
  simp only [mset]
  grind
theorem mset_same (M : Mm) (a k : Nat) : mset M a k (M a k) = M := by
  funext b j
  simp only [mset]
  grind
theorem finR_mset {M : Mm} {r c a k : Nat} {v : Int} {A : Rw} (h : a ≠ r ∧ a ≠ r + 1 ∧ a ≠ r + 2 ∧ a ≠ r + 3 ∧ a ≠ r + 4 ∧ a ≠ r + 5 ∧ a ≠ r + 6) (hw : finR M r c A) : finR (mset M a k v) r c A := by
  obtain ⟨w0, w1, w2, w3, w4⟩ := hw
  have e : ∀ b, b ≠ a → ∀ j, mset M a k v b j = M b j := fun b hb j => mset_ne b hb j
  obtain ⟨n0, n1, n2, n3, n4, n5, n6⟩ := h
  refine ⟨by rw [e r (Ne.symm n0)]; exact w0, w1, w2, fun j hj => by rw [e _ (Ne.symm n3)]; exact w3 j hj, fun j hj => ?_⟩
  rw [e _ (Ne.symm n1), e _ (Ne.symm n3), e _ (Ne.symm n4), e _ (Ne.symm n5), e _ (Ne.symm n6), e _ (Ne.symm n6)]
  exact w4 j hj
set_option maxHeartbeats 4000000 in
set_option maxRecDepth 20000 in
theorem Slide_likeness_ok {x y : Int} {M : Mm} (hx : inR x) (hy : inR y) : CallI m_Slide_likeness [.inl x, .inl y] M (fun z M' => z = like x y ∧ M' = M) := by
  simp only [inR] at hx hy
  refine callP_of (by decide) (by decide) (Nat.le_of_ble_eq_true rfl) (wpm_of (cuts := []) (by decide) 50 _ _ _ _ ?_)
  rw [show lM m_Slide_likeness = 2 from rfl]
  simp (maxSteps := 2000000) only [↓reduceIte, wp_eq, wpd_eq, kont_eq, STP1, STP2, STP3, STP4, STP5, konM_eq, AMK, CZ, Option.map, List.getElem?_cons_zero, List.getElem?_cons_succ, List.mem_cons, List.not_mem_nil, if_false, if_true, Nat.reduceAdd, Nat.reduceLT, Nat.reduceLeDiff, Nat.reduceEqDiff, true_and, and_true, List.length_nil, List.length_cons, or_true, true_or, or_false, false_or, Option.some.injEq, Sum.inl.injEq, Sum.inr.injEq, exists_eq_left', exists_eq_left, Int.reduceLE, Int.reduceLT, Int.reduceNeg, Int.reduceAdd, Int.reduceMul, Int.reduceSub, Int.reduceToNat, inR, Nat.zero_ne_one, false_and, Nat.succ_ne_zero, reduceCtorEq, false_implies, true_implies, not_false_eq_true, not_true_eq_false, Int.reduceEq, C_Slide_likeness]
  simp only [like]
  grind
theorem mP_in (A B : Rw) (s j : Int) : 0 ≤ mP A B s j ∧ mP A B s j ≤ 1 := by
  unfold mP
  split <;> omega
theorem mO_in (A B : Rw) (s j : Int) : 0 ≤ mO A B s j ∧ mO A B s j ≤ 5 := by
  unfold mO
  have h1 := sRank_in A (j + s)
  have h2 := sRank_in B j
  split <;> omega
theorem mS_in (A B : Rw) (s j : Int) : 0 ≤ mS A B s j ∧ mS A B s j ≤ 1 := by
  unfold mS
  split <;> omega
theorem mA_in (A B : Rw) (s j : Int) : 0 ≤ mA A B s j ∧ mA A B s j ≤ 2 := by
  unfold mA like
  split
  · split
    · omega
    · split
      · omega
      · split <;> omega
  · omega
def mSl (M : Mm) (s : Nat) (A B : Rw) (x : Int) : Mm := mset (mset (mset (mset M s 0 (slPairs A B x)) s 1 (slSigns A B x)) s 2 (slRanks A B x)) s 3 (slScore A B x)
set_option maxHeartbeats 4000000 in
set_option maxRecDepth 20000 in
theorem Slide_measure_e {s : Nat} {x1 x2 x3 x7 x8 x9 x10 x11 x12 x13 : Option AV} {P O S Z : Int} {M : Mm} {Qc : Option AV → Mm → Prop} (hs : isSld s) (hp : M s 0 = P) (b1 : 0 ≤ P ∧ P ≤ 924) (b2 : 0 ≤ S ∧ S ≤ 924) (b3 : 0 ≤ O ∧ O ≤ 4620) (b4 : 0 ≤ Z ∧ Z ≤ 1848)
    (hq : ∀ sg rk : Int, sg = (if S < 1 then 0 else (Z * 100).tdiv (2 * S)) → rk = (if P < 1 then 0 else 100 - (O * 25).tdiv P) → Qc none (mset (mset (mset M s 1 sg) s 2 rk) s 3 ((2 * sg + rk).tdiv 3))) :
    WPm m_Slide_measure Qc 179 [some (.inr s), x1, x2, x3, some (.inl O), some (.inl S), some (.inl Z), x7, x8, x9, x10, x11, x12, x13] [] M := by
  have l0 : lay s = .inr (.inl (7, [none, none, none, none])) := hs
  have d1 : 0 ≤ (Z * 100).tdiv (2 * S) ∧ (Z * 100).tdiv (2 * S) ≤ 184800 := by
    rw [Int.tdiv_eq_ediv_of_nonneg (by omega)]
    refine ⟨Int.ediv_nonneg (by omega) (by omega), ?_⟩
    by_cases h : S = 0
    · rw [h]; simp
    · exact Int.le_trans (Int.ediv_le_self _ (by omega)) (by omega)
  have d2 : 0 ≤ (O * 25).tdiv P ∧ (O * 25).tdiv P ≤ 115500 := by
    rw [Int.tdiv_eq_ediv_of_nonneg (by omega)]
    refine ⟨Int.ediv_nonneg (by omega) (by omega), ?_⟩
    by_cases h : P = 0
    · rw [h]; simp
    · exact Int.le_trans (Int.ediv_le_self _ (by omega)) (by omega)
  have K := hq _ _ rfl rfl
  refine wpm_of (cuts := []) (by decide) 300 _ _ _ _ ?_
  simp (maxSteps := 2000000) only [↓reduceIte, wp_eq, wpd_eq, kont_eq, STP1, STP2, STP3, STP4, STP5, konM_eq, AMK, CZ, Option.map, List.getElem?_cons_zero, List.getElem?_cons_succ, List.mem_cons, List.not_mem_nil, if_false, if_true, Nat.reduceAdd, Nat.reduceLT, Nat.reduceLeDiff, Nat.reduceEqDiff, true_and, and_true, List.length_nil, List.length_cons, or_true, true_or, or_false, false_or, Option.some.injEq, Sum.inl.injEq, Sum.inr.injEq, exists_eq_left', exists_eq_left, Int.reduceLE, Int.reduceLT, Int.reduceNeg, Int.reduceAdd, Int.reduceMul, Int.reduceSub, Int.reduceToNat, inR, Nat.zero_ne_one, false_and, Nat.succ_ne_zero, reduceCtorEq, false_implies, true_implies, not_false_eq_true, not_true_eq_false, Int.reduceEq, C_Slide_measure, l0, MSE, hp]
  generalize (Z * 100).tdiv (2 * S) = e1 at d1 K ⊢
  generalize (O * 25).tdiv P = e2 at d2 K ⊢
  repeat' (first | omega | with_reducible apply And.intro | with_reducible intro _ | with_reducible rfl)
  · rw [if_neg (by omega), if_neg (by omega)] at K; exact K
  · rw [if_neg (by omega), if_pos (by omega)] at K; exact K
  · rw [if_pos (by omega), if_neg (by omega)] at K; exact K
  · rw [if_pos (by omega), if_pos (by omega)] at K; exact K
