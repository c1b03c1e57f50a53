/-! FINDING. -/
def isFnd (f : Nat) : Prop := lay f = .inr (.inl (1, [some (f + 1), none, none, none, none, none])) ∧ isSld (f + 1)
theorem slP_in {A B : Rw} {s : Int} (hA : 0 ≤ A.2.1 ∧ A.2.1 ≤ 924) : 0 ≤ slPairs A B s ∧ slPairs A B s ≤ 924 := by
  unfold slPairs
  have bF : slF s = max 0 (-s) := rfl
  have bT : slT A B s = min B.2.1 (A.2.1 - s) := rfl
  by_cases hle : slF s ≤ slT A B s
  · have q1 := sumR_in hle (f := mP A B s) (fun j _ _ => mP_in A B s j)
    omega
  · rw [sumR_e (by omega)]
    omega
theorem sumN_mul {f g : Nat → Int} {c : Int} : ∀ {n : Nat}, (∀ j, j < n → 0 ≤ f j ∧ f j ≤ c * g j) → 0 ≤ sumN f n ∧ sumN f n ≤ c * sumN g n
  | 0, _ => by simp [sumN]
  | n + 1, h => by
    have h1 := sumN_mul (n := n) (fun j hj => h j (by omega))
    have h2 := h n (by omega)
    simp only [sumN, Int.mul_add]
    omega
theorem slS_in (A B : Rw) (s : Int) : (0 ≤ slSigns A B s ∧ slSigns A B s ≤ 100) ∧ (0 ≤ slRanks A B s ∧ slRanks A B s ≤ 100) ∧ (0 ≤ slScore A B s ∧ slScore A B s ≤ 100) := by
  have h1 : 0 ≤ slSigns A B s ∧ slSigns A B s ≤ 100 := by
    unfold slSigns
    split
    · omega
    · have h := sumN_mul (f := fun k => mA A B s (slF s + k)) (g := fun k => mS A B s (slF s + k)) (c := 2) (n := (slT A B s - slF s).toNat) (fun j _ => by
        have := mA_in A B s (slF s + j)
        have := mS_in A B s (slF s + j)
        by_cases e : mS A B s (slF s + j) = 1
        · omega
        · have e2 : mA A B s (slF s + j) = 0 := if_neg e
          omega)
      have h' : 0 ≤ sumR (mA A B s) (slF s) (slT A B s) ∧ sumR (mA A B s) (slF s) (slT A B s) ≤ 2 * slBoth A B s := h
      rw [Int.tdiv_eq_ediv_of_nonneg (by omega)]
      refine ⟨Int.ediv_nonneg (by omega) (by omega), ?_⟩
      refine Int.le_of_lt_add_one (Int.ediv_lt_of_lt_mul (by omega) ?_)
      omega
  have h2 : 0 ≤ slRanks A B s ∧ slRanks A B s ≤ 100 := by
    unfold slRanks
    split
    · omega
    · have h := sumN_mul (f := fun k => mO A B s (slF s + k)) (g := fun k => mP A B s (slF s + k)) (c := 4) (n := (slT A B s - slF s).toNat) (fun j _ => by
        have := mO_in A B s (slF s + j)
        have := mP_in A B s (slF s + j)
        by_cases e : mP A B s (slF s + j) = 1
        · have e2 : mO A B s (slF s + j) = max (sRank A (slF s + j + s) - sRank B (slF s + j)) (-(sRank A (slF s + j + s) - sRank B (slF s + j))) := if_pos e
          have a1 := sRank_in A (slF s + j + s)
          have a2 := sRank_in B (slF s + j)
          have a3 := sRank_none A (slF s + j + s)
          have a4 := sRank_none B (slF s + j)
          have a5 : sN A (slF s + j + s) ≠ 0 ∧ sN B (slF s + j) ≠ 0 := by
            unfold mP at e
            split at e
            · assumption
            · omega
          omega
        · have e2 : mO A B s (slF s + j) = 0 := if_neg e
          omega)
      have h' : 0 ≤ sumR (mO A B s) (slF s) (slT A B s) ∧ sumR (mO A B s) (slF s) (slT A B s) ≤ 4 * slPairs A B s := h
      rw [Int.tdiv_eq_ediv_of_nonneg (by omega)]
      have q1 : 0 ≤ sumR (mO A B s) (slF s) (slT A B s) * 25 / slPairs A B s := Int.ediv_nonneg (by omega) (by omega)
      have q2 : sumR (mO A B s) (slF s) (slT A B s) * 25 / slPairs A B s < 101 := Int.ediv_lt_of_lt_mul (by omega) (by omega)
      omega
  refine ⟨h1, h2, ?_⟩
  unfold slScore
  rw [Int.tdiv_eq_ediv_of_nonneg (by omega)]
  omega
theorem slP_none {A B : Rw} {s : Int} (h : slPairs A B s < 1) : slSigns A B s = 0 ∧ slRanks A B s = 0 ∧ slScore A B s = 0 := by
  have h2 : slRanks A B s = 0 := if_pos h
  have h1 : slBoth A B s < 1 := by
    have := sumN_mul (f := fun k => mS A B s (slF s + k)) (g := fun k => mP A B s (slF s + k)) (c := 1) (n := (slT A B s - slF s).toNat) (fun j _ => by
      have := mS_in A B s (slF s + j)
      have := mP_in A B s (slF s + j)
      by_cases e : mP A B s (slF s + j) = 1
      · omega
      · have e2 : mS A B s (slF s + j) = 0 := if_neg (fun z => e z.1)
        omega)
    have h' : 0 ≤ slBoth A B s ∧ slBoth A B s ≤ 1 * slPairs A B s := this
    omega
  have h3 : slSigns A B s = 0 := if_pos h1
  refine ⟨h3, h2, ?_⟩
  unfold slScore
  rw [h3, h2]
  rfl
/-- of a row without gaps -/
def fullR (B : Rw) : Prop := ∀ j, 0 ≤ j → j < B.2.1 → sN B j ≠ 0
theorem sCnt_sub {A : Rw} {a b : Int} (h0 : 0 ≤ a) (h1 : a ≤ b) : sCnt A b - sCnt A a = sumR (fun k => one (A.1 k.toNat)) a b := by
  have e : ∀ n, 0 ≤ n → sCnt A n = sumR (fun k => one (A.1 k.toNat)) 0 n := by
    intro n hn
    unfold sCnt sumI sumR
    rw [show (n - 0).toNat = n.toNat by omega]
    exact sumN_congr (fun j _ => by simp)
  rw [e b (by omega), e a h0, sumR_split _ h0 h1]
  omega
theorem slPairs_cnt {A B : Rw} {s : Int} (hB : fullR B) : (if 0 ≤ max 0 s ∧ min A.2.1 (B.2.1 + s) ≤ A.2.1 ∧ max 0 s < min A.2.1 (B.2.1 + s) then sCnt A (min A.2.1 (B.2.1 + s)) - sCnt A (max 0 s) else 0) = slPairs A B s := by
  have bF : slF s = max 0 (-s) := rfl
  have bT : slT A B s = min B.2.1 (A.2.1 - s) := rfl
  unfold slPairs
  by_cases h : max 0 s < min A.2.1 (B.2.1 + s)
  · rw [if_pos (by omega), sCnt_sub (by omega) (by omega)]
    unfold sumR
    rw [show (min A.2.1 (B.2.1 + s) - max 0 s).toNat = (slT A B s - slF s).toNat by omega]
    refine sumN_congr (fun j hj => ?_)
    have e1 : max 0 s + (j : Int) = slF s + j + s := by omega
    have e2 := hB (slF s + j) (by omega) (by omega)
    show one (A.1 (max 0 s + (j : Int)).toNat) = mP A B s (slF s + j)
    rw [e1]
    unfold one mP
    have e3 : sN A (slF s + j + s) = A.1 (slF s + j + s).toNat := if_pos (by omega)
    rw [e3]
    by_cases z : A.1 (slF s + j + s).toNat = 0
    · rw [if_neg (by omega), if_neg (by omega)]
    · rw [if_pos z, if_pos ⟨z, e2⟩]
  · rw [if_neg (by omega), sumR_e (by omega)]
set_option maxHeartbeats 4000000 in
set_option maxRecDepth 20000 in
theorem Finding_countPairs_ok {r1 c1 r2 c2 : Nat} {A B : Rw} {s : Int} {M : Mm} (h1 : isRow r1 c1) (h2 : isRow r2 c2) (f1 : finR M r1 c1 A) (f2 : finR M r2 c2 B) (hB : fullR B) (hs : -1000 ≤ s ∧ s ≤ 1000) : CallI m_Finding_countPairs [.inr r1, .inr r2, .inl s] M (fun x M' => x = slPairs A B s ∧ M' = M) := by
  have r0 := h1.1
  have q0 := h2.1
  have b1 := f1.2.1
  have b2 := f2.2.1
  have b3 := f1.2.2.1
  have b4 := f2.2.2.1
  have g1 := f1.1
  have g2 := f2.1
  refine callP_of (by decide) (by decide) (Nat.le_of_ble_eq_true rfl) (wpm_of (cuts := []) (by decide) 50 _ _ _ _ ?_)
  rw [show lM m_Finding_countPairs = 3 from rfl]
  simp (maxSteps := 2000000) only [↓reduceIte, wp_eq, wpd_eq, kont_eq, STP1, STP2, STP3, STP4, STP5, konM_eq, AMK, CZ, Option.map, List.getElem?_cons_zero, List.getElem?_cons_succ, List.mem_cons, List.not_mem_nil, if_false, if_true, Nat.reduceAdd, Nat.reduceLT, Nat.reduceLeDiff, Nat.reduceEqDiff, true_and, and_true, List.length_nil, List.length_cons, or_true, true_or, or_false, false_or, Option.some.injEq, Sum.inl.injEq, Sum.inr.injEq, exists_eq_left', exists_eq_left, Int.reduceLE, Int.reduceLT, Int.reduceNeg, Int.reduceAdd, Int.reduceMul, Int.reduceSub, Int.reduceToNat, inR, Nat.zero_ne_one, false_and, Nat.succ_ne_zero, reduceCtorEq, false_implies, true_implies, not_false_eq_true, not_true_eq_false, Int.reduceEq, KRE, C_Finding_countPairs, r0, q0, g1, g2]
  refine ⟨by omega, by omega, by omega, ?_⟩
  refine (Row_numbersFrom_ok h1 f1 ⟨by omega, by omega⟩ ⟨by omega, by omega⟩).eq ?_
  exact ⟨slPairs_cnt hB, rfl⟩
/-- a Finding's fields hold the best so far (what it is by matters only when found) -/
def fndIs (M : Mm) (f : Nat) (x : Bst) : Prop := M f 1 = x.1 ∧ M f 5 = x.2.2.2.2 ∧ (x.1 ≠ 0 → M f 2 = x.2.1 ∧ M f 3 = x.2.2.1 ∧ M f 4 = x.2.2.2.1)
def okB (x : Bst) : Prop := (x.1 = 0 ∨ x.1 = 1) ∧ (-1 ≤ x.2.2.2.2 ∧ x.2.2.2.2 ≤ 100) ∧ (x.1 ≠ 0 → (-1000 ≤ x.2.1 ∧ x.2.1 ≤ 1000) ∧ (0 ≤ x.2.2.1 ∧ x.2.2.1 ≤ 100) ∧ (0 ≤ x.2.2.2.1 ∧ x.2.2.2.1 ≤ 924) ∧ x.2.2.2.2 ≤ x.2.2.1) ∧ (x.1 = 0 → x.2.2.2.2 = -1)
set_option maxHeartbeats 4000000 in
set_option maxRecDepth 20000 in
theorem Finding_weigh_ok {f : Nat} {A B : Rw} {s lap : Int} {x : Bst} {M : Mm} (hf : isFnd f) (hx : okB x) (hi : fndIs M f x) (hA : 0 ≤ A.2.1 ∧ A.2.1 ≤ 924) (hp : lap ≤ slPairs A B s) (hm : M (f + 1) 0 = slPairs A B s ∧ M (f + 1) 3 = slScore A B s) : CallV m_Finding_weigh [.inr f, .inl s] M (fun M' => fndIs M' f (bstS A B lap s x) ∧ Fr f (f + 1) M M') := by
  obtain ⟨l0, l1⟩ := hf
  have l2 : lay (f + 1) = .inr (.inl (7, [none, none, none, none])) := l1
  have v1 := slP_in (B := B) (s := s) hA
  have v2 := (slS_in A B s).2.2
  obtain ⟨m1, m2⟩ := hm
  obtain ⟨x1, x2, x3, x4, x5⟩ := x
  obtain ⟨i1, i2, i3⟩ := hi
  obtain ⟨o1, o2, o3, o4⟩ := hx
  simp only at i1 i2 i3 o1 o2 o3 o4
  unfold bstS
  rw [if_neg (by omega)]
  simp only
  generalize slScore A B s = S at *
  generalize slPairs A B s = P at *
  rcases o1 with o1 | o1
  · subst o1
    rw [if_neg (by omega), if_neg (by omega)]
    refine callP_of (by decide) (by decide) (Nat.le_of_ble_eq_true rfl) (wpm_of (cuts := []) (by decide) 100 _ _ _ _ ?_)
    rw [show lM m_Finding_weigh = 2 from rfl]
    simp (maxSteps := 2000000) only [↓reduceIte, wp_eq, wpd_eq, kont_eq, STP1, STP2, STP3, STP4, STP5, konM_eq, AMK, CZ, Option.map, List.getElem?_cons_zero, List.getElem?_cons_succ, List.mem_cons, List.not_mem_nil, if_false, if_true, Nat.reduceAdd, Nat.reduceLT, Nat.reduceLeDiff, Nat.reduceEqDiff, true_and, and_true, List.length_nil, List.length_cons, or_true, true_or, or_false, false_or, Option.some.injEq, Sum.inl.injEq, Sum.inr.injEq, exists_eq_left', exists_eq_left, Int.reduceLE, Int.reduceLT, Int.reduceNeg, Int.reduceAdd, Int.reduceMul, Int.reduceSub, Int.reduceToNat, inR, Nat.zero_ne_one, false_and, Nat.succ_ne_zero, reduceCtorEq, false_implies, true_implies, not_false_eq_true, not_true_eq_false, Int.reduceEq, KRE, C_Finding_weigh, l0, l2, MSE, i1, m1, m2]
    refine ⟨⟨?_, ?_, ?_⟩, ?_⟩
    · simp [mset]
    · simp [mset]
    · simp [mset]
    · exact (((((Fr.rf.st (by omega) (by omega)).st (by omega) (by omega)).st (by omega) (by omega)).st (by omega) (by omega)).st (by omega) (by omega))
  · subst o1
    obtain ⟨j1, j2, j3⟩ := i3 (by omega)
    obtain ⟨o3, -⟩ := o3 (by omega)
    by_cases hc : S < x3 ∨ S = x3 ∧ P ≤ x4
    · rw [if_pos ⟨by omega, hc⟩]
      have hres : fndIs (mset M f 5 (max x5 S)) f (1, x2, x3, x4, max x5 S) ∧ Fr f (f + 1) M (mset M f 5 (max x5 S)) := by
        refine ⟨⟨?_, ?_, ?_⟩, Fr.ms (by omega) (by omega)⟩
        · simp [mset, i1]
        · simp [mset]
        · simp [mset, j1, j2, j3]
      refine callP_of (by decide) (by decide) (Nat.le_of_ble_eq_true rfl) (wpm_of (cuts := []) (by decide) 100 _ _ _ _ ?_)
      rw [show lM m_Finding_weigh = 2 from rfl]
      simp (maxSteps := 2000000) only [↓reduceIte, wp_eq, wpd_eq, kont_eq, STP1, STP2, STP3, STP4, STP5, konM_eq, AMK, CZ, Option.map, List.getElem?_cons_zero, List.getElem?_cons_succ, List.mem_cons, List.not_mem_nil, if_false, if_true, Nat.reduceAdd, Nat.reduceLT, Nat.reduceLeDiff, Nat.reduceEqDiff, true_and, and_true, List.length_nil, List.length_cons, or_true, true_or, or_false, false_or, Option.some.injEq, Sum.inl.injEq, Sum.inr.injEq, exists_eq_left', exists_eq_left, Int.reduceLE, Int.reduceLT, Int.reduceNeg, Int.reduceAdd, Int.reduceMul, Int.reduceSub, Int.reduceToNat, inR, Nat.zero_ne_one, false_and, Nat.succ_ne_zero, reduceCtorEq, false_implies, true_implies, not_false_eq_true, not_true_eq_false, Int.reduceEq, KRE, C_Finding_weigh, l0, l2, MSE, i1, i2, m1, m2, j1, j2, j3]
      by_cases c1 : S < x3
      · repeat' (first | with_reducible apply And.intro | with_reducible intro _)
        all_goals first | exact hres.1 | exact hres.2 | omega
      · have c2 : S = x3 := by omega
        repeat' (first | with_reducible apply And.intro | with_reducible intro _)
        all_goals first | exact hres.1 | exact hres.2 | omega
    · rw [if_neg (fun z => hc z.2), if_pos (by omega)]
      have hres : fndIs (mset (mset (mset (mset (mset M f 5 x3) f 1 1) f 2 s) f 3 S) f 4 P) f (1, s, S, P, x3) ∧ Fr f (f + 1) M (mset (mset (mset (mset (mset M f 5 x3) f 1 1) f 2 s) f 3 S) f 4 P) := by
        refine ⟨⟨?_, ?_, ?_⟩, ?_⟩
        · simp [mset]
        · simp [mset]
        · simp [mset]
        · exact (((((Fr.rf.st (by omega) (by omega)).st (by omega) (by omega)).st (by omega) (by omega)).st (by omega) (by omega)).st (by omega) (by omega))
      refine callP_of (by decide) (by decide) (Nat.le_of_ble_eq_true rfl) (wpm_of (cuts := []) (by decide) 100 _ _ _ _ ?_)
      rw [show lM m_Finding_weigh = 2 from rfl]
      simp (maxSteps := 2000000) only [↓reduceIte, wp_eq, wpd_eq, kont_eq, STP1, STP2, STP3, STP4, STP5, konM_eq, AMK, CZ, Option.map, List.getElem?_cons_zero, List.getElem?_cons_succ, List.mem_cons, List.not_mem_nil, if_false, if_true, Nat.reduceAdd, Nat.reduceLT, Nat.reduceLeDiff, Nat.reduceEqDiff, true_and, and_true, List.length_nil, List.length_cons, or_true, true_or, or_false, false_or, Option.some.injEq, Sum.inl.injEq, Sum.inr.injEq, exists_eq_left', exists_eq_left, Int.reduceLE, Int.reduceLT, Int.reduceNeg, Int.reduceAdd, Int.reduceMul, Int.reduceSub, Int.reduceToNat, inR, Nat.zero_ne_one, false_and, Nat.succ_ne_zero, reduceCtorEq, false_implies, true_implies, not_false_eq_true, not_true_eq_false, Int.reduceEq, KRE, C_Finding_weigh, l0, l2, MSE, i1, i2, m1, m2, j1, j2, j3]
      by_cases c1 : S = x3
      · repeat' (first | with_reducible apply And.intro | with_reducible intro _)
        all_goals first | exact hres.1 | exact hres.2 | omega
      · repeat' (first | with_reducible apply And.intro | with_reducible intro _)
        all_goals first | exact hres.1 | exact hres.2 | omega
theorem okB_0 : okB (0, 0, 0, 0, -1) := by
  refine ⟨Or.inl rfl, ⟨by decide, by decide⟩, fun z => absurd rfl z, fun _ => rfl⟩
theorem okB_S {A B : Rw} {lap s : Int} {x : Bst} (hA : 0 ≤ A.2.1 ∧ A.2.1 ≤ 924) (hs : -1000 ≤ s ∧ s ≤ 1000) (h : okB x) : okB (bstS A B lap s x) := by
  have v1 := slP_in (B := B) (s := s) hA
  have v2 := (slS_in A B s).2.2
  obtain ⟨x1, x2, x3, x4, x5⟩ := x
  obtain ⟨o1, o2, o3, o4⟩ := h
  simp only at o1 o2 o3 o4
  unfold bstS
  generalize slScore A B s = S at *
  generalize slPairs A B s = P at *
  simp only
  split
  · exact ⟨o1, o2, o3, o4⟩
  · split
    · rename_i c1 c2
      obtain ⟨p1, p2, p3, p4⟩ := o3 c2.1
      refine ⟨o1, ?_, fun _ => ⟨p1, p2, p3, ?_⟩, fun z => absurd z c2.1⟩ <;> simp only <;> omega
    · rename_i c1 c2
      refine ⟨Or.inr rfl, ?_, fun _ => ⟨hs, v2, v1, ?_⟩, fun z => absurd (show (1 : Int) = 0 from z) (by decide)⟩
      · simp only
        split
        · rename_i c3
          have := o3 c3
          omega
        · omega
      · simp only
        split
        · rename_i c3
          have := o3 c3
          omega
        · omega
theorem okB_N {A B : Rw} {lap : Int} (hA : 0 ≤ A.2.1 ∧ A.2.1 ≤ 924) (hB : 0 ≤ B.2.1 ∧ B.2.1 ≤ 30) : ∀ k : Nat, (k : Int) ≤ A.2.1 + B.2.1 → okB (bstN A B lap k)
  | 0, _ => okB_0
  | k + 1, h => okB_S hA ⟨by omega, by omega⟩ (okB_N hA hB k (by omega))
theorem okB_best {A B : Rw} {lap : Int} (hA : 0 ≤ A.2.1 ∧ A.2.1 ≤ 924) (hB : 0 ≤ B.2.1 ∧ B.2.1 ≤ 30) : okB (best A B lap) := okB_N hA hB _ (by omega)
set_option maxHeartbeats 4000000 in
set_option maxRecDepth 20000 in
theorem Finding_seek_ok {f r1 c1 r2 c2 : Nat} {A B : Rw} {lap : Int} {M : Mm} (hf : isFnd f) (h1 : isRow r1 c1) (h2 : isRow r2 c2) (f1 : finR M r1 c1 A) (f2 : finR M r2 c2 B) (hB : fullR B) (hB2 : B.2.1 ≤ 30) (s1 : f + 2 ≤ r1 ∨ r1 + 7 ≤ f) (s2 : f + 2 ≤ r2 ∨ r2 + 7 ≤ f) (hl : 1 ≤ lap ∧ lap ≤ 100) :
    CallV m_Finding_seek [.inr f, .inr r1, .inr r2, .inl lap] M (fun M' => fndIs M' f (best A B lap) ∧ Fr f (f + 2) M M') := by
  obtain ⟨l0, l1⟩ := id hf
  have l2 : lay (f + 1) = .inr (.inl (7, [none, none, none, none])) := l1
  have r0 := h1.1
  have q0 := h2.1
  have b1 := f1.2.1
  have b2 := f2.2.1
  have b3 := f1.2.2.1
  have b4 := f2.2.2.1
  have hA : 0 ≤ A.2.1 ∧ A.2.1 ≤ 924 := by omega
  have fr1 : ∀ {M1}, Fr f (f + 2) M M1 → finR M1 r1 c1 A := fun h => finR_cells (fun b p1 p2 j => h b (by omega) j) f1
  have fr2 : ∀ {M1}, Fr f (f + 2) M M1 → finR M1 r2 c2 B := fun h => finR_cells (fun b p1 p2 j => h b (by omega) j) f2
  have F0 : Fr f (f + 2) M (mset (mset M f 1 0) f 5 (-1)) := (Fr.rf.st (by omega) (by omega)).st (by omega) (by omega)
  have g2 : mset (mset M f 1 0) f 5 (-1) r2 7 = B.2.1 := (fr2 F0).1
  refine callP_of (by decide) (by decide) (Nat.le_of_ble_eq_true rfl) (wpm_of (cuts := [18]) (by decide) 50 _ _ _ _ ?_)
  rw [show lM m_Finding_seek = 5 from rfl]
  simp (maxSteps := 2000000) only [↓reduceIte, wp_eq, wpd_eq, kont_eq, STP1, STP2, STP3, STP4, STP5, konM_eq, AMK, CZ, Option.map, List.getElem?_cons_zero, List.getElem?_cons_succ, List.mem_cons, List.not_mem_nil, if_false, if_true, Nat.reduceAdd, Nat.reduceLT, Nat.reduceLeDiff, Nat.reduceEqDiff, true_and, and_true, List.length_nil, List.length_cons, or_true, true_or, or_false, false_or, Option.some.injEq, Sum.inl.injEq, Sum.inr.injEq, exists_eq_left', exists_eq_left, Int.reduceLE, Int.reduceLT, Int.reduceNeg, Int.reduceAdd, Int.reduceMul, Int.reduceSub, Int.reduceToNat, inR, Nat.zero_ne_one, false_and, Nat.succ_ne_zero, reduceCtorEq, false_implies, true_implies, not_false_eq_true, not_true_eq_false, Int.reduceEq, KRE, C_Finding_seek, l0, r0, q0, g2]
  refine loopQ (A.2.1 - (1 - B.2.1)).toNat (fun k ls M1 => fndIs M1 f (bstN A B lap k) ∧ Fr f (f + 2) M M1 ∧ ls = [some (.inr f), some (.inr r1), some (.inr r2), some (.inl lap), some (.inl (1 - B.2.1 + k))]) ?_ _ _ ⟨?_, F0, by simp⟩
  · rintro k _ M1 hk ⟨hi, hF, rfl⟩ K
    have e1 : M1 r1 7 = A.2.1 := (fr1 hF).1
    refine wpm_of (cuts := [18]) (by decide) 100 _ _ _ _ ?_
    simp (maxSteps := 2000000) only [↓reduceIte, wp_eq, wpd_eq, kont_eq, STP1, STP2, STP3, STP4, STP5, konM_eq, AMK, CZ, Option.map, List.getElem?_cons_zero, List.getElem?_cons_succ, List.mem_cons, List.not_mem_nil, if_false, if_true, Nat.reduceAdd, Nat.reduceLT, Nat.reduceLeDiff, Nat.reduceEqDiff, true_and, and_true, List.length_nil, List.length_cons, or_true, true_or, or_false, false_or, Option.some.injEq, Sum.inl.injEq, Sum.inr.injEq, exists_eq_left', exists_eq_left, Int.reduceLE, Int.reduceLT, Int.reduceNeg, Int.reduceAdd, Int.reduceMul, Int.reduceSub, Int.reduceToNat, inR, Nat.zero_ne_one, false_and, Nat.succ_ne_zero, reduceCtorEq, false_implies, true_implies, not_false_eq_true, not_true_eq_false, Int.reduceEq, KRE, C_Finding_seek, l0, l2, r0, q0, e1]
    refine ⟨by omega, by omega, fun z => ⟨?_, hF⟩, fun z => ?_⟩
    · rw [best, ← show k = (A.2.1 - (1 - B.2.1)).toNat by omega]
      exact hi
    · refine (Finding_countPairs_ok h1 h2 (fr1 hF) (fr2 hF) hB ⟨by omega, by omega⟩).eq ?_
      have v1 := slP_in (B := B) (s := 1 - B.2.1 + k) hA
      refine ⟨by omega, by omega, fun c => ?_, fun c => ?_⟩
      · refine K (by omega) _ _ ⟨?_, hF, by rw [natI, Int.add_assoc]⟩
        rw [bstN, bstS, if_pos c]
        exact hi
      · refine (Slide_measure_ok (x := 1 - B.2.1 + k) l1 h1 h2 (fr1 hF) (fr2 hF) ⟨by omega, by omega⟩).eq ?_
        have F2 : Fr (f + 1) (f + 2) M1 (mSl M1 (f + 1) A B (1 - B.2.1 + k)) := (((Fr.rf.st (by omega) (by omega)).st (by omega) (by omega)).st (by omega) (by omega)).st (by omega) (by omega)
        have hi2 : fndIs (mSl M1 (f + 1) A B (1 - B.2.1 + k)) f (bstN A B lap k) := by
          have e := F2 f (by omega)
          unfold fndIs
          rw [e, e, e, e, e]
          exact hi
        refine (Finding_weigh_ok (A := A) (B := B) (s := 1 - B.2.1 + k) (lap := lap) hf (okB_N hA ⟨by omega, hB2⟩ k (by omega)) hi2 hA (by omega) ⟨?_, ?_⟩).mono (fun M3 z3 => ?_)
        · simp [mSl, mset]
        · simp [mSl, mset]
        · exact K (by omega) _ _ ⟨z3.1, (hF.tr (F2.wd (by omega) (by omega))).tr (z3.2.wd (by omega) (by omega)), by rw [natI, Int.add_assoc]⟩
  · refine ⟨?_, ?_, fun z => absurd rfl z⟩ <;> simp [mset, bstN]
set_option maxHeartbeats 4000000 in
set_option maxRecDepth 20000 in
theorem Finding_whyNotSure_ok {f : Nat} {b m : Int} {x : Bst} {M : Mm} (hf : isFnd f) (hx : okB x) (hi : fndIs M f x) (hb : 0 ≤ b ∧ b ≤ 1000) (hm : 0 ≤ m ∧ m ≤ 1000) : CallI m_Finding_whyNotSure [.inr f, .inl b, .inl m] M (fun y M' => y = why x b m ∧ M' = M) := by
  obtain ⟨l0, l1⟩ := hf
  obtain ⟨x1, x2, x3, x4, x5⟩ := x
  obtain ⟨i1, i2, i3⟩ := hi
  obtain ⟨o1, o2, o3, o4⟩ := hx
  simp only at i1 i2 i3 o1 o2 o3 o4
  refine callP_of (by decide) (by decide) (Nat.le_of_ble_eq_true rfl) (wpm_of (cuts := []) (by decide) 50 _ _ _ _ ?_)
  rw [show lM m_Finding_whyNotSure = 3 from rfl]
  simp (maxSteps := 2000000) only [↓reduceIte, wp_eq, wpd_eq, kont_eq, STP1, STP2, STP3, STP4, STP5, konM_eq, AMK, CZ, Option.map, List.getElem?_cons_zero, List.getElem?_cons_succ, List.mem_cons, List.not_mem_nil, if_false, if_true, Nat.reduceAdd, Nat.reduceLT, Nat.reduceLeDiff, Nat.reduceEqDiff, true_and, and_true, List.length_nil, List.length_cons, or_true, true_or, or_false, false_or, Option.some.injEq, Sum.inl.injEq, Sum.inr.injEq, exists_eq_left', exists_eq_left, Int.reduceLE, Int.reduceLT, Int.reduceNeg, Int.reduceAdd, Int.reduceMul, Int.reduceSub, Int.reduceToNat, inR, Nat.zero_ne_one, false_and, Nat.succ_ne_zero, reduceCtorEq, false_implies, true_implies, not_false_eq_true, not_true_eq_false, Int.reduceEq, KRE, C_Finding_whyNotSure, l0, i1, i2]
  simp only [why]
  grind
