/-! FINDING. -/
def isFnd (f : Nat) : Prop := lay f = .inr (.inl (1, [some (f + 1), none, none, none, none, none])) ∧ isSld (f + 1)
theorem slP_in {A B : Rw} {s : Int} (hA : 0 ≤ A.2.1 ∧ A.2.1 ≤ 924) : 0 ≤ slPairs A B s ∧ slPairs A B s ≤ 924 := by
  unfold slPairs
  have bF : slF s = max 0 (-s) := rfl
  have bT : slT A B s = min B.2.1 (A.2.1 - s) := rfl
  by_cases hle : slF s ≤ slT A B s
  · have q1 := sumR_in hle (f := mP A B s) (fun j _ _ => mP_in A B s j)
    omega
  · rw [sumR_e (by omega)]
    omega
theorem sumN_mul {f g : Nat → Int} {c : Int} : ∀ {n : Nat}, (∀ j, j < n → 0 ≤ f j ∧ f j ≤ c * g j) → 0 ≤ sumN f n ∧ sumN f n ≤ c * sumN g n
  | 0, _ => by simp [sumN]
  | n + 1, h => by
    have h1 := sumN_mul (n := n) (fun j hj => h j (by omega))
    have h2 := h n (by omega)
    simp only [sumN, Int.mul_add]
    omega
theorem slS_in (A B : Rw) (s : Int) : (0 ≤ slSigns A B s ∧ slSigns A B s ≤ 100) ∧ (0 ≤ slRanks A B s ∧ slRanks A B s ≤ 100) ∧ (0 ≤ slScore A B s ∧ slScore A B s ≤ 100) := by
  have h1 : 0 ≤ slSigns A B s ∧ slSigns A B s ≤ 100 := by
    unfold slSigns
    split
    · omega
    · have h := sumN_mul (f := fun k => mA A B s (slF s + k)) (g := fun k => mS A B s (slF s + k)) (c := 2) (n := (slT A B s - slF s).toNat) (fun j _ => by
        have := mA_in A B s (slF s + j)
        have := mS_in A B s (slF s + j)
        by_cases e : mS A B s (slF s + j) = 1
        · omega
        · have e2 : mA A B s (slF s + j) = 0 := if_neg e
          omega)
      have h' : 0 ≤ sumR (mA A B s) (slF s) (slT A B s) ∧ sumR (mA A B s) (slF s) (slT A B s) ≤ 2 * slBoth A B s := h
      rw [Int.tdiv_eq_ediv_of_nonneg (by omega)]
      refine ⟨Int.ediv_nonneg (by omega) (by omega), ?_⟩
      refine Int.le_of_lt_add_one (Int.ediv_lt_of_lt_mul (by omega) ?_)
      omega
  have h2 : 0 ≤ slRanks A B s ∧ slRanks A B s ≤ 100 := by
    unfold slRanks
    split
    · omega
    · have h := sumN_mul (f := fun k => mO A B s (slF s + k)) (g := fun k => mP A B s (slF s + k)) (c := 4) (n := (slT A B s - slF s).toNat) (fun j _ => by
        have := mO_in A B s (slF s + j)
        have := mP_in A B s (slF s + j)
        by_cases e : mP A B s (slF s + j) = 1
        · have e2 : mO A B s (slF s + j) = max (sRank A (slF s + j + s) - sRank B (slF s + j)) (-(sRank A (slF s + j + s) - sRank B (slF s + j))) := if_pos e
          have a1 := sRank_in A (slF s + j + s)
          have a2 := sRank_in B (slF s + j)
          have a3 := sRank_none A (slF s + j + s)
          have a4 := sRank_none B (slF s + j)
          have a5 : sN A (slF s + j + s) ≠ 0 ∧ sN B (slF s + j) ≠ 0 := by
            unfold mP at e
            split at e
            · assumption
            · omega
          omega
        · have e2 : mO A B s (slF s + j) = 0 := if_neg e
          omega)
      have h' : 0 ≤ sumR (mO A B s) (slF s) (slT A B s) ∧ sumR (mO A B s) (slF s) (slT A B s) ≤ 4 * slPairs A B s := h
      rw [Int.tdiv_eq_ediv_of_nonneg (by omega)]
      have q1 : 0 ≤ sumR (mO A B s) (slF s) (slT A B s) * 25 / slPairs A B s := Int.ediv_nonneg (by omega) (by omega)
      have q2 : sumR (mO A B s) (slF s) (slT A B s) * 25 / slPairs A B s < 101 := Int.ediv_lt_of_lt_mul (by omega) (by omega)
      omega
  refine ⟨h1, h2, ?_⟩
  unfold slScore
  rw [Int.tdiv_eq_ediv_of_nonneg (by omega)]
  omega
theorem slP_none {A B : Rw} {s : Int} (h : slPairs A B s < 1) : slSigns A B s = 0 ∧ slRanks A B s = 0 ∧ slScore A B s = 0 := by
  have h2 : slRanks A B s = 0 := if_pos h
  have h1 : slBoth A B s < 1 := by
    have := sumN_mul (f := fun k => mS A B s (slF s + k)) (g := fun k => mP A B s (slF s + k)) (c := 1) (n := (slT A B s - slF s).toNat) (fun j _ => by
      have := mS_in A B s (slF s + j)
      have := mP_in A B s (slF s + j)
      by_cases e : mP A B s (slF s + j) = 1
      · omega
      · have e2 : mS A B s (slF s + j) = 0 := if_neg (fun z => e z.1)
        omega)
    have h' : 0 ≤ slBoth A B s ∧ slBoth A B s ≤ 1 * slPairs A B s := this
    omega
  have h3 : slSigns A B s = 0 := if_pos h1
  refine ⟨h3, h2, ?_⟩
  unfold slScore
  rw [h3, h2]
  rfl
/-- of a row without gaps -/
def fullR (B : Rw) : Prop := ∀ j, 0 ≤ j → j < B.2.1 → sN B j ≠ 0
theorem sCnt_sub {A : Rw} {a b : Int} (h0 : 0 ≤ a) (h1 : a ≤ b) : sCnt A b - sCnt A a = sumR (fun k => one (A.1 k.toNat)) a b := by
  have e : ∀ n, 0 ≤ n → sCnt A n = sumR (fun k => one (A.1 k.toNat)) 0 n := by
    intro n hn
    unfold sCnt sumI sumR
    rw [show (n - 0).toNat = n.toNat by omega]
    exact sumN_congr (fun j _ => by simp)
  rw [e b (by omega), e a h0, sumR_split _ h0 h1]
  omega
theorem slPairs_cnt {A B : Rw} {s : Int} (hB : fullR B) : (if 0 ≤ max 0 s ∧ min A.2.1 (B.2.1 + s) ≤ A.2.1 ∧ max 0 s < min A.2.1 (B.2.1 + s) then sCnt A (min A.2.1 (B.2.1 + s)) - sCnt A (max 0 s) else 0) = slPairs A B s := by
  have bF : slF s = max 0 (-s) := rfl
  have bT : slT A B s = min B.2.1 (A.2.1 - s) := rfl
  unfold slPairs
  by_cases h : max 0 s < min A.2.1 (B.2.1 + s)
  · rw [if_pos (by omega), sCnt_sub (by omega) (by omega)]
    unfold sumR
    rw [show (min A.2.1 (B.2.1 + s) - max 0 s).toNat = (slT A B s - slF s).toNat by omega]
    refine sumN_congr (fun j hj => ?_)
    have e1 : max 0 s + (j : Int) = slF s + j + s := by omega
    have e2 := hB (slF s + j) (by omega) (by omega)
    show one (A.1 (max 0 s + (j : Int)).toNat) = mP A B s (slF s + j)
    rw [e1]
    unfold one mP
    have e3 : sN A (slF s + j + s) = A.1 (slF s + j + s).toNat := if_pos (by omega)
    rw [e3]
    by_cases z : A.1 (slF s + j + s).toNat = 0
    · rw [if_neg (by omega), if_neg (by omega)]
    · rw [if_pos z, if_pos ⟨z, e2⟩]
  · rw [if_neg (by omega), sumR_e (by omega)]
set_option maxHeartbeats 4000000 in
set_option maxRecDepth 20000 in
theorem Finding_countPairs_ok {r1 c1 r2 c2 : Nat} {A B : Rw} {s : Int} {M : Mm} (h1 : isRow r1 c1) (h2 : isRow r2 c2) (f1 : finR M r1 c1 A) (f2 : finR M r2 c2 B) (hB : fullR B) (hs : -1000 ≤ s ∧ s ≤ 1000) : CallI m_Finding_countPairs [.inr r1, .inr r2, .inl s] M (fun x M' => x = slPairs A B s ∧ M' = M) := by
  have r0 := h1.1
  have q0 := h2.1
  have b1 := f1.2.1
  have b2 := f2.2.1
  have b3 := f1.2.2.1
  have b4 := f2.2.2.1
  have g1 := f1.1
  have g2 := f2.1
  refine callP_of (by decide) (by decide) (Nat.le_of_ble_eq_true rfl) (wpm_of (cuts := []) (by decide) 50 _ _ _ _ ?_)
  rw [show lM m_Finding_countPairs = 3 from rfl]
  simp (maxSteps := 2000000) only [↓reduceIte, wp_eq, wpd_eq, kont_eq, STP1, STP2, STP3, STP4, STP5, konM_eq, AMK, CZ, Option.map, List.getElem?_cons_zero, List.getElem?_cons_succ, List.mem_cons, List.not_mem_nil, if_false, if_true, Nat.reduceAdd, Nat.reduceLT, Nat.reduceLeDiff, Nat.reduceEqDiff, true_and, and_true, List.length_nil, List.length_cons, or_true, true_or, or_false, false_or, Option.some.injEq, Sum.inl.injEq, Sum.inr.injEq, exists_eq_left', exists_eq_left, Int.reduceLE, Int.reduceLT, Int.reduceNeg, Int.reduceAdd, Int.reduceMul, Int.reduceSub, Int.reduceToNat, inR, Nat.zero_ne_one, false_and, Nat.succ_ne_zero, reduceCtorEq, false_implies, true_implies, not_false_eq_true, not_true_eq_false, Int.reduceEq, KRE, C_Finding_countPairs, r0, q0, g1, g2]
  refine ⟨by omega, by omega, by omega, ?_⟩
  refine (Row_numbersFrom_ok h1 f1 ⟨by omega, by omega⟩ ⟨by omega, by omega⟩).eq ?_
  exact ⟨slPairs_cnt hB, rfl⟩
/-- a Finding's fields hold the best so far (what it is by matters only when found) -/
def fndIs (M : Mm) (f : Nat) (x : Bst) : Prop := M f 1 = x.1 ∧ M f 5 = x.2.2.2.2 ∧ (x.1 ≠ 0 → M f 2 = x.2.1 ∧ M f 3 = x.2.2.1 ∧ M f 4 = x.2.2.2.1)
def okB (x : Bst) : Prop := (x.1 = 0 ∨ x.1 = 1) ∧ (-1 ≤ x.2.2.2.2 ∧ x.2.2.2.2 ≤ 100) ∧ (x.1 ≠ 0 → (-1000 ≤ x.2.1 ∧ x.2.1 ≤ 1000) ∧ (0 ≤ x.2.2.1 ∧ x.2.2.1 ≤ 100) ∧ (0 ≤ x.2.2.2.1 ∧ x.2.2.2.1 ≤ 924) ∧ x.2.2.2.2 ≤ x.2.2.1) ∧ (x.1 = 0 → x.2.2.2.2 = -1)
set_option maxHeartbeats 4000000 in
set_option maxRecDepth 20000 in
theorem Finding_weigh_ok {f : Nat} {A B : Rw} {s lap : Int} {x : Bst} {M : Mm} (hf : isFnd f) (hx : okB x) (hi : fndIs M f x) (hA : 0 ≤ A.2.1 ∧ A.2.1 ≤ 924) (hp : lap ≤ slPairs A B s) (hm : M (f + 1) 0 = slPairs A B s ∧ M (f + 1) 3 = slScore A B s) : CallV m_Finding_weigh [.inr f, .inl s] M (fun M' => fndIs M' f (bstS A B lap s x) ∧ Fr f (f + 1) M M') := by
  obtain ⟨l0, l1⟩ := hf
  have l2 : lay (f + 1) = .inr (.inl (7, [none, none, none, none])) := l1
  have v1 := slP_in (B := B) (s := s) hA
  have v2 := (slS_in A B s).2.2
  obtain ⟨m1, m2⟩ := hm
  obtain ⟨x1, x2, x3, x4, x5⟩ := x
  obtain ⟨i1, i2, i3⟩ := hi
  obtain ⟨o1, o2, o3, o4⟩ := hx
  simp only at i1 i2 i3 o1 o2 o3 o4
  unfold bstS
  rw [if_neg (by omega)]
  simp only
  generalize slScore A B s = S at *
  generalize slPairs A B s = P at *
  rcases o1 with o1 | o1
  · subst o1
    rw [if_neg (by omega), if_neg (by omega)]
    refine callP_of (by decide) (by decide) (Nat.le_of_ble_eq_true rfl) (wpm_of (cuts := []) (by decide) 100 _ _ _ _ ?_)
    rw [show lM m_Finding_weigh = 2 from rfl]
    simp (maxSteps := 2000000) only [↓reduceIte, wp_eq, wpd_eq, kont_eq, STP1, STP2, STP3, STP4, STP5, konM_eq, AMK, CZ, Option.map, List.getElem?_cons_zero, List.getElem?_cons_succ, List.mem_cons, List.not_mem_nil, if_false, if_true, Nat.reduceAdd, Nat.reduceLT, Nat.reduceLeDiff, Nat.reduceEqDiff, true_and, and_true, List.length_nil, List.length_cons, or_true, true_or, or_false, false_or, Option.some.injEq, Sum.inl.injEq, Sum.inr.injEq, exists_eq_left', exists_eq_left, Int.reduceLE, Int.reduceLT, Int.reduceNeg, Int.reduceAdd, Int.reduceMul, Int.reduceSub, Int.reduceToNat, inR, Nat.zero_ne_one, false_and, Nat.succ_ne_zero, reduceCtorEq, false_implies, true_implies, not_false_eq_true, not_true_eq_false, Int.reduceEq, KRE, C_Finding_weigh, l0, l2, MSE, i1, m1, m2]
    refine ⟨⟨?_, ?_, ?_⟩, ?_⟩
    · simp [mset]
    · simp [mset]
    · simp [mset]
    · exact (((((Fr.rf.st (by omega) (by omega)).st (by omega) (by omega)).st (by omega) (by omega)).st (by omega) (by omega)).st (by omega) (by omega))
  · subst o1
    obtain ⟨j1, j2, j3⟩ := i3 (by omega)
    obtain ⟨o3, -⟩ := o3 (by omega)
    by_cases hc : S < x3 ∨ S = x3 ∧ P ≤ x4
    · rw [if_pos ⟨by omega, hc⟩]
      have hres : fndIs (mset M f 5 (max x5 S)) f (1, x2, x3, x4, max x5 S) ∧ Fr f (f + 1) M (mset M f 5 (max x5 S)) := by
        refine ⟨⟨?_, ?_, ?_⟩, Fr.ms (by omega) (by omega)⟩
        · simp [mset, i1]
        · simp [mset]
        · simp [mset, j1, j2, j3]
      refine callP_of (by decide) (by decide) (Nat.le_of_ble_eq_true rfl) (wpm_of (cuts := []) (by decide) 100 _ _ _ _ ?_)
      rw [show lM m_Finding_weigh = 2 from rfl]
      simp (maxSteps := 2000000) only [↓reduceIte, wp_eq, wpd_eq, kont_eq, STP1, STP2, STP3, STP4, STP5, konM_eq, AMK, CZ, Option.map, List.getElem?_cons_zero, List.getElem?_cons_succ, List.mem_cons, List.not_mem_nil, if_false, if_true, Nat.reduceAdd, Nat.reduceLT, Nat.reduceLeDiff, Nat.reduceEqDiff, true_and, and_true, List.length_nil, List.length_cons, or_true, true_or, or_false, false_or, Option.some.injEq, Sum.inl.injEq, Sum.inr.injEq, exists_eq_left', exists_eq_left, Int.reduceLE, Int.reduceLT, Int.reduceNeg, Int.reduceAdd, Int.reduceMul, Int.reduceSub, Int.reduceToNat, inR, Nat.zero_ne_one, false_and, Nat.succ_ne_zero, reduceCtorEq, false_implies, true_implies, not_false_eq_true, not_true_eq_false, Int.reduceEq, KRE, C_Finding_weigh, l0, l2, MSE, i1, i2, m1, m2, j1, j2, j3]
      by_cases c1 : S < x3
      · repeat' (first | with_reducible apply And.intro | with_reducible intro _)
        all_goals first | exact hres.1 | exact hres.2 | omega
      · have c2 : S = x3 := by omega
        repeat' (first | with_reducible apply And.intro | with_reducible intro _)
        all_goals first | exact hres.1 | exact hres.2 | omega
    · rw [if_neg (fun z => hc z.2), if_pos (by omega)]
      have hres : fndIs (mset (mset (mset (mset (mset M f 5 x3) f 1 1) f 2 s) f 3 S) f 4 P) f (1, s, S, P, x3) ∧ Fr f (f + 1) M (mset (mset (mset (mset (mset M f 5 x3) f 1 1) f 2 s) f 3 S) f 4 P) := by
        refine ⟨⟨?_, ?_, ?_⟩, ?_⟩
        · simp [mset]
        · simp [mset]
        · simp [mset]
        · exact (((((Fr.rf.st (by omega) (by omega)).st (by omega) (by omega)).st (by omega) (by omega)).st (by omega) (by omega)).st (by omega) (by omega))
      refine callP_of (by decide) (by decide) (Nat.le_of_ble_eq_true rfl) (wpm_of (cuts := []) (by decide) 100 _ _ _ _ ?_)
      rw [show lM m_Finding_weigh = 2 from rfl]
      simp (maxSteps := 2000000) only [↓reduceIte, wp_eq, wpd_eq, kont_eq, STP1, STP2, STP3, STP4, STP5, konM_eq, AMK, CZ, Option.map, List.getElem?_cons_zero, List.getElem?_cons_succ, List.mem_cons, List.not_mem_nil, if_false, if_true, Nat.reduceAdd, Nat.reduceLT, Nat.reduceLeDiff, Nat.reduceEqDiff, true_and, and_true, List.length_nil, List.length_cons, or_true, true_or, or_false, false_or, Option.some.injEq, Sum.inl.injEq, Sum.inr.injEq, exists_eq_left', exists_eq_left, Int.reduceLE, Int.reduceLT, Int.reduceNeg, Int.reduceAdd, Int.reduceMul, Int.reduceSub, Int.reduceToNat, inR, Nat.zero_ne_one, false_and, Nat.succ_ne_zero, reduceCtorEq, false_implies, true_implies, not_false_eq_true, not_true_eq_false, Int.reduceEq, KRE, C_Finding_weigh, l0, l2, MSE, i1, i2, m1, m2, j1, j2, j3]
      by_cases c1 : S = x3
      · repeat' (first | with_reducible apply And.intro | with_reducible intro _)
        all_goals first | exact hres.1 | exact hres.2 | omega
      · repeat' (first | with_reducible apply And.intro | with_reducible intro _)
        all_goals first | exact hres.1 | exact hres.2 | omega
theorem okB_0 : okB (0, 0, 0, 0, -1) := by
  refine ⟨Or.inl rfl, ⟨by decide, by decide⟩, fun z => absurd rfl z, fun _ => rfl⟩
theorem okB_S {A B : Rw} {lap s : Int} {x : Bst} (hA : 0 ≤ A.2.1 ∧ A.2.1 ≤ 924) (hs : -1000 ≤ s ∧ s ≤ 1000) (h : okB x) : okB (bstS A B lap s x) := by
  have v1 := slP_in (B := B) (s := s) hA
  have v2 := (slS_in A B s).2.2
  obtain ⟨x1, x2, x3, x4, x5⟩ := x
  obtain ⟨o1, o2, o3, o4⟩ := h
  simp only at o1 o2 o3 o4
  unfold bstS
  generalize slScore A B s = S at *
  generalize slPairs A B s = P at *
  simp only
  split
  · exact ⟨o1, o2, o3, o4⟩
  · split
    · rename_i c1 c2
      obtain ⟨p1, p2, p3, p4⟩ := o3 c2.1
      refine ⟨o1, ?_, fun _ => ⟨p1, p2, p3, ?_⟩, fun z => absurd z c2.1⟩ <;> simp only <;> omega
    · rename_i c1 c2
      refine ⟨Or.inr rfl, ?_, fun _ => ⟨hs, v2, v1, ?_⟩, fun z => absurd (show (1 : Int) = 0 from z) (by decide)⟩
      · simp only
        split
        · rename_i c3
          have := o3 c3
          omega
        · omega
      · simp only
        split
        · rename_i c3
          have := o3 c3
          omega
        · omega
theorem okB_N {A B : Rw} {lap : Int} (hA : 0 ≤ A.2.1 ∧ A.2.1 ≤ 924) (hB : 0 ≤ B.2.1 ∧ B.2.1 ≤ 30) : ∀ k : Nat, (k : Int) ≤ A.2.1 + B.2.1 → okB (bstN A B lap k)
  | 0, _ => okB_0
  | k + 1, h => okB_S hA ⟨by omega, by omega⟩ (okB_N hA hB k (by omega))
theorem okB_best {A B : Rw} {lap : Int} (hA : 0 ≤ A.2.1 ∧ A.2.1 ≤ 924) (hB : 0 ≤ B.2.1 ∧ B.2.1 ≤ 30) : okB (best A B lap) := okB_N hA hB _ (by omega)
set_option maxHeartbeats 4000000 in
set_option maxRecDepth 20000 in
theorem Finding_seek_ok {f r1 c1 r2 c2 : Nat} {A B : Rw} {lap : Int} {M : Mm} (hf : isFnd f) (h1 : isRow r1 c1) (h2 : isRow r2 c2) (f1 : finR M r1 c1 A) (f2 : finR M r2 c2 B) (hB : fullR B) (hB2 : B.2.1 ≤ 30) (s1 : f + 2 ≤ r1 ∨ r1 + 7 ≤ f) (s2 : f + 2 ≤ r2 ∨ r2 + 7 ≤ f) (hl : 1 ≤ lap ∧ lap ≤ 100) :
    CallV m_Finding_seek [.inr f, .inr r1, .inr r2, .inl lap] M (fun M' => fndIs M' f (best A B lap) ∧ Fr f (f + 2) M M') := by
  obtain ⟨l0, l1⟩ := id hf
  have l2 : lay (f + 1) = .inr (.inl (7, [none, none, none, none])) := l1
  have r0 := h1.1
  have q0 := h2.1
  have b1 := f1.2.1
  have b2 := f2.2.1
  have b3 := f1.2.2.1
  have b4 := f2.2.2.1
  have hA : 0 ≤ A.2.1 ∧ A.2.1 ≤ 924 := by omega
  have fr1 : ∀ {M1}, Fr f (f + 2) M M1 → finR M1 r1 c1 A := fun h => finR_cells (fun b p1 p2 j => h b (by omega) j) f1
  have fr2 : ∀ {M1}, Fr f (f + 2) M M1 → finR M1 r2 c2 B := fun h => finR_cells (fun b p1 p2 j => h b (by omega) j) f2
  have F0 : Fr f (f + 2) M (mset (mset M f 1 0) f 5 (-1)) := (Fr.rf.st (by omega) (by omega)).st (by omega) (by omega)
  have g2 : mset (mset M f 1 0) f 5 (-1) r2 7 = B.2.1 := (fr2 F0).1
  refine callP_of (by decide) (by decide) (Nat.le_of_ble_eq_true rfl) (wpm_of (cuts := [18]) (by decide) 50 _ _ _ _ ?_)
  rw [show lM m_Finding_seek = 5 from rfl]
  simp (maxSteps := 2000000) only [↓reduceIte, wp_eq, wpd_eq, kont_eq, STP1, STP2, STP3, STP4, STP5, konM_eq, AMK, CZ, Option.map, List.getElem?_cons_zero, List.getElem?_cons_succ, List.mem_cons, List.not_mem_nil, if_false, if_true, Nat.reduceAdd, Nat.reduceLT, Nat.reduceLeDiff, Nat.reduceEqDiff, true_and, and_true, List.length_nil, List.length_cons, or_true, true_or, or_false, false_or, Option.some.injEq, Sum.inl.injEq, Sum.inr.injEq, exists_eq_left', exists_eq_left, Int.reduceLE, Int.reduceLT, Int.reduceNeg, Int.reduceAdd, Int.reduceMul, Int.reduceSub, Int.reduceToNat, inR, Nat.zero_ne_one, false_and, Nat.succ_ne_zero, reduceCtorEq, false_implies, true_implies, not_false_eq_true, not_true_eq_false, Int.reduceEq, KRE, C_Finding_seek, l0, r0, q0, g2]
  refine loopQ (A.2.1 - (1 - B.2.1)).toNat (fun k ls M1 => fndIs M1 f (bstN A B lap k) ∧ Fr f (f + 2) M M1 ∧ ls = [some (.inr f), some (.inr r1), some (.inr r2), some (.inl lap), some (.inl (1 - B.2.1 + k))]) ?_ _ _ ⟨?_, F0, by simp⟩
  · rintro k _ M1 hk ⟨hi, hF, rfl⟩ K
    have e1 : M1 r1 7 = A.2.1 := (fr1 hF).1
    refine wpm_of (cuts := [18]) (by decide) 100 _ _ _ _ ?_
    simp (maxSteps := 2000000) only [↓reduceIte, wp_eq, wpd_eq, kont_eq, STP1, STP2, STP3, STP4, STP5, konM_eq, AMK, CZ, Option.map, List.getElem?_cons_zero, List.getElem?_cons_succ, List.mem_cons, List.not_mem_nil, if_false, if_true, Nat.reduceAdd, Nat.reduceLT, Nat.reduceLeDiff, Nat.reduceEqDiff, true_and, and_true, List.length_nil, List.length_cons, or_true, true_or, or_false, false_or, Option.some.injEq, Sum.inl.injEq, Sum.inr.injEq, exists_eq_left', exists_eq_left, Int.reduceLE, Int.reduceLT, Int.reduceNeg, Int.reduceAdd, Int.reduceMul, Int.reduceSub, Int.reduceToNat, inR, Nat.zero_ne_one, false_and, Nat.succ_ne_zero, reduceCtorEq, false_implies, true_implies, not_false_eq_true, not_true_eq_false, Int.reduceEq, KRE, C_Finding_seek, l0, l2, r0, q0, e1]
    refine ⟨by omega, by omega, fun z => ⟨?_, hF⟩, fun z => ?_⟩
    · rw [best, ← show k = (A.2.1 - (1 - B.2.1)).toNat by omega]
      exact hi
    · refine (Finding_countPairs_ok h1 h2 (fr1 hF) (fr2 hF) hB ⟨by omega, by omega⟩).eq ?_
      have v1 := slP_in (B := B) (s := 1 - B.2.1 + k) hA
      refine ⟨by omega, by omega, fun c => ?_, fun c => ?_⟩
      · refine K (by omega) _ _ ⟨?_, hF, by rw [natI, Int.add_assoc]⟩
        rw [bstN, bstS, if_pos c]
        exact hi
      · refine (Slide_measure_ok (x := 1 - B.2.1 + k) l1 h1 h2 (fr1 hF) (fr2 hF) ⟨by omega, by omega⟩).eq ?_
        have F2 : Fr (f + 1) (f + 2) M1 (mSl M1 (f + 1) A B (1 - B.2.1 + k)) := (((Fr.rf.st (by omega) (by omega)).st (by omega) (by omega)).st (by omega) (by omega)).st (by omega) (by omega)
        have hi2 : fndIs (mSl M1 (f + 1) A B (1 - B.2.1 + k)) f (bstN A B lap k) := by
          have e := F2 f (by omega)
          unfold fndIs
          rw [e, e, e, e, e]
          exact hi
        refine (Finding_weigh_ok (A := A) (B := B) (s := 1 - B.2.1 + k) (lap := lap) hf (okB_N hA ⟨by omega, hB2⟩ k (by omega)) hi2 hA (by omega) ⟨?_, ?_⟩).mono (fun M3 z3 => ?_)
        · simp [mSl, mset]
        · simp [mSl, mset]
        · exact K (by omega) _ _ ⟨z3.1, (hF.tr (F2.wd (by omega) (by omega))).tr (z3.2.wd (by omega) (by omega)), by rw [natI, Int.add_assoc]⟩
  · refine ⟨?_, ?_, fun z => absurd rfl z⟩ <;> simp [mset, bstN]
set_option maxHeartbeats 4000000 in
set_option maxRecDepth 20000 in
theorem Finding_whyNotSure_ok {f : Nat} {b m : Int} {x : Bst} {M : Mm} (hf : isFnd f) (hx : okB x) (hi : fndIs M f x) (hb : 0 ≤ b ∧ b ≤ 1000) (hm : 0 ≤ m ∧ m ≤ 1000) : CallI m_Finding_whyNotSure [.inr f, .inl b, .inl m] M (fun y M' => y = why x b m ∧ M' = M) := by
  obtain ⟨l0, l1⟩ := hf
  obtain ⟨x1, x2, x3, x4, x5⟩ := x
  obtain ⟨i1, i2, i3⟩ := hi
  obtain ⟨o1, o2, o3, o4⟩ := hx
  simp only at i1 i2 i3 o1 o2 o3 o4
  refine callP_of (by decide) (by decide) (Nat.le_of_ble_eq_true rfl) (wpm_of (cuts := []) (by decide) 50 _ _ _ _ ?_)
  rw [show lM m_Finding_whyNotSure = 3 from rfl]
  simp (maxSteps := 2000000) only [↓reduceIte, wp_eq, wpd_eq, kont_eq, STP1, STP2, STP3, STP4, STP5, konM_eq, AMK, CZ, Option.map, List.getElem?_cons_zero, List.getElem?_cons_succ, List.mem_cons, List.not_mem_nil, if_false, if_true, Nat.reduceAdd, Nat.reduceLT, Nat.reduceLeDiff, Nat.reduceEqDiff, true_and, and_true, List.length_nil, List.length_cons, or_true, true_or, or_false, false_or, Option.some.injEq, Sum.inl.injEq, Sum.inr.injEq, exists_eq_left', exists_eq_left, Int.reduceLE, Int.reduceLT, Int.reduceNeg, Int.reduceAdd, Int.reduceMul, Int.reduceSub, Int.reduceToNat, inR, Nat.zero_ne_one, false_and, Nat.succ_ne_zero, reduceCtorEq, false_implies, true_implies, not_false_eq_true, not_true_eq_false, Int.reduceEq, KRE, C_Finding_whyNotSure, l0, i1, i2]
  simp only [why]
  grind

/-! STOCK. -/
def tims (s : Nat) : List Nat := (List.range 8).map (fun t => s + 6 + 3 * t)
theorem tims_len (s : Nat) : (tims s).length = 8 := by simp [tims]
theorem tims_at {s i : Nat} (h : i < 8) : (tims s).getD i 0 = s + 6 + 3 * i := by
  simp [tims, List.getD_eq_getElem?_getD, List.getElem?_range h]
def isStk (s : Nat) : Prop := lay s = .inr (.inl (8, [some (s + 1), some (s + 2), some (s + 5), none, none, none, none])) ∧ lay (s + 1) = .inr (.inr (2, tims s)) ∧ lay (s + 5) = .inl (0, 8) ∧ isTim (s + 2) ∧ ∀ t, t < 8 → isTim (s + 6 + 3 * t)
def wfS (M : Mm) (s : Nat) : Prop := (0 ≤ M s 3 ∧ M s 3 ≤ 8) ∧ (50 ≤ M s 4 ∧ M s 4 ≤ 100) ∧ (3 ≤ M s 5 ∧ M s 5 ≤ 24) ∧ (0 ≤ M s 6 ∧ M s 6 ≤ 50) ∧ (∀ t, t < 8 → wfT M (s + 6 + 3 * t)) ∧ wfT M (s + 2) ∧ (∀ t, t < 8 → -1 ≤ M (s + 5) t ∧ M (s + 5) t ≤ 900)
/-- the timber at t -/
def tmA (M : Mm) (s : Nat) (t : Int) : Nat := if 0 ≤ t ∧ t < M s 3 then s + 6 + 3 * t.toNat else s + 2
def yrA (M : Mm) (s : Nat) (t : Int) : Int := if 0 ≤ t ∧ t < M s 3 then M (s + 5) t.toNat else -1
theorem isStk_3 : isStk 3 := ⟨rfl, rfl, rfl, ⟨rfl, rfl, rfl⟩, fun t ht => by
  match t, ht with
  | 0, _ => exact ⟨rfl, rfl, rfl⟩
  | 1, _ => exact ⟨rfl, rfl, rfl⟩
  | 2, _ => exact ⟨rfl, rfl, rfl⟩
  | 3, _ => exact ⟨rfl, rfl, rfl⟩
  | 4, _ => exact ⟨rfl, rfl, rfl⟩
  | 5, _ => exact ⟨rfl, rfl, rfl⟩
  | 6, _ => exact ⟨rfl, rfl, rfl⟩
  | 7, _ => exact ⟨rfl, rfl, rfl⟩⟩
theorem isStk_76 : isStk 76 := ⟨rfl, rfl, rfl, ⟨rfl, rfl, rfl⟩, fun t ht => by
  match t, ht with
  | 0, _ => exact ⟨rfl, rfl, rfl⟩
  | 1, _ => exact ⟨rfl, rfl, rfl⟩
  | 2, _ => exact ⟨rfl, rfl, rfl⟩
  | 3, _ => exact ⟨rfl, rfl, rfl⟩
  | 4, _ => exact ⟨rfl, rfl, rfl⟩
  | 5, _ => exact ⟨rfl, rfl, rfl⟩
  | 6, _ => exact ⟨rfl, rfl, rfl⟩
  | 7, _ => exact ⟨rfl, rfl, rfl⟩⟩
theorem isStk_115 : isStk 115 := ⟨rfl, rfl, rfl, ⟨rfl, rfl, rfl⟩, fun t ht => by
  match t, ht with
  | 0, _ => exact ⟨rfl, rfl, rfl⟩
  | 1, _ => exact ⟨rfl, rfl, rfl⟩
  | 2, _ => exact ⟨rfl, rfl, rfl⟩
  | 3, _ => exact ⟨rfl, rfl, rfl⟩
  | 4, _ => exact ⟨rfl, rfl, rfl⟩
  | 5, _ => exact ⟨rfl, rfl, rfl⟩
  | 6, _ => exact ⟨rfl, rfl, rfl⟩
  | 7, _ => exact ⟨rfl, rfl, rfl⟩⟩
theorem tmA_tim {M : Mm} {s : Nat} {t : Int} (hs : isStk s) (hw : wfS M s) : isTim (tmA M s t) ∧ wfT M (tmA M s t) := by
  unfold tmA
  split
  · exact ⟨hs.2.2.2.2 _ (by have := hw.1; omega), hw.2.2.2.2.1 _ (by have := hw.1; omega)⟩
  · exact ⟨hs.2.2.2.1, hw.2.2.2.2.2.1⟩
theorem yrA_in {M : Mm} {s : Nat} {t : Int} (hw : wfS M s) : -1 ≤ yrA M s t ∧ yrA M s t ≤ 900 := by
  unfold yrA
  split
  · exact hw.2.2.2.2.2.2 _ (by have := hw.1; omega)
  · omega
theorem tmA_k {M : Mm} {s k : Nat} (h : (k : Int) < M s 3) : tmA M s k = s + 6 + 3 * k := if_pos ⟨by omega, h⟩
theorem yrA_k {M : Mm} {s k : Nat} (h : (k : Int) < M s 3) : yrA M s k = M (s + 5) k := if_pos ⟨by omega, h⟩
set_option maxHeartbeats 4000000 in
set_option maxRecDepth 20000 in
theorem Stock_has_ok {s : Nat} {t : Int} {M : Mm} (hs : isStk s) (ht : inR t) (hw : wfS M s) : CallI m_Stock_has [.inr s, .inl t] M (fun x M' => x = (if 0 ≤ t ∧ t < M s 3 then 1 else 0) ∧ M' = M) := by
  have l0 := hs.1
  have w0 := hw.1
  refine callP_of (by decide) (by decide) (Nat.le_of_ble_eq_true rfl) (wpm_of (cuts := []) (by decide) 50 _ _ _ _ ?_)
  rw [show lM m_Stock_has = 2 from rfl]
  simp (maxSteps := 2000000) only [↓reduceIte, wp_eq, wpd_eq, kont_eq, STP1, STP2, STP3, STP4, STP5, konM_eq, AMK, CZ, Option.map, List.getElem?_cons_zero, List.getElem?_cons_succ, List.mem_cons, List.not_mem_nil, if_false, if_true, Nat.reduceAdd, Nat.reduceLT, Nat.reduceLeDiff, Nat.reduceEqDiff, true_and, and_true, List.length_nil, List.length_cons, or_true, true_or, or_false, false_or, Option.some.injEq, Sum.inl.injEq, Sum.inr.injEq, exists_eq_left', exists_eq_left, Int.reduceLE, Int.reduceLT, Int.reduceNeg, Int.reduceAdd, Int.reduceMul, Int.reduceSub, Int.reduceToNat, inR, Nat.zero_ne_one, false_and, Nat.succ_ne_zero, reduceCtorEq, false_implies, true_implies, not_false_eq_true, not_true_eq_false, Int.reduceEq, KRE, C_Stock_has, l0]
  simp only [inR] at *
  grind
set_option maxHeartbeats 4000000 in
set_option maxRecDepth 20000 in
theorem Stock_timberAt_ok {s : Nat} {t : Int} {M : Mm} (hs : isStk s) (ht : inR t) (hw : wfS M s) : CallR m_Stock_timberAt [.inr s, .inl t] M (fun x M' => x = tmA M s t ∧ M' = M) := by
  obtain ⟨l0, l1, l2, l3, l4⟩ := id hs
  have w0 := hw.1
  refine callP_of (by decide) (by decide) (Nat.le_of_ble_eq_true rfl) (wpm_of (cuts := []) (by decide) 50 _ _ _ _ ?_)
  rw [show lM m_Stock_timberAt = 2 from rfl]
  simp (maxSteps := 2000000) only [↓reduceIte, wp_eq, wpd_eq, kont_eq, STP1, STP2, STP3, STP4, STP5, konM_eq, AMK, CZ, Option.map, List.getElem?_cons_zero, List.getElem?_cons_succ, List.mem_cons, List.not_mem_nil, if_false, if_true, Nat.reduceAdd, Nat.reduceLT, Nat.reduceLeDiff, Nat.reduceEqDiff, true_and, and_true, List.length_nil, List.length_cons, or_true, true_or, or_false, false_or, Option.some.injEq, Sum.inl.injEq, Sum.inr.injEq, exists_eq_left', exists_eq_left, Int.reduceLE, Int.reduceLT, Int.reduceNeg, Int.reduceAdd, Int.reduceMul, Int.reduceSub, Int.reduceToNat, inR, Nat.zero_ne_one, false_and, Nat.succ_ne_zero, reduceCtorEq, false_implies, true_implies, not_false_eq_true, not_true_eq_false, Int.reduceEq, KRE, C_Stock_timberAt, l0, l1, tims_len]
  refine (Stock_has_ok hs ht hw).eq ?_
  by_cases h : 0 ≤ t ∧ t < M s 3
  · simp only [h, and_self, if_true]
    have e : (tims s).getD t.toNat 0 = tmA M s t := by rw [tims_at (by omega), tmA, if_pos h]
    have b1 := h.1
    have b2 : t < 8 := by omega
    rw [e]
    simp [b1, b2]
  · simp only [h, if_false]
    have e : s + 2 = tmA M s t := by rw [tmA, if_neg h]
    simp [e]
set_option maxHeartbeats 4000000 in
set_option maxRecDepth 20000 in
theorem Stock_yearOf_ok {s : Nat} {t : Int} {M : Mm} (hs : isStk s) (ht : inR t) (hw : wfS M s) : CallI m_Stock_yearOf [.inr s, .inl t] M (fun x M' => x = yrA M s t ∧ M' = M) := by
  obtain ⟨l0, l1, l2, l3, l4⟩ := id hs
  have w0 := hw.1
  have w6 := hw.2.2.2.2.2.2 t.toNat
  refine callP_of (by decide) (by decide) (Nat.le_of_ble_eq_true rfl) (wpm_of (cuts := []) (by decide) 50 _ _ _ _ ?_)
  rw [show lM m_Stock_yearOf = 2 from rfl]
  simp (maxSteps := 2000000) only [↓reduceIte, wp_eq, wpd_eq, kont_eq, STP1, STP2, STP3, STP4, STP5, konM_eq, AMK, CZ, Option.map, List.getElem?_cons_zero, List.getElem?_cons_succ, List.mem_cons, List.not_mem_nil, if_false, if_true, Nat.reduceAdd, Nat.reduceLT, Nat.reduceLeDiff, Nat.reduceEqDiff, true_and, and_true, List.length_nil, List.length_cons, or_true, true_or, or_false, false_or, Option.some.injEq, Sum.inl.injEq, Sum.inr.injEq, exists_eq_left', exists_eq_left, Int.reduceLE, Int.reduceLT, Int.reduceNeg, Int.reduceAdd, Int.reduceMul, Int.reduceSub, Int.reduceToNat, inR, Nat.zero_ne_one, false_and, Nat.succ_ne_zero, reduceCtorEq, false_implies, true_implies, not_false_eq_true, not_true_eq_false, Int.reduceEq, KRE, C_Stock_yearOf, l0, l2]
  simp only [inR, yrA] at *
  grind
set_option maxHeartbeats 4000000 in
set_option maxRecDepth 20000 in
theorem Stock_isDated_ok {s : Nat} {t : Int} {M : Mm} (hs : isStk s) (ht : inR t) (hw : wfS M s) : CallI m_Stock_isDated [.inr s, .inl t] M (fun x M' => x = (if yrA M s t ≠ -1 then 1 else 0) ∧ M' = M) := by
  obtain ⟨l0, l1, l2, l3, l4⟩ := id hs
  have w0 := yrA_in (t := t) hw
  refine callP_of (by decide) (by decide) (Nat.le_of_ble_eq_true rfl) (wpm_of (cuts := []) (by decide) 50 _ _ _ _ ?_)
  rw [show lM m_Stock_isDated = 2 from rfl]
  simp (maxSteps := 2000000) only [↓reduceIte, wp_eq, wpd_eq, kont_eq, STP1, STP2, STP3, STP4, STP5, konM_eq, AMK, CZ, Option.map, List.getElem?_cons_zero, List.getElem?_cons_succ, List.mem_cons, List.not_mem_nil, if_false, if_true, Nat.reduceAdd, Nat.reduceLT, Nat.reduceLeDiff, Nat.reduceEqDiff, true_and, and_true, List.length_nil, List.length_cons, or_true, true_or, or_false, false_or, Option.some.injEq, Sum.inl.injEq, Sum.inr.injEq, exists_eq_left', exists_eq_left, Int.reduceLE, Int.reduceLT, Int.reduceNeg, Int.reduceAdd, Int.reduceMul, Int.reduceSub, Int.reduceToNat, inR, Nat.zero_ne_one, false_and, Nat.succ_ne_zero, reduceCtorEq, false_implies, true_implies, not_false_eq_true, not_true_eq_false, Int.reduceEq, KRE, C_Stock_isDated, l0, l2]
  refine (Stock_yearOf_ok hs ht hw).eq ?_
  grind
set_option maxHeartbeats 4000000 in
set_option maxRecDepth 20000 in
theorem Stock_setYear_ok {s : Nat} {t y : Int} {M : Mm} (hs : isStk s) (ht : inR t) (hw : wfS M s) : CallV m_Stock_setYear [.inr s, .inl t, .inl y] M (fun M' => M' = if 0 ≤ t ∧ t < M s 3 then mset M (s + 5) t.toNat y else M) := by
  obtain ⟨l0, l1, l2, l3, l4⟩ := id hs
  have w0 := hw.1
  refine callP_of (by decide) (by decide) (Nat.le_of_ble_eq_true rfl) (wpm_of (cuts := []) (by decide) 50 _ _ _ _ ?_)
  rw [show lM m_Stock_setYear = 3 from rfl]
  simp (maxSteps := 2000000) only [↓reduceIte, wp_eq, wpd_eq, kont_eq, STP1, STP2, STP3, STP4, STP5, konM_eq, AMK, CZ, Option.map, List.getElem?_cons_zero, List.getElem?_cons_succ, List.mem_cons, List.not_mem_nil, if_false, if_true, Nat.reduceAdd, Nat.reduceLT, Nat.reduceLeDiff, Nat.reduceEqDiff, true_and, and_true, List.length_nil, List.length_cons, or_true, true_or, or_false, false_or, Option.some.injEq, Sum.inl.injEq, Sum.inr.injEq, exists_eq_left', exists_eq_left, Int.reduceLE, Int.reduceLT, Int.reduceNeg, Int.reduceAdd, Int.reduceMul, Int.reduceSub, Int.reduceToNat, inR, Nat.zero_ne_one, false_and, Nat.succ_ne_zero, reduceCtorEq, false_implies, true_implies, not_false_eq_true, not_true_eq_false, Int.reduceEq, KRE, C_Stock_setYear, l0, l2]
  refine (Stock_has_ok hs ht hw).eq ?_
  by_cases h : 0 ≤ t ∧ t < M s 3
  · simp [h, and_self, if_true]
    omega
  · simp [h]
set_option maxHeartbeats 4000000 in
set_option maxRecDepth 20000 in
theorem Stock_hasRingIn_ok {s : Nat} {t y : Int} {M : Mm} (hs : isStk s) (ht : inR t) (hy : inR y) (hw : wfS M s) : CallI m_Stock_hasRingIn [.inr s, .inl t, .inl y] M (fun x M' => x = (if yrA M s t ≠ -1 ∧ yrA M s t ≤ y ∧ y < yrA M s t + M (tmA M s t) 2 then 1 else 0) ∧ M' = M) := by
  obtain ⟨l0, l1, l2, l3, l4⟩ := id hs
  have w0 := yrA_in (t := t) hw
  obtain ⟨q1, q2⟩ := tmA_tim (t := t) hs hw
  have q3 := q2.1
  simp only [inR] at hy
  refine callP_of (by decide) (by decide) (Nat.le_of_ble_eq_true rfl) (wpm_of (cuts := []) (by decide) 50 _ _ _ _ ?_)
  rw [show lM m_Stock_hasRingIn = 4 from rfl]
  simp (maxSteps := 2000000) only [↓reduceIte, wp_eq, wpd_eq, kont_eq, STP1, STP2, STP3, STP4, STP5, konM_eq, AMK, CZ, Option.map, List.getElem?_cons_zero, List.getElem?_cons_succ, List.mem_cons, List.not_mem_nil, if_false, if_true, Nat.reduceAdd, Nat.reduceLT, Nat.reduceLeDiff, Nat.reduceEqDiff, true_and, and_true, List.length_nil, List.length_cons, or_true, true_or, or_false, false_or, Option.some.injEq, Sum.inl.injEq, Sum.inr.injEq, exists_eq_left', exists_eq_left, Int.reduceLE, Int.reduceLT, Int.reduceNeg, Int.reduceAdd, Int.reduceMul, Int.reduceSub, Int.reduceToNat, inR, Nat.zero_ne_one, false_and, Nat.succ_ne_zero, reduceCtorEq, false_implies, true_implies, not_false_eq_true, not_true_eq_false, Int.reduceEq, KRE, C_Stock_hasRingIn, l0, l2]
  refine (Stock_yearOf_ok hs ht hw).eq ?_
  by_cases h1 : yrA M s t = -1
  · simp [h1]
  · by_cases h2 : y < yrA M s t
    · have h3 : ¬ yrA M s t ≤ y := by omega
      simp only [h1, h2, h3, not_true_eq_false, not_false_eq_true, true_implies, false_implies, and_true, true_and, false_and, and_false, if_false]
      omega
    · simp only [h1, h2, not_true_eq_false, not_false_eq_true, true_implies, false_implies, and_true, true_and]
      refine ⟨by omega, by omega, by omega, ?_⟩
      refine (Stock_timberAt_ok hs ht hw).eq ?_
      simp (maxSteps := 2000000) only [↓reduceIte, wp_eq, wpd_eq, kont_eq, STP1, STP2, STP3, STP4, STP5, konM_eq, AMK, CZ, Option.map, List.getElem?_cons_zero, List.getElem?_cons_succ, List.mem_cons, List.not_mem_nil, if_false, if_true, Nat.reduceAdd, Nat.reduceLT, Nat.reduceLeDiff, Nat.reduceEqDiff, true_and, and_true, List.length_nil, List.length_cons, or_true, true_or, or_false, false_or, Option.some.injEq, Sum.inl.injEq, Sum.inr.injEq, exists_eq_left', exists_eq_left, Int.reduceLE, Int.reduceLT, Int.reduceNeg, Int.reduceAdd, Int.reduceMul, Int.reduceSub, Int.reduceToNat, inR, Nat.zero_ne_one, false_and, Nat.succ_ne_zero, reduceCtorEq, false_implies, true_implies, not_false_eq_true, not_true_eq_false, Int.reduceEq, KRE, C_Stock_hasRingIn, q1.1]
      grind
set_option maxHeartbeats 4000000 in
set_option maxRecDepth 20000 in
theorem Stock_felledFrom_ok {s : Nat} {t : Int} {M : Mm} (hs : isStk s) (ht : inR t) (hw : wfS M s) : CallI m_Stock_felledFrom [.inr s, .inl t] M (fun x M' => x = yrA M s t + M (tmA M s t) 2 - 1 + M (tmA M s t) 3 ∧ M' = M) := by
  obtain ⟨l0, l1, l2, l3, l4⟩ := id hs
  obtain ⟨q1, q2⟩ := tmA_tim (t := t) hs hw
  refine callP_of (by decide) (by decide) (Nat.le_of_ble_eq_true rfl) (wpm_of (cuts := []) (by decide) 50 _ _ _ _ ?_)
  rw [show lM m_Stock_felledFrom = 3 from rfl]
  simp (maxSteps := 2000000) only [↓reduceIte, wp_eq, wpd_eq, kont_eq, STP1, STP2, STP3, STP4, STP5, konM_eq, AMK, CZ, Option.map, List.getElem?_cons_zero, List.getElem?_cons_succ, List.mem_cons, List.not_mem_nil, if_false, if_true, Nat.reduceAdd, Nat.reduceLT, Nat.reduceLeDiff, Nat.reduceEqDiff, true_and, and_true, List.length_nil, List.length_cons, or_true, true_or, or_false, false_or, Option.some.injEq, Sum.inl.injEq, Sum.inr.injEq, exists_eq_left', exists_eq_left, Int.reduceLE, Int.reduceLT, Int.reduceNeg, Int.reduceAdd, Int.reduceMul, Int.reduceSub, Int.reduceToNat, inR, Nat.zero_ne_one, false_and, Nat.succ_ne_zero, reduceCtorEq, false_implies, true_implies, not_false_eq_true, not_true_eq_false, Int.reduceEq, KRE, C_Stock_felledFrom, l0, l2]
  refine (Stock_timberAt_ok hs ht hw).eq ?_
  refine (Stock_yearOf_ok hs ht hw).eq ?_
  simp (maxSteps := 2000000) only [↓reduceIte, wp_eq, wpd_eq, kont_eq, STP1, STP2, STP3, STP4, STP5, konM_eq, AMK, CZ, Option.map, List.getElem?_cons_zero, List.getElem?_cons_succ, List.mem_cons, List.not_mem_nil, if_false, if_true, Nat.reduceAdd, Nat.reduceLT, Nat.reduceLeDiff, Nat.reduceEqDiff, true_and, and_true, List.length_nil, List.length_cons, or_true, true_or, or_false, false_or, Option.some.injEq, Sum.inl.injEq, Sum.inr.injEq, exists_eq_left', exists_eq_left, Int.reduceLE, Int.reduceLT, Int.reduceNeg, Int.reduceAdd, Int.reduceMul, Int.reduceSub, Int.reduceToNat, inR, Nat.zero_ne_one, false_and, Nat.succ_ne_zero, reduceCtorEq, false_implies, true_implies, not_false_eq_true, not_true_eq_false, Int.reduceEq, KRE, C_Stock_felledFrom, q1.1]
set_option maxHeartbeats 4000000 in
set_option maxRecDepth 20000 in
theorem Stock_felledUntil_ok {s : Nat} {t : Int} {M : Mm} (hs : isStk s) (ht : inR t) (hw : wfS M s) : CallI m_Stock_felledUntil [.inr s, .inl t] M (fun x M' => x = yrA M s t + M (tmA M s t) 2 - 1 + M (tmA M s t) 4 ∧ M' = M) := by
  obtain ⟨l0, l1, l2, l3, l4⟩ := id hs
  obtain ⟨q1, q2⟩ := tmA_tim (t := t) hs hw
  refine callP_of (by decide) (by decide) (Nat.le_of_ble_eq_true rfl) (wpm_of (cuts := []) (by decide) 50 _ _ _ _ ?_)
  rw [show lM m_Stock_felledUntil = 3 from rfl]
  simp (maxSteps := 2000000) only [↓reduceIte, wp_eq, wpd_eq, kont_eq, STP1, STP2, STP3, STP4, STP5, konM_eq, AMK, CZ, Option.map, List.getElem?_cons_zero, List.getElem?_cons_succ, List.mem_cons, List.not_mem_nil, if_false, if_true, Nat.reduceAdd, Nat.reduceLT, Nat.reduceLeDiff, Nat.reduceEqDiff, true_and, and_true, List.length_nil, List.length_cons, or_true, true_or, or_false, false_or, Option.some.injEq, Sum.inl.injEq, Sum.inr.injEq, exists_eq_left', exists_eq_left, Int.reduceLE, Int.reduceLT, Int.reduceNeg, Int.reduceAdd, Int.reduceMul, Int.reduceSub, Int.reduceToNat, inR, Nat.zero_ne_one, false_and, Nat.succ_ne_zero, reduceCtorEq, false_implies, true_implies, not_false_eq_true, not_true_eq_false, Int.reduceEq, KRE, C_Stock_felledUntil, l0, l2]
  refine (Stock_timberAt_ok hs ht hw).eq ?_
  refine (Stock_yearOf_ok hs ht hw).eq ?_
  simp (maxSteps := 2000000) only [↓reduceIte, wp_eq, wpd_eq, kont_eq, STP1, STP2, STP3, STP4, STP5, konM_eq, AMK, CZ, Option.map, List.getElem?_cons_zero, List.getElem?_cons_succ, List.mem_cons, List.not_mem_nil, if_false, if_true, Nat.reduceAdd, Nat.reduceLT, Nat.reduceLeDiff, Nat.reduceEqDiff, true_and, and_true, List.length_nil, List.length_cons, or_true, true_or, or_false, false_or, Option.some.injEq, Sum.inl.injEq, Sum.inr.injEq, exists_eq_left', exists_eq_left, Int.reduceLE, Int.reduceLT, Int.reduceNeg, Int.reduceAdd, Int.reduceMul, Int.reduceSub, Int.reduceToNat, inR, Nat.zero_ne_one, false_and, Nat.succ_ne_zero, reduceCtorEq, false_implies, true_implies, not_false_eq_true, not_true_eq_false, Int.reduceEq, KRE, C_Stock_felledUntil, q1.1]
set_option maxHeartbeats 4000000 in
set_option maxRecDepth 20000 in
theorem Stock_isDatedIn_ok {s : Nat} {t h : Int} {M : Mm} (hs : isStk s) (ht : inR t) (hh : inR h) (hw : wfS M s) : CallI m_Stock_isDatedIn [.inr s, .inl t, .inl h] M (fun x M' => x = (if yrA M s t ≠ -1 ∧ M (tmA M s t) 5 = h then 1 else 0) ∧ M' = M) := by
  obtain ⟨l0, l1, l2, l3, l4⟩ := id hs
  obtain ⟨q1, q2⟩ := tmA_tim (t := t) hs hw
  have q3 := q2.2.2.2.2.2
  simp only [inR] at hh
  refine callP_of (by decide) (by decide) (Nat.le_of_ble_eq_true rfl) (wpm_of (cuts := []) (by decide) 50 _ _ _ _ ?_)
  rw [show lM m_Stock_isDatedIn = 3 from rfl]
  simp (maxSteps := 2000000) only [↓reduceIte, wp_eq, wpd_eq, kont_eq, STP1, STP2, STP3, STP4, STP5, konM_eq, AMK, CZ, Option.map, List.getElem?_cons_zero, List.getElem?_cons_succ, List.mem_cons, List.not_mem_nil, if_false, if_true, Nat.reduceAdd, Nat.reduceLT, Nat.reduceLeDiff, Nat.reduceEqDiff, true_and, and_true, List.length_nil, List.length_cons, or_true, true_or, or_false, false_or, Option.some.injEq, Sum.inl.injEq, Sum.inr.injEq, exists_eq_left', exists_eq_left, Int.reduceLE, Int.reduceLT, Int.reduceNeg, Int.reduceAdd, Int.reduceMul, Int.reduceSub, Int.reduceToNat, inR, Nat.zero_ne_one, false_and, Nat.succ_ne_zero, reduceCtorEq, false_implies, true_implies, not_false_eq_true, not_true_eq_false, Int.reduceEq, KRE, C_Stock_isDatedIn, l0, l2]
  refine (Stock_isDated_ok hs ht hw).eq ?_
  by_cases h1 : yrA M s t = -1
  · simp [h1]
  · simp only [h1, ne_eq, not_false_eq_true, if_true, true_and, Int.reduceEq, false_implies, true_implies]
    refine ⟨by omega, ?_⟩
    refine (Stock_timberAt_ok hs ht hw).eq ?_
    simp (maxSteps := 2000000) only [↓reduceIte, wp_eq, wpd_eq, kont_eq, STP1, STP2, STP3, STP4, STP5, konM_eq, AMK, CZ, Option.map, List.getElem?_cons_zero, List.getElem?_cons_succ, List.mem_cons, List.not_mem_nil, if_false, if_true, Nat.reduceAdd, Nat.reduceLT, Nat.reduceLeDiff, Nat.reduceEqDiff, true_and, and_true, List.length_nil, List.length_cons, or_true, true_or, or_false, false_or, Option.some.injEq, Sum.inl.injEq, Sum.inr.injEq, exists_eq_left', exists_eq_left, Int.reduceLE, Int.reduceLT, Int.reduceNeg, Int.reduceAdd, Int.reduceMul, Int.reduceSub, Int.reduceToNat, inR, Nat.zero_ne_one, false_and, Nat.succ_ne_zero, reduceCtorEq, false_implies, true_implies, not_false_eq_true, not_true_eq_false, Int.reduceEq, KRE, C_Stock_isDatedIn, q1.1]
    grind
/-! spec: a stock's timbers by n (how many), Y (years), N (rings), L, U (least, most), H (houses) -/
def fBit (p : Nat → Prop) [DecidablePred p] (n : Nat) : Int := foldN (fun t b => bOr b (if p t then bShl 1 t else 0)) 0 n
theorem fBit_succ {p : Nat → Prop} [DecidablePred p] {n : Nat} : fBit p (n + 1) = bOr (fBit p n) (if p n then bShl 1 n else 0) := rfl
def fMaxF (p : Nat → Prop) [DecidablePred p] (f : Nat → Int) (n : Nat) : Int := foldN (fun t b => if p t then max b (f t) else b) (-1) n
def fMinF (p : Nat → Prop) [DecidablePred p] (f : Nat → Int) (n : Nat) : Int := foldN (fun t b => if p t ∧ (b = -1 ∨ f t < b) then f t else b) (-1) n
theorem fMaxF_in {p : Nat → Prop} [DecidablePred p] {f : Nat → Int} {c : Int} (hc : -1 ≤ c) : ∀ {n : Nat}, (∀ t, t < n → f t ≤ c) → -1 ≤ fMaxF p f n ∧ fMaxF p f n ≤ c
  | 0, _ => ⟨Int.le_refl _, hc⟩
  | n + 1, h => by
    have h1 := fMaxF_in (p := p) (f := f) hc (n := n) (fun t ht => h t (by omega))
    have h2 := h n (by omega)
    unfold fMaxF at *
    rw [foldN]
    split <;> omega
theorem fMinF_in {p : Nat → Prop} [DecidablePred p] {f : Nat → Int} {c : Int} (hc : -1 ≤ c) : ∀ {n : Nat}, (∀ t, t < n → -1 ≤ f t ∧ f t ≤ c) → -1 ≤ fMinF p f n ∧ fMinF p f n ≤ c
  | 0, _ => ⟨Int.le_refl _, hc⟩
  | n + 1, h => by
    have h1 := fMinF_in (p := p) (f := f) hc (n := n) (fun t ht => h t (by omega))
    have h2 := h n (by omega)
    unfold fMinF at *
    rw [foldN]
    split <;> omega
set_option maxHeartbeats 4000000 in
set_option maxRecDepth 20000 in
theorem Stock_datedBits_ok {s : Nat} {M : Mm} (hs : isStk s) (hw : wfS M s) : CallI m_Stock_datedBits [.inr s] M (fun x M' => x = fBit (fun t => yrA M s t ≠ -1) (M s 3).toNat ∧ M' = M) := by
  obtain ⟨l0, l1, l2, l3, l4⟩ := id hs
  have w0 := hw.1
  refine callP_of (by decide) (by decide) (Nat.le_of_ble_eq_true rfl) (wpm_of (cuts := [4]) (by decide) 50 _ _ _ _ ?_)
  rw [show lM m_Stock_datedBits = 3 from rfl]
  simp (maxSteps := 2000000) only [↓reduceIte, wp_eq, wpd_eq, kont_eq, STP1, STP2, STP3, STP4, STP5, konM_eq, AMK, CZ, Option.map, List.getElem?_cons_zero, List.getElem?_cons_succ, List.mem_cons, List.not_mem_nil, if_false, if_true, Nat.reduceAdd, Nat.reduceLT, Nat.reduceLeDiff, Nat.reduceEqDiff, true_and, and_true, List.length_nil, List.length_cons, or_true, true_or, or_false, false_or, Option.some.injEq, Sum.inl.injEq, Sum.inr.injEq, exists_eq_left', exists_eq_left, Int.reduceLE, Int.reduceLT, Int.reduceNeg, Int.reduceAdd, Int.reduceMul, Int.reduceSub, Int.reduceToNat, inR, Nat.zero_ne_one, false_and, Nat.succ_ne_zero, reduceCtorEq, false_implies, true_implies, not_false_eq_true, not_true_eq_false, Int.reduceEq, KRE, C_Stock_datedBits, l0, l2]
  refine loopQ (M s 3).toNat (fun k ls M1 => M = M1 ∧ ls = [some (.inr s), some (.inl (fBit (fun t => yrA M s t ≠ -1) k)), some (.inl k)]) ?_ _ _ ⟨rfl, rfl⟩
  rintro k _ _ hk ⟨rfl, rfl⟩ K
  refine wpm_of (cuts := [4]) (by decide) 100 _ _ _ _ ?_
  simp (maxSteps := 2000000) only [↓reduceIte, wp_eq, wpd_eq, kont_eq, STP1, STP2, STP3, STP4, STP5, konM_eq, AMK, CZ, Option.map, List.getElem?_cons_zero, List.getElem?_cons_succ, List.mem_cons, List.not_mem_nil, if_false, if_true, Nat.reduceAdd, Nat.reduceLT, Nat.reduceLeDiff, Nat.reduceEqDiff, true_and, and_true, List.length_nil, List.length_cons, or_true, true_or, or_false, false_or, Option.some.injEq, Sum.inl.injEq, Sum.inr.injEq, exists_eq_left', exists_eq_left, Int.reduceLE, Int.reduceLT, Int.reduceNeg, Int.reduceAdd, Int.reduceMul, Int.reduceSub, Int.reduceToNat, inR, Nat.zero_ne_one, false_and, Nat.succ_ne_zero, reduceCtorEq, false_implies, true_implies, not_false_eq_true, not_true_eq_false, Int.reduceEq, KRE, C_Stock_datedBits, l0, l2]
  refine ⟨by omega, by omega, fun z => ?_, fun z => ?_⟩
  · rw [show k = (M s 3).toNat by omega]
  · refine (Stock_isDated_ok hs ⟨by omega, by omega⟩ hw).eq ?_
    have K' := K (by omega) _ _ ⟨rfl, rfl⟩
    rw [fBit_succ] at K'
    by_cases h : yrA M s k = -1
    · simp only [h, ne_eq, not_true_eq_false, if_false] at K' ⊢
      simpa using K'
    · simp only [h, ne_eq, not_false_eq_true, if_true] at K' ⊢
      simpa using K'

/-! ===== Int32 by its bits: bt x i ===== -/
def bt (x : Int32) (i : Nat) : Bool := x.toBitVec.getLsbD i
theorem b_ext {x y : Int32} (h : ∀ i, i < 32 → bt x i = bt y i) : x = y := Int32.toBitVec_inj.mp (BitVec.eq_of_getLsbD_eq (fun i hi => h i hi))
theorem b_or (x y : Int32) (i : Nat) : bt (x ||| y) i = (bt x i || bt y i) := by unfold bt; rw [Int32.toBitVec_or, BitVec.getLsbD_or]
theorem b_and (x y : Int32) (i : Nat) : bt (x &&& y) i = (bt x i && bt y i) := by unfold bt; rw [Int32.toBitVec_and, BitVec.getLsbD_and]
theorem b_xor (x y : Int32) (i : Nat) : bt (x ^^^ y) i = (bt x i ^^ bt y i) := by unfold bt; rw [Int32.toBitVec_xor, BitVec.getLsbD_xor]
theorem b_big {x : Int32} {i : Nat} (h : 32 ≤ i) : bt x i = false := BitVec.getLsbD_of_ge _ _ h
theorem b_255 (i : Nat) : bt 255 i = decide (i < 8) := by
  rcases Nat.lt_or_ge i 32 with h | h
  · exact (by decide +kernel : ∀ i, i < 32 → bt 255 i = decide (i < 8)) i h
  · rw [b_big h, decide_eq_false (by omega)]
theorem b_65535 (i : Nat) : bt 65535 i = decide (i < 16) := by
  rcases Nat.lt_or_ge i 32 with h | h
  · exact (by decide +kernel : ∀ i, i < 32 → bt 65535 i = decide (i < 16)) i h
  · rw [b_big h, decide_eq_false (by omega)]
theorem b_m1 : ∀ i, i < 32 → bt (-1) i = true := by decide +kernel
theorem b_0 (i : Nat) : bt 0 i = false := BitVec.getLsbD_zero
theorem s_l : ∀ n, n < 32 → ((nI n &&& 31).toBitVec.smod 32).toNat = n := by decide +kernel
theorem s_u : ∀ n, n < 32 → (((nI n).toUInt32 &&& Int32.toUInt32 31).toBitVec % 32).toNat = n := by decide +kernel
theorem b_shl (n : Nat) (hn : n < 32) (x : Int32) {i : Nat} (hi : i < 32) : bt (x <<< (nI n &&& 31)) i = (decide (n ≤ i) && bt x (i - n)) := by
  unfold bt
  rw [Int32.toBitVec_shiftLeft]
  show (x.toBitVec <<< ((nI n &&& 31).toBitVec.smod 32).toNat).getLsbD i = _
  rw [s_l n hn, BitVec.getLsbD_shiftLeft]
  rcases Nat.lt_or_ge i n with h | h
  · simp [h, Nat.not_le.mpr h]
  · simp [hi, h, Nat.not_lt.mpr h]
theorem b_ushr (n : Nat) (hn : n < 32) (x : Int32) (i : Nat) : bt ((x.toUInt32 >>> ((nI n).toUInt32 &&& Int32.toUInt32 31)).toInt32) i = bt x (n + i) := by
  show (x.toUInt32 >>> ((nI n).toUInt32 &&& Int32.toUInt32 31)).toBitVec.getLsbD i = x.toUInt32.toBitVec.getLsbD (n + i)
  rw [UInt32.toBitVec_shiftRight]
  show (x.toUInt32.toBitVec >>> (((nI n).toUInt32 &&& Int32.toUInt32 31).toBitVec % 32).toNat).getLsbD i = _
  rw [s_u n hn, BitVec.getLsbD_ushiftRight]
theorem b_sshr (n : Nat) (hn : n < 32) (x : Int32) {i : Nat} (hi : i < 32) : bt (x >>> (nI n &&& 31)) i = if n + i < 32 then bt x (n + i) else bt x 31 := by
  unfold bt
  rw [Int32.toBitVec_shiftRight]
  show (x.toBitVec.sshiftRight ((nI n &&& 31).toBitVec.smod 32).toNat).getLsbD i = _
  rw [s_l n hn, BitVec.getLsbD_sshiftRight, BitVec.msb_eq_getLsbD_last]
  simp [hi]
/-! ===== whole numbers by their bits ===== -/
def btI (x : Int) (i : Nat) : Bool := bt (iN x) i
theorem iN_nat (n : Nat) : iN (n : Int) = nI n := by
  apply Int32.toBitVec_inj.1
  show BitVec.ofInt 32 (n : Int) = BitVec.ofNat 32 n
  exact BitVec.ofInt_natCast 32 n
theorem btI_or (x y : Int) (i : Nat) : btI (bOr x y) i = (btI x i || btI y i) := by
  unfold btI bOr
  rw [iN_ti]
  exact b_or _ _ _
theorem btI_and (x y : Int) (i : Nat) : btI (bAnd x y) i = (btI x i && btI y i) := by
  unfold btI bAnd
  rw [iN_ti]
  exact b_and _ _ _
theorem btI_xor (x y : Int) (i : Nat) : btI (bXor x y) i = (btI x i ^^ btI y i) := by
  unfold btI bXor
  rw [iN_ti]
  exact b_xor _ _ _
theorem btI_shl {n : Nat} (hn : n < 32) (x : Int) {i : Nat} (hi : i < 32) : btI (bShl x n) i = (decide (n ≤ i) && btI x (i - n)) := by
  unfold btI bShl
  rw [iN_ti, iN_nat]
  exact b_shl n hn _ hi
theorem btI_shr {n : Nat} (hn : n < 32) (x : Int) {i : Nat} (hi : i < 32) : btI (bShr x n) i = if n + i < 32 then btI x (n + i) else btI x 31 := by
  unfold btI bShr
  rw [iN_ti, iN_nat]
  exact b_sshr n hn _ hi
theorem btI_0 (i : Nat) : btI 0 i = false := b_0 i
theorem btI_1 {i : Nat} (hi : i < 32) : btI 1 i = decide (i = 0) := (by decide +kernel : ∀ i, i < 32 → btI 1 i = decide (i = 0)) i hi
theorem btI_m1 {i : Nat} (hi : i < 32) : btI (-1) i = true := b_m1 i hi
theorem btI_big {x : Int} {i : Nat} (h : 32 ≤ i) : btI x i = false := b_big h
theorem btI_ext {x y : Int} (hx : inR x) (hy : inR y) (h : ∀ i, i < 32 → btI x i = btI y i) : x = y := by
  rw [← iN_toInt hx, ← iN_toInt hy, b_ext h]
theorem bOr_in (x y : Int) : inR (bOr x y) := by
  have := iN_wrap (bOr x y)
  unfold bOr at *
  rw [iN_ti] at this
  exact this
theorem bAnd_in (x y : Int) : inR (bAnd x y) := by
  have := iN_wrap (bAnd x y)
  unfold bAnd at *
  rw [iN_ti] at this
  exact this
theorem bXor_in (x y : Int) : inR (bXor x y) := by
  have := iN_wrap (bXor x y)
  unfold bXor at *
  rw [iN_ti] at this
  exact this
theorem bShl_in (x y : Int) : inR (bShl x y) := by
  have := iN_wrap (bShl x y)
  unfold bShl at *
  rw [iN_ti] at this
  exact this
theorem bShr_in (x y : Int) : inR (bShr x y) := by
  have := iN_wrap (bShr x y)
  unfold bShr at *
  rw [iN_ti] at this
  exact this
/-- the test of a bit -/
theorem bit_test (x : Int) {k : Nat} (hk : k < 32) : bAnd (bShr x k) 1 = if btI x k then 1 else 0 := by
  apply btI_ext (bAnd_in _ _)
  · split <;> exact ⟨by decide, by decide⟩
  · intro i hi
    rw [btI_and, btI_shr hk _ hi, btI_1 hi]
    by_cases e : i = 0
    · subst e
      cases h : btI x k <;> simp [hk, h, btI_0, btI_1]
    · cases h : btI x k <;> simp [e, h, btI_0, btI_1 hi]
theorem bit_testI (x : Int) {k : Int} (h0 : 0 ≤ k) (hk : k < 32) : bAnd (bShr x k) 1 = if btI x k.toNat then 1 else 0 := by
  have := bit_test x (k := k.toNat) (by omega)
  rwa [show ((k.toNat : Nat) : Int) = k by omega] at this
/-- a set of bits out of a condition -/
theorem fBit_in (p : Nat → Prop) [DecidablePred p] : ∀ n : Nat, inR (fBit p n)
  | 0 => inR_0
  | n + 1 => bOr_in _ _
theorem fBit_bt (p : Nat → Prop) [DecidablePred p] : ∀ {n : Nat}, n ≤ 31 → ∀ {i : Nat}, i < 32 → btI (fBit p n) i = decide (i < n ∧ p i)
  | 0, _, i, _ => by
    show btI 0 i = _
    rw [btI_0]
    simp
  | n + 1, hn, i, hi => by
    have h := fBit_bt p (n := n) (by omega) hi
    show btI (bOr (fBit p n) (if p n then bShl 1 n else 0)) i = _
    rw [btI_or, h]
    by_cases e : i = n
    · subst e
      by_cases q : p i
      · rw [if_pos q, btI_shl (by omega) _ hi, Nat.sub_self, btI_1 (by omega)]
        simp [q]
      · rw [if_neg q, btI_0]
        simp [q]
    · by_cases q : p n
      · rw [if_pos q, btI_shl (by omega) _ hi]
        by_cases l : i < n
        · have e1 : ¬ n ≤ i := by omega
          have e2 : i < n + 1 := by omega
          simp [l, e1, e2]
        · have e1 : n ≤ i := by omega
          have e2 : ¬ i < n + 1 := by omega
          rw [btI_1 (by omega)]
          have e3 : ¬ i - n = 0 := by omega
          simp [l, e2, e3]
      · rw [if_neg q, btI_0]
        have e1 : (i < n + 1) = (i < n) := propext ⟨fun z => by omega, fun z => by omega⟩
        simp [e1]
theorem fBit_congr {p q : Nat → Prop} [DecidablePred p] [DecidablePred q] {n : Nat} (h : ∀ t, t < n → (p t ↔ q t)) : fBit p n = fBit q n := by
  unfold fBit
  refine foldN_congr (fun t ht x => ?_)
  simp only [h t ht]

/-! BENCH, 1: rows laid out. -/
def mLay (M : Mm) (r o : Nat) (i : Int) : Mm := fun b j => if b = r ∧ j = 7 then M o 2 else if b = r + 1 ∧ (j : Int) < M o 2 then (if (j : Int) < i then M (o + 1) j else 0) else if b = r + 2 ∧ (j : Int) < M o 2 then (if (j : Int) < i then M (o + 2) j else 0) else M b j
theorem mLay_fr (M : Mm) (r o : Nat) (i : Int) : Fr r (r + 7) M (mLay M r o i) := by
  intro b hb j
  simp only [mLay]
  grind
theorem mLay_ok {M : Mm} {r o : Nat} {i : Int} (hr : rowOK M r 24) (hw : wfT M o) : rowOK (mLay M r o i) r 24 := by
  obtain ⟨⟨w0, w1, w2, w3, w4⟩, w5⟩ := hr
  obtain ⟨v0, v1, v2, -⟩ := hw
  refine ⟨⟨?_, w1, ?_, fun j hj => ?_, fun j hj => ?_⟩, fun j hj => ?_⟩
  · simp only [mLay]; grind
  · simp only [mLay]; grind
  · have := w3 j hj
    have := v2 j hj
    simp only [mLay]; grind
  · have := w4 j hj
    have := v1 j hj
    simp only [mLay]; grind
  · have := w5 j hj
    simp only [mLay]; grind
set_option maxHeartbeats 4000000 in
set_option maxRecDepth 20000 in
theorem Bench_lay_ok {r o : Nat} {M : Mm} (hr : isRow r 24) (ho : isTim o) (hk : rowOK M r 24) (hw : wfT M o) (sep : o + 3 ≤ r ∨ r + 7 ≤ o) : CallV m_Bench_lay [.inr r, .inr o] M (fun M' => finR M' r 24 (tRw M o) ∧ rowOK M' r 24 ∧ Fr r (r + 7) M M') := by
  have l0 := ho.1
  have r0 := hr.1
  have w0 := hw.1
  have c0 := hk.1.1
  have cc : ∀ i b, o ≤ b → b < o + 3 → ∀ j, mLay M r o i b j = M b j := fun i b h1 h2 j => mLay_fr M r o i b (by omega) j
  have e2 : ∀ i, mLay M r o i o 2 = M o 2 := fun i => cc i o (by omega) (by omega) 2
  have ed : max 0 (min (M o 2) (24 : Nat)) = M o 2 := by omega
  refine callP_of (by decide) (by decide) (Nat.le_of_ble_eq_true rfl) (wpm_of (cuts := [10]) (by decide) 50 _ _ _ _ ?_)
  rw [show lM m_Bench_lay = 3 from rfl]
  simp (maxSteps := 2000000) only [↓reduceIte, wp_eq, wpd_eq, kont_eq, STP1, STP2, STP3, STP4, STP5, konM_eq, AMK, CZ, Option.map, List.getElem?_cons_zero, List.getElem?_cons_succ, List.mem_cons, List.not_mem_nil, if_false, if_true, Nat.reduceAdd, Nat.reduceLT, Nat.reduceLeDiff, Nat.reduceEqDiff, true_and, and_true, List.length_nil, List.length_cons, or_true, true_or, or_false, false_or, Option.some.injEq, Sum.inl.injEq, Sum.inr.injEq, exists_eq_left', exists_eq_left, Int.reduceLE, Int.reduceLT, Int.reduceNeg, Int.reduceAdd, Int.reduceMul, Int.reduceSub, Int.reduceToNat, inR, Nat.zero_ne_one, false_and, Nat.succ_ne_zero, reduceCtorEq, false_implies, true_implies, not_false_eq_true, not_true_eq_false, Int.reduceEq, KRE, C_Bench_lay, l0, r0]
  refine (Row_begin_ok hr c0 (by omega) ⟨by omega, by omega⟩).eq ?_
  rw [ed]
  refine loopQ (M o 2).toNat (fun k ls M1 => M1 = mLay M r o k ∧ ls = [some (.inr r), some (.inr o), some (.inl k)]) ?_ _ _ ⟨?_, rfl⟩
  · rintro k _ _ hk2 ⟨rfl, rfl⟩ K
    have wL := mLay_ok (i := k) hk hw
    have wT := wfT_cells (cc k) hw
    refine wpm_of (cuts := [10]) (by decide) 100 _ _ _ _ ?_
    simp (maxSteps := 2000000) only [↓reduceIte, wp_eq, wpd_eq, kont_eq, STP1, STP2, STP3, STP4, STP5, konM_eq, AMK, CZ, Option.map, List.getElem?_cons_zero, List.getElem?_cons_succ, List.mem_cons, List.not_mem_nil, if_false, if_true, Nat.reduceAdd, Nat.reduceLT, Nat.reduceLeDiff, Nat.reduceEqDiff, true_and, and_true, List.length_nil, List.length_cons, or_true, true_or, or_false, false_or, Option.some.injEq, Sum.inl.injEq, Sum.inr.injEq, exists_eq_left', exists_eq_left, Int.reduceLE, Int.reduceLT, Int.reduceNeg, Int.reduceAdd, Int.reduceMul, Int.reduceSub, Int.reduceToNat, inR, Nat.zero_ne_one, false_and, Nat.succ_ne_zero, reduceCtorEq, false_implies, true_implies, not_false_eq_true, not_true_eq_false, Int.reduceEq, KRE, C_Bench_lay, l0, r0, e2]
    refine ⟨by omega, by omega, fun z => ?_, fun z => ?_⟩
    · refine (Row_finish_ok hr wL.1).mono (fun M' z' => ?_)
      subst z'
      have e7 : mLay M r o k r 7 = M o 2 := if_pos ⟨rfl, rfl⟩
      refine ⟨finR_eq (mFin_fin wL.1 wL.2) ⟨e7, fun j hj => ?_⟩, rowOK_fin wL, (mLay_fr M r o k).tr (mFin_fr _ _ _)⟩
      have hj2 : (j : Int) < M o 2 := by
        have : (j : Int) < mLay M r o k r 7 := hj
        omega
      simp only [rwOf, tRw, mLay]
      grind
    · refine (Timber_widthOf_ok ho ⟨by omega, by omega⟩ wT).eq ?_
      refine (Timber_isDoubtful_ok ho ⟨by omega, by omega⟩ wT).eq ?_
      have d1 := vDou_in (r := k) wT
      have e7 : mLay M r o k r 7 = M o 2 := if_pos ⟨rfl, rfl⟩
      refine (Row_put_ok hr (by omega) (by omega) (by omega) ⟨by omega, by omega⟩ d1).eq ?_
      refine K (by omega) _ _ ⟨?_, rfl⟩
      rw [e7, if_pos (by omega), vWid, vDou, e2, if_pos (by omega), if_pos (by omega), cc k (o + 1) (by omega) (by omega), cc k (o + 2) (by omega) (by omega)]
      simp only [natT]
      funext b j
      simp only [mset, mLay]
      by_cases hj : j = k
      · subst hj
        grind
      · grind
  · funext b j
    simp only [mBeg, mLay]
    grind
def benOK (M : Mm) : Prop := rowOK M 34 24 ∧ rowOK M 41 24 ∧ rowOK M 48 924
theorem isRow_34 : isRow 34 24 := ⟨rfl, rfl, rfl, rfl, rfl, rfl, rfl⟩
theorem isRow_41 : isRow 41 24 := ⟨rfl, rfl, rfl, rfl, rfl, rfl, rfl⟩
theorem isRow_48 : isRow 48 924 := ⟨rfl, rfl, rfl, rfl, rfl, rfl, rfl⟩
theorem isSld_57 : isSld 57 := rfl
theorem isFnd_58 : isFnd 58 := ⟨rfl, rfl⟩

/-! THE REFERENCE, 1: rows. f : Nat → Int is a row of 240 numbers (30 of a timber). -/
def FrP (P : Nat → Nat → Prop) (M M' : Mm) : Prop := ∀ b j, ¬ P b j → M' b j = M b j
theorem FrP.rf {P : Nat → Nat → Prop} {M : Mm} : FrP P M M := fun _ _ _ => Eq.refl _
theorem FrP.tr {P : Nat → Nat → Prop} {M M1 M2 : Mm} (h : FrP P M M1) (g : FrP P M1 M2) : FrP P M M2 := fun b j hb => (g b j hb).trans (h b j hb)
theorem FrP.wd {P Q : Nat → Nat → Prop} {M M1 : Mm} (h : FrP P M M1) (hq : ∀ b j, P b j → Q b j) : FrP Q M M1 := fun b j hb => h b j (fun z => hb (hq b j z))
theorem FrP.st {P : Nat → Nat → Prop} {M M1 : Mm} {a k : Nat} {v : Int} (h : FrP P M M1) (hp : P a k) : FrP P M (mset M1 a k v) := fun b j hb => by
  have e : mset M1 a k v b j = M1 b j := by
    simp only [mset]
    rw [if_neg]
    rintro ⟨rfl, rfl⟩
    exact hb hp
  exact e.trans (h b j hb)
/-- what the numbers of a row of the reference are: -1 for none -/
def mV (A : Rw) (k : Int) : Int := if sN A k = 0 then -1 else sN A k
def mRk (A : Rw) (k : Int) : Int := if sN A k = 0 then 0 else sRank A k
def numM (M : Mm) (v : Nat) (A : Rw) : Prop := 0 ≤ A.2.1 ∧ okR A ∧ ∀ j : Nat, (j : Int) < A.2.1 → M v j = mV A j
def finM (M : Mm) (v : Nat) (A : Rw) : Prop := numM M v A ∧ ∀ j : Nat, (j : Int) < A.2.1 → M (v + 1) j = sStep A j ∧ M (v + 2) j = mRk A j
theorem mV_in {A : Rw} {k : Int} (h : okR A) : -1 ≤ mV A k ∧ mV A k ≤ 100000000 ∧ (mV A k = -1 ↔ sN A k = 0) ∧ mV A k ≠ 0 := by
  have := sN_in (k := k) h
  unfold mV
  split <;> omega
set_option maxHeartbeats 4000000 in
set_option maxRecDepth 20000 in
theorem Model_of_ok {t k : Int} {M : Mm} (ht : 0 ≤ 30 * t + k ∧ 30 * t + k < 240) : CallI m_Model_of [.inr 154, .inl t, .inl k] M (fun x M' => x = M 158 (30 * t + k).toNat ∧ M' = M) := by
  refine callP_of (by decide) (by decide) (Nat.le_of_ble_eq_true rfl) (wpm_of (cuts := []) (by decide) 50 _ _ _ _ ?_)
  rw [show lM m_Model_of = 3 from rfl]
  simp (maxSteps := 2000000) only [↓reduceIte, wp_eq, wpd_eq, kont_eq, STP1, STP2, STP3, STP4, STP5, konM_eq, AMK, CZ, Option.map, List.getElem?_cons_zero, List.getElem?_cons_succ, List.mem_cons, List.not_mem_nil, if_false, if_true, Nat.reduceAdd, Nat.reduceLT, Nat.reduceLeDiff, Nat.reduceEqDiff, true_and, and_true, List.length_nil, List.length_cons, or_true, true_or, or_false, false_or, Option.some.injEq, Sum.inl.injEq, Sum.inr.injEq, exists_eq_left', exists_eq_left, Int.reduceLE, Int.reduceLT, Int.reduceNeg, Int.reduceAdd, Int.reduceMul, Int.reduceSub, Int.reduceToNat, inR, Nat.zero_ne_one, false_and, Nat.succ_ne_zero, reduceCtorEq, false_implies, true_implies, not_false_eq_true, not_true_eq_false, Int.reduceEq, KRE, C_Model_of, FM]
  exact ht
set_option maxHeartbeats 4000000 in
set_option maxRecDepth 20000 in
theorem Model_isDated_ok {t : Int} {M : Mm} (ht : 0 ≤ t ∧ t < 8) (hi : inR (M 158 (30 * t + 4).toNat)) : CallI m_Model_isDated [.inr 154, .inl t] M (fun x M' => x = (if M 158 (30 * t + 4).toNat ≠ -1 then 1 else 0) ∧ M' = M) := by
  simp only [inR] at hi
  refine callP_of (by decide) (by decide) (Nat.le_of_ble_eq_true rfl) (wpm_of (cuts := []) (by decide) 50 _ _ _ _ ?_)
  rw [show lM m_Model_isDated = 2 from rfl]
  simp (maxSteps := 2000000) only [↓reduceIte, wp_eq, wpd_eq, kont_eq, STP1, STP2, STP3, STP4, STP5, konM_eq, AMK, CZ, Option.map, List.getElem?_cons_zero, List.getElem?_cons_succ, List.mem_cons, List.not_mem_nil, if_false, if_true, Nat.reduceAdd, Nat.reduceLT, Nat.reduceLeDiff, Nat.reduceEqDiff, true_and, and_true, List.length_nil, List.length_cons, or_true, true_or, or_false, false_or, Option.some.injEq, Sum.inl.injEq, Sum.inr.injEq, exists_eq_left', exists_eq_left, Int.reduceLE, Int.reduceLT, Int.reduceNeg, Int.reduceAdd, Int.reduceMul, Int.reduceSub, Int.reduceToNat, inR, Nat.zero_ne_one, false_and, Nat.succ_ne_zero, reduceCtorEq, false_implies, true_implies, not_false_eq_true, not_true_eq_false, Int.reduceEq, KRE, C_Model_isDated, FM]
  refine (Model_of_ok ⟨by omega, by omega⟩).eq ?_
  grind
set_option maxHeartbeats 4000000 in
set_option maxRecDepth 20000 in
theorem Model_numberAt_ok {a len : Nat} {n k : Int} {A : Rw} {M : Mm} (la : lay a = .inl (0, len)) (hn : n = A.2.1) (hl : n ≤ len) (hl2 : len ≤ 1000) (hk : inR k) (h : numM M a A) : CallI m_Model_numberAt [.inr a, .inl n, .inl k] M (fun x M' => x = mV A k ∧ M' = M) := by
  obtain ⟨h1, h2, h3⟩ := h
  have h4 := h3 k.toNat
  have h5 : ¬ (0 ≤ k ∧ k < A.2.1) → mV A k = -1 := by
    intro z
    unfold mV sN
    rw [if_neg z]
    rfl
  simp only [inR] at hk
  refine callP_of (by decide) (by decide) (Nat.le_of_ble_eq_true rfl) (wpm_of (cuts := []) (by decide) 50 _ _ _ _ ?_)
  rw [show lM m_Model_numberAt = 3 from rfl]
  simp (maxSteps := 2000000) only [↓reduceIte, wp_eq, wpd_eq, kont_eq, STP1, STP2, STP3, STP4, STP5, konM_eq, AMK, CZ, Option.map, List.getElem?_cons_zero, List.getElem?_cons_succ, List.mem_cons, List.not_mem_nil, if_false, if_true, Nat.reduceAdd, Nat.reduceLT, Nat.reduceLeDiff, Nat.reduceEqDiff, true_and, and_true, List.length_nil, List.length_cons, or_true, true_or, or_false, false_or, Option.some.injEq, Sum.inl.injEq, Sum.inr.injEq, exists_eq_left', exists_eq_left, Int.reduceLE, Int.reduceLT, Int.reduceNeg, Int.reduceAdd, Int.reduceMul, Int.reduceSub, Int.reduceToNat, inR, Nat.zero_ne_one, false_and, Nat.succ_ne_zero, reduceCtorEq, false_implies, true_implies, not_false_eq_true, not_true_eq_false, Int.reduceEq, KRE, C_Model_numberAt, la]
  grind
set_option maxHeartbeats 4000000 in
set_option maxRecDepth 20000 in
theorem Model_stepAt_ok {a len : Nat} {n k : Int} {A : Rw} {M : Mm} (la : lay a = .inl (0, len)) (hn : n = A.2.1) (hl : n ≤ len) (hl2 : len ≤ 1000) (hk : -10 ≤ k ∧ k ≤ 2000) (h : numM M a A) : CallI m_Model_stepAt [.inr a, .inl n, .inl k] M (fun x M' => x = sStep A k ∧ M' = M) := by
  have v1 := mV_in (k := k) h.2.1
  have v2 := mV_in (k := k - 1) h.2.1
  refine callP_of (by decide) (by decide) (Nat.le_of_ble_eq_true rfl) (wpm_of (cuts := []) (by decide) 50 _ _ _ _ ?_)
  rw [show lM m_Model_stepAt = 5 from rfl]
  simp (maxSteps := 2000000) only [↓reduceIte, wp_eq, wpd_eq, kont_eq, STP1, STP2, STP3, STP4, STP5, konM_eq, AMK, CZ, Option.map, List.getElem?_cons_zero, List.getElem?_cons_succ, List.mem_cons, List.not_mem_nil, if_false, if_true, Nat.reduceAdd, Nat.reduceLT, Nat.reduceLeDiff, Nat.reduceEqDiff, true_and, and_true, List.length_nil, List.length_cons, or_true, true_or, or_false, false_or, Option.some.injEq, Sum.inl.injEq, Sum.inr.injEq, exists_eq_left', exists_eq_left, Int.reduceLE, Int.reduceLT, Int.reduceNeg, Int.reduceAdd, Int.reduceMul, Int.reduceSub, Int.reduceToNat, inR, Nat.zero_ne_one, false_and, Nat.succ_ne_zero, reduceCtorEq, false_implies, true_implies, not_false_eq_true, not_true_eq_false, Int.reduceEq, KRE, C_Model_stepAt, la]
  refine (Model_numberAt_ok la hn hl hl2 ⟨by omega, by omega⟩ h).eq ?_
  refine (Model_numberAt_ok la hn hl hl2 ⟨by omega, by omega⟩ h).eq ?_
  have e : sStep A k = if mV A k = -1 ∨ mV A (k - 1) = -1 then 2 else vCmp (mV A k) (mV A (k - 1)) := by
    unfold sStep
    by_cases z1 : sN A k = 0
    · rw [if_neg (fun q => q.1 z1), if_pos (Or.inl (v1.2.2.1.mpr z1))]
    · by_cases z2 : sN A (k - 1) = 0
      · rw [if_neg (fun q => q.2 z2), if_pos (Or.inr (v2.2.2.1.mpr z2))]
      · rw [if_pos ⟨z1, z2⟩, if_neg (by omega)]
        unfold mV
        rw [if_neg z1, if_neg z2]
  rw [e]
  generalize mV A k = x at *
  generalize mV A (k - 1) = y at *
  by_cases z1 : x = -1
  · simp [z1]
  · by_cases z2 : y = -1
    · simp only [z1, z2, false_or, if_true, if_pos, not_true_eq_false, not_false_eq_true, true_implies, false_implies, and_true, true_and]
      omega
    · simp only [z1, z2, false_or, if_false, not_true_eq_false, not_false_eq_true, true_implies, false_implies, and_true, true_and]
      refine ⟨by omega, by omega, ?_⟩
      exact (Integer_compare_ok ⟨by omega, by omega⟩ ⟨by omega, by omega⟩).eq ⟨rfl, rfl⟩
def mLs (A : Rw) (k d : Int) : Int := if d ≠ 0 ∧ mV A (k + d) ≠ -1 ∧ mV A (k + d) < mV A k then 1 else 0
theorem mLs_sum {A : Rw} {k : Int} (h : okR A) : sumR (mLs A k) (-2) 3 = mRk A k := by
  have v0 := mV_in (k := k) h
  have e : ∀ d, mLs A k d = if sN A k = 0 then 0 else if d = 0 then 0 else less1 (sN A k) (sN A (k + d)) := by
    intro d
    have v1 := mV_in (k := k + d) h
    have b1 := sN_in (k := k + d) h
    unfold mLs less1
    unfold mV at *
    grind
  rw [show (3 : Int) = -2 + 1 + 1 + 1 + 1 + 1 by omega, sumR_succ _ (by omega), sumR_succ _ (by omega), sumR_succ _ (by omega), sumR_succ _ (by omega), sumR_succ _ (by omega), sumR_0]
  simp only [e]
  unfold mRk sRank
  have e2 : k - 2 = k + -2 := by omega
  have e1 : k - 1 = k + (-2 + 1) := by omega
  by_cases z : sN A k = 0
  · simp [z]
  · simp only [z, if_false, ne_eq, not_false_eq_true, if_true]
    rw [e2, e1]
    simp
set_option maxHeartbeats 4000000 in
set_option maxRecDepth 20000 in
theorem Model_rankAt_ok {a len : Nat} {n k : Int} {A : Rw} {M : Mm} (la : lay a = .inl (0, len)) (hn : n = A.2.1) (hl : n ≤ len) (hl2 : len ≤ 1000) (hk : -10 ≤ k ∧ k ≤ 2000) (h : numM M a A) : CallI m_Model_rankAt [.inr a, .inl n, .inl k] M (fun x M' => x = mRk A k ∧ M' = M) := by
  have v1 := mV_in (k := k) h.2.1
  refine callP_of (by decide) (by decide) (Nat.le_of_ble_eq_true rfl) (wpm_of (cuts := [14]) (by decide) 50 _ _ _ _ ?_)
  rw [show lM m_Model_rankAt = 7 from rfl]
  simp (maxSteps := 2000000) only [↓reduceIte, wp_eq, wpd_eq, kont_eq, STP1, STP2, STP3, STP4, STP5, konM_eq, AMK, CZ, Option.map, List.getElem?_cons_zero, List.getElem?_cons_succ, List.mem_cons, List.not_mem_nil, if_false, if_true, Nat.reduceAdd, Nat.reduceLT, Nat.reduceLeDiff, Nat.reduceEqDiff, true_and, and_true, List.length_nil, List.length_cons, or_true, true_or, or_false, false_or, Option.some.injEq, Sum.inl.injEq, Sum.inr.injEq, exists_eq_left', exists_eq_left, Int.reduceLE, Int.reduceLT, Int.reduceNeg, Int.reduceAdd, Int.reduceMul, Int.reduceSub, Int.reduceToNat, inR, Nat.zero_ne_one, false_and, Nat.succ_ne_zero, reduceCtorEq, false_implies, true_implies, not_false_eq_true, not_true_eq_false, Int.reduceEq, KRE, C_Model_rankAt, la]
  refine (Model_numberAt_ok la hn hl hl2 ⟨by omega, by omega⟩ h).eq ?_
  refine loopQ 5 (fun i ls M1 => M = M1 ∧ ∃ a6, ls = [some (.inr a), some (.inl n), some (.inl k), some (.inl (mV A k)), some (.inl (sumR (mLs A k) (-2) (-2 + i))), some (.inl (-2 + i)), a6]) ?_ _ _ ⟨rfl, none, rfl⟩
  rintro i _ _ hi ⟨rfl, a6, rfl⟩ K
  have v2 := mV_in (k := k + (-2 + i)) h.2.1
  refine wpm_of (cuts := [14]) (by decide) 100 _ _ _ _ ?_
  simp (maxSteps := 2000000) only [↓reduceIte, wp_eq, wpd_eq, kont_eq, STP1, STP2, STP3, STP4, STP5, konM_eq, AMK, CZ, Option.map, List.getElem?_cons_zero, List.getElem?_cons_succ, List.mem_cons, List.not_mem_nil, if_false, if_true, Nat.reduceAdd, Nat.reduceLT, Nat.reduceLeDiff, Nat.reduceEqDiff, true_and, and_true, List.length_nil, List.length_cons, or_true, true_or, or_false, false_or, Option.some.injEq, Sum.inl.injEq, Sum.inr.injEq, exists_eq_left', exists_eq_left, Int.reduceLE, Int.reduceLT, Int.reduceNeg, Int.reduceAdd, Int.reduceMul, Int.reduceSub, Int.reduceToNat, inR, Nat.zero_ne_one, false_and, Nat.succ_ne_zero, reduceCtorEq, false_implies, true_implies, not_false_eq_true, not_true_eq_false, Int.reduceEq, KRE, C_Model_rankAt, la]
  refine ⟨by omega, fun z => ?_, fun z => ?_⟩
  · rw [show (-2 + (i : Int)) = 3 by omega, mLs_sum h.2.1]
  · refine (Model_numberAt_ok la hn hl hl2 ⟨by omega, by omega⟩ h).eq ?_
    have K' := fun a6 => K (by omega) _ _ ⟨rfl, a6, rfl⟩
    rw [show (-2 + ((i + 1 : Nat) : Int)) = -2 + i + 1 by omega, sumR_succ _ (by omega)] at K'
    rw [show mLs A k (-2 + i) = if (-2 + i : Int) ≠ 0 ∧ mV A (k + (-2 + i)) ≠ -1 ∧ mV A (k + (-2 + i)) < mV A k then 1 else 0 from rfl] at K'
    refine ⟨by omega, fun c1 => ?_, fun c1 => ⟨by omega, fun c2 => ?_, fun c2 => ⟨by omega, by omega, fun c3 => ?_, fun c3 => ?_⟩⟩⟩
    · rw [if_neg (by omega)] at K'
      exact K' _
    · rw [if_neg (by omega)] at K'
      exact K' _
    · rw [if_neg (by omega)] at K'
      exact K' _
    · rw [if_pos (by omega)] at K'
      exact K' _
def mTell (M : Mm) (s r : Nat) (A : Rw) (n : Int) : Mm := fun b j => if b = s ∧ (j : Int) < n then sStep A j else if b = r ∧ (j : Int) < n then mRk A j else M b j
set_option maxHeartbeats 4000000 in
set_option maxRecDepth 20000 in
theorem Model_tellRow_ok {a s r len : Nat} {n : Int} {A : Rw} {M : Mm} (la : lay a = .inl (0, len)) (ls : lay s = .inl (0, len)) (lr : lay r = .inl (0, len)) (ne : s ≠ a ∧ r ≠ a ∧ r ≠ s) (hn : n = A.2.1) (hl : n ≤ len) (hl2 : len ≤ 1000) (h : numM M a A) : CallV m_Model_tellRow [.inr a, .inr s, .inr r, .inl n] M (fun M' => M' = mTell M s r A n) := by
  have h0 := h.1
  have hk : ∀ (M1 : Mm), (∀ j, M1 a j = M a j) → numM M1 a A := fun M1 e => ⟨h.1, h.2.1, fun j hj => by rw [e]; exact h.2.2 j hj⟩
  refine callP_of (by decide) (by decide) (Nat.le_of_ble_eq_true rfl) (wpm_of (cuts := [3]) (by decide) 50 _ _ _ _ ?_)
  rw [show lM m_Model_tellRow = 5 from rfl]
  simp (maxSteps := 2000000) only [↓reduceIte, wp_eq, wpd_eq, kont_eq, STP1, STP2, STP3, STP4, STP5, konM_eq, AMK, CZ, Option.map, List.getElem?_cons_zero, List.getElem?_cons_succ, List.mem_cons, List.not_mem_nil, if_false, if_true, Nat.reduceAdd, Nat.reduceLT, Nat.reduceLeDiff, Nat.reduceEqDiff, true_and, and_true, List.length_nil, List.length_cons, or_true, true_or, or_false, false_or, Option.some.injEq, Sum.inl.injEq, Sum.inr.injEq, exists_eq_left', exists_eq_left, Int.reduceLE, Int.reduceLT, Int.reduceNeg, Int.reduceAdd, Int.reduceMul, Int.reduceSub, Int.reduceToNat, inR, Nat.zero_ne_one, false_and, Nat.succ_ne_zero, reduceCtorEq, false_implies, true_implies, not_false_eq_true, not_true_eq_false, Int.reduceEq, KRE, C_Model_tellRow, la, ls, lr]
  refine loopQ n.toNat (fun i ls M1 => M1 = mTell M s r A i ∧ ls = [some (.inr a), some (.inr s), some (.inr r), some (.inl n), some (.inl i)]) ?_ _ _ ⟨?_, rfl⟩
  · rintro i _ _ hi ⟨rfl, rfl⟩ K
    refine wpm_of (cuts := [3]) (by decide) 100 _ _ _ _ ?_
    simp (maxSteps := 2000000) only [↓reduceIte, wp_eq, wpd_eq, kont_eq, STP1, STP2, STP3, STP4, STP5, konM_eq, AMK, CZ, Option.map, List.getElem?_cons_zero, List.getElem?_cons_succ, List.mem_cons, List.not_mem_nil, if_false, if_true, Nat.reduceAdd, Nat.reduceLT, Nat.reduceLeDiff, Nat.reduceEqDiff, true_and, and_true, List.length_nil, List.length_cons, or_true, true_or, or_false, false_or, Option.some.injEq, Sum.inl.injEq, Sum.inr.injEq, exists_eq_left', exists_eq_left, Int.reduceLE, Int.reduceLT, Int.reduceNeg, Int.reduceAdd, Int.reduceMul, Int.reduceSub, Int.reduceToNat, inR, Nat.zero_ne_one, false_and, Nat.succ_ne_zero, reduceCtorEq, false_implies, true_implies, not_false_eq_true, not_true_eq_false, Int.reduceEq, KRE, C_Model_tellRow, la, ls, lr]
    refine ⟨by omega, by omega, fun z => ?_, fun z => ?_⟩
    · rw [show (i : Int) = n by omega]
    · refine (Model_stepAt_ok la hn hl hl2 ⟨by omega, by omega⟩ (hk _ (fun j => ?_))).eq ?_
      · simp [mTell, Ne.symm ne.1, Ne.symm ne.2.1]
      · refine ⟨by omega, ?_⟩
        refine (Model_rankAt_ok la hn hl hl2 ⟨by omega, by omega⟩ (hk _ (fun j => ?_))).eq ?_
        · simp [mset, mTell, Ne.symm ne.1, Ne.symm ne.2.1]
        · refine ⟨by omega, ?_⟩
          refine K (by omega) _ _ ⟨?_, rfl⟩
          funext b j
          simp only [mset, mTell, natT]
          by_cases hj : j = i
          · subst hj
            grind
          · grind
  · funext b j
    simp only [mTell]
    grind

