/-! THE REFERENCE, 6: links and pieces. -/
def lkAll (n : Nat) (x : Lks) : Prop := ∀ j, j < x.1 → (0 ≤ x.2 0 j ∧ x.2 0 j < n) ∧ (0 ≤ x.2 1 j ∧ x.2 1 j < n)
theorem lkAll_ins {n : Nat} {v : Nat → Int} {x : Lks} (h : lkAll n x) (h0 : 0 ≤ v 0 ∧ v 0 < n) (h1 : 0 ≤ v 1 ∧ v 1 < n) : lkAll n (lkIns v x) := by
  intro j hj
  have hj' : j < x.1 + 1 := hj
  have hp := lkPos_le (x.2 3) (v 3) x.1
  show (0 ≤ (if j < lkPos (x.2 3) (v 3) x.1 then x.2 0 j else if j = lkPos (x.2 3) (v 3) x.1 then v 0 else x.2 0 (j - 1)) ∧ (if j < lkPos (x.2 3) (v 3) x.1 then x.2 0 j else if j = lkPos (x.2 3) (v 3) x.1 then v 0 else x.2 0 (j - 1)) < n) ∧ 0 ≤ (if j < lkPos (x.2 3) (v 3) x.1 then x.2 1 j else if j = lkPos (x.2 3) (v 3) x.1 then v 1 else x.2 1 (j - 1)) ∧ (if j < lkPos (x.2 3) (v 3) x.1 then x.2 1 j else if j = lkPos (x.2 3) (v 3) x.1 then v 1 else x.2 1 (j - 1)) < n
  by_cases c1 : j < lkPos (x.2 3) (v 3) x.1
  · simp only [c1, if_true]
    exact h j (by omega)
  · by_cases c2 : j = lkPos (x.2 3) (v 3) x.1
    · rw [if_neg c1, if_pos c2, if_neg c1, if_pos c2]
      exact ⟨h0, h1⟩
    · rw [if_neg c1, if_neg c2, if_neg c1, if_neg c2]
      exact h (j - 1) (by omega)
theorem lkRow_A {T : Nat → Rw} {lap bnd mrg : Int} {a n : Nat} {X : Lks} (ha : a < n) (hX : lkAll n X) : ∀ m, m ≤ n → lkAll n (foldN (lkRowS T lap bnd mrg a) X m)
  | 0, _ => hX
  | m + 1, h => by
    have i := lkRow_A (T := T) (lap := lap) (bnd := bnd) (mrg := mrg) ha hX m (by omega)
    rw [foldN]
    unfold lkRowS lkStep
    split
    · split
      · exact lkAll_ins i ⟨by simp [lkV], by simp [lkV]; omega⟩ ⟨by simp [lkV], by simp [lkV]; omega⟩
      · exact i
    · exact i
theorem lks_A {T : Nat → Rw} {lap bnd mrg : Int} {n : Nat} : ∀ a, a ≤ n → lkAll n (lks T lap bnd mrg n a)
  | 0, _ => fun j hj => absurd (show j < 0 from hj) (by omega)
  | a + 1, h => by
    have i := lks_A (T := T) (lap := lap) (bnd := bnd) (mrg := mrg) (n := n) a (by omega)
    exact lkRow_A (X := lks T lap bnd mrg n a) (by omega) i n (Nat.le_refl _)
set_option maxHeartbeats 600000 in
set_option maxRecDepth 20000 in
theorem Model_keepLink_ok {a b s c : Int} {x : Lks} {M : Mm} (hx : lkIs M 169 x) (hr : lkR x) (hk : M 154 49 = x.1) (h28 : x.1 < 28) (h6 : M 154 36 = s) (h7 : M 154 37 = c) (hc : 0 ≤ c ∧ c ≤ 100) : CallV m_Model_keepLink [.inr 154, .inl a, .inl b] M (fun M' => lkIs M' 169 (lkIns (lkV a b s c) x) ∧ M' 154 49 = x.1 + 1 ∧ FrP (fun b j => b = 154 ∧ j = 49 ∨ 169 ≤ b ∧ b < 173) M M') := by
  have e3 : ∀ j, j < x.1 → M 172 j = x.2 3 j := hx 3 (by omega)
  refine callP_of (by decide) (by decide) (Nat.le_of_ble_eq_true rfl) (wpm_of (cuts := [5]) (by decide) 50 _ _ _ _ ?_)
  rw [show lM m_Model_keepLink = 4 from rfl]
  simp (maxSteps := 2000000) only [↓reduceIte, wp_eq, wpd_eq, kont_eq, STP1, STP2, STP3, STP4, STP5, konM_eq, AMK, CZ, Option.map, List.getElem?_cons_zero, List.getElem?_cons_succ, List.mem_cons, List.not_mem_nil, if_false, if_true, Nat.reduceAdd, Nat.reduceLT, Nat.reduceLeDiff, Nat.reduceEqDiff, true_and, and_true, List.length_nil, List.length_cons, or_true, true_or, or_false, false_or, Option.some.injEq, Sum.inl.injEq, Sum.inr.injEq, exists_eq_left', exists_eq_left, Int.reduceLE, Int.reduceLT, Int.reduceNeg, Int.reduceAdd, Int.reduceMul, Int.reduceSub, Int.reduceToNat, inR, Nat.zero_ne_one, false_and, Nat.succ_ne_zero, reduceCtorEq, false_implies, true_implies, not_false_eq_true, not_true_eq_false, Int.reduceEq, KRE, C_Model_keepLink, FM, hk]
  refine loopQ x.1 (fun d ls M1 => M1 = mShf M 169 x.1 (x.1 - d) ∧ lkPos (x.2 3) c x.1 = lkPos (x.2 3) c (x.1 - d) ∧ ls = [some (.inr 154), some (.inl a), some (.inl b), some (.inl ((x.1 - d : Nat) : Int))]) ?_ _ _ ⟨by rw [Nat.sub_zero, mShf_0], rfl, by rw [Nat.sub_zero]⟩
  rintro d _ _ hd ⟨rfl, hp, rfl⟩ K
  generalize hi : x.1 - d = i at *
  have g9 : mShf M 169 x.1 i 154 49 = x.1 := (mShf_get (Or.inl (by omega))).trans hk
  have g6 : mShf M 169 x.1 i 154 36 = s := (mShf_get (Or.inl (by omega))).trans h6
  have g7 : mShf M 169 x.1 i 154 37 = c := (mShf_get (Or.inl (by omega))).trans h7
  have fin : lkPos (x.2 3) c i = i → lkIs (mset (mset (mset (mset (mset (mShf M 169 x.1 i) 169 i a) 170 i b) 171 i s) 172 i c) 154 49 (x.1 + 1)) 169 (lkIns (lkV a b s c) x) ∧ mset (mset (mset (mset (mset (mShf M 169 x.1 i) 169 i a) 170 i b) 171 i s) 172 i c) 154 49 (x.1 + 1) 154 49 = x.1 + 1 ∧ FrP (fun b j => b = 154 ∧ j = 49 ∨ 169 ≤ b ∧ b < 173) M (mset (mset (mset (mset (mset (mShf M 169 x.1 i) 169 i a) 170 i b) 171 i s) 172 i c) 154 49 (x.1 + 1)) := by
    intro hpi
    refine ⟨mShf_e hx rfl (p := i) (by rw [show lkV a b s c 3 = c from rfl, hp, hpi]) (fun q hq j => ?_), by simp [mset], ?_⟩
    · rcases (show q = 0 ∨ q = 1 ∨ q = 2 ∨ q = 3 by omega) with rfl | rfl | rfl | rfl <;> simp [mset, lkV]
    · refine (((((?_ : FrP (fun b j => b = 154 ∧ j = 49 ∨ 169 ≤ b ∧ b < 173) M (mShf M 169 x.1 i)).st (Or.inr (by omega))).st (Or.inr (by omega))).st (Or.inr (by omega))).st (Or.inr (by omega))).st (Or.inl ⟨rfl, rfl⟩)
      intro q j hq
      exact mShf_get (by omega)
  have OUT : lkPos (x.2 3) c i = i → WPm m_Model_keepLink (fun v M' => v = none ∧ lkIs M' 169 (lkIns (lkV a b s c) x) ∧ M' 154 49 = x.1 + 1 ∧ FrP (fun b j => b = 154 ∧ j = 49 ∨ 169 ≤ b ∧ b < 173) M M') 86 [some (.inr 154), some (.inl a), some (.inl b), some (.inl (i : Int))] [] (mShf M 169 x.1 i) := by
    intro hpi
    have f' := fin hpi
    refine wpm_of (cuts := []) (by decide) 100 _ _ _ _ ?_
    simp (maxSteps := 2000000) only [↓reduceIte, wp_eq, wpd_eq, kont_eq, STP1, STP2, STP3, STP4, STP5, konM_eq, AMK, CZ, Option.map, List.getElem?_cons_zero, List.getElem?_cons_succ, List.mem_cons, List.not_mem_nil, if_false, if_true, Nat.reduceAdd, Nat.reduceLT, Nat.reduceLeDiff, Nat.reduceEqDiff, true_and, and_true, List.length_nil, List.length_cons, or_true, true_or, or_false, false_or, Option.some.injEq, Sum.inl.injEq, Sum.inr.injEq, exists_eq_left', exists_eq_left, Int.reduceLE, Int.reduceLT, Int.reduceNeg, Int.reduceAdd, Int.reduceMul, Int.reduceSub, Int.reduceToNat, inR, Nat.zero_ne_one, false_and, Nat.succ_ne_zero, reduceCtorEq, false_implies, true_implies, not_false_eq_true, not_true_eq_false, Int.reduceEq, KRE, C_Model_keepLink, FM, g9, g6, g7, MSE, natT]
    repeat (first | refine ⟨by omega, ?_⟩ | refine ⟨fun _ _ => okt_nn (by omega), ?_⟩)
    try (first | (show _ ≤ _; omega) | (show _ < _; omega))
    exact ⟨f'.1, f'.2.2⟩
  clear fin
  by_cases hz : i = 0
  · have f' := OUT (by rw [hz]; rfl)
    subst hz
    refine wpm_of (cuts := [5, 86]) (by decide) 100 _ _ _ _ ?_
    simp (maxSteps := 2000000) only [↓reduceIte, wp_eq, wpd_eq, kont_eq, STP1, STP2, STP3, STP4, STP5, konM_eq, AMK, CZ, Option.map, List.getElem?_cons_zero, List.getElem?_cons_succ, List.mem_cons, List.not_mem_nil, if_false, if_true, Nat.reduceAdd, Nat.reduceLT, Nat.reduceLeDiff, Nat.reduceEqDiff, true_and, and_true, List.length_nil, List.length_cons, or_true, true_or, or_false, false_or, Option.some.injEq, Sum.inl.injEq, Sum.inr.injEq, exists_eq_left', exists_eq_left, Int.reduceLE, Int.reduceLT, Int.reduceNeg, Int.reduceAdd, Int.reduceMul, Int.reduceSub, Int.reduceToNat, inR, Nat.zero_ne_one, false_and, Nat.succ_ne_zero, reduceCtorEq, false_implies, true_implies, not_false_eq_true, not_true_eq_false, Int.reduceEq, KRE, C_Model_keepLink, FM, Int.natCast_zero]
    exact f'
  · have hz2 : ¬ ((i : Int) ≤ 0) := by omega
    have hi1 : ((i : Int) - 1).toNat = i - 1 := by omega
    have eC : mShf M 169 x.1 i 172 (i - 1) = x.2 3 (i - 1) := (mShf_get (Or.inr (Or.inr (by omega)))).trans (e3 _ (by omega))
    have rC := (hr.2 (i - 1) (by omega)).2.2.2
    have eP : lkPos (x.2 3) c i = if x.2 3 (i - 1) < c then lkPos (x.2 3) c (i - 1) else i := by
      obtain ⟨m, rfl⟩ : ∃ m, i = m + 1 := ⟨i - 1, by omega⟩
      rfl
    by_cases hc2 : c ≤ x.2 3 (i - 1)
    · rw [if_neg (by omega)] at eP
      have f' := OUT eP
      refine wpm_of (cuts := [5, 86]) (by decide) 100 _ _ _ _ ?_
      simp (maxSteps := 2000000) only [↓reduceIte, wp_eq, wpd_eq, kont_eq, STP1, STP2, STP3, STP4, STP5, konM_eq, AMK, CZ, Option.map, List.getElem?_cons_zero, List.getElem?_cons_succ, List.mem_cons, List.not_mem_nil, if_false, if_true, Nat.reduceAdd, Nat.reduceLT, Nat.reduceLeDiff, Nat.reduceEqDiff, true_and, and_true, List.length_nil, List.length_cons, or_true, true_or, or_false, false_or, Option.some.injEq, Sum.inl.injEq, Sum.inr.injEq, exists_eq_left', exists_eq_left, Int.reduceLE, Int.reduceLT, Int.reduceNeg, Int.reduceAdd, Int.reduceMul, Int.reduceSub, Int.reduceToNat, inR, Nat.zero_ne_one, false_and, Nat.succ_ne_zero, reduceCtorEq, false_implies, true_implies, not_false_eq_true, not_true_eq_false, Int.reduceEq, KRE, C_Model_keepLink, FM, natT, hz2, hi1, eC, g7, hc2]
      repeat (first | refine ⟨by omega, ?_⟩ | refine ⟨fun _ _ => okt_nn (by omega), ?_⟩)
      try (first | (show _ ≤ _; omega) | (show _ < _; omega))
      exact f'
    · rw [if_pos (by omega)] at eP
      have K' := K (by omega)
      rw [show x.1 - (d + 1) = i - 1 by omega] at K'
      have K'' := K' _ _ ⟨rfl, by rw [hp, eP], rfl⟩
      refine wpm_of (cuts := [5, 86]) (by decide) 100 _ _ _ _ ?_
      simp (maxSteps := 2000000) only [↓reduceIte, wp_eq, wpd_eq, kont_eq, STP1, STP2, STP3, STP4, STP5, konM_eq, AMK, CZ, Option.map, List.getElem?_cons_zero, List.getElem?_cons_succ, List.mem_cons, List.not_mem_nil, if_false, if_true, Nat.reduceAdd, Nat.reduceLT, Nat.reduceLeDiff, Nat.reduceEqDiff, true_and, and_true, List.length_nil, List.length_cons, or_true, true_or, or_false, false_or, Option.some.injEq, Sum.inl.injEq, Sum.inr.injEq, exists_eq_left', exists_eq_left, Int.reduceLE, Int.reduceLT, Int.reduceNeg, Int.reduceAdd, Int.reduceMul, Int.reduceSub, Int.reduceToNat, inR, Nat.zero_ne_one, false_and, Nat.succ_ne_zero, reduceCtorEq, false_implies, true_implies, not_false_eq_true, not_true_eq_false, Int.reduceEq, KRE, C_Model_keepLink, FM, natT, hz2, hi1, eC, g7, hc2]
      repeat (first | refine ⟨by omega, ?_⟩ | refine ⟨fun _ _ => okt_nn (by omega), ?_⟩)
      try (first | (show _ ≤ _; omega) | (show _ < _; omega))
      refine WPm.eqL K'' ?_ rfl ?_
      · rw [show ((i - 1 : Nat) : Int) = i + -1 by omega]
      · funext b j
        simp only [mset, mShf]
        clear K K' K'' hx hr e3 hp eP OUT
        by_cases hj : j = i
        · subst hj
          grind
        · grind
/-- pieces of the reference: the same parts, the same differences -/
def mqI (n : Nat) (y x : Pcs) : Prop := ∀ s t, s < n → t < n → (y.1 s = y.1 t ↔ x.1 s = x.1 t) ∧ (x.1 s = x.1 t → y.2 t - y.2 s = x.2 t - x.2 s)
def mqJ (one other by_ : Int) (y : Pcs) : Pcs := (fun t => if y.1 t = other then one else y.1 t, fun t => if y.1 t = other then y.2 t + by_ else y.2 t)
def mqS (F : Nat → Nat → Int) (i : Nat) (y : Pcs) : Pcs := if y.1 (F 0 i).toNat ≠ y.1 (F 1 i).toNat then mqJ (y.1 (F 0 i).toNat) (y.1 (F 1 i).toNat) (y.2 (F 0 i).toNat + F 2 i - y.2 (F 1 i).toNat) y else y
def mqN (F : Nat → Nat → Int) (k : Nat) : Pcs := foldN (fun i x => mqS F i x) (fun t => (t : Int), fun _ => 0) k
theorem mq_core {q1 q2 qa qb l1 l2 la lb r1 r2 ra rb p1 p2 pa pb s : Int} (e1 : q1 = q2 ↔ l1 = l2) (e2 : q1 = qb ↔ l1 = lb) (e3 : q2 = qb ↔ l2 = lb) (e4 : q1 = qa ↔ l1 = la) (e5 : q2 = qa ↔ l2 = la) (e6 : qa = qb ↔ la = lb) (hne : la ≠ lb)
    (d1 : l1 = l2 → r2 - r1 = p2 - p1) (d2 : l1 = lb → rb - r1 = pb - p1) (d3 : l2 = lb → rb - r2 = pb - p2) (d4 : l1 = la → ra - r1 = pa - p1) (d5 : l2 = la → ra - r2 = pa - p2) :
    ((if q1 = qb then qa else q1) = (if q2 = qb then qa else q2) ↔ (if min la lb = la ∧ l1 = lb then la else if min la lb = lb ∧ l1 = la then lb else l1) = (if min la lb = la ∧ l2 = lb then la else if min la lb = lb ∧ l2 = la then lb else l2)) ∧
    ((if min la lb = la ∧ l1 = lb then la else if min la lb = lb ∧ l1 = la then lb else l1) = (if min la lb = la ∧ l2 = lb then la else if min la lb = lb ∧ l2 = la then lb else l2) →
      (if q2 = qb then r2 + (ra + s - rb) else r2) - (if q1 = qb then r1 + (ra + s - rb) else r1) = (if min la lb = la ∧ l2 = lb then p2 + (pa + s - pb) else if min la lb = lb ∧ l2 = la then p2 - (pa + s - pb) else p2) - (if min la lb = la ∧ l1 = lb then p1 + (pa + s - pb) else if min la lb = lb ∧ l1 = la then p1 - (pa + s - pb) else p1)) := by
  by_cases c3 : min la lb = la
  · have c4 : ¬ min la lb = lb := by omega
    simp only [c3, true_and]
    have c5 : ¬ la = lb := hne
    simp only [c5, false_and, if_false]
    clear c3 c4 c5
    grind
  · have c4 : min la lb = lb := by omega
    simp only [c4, true_and]
    have c5 : ¬ lb = la := fun z => hne z.symm
    simp only [c5, false_and, if_false]
    clear c3 c4 c5
    grind
theorem mqI_J {n a b : Nat} {s : Int} {x y : Pcs} (h : mqI n y x) (ha : a < n) (hb : b < n) (hne : x.1 a ≠ x.1 b) : mqI n (mqJ (y.1 a) (y.1 b) (y.2 a + s - y.2 b) y) (pcJ (x.1 a) (x.1 b) (x.2 a + s - x.2 b) x) := by
  intro u v hu hv
  obtain ⟨e1, d1⟩ := h u v hu hv
  obtain ⟨e2, d2⟩ := h u b hu hb
  obtain ⟨e3, d3⟩ := h v b hv hb
  obtain ⟨e4, d4⟩ := h u a hu ha
  obtain ⟨e5, d5⟩ := h v a hv ha
  obtain ⟨e6, -⟩ := h a b ha hb
  exact mq_core e1 e2 e3 e4 e5 e6 hne d1 d2 d3 d4 d5
theorem mqI_N {n : Nat} {X : Lks} (hA : lkAll n X) : ∀ k, k ≤ X.1 → mqI n (mqN X.2 k) (pcN X.2 k)
  | 0, _ => fun s t _ _ => ⟨Iff.rfl, fun _ => rfl⟩
  | k + 1, h => by
    have i := mqI_N hA k (by omega)
    obtain ⟨a0, a1⟩ := hA k (by omega)
    have e := (i (X.2 0 k).toNat (X.2 1 k).toNat (by omega) (by omega)).1
    rw [pcN_succ, show mqN X.2 (k + 1) = mqS X.2 k (mqN X.2 k) from rfl]
    unfold mqS pcS
    by_cases c : (pcN X.2 k).1 (X.2 0 k).toNat = (pcN X.2 k).1 (X.2 1 k).toNat
    · rw [if_neg (fun z => z (e.mpr c)), if_neg (fun z => z c)]
      exact i
    · rw [if_pos (fun z => c (e.mp z)), if_pos c]
      exact mqI_J i (by omega) (by omega) c
theorem mqR_N {n : Nat} {X : Lks} (hn : n ≤ 8) (hA : lkAll n X) : ∀ k, k ≤ X.1 → ∀ t, t < n → 0 ≤ (mqN X.2 k).1 t ∧ (mqN X.2 k).1 t ≤ 7
  | 0, _, t, ht => ⟨Int.natCast_nonneg t, by show (t : Int) ≤ 7; omega⟩
  | k + 1, h, t, ht => by
    have i := mqR_N hn hA k (by omega)
    obtain ⟨a0, a1⟩ := hA k (by omega)
    have i0 := i (X.2 0 k).toNat (by omega)
    have it := i t ht
    rw [show mqN X.2 (k + 1) = mqS X.2 k (mqN X.2 k) from rfl]
    unfold mqS
    split
    · simp only [mqJ]
      split
      · exact i0
      · exact it
    · exact it
theorem pcT_stay {X : Lks} {i : Nat} (h : pcT X.2 i = 0) : ∀ k, i ≤ k → (pcN X.2 k).1 (X.2 0 i).toNat = (pcN X.2 k).1 (X.2 1 i).toNat := by
  have e0 : (pcN X.2 i).1 (X.2 0 i).toNat = (pcN X.2 i).1 (X.2 1 i).toNat := by
    unfold pcT at h
    split at h
    · omega
    · rename_i z
      exact Decidable.not_not.mp z
  intro k hk
  obtain ⟨d, rfl⟩ : ∃ d, k = i + d := ⟨k - i, by omega⟩
  clear hk
  induction d with
  | zero => exact e0
  | succ d ih =>
    rw [← Nat.add_assoc, pcN_succ]
    unfold pcS
    split
    · simp only [pcJ, ih]
    · exact ih
def mPcM (M : Mm) (y : Pcs) (k : Nat) : Mm := fun b j => if b = 173 ∧ j < k then y.1 j else if b = 174 ∧ j < k then y.2 j else M b j
set_option maxHeartbeats 600000 in
set_option maxRecDepth 20000 in
theorem Model_joins_ok {n k : Nat} {X : Lks} {y : Pcs} {M : Mm} (hn : n ≤ 8) (en : M 156 0 = n) (hA : lkAll n X) (hX : X.1 ≤ 28) (hx : lkIs M 169 X) (hk : k < X.1) (hy : ∀ t, t < n → M 173 t = y.1 t ∧ M 174 t = y.2 t) (hr : ∀ t, t < n → 0 ≤ y.1 t ∧ y.1 t ≤ 7) :
    CallV m_Model_joins [.inr 154, .inl (k : Int)] M (fun M' => M' = mPcM M (mqJ (y.1 (X.2 0 k).toNat) (y.1 (X.2 1 k).toNat) (y.2 (X.2 0 k).toNat + X.2 2 k - y.2 (X.2 1 k).toNat) y) n) := by
  have g0 : M 169 k = X.2 0 k := hx 0 (by omega) k hk
  have g1 : M 170 k = X.2 1 k := hx 1 (by omega) k hk
  have g2 : M 171 k = X.2 2 k := hx 2 (by omega) k hk
  obtain ⟨a0, a1⟩ := hA k hk
  obtain ⟨y0, z0⟩ := hy (X.2 0 k).toNat (by omega)
  obtain ⟨y1, z1⟩ := hy (X.2 1 k).toNat (by omega)
  have r1 := hr (X.2 1 k).toNat (by omega)
  refine callP_of (by decide) (by decide) (Nat.le_of_ble_eq_true rfl) (wpm_of (cuts := [59]) (by decide) 60 _ _ _ _ ?_)
  rw [show lM m_Model_joins = 6 from rfl]
  simp (maxSteps := 2000000) only [↓reduceIte, wp_eq, wpd_eq, kont_eq, STP1, STP2, STP3, STP4, STP5, konM_eq, AMK, CZ, Option.map, List.getElem?_cons_zero, List.getElem?_cons_succ, List.mem_cons, List.not_mem_nil, if_false, if_true, Nat.reduceAdd, Nat.reduceLT, Nat.reduceLeDiff, Nat.reduceEqDiff, true_and, and_true, List.length_nil, List.length_cons, or_true, true_or, or_false, false_or, Option.some.injEq, Sum.inl.injEq, Sum.inr.injEq, exists_eq_left', exists_eq_left, Int.reduceLE, Int.reduceLT, Int.reduceNeg, Int.reduceAdd, Int.reduceMul, Int.reduceSub, Int.reduceToNat, inR, Nat.zero_ne_one, false_and, Nat.succ_ne_zero, reduceCtorEq, false_implies, true_implies, not_false_eq_true, not_true_eq_false, Int.reduceEq, KRE, C_Model_joins, FM, natT, g0, g1, g2, y0, y1, z0, z1]
  repeat (first | refine ⟨by omega, ?_⟩ | refine ⟨fun _ _ => okt_nn (by omega), ?_⟩)
  try (first | (show _ ≤ _; omega) | (show _ < _; omega))
  generalize y.1 (X.2 0 k).toNat = one
  generalize y.1 (X.2 1 k).toNat = other at *
  generalize y.2 (X.2 0 k).toNat + X.2 2 k - y.2 (X.2 1 k).toNat = bb
  refine loopQ n (fun t ls M1 => M1 = mPcM M (mqJ one other bb y) t ∧ ls = [some (.inr 154), some (.inl (k : Int)), some (.inl one), some (.inl other), some (.inl bb), some (.inl (t : Int))]) ?_ _ _ ⟨?_, rfl⟩
  · rintro t _ _ ht ⟨rfl, rfl⟩ K
    have en1 : mPcM M (mqJ one other bb y) t 156 0 = n := by rw [← en]; simp [mPcM]
    by_cases c : t = n
    · subst c
      have c' := eq_true (show (t : Int) ≤ t by omega)
      refine wpm_of (cuts := [59]) (by decide) 60 _ _ _ _ ?_
      simp (maxSteps := 2000000) only [↓reduceIte, wp_eq, wpd_eq, kont_eq, STP1, STP2, STP3, STP4, STP5, konM_eq, AMK, CZ, Option.map, List.getElem?_cons_zero, List.getElem?_cons_succ, List.mem_cons, List.not_mem_nil, if_false, if_true, Nat.reduceAdd, Nat.reduceLT, Nat.reduceLeDiff, Nat.reduceEqDiff, true_and, and_true, List.length_nil, List.length_cons, or_true, true_or, or_false, false_or, Option.some.injEq, Sum.inl.injEq, Sum.inr.injEq, exists_eq_left', exists_eq_left, Int.reduceLE, Int.reduceLT, Int.reduceNeg, Int.reduceAdd, Int.reduceMul, Int.reduceSub, Int.reduceToNat, inR, Nat.zero_ne_one, false_and, Nat.succ_ne_zero, reduceCtorEq, false_implies, true_implies, not_false_eq_true, not_true_eq_false, Int.reduceEq, KRE, C_Model_joins, FM, en1, c']
      repeat (first | refine ⟨by omega, ?_⟩ | refine ⟨fun _ _ => okt_nn (by omega), ?_⟩)
      try (first | (show _ ≤ _; omega) | (show _ < _; omega))
    · have htn : t < n := by omega
      have c' := eq_false (show ¬ (n : Int) ≤ t by omega)
      have K' := K htn _ _ ⟨rfl, rfl⟩
      have q3 : mPcM M (mqJ one other bb y) t 173 t = y.1 t := by rw [← (hy t htn).1]; simp [mPcM]
      have q4 : mPcM M (mqJ one other bb y) t 174 t = y.2 t := by rw [← (hy t htn).2]; simp [mPcM]
      have rt := hr t htn
      have e1 : (mqJ one other bb y).1 t = if y.1 t = other then one else y.1 t := rfl
      have e2 : (mqJ one other bb y).2 t = if y.1 t = other then y.2 t + bb else y.2 t := rfl
      have fin : ∀ v w, v = (mqJ one other bb y).1 t → w = (mqJ one other bb y).2 t → mset (mset (mPcM M (mqJ one other bb y) t) 173 t v) 174 t w = mPcM M (mqJ one other bb y) (t + 1) := by
        intro v w hv hw
        subst hv; subst hw
        generalize mqJ one other bb y = z
        funext b j
        simp only [mset, mPcM]
        by_cases hj : j = t
        · subst hj
          grind
        · grind
      by_cases c1 : y.1 t = other
      · rw [if_pos c1] at e1 e2
        have c1' := eq_true c1
        have f := fin one (y.2 t + bb) e1.symm e2.symm
        refine wpm_of (cuts := [59]) (by decide) 60 _ _ _ _ ?_
        simp (maxSteps := 2000000) only [↓reduceIte, wp_eq, wpd_eq, kont_eq, STP1, STP2, STP3, STP4, STP5, konM_eq, AMK, CZ, Option.map, List.getElem?_cons_zero, List.getElem?_cons_succ, List.mem_cons, List.not_mem_nil, if_false, if_true, Nat.reduceAdd, Nat.reduceLT, Nat.reduceLeDiff, Nat.reduceEqDiff, true_and, and_true, List.length_nil, List.length_cons, or_true, true_or, or_false, false_or, Option.some.injEq, Sum.inl.injEq, Sum.inr.injEq, exists_eq_left', exists_eq_left, Int.reduceLE, Int.reduceLT, Int.reduceNeg, Int.reduceAdd, Int.reduceMul, Int.reduceSub, Int.reduceToNat, inR, Nat.zero_ne_one, false_and, Nat.succ_ne_zero, reduceCtorEq, false_implies, true_implies, not_false_eq_true, not_true_eq_false, Int.reduceEq, KRE, C_Model_joins, FM, natT, en1, c', q3, q4, c1', MSE]
        repeat (first | refine ⟨by omega, ?_⟩ | refine ⟨fun _ _ => okt_nn (by omega), ?_⟩)
        try (first | (show _ ≤ _; omega) | (show _ < _; omega))
        exact WPm.eqM K' f.symm
      · rw [if_neg c1] at e1 e2
        have c1' := eq_false c1
        have f := fin (y.1 t) (y.2 t) e1.symm e2.symm
        have f2 : mset (mset (mPcM M (mqJ one other bb y) t) 173 t (y.1 t)) 174 t (y.2 t) = mPcM M (mqJ one other bb y) t := by
          rw [← q3, mset_same, ← q4, mset_same]
        refine wpm_of (cuts := [59]) (by decide) 60 _ _ _ _ ?_
        simp (maxSteps := 2000000) only [↓reduceIte, wp_eq, wpd_eq, kont_eq, STP1, STP2, STP3, STP4, STP5, konM_eq, AMK, CZ, Option.map, List.getElem?_cons_zero, List.getElem?_cons_succ, List.mem_cons, List.not_mem_nil, if_false, if_true, Nat.reduceAdd, Nat.reduceLT, Nat.reduceLeDiff, Nat.reduceEqDiff, true_and, and_true, List.length_nil, List.length_cons, or_true, true_or, or_false, false_or, Option.some.injEq, Sum.inl.injEq, Sum.inr.injEq, exists_eq_left', exists_eq_left, Int.reduceLE, Int.reduceLT, Int.reduceNeg, Int.reduceAdd, Int.reduceMul, Int.reduceSub, Int.reduceToNat, inR, Nat.zero_ne_one, false_and, Nat.succ_ne_zero, reduceCtorEq, false_implies, true_implies, not_false_eq_true, not_true_eq_false, Int.reduceEq, KRE, C_Model_joins, FM, natT, en1, c', q3, q4, c1']
        repeat (first | refine ⟨by omega, ?_⟩ | refine ⟨fun _ _ => okt_nn (by omega), ?_⟩)
        try (first | (show _ ≤ _; omega) | (show _ < _; omega))
        exact WPm.eqM K' (f2.symm.trans f).symm
  · funext b j
    simp [mPcM]
/-- links, pieces and places as the reference has them, behind tellLinks -/
def linkM (M : Mm) (n : Nat) (X : Lks) : Prop := lkR X ∧ lkAll n X ∧ lkIs M 169 X ∧ M 154 49 = X.1 ∧ (∀ i, i < X.1 → M 175 i = pcT X.2 i) ∧ (∀ t, t < n → M 176 t = (pcN X.2 X.1).1 t) ∧ mqI n (fun t => M 173 t, fun t => M 174 t) (pcN X.2 X.1)
def linkP : Nat → Nat → Prop := fun b j => b = 154 ∧ (26 ≤ j ∧ j ≤ 41 ∨ j = 49) ∨ 162 ≤ b ∧ b ≤ 176
/-- the least of a piece, among those below t -/
def lsM (Q : Nat → Int) (t : Nat) (k : Nat) : Int := foldN (fun o x => if Q o = Q t then min x o else x) (t : Int) k
theorem lsM_in (Q : Nat → Int) (t : Nat) : ∀ k, k ≤ t → 0 ≤ lsM Q t k ∧ lsM Q t k ≤ t
  | 0, _ => ⟨Int.natCast_nonneg t, Int.le_refl _⟩
  | k + 1, h => by
    have i := lsM_in Q t k (by omega)
    unfold lsM at *
    rw [foldN]
    split <;> omega
theorem lsM_is (Q : Nat → Int) (t : Nat) {u : Nat} (hu : u ≤ t) (h1 : u < t → Q u = Q t) (h2 : ∀ o, o < u → Q o ≠ Q t) : ∀ k, k ≤ t → lsM Q t k = if u < k then (u : Int) else t
  | 0, _ => rfl
  | k + 1, h => by
    have i := lsM_is Q t hu h1 h2 k (by omega)
    unfold lsM at *
    rw [foldN, i]
    by_cases c : k < u
    · have := h2 k c
      rw [if_neg this, if_neg (by omega), if_neg (by omega)]
    · by_cases c2 : k = u
      · subst c2
        have := h1 (by omega)
        rw [if_pos this, if_neg (by omega), if_pos (by omega)]
        omega
      · rw [if_pos (show u < k by omega), if_pos (show u < k + 1 by omega)]
        split <;> omega
set_option maxHeartbeats 4000000 in
/-- the last loop: the least of each timber's piece -/
theorem Model_tellLinks_4 {n : Nat} {a2 a3 : Option AV} {X : Lks} {M : Mm} {Qc : Option AV → Mm → Prop} (hn : n ≤ 8) (en : M 156 0 = n) (hX : lkR X) (hq : mqI n (fun t => M 173 t, fun t => M 174 t) (pcN X.2 X.1)) (hr : ∀ t, t < n → 0 ≤ M 173 t ∧ M 173 t ≤ 7)
    (K : ∀ M', FrP (fun b _ => b = 176) M M' → (∀ t, t < n → M' 176 t = (pcN X.2 X.1).1 t) → Qc none M') :
    WPm m_Model_tellLinks Qc 172 [some (.inr 154), some (.inl (X.1 : Int)), a2, a3] [] M := by
  have pI := pcI_N hX X.1 (Nat.le_refl _)
  refine wpm_of (cuts := [181]) (by decide) 60 _ _ _ _ ?_
  simp (maxSteps := 2000000) only [↓reduceIte, wp_eq, wpd_eq, kont_eq, STP1, STP2, STP3, STP4, STP5, konM_eq, AMK, CZ, Option.map, List.getElem?_cons_zero, List.getElem?_cons_succ, List.mem_cons, List.not_mem_nil, if_false, if_true, Nat.reduceAdd, Nat.reduceLT, Nat.reduceLeDiff, Nat.reduceEqDiff, true_and, and_true, List.length_nil, List.length_cons, or_true, true_or, or_false, false_or, Option.some.injEq, Sum.inl.injEq, Sum.inr.injEq, exists_eq_left', exists_eq_left, Int.reduceLE, Int.reduceLT, Int.reduceNeg, Int.reduceAdd, Int.reduceMul, Int.reduceSub, Int.reduceToNat, inR, Nat.zero_ne_one, false_and, Nat.succ_ne_zero, reduceCtorEq, false_implies, true_implies, not_false_eq_true, not_true_eq_false, Int.reduceEq, KRE, C_Model_tellLinks, FM, en]
  refine loopQ n (fun d ls M1 => (FrP (fun b _ => b = 176) M M1 ∧ ∀ t, n - d ≤ t → t < n → M1 176 t = (pcN X.2 X.1).1 t) ∧ ∃ a2 a3, ls = [some (.inr 154), some (.inl ((n : Int) - 1 - d)), a2, a3]) ?_ _ _ ⟨⟨FrP.rf, fun t h1 h2 => by omega⟩, a2, a3, by simp⟩
  rintro d _ M1 hd ⟨⟨F, hL⟩, a2', a3', rfl⟩ KK
  by_cases c : d = n
  · subst c
    have c' := eq_true (show (d : Int) - 1 - d < 0 by omega)
    refine wpm_of (cuts := [181]) (by decide) 60 _ _ _ _ ?_
    simp (maxSteps := 2000000) only [↓reduceIte, wp_eq, wpd_eq, kont_eq, STP1, STP2, STP3, STP4, STP5, konM_eq, AMK, CZ, Option.map, List.getElem?_cons_zero, List.getElem?_cons_succ, List.mem_cons, List.not_mem_nil, if_false, if_true, Nat.reduceAdd, Nat.reduceLT, Nat.reduceLeDiff, Nat.reduceEqDiff, true_and, and_true, List.length_nil, List.length_cons, or_true, true_or, or_false, false_or, Option.some.injEq, Sum.inl.injEq, Sum.inr.injEq, exists_eq_left', exists_eq_left, Int.reduceLE, Int.reduceLT, Int.reduceNeg, Int.reduceAdd, Int.reduceMul, Int.reduceSub, Int.reduceToNat, inR, Nat.zero_ne_one, false_and, Nat.succ_ne_zero, reduceCtorEq, false_implies, true_implies, not_false_eq_true, not_true_eq_false, Int.reduceEq, KRE, C_Model_tellLinks, FM, c']
    repeat (first | refine ⟨by omega, ?_⟩ | refine ⟨fun _ _ => okt_nn (by omega), ?_⟩)
    try (first | (show _ ≤ _; omega) | (show _ < _; omega))
    exact K _ F (fun t ht => hL t (by omega) ht)
  · have c' := eq_false (show ¬ (n : Int) - 1 - d < 0 by omega)
    obtain ⟨t, et⟩ : ∃ t : Nat, (n : Int) - 1 - d = t := ⟨n - 1 - d, by omega⟩
    rw [et] at c' ⊢
    refine wpm_of (cuts := [181, 189]) (by decide) 60 _ _ _ _ ?_
    simp (maxSteps := 2000000) only [↓reduceIte, wp_eq, wpd_eq, kont_eq, STP1, STP2, STP3, STP4, STP5, konM_eq, AMK, CZ, Option.map, List.getElem?_cons_zero, List.getElem?_cons_succ, List.mem_cons, List.not_mem_nil, if_false, if_true, Nat.reduceAdd, Nat.reduceLT, Nat.reduceLeDiff, Nat.reduceEqDiff, true_and, and_true, List.length_nil, List.length_cons, or_true, true_or, or_false, false_or, Option.some.injEq, Sum.inl.injEq, Sum.inr.injEq, exists_eq_left', exists_eq_left, Int.reduceLE, Int.reduceLT, Int.reduceNeg, Int.reduceAdd, Int.reduceMul, Int.reduceSub, Int.reduceToNat, inR, Nat.zero_ne_one, false_and, Nat.succ_ne_zero, reduceCtorEq, false_implies, true_implies, not_false_eq_true, not_true_eq_false, Int.reduceEq, KRE, C_Model_tellLinks, FM, c']
    repeat (first | refine ⟨by omega, ?_⟩ | refine ⟨fun _ _ => okt_nn (by omega), ?_⟩)
    try (first | (show _ ≤ _; omega) | (show _ < _; omega))
    refine loopQ t (fun o ls M2 => M1 = M2 ∧ ls = [some (.inr 154), some (.inl (t : Int)), some (.inl (lsM (M 173) t o)), some (.inl (o : Int))]) ?_ _ _ ⟨rfl, rfl⟩
    rintro o _ _ ho ⟨rfl, rfl⟩ K3
    have e3 : ∀ j, M1 173 j = M 173 j := fun j => F _ _ (by omega)
    have li := lsM_in (M 173) t o ho
    by_cases c2 : o = t
    · subst c2
      have c2' := eq_true (show (o : Int) ≤ o by omega)
      refine wpm_of (cuts := [181, 189]) (by decide) 60 _ _ _ _ ?_
      simp (maxSteps := 2000000) only [↓reduceIte, wp_eq, wpd_eq, kont_eq, STP1, STP2, STP3, STP4, STP5, konM_eq, AMK, CZ, Option.map, List.getElem?_cons_zero, List.getElem?_cons_succ, List.mem_cons, List.not_mem_nil, if_false, if_true, Nat.reduceAdd, Nat.reduceLT, Nat.reduceLeDiff, Nat.reduceEqDiff, true_and, and_true, List.length_nil, List.length_cons, or_true, true_or, or_false, false_or, Option.some.injEq, Sum.inl.injEq, Sum.inr.injEq, exists_eq_left', exists_eq_left, Int.reduceLE, Int.reduceLT, Int.reduceNeg, Int.reduceAdd, Int.reduceMul, Int.reduceSub, Int.reduceToNat, inR, Nat.zero_ne_one, false_and, Nat.succ_ne_zero, reduceCtorEq, false_implies, true_implies, not_false_eq_true, not_true_eq_false, Int.reduceEq, KRE, C_Model_tellLinks, FM, natT, c2']
      repeat (first | refine ⟨by omega, ?_⟩ | refine ⟨fun _ _ => okt_nn (by omega), ?_⟩)
      try (first | (show _ ≤ _; omega) | (show _ < _; omega))
      refine KK (by omega) _ _ ⟨⟨F.st rfl, fun s h1 h2 => ?_⟩, some (.inl (lsM (M 173) o o)), some (.inl (o : Int)), ?_⟩
      · by_cases cs : s = o
        · subst cs
          have pt := pI.1 s (by omega)
          obtain ⟨u, eu⟩ : ∃ u : Nat, (pcN X.2 X.1).1 s = u := ⟨((pcN X.2 X.1).1 s).toNat, by omega⟩
          have pu : (pcN X.2 X.1).1 u = u := by
            have := pt.2.1
            rw [eu, natT] at this
            exact this
          have key := lsM_is (M 173) s (u := u) (by omega) (fun hus => by
            have := (hq u s (by omega) (by omega)).1
            exact this.mpr (by rw [pu, eu])) (fun o ho => by
            intro z
            have := (hq o s (by omega) (by omega)).1.mp z
            have po := (pI.1 o (by omega)).1
            omega) s (Nat.le_refl _)
          rw [key, eu]
          simp only [mset, if_true, true_and, and_self]
          by_cases hus : u < s
          · rw [if_pos hus]
          · rw [if_neg hus]; omega
        · simp only [mset]
          rw [if_neg (by omega)]
          exact hL s (by omega) h2
      · rw [natI, show (n : Int) - 1 - (d + 1) = (o : Int) + -1 by omega]
    · have hot : o < t := by omega
      have c2' := eq_false (show ¬ (t : Int) ≤ o by omega)
      have K3' := K3 hot _ _ ⟨rfl, rfl⟩
      have rt := hr t (by omega)
      have ro := hr o (by omega)
      rw [show lsM (M 173) t (o + 1) = if M 173 o = M 173 t then min (lsM (M 173) t o) o else lsM (M 173) t o from rfl] at K3'
      by_cases c3 : M 173 o = M 173 t
      · rw [if_pos c3] at K3'
        have c3' := eq_true c3
        refine wpm_of (cuts := [181, 189]) (by decide) 60 _ _ _ _ ?_
        simp (maxSteps := 2000000) only [↓reduceIte, wp_eq, wpd_eq, kont_eq, STP1, STP2, STP3, STP4, STP5, konM_eq, AMK, CZ, Option.map, List.getElem?_cons_zero, List.getElem?_cons_succ, List.mem_cons, List.not_mem_nil, if_false, if_true, Nat.reduceAdd, Nat.reduceLT, Nat.reduceLeDiff, Nat.reduceEqDiff, true_and, and_true, List.length_nil, List.length_cons, or_true, true_or, or_false, false_or, Option.some.injEq, Sum.inl.injEq, Sum.inr.injEq, exists_eq_left', exists_eq_left, Int.reduceLE, Int.reduceLT, Int.reduceNeg, Int.reduceAdd, Int.reduceMul, Int.reduceSub, Int.reduceToNat, inR, Nat.zero_ne_one, false_and, Nat.succ_ne_zero, reduceCtorEq, false_implies, true_implies, not_false_eq_true, not_true_eq_false, Int.reduceEq, KRE, C_Model_tellLinks, FM, natT, c2', e3, c3']
        repeat (first | refine ⟨by omega, ?_⟩ | refine ⟨fun _ _ => okt_nn (by omega), ?_⟩)
        try (first | (show _ ≤ _; omega) | (show _ < _; omega))
        exact K3'
      · rw [if_neg c3] at K3'
        have c3' := eq_false c3
        refine wpm_of (cuts := [181, 189]) (by decide) 60 _ _ _ _ ?_
        simp (maxSteps := 2000000) only [↓reduceIte, wp_eq, wpd_eq, kont_eq, STP1, STP2, STP3, STP4, STP5, konM_eq, AMK, CZ, Option.map, List.getElem?_cons_zero, List.getElem?_cons_succ, List.mem_cons, List.not_mem_nil, if_false, if_true, Nat.reduceAdd, Nat.reduceLT, Nat.reduceLeDiff, Nat.reduceEqDiff, true_and, and_true, List.length_nil, List.length_cons, or_true, true_or, or_false, false_or, Option.some.injEq, Sum.inl.injEq, Sum.inr.injEq, exists_eq_left', exists_eq_left, Int.reduceLE, Int.reduceLT, Int.reduceNeg, Int.reduceAdd, Int.reduceMul, Int.reduceSub, Int.reduceToNat, inR, Nat.zero_ne_one, false_and, Nat.succ_ne_zero, reduceCtorEq, false_implies, true_implies, not_false_eq_true, not_true_eq_false, Int.reduceEq, KRE, C_Model_tellLinks, FM, natT, c2', e3, c3']
        repeat (first | refine ⟨by omega, ?_⟩ | refine ⟨fun _ _ => okt_nn (by omega), ?_⟩)
        try (first | (show _ ≤ _; omega) | (show _ < _; omega))
        exact K3'
set_option maxHeartbeats 4000000 in
/-- pieces laid, then the links one by one -/
theorem Model_tellLinks_2 {n : Nat} {a1 a2 a3 : Option AV} {X : Lks} {M : Mm} {Qc : Option AV → Mm → Prop} (hn : n ≤ 8) (en : M 156 0 = n) (hX : lkR X) (hA : lkAll n X) (hx : lkIs M 169 X) (hk : M 154 49 = X.1)
    (K : ∀ M', FrP linkP M M' → linkM M' n X → Qc none M') :
    WPm m_Model_tellLinks Qc 74 [some (.inr 154), a1, a2, a3] [] M := by
  have h28 := hX.1
  refine wpm_of (cuts := [76]) (by decide) 60 _ _ _ _ ?_
  simp (maxSteps := 2000000) only [↓reduceIte, wp_eq, wpd_eq, kont_eq, STP1, STP2, STP3, STP4, STP5, konM_eq, AMK, CZ, Option.map, List.getElem?_cons_zero, List.getElem?_cons_succ, List.mem_cons, List.not_mem_nil, if_false, if_true, Nat.reduceAdd, Nat.reduceLT, Nat.reduceLeDiff, Nat.reduceEqDiff, true_and, and_true, List.length_nil, List.length_cons, or_true, true_or, or_false, false_or, Option.some.injEq, Sum.inl.injEq, Sum.inr.injEq, exists_eq_left', exists_eq_left, Int.reduceLE, Int.reduceLT, Int.reduceNeg, Int.reduceAdd, Int.reduceMul, Int.reduceSub, Int.reduceToNat, inR, Nat.zero_ne_one, false_and, Nat.succ_ne_zero, reduceCtorEq, false_implies, true_implies, not_false_eq_true, not_true_eq_false, Int.reduceEq, KRE, C_Model_tellLinks, FM]
  refine loopQ n (fun k ls M1 => M1 = mPcM M (fun t => (t : Int), fun _ => 0) k ∧ ls = [some (.inr 154), some (.inl (k : Int)), a2, a3]) ?_ _ _ ⟨by funext b j; simp [mPcM], rfl⟩
  rintro k _ _ hkn ⟨rfl, rfl⟩ K1
  have en1 : mPcM M (fun t => (t : Int), fun _ => 0) k 156 0 = n := by rw [← en]; simp [mPcM]
  by_cases c : k = n
  · subst c
    have c' := eq_true (show (k : Int) ≤ k by omega)
    refine wpm_of (cuts := [76, 108]) (by decide) 60 _ _ _ _ ?_
    simp (maxSteps := 2000000) only [↓reduceIte, wp_eq, wpd_eq, kont_eq, STP1, STP2, STP3, STP4, STP5, konM_eq, AMK, CZ, Option.map, List.getElem?_cons_zero, List.getElem?_cons_succ, List.mem_cons, List.not_mem_nil, if_false, if_true, Nat.reduceAdd, Nat.reduceLT, Nat.reduceLeDiff, Nat.reduceEqDiff, true_and, and_true, List.length_nil, List.length_cons, or_true, true_or, or_false, false_or, Option.some.injEq, Sum.inl.injEq, Sum.inr.injEq, exists_eq_left', exists_eq_left, Int.reduceLE, Int.reduceLT, Int.reduceNeg, Int.reduceAdd, Int.reduceMul, Int.reduceSub, Int.reduceToNat, inR, Nat.zero_ne_one, false_and, Nat.succ_ne_zero, reduceCtorEq, false_implies, true_implies, not_false_eq_true, not_true_eq_false, Int.reduceEq, KRE, C_Model_tellLinks, FM, en1, c']
    repeat (first | refine ⟨by omega, ?_⟩ | refine ⟨fun _ _ => okt_nn (by omega), ?_⟩)
    try (first | (show _ ≤ _; omega) | (show _ < _; omega))
    refine loopQ X.1 (fun i ls M1 => (FrP (fun b _ => 173 ≤ b ∧ b ≤ 175) M M1 ∧ (∀ t, t < k → M1 173 t = (mqN X.2 i).1 t ∧ M1 174 t = (mqN X.2 i).2 t) ∧ ∀ j, j < i → M1 175 j = pcT X.2 j) ∧ ls = [some (.inr 154), some (.inl (i : Int)), a2, a3]) ?_ _ _ ⟨⟨?_, fun t ht => ?_, fun j hj => by omega⟩, rfl⟩
    · rintro i _ M1 hi ⟨⟨F, hy, hT⟩, rfl⟩ K2
      have en2 : M1 156 0 = k := (F _ _ (by omega)).trans en
      have hk2 : M1 154 49 = X.1 := (F _ _ (by omega)).trans hk
      have hx2 : lkIs M1 169 X := fun q hq j hj => (F _ _ (by omega)).trans (hx q hq j hj)
      have qi := mqI_N hA i hi
      have qr := mqR_N hn hA i hi
      by_cases c2 : i = X.1
      · subst c2
        have K4 := Model_tellLinks_4 (a2 := a2) (a3 := a3) (Qc := Qc) hn en2 hX (fun s t hs ht => by
          have q := qi s t hs ht
          obtain ⟨e1, e2⟩ := hy s hs
          obtain ⟨e3, e4⟩ := hy t ht
          rw [← e1, ← e2, ← e3, ← e4] at q
          exact q) (fun t ht => by rw [(hy t ht).1]; exact qr t ht) (fun M' F2 hL => by
          have F3 : FrP linkP M M' := (F.wd (fun b j z => Or.inr (by omega))).tr (F2.wd (fun b j z => Or.inr (by omega)))
          refine K M' F3 ⟨hX, hA, fun q hq j hj => (F2 _ _ (by omega)).trans (hx2 q hq j hj), (F2 _ _ (by omega)).trans hk2, fun j hj => (F2 _ _ (by omega)).trans (hT j hj), hL, fun s t hs ht => ?_⟩
          have q := qi s t hs ht
          obtain ⟨e1, e2⟩ := hy s hs
          obtain ⟨e3, e4⟩ := hy t ht
          rw [← e1, ← e2, ← e3, ← e4] at q
          show (M' 173 s = M' 173 t ↔ _) ∧ (_ → M' 174 t - M' 174 s = _)
          rw [F2 173 s (by omega), F2 173 t (by omega), F2 174 s (by omega), F2 174 t (by omega)]
          exact q)
        have c' := eq_true (show (X.1 : Int) ≤ X.1 by omega)
        refine wpm_of (cuts := [108, 172]) (by decide) 60 _ _ _ _ ?_
        simp (maxSteps := 2000000) only [↓reduceIte, wp_eq, wpd_eq, kont_eq, STP1, STP2, STP3, STP4, STP5, konM_eq, AMK, CZ, Option.map, List.getElem?_cons_zero, List.getElem?_cons_succ, List.mem_cons, List.not_mem_nil, if_false, if_true, Nat.reduceAdd, Nat.reduceLT, Nat.reduceLeDiff, Nat.reduceEqDiff, true_and, and_true, List.length_nil, List.length_cons, or_true, true_or, or_false, false_or, Option.some.injEq, Sum.inl.injEq, Sum.inr.injEq, exists_eq_left', exists_eq_left, Int.reduceLE, Int.reduceLT, Int.reduceNeg, Int.reduceAdd, Int.reduceMul, Int.reduceSub, Int.reduceToNat, inR, Nat.zero_ne_one, false_and, Nat.succ_ne_zero, reduceCtorEq, false_implies, true_implies, not_false_eq_true, not_true_eq_false, Int.reduceEq, KRE, C_Model_tellLinks, FM, hk2, c']
        repeat (first | refine ⟨by omega, ?_⟩ | refine ⟨fun _ _ => okt_nn (by omega), ?_⟩)
        try (first | (show _ ≤ _; omega) | (show _ < _; omega))
        exact K4
      · have hlt : i < X.1 := by omega
        have c' := eq_false (show ¬ (X.1 : Int) ≤ i by omega)
        have g0 : M1 169 i = X.2 0 i := hx2 0 (by omega) i hlt
        have g1 : M1 170 i = X.2 1 i := hx2 1 (by omega) i hlt
        obtain ⟨a0, a1⟩ := hA i hlt
        obtain ⟨y0, z0⟩ := hy (X.2 0 i).toNat (by omega)
        obtain ⟨y1, z1⟩ := hy (X.2 1 i).toNat (by omega)
        have r0 := qr (X.2 0 i).toNat (by omega)
        have r1 := qr (X.2 1 i).toNat (by omega)
        have qe := (qi (X.2 0 i).toNat (X.2 1 i).toNat (by omega) (by omega)).1
        have K2' := fun M' z => K2 hlt _ M' ⟨z, rfl⟩
        have eS : mqN X.2 (i + 1) = mqS X.2 i (mqN X.2 i) := rfl
        unfold mqS at eS
        by_cases c3 : (mqN X.2 i).1 (X.2 0 i).toNat = (mqN X.2 i).1 (X.2 1 i).toNat
        · have eT : pcT X.2 i = 0 := if_neg (fun z => z (qe.mp c3))
          rw [if_neg (fun z => z c3)] at eS
          have c3' := eq_true c3
          have K5 := K2' (mset M1 175 i 0) ⟨F.st (by omega), fun t ht => ?_, fun j hj => ?_⟩
          · refine wpm_of (cuts := [108]) (by decide) 60 _ _ _ _ ?_
            simp (maxSteps := 2000000) only [↓reduceIte, wp_eq, wpd_eq, kont_eq, STP1, STP2, STP3, STP4, STP5, konM_eq, AMK, CZ, Option.map, List.getElem?_cons_zero, List.getElem?_cons_succ, List.mem_cons, List.not_mem_nil, if_false, if_true, Nat.reduceAdd, Nat.reduceLT, Nat.reduceLeDiff, Nat.reduceEqDiff, true_and, and_true, List.length_nil, List.length_cons, or_true, true_or, or_false, false_or, Option.some.injEq, Sum.inl.injEq, Sum.inr.injEq, exists_eq_left', exists_eq_left, Int.reduceLE, Int.reduceLT, Int.reduceNeg, Int.reduceAdd, Int.reduceMul, Int.reduceSub, Int.reduceToNat, inR, Nat.zero_ne_one, false_and, Nat.succ_ne_zero, reduceCtorEq, false_implies, true_implies, not_false_eq_true, not_true_eq_false, Int.reduceEq, KRE, C_Model_tellLinks, FM, hk2, c', natT, g0, g1, y0, y1, c3', MSE]
            repeat (first | refine ⟨by omega, ?_⟩ | refine ⟨fun _ _ => okt_nn (by omega), ?_⟩)
            try (first | (show _ ≤ _; omega) | (show _ < _; omega))
            exact K5
          · rw [eS, mset_ne _ (by decide), mset_ne _ (by decide)]
            exact hy t ht
          · by_cases cj : j = i
            · subst cj; simp [mset, eT]
            · simp only [mset]
              rw [if_neg (by omega)]
              exact hT j (by omega)
        · have eT : pcT X.2 i = 1 := if_pos (fun z => c3 (qe.mpr z))
          rw [if_pos c3] at eS
          have c3' := eq_false c3
          have J := Model_joins_ok (k := i) (y := mqN X.2 i) (M := mset M1 175 i 1) hn ((mset_ne _ (by decide) _).trans en2) hA h28 (fun q hq j hj => (mset_ne _ (by omega) _).trans (hx2 q hq j hj)) hlt (fun t ht => by rw [mset_ne _ (by decide), mset_ne _ (by decide)]; exact hy t ht) qr
          rw [← eS] at J
          refine wpm_of (cuts := [108]) (by decide) 60 _ _ _ _ ?_
          simp (maxSteps := 2000000) only [↓reduceIte, wp_eq, wpd_eq, kont_eq, STP1, STP2, STP3, STP4, STP5, konM_eq, AMK, CZ, Option.map, List.getElem?_cons_zero, List.getElem?_cons_succ, List.mem_cons, List.not_mem_nil, if_false, if_true, Nat.reduceAdd, Nat.reduceLT, Nat.reduceLeDiff, Nat.reduceEqDiff, true_and, and_true, List.length_nil, List.length_cons, or_true, true_or, or_false, false_or, Option.some.injEq, Sum.inl.injEq, Sum.inr.injEq, exists_eq_left', exists_eq_left, Int.reduceLE, Int.reduceLT, Int.reduceNeg, Int.reduceAdd, Int.reduceMul, Int.reduceSub, Int.reduceToNat, inR, Nat.zero_ne_one, false_and, Nat.succ_ne_zero, reduceCtorEq, false_implies, true_implies, not_false_eq_true, not_true_eq_false, Int.reduceEq, KRE, C_Model_tellLinks, FM, hk2, c', natT, g0, g1, y0, y1, c3', MSE]
          repeat (first | refine ⟨by omega, ?_⟩ | refine ⟨fun _ _ => okt_nn (by omega), ?_⟩)
          try (first | (show _ ≤ _; omega) | (show _ < _; omega))
          refine J.eq ?_
          try simp (maxSteps := 2000000) only [↓reduceIte, wp_eq, wpd_eq, kont_eq, STP1, STP2, STP3, STP4, STP5, konM_eq, AMK, CZ, Option.map, List.getElem?_cons_zero, List.getElem?_cons_succ, List.mem_cons, List.not_mem_nil, if_false, if_true, Nat.reduceAdd, Nat.reduceLT, Nat.reduceLeDiff, Nat.reduceEqDiff, true_and, and_true, List.length_nil, List.length_cons, or_true, true_or, or_false, false_or, Option.some.injEq, Sum.inl.injEq, Sum.inr.injEq, exists_eq_left', exists_eq_left, Int.reduceLE, Int.reduceLT, Int.reduceNeg, Int.reduceAdd, Int.reduceMul, Int.reduceSub, Int.reduceToNat, inR, Nat.zero_ne_one, false_and, Nat.succ_ne_zero, reduceCtorEq, false_implies, true_implies, not_false_eq_true, not_true_eq_false, Int.reduceEq, KRE, C_Model_tellLinks]
          refine K2' _ ⟨?_, fun t ht => ?_, fun j hj => ?_⟩
          · intro b j z
            have := F b j z
            simp only [mPcM, mset]
            rw [if_neg (by omega), if_neg (by omega), if_neg (by omega)]
            exact this
          · simp [mPcM, ht]
          · simp only [mPcM, mset]
            rw [if_neg (by omega), if_neg (by omega)]
            by_cases cj : j = i
            · subst cj; simp [eT]
            · rw [if_neg (by omega)]
              exact hT j (by omega)
    · intro b j z
      simp only [mPcM]
      rw [if_neg (by omega), if_neg (by omega)]
    · simp [mPcM, ht, mqN, foldN]
  · have hlt : k < n := by omega
    have c' := eq_false (show ¬ (n : Int) ≤ k by omega)
    have K1' := K1 hlt _ _ ⟨rfl, rfl⟩
    refine wpm_of (cuts := [76, 108]) (by decide) 60 _ _ _ _ ?_
    simp (maxSteps := 2000000) only [↓reduceIte, wp_eq, wpd_eq, kont_eq, STP1, STP2, STP3, STP4, STP5, konM_eq, AMK, CZ, Option.map, List.getElem?_cons_zero, List.getElem?_cons_succ, List.mem_cons, List.not_mem_nil, if_false, if_true, Nat.reduceAdd, Nat.reduceLT, Nat.reduceLeDiff, Nat.reduceEqDiff, true_and, and_true, List.length_nil, List.length_cons, or_true, true_or, or_false, false_or, Option.some.injEq, Sum.inl.injEq, Sum.inr.injEq, exists_eq_left', exists_eq_left, Int.reduceLE, Int.reduceLT, Int.reduceNeg, Int.reduceAdd, Int.reduceMul, Int.reduceSub, Int.reduceToNat, inR, Nat.zero_ne_one, false_and, Nat.succ_ne_zero, reduceCtorEq, false_implies, true_implies, not_false_eq_true, not_true_eq_false, Int.reduceEq, KRE, C_Model_tellLinks, FM, en1, natT, c']
    repeat (first | refine ⟨by omega, ?_⟩ | refine ⟨fun _ _ => okt_nn (by omega), ?_⟩)
    try (first | (show _ ≤ _; omega) | (show _ < _; omega))
    refine WPm.eqM K1' ?_
    funext b j
    simp only [mset, mPcM]
    by_cases hj : j = k
    · subst hj
      grind
    · grind
set_option maxHeartbeats 600000 in
set_option maxRecDepth 20000 in
theorem Model_tellLinks_ok {n : Nat} {T : Nat → Rw} {Y : Nat → Int} {lap bnd mrg : Int} {M : Mm} (h : mdl M n T Y lap bnd mrg) : CallV m_Model_tellLinks [.inr 154] M (fun M' => linkM M' n (lks T lap bnd mrg n n) ∧ FrP linkP M M') := by
  have en := h.1.1
  have n8 := h.1.2
  have okTs : ∀ t, t < n → okT (T t) := fun t ht => (h.2.2.2.2 t ht).1
  have sep : ∀ b j, linkP b j → b ≠ 156 ∧ b ≠ 158 := fun b j z => by unfold linkP at z; omega
  refine callP_of (by decide) (by decide) (Nat.le_of_ble_eq_true rfl) (wpm_of (cuts := [7]) (by decide) 50 _ _ _ _ ?_)
  rw [show lM m_Model_tellLinks = 4 from rfl]
  simp (maxSteps := 2000000) only [↓reduceIte, wp_eq, wpd_eq, kont_eq, STP1, STP2, STP3, STP4, STP5, konM_eq, AMK, CZ, Option.map, List.getElem?_cons_zero, List.getElem?_cons_succ, List.mem_cons, List.not_mem_nil, if_false, if_true, Nat.reduceAdd, Nat.reduceLT, Nat.reduceLeDiff, Nat.reduceEqDiff, true_and, and_true, List.length_nil, List.length_cons, or_true, true_or, or_false, false_or, Option.some.injEq, Sum.inl.injEq, Sum.inr.injEq, exists_eq_left', exists_eq_left, Int.reduceLE, Int.reduceLT, Int.reduceNeg, Int.reduceAdd, Int.reduceMul, Int.reduceSub, Int.reduceToNat, inR, Nat.zero_ne_one, false_and, Nat.succ_ne_zero, reduceCtorEq, false_implies, true_implies, not_false_eq_true, not_true_eq_false, Int.reduceEq, KRE, C_Model_tellLinks, FM]
  refine loopQ n (fun a ls M1 => (lkIs M1 169 (lks T lap bnd mrg n a) ∧ M1 154 49 = (lks T lap bnd mrg n a).1 ∧ FrP linkP M M1) ∧ ∃ a2, ls = [some (.inr 154), some (.inl (a : Int)), a2, none]) ?_ _ _ ⟨⟨fun q hq j hj => absurd (show j < 0 from hj) (by omega), by simp [mset]; rfl, FrP.rf.st (Or.inl ⟨rfl, by omega⟩)⟩, none, rfl⟩
  rintro a _ M1 ha ⟨⟨i1, i2, i4⟩, a2, rfl⟩ K
  obtain ⟨rX, bX⟩ := lks_R (lap := lap) (bnd := bnd) (mrg := mrg) n8 okTs a ha
  have h1 := mdl_fr h i4 sep
  have z3 := h1.1.1
  by_cases hz : a = n
  · subst hz
    have c' := eq_true (show (a : Int) ≤ a by omega)
    have K2 := Model_tellLinks_2 (a1 := some (.inl (a : Int))) (a2 := a2) (a3 := none) (Qc := fun v M' => v = none ∧ linkM M' a (lks T lap bnd mrg a a) ∧ FrP linkP M M') n8 z3 rX (lks_A a (Nat.le_refl _)) i1 i2 (fun M' F L => ⟨rfl, L, i4.tr F⟩)
    refine wpm_of (cuts := [7, 74]) (by decide) 100 _ _ _ _ ?_
    simp (maxSteps := 2000000) only [↓reduceIte, wp_eq, wpd_eq, kont_eq, STP1, STP2, STP3, STP4, STP5, konM_eq, AMK, CZ, Option.map, List.getElem?_cons_zero, List.getElem?_cons_succ, List.mem_cons, List.not_mem_nil, if_false, if_true, Nat.reduceAdd, Nat.reduceLT, Nat.reduceLeDiff, Nat.reduceEqDiff, true_and, and_true, List.length_nil, List.length_cons, or_true, true_or, or_false, false_or, Option.some.injEq, Sum.inl.injEq, Sum.inr.injEq, exists_eq_left', exists_eq_left, Int.reduceLE, Int.reduceLT, Int.reduceNeg, Int.reduceAdd, Int.reduceMul, Int.reduceSub, Int.reduceToNat, inR, Nat.zero_ne_one, false_and, Nat.succ_ne_zero, reduceCtorEq, false_implies, true_implies, not_false_eq_true, not_true_eq_false, Int.reduceEq, KRE, C_Model_tellLinks, FM, z3, c']
    repeat (first | refine ⟨by omega, ?_⟩ | refine ⟨fun _ _ => okt_nn (by omega), ?_⟩)
    try (first | (show _ ≤ _; omega) | (show _ < _; omega))
    exact K2
  · have han : a < n := by omega
    have c' := eq_false (show ¬ (n : Int) ≤ a by omega)
    refine wpm_of (cuts := [7, 26]) (by decide) 100 _ _ _ _ ?_
    simp (maxSteps := 2000000) only [↓reduceIte, wp_eq, wpd_eq, kont_eq, STP1, STP2, STP3, STP4, STP5, konM_eq, AMK, CZ, Option.map, List.getElem?_cons_zero, List.getElem?_cons_succ, List.mem_cons, List.not_mem_nil, if_false, if_true, Nat.reduceAdd, Nat.reduceLT, Nat.reduceLeDiff, Nat.reduceEqDiff, true_and, and_true, List.length_nil, List.length_cons, or_true, true_or, or_false, false_or, Option.some.injEq, Sum.inl.injEq, Sum.inr.injEq, exists_eq_left', exists_eq_left, Int.reduceLE, Int.reduceLT, Int.reduceNeg, Int.reduceAdd, Int.reduceMul, Int.reduceSub, Int.reduceToNat, inR, Nat.zero_ne_one, false_and, Nat.succ_ne_zero, reduceCtorEq, false_implies, true_implies, not_false_eq_true, not_true_eq_false, Int.reduceEq, KRE, C_Model_tellLinks, FM, z3, c']
    repeat (first | refine ⟨by omega, ?_⟩ | refine ⟨fun _ _ => okt_nn (by omega), ?_⟩)
    try (first | (show _ ≤ _; omega) | (show _ < _; omega))
    refine (Model_layA_ok h1 han).mono (fun M2 z => ?_)
    obtain ⟨rA, -, F2⟩ := z
    have F2' : FrP linkP M1 M2 := F2.wd (fun b j z => by unfold layAP at z; unfold linkP; omega)
    try simp (maxSteps := 2000000) only [↓reduceIte, wp_eq, wpd_eq, kont_eq, STP1, STP2, STP3, STP4, STP5, konM_eq, AMK, CZ, Option.map, List.getElem?_cons_zero, List.getElem?_cons_succ, List.mem_cons, List.not_mem_nil, if_false, if_true, Nat.reduceAdd, Nat.reduceLT, Nat.reduceLeDiff, Nat.reduceEqDiff, true_and, and_true, List.length_nil, List.length_cons, or_true, true_or, or_false, false_or, Option.some.injEq, Sum.inl.injEq, Sum.inr.injEq, exists_eq_left', exists_eq_left, Int.reduceLE, Int.reduceLT, Int.reduceNeg, Int.reduceAdd, Int.reduceMul, Int.reduceSub, Int.reduceToNat, inR, Nat.zero_ne_one, false_and, Nat.succ_ne_zero, reduceCtorEq, false_implies, true_implies, not_false_eq_true, not_true_eq_false, Int.reduceEq, KRE, C_Model_tellLinks]
    refine loopQ (n - (a + 1)) (fun d ls M2 => (lkIs M2 169 (foldN (lkRowS T lap bnd mrg a) (lks T lap bnd mrg n a) (a + 1 + d)) ∧ M2 154 49 = (foldN (lkRowS T lap bnd mrg a) (lks T lap bnd mrg n a) (a + 1 + d)).1 ∧ rowA M2 (T a) ∧ FrP linkP M M2) ∧ ls = [some (.inr 154), some (.inl (a : Int)), some (.inl ((a + 1 + d : Nat) : Int)), none]) ?_ _ _ ⟨⟨?_, ?_, rA, i4.tr F2'⟩, rfl⟩
    · rintro d _ M2 hd ⟨⟨j1, j2, j3, j4⟩, rfl⟩ K2
      have h2 := mdl_fr h j4 sep
      have y3 := h2.1.1
      by_cases hz2 : a + 1 + d = n
      · have c2' := eq_true (show (n : Int) ≤ (a + 1 + d : Nat) by omega)
        refine wpm_of (cuts := [7, 26]) (by decide) 100 _ _ _ _ ?_
        simp (maxSteps := 2000000) only [↓reduceIte, wp_eq, wpd_eq, kont_eq, STP1, STP2, STP3, STP4, STP5, konM_eq, AMK, CZ, Option.map, List.getElem?_cons_zero, List.getElem?_cons_succ, List.mem_cons, List.not_mem_nil, if_false, if_true, Nat.reduceAdd, Nat.reduceLT, Nat.reduceLeDiff, Nat.reduceEqDiff, true_and, and_true, List.length_nil, List.length_cons, or_true, true_or, or_false, false_or, Option.some.injEq, Sum.inl.injEq, Sum.inr.injEq, exists_eq_left', exists_eq_left, Int.reduceLE, Int.reduceLT, Int.reduceNeg, Int.reduceAdd, Int.reduceMul, Int.reduceSub, Int.reduceToNat, inR, Nat.zero_ne_one, false_and, Nat.succ_ne_zero, reduceCtorEq, false_implies, true_implies, not_false_eq_true, not_true_eq_false, Int.reduceEq, KRE, C_Model_tellLinks, FM, y3, c2']
        repeat (first | refine ⟨by omega, ?_⟩ | refine ⟨fun _ _ => okt_nn (by omega), ?_⟩)
        try (first | (show _ ≤ _; omega) | (show _ < _; omega))
        refine K han _ _ ⟨⟨?_, ?_, j4⟩, _, rfl⟩
        · rw [hz2] at j1
          exact j1
        · rw [hz2] at j2
          exact j2
      · have hbn : a + 1 + d < n := by omega
        have c2' := eq_false (show ¬ (n : Int) ≤ (a + 1 + d : Nat) by omega)
        generalize hb' : a + 1 + d = b at *
        have K2' := fun x y z => K2 (by omega) x y z
        rw [show a + 1 + (d + 1) = b + 1 by omega] at K2'
        obtain ⟨rZ, bZ⟩ := lkRow_R (lap := lap) (bnd := bnd) (mrg := mrg) n8 han okTs ⟨rX, bX⟩ b (by omega)
        have eZ : foldN (lkRowS T lap bnd mrg a) (lks T lap bnd mrg n a) (b + 1) = lkStep T lap bnd mrg a b (foldN (lkRowS T lap bnd mrg a) (lks T lap bnd mrg n a) b) := if_pos (by omega)
        rw [eZ] at K2'
        generalize foldN (lkRowS T lap bnd mrg a) (lks T lap bnd mrg n a) b = Z at *
        refine wpm_of (cuts := [7, 26]) (by decide) 100 _ _ _ _ ?_
        simp (maxSteps := 2000000) only [↓reduceIte, wp_eq, wpd_eq, kont_eq, STP1, STP2, STP3, STP4, STP5, konM_eq, AMK, CZ, Option.map, List.getElem?_cons_zero, List.getElem?_cons_succ, List.mem_cons, List.not_mem_nil, if_false, if_true, Nat.reduceAdd, Nat.reduceLT, Nat.reduceLeDiff, Nat.reduceEqDiff, true_and, and_true, List.length_nil, List.length_cons, or_true, true_or, or_false, false_or, Option.some.injEq, Sum.inl.injEq, Sum.inr.injEq, exists_eq_left', exists_eq_left, Int.reduceLE, Int.reduceLT, Int.reduceNeg, Int.reduceAdd, Int.reduceMul, Int.reduceSub, Int.reduceToNat, inR, Nat.zero_ne_one, false_and, Nat.succ_ne_zero, reduceCtorEq, false_implies, true_implies, not_false_eq_true, not_true_eq_false, Int.reduceEq, KRE, C_Model_tellLinks, FM, y3, c2']
        repeat (first | refine ⟨by omega, ?_⟩ | refine ⟨fun _ _ => okt_nn (by omega), ?_⟩)
        try (first | (show _ ≤ _; omega) | (show _ < _; omega))
        refine (Model_layB_ok h2 hbn).mono (fun M3 z => ?_)
        obtain ⟨rB, F3⟩ := z
        have F3' : FrP linkP M2 M3 := F3.wd (fun b j z => by unfold layBP at z; unfold linkP; omega)
        have rA3 : rowA M3 (T a) := rowA_cells (fun b q1 q2 j => F3 _ _ (by unfold layBP; omega)) (F3 _ _ (by unfold layBP; omega)) (F3 _ _ (by unfold layBP; omega)) j3
        have h3 := mdl_fr h2 F3' sep
        try simp (maxSteps := 2000000) only [↓reduceIte, wp_eq, wpd_eq, kont_eq, STP1, STP2, STP3, STP4, STP5, konM_eq, AMK, CZ, Option.map, List.getElem?_cons_zero, List.getElem?_cons_succ, List.mem_cons, List.not_mem_nil, if_false, if_true, Nat.reduceAdd, Nat.reduceLT, Nat.reduceLeDiff, Nat.reduceEqDiff, true_and, and_true, List.length_nil, List.length_cons, or_true, true_or, or_false, false_or, Option.some.injEq, Sum.inl.injEq, Sum.inr.injEq, exists_eq_left', exists_eq_left, Int.reduceLE, Int.reduceLT, Int.reduceNeg, Int.reduceAdd, Int.reduceMul, Int.reduceSub, Int.reduceToNat, inR, Nat.zero_ne_one, false_and, Nat.succ_ne_zero, reduceCtorEq, false_implies, true_implies, not_false_eq_true, not_true_eq_false, Int.reduceEq, KRE, C_Model_tellLinks]
        refine (Model_bound_ok h3.2.2.1).eq ?_
        try simp (maxSteps := 2000000) only [↓reduceIte, wp_eq, wpd_eq, kont_eq, STP1, STP2, STP3, STP4, STP5, konM_eq, AMK, CZ, Option.map, List.getElem?_cons_zero, List.getElem?_cons_succ, List.mem_cons, List.not_mem_nil, if_false, if_true, Nat.reduceAdd, Nat.reduceLT, Nat.reduceLeDiff, Nat.reduceEqDiff, true_and, and_true, List.length_nil, List.length_cons, or_true, true_or, or_false, false_or, Option.some.injEq, Sum.inl.injEq, Sum.inr.injEq, exists_eq_left', exists_eq_left, Int.reduceLE, Int.reduceLT, Int.reduceNeg, Int.reduceAdd, Int.reduceMul, Int.reduceSub, Int.reduceToNat, inR, Nat.zero_ne_one, false_and, Nat.succ_ne_zero, reduceCtorEq, false_implies, true_implies, not_false_eq_true, not_true_eq_false, Int.reduceEq, KRE, C_Model_tellLinks]
        have hb := h3.2.2.1.1.2
        refine (Model_tellBest_ok h3.2.2.1 rA3 rB (by omega)).mono (fun M4 z => ?_)
        obtain ⟨b1, b2, F4⟩ := z
        have F4' : FrP linkP M3 M4 := F4.wd (fun b j z => by unfold bestP at z; unfold linkP; omega)
        have la := (okTs a han).1
        have lb := (okTs b hbn).1
        have ob := okB_best (A := T a) (B := T b) (lap := lap) (by omega) (by omega)
        have eS : lkStep T lap bnd mrg a b Z = if why (best (T a) (T b) lap) bnd mrg = 0 then lkIns (lkV a b (best (T a) (T b) lap).2.1 (best (T a) (T b) lap).2.2.1) Z else Z := rfl
        have fr4 : FrP linkP M M4 := (j4.tr F3').tr F4'
        have li4 : lkIs M4 169 Z := fun q hq j hj => ((F4 _ _ (by unfold bestP; omega)).trans (F3 _ _ (by unfold layBP; omega))).trans (j1 q hq j hj)
        have k4 : M4 154 49 = Z.1 := ((F4 _ _ (by unfold bestP; omega)).trans (F3 _ _ (by unfold layBP; omega))).trans j2
        have rA4 : rowA M4 (T a) := rowA_cells (fun b q1 q2 j => F4 _ _ (by unfold bestP; omega)) (F4 _ _ (by unfold bestP; omega)) (F4 _ _ (by unfold bestP; omega)) rA3
        have wi := why_in (best (T a) (T b) lap) bnd mrg
        by_cases cw : why (best (T a) (T b) lap) bnd mrg = 0
        · rw [if_pos cw] at eS
          obtain ⟨g1, g2, g3, g4⟩ := why_0 ob cw
          have cw' := eq_true cw
          obtain ⟨f2, f3, f4⟩ := b1.2.2 g1
          try simp (maxSteps := 2000000) only [↓reduceIte, wp_eq, wpd_eq, kont_eq, STP1, STP2, STP3, STP4, STP5, konM_eq, AMK, CZ, Option.map, List.getElem?_cons_zero, List.getElem?_cons_succ, List.mem_cons, List.not_mem_nil, if_false, if_true, Nat.reduceAdd, Nat.reduceLT, Nat.reduceLeDiff, Nat.reduceEqDiff, true_and, and_true, List.length_nil, List.length_cons, or_true, true_or, or_false, false_or, Option.some.injEq, Sum.inl.injEq, Sum.inr.injEq, exists_eq_left', exists_eq_left, Int.reduceLE, Int.reduceLT, Int.reduceNeg, Int.reduceAdd, Int.reduceMul, Int.reduceSub, Int.reduceToNat, inR, Nat.zero_ne_one, false_and, Nat.succ_ne_zero, reduceCtorEq, false_implies, true_implies, not_false_eq_true, not_true_eq_false, Int.reduceEq, KRE, C_Model_tellLinks, FM, b2, cw']
          repeat (first | refine ⟨by omega, ?_⟩ | refine ⟨fun _ _ => okt_nn (by omega), ?_⟩)
          try (first | (show _ ≤ _; omega) | (show _ < _; omega))
          have bs := lkB_s (a := a) (by omega)
          have bl := lkB_le (a + 1)
          refine (Model_keepLink_ok (a := (a : Int)) (b := (b : Int)) li4 rZ k4 (by omega) f2 f3 g3).mono (fun M5 z => ?_)
          obtain ⟨z5, z6, z7⟩ := z
          rw [eS] at K2'
          try simp (maxSteps := 2000000) only [↓reduceIte, wp_eq, wpd_eq, kont_eq, STP1, STP2, STP3, STP4, STP5, konM_eq, AMK, CZ, Option.map, List.getElem?_cons_zero, List.getElem?_cons_succ, List.mem_cons, List.not_mem_nil, if_false, if_true, Nat.reduceAdd, Nat.reduceLT, Nat.reduceLeDiff, Nat.reduceEqDiff, true_and, and_true, List.length_nil, List.length_cons, or_true, true_or, or_false, false_or, Option.some.injEq, Sum.inl.injEq, Sum.inr.injEq, exists_eq_left', exists_eq_left, Int.reduceLE, Int.reduceLT, Int.reduceNeg, Int.reduceAdd, Int.reduceMul, Int.reduceSub, Int.reduceToNat, inR, Nat.zero_ne_one, false_and, Nat.succ_ne_zero, reduceCtorEq, false_implies, true_implies, not_false_eq_true, not_true_eq_false, Int.reduceEq, KRE, C_Model_tellLinks]
          refine K2' _ _ ⟨⟨z5, z6, rowA_cells (fun b q1 q2 j => z7 _ _ (by omega)) (z7 _ _ (by omega)) (z7 _ _ (by omega)) rA4, fr4.tr (z7.wd (fun b j z => by unfold linkP; omega))⟩, rfl⟩
        · rw [if_neg cw] at eS
          rw [eS] at K2'
          have cw' := eq_false cw
          try simp (maxSteps := 2000000) only [↓reduceIte, wp_eq, wpd_eq, kont_eq, STP1, STP2, STP3, STP4, STP5, konM_eq, AMK, CZ, Option.map, List.getElem?_cons_zero, List.getElem?_cons_succ, List.mem_cons, List.not_mem_nil, if_false, if_true, Nat.reduceAdd, Nat.reduceLT, Nat.reduceLeDiff, Nat.reduceEqDiff, true_and, and_true, List.length_nil, List.length_cons, or_true, true_or, or_false, false_or, Option.some.injEq, Sum.inl.injEq, Sum.inr.injEq, exists_eq_left', exists_eq_left, Int.reduceLE, Int.reduceLT, Int.reduceNeg, Int.reduceAdd, Int.reduceMul, Int.reduceSub, Int.reduceToNat, inR, Nat.zero_ne_one, false_and, Nat.succ_ne_zero, reduceCtorEq, false_implies, true_implies, not_false_eq_true, not_true_eq_false, Int.reduceEq, KRE, C_Model_tellLinks, FM, b2, cw']
          repeat (first | refine ⟨by omega, ?_⟩ | refine ⟨fun _ _ => okt_nn (by omega), ?_⟩)
          try (first | (show _ ≤ _; omega) | (show _ < _; omega))
          exact K2' _ _ ⟨⟨li4, k4, rA4, fr4⟩, rfl⟩
    · rw [lkRow_0 (a + 1 + 0) (by omega)]
      exact fun q hq j hj => (F2 _ _ (by unfold layAP; omega)).trans (i1 q hq j hj)
    · rw [lkRow_0 (a + 1 + 0) (by omega)]
      exact (F2 _ _ (by unfold layAP; omega)).trans i2
