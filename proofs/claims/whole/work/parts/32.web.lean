/-! THE SPEC, 3: links. k of them, F q j: of the j-th its a, b, slide, score (q 0 to 3). -/
abbrev Lks : Type := Nat × (Nat → Nat → Int)
def lkPos (C : Nat → Int) (s : Int) : Nat → Nat
  | 0 => 0
  | k + 1 => if C k < s then lkPos C s k else k + 1
def lkV (a b s c : Int) : Nat → Int := fun q => if q = 0 then a else if q = 1 then b else if q = 2 then s else c
def lkIns (v : Nat → Int) (x : Lks) : Lks := (x.1 + 1, fun q j => if j < lkPos (x.2 3) (v 3) x.1 then x.2 q j else if j = lkPos (x.2 3) (v 3) x.1 then v q else x.2 q (j - 1))
theorem lkPos_le (C : Nat → Int) (s : Int) : ∀ k, lkPos C s k ≤ k
  | 0 => Nat.le_refl _
  | k + 1 => by
    have := lkPos_le C s k
    rw [lkPos]
    split <;> omega
theorem lkPos_congr {C D : Nat → Int} {s : Int} : ∀ {k : Nat}, (∀ j, j < k → C j = D j) → lkPos C s k = lkPos D s k
  | 0, _ => rfl
  | k + 1, h => by
    rw [lkPos, lkPos, h k (by omega), lkPos_congr (fun j hj => h j (by omega))]
/-- links at base hold x -/
def lkIs (M : Mm) (base : Nat) (x : Lks) : Prop := ∀ q, q < 4 → ∀ j, j < x.1 → M (base + q) j = x.2 q j
def lkR (x : Lks) : Prop := x.1 ≤ 28 ∧ ∀ j, j < x.1 → (0 ≤ x.2 0 j ∧ x.2 0 j ≤ 7) ∧ (0 ≤ x.2 1 j ∧ x.2 1 j ≤ 7) ∧ (-1000 ≤ x.2 2 j ∧ x.2 2 j ≤ 1000) ∧ (0 ≤ x.2 3 j ∧ x.2 3 j ≤ 100)
theorem lkR_ins {v : Nat → Int} {x : Lks} (h : lkR x) (h28 : x.1 < 28) (hv : (0 ≤ v 0 ∧ v 0 ≤ 7) ∧ (0 ≤ v 1 ∧ v 1 ≤ 7) ∧ (-1000 ≤ v 2 ∧ v 2 ≤ 1000) ∧ (0 ≤ v 3 ∧ v 3 ≤ 100)) : lkR (lkIns v x) := by
  refine ⟨h28, fun j hj => ?_⟩
  have hj' : j < x.1 + 1 := hj
  have hp := lkPos_le (x.2 3) (v 3) x.1
  simp only [lkIns]
  by_cases c : j < lkPos (x.2 3) (v 3) x.1
  · simp only [c, if_true]
    exact h.2 j (by omega)
  · by_cases c2 : j = lkPos (x.2 3) (v 3) x.1
    · simp only [c, c2, if_true, if_false, Nat.lt_irrefl]
      exact hv
    · simp only [c, c2, if_false]
      exact h.2 (j - 1) (by omega)
/-- the links behind i one on -/
def mShf (M : Mm) (base k i : Nat) : Mm := fun b j => if base ≤ b ∧ b < base + 4 ∧ i < j ∧ j ≤ k then M b (j - 1) else M b j
theorem mShf_e {M : Mm} {base k : Nat} {v : Nat → Int} {x : Lks} {M' : Mm} (hx : lkIs M base x) (hk : x.1 = k) {p : Nat} (hp : p = lkPos (x.2 3) (v 3) k)
    (h : ∀ q, q < 4 → ∀ j, M' (base + q) j = if j = p then v q else mShf M base k p (base + q) j) : lkIs M' base (lkIns v x) := by
  intro q hq j hj
  have hp2 := lkPos_le (x.2 3) (v 3) k
  have hj' : j < x.1 + 1 := hj
  rw [h q hq j]
  simp only [lkIns, mShf]
  rw [hk, ← hp]
  by_cases c : j < p
  · rw [if_neg (by omega), if_neg (by omega), if_pos c]
    exact hx q hq j (by omega)
  · by_cases c2 : j = p
    · rw [if_pos c2, if_neg c, if_pos c2]
    · rw [if_neg c2, if_pos (by omega), if_neg c, if_neg c2]
      exact hx q hq (j - 1) (by omega)
theorem mShf_0 (M : Mm) (base k : Nat) : mShf M base k k = M := by
  funext b j
  simp only [mShf]
  rw [if_neg (by omega)]
theorem mShf_get {M : Mm} {base k i b j : Nat} (h : b < base ∨ base + 4 ≤ b ∨ j ≤ i) : mShf M base k i b j = M b j := if_neg (by omega)
set_option maxHeartbeats 4000000 in
set_option maxRecDepth 20000 in
theorem Web_insert_ok {a b s c : Int} {x : Lks} {M : Mm} (hx : lkIs M 61 x) (hr : lkR x) (hk : M 60 7 = x.1) (h28 : x.1 < 28) (hc : 0 ≤ c ∧ c ≤ 100) : CallV m_Web_insert [.inr 60, .inl a, .inl b, .inl s, .inl c] M (fun M' => lkIs M' 61 (lkIns (lkV a b s c) x) ∧ M' 60 7 = x.1 + 1 ∧ Fr 60 65 M M') := by
  have e3 : ∀ j, j < x.1 → M 64 j = x.2 3 j := hx 3 (by omega)
  have h1 : ¬ ((x.1 : Int) < 0) := by omega
  have h2 : (x.1 : Int) < 28 := by omega
  have h3 : ¬ (28 : Int) ≤ x.1 := by omega
  refine callP_of (by decide) (by decide) (Nat.le_of_ble_eq_true rfl) (wpm_of (cuts := [29]) (by decide) 50 _ _ _ _ ?_)
  rw [show lM m_Web_insert = 7 from rfl]
  simp (maxSteps := 2000000) only [↓reduceIte, wp_eq, wpd_eq, kont_eq, STP1, STP2, STP3, STP4, STP5, konM_eq, AMK, CZ, Option.map, List.getElem?_cons_zero, List.getElem?_cons_succ, List.mem_cons, List.not_mem_nil, if_false, if_true, Nat.reduceAdd, Nat.reduceLT, Nat.reduceLeDiff, Nat.reduceEqDiff, true_and, and_true, List.length_nil, List.length_cons, or_true, true_or, or_false, false_or, Option.some.injEq, Sum.inl.injEq, Sum.inr.injEq, exists_eq_left', exists_eq_left, Int.reduceLE, Int.reduceLT, Int.reduceNeg, Int.reduceAdd, Int.reduceMul, Int.reduceSub, Int.reduceToNat, inR, Nat.zero_ne_one, false_and, Nat.succ_ne_zero, reduceCtorEq, false_implies, true_implies, not_false_eq_true, not_true_eq_false, Int.reduceEq, KRE, C_Web_insert, FW, hk, h1, h2, h3]
  repeat (refine ⟨by omega, ?_⟩)
  try (first | (show _ ≤ _; omega) | (show _ < _; omega))
  refine loopQ x.1 (fun d ls M1 => M1 = mShf M 61 x.1 (x.1 - d) ∧ lkPos (x.2 3) c x.1 = lkPos (x.2 3) c (x.1 - d) ∧ ls = [some (.inr 60), some (.inl a), some (.inl b), some (.inl s), some (.inl c), some (.inl ((x.1 - d : Nat) : Int)), some (.inl ((x.1 - d : Nat) : Int))]) ?_ _ _ ⟨by rw [Nat.sub_zero, mShf_0], rfl, by rw [Nat.sub_zero]⟩
  rintro d _ _ hd ⟨rfl, hp, rfl⟩ K
  generalize hi : x.1 - d = i at *
  have g7 : mShf M 61 x.1 i 60 7 = x.1 := (mShf_get (Or.inl (by omega))).trans hk
  have fin : lkPos (x.2 3) c i = i → lkIs (mset (mset (mset (mset (mset (mShf M 61 x.1 i) 61 i a) 62 i b) 63 i s) 64 i c) 60 7 (x.1 + 1)) 61 (lkIns (lkV a b s c) x) ∧ mset (mset (mset (mset (mset (mShf M 61 x.1 i) 61 i a) 62 i b) 63 i s) 64 i c) 60 7 (x.1 + 1) 60 7 = x.1 + 1 ∧ Fr 60 65 M (mset (mset (mset (mset (mset (mShf M 61 x.1 i) 61 i a) 62 i b) 63 i s) 64 i c) 60 7 (x.1 + 1)) := by
    intro hpi
    refine ⟨mShf_e hx rfl (p := i) (by rw [show lkV a b s c 3 = c from rfl, hp, hpi]) (fun q hq j => ?_), by simp [mset], ?_⟩
    · rcases (show q = 0 ∨ q = 1 ∨ q = 2 ∨ q = 3 by omega) with rfl | rfl | rfl | rfl <;> simp [mset, lkV]
    · refine (((((?_ : Fr 60 65 M (mShf M 61 x.1 i)).st (by omega) (by omega)).st (by omega) (by omega)).st (by omega) (by omega)).st (by omega) (by omega)).st (by omega) (by omega)
      intro q hq j
      exact mShf_get (by omega)
  by_cases hz : i = 0
  · have f' := fin (by rw [hz]; rfl)
    subst hz
    refine wpm_of (cuts := [29]) (by decide) 100 _ _ _ _ ?_
    simp (maxSteps := 2000000) only [↓reduceIte, wp_eq, wpd_eq, kont_eq, STP1, STP2, STP3, STP4, STP5, konM_eq, AMK, CZ, Option.map, List.getElem?_cons_zero, List.getElem?_cons_succ, List.mem_cons, List.not_mem_nil, if_false, if_true, Nat.reduceAdd, Nat.reduceLT, Nat.reduceLeDiff, Nat.reduceEqDiff, true_and, and_true, List.length_nil, List.length_cons, or_true, true_or, or_false, false_or, Option.some.injEq, Sum.inl.injEq, Sum.inr.injEq, exists_eq_left', exists_eq_left, Int.reduceLE, Int.reduceLT, Int.reduceNeg, Int.reduceAdd, Int.reduceMul, Int.reduceSub, Int.reduceToNat, inR, Nat.zero_ne_one, false_and, Nat.succ_ne_zero, reduceCtorEq, false_implies, true_implies, not_false_eq_true, not_true_eq_false, Int.reduceEq, KRE, C_Web_insert, FW, g7, MSE, natT, Int.natCast_zero]
    exact ⟨f'.1, f'.2.2⟩
  · have hz2 : ¬ ((i : Int) ≤ 0) := by omega
    have hi1 : ((i : Int) - 1).toNat = i - 1 := by omega
    have eC : mShf M 61 x.1 i 64 (i - 1) = x.2 3 (i - 1) := (mShf_get (Or.inr (Or.inr (by omega)))).trans (e3 _ (by omega))
    have rC := (hr.2 (i - 1) (by omega)).2.2.2
    have eP : lkPos (x.2 3) c i = if x.2 3 (i - 1) < c then lkPos (x.2 3) c (i - 1) else i := by
      obtain ⟨m, rfl⟩ : ∃ m, i = m + 1 := ⟨i - 1, by omega⟩
      rfl
    by_cases hc2 : c ≤ x.2 3 (i - 1)
    · rw [if_neg (by omega)] at eP
      have f' := fin eP
      refine wpm_of (cuts := [29]) (by decide) 100 _ _ _ _ ?_
      simp (maxSteps := 2000000) only [↓reduceIte, wp_eq, wpd_eq, kont_eq, STP1, STP2, STP3, STP4, STP5, konM_eq, AMK, CZ, Option.map, List.getElem?_cons_zero, List.getElem?_cons_succ, List.mem_cons, List.not_mem_nil, if_false, if_true, Nat.reduceAdd, Nat.reduceLT, Nat.reduceLeDiff, Nat.reduceEqDiff, true_and, and_true, List.length_nil, List.length_cons, or_true, true_or, or_false, false_or, Option.some.injEq, Sum.inl.injEq, Sum.inr.injEq, exists_eq_left', exists_eq_left, Int.reduceLE, Int.reduceLT, Int.reduceNeg, Int.reduceAdd, Int.reduceMul, Int.reduceSub, Int.reduceToNat, inR, Nat.zero_ne_one, false_and, Nat.succ_ne_zero, reduceCtorEq, false_implies, true_implies, not_false_eq_true, not_true_eq_false, Int.reduceEq, KRE, C_Web_insert, FW, g7, MSE, natT, hz2, hi1, eC, hc2]
      repeat (refine ⟨by omega, ?_⟩)
      try (first | (show _ ≤ _; omega) | (show _ < _; omega))
      exact ⟨f'.1, f'.2.2⟩
    · rw [if_pos (by omega)] at eP
      have K' := K (by omega)
      rw [show x.1 - (d + 1) = i - 1 by omega] at K'
      have K'' := K' _ _ ⟨rfl, by rw [hp, eP], rfl⟩
      refine wpm_of (cuts := [29]) (by decide) 100 _ _ _ _ ?_
      simp (maxSteps := 2000000) only [↓reduceIte, wp_eq, wpd_eq, kont_eq, STP1, STP2, STP3, STP4, STP5, konM_eq, AMK, CZ, Option.map, List.getElem?_cons_zero, List.getElem?_cons_succ, List.mem_cons, List.not_mem_nil, if_false, if_true, Nat.reduceAdd, Nat.reduceLT, Nat.reduceLeDiff, Nat.reduceEqDiff, true_and, and_true, List.length_nil, List.length_cons, or_true, true_or, or_false, false_or, Option.some.injEq, Sum.inl.injEq, Sum.inr.injEq, exists_eq_left', exists_eq_left, Int.reduceLE, Int.reduceLT, Int.reduceNeg, Int.reduceAdd, Int.reduceMul, Int.reduceSub, Int.reduceToNat, inR, Nat.zero_ne_one, false_and, Nat.succ_ne_zero, reduceCtorEq, false_implies, true_implies, not_false_eq_true, not_true_eq_false, Int.reduceEq, KRE, C_Web_insert, FW, natT, hz2, hi1, eC, hc2]
      repeat (refine ⟨by omega, ?_⟩)
      try (first | (show _ ≤ _; omega) | (show _ < _; omega))
      refine WPm.eqL K'' ?_ rfl ?_
      · rw [show ((i - 1 : Nat) : Int) = i - 1 by omega]
        rfl
      · funext b j
        simp only [mset, mShf]
        clear K K' K'' hx hr e3 hp eP
        by_cases hj : j = i
        · subst hj
          grind
        · grind
/-! pieces: L t the least of a timber's piece, P t its place -/
abbrev Pcs : Type := (Nat → Int) × (Nat → Int)
def pcJ (f s d : Int) (x : Pcs) : Pcs := (fun t => if min f s = f ∧ x.1 t = s then f else if min f s = s ∧ x.1 t = f then s else x.1 t, fun t => if min f s = f ∧ x.1 t = s then x.2 t + d else if min f s = s ∧ x.1 t = f then x.2 t - d else x.2 t)
def pcS (F : Nat → Nat → Int) (i : Nat) (x : Pcs) : Pcs := if x.1 (F 0 i).toNat ≠ x.1 (F 1 i).toNat then pcJ (x.1 (F 0 i).toNat) (x.1 (F 1 i).toNat) (x.2 (F 0 i).toNat + F 2 i - x.2 (F 1 i).toNat) x else x
def pcN (F : Nat → Nat → Int) (k : Nat) : Pcs := foldN (fun i x => pcS F i x) (fun t => (t : Int), fun _ => 0) k
def pcT (F : Nat → Nat → Int) (i : Nat) : Int := if (pcN F i).1 (F 0 i).toNat ≠ (pcN F i).1 (F 1 i).toNat then 1 else 0
theorem pcN_succ (F : Nat → Nat → Int) (k : Nat) : pcN F (k + 1) = pcS F k (pcN F k) := rfl
def pcR (x : Pcs) : Prop := ∀ t, t < 8 → 0 ≤ x.1 t ∧ x.1 t ≤ 7
theorem pcR_S {F : Nat → Nat → Int} {i : Nat} {x : Pcs} (h : pcR x) (hF : (0 ≤ F 0 i ∧ F 0 i ≤ 7) ∧ (0 ≤ F 1 i ∧ F 1 i ≤ 7)) : pcR (pcS F i x) := by
  intro t ht
  have h0 := h t ht
  have h1 := h (F 0 i).toNat (by omega)
  have h2 := h (F 1 i).toNat (by omega)
  unfold pcS pcJ
  split
  · simp only
    split
    · exact h1
    · split
      · exact h2
      · exact h0
  · exact h0
theorem pcR_N {x : Lks} (h : lkR x) : ∀ k, k ≤ x.1 → pcR (pcN x.2 k)
  | 0, _ => fun t ht => ⟨Int.natCast_nonneg t, by show (t : Int) ≤ 7; omega⟩
  | k + 1, hk => pcR_S (pcR_N h k (by omega)) ⟨(h.2 k (by omega)).1, (h.2 k (by omega)).2.1⟩
set_option maxHeartbeats 4000000 in
set_option maxRecDepth 20000 in
theorem Web_leastOfPiece_ok {t : Int} {M : Mm} (ht : inR t) : CallI m_Web_leastOfPiece [.inr 60, .inl t] M (fun x M' => x = (if 0 ≤ t ∧ t < 8 then M 66 t.toNat else -1) ∧ M' = M) := by
  refine callP_of (by decide) (by decide) (Nat.le_of_ble_eq_true rfl) (wpm_of (cuts := []) (by decide) 50 _ _ _ _ ?_)
  rw [show lM m_Web_leastOfPiece = 2 from rfl]
  simp (maxSteps := 2000000) only [↓reduceIte, wp_eq, wpd_eq, kont_eq, STP1, STP2, STP3, STP4, STP5, konM_eq, AMK, CZ, Option.map, List.getElem?_cons_zero, List.getElem?_cons_succ, List.mem_cons, List.not_mem_nil, if_false, if_true, Nat.reduceAdd, Nat.reduceLT, Nat.reduceLeDiff, Nat.reduceEqDiff, true_and, and_true, List.length_nil, List.length_cons, or_true, true_or, or_false, false_or, Option.some.injEq, Sum.inl.injEq, Sum.inr.injEq, exists_eq_left', exists_eq_left, Int.reduceLE, Int.reduceLT, Int.reduceNeg, Int.reduceAdd, Int.reduceMul, Int.reduceSub, Int.reduceToNat, inR, Nat.zero_ne_one, false_and, Nat.succ_ne_zero, reduceCtorEq, false_implies, true_implies, not_false_eq_true, not_true_eq_false, Int.reduceEq, KRE, C_Web_leastOfPiece, FW]
  simp only [inR] at *
  grind
set_option maxHeartbeats 4000000 in
set_option maxRecDepth 20000 in
theorem Web_placeOf_ok {t : Int} {M : Mm} (ht : inR t) : CallI m_Web_placeOf [.inr 60, .inl t] M (fun x M' => x = (if 0 ≤ t ∧ t < 8 then M 67 t.toNat else 0) ∧ M' = M) := by
  refine callP_of (by decide) (by decide) (Nat.le_of_ble_eq_true rfl) (wpm_of (cuts := []) (by decide) 50 _ _ _ _ ?_)
  rw [show lM m_Web_placeOf = 2 from rfl]
  simp (maxSteps := 2000000) only [↓reduceIte, wp_eq, wpd_eq, kont_eq, STP1, STP2, STP3, STP4, STP5, konM_eq, AMK, CZ, Option.map, List.getElem?_cons_zero, List.getElem?_cons_succ, List.mem_cons, List.not_mem_nil, if_false, if_true, Nat.reduceAdd, Nat.reduceLT, Nat.reduceLeDiff, Nat.reduceEqDiff, true_and, and_true, List.length_nil, List.length_cons, or_true, true_or, or_false, false_or, Option.some.injEq, Sum.inl.injEq, Sum.inr.injEq, exists_eq_left', exists_eq_left, Int.reduceLE, Int.reduceLT, Int.reduceNeg, Int.reduceAdd, Int.reduceMul, Int.reduceSub, Int.reduceToNat, inR, Nat.zero_ne_one, false_and, Nat.succ_ne_zero, reduceCtorEq, false_implies, true_implies, not_false_eq_true, not_true_eq_false, Int.reduceEq, KRE, C_Web_placeOf, FW]
  simp only [inR] at *
  grind
/-- pieces as they stand in 66, 67, as far as k -/
def mPc (M : Mm) (x : Pcs) (k : Nat) : Mm := fun b j => if b = 66 ∧ j < k then x.1 j else if b = 67 ∧ j < k then x.2 j else M b j
set_option maxHeartbeats 4000000 in
set_option maxRecDepth 20000 in
theorem Web_join_ok {f s d : Int} {x : Pcs} {M : Mm} (hx : ∀ t, t < 8 → M 66 t = x.1 t ∧ M 67 t = x.2 t) (hr : pcR x) (hf : 0 ≤ f ∧ f ≤ 7) (hs : 0 ≤ s ∧ s ≤ 7) : CallV m_Web_join [.inr 60, .inl f, .inl s, .inl d] M (fun M' => M' = mPc M (pcJ f s d x) 8) := by
  refine callP_of (by decide) (by decide) (Nat.le_of_ble_eq_true rfl) (wpm_of (cuts := [10]) (by decide) 50 _ _ _ _ ?_)
  rw [show lM m_Web_join = 6 from rfl]
  simp (maxSteps := 2000000) only [↓reduceIte, wp_eq, wpd_eq, kont_eq, STP1, STP2, STP3, STP4, STP5, konM_eq, AMK, CZ, Option.map, List.getElem?_cons_zero, List.getElem?_cons_succ, List.mem_cons, List.not_mem_nil, if_false, if_true, Nat.reduceAdd, Nat.reduceLT, Nat.reduceLeDiff, Nat.reduceEqDiff, true_and, and_true, List.length_nil, List.length_cons, or_true, true_or, or_false, false_or, Option.some.injEq, Sum.inl.injEq, Sum.inr.injEq, exists_eq_left', exists_eq_left, Int.reduceLE, Int.reduceLT, Int.reduceNeg, Int.reduceAdd, Int.reduceMul, Int.reduceSub, Int.reduceToNat, inR, Nat.zero_ne_one, false_and, Nat.succ_ne_zero, reduceCtorEq, false_implies, true_implies, not_false_eq_true, not_true_eq_false, Int.reduceEq, KRE, C_Web_join, FW]
  repeat (refine ⟨by omega, ?_⟩)
  try (first | (show _ ≤ _; omega) | (show _ < _; omega))
  refine loopQ 8 (fun k ls M1 => M1 = mPc M (pcJ f s d x) k ∧ ls = [some (.inr 60), some (.inl f), some (.inl s), some (.inl d), some (.inl (min f s)), some (.inl k)]) ?_ _ _ ⟨?_, rfl⟩
  · rintro k _ _ hk ⟨rfl, rfl⟩ K
    by_cases hz : (8 : Int) ≤ k
    · refine wpm_of (cuts := [10]) (by decide) 100 _ _ _ _ ?_
      simp (maxSteps := 2000000) only [↓reduceIte, wp_eq, wpd_eq, kont_eq, STP1, STP2, STP3, STP4, STP5, konM_eq, AMK, CZ, Option.map, List.getElem?_cons_zero, List.getElem?_cons_succ, List.mem_cons, List.not_mem_nil, if_false, if_true, Nat.reduceAdd, Nat.reduceLT, Nat.reduceLeDiff, Nat.reduceEqDiff, true_and, and_true, List.length_nil, List.length_cons, or_true, true_or, or_false, false_or, Option.some.injEq, Sum.inl.injEq, Sum.inr.injEq, exists_eq_left', exists_eq_left, Int.reduceLE, Int.reduceLT, Int.reduceNeg, Int.reduceAdd, Int.reduceMul, Int.reduceSub, Int.reduceToNat, inR, Nat.zero_ne_one, false_and, Nat.succ_ne_zero, reduceCtorEq, false_implies, true_implies, not_false_eq_true, not_true_eq_false, Int.reduceEq, KRE, C_Web_join, FW, hz]
      repeat (refine ⟨by omega, ?_⟩)
      try (first | (show _ ≤ _; omega) | (show _ < _; omega))
      rw [show k = 8 by omega]
    · have g6 : mPc M (pcJ f s d x) k 66 k = x.1 k := by
        rw [← (hx k (by omega)).1]
        simp [mPc]
      have g7 : mPc M (pcJ f s d x) k 67 k = x.2 k := by
        rw [← (hx k (by omega)).2]
        simp [mPc]
      have rk := hr k (by omega)
      have fin : ∀ v w, v = (pcJ f s d x).1 k → w = (pcJ f s d x).2 k → mset (mset (mPc M (pcJ f s d x) k) 66 k v) 67 k w = mPc M (pcJ f s d x) (k + 1) := by
        intro v w hv hw
        subst hv; subst hw
        generalize pcJ f s d x = y
        funext b j
        simp only [mset, mPc]
        by_cases hj : j = k
        · subst hj
          grind
        · grind
      have skip : x.1 k = (pcJ f s d x).1 k → x.2 k = (pcJ f s d x).2 k → mPc M (pcJ f s d x) k = mPc M (pcJ f s d x) (k + 1) := by
        intro e1 e2
        have := fin _ _ e1 e2
        rw [← g6, ← g7, mset_same] at this
        rw [← this]
        funext b j
        simp only [mset]
        grind
      have K' := K (by omega) _ _ ⟨rfl, rfl⟩
      have eJ1 : (pcJ f s d x).1 k = if min f s = f ∧ x.1 k = s then f else if min f s = s ∧ x.1 k = f then s else x.1 k := rfl
      have eJ2 : (pcJ f s d x).2 k = if min f s = f ∧ x.1 k = s then x.2 k + d else if min f s = s ∧ x.1 k = f then x.2 k - d else x.2 k := rfl
      refine wpm_of (cuts := [10]) (by decide) 100 _ _ _ _ ?_
      simp (maxSteps := 2000000) only [↓reduceIte, wp_eq, wpd_eq, kont_eq, STP1, STP2, STP3, STP4, STP5, konM_eq, AMK, CZ, Option.map, List.getElem?_cons_zero, List.getElem?_cons_succ, List.mem_cons, List.not_mem_nil, if_false, if_true, Nat.reduceAdd, Nat.reduceLT, Nat.reduceLeDiff, Nat.reduceEqDiff, true_and, and_true, List.length_nil, List.length_cons, or_true, true_or, or_false, false_or, Option.some.injEq, Sum.inl.injEq, Sum.inr.injEq, exists_eq_left', exists_eq_left, Int.reduceLE, Int.reduceLT, Int.reduceNeg, Int.reduceAdd, Int.reduceMul, Int.reduceSub, Int.reduceToNat, inR, Nat.zero_ne_one, false_and, Nat.succ_ne_zero, reduceCtorEq, false_implies, true_implies, not_false_eq_true, not_true_eq_false, Int.reduceEq, KRE, C_Web_join, FW, hz, natT, g6, g7, MSE]
      by_cases c1 : min f s = f ∧ x.1 k = s
      · rw [if_pos c1] at eJ1 eJ2
        have d1 := eq_true c1.1
        have d2 := eq_true c1.2
        simp only [d1, d2, not_true_eq_false, not_false_eq_true, true_implies, false_implies, and_true, true_and]
        repeat (refine ⟨by omega, ?_⟩)
        try (first | (show _ ≤ _; omega) | (show _ < _; omega))
        exact WPm.eqM K' (fin _ _ (by rw [eJ1]; exact c1.1) (by rw [eJ2])).symm
      · rw [if_neg c1] at eJ1 eJ2
        by_cases c2 : min f s = s ∧ x.1 k = f
        · rw [if_pos c2] at eJ1 eJ2
          have K2 := WPm.eqM K' (fin (min f s) (x.2 k - d) (by rw [eJ1]; exact c2.1) (by rw [eJ2])).symm
          clear K K' fin skip
          repeat' (first | with_reducible apply And.intro | with_reducible intro _)
          all_goals first | exact K2 | omega
        · rw [if_neg c2] at eJ1 eJ2
          have K2 := WPm.eqM K' (skip eJ1.symm eJ2.symm).symm
          clear K K' fin skip
          repeat' (first | with_reducible apply And.intro | with_reducible intro _)
          all_goals first | exact K2 | omega
  · funext b j
    simp only [mPc]
    grind
theorem mPc_get {M : Mm} {x : Pcs} : (∀ t, t < 8 → mPc M x 8 66 t = x.1 t ∧ mPc M x 8 67 t = x.2 t) ∧ ∀ b j, b ≠ 66 → b ≠ 67 → mPc M x 8 b j = M b j := by
  refine ⟨fun t ht => ⟨by simp [mPc, ht], by simp [mPc, ht]⟩, fun b j h1 h2 => by simp [mPc, h1, h2]⟩
/-- pieces and what is tied, as far as i links -/
def mTie (M : Mm) (F : Nat → Nat → Int) (i : Nat) : Mm := fun b j => if b = 66 ∧ j < 8 then (pcN F i).1 j else if b = 67 ∧ j < 8 then (pcN F i).2 j else if b = 65 ∧ j < i then pcT F j else M b j
theorem mTie_s {M : Mm} {F : Nat → Nat → Int} {i : Nat} : mPc (mset (mTie M F i) 65 i (pcT F i)) (pcN F (i + 1)) 8 = mTie M F (i + 1) := by
  funext b j
  by_cases h6 : b = 66
  · subst h6
    by_cases hj : j < 8
    · simp [mPc, mTie, hj]
    · simp [mPc, mTie, hj, mset]
  · by_cases h7 : b = 67
    · subst h7
      by_cases hj : j < 8
      · simp [mPc, mTie, hj]
      · simp [mPc, mTie, hj, mset]
    · by_cases h5 : b = 65
      · subst h5
        by_cases hj : j = i
        · subst hj
          simp [mPc, mTie, mset]
        · have e : (j < i) = (j < i + 1) := propext ⟨fun z => by omega, fun z => by omega⟩
          simp [mPc, mTie, mset, hj, e]
      · simp [mPc, mTie, mset, h5, h6, h7]
theorem mTie_k {M : Mm} {F : Nat → Nat → Int} {i : Nat} (h : pcN F (i + 1) = pcN F i) : mset (mTie M F i) 65 i (pcT F i) = mTie M F (i + 1) := by
  funext b j
  by_cases h6 : b = 66
  · subst h6
    by_cases hj : j < 8
    · simp [mTie, hj, h, mset]
    · simp [mTie, hj, mset]
  · by_cases h7 : b = 67
    · subst h7
      by_cases hj : j < 8
      · simp [mTie, hj, h, mset]
      · simp [mTie, hj, mset]
    · by_cases h5 : b = 65
      · subst h5
        by_cases hj : j = i
        · subst hj
          simp [mTie, mset]
        · have e : (j < i) = (j < i + 1) := propext ⟨fun z => by omega, fun z => by omega⟩
          simp [mTie, mset, hj, e]
      · simp [mTie, mset, h5, h6, h7]
set_option maxHeartbeats 4000000 in
set_option maxRecDepth 20000 in
theorem Web_tieAll_ok {x : Lks} {M : Mm} (hx : lkIs M 61 x) (hr : lkR x) (hk : M 60 7 = x.1) : CallV m_Web_tieAll [.inr 60] M (fun M' => M' = mTie M x.2 x.1) := by
  have k28 := hr.1
  refine callP_of (by decide) (by decide) (Nat.le_of_ble_eq_true rfl) (wpm_of (cuts := [2]) (by decide) 50 _ _ _ _ ?_)
  rw [show lM m_Web_tieAll = 4 from rfl]
  simp (maxSteps := 2000000) only [↓reduceIte, wp_eq, wpd_eq, kont_eq, STP1, STP2, STP3, STP4, STP5, konM_eq, AMK, CZ, Option.map, List.getElem?_cons_zero, List.getElem?_cons_succ, List.mem_cons, List.not_mem_nil, if_false, if_true, Nat.reduceAdd, Nat.reduceLT, Nat.reduceLeDiff, Nat.reduceEqDiff, true_and, and_true, List.length_nil, List.length_cons, or_true, true_or, or_false, false_or, Option.some.injEq, Sum.inl.injEq, Sum.inr.injEq, exists_eq_left', exists_eq_left, Int.reduceLE, Int.reduceLT, Int.reduceNeg, Int.reduceAdd, Int.reduceMul, Int.reduceSub, Int.reduceToNat, inR, Nat.zero_ne_one, false_and, Nat.succ_ne_zero, reduceCtorEq, false_implies, true_implies, not_false_eq_true, not_true_eq_false, Int.reduceEq, KRE, C_Web_tieAll, FW]
  refine loopQ 8 (fun k ls M1 => M1 = mPc M (fun t => (t : Int), fun _ => 0) k ∧ ∃ a2 a3, ls = [some (.inr 60), some (.inl k), a2, a3]) ?_ _ _ ⟨?_, none, none, rfl⟩
  · rintro k _ _ hk8 ⟨rfl, a2, a3, rfl⟩ K
    by_cases hz : (8 : Int) ≤ k
    · refine wpm_of (cuts := [2, 30]) (by decide) 100 _ _ _ _ ?_
      simp (maxSteps := 2000000) only [↓reduceIte, wp_eq, wpd_eq, kont_eq, STP1, STP2, STP3, STP4, STP5, konM_eq, AMK, CZ, Option.map, List.getElem?_cons_zero, List.getElem?_cons_succ, List.mem_cons, List.not_mem_nil, if_false, if_true, Nat.reduceAdd, Nat.reduceLT, Nat.reduceLeDiff, Nat.reduceEqDiff, true_and, and_true, List.length_nil, List.length_cons, or_true, true_or, or_false, false_or, Option.some.injEq, Sum.inl.injEq, Sum.inr.injEq, exists_eq_left', exists_eq_left, Int.reduceLE, Int.reduceLT, Int.reduceNeg, Int.reduceAdd, Int.reduceMul, Int.reduceSub, Int.reduceToNat, inR, Nat.zero_ne_one, false_and, Nat.succ_ne_zero, reduceCtorEq, false_implies, true_implies, not_false_eq_true, not_true_eq_false, Int.reduceEq, KRE, C_Web_tieAll, FW, hz]
      repeat (refine ⟨by omega, ?_⟩)
      try (first | (show _ ≤ _; omega) | (show _ < _; omega))
      refine loopQ x.1 (fun i ls M1 => M1 = mTie M x.2 i ∧ ∃ a2 a3, ls = [some (.inr 60), some (.inl i), a2, a3]) ?_ _ _ ⟨?_, a2, a3, rfl⟩
      · clear K
        rintro i _ _ hi ⟨rfl, a2, a3, rfl⟩ K
        have g7 : mTie M x.2 i 60 7 = x.1 := by rw [← hk]; simp [mTie]
        by_cases hz1 : (x.1 : Int) ≤ i
        · refine wpm_of (cuts := [30]) (by decide) 100 _ _ _ _ ?_
          simp (maxSteps := 2000000) only [↓reduceIte, wp_eq, wpd_eq, kont_eq, STP1, STP2, STP3, STP4, STP5, konM_eq, AMK, CZ, Option.map, List.getElem?_cons_zero, List.getElem?_cons_succ, List.mem_cons, List.not_mem_nil, if_false, if_true, Nat.reduceAdd, Nat.reduceLT, Nat.reduceLeDiff, Nat.reduceEqDiff, true_and, and_true, List.length_nil, List.length_cons, or_true, true_or, or_false, false_or, Option.some.injEq, Sum.inl.injEq, Sum.inr.injEq, exists_eq_left', exists_eq_left, Int.reduceLE, Int.reduceLT, Int.reduceNeg, Int.reduceAdd, Int.reduceMul, Int.reduceSub, Int.reduceToNat, inR, Nat.zero_ne_one, false_and, Nat.succ_ne_zero, reduceCtorEq, false_implies, true_implies, not_false_eq_true, not_true_eq_false, Int.reduceEq, KRE, C_Web_tieAll, FW, g7, hz1]
          repeat (refine ⟨by omega, ?_⟩)
          try (first | (show _ ≤ _; omega) | (show _ < _; omega))
          rw [show i = x.1 by omega]
        · have hz2 : ¬ (28 : Int) ≤ i := by omega
          obtain ⟨r0, r1, r2, r3⟩ := hr.2 i (by omega)
          have g0 : mTie M x.2 i 61 i = x.2 0 i := by rw [← hx 0 (by omega) i (by omega)]; simp [mTie]
          have g1 : mTie M x.2 i 62 i = x.2 1 i := by rw [← hx 1 (by omega) i (by omega)]; simp [mTie]
          have g2 : mTie M x.2 i 63 i = x.2 2 i := by rw [← hx 2 (by omega) i (by omega)]; simp [mTie]
          have gL : ∀ t : Int, 0 ≤ t ∧ t ≤ 7 → mTie M x.2 i 66 t.toNat = (pcN x.2 i).1 t.toNat ∧ mTie M x.2 i 67 t.toNat = (pcN x.2 i).2 t.toNat := fun t ht => by
            have : t.toNat < 8 := by omega
            simp [mTie, this]
          have rN := pcR_N hr i (by omega)
          have q0 := rN (x.2 0 i).toNat (by omega)
          have q1 := rN (x.2 1 i).toNat (by omega)
          have fin : ∀ M2, M2 = mPc (mset (mTie M x.2 i) 65 i (pcT x.2 i)) (pcN x.2 (i + 1)) 8 → M2 = mTie M x.2 (i + 1) := by
            intro M2 e
            subst e
            exact mTie_s
          have K' := fun a2 a3 => K (by omega) _ _ ⟨rfl, a2, a3, rfl⟩
          refine wpm_of (cuts := [30]) (by decide) 100 _ _ _ _ ?_
          simp (maxSteps := 2000000) only [↓reduceIte, wp_eq, wpd_eq, kont_eq, STP1, STP2, STP3, STP4, STP5, konM_eq, AMK, CZ, Option.map, List.getElem?_cons_zero, List.getElem?_cons_succ, List.mem_cons, List.not_mem_nil, if_false, if_true, Nat.reduceAdd, Nat.reduceLT, Nat.reduceLeDiff, Nat.reduceEqDiff, true_and, and_true, List.length_nil, List.length_cons, or_true, true_or, or_false, false_or, Option.some.injEq, Sum.inl.injEq, Sum.inr.injEq, exists_eq_left', exists_eq_left, Int.reduceLE, Int.reduceLT, Int.reduceNeg, Int.reduceAdd, Int.reduceMul, Int.reduceSub, Int.reduceToNat, inR, Nat.zero_ne_one, false_and, Nat.succ_ne_zero, reduceCtorEq, false_implies, true_implies, not_false_eq_true, not_true_eq_false, Int.reduceEq, KRE, C_Web_tieAll, FW, g7, hz1, hz2, natT, g0, g1]
          repeat (refine ⟨by omega, ?_⟩)
          try (first | (show _ ≤ _; omega) | (show _ < _; omega))
          refine (Web_leastOfPiece_ok (t := x.2 0 i) ⟨by omega, by omega⟩).eq ?_
          refine (Web_leastOfPiece_ok (t := x.2 1 i) ⟨by omega, by omega⟩).eq ?_
          rw [if_pos (by omega), if_pos (by omega), (gL _ r0).1, (gL _ r1).1]
          have eT : pcT x.2 i = if (pcN x.2 i).1 (x.2 0 i).toNat ≠ (pcN x.2 i).1 (x.2 1 i).toNat then 1 else 0 := rfl
          have eS : pcN x.2 (i + 1) = if (pcN x.2 i).1 (x.2 0 i).toNat ≠ (pcN x.2 i).1 (x.2 1 i).toNat then pcJ ((pcN x.2 i).1 (x.2 0 i).toNat) ((pcN x.2 i).1 (x.2 1 i).toNat) ((pcN x.2 i).2 (x.2 0 i).toNat + x.2 2 i - (pcN x.2 i).2 (x.2 1 i).toNat) (pcN x.2 i) else pcN x.2 i := rfl
          by_cases c : (pcN x.2 i).1 (x.2 0 i).toNat = (pcN x.2 i).1 (x.2 1 i).toNat
          · rw [if_neg (fun z => z c)] at eT eS
            have c' := eq_true c
            simp (maxSteps := 2000000) only [↓reduceIte, wp_eq, wpd_eq, kont_eq, STP1, STP2, STP3, STP4, STP5, konM_eq, AMK, CZ, Option.map, List.getElem?_cons_zero, List.getElem?_cons_succ, List.mem_cons, List.not_mem_nil, if_false, if_true, Nat.reduceAdd, Nat.reduceLT, Nat.reduceLeDiff, Nat.reduceEqDiff, true_and, and_true, List.length_nil, List.length_cons, or_true, true_or, or_false, false_or, Option.some.injEq, Sum.inl.injEq, Sum.inr.injEq, exists_eq_left', exists_eq_left, Int.reduceLE, Int.reduceLT, Int.reduceNeg, Int.reduceAdd, Int.reduceMul, Int.reduceSub, Int.reduceToNat, inR, Nat.zero_ne_one, false_and, Nat.succ_ne_zero, reduceCtorEq, false_implies, true_implies, not_false_eq_true, not_true_eq_false, Int.reduceEq, KRE, C_Web_tieAll, FW, c', MSE, natT]
            repeat (refine ⟨by omega, ?_⟩)
            try (first | (show _ ≤ _; omega) | (show _ < _; omega))
            have := mTie_k (M := M) eS
            rw [eT] at this
            exact WPm.eqM (K' _ _) this.symm
          · rw [if_pos c] at eT eS
            have c' := eq_false c
            have nL : ∀ t : Int, 0 ≤ t ∧ t ≤ 7 → mset (mTie M x.2 i) 65 i 1 66 t.toNat = (pcN x.2 i).1 t.toNat ∧ mset (mTie M x.2 i) 65 i 1 67 t.toNat = (pcN x.2 i).2 t.toNat := fun t ht => by
              obtain ⟨u1, u2⟩ := gL t ht
              exact ⟨(mset_ne 66 (by decide) _).trans u1, (mset_ne 67 (by decide) _).trans u2⟩
            simp (maxSteps := 2000000) only [↓reduceIte, wp_eq, wpd_eq, kont_eq, STP1, STP2, STP3, STP4, STP5, konM_eq, AMK, CZ, Option.map, List.getElem?_cons_zero, List.getElem?_cons_succ, List.mem_cons, List.not_mem_nil, if_false, if_true, Nat.reduceAdd, Nat.reduceLT, Nat.reduceLeDiff, Nat.reduceEqDiff, true_and, and_true, List.length_nil, List.length_cons, or_true, true_or, or_false, false_or, Option.some.injEq, Sum.inl.injEq, Sum.inr.injEq, exists_eq_left', exists_eq_left, Int.reduceLE, Int.reduceLT, Int.reduceNeg, Int.reduceAdd, Int.reduceMul, Int.reduceSub, Int.reduceToNat, inR, Nat.zero_ne_one, false_and, Nat.succ_ne_zero, reduceCtorEq, false_implies, true_implies, not_false_eq_true, not_true_eq_false, Int.reduceEq, KRE, C_Web_tieAll, FW, c', MSE, natT]
            repeat (refine ⟨by omega, ?_⟩)
            try (first | (show _ ≤ _; omega) | (show _ < _; omega))
            refine (Web_leastOfPiece_ok (t := x.2 0 i) ⟨by omega, by omega⟩).eq ?_
            refine (Web_leastOfPiece_ok (t := x.2 1 i) ⟨by omega, by omega⟩).eq ?_
            refine (Web_placeOf_ok (t := x.2 0 i) ⟨by omega, by omega⟩).eq ?_
            rw [if_pos (by omega), if_pos (by omega), if_pos (by omega), (nL _ r0).1, (nL _ r1).1, (nL _ r0).2]
            have n2 : mset (mTie M x.2 i) 65 i 1 63 i = x.2 2 i := (mset_ne 63 (by decide) _).trans g2
            simp (maxSteps := 2000000) only [↓reduceIte, wp_eq, wpd_eq, kont_eq, STP1, STP2, STP3, STP4, STP5, konM_eq, AMK, CZ, Option.map, List.getElem?_cons_zero, List.getElem?_cons_succ, List.mem_cons, List.not_mem_nil, if_false, if_true, Nat.reduceAdd, Nat.reduceLT, Nat.reduceLeDiff, Nat.reduceEqDiff, true_and, and_true, List.length_nil, List.length_cons, or_true, true_or, or_false, false_or, Option.some.injEq, Sum.inl.injEq, Sum.inr.injEq, exists_eq_left', exists_eq_left, Int.reduceLE, Int.reduceLT, Int.reduceNeg, Int.reduceAdd, Int.reduceMul, Int.reduceSub, Int.reduceToNat, inR, Nat.zero_ne_one, false_and, Nat.succ_ne_zero, reduceCtorEq, false_implies, true_implies, not_false_eq_true, not_true_eq_false, Int.reduceEq, KRE, C_Web_tieAll, FW, n2, natT]
            repeat (refine ⟨by omega, ?_⟩)
            try (first | (show _ ≤ _; omega) | (show _ < _; omega))
            refine (Web_placeOf_ok (t := x.2 1 i) ⟨by omega, by omega⟩).eq ?_
            rw [if_pos (by omega), (nL _ r1).2]
            refine (Web_join_ok (x := pcN x.2 i) (fun t ht => ?_) rN (by omega) (by omega)).eq ?_
            · have := nL t ⟨by omega, by omega⟩
              simpa [natT] using this
            · have f2 := mTie_s (M := M) (F := x.2) (i := i)
              rw [eT, eS] at f2
              exact WPm.eqM (K' _ _) f2.symm
      · funext b j
        rw [show k = 8 by omega]
        by_cases h6 : b = 66
        · subst h6
          by_cases hj : j < 8 <;> simp [mTie, mPc, hj, pcN, foldN]
        · by_cases h7 : b = 67
          · subst h7
            by_cases hj : j < 8 <;> simp [mTie, mPc, hj, pcN, foldN]
          · simp [mTie, mPc, h6, h7]
    · have K' := K (by omega) _ _ ⟨rfl, a2, a3, rfl⟩
      refine wpm_of (cuts := [2, 30]) (by decide) 100 _ _ _ _ ?_
      simp (maxSteps := 2000000) only [↓reduceIte, wp_eq, wpd_eq, kont_eq, STP1, STP2, STP3, STP4, STP5, konM_eq, AMK, CZ, Option.map, List.getElem?_cons_zero, List.getElem?_cons_succ, List.mem_cons, List.not_mem_nil, if_false, if_true, Nat.reduceAdd, Nat.reduceLT, Nat.reduceLeDiff, Nat.reduceEqDiff, true_and, and_true, List.length_nil, List.length_cons, or_true, true_or, or_false, false_or, Option.some.injEq, Sum.inl.injEq, Sum.inr.injEq, exists_eq_left', exists_eq_left, Int.reduceLE, Int.reduceLT, Int.reduceNeg, Int.reduceAdd, Int.reduceMul, Int.reduceSub, Int.reduceToNat, inR, Nat.zero_ne_one, false_and, Nat.succ_ne_zero, reduceCtorEq, false_implies, true_implies, not_false_eq_true, not_true_eq_false, Int.reduceEq, KRE, C_Web_tieAll, FW, hz]
      repeat (refine ⟨by omega, ?_⟩)
      try (first | (show _ ≤ _; omega) | (show _ < _; omega))
      refine WPm.eqM K' ?_
      funext b j
      simp only [mset, mPc, natT]
      by_cases hj : j = k
      · subst hj
        grind
      · grind
  · funext b j
    simp only [mPc]
    grind
