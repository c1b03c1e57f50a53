/-! TOLD, 1: the text of a timber; the reference tells it. -/
def dgW (v : Int) : List Int := if v ≤ 9 then [48 + v] else [48 + v / 10, 48 + v % 10]
def rgW (A : Rw) : Nat → List Int
  | 0 => []
  | r + 1 => rgW A r ++ (32 :: dgW (A.1 r) ++ (if A.2.2 r = 0 then [] else [63]))
def tW0 : List Int := [116, 105, 109, 98, 101, 114]
def txW (le mo : Int) (A : Rw) : List Int := tW0 ++ (32 :: dgW le) ++ (32 :: dgW mo) ++ rgW A A.2.1.toNat ++ [59]
theorem dgW_len (v : Int) : 1 ≤ (dgW v).length ∧ (dgW v).length ≤ 2 := by
  unfold dgW
  split <;> simp
theorem rgW_len (A : Rw) : ∀ r, (rgW A r).length ≤ 4 * r
  | 0 => by simp [rgW]
  | r + 1 => by
    have h1 := rgW_len A r
    have h2 := (dgW_len (A.1 r)).2
    have h3 : (if A.2.2 r = 0 then ([] : List Int) else [63]).length ≤ 1 := by split <;> simp
    simp only [rgW, List.length_append, List.length_cons]
    omega
theorem txW_len {le mo : Int} {A : Rw} (h : A.2.1 ≤ 24) : (txW le mo A).length ≤ 109 := by
  have h1 := rgW_len A A.2.1.toNat
  have h2 := (dgW_len le).2
  have h3 := (dgW_len mo).2
  have h4 : tW0.length = 6 := rfl
  simp only [txW, List.length_append, List.length_cons, List.length_nil]
  omega
def txP : Nat → Nat → Prop := fun b j => b = 154 ∧ j = 68 ∨ b = 185
/-- the text w told, out of M0 -/
def txM (M0 M : Mm) (w : List Int) : Prop := M 154 68 = (w.length : Int) ∧ (∀ j, j < w.length → M 185 j = w.getD j 0) ∧ FrP txP M0 M
def mSay (M : Mm) (n : Nat) (c : Int) : Mm := mset (mset M 185 n c) 154 68 ((n : Int) + 1)
theorem getD_app {w : List Int} {c : Int} {j : Nat} (h : j < w.length + 1) : (w ++ [c]).getD j 0 = if j = w.length then c else w.getD j 0 := by
  by_cases e : j = w.length
  · subst e
    rw [if_pos rfl, List.getD_eq_getElem?_getD, List.getElem?_append_right (Nat.le_refl _), Nat.sub_self]
    rfl
  · rw [if_neg e, List.getD_eq_getElem?_getD, List.getElem?_append_left (by omega), List.getD_eq_getElem?_getD]
theorem txM_app {M0 M : Mm} {w : List Int} {c : Int} (h : txM M0 M w) : txM M0 (mSay M w.length c) (w ++ [c]) := by
  obtain ⟨h1, h2, h3⟩ := h
  refine ⟨?_, fun j hj => ?_, fun b j z => ?_⟩
  · simp [mSay, mset]
  · have hj' : j < w.length + 1 := by simpa using hj
    rw [getD_app hj']
    by_cases e : j = w.length
    · subst e
      rw [if_pos rfl]
      simp [mSay, mset]
    · rw [if_neg e, ← h2 j (by omega)]
      simp [mSay, mset, e]
  · rw [← h3 b j z]
    have z' : ¬ (b = 154 ∧ j = 68) ∧ b ≠ 185 := by
      constructor
      · exact fun y => z (.inl y)
      · exact fun y => z (.inr y)
    show (if b = 154 ∧ j = 68 then _ else if b = 185 ∧ j = w.length then _ else M b j) = M b j
    rw [if_neg z'.1, if_neg (fun y => z'.2 y.1)]
section MT
variable {n : Nat} {T : Nat → Rw} {Y : Nat → Int} {lap bnd mrg : Int} {M M0 : Mm} {w : List Int}
set_option maxHeartbeats 600000 in
set_option maxRecDepth 20000 in
theorem Model_says_ok {k : Nat} {c : Int} (h : M 154 68 = k) (hk : k < 200) : CallV m_Model_says [.inr 154, .inl c] M (fun M' => M' = mSay M k c) := by
  have e2 : ∀ v, mset M 185 k v 154 68 = k := fun v => by rw [← h]; simp [mset]
  have hk0 := eq_true (show (0 : Int) ≤ (k : Int) by omega)
  have hk1 := eq_true (show (k : Int) < ((200 : Nat) : Int) by omega)
  refine callP_of (by decide) (by decide) (Nat.le_of_ble_eq_true rfl) (wpm_of (cuts := []) (by decide) 60 _ _ _ _ ?_)
  rw [show lM m_Model_says = 2 from rfl]
  simp (maxSteps := 2000000) only [↓reduceIte, wp_eq, wpd_eq, kont_eq, STP1, STP2, STP3, STP4, STP5, konM_eq, AMK, CZ, Option.map, List.getElem?_cons_zero, List.getElem?_cons_succ, List.mem_cons, List.not_mem_nil, if_false, if_true, Nat.reduceAdd, Nat.reduceLT, Nat.reduceLeDiff, Nat.reduceEqDiff, true_and, and_true, List.length_nil, List.length_cons, or_true, true_or, or_false, false_or, Option.some.injEq, Sum.inl.injEq, Sum.inr.injEq, exists_eq_left', exists_eq_left, Int.reduceLE, Int.reduceLT, Int.reduceNeg, Int.reduceAdd, Int.reduceMul, Int.reduceSub, Int.reduceToNat, inR, Nat.zero_ne_one, false_and, Nat.succ_ne_zero, reduceCtorEq, false_implies, true_implies, not_false_eq_true, not_true_eq_false, Int.reduceEq, KRE, C_Model_says, FM, h, natT, e2]
  repeat (first | refine ⟨by omega, ?_⟩ | refine ⟨fun _ _ => okt_nn (by omega), ?_⟩)
  try (first | (show _ ≤ _; omega) | (show _ < _; omega))
  try exact rfl
theorem says_tx {c : Int} (h : txM M0 M w) (hw : w.length < 200) : CallV m_Model_says [.inr 154, .inl c] M (fun M' => txM M0 M' (w ++ [c])) := (Model_says_ok h.1 hw).mono (fun M' z => by rw [z]; exact txM_app h)
set_option maxHeartbeats 600000 in
set_option maxRecDepth 20000 in
theorem saysN_tx {v : Int} (h : txM M0 M w) (hw : w.length < 190) (h0 : 0 ≤ v) (h1 : v ≤ 99) : CallV m_Model_saysNumber [.inr 154, .inl v] M (fun M' => txM M0 M' (w ++ 32 :: dgW v)) := by
  refine callP_of (by decide) (by decide) (Nat.le_of_ble_eq_true rfl) (wpm_of (cuts := []) (by decide) 60 _ _ _ _ ?_)
  rw [show lM m_Model_saysNumber = 2 from rfl]
  simp (maxSteps := 2000000) only [↓reduceIte, wp_eq, wpd_eq, kont_eq, STP1, STP2, STP3, STP4, STP5, konM_eq, AMK, CZ, Option.map, List.getElem?_cons_zero, List.getElem?_cons_succ, List.mem_cons, List.not_mem_nil, if_false, if_true, Nat.reduceAdd, Nat.reduceLT, Nat.reduceLeDiff, Nat.reduceEqDiff, true_and, and_true, List.length_nil, List.length_cons, or_true, true_or, or_false, false_or, Option.some.injEq, Sum.inl.injEq, Sum.inr.injEq, exists_eq_left', exists_eq_left, Int.reduceLE, Int.reduceLT, Int.reduceNeg, Int.reduceAdd, Int.reduceMul, Int.reduceSub, Int.reduceToNat, inR, Nat.zero_ne_one, false_and, Nat.succ_ne_zero, reduceCtorEq, false_implies, true_implies, not_false_eq_true, not_true_eq_false, Int.reduceEq, KRE, C_Model_saysNumber, FM]
  repeat (first | refine ⟨by omega, ?_⟩ | refine ⟨fun _ _ => okt_nn (by omega), ?_⟩)
  try (first | (show _ ≤ _; omega) | (show _ < _; omega))
  refine (says_tx h (by omega)).mono (fun M1 g1 => ?_)
  by_cases c : v ≤ 9
  · have c' := eq_true c
    try simp (maxSteps := 2000000) only [↓reduceIte, wp_eq, wpd_eq, kont_eq, STP1, STP2, STP3, STP4, STP5, konM_eq, AMK, CZ, Option.map, List.getElem?_cons_zero, List.getElem?_cons_succ, List.mem_cons, List.not_mem_nil, if_false, if_true, Nat.reduceAdd, Nat.reduceLT, Nat.reduceLeDiff, Nat.reduceEqDiff, true_and, and_true, List.length_nil, List.length_cons, or_true, true_or, or_false, false_or, Option.some.injEq, Sum.inl.injEq, Sum.inr.injEq, exists_eq_left', exists_eq_left, Int.reduceLE, Int.reduceLT, Int.reduceNeg, Int.reduceAdd, Int.reduceMul, Int.reduceSub, Int.reduceToNat, inR, Nat.zero_ne_one, false_and, Nat.succ_ne_zero, reduceCtorEq, false_implies, true_implies, not_false_eq_true, not_true_eq_false, Int.reduceEq, KRE, C_Model_saysNumber, FM, c']
    repeat (first | refine ⟨by omega, ?_⟩ | refine ⟨fun _ _ => okt_nn (by omega), ?_⟩)
    try (first | (show _ ≤ _; omega) | (show _ < _; omega))
    refine (says_tx (c := 48 + v.tmod 10) g1 (by simp; omega)).mono (fun M2 g2 => ?_)
    have e : w ++ 32 :: dgW v = w ++ [32] ++ [48 + v.tmod 10] := by
      unfold dgW
      rw [if_pos c, Int.tmod_eq_emod_of_nonneg h0, show v % 10 = v by omega]
      simp
    rw [e]
    try simp (maxSteps := 2000000) only [↓reduceIte, wp_eq, wpd_eq, kont_eq, STP1, STP2, STP3, STP4, STP5, konM_eq, AMK, CZ, Option.map, List.getElem?_cons_zero, List.getElem?_cons_succ, List.mem_cons, List.not_mem_nil, if_false, if_true, Nat.reduceAdd, Nat.reduceLT, Nat.reduceLeDiff, Nat.reduceEqDiff, true_and, and_true, List.length_nil, List.length_cons, or_true, true_or, or_false, false_or, Option.some.injEq, Sum.inl.injEq, Sum.inr.injEq, exists_eq_left', exists_eq_left, Int.reduceLE, Int.reduceLT, Int.reduceNeg, Int.reduceAdd, Int.reduceMul, Int.reduceSub, Int.reduceToNat, inR, Nat.zero_ne_one, false_and, Nat.succ_ne_zero, reduceCtorEq, false_implies, true_implies, not_false_eq_true, not_true_eq_false, Int.reduceEq, KRE, C_Model_saysNumber, FM]
    first | exact g2 | exact ⟨rfl, g2⟩ | exact ⟨by simp, g2⟩ | exact ⟨by omega, g2⟩ | exact ⟨by simp, rfl, g2⟩ | exact ⟨by omega, rfl, g2⟩ | exact ⟨by simp, by simp, g2⟩ | exact ⟨by omega, by simp, g2⟩ | (simp; first | exact g2 | exact ⟨by omega, g2⟩)
  · have c' := eq_false c
    try simp (maxSteps := 2000000) only [↓reduceIte, wp_eq, wpd_eq, kont_eq, STP1, STP2, STP3, STP4, STP5, konM_eq, AMK, CZ, Option.map, List.getElem?_cons_zero, List.getElem?_cons_succ, List.mem_cons, List.not_mem_nil, if_false, if_true, Nat.reduceAdd, Nat.reduceLT, Nat.reduceLeDiff, Nat.reduceEqDiff, true_and, and_true, List.length_nil, List.length_cons, or_true, true_or, or_false, false_or, Option.some.injEq, Sum.inl.injEq, Sum.inr.injEq, exists_eq_left', exists_eq_left, Int.reduceLE, Int.reduceLT, Int.reduceNeg, Int.reduceAdd, Int.reduceMul, Int.reduceSub, Int.reduceToNat, inR, Nat.zero_ne_one, false_and, Nat.succ_ne_zero, reduceCtorEq, false_implies, true_implies, not_false_eq_true, not_true_eq_false, Int.reduceEq, KRE, C_Model_saysNumber, FM, c']
    repeat (first | refine ⟨by omega, ?_⟩ | refine ⟨fun _ _ => okt_nn (by omega), ?_⟩)
    try (first | (show _ ≤ _; omega) | (show _ < _; omega))
    refine (says_tx (c := 48 + v.tdiv 10) g1 (by simp; omega)).mono (fun M2 g2 => ?_)
    try simp (maxSteps := 2000000) only [↓reduceIte, wp_eq, wpd_eq, kont_eq, STP1, STP2, STP3, STP4, STP5, konM_eq, AMK, CZ, Option.map, List.getElem?_cons_zero, List.getElem?_cons_succ, List.mem_cons, List.not_mem_nil, if_false, if_true, Nat.reduceAdd, Nat.reduceLT, Nat.reduceLeDiff, Nat.reduceEqDiff, true_and, and_true, List.length_nil, List.length_cons, or_true, true_or, or_false, false_or, Option.some.injEq, Sum.inl.injEq, Sum.inr.injEq, exists_eq_left', exists_eq_left, Int.reduceLE, Int.reduceLT, Int.reduceNeg, Int.reduceAdd, Int.reduceMul, Int.reduceSub, Int.reduceToNat, inR, Nat.zero_ne_one, false_and, Nat.succ_ne_zero, reduceCtorEq, false_implies, true_implies, not_false_eq_true, not_true_eq_false, Int.reduceEq, KRE, C_Model_saysNumber, FM]
    repeat (first | refine ⟨by omega, ?_⟩ | refine ⟨fun _ _ => okt_nn (by omega), ?_⟩)
    try (first | (show _ ≤ _; omega) | (show _ < _; omega))
    refine (says_tx (c := 48 + v.tmod 10) g2 (by simp; omega)).mono (fun M3 g3 => ?_)
    have e : w ++ 32 :: dgW v = w ++ [32] ++ [48 + v.tdiv 10] ++ [48 + v.tmod 10] := by
      unfold dgW
      rw [if_neg c, Int.tmod_eq_emod_of_nonneg h0, Int.tdiv_eq_ediv_of_nonneg h0]
      simp
    rw [e]
    try simp (maxSteps := 2000000) only [↓reduceIte, wp_eq, wpd_eq, kont_eq, STP1, STP2, STP3, STP4, STP5, konM_eq, AMK, CZ, Option.map, List.getElem?_cons_zero, List.getElem?_cons_succ, List.mem_cons, List.not_mem_nil, if_false, if_true, Nat.reduceAdd, Nat.reduceLT, Nat.reduceLeDiff, Nat.reduceEqDiff, true_and, and_true, List.length_nil, List.length_cons, or_true, true_or, or_false, false_or, Option.some.injEq, Sum.inl.injEq, Sum.inr.injEq, exists_eq_left', exists_eq_left, Int.reduceLE, Int.reduceLT, Int.reduceNeg, Int.reduceAdd, Int.reduceMul, Int.reduceSub, Int.reduceToNat, inR, Nat.zero_ne_one, false_and, Nat.succ_ne_zero, reduceCtorEq, false_implies, true_implies, not_false_eq_true, not_true_eq_false, Int.reduceEq, KRE, C_Model_saysNumber, FM]
    first | exact g3 | exact ⟨rfl, g3⟩ | exact ⟨by simp, g3⟩ | exact ⟨by omega, g3⟩ | exact ⟨by simp, rfl, g3⟩ | exact ⟨by omega, rfl, g3⟩ | exact ⟨by simp, by simp, g3⟩ | exact ⟨by omega, by simp, g3⟩ | (simp; first | exact g3 | exact ⟨by omega, g3⟩)
theorem tW0_take : ∀ k, k < 6 → tW0.take (k + 1) = tW0.take k ++ [strCh 0 k] := by decide +kernel
set_option maxHeartbeats 600000 in
set_option maxRecDepth 20000 in
theorem tellText_ok {t : Nat} (h : mdl M n T Y lap bnd mrg) (ht : t < n) : CallV m_Model_tellText [.inr 154, .inl (t : Int)] M (fun M' => txM M M' (txW (M 158 (30 * t + 1)) (M 158 (30 * t + 2)) (T t))) := by
  obtain ⟨⟨n8, g1⟩, g2, g3, g4, g5, g6, -⟩ := mdl_t h ht
  obtain ⟨eT, -, -⟩ := h.2.1 t ht
  obtain ⟨⟨o1, o2⟩, o3, o4⟩ := g4
  have hr := rcS (show 0 < 7 by omega)
  have e191 : ([191, 192, 193, 194, 195, 196] : List Nat).getD 0 0 = NN + 0 := rfl
  have SL := fun M1 => String_length_ok (i := 0) (by omega) (M := M1)
  have SC := fun k hk M1 => String_charAt_ok (i := 0) (k := k) (by omega) hk (M := M1)
  have l6 : strLen.getD 0 0 = 6 := rfl
  rw [l6] at SL SC
  have mofE : ∀ (M1 : Mm) (k : Int), FrP txP M M1 → 0 ≤ k → k < 30 → CallI m_Model_of [.inr 154, .inl (t : Int), .inl k] M1 (fun x M' => x = M 158 (30 * (t : Int) + k).toNat ∧ M' = M1) := fun M1 k F k0 k1 => (Model_of_ok ⟨by omega, by omega⟩).mono (fun x M' z => ⟨by rw [z.1]; exact F _ _ (fun y => by unfold txP at y; omega), z.2⟩)
  have hd : inR (M 158 (30 * t + 5)) := g6.2.2.2.1
  obtain ⟨⟨le0, le1⟩, ⟨mo0, mo1⟩, -⟩ := id g6
  refine callP_of (by decide) (by decide) (Nat.le_of_ble_eq_true rfl) (wpm_of (cuts := [7, 62]) (by decide) 60 _ _ _ _ ?_)
  rw [show lM m_Model_tellText = 3 from rfl]
  simp (maxSteps := 2000000) only [↓reduceIte, wp_eq, wpd_eq, kont_eq, STP1, STP2, STP3, STP4, STP5, konM_eq, AMK, CZ, Option.map, List.getElem?_cons_zero, List.getElem?_cons_succ, List.mem_cons, List.not_mem_nil, if_false, if_true, Nat.reduceAdd, Nat.reduceLT, Nat.reduceLeDiff, Nat.reduceEqDiff, true_and, and_true, List.length_nil, List.length_cons, or_true, true_or, or_false, false_or, Option.some.injEq, Sum.inl.injEq, Sum.inr.injEq, exists_eq_left', exists_eq_left, Int.reduceLE, Int.reduceLT, Int.reduceNeg, Int.reduceAdd, Int.reduceMul, Int.reduceSub, Int.reduceToNat, inR, Nat.zero_ne_one, false_and, Nat.succ_ne_zero, reduceCtorEq, false_implies, true_implies, not_false_eq_true, not_true_eq_false, Int.reduceEq, KRE, C_Model_tellText, FM, e191]
  refine loopQ 6 (fun k ls M1 => txM M M1 (tW0.take k) ∧ ls = [some (.inr 154), some (.inl (t : Int)), some (.inl (k : Int))]) ?_ _ _ ⟨⟨by simp [mset], fun j hj => absurd hj (by simp), fun b j z => by
    show (if b = 154 ∧ j = 68 then (0 : Int) else M b j) = M b j
    rw [if_neg (fun y => z (.inl y))]⟩, rfl⟩
  rintro k _ M1 hk ⟨X1, rfl⟩ K
  by_cases ck : 6 ≤ (k : Int)
  · obtain rfl : k = 6 := by omega
    have c' := eq_true (show ((6 : Nat) : Int) ≤ ((6 : Nat) : Int) by omega)
    have X1 : txM M M1 tW0 := X1
    refine wpm_of (cuts := [7, 62]) (by decide) 60 _ _ _ _ ?_
    simp (maxSteps := 2000000) only [↓reduceIte, wp_eq, wpd_eq, kont_eq, STP1, STP2, STP3, STP4, STP5, konM_eq, AMK, CZ, Option.map, List.getElem?_cons_zero, List.getElem?_cons_succ, List.mem_cons, List.not_mem_nil, if_false, if_true, Nat.reduceAdd, Nat.reduceLT, Nat.reduceLeDiff, Nat.reduceEqDiff, true_and, and_true, List.length_nil, List.length_cons, or_true, true_or, or_false, false_or, Option.some.injEq, Sum.inl.injEq, Sum.inr.injEq, exists_eq_left', exists_eq_left, Int.reduceLE, Int.reduceLT, Int.reduceNeg, Int.reduceAdd, Int.reduceMul, Int.reduceSub, Int.reduceToNat, inR, Nat.zero_ne_one, false_and, Nat.succ_ne_zero, reduceCtorEq, false_implies, true_implies, not_false_eq_true, not_true_eq_false, Int.reduceEq, KRE, C_Model_tellText, FM, hr, e191]
    repeat (first | refine ⟨by omega, ?_⟩ | refine ⟨fun _ _ => okt_nn (by omega), ?_⟩)
    try (first | (show _ ≤ _; omega) | (show _ < _; omega))
    refine (SL M1).eq ?_
    try simp (maxSteps := 2000000) only [↓reduceIte, wp_eq, wpd_eq, kont_eq, STP1, STP2, STP3, STP4, STP5, konM_eq, AMK, CZ, Option.map, List.getElem?_cons_zero, List.getElem?_cons_succ, List.mem_cons, List.not_mem_nil, if_false, if_true, Nat.reduceAdd, Nat.reduceLT, Nat.reduceLeDiff, Nat.reduceEqDiff, true_and, and_true, List.length_nil, List.length_cons, or_true, true_or, or_false, false_or, Option.some.injEq, Sum.inl.injEq, Sum.inr.injEq, exists_eq_left', exists_eq_left, Int.reduceLE, Int.reduceLT, Int.reduceNeg, Int.reduceAdd, Int.reduceMul, Int.reduceSub, Int.reduceToNat, inR, Nat.zero_ne_one, false_and, Nat.succ_ne_zero, reduceCtorEq, false_implies, true_implies, not_false_eq_true, not_true_eq_false, Int.reduceEq, KRE, C_Model_tellText, FM, c']
    repeat (first | refine ⟨by omega, ?_⟩ | refine ⟨fun _ _ => okt_nn (by omega), ?_⟩)
    try (first | (show _ ≤ _; omega) | (show _ < _; omega))
    refine (mofE M1 1 X1.2.2 (by omega) (by omega)).eq ?_
    try simp (maxSteps := 2000000) only [↓reduceIte, wp_eq, wpd_eq, kont_eq, STP1, STP2, STP3, STP4, STP5, konM_eq, AMK, CZ, Option.map, List.getElem?_cons_zero, List.getElem?_cons_succ, List.mem_cons, List.not_mem_nil, if_false, if_true, Nat.reduceAdd, Nat.reduceLT, Nat.reduceLeDiff, Nat.reduceEqDiff, true_and, and_true, List.length_nil, List.length_cons, or_true, true_or, or_false, false_or, Option.some.injEq, Sum.inl.injEq, Sum.inr.injEq, exists_eq_left', exists_eq_left, Int.reduceLE, Int.reduceLT, Int.reduceNeg, Int.reduceAdd, Int.reduceMul, Int.reduceSub, Int.reduceToNat, inR, Nat.zero_ne_one, false_and, Nat.succ_ne_zero, reduceCtorEq, false_implies, true_implies, not_false_eq_true, not_true_eq_false, Int.reduceEq, KRE, C_Model_tellText, FM]
    repeat (first | refine ⟨by omega, ?_⟩ | refine ⟨fun _ _ => okt_nn (by omega), ?_⟩)
    try (first | (show _ ≤ _; omega) | (show _ < _; omega))
    rw [show (30 * (t : Int) + 1).toNat = 30 * t + 1 by omega]
    refine (saysN_tx X1 (by decide) (by omega) (by omega)).mono (fun M2 X2 => ?_)
    try simp (maxSteps := 2000000) only [↓reduceIte, wp_eq, wpd_eq, kont_eq, STP1, STP2, STP3, STP4, STP5, konM_eq, AMK, CZ, Option.map, List.getElem?_cons_zero, List.getElem?_cons_succ, List.mem_cons, List.not_mem_nil, if_false, if_true, Nat.reduceAdd, Nat.reduceLT, Nat.reduceLeDiff, Nat.reduceEqDiff, true_and, and_true, List.length_nil, List.length_cons, or_true, true_or, or_false, false_or, Option.some.injEq, Sum.inl.injEq, Sum.inr.injEq, exists_eq_left', exists_eq_left, Int.reduceLE, Int.reduceLT, Int.reduceNeg, Int.reduceAdd, Int.reduceMul, Int.reduceSub, Int.reduceToNat, inR, Nat.zero_ne_one, false_and, Nat.succ_ne_zero, reduceCtorEq, false_implies, true_implies, not_false_eq_true, not_true_eq_false, Int.reduceEq, KRE, C_Model_tellText, FM]
    repeat (first | refine ⟨by omega, ?_⟩ | refine ⟨fun _ _ => okt_nn (by omega), ?_⟩)
    try (first | (show _ ≤ _; omega) | (show _ < _; omega))
    refine (mofE M2 2 X2.2.2 (by omega) (by omega)).eq ?_
    try simp (maxSteps := 2000000) only [↓reduceIte, wp_eq, wpd_eq, kont_eq, STP1, STP2, STP3, STP4, STP5, konM_eq, AMK, CZ, Option.map, List.getElem?_cons_zero, List.getElem?_cons_succ, List.mem_cons, List.not_mem_nil, if_false, if_true, Nat.reduceAdd, Nat.reduceLT, Nat.reduceLeDiff, Nat.reduceEqDiff, true_and, and_true, List.length_nil, List.length_cons, or_true, true_or, or_false, false_or, Option.some.injEq, Sum.inl.injEq, Sum.inr.injEq, exists_eq_left', exists_eq_left, Int.reduceLE, Int.reduceLT, Int.reduceNeg, Int.reduceAdd, Int.reduceMul, Int.reduceSub, Int.reduceToNat, inR, Nat.zero_ne_one, false_and, Nat.succ_ne_zero, reduceCtorEq, false_implies, true_implies, not_false_eq_true, not_true_eq_false, Int.reduceEq, KRE, C_Model_tellText, FM]
    repeat (first | refine ⟨by omega, ?_⟩ | refine ⟨fun _ _ => okt_nn (by omega), ?_⟩)
    try (first | (show _ ≤ _; omega) | (show _ < _; omega))
    rw [show (30 * (t : Int) + 2).toNat = 30 * t + 2 by omega]
    have d1 := (dgW_len (M 158 (30 * t + 1))).2
    have d2 := (dgW_len (M 158 (30 * t + 2))).2
    refine (saysN_tx X2 (by simp only [List.length_append, List.length_cons, show tW0.length = 6 from rfl]; omega) (by omega) (by omega)).mono (fun M3 X3 => ?_)
    have hL : (tW0 ++ 32 :: dgW (M 158 (30 * t + 1)) ++ 32 :: dgW (M 158 (30 * t + 2))).length ≤ 12 := by simp only [List.length_append, List.length_cons, show tW0.length = 6 from rfl]; omega
    unfold txW
    generalize tW0 ++ 32 :: dgW (M 158 (30 * t + 1)) ++ 32 :: dgW (M 158 (30 * t + 2)) = W at *
    try simp (maxSteps := 2000000) only [↓reduceIte, wp_eq, wpd_eq, kont_eq, STP1, STP2, STP3, STP4, STP5, konM_eq, AMK, CZ, Option.map, List.getElem?_cons_zero, List.getElem?_cons_succ, List.mem_cons, List.not_mem_nil, if_false, if_true, Nat.reduceAdd, Nat.reduceLT, Nat.reduceLeDiff, Nat.reduceEqDiff, true_and, and_true, List.length_nil, List.length_cons, or_true, true_or, or_false, false_or, Option.some.injEq, Sum.inl.injEq, Sum.inr.injEq, exists_eq_left', exists_eq_left, Int.reduceLE, Int.reduceLT, Int.reduceNeg, Int.reduceAdd, Int.reduceMul, Int.reduceSub, Int.reduceToNat, inR, Nat.zero_ne_one, false_and, Nat.succ_ne_zero, reduceCtorEq, false_implies, true_implies, not_false_eq_true, not_true_eq_false, Int.reduceEq, KRE, C_Model_tellText, FM]
    refine loopQ (T t).2.1.toNat (fun r ls M4 => txM M M4 (W ++ rgW (T t) r) ∧ ls = [some (.inr 154), some (.inl (t : Int)), some (.inl (r : Int))]) ?_ _ _ ⟨by simpa [rgW] using X3, rfl⟩
    rintro r _ M4 hr4 ⟨X4, rfl⟩ K2
    have hl4 := rgW_len (T t) r
    have hLr : (W ++ rgW (T t) r).length ≤ 12 + 4 * r := by rw [List.length_append]; omega
    by_cases cr : (T t).2.1 ≤ (r : Int)
    · have er : r = (T t).2.1.toNat := by omega
      have c2' := eq_true cr
      refine wpm_of (cuts := [7, 62]) (by decide) 60 _ _ _ _ ?_
      simp (maxSteps := 2000000) only [↓reduceIte, wp_eq, wpd_eq, kont_eq, STP1, STP2, STP3, STP4, STP5, konM_eq, AMK, CZ, Option.map, List.getElem?_cons_zero, List.getElem?_cons_succ, List.mem_cons, List.not_mem_nil, if_false, if_true, Nat.reduceAdd, Nat.reduceLT, Nat.reduceLeDiff, Nat.reduceEqDiff, true_and, and_true, List.length_nil, List.length_cons, or_true, true_or, or_false, false_or, Option.some.injEq, Sum.inl.injEq, Sum.inr.injEq, exists_eq_left', exists_eq_left, Int.reduceLE, Int.reduceLT, Int.reduceNeg, Int.reduceAdd, Int.reduceMul, Int.reduceSub, Int.reduceToNat, inR, Nat.zero_ne_one, false_and, Nat.succ_ne_zero, reduceCtorEq, false_implies, true_implies, not_false_eq_true, not_true_eq_false, Int.reduceEq, KRE, C_Model_tellText, FM, hr, e191]
      repeat (first | refine ⟨by omega, ?_⟩ | refine ⟨fun _ _ => okt_nn (by omega), ?_⟩)
      try (first | (show _ ≤ _; omega) | (show _ < _; omega))
      refine (mofE M4 0 X4.2.2 (by omega) (by omega)).eq ?_
      rw [show (30 * (t : Int) + 0).toNat = 30 * t by omega, g1]
      try simp (maxSteps := 2000000) only [↓reduceIte, wp_eq, wpd_eq, kont_eq, STP1, STP2, STP3, STP4, STP5, konM_eq, AMK, CZ, Option.map, List.getElem?_cons_zero, List.getElem?_cons_succ, List.mem_cons, List.not_mem_nil, if_false, if_true, Nat.reduceAdd, Nat.reduceLT, Nat.reduceLeDiff, Nat.reduceEqDiff, true_and, and_true, List.length_nil, List.length_cons, or_true, true_or, or_false, false_or, Option.some.injEq, Sum.inl.injEq, Sum.inr.injEq, exists_eq_left', exists_eq_left, Int.reduceLE, Int.reduceLT, Int.reduceNeg, Int.reduceAdd, Int.reduceMul, Int.reduceSub, Int.reduceToNat, inR, Nat.zero_ne_one, false_and, Nat.succ_ne_zero, reduceCtorEq, false_implies, true_implies, not_false_eq_true, not_true_eq_false, Int.reduceEq, KRE, C_Model_tellText, FM, c2']
      repeat (first | refine ⟨by omega, ?_⟩ | refine ⟨fun _ _ => okt_nn (by omega), ?_⟩)
      try (first | (show _ ≤ _; omega) | (show _ < _; omega))
      refine (says_tx (c := 59) X4 (by omega)).mono (fun M5 X5 => ?_)
      rw [er] at X5
      try simp (maxSteps := 2000000) only [↓reduceIte, wp_eq, wpd_eq, kont_eq, STP1, STP2, STP3, STP4, STP5, konM_eq, AMK, CZ, Option.map, List.getElem?_cons_zero, List.getElem?_cons_succ, List.mem_cons, List.not_mem_nil, if_false, if_true, Nat.reduceAdd, Nat.reduceLT, Nat.reduceLeDiff, Nat.reduceEqDiff, true_and, and_true, List.length_nil, List.length_cons, or_true, true_or, or_false, false_or, Option.some.injEq, Sum.inl.injEq, Sum.inr.injEq, exists_eq_left', exists_eq_left, Int.reduceLE, Int.reduceLT, Int.reduceNeg, Int.reduceAdd, Int.reduceMul, Int.reduceSub, Int.reduceToNat, inR, Nat.zero_ne_one, false_and, Nat.succ_ne_zero, reduceCtorEq, false_implies, true_implies, not_false_eq_true, not_true_eq_false, Int.reduceEq, KRE, C_Model_tellText, FM]
      first | exact X5 | exact ⟨rfl, X5⟩ | exact ⟨by simp, X5⟩ | exact ⟨by omega, X5⟩ | exact ⟨by simp, rfl, X5⟩ | exact ⟨by omega, rfl, X5⟩ | exact ⟨by simp, by simp, X5⟩ | exact ⟨by omega, by simp, X5⟩ | (simp; first | exact X5 | exact ⟨by omega, X5⟩)
    · have c2' := eq_false cr
      have er : r < (T t).2.1.toNat := by omega
      have ew : M 158 (30 * t + 6 + r) = (T t).1 r := by
        rw [← eT]
        show _ = if (r : Int) < M 158 (30 * t) then M 158 (30 * t + 6 + r) else 0
        rw [if_pos (by omega)]
      have ed : (T t).2.2 r = if btI (M 158 (30 * t + 5)) r = true then 1 else 0 := by
        rw [← eT]
        show (if (r : Int) < M 158 (30 * t) then (if btI (M 158 (30 * t + 5)) r = true then 1 else 0) else 0) = _
        rw [if_pos (by omega)]
      obtain ⟨w1, w2⟩ := o3 r (by omega)
      have K3 := K2 er
      rw [show rgW (T t) (r + 1) = rgW (T t) r ++ (32 :: dgW ((T t).1 r) ++ (if (T t).2.2 r = 0 then [] else [63])) from rfl] at K3
      refine wpm_of (cuts := [7, 62]) (by decide) 60 _ _ _ _ ?_
      simp (maxSteps := 2000000) only [↓reduceIte, wp_eq, wpd_eq, kont_eq, STP1, STP2, STP3, STP4, STP5, konM_eq, AMK, CZ, Option.map, List.getElem?_cons_zero, List.getElem?_cons_succ, List.mem_cons, List.not_mem_nil, if_false, if_true, Nat.reduceAdd, Nat.reduceLT, Nat.reduceLeDiff, Nat.reduceEqDiff, true_and, and_true, List.length_nil, List.length_cons, or_true, true_or, or_false, false_or, Option.some.injEq, Sum.inl.injEq, Sum.inr.injEq, exists_eq_left', exists_eq_left, Int.reduceLE, Int.reduceLT, Int.reduceNeg, Int.reduceAdd, Int.reduceMul, Int.reduceSub, Int.reduceToNat, inR, Nat.zero_ne_one, false_and, Nat.succ_ne_zero, reduceCtorEq, false_implies, true_implies, not_false_eq_true, not_true_eq_false, Int.reduceEq, KRE, C_Model_tellText, FM, hr, e191]
      repeat (first | refine ⟨by omega, ?_⟩ | refine ⟨fun _ _ => okt_nn (by omega), ?_⟩)
      try (first | (show _ ≤ _; omega) | (show _ < _; omega))
      refine (mofE M4 0 X4.2.2 (by omega) (by omega)).eq ?_
      rw [show (30 * (t : Int) + 0).toNat = 30 * t by omega, g1]
      try simp (maxSteps := 2000000) only [↓reduceIte, wp_eq, wpd_eq, kont_eq, STP1, STP2, STP3, STP4, STP5, konM_eq, AMK, CZ, Option.map, List.getElem?_cons_zero, List.getElem?_cons_succ, List.mem_cons, List.not_mem_nil, if_false, if_true, Nat.reduceAdd, Nat.reduceLT, Nat.reduceLeDiff, Nat.reduceEqDiff, true_and, and_true, List.length_nil, List.length_cons, or_true, true_or, or_false, false_or, Option.some.injEq, Sum.inl.injEq, Sum.inr.injEq, exists_eq_left', exists_eq_left, Int.reduceLE, Int.reduceLT, Int.reduceNeg, Int.reduceAdd, Int.reduceMul, Int.reduceSub, Int.reduceToNat, inR, Nat.zero_ne_one, false_and, Nat.succ_ne_zero, reduceCtorEq, false_implies, true_implies, not_false_eq_true, not_true_eq_false, Int.reduceEq, KRE, C_Model_tellText, FM, c2']
      repeat (first | refine ⟨by omega, ?_⟩ | refine ⟨fun _ _ => okt_nn (by omega), ?_⟩)
      try (first | (show _ ≤ _; omega) | (show _ < _; omega))
      refine (mofE M4 (6 + (r : Int)) X4.2.2 (by omega) (by omega)).eq ?_
      rw [show (30 * (t : Int) + (6 + (r : Int))).toNat = 30 * t + 6 + r by omega, ew]
      try simp (maxSteps := 2000000) only [↓reduceIte, wp_eq, wpd_eq, kont_eq, STP1, STP2, STP3, STP4, STP5, konM_eq, AMK, CZ, Option.map, List.getElem?_cons_zero, List.getElem?_cons_succ, List.mem_cons, List.not_mem_nil, if_false, if_true, Nat.reduceAdd, Nat.reduceLT, Nat.reduceLeDiff, Nat.reduceEqDiff, true_and, and_true, List.length_nil, List.length_cons, or_true, true_or, or_false, false_or, Option.some.injEq, Sum.inl.injEq, Sum.inr.injEq, exists_eq_left', exists_eq_left, Int.reduceLE, Int.reduceLT, Int.reduceNeg, Int.reduceAdd, Int.reduceMul, Int.reduceSub, Int.reduceToNat, inR, Nat.zero_ne_one, false_and, Nat.succ_ne_zero, reduceCtorEq, false_implies, true_implies, not_false_eq_true, not_true_eq_false, Int.reduceEq, KRE, C_Model_tellText, FM]
      repeat (first | refine ⟨by omega, ?_⟩ | refine ⟨fun _ _ => okt_nn (by omega), ?_⟩)
      try (first | (show _ ≤ _; omega) | (show _ < _; omega))
      refine (saysN_tx X4 (by omega) (by omega) (by omega)).mono (fun M5 X5 => ?_)
      have d5 := (dgW_len ((T t).1 r)).2
      try simp (maxSteps := 2000000) only [↓reduceIte, wp_eq, wpd_eq, kont_eq, STP1, STP2, STP3, STP4, STP5, konM_eq, AMK, CZ, Option.map, List.getElem?_cons_zero, List.getElem?_cons_succ, List.mem_cons, List.not_mem_nil, if_false, if_true, Nat.reduceAdd, Nat.reduceLT, Nat.reduceLeDiff, Nat.reduceEqDiff, true_and, and_true, List.length_nil, List.length_cons, or_true, true_or, or_false, false_or, Option.some.injEq, Sum.inl.injEq, Sum.inr.injEq, exists_eq_left', exists_eq_left, Int.reduceLE, Int.reduceLT, Int.reduceNeg, Int.reduceAdd, Int.reduceMul, Int.reduceSub, Int.reduceToNat, inR, Nat.zero_ne_one, false_and, Nat.succ_ne_zero, reduceCtorEq, false_implies, true_implies, not_false_eq_true, not_true_eq_false, Int.reduceEq, KRE, C_Model_tellText, FM]
      repeat (first | refine ⟨by omega, ?_⟩ | refine ⟨fun _ _ => okt_nn (by omega), ?_⟩)
      try (first | (show _ ≤ _; omega) | (show _ < _; omega))
      refine (mofE M5 5 X5.2.2 (by omega) (by omega)).eq ?_
      rw [show (30 * (t : Int) + 5).toNat = 30 * t + 5 by omega]
      have bt := bit_testI (M 158 (30 * t + 5)) (k := (r : Int)) (by omega) (by omega)
      rw [show ((r : Int)).toNat = r by omega] at bt
      cases cb : btI (M 158 (30 * t + 5)) r with
      | true =>
        rw [cb, if_pos rfl] at bt
        rw [cb, if_pos rfl] at ed
        try simp (maxSteps := 2000000) only [↓reduceIte, wp_eq, wpd_eq, kont_eq, STP1, STP2, STP3, STP4, STP5, konM_eq, AMK, CZ, Option.map, List.getElem?_cons_zero, List.getElem?_cons_succ, List.mem_cons, List.not_mem_nil, if_false, if_true, Nat.reduceAdd, Nat.reduceLT, Nat.reduceLeDiff, Nat.reduceEqDiff, true_and, and_true, List.length_nil, List.length_cons, or_true, true_or, or_false, false_or, Option.some.injEq, Sum.inl.injEq, Sum.inr.injEq, exists_eq_left', exists_eq_left, Int.reduceLE, Int.reduceLT, Int.reduceNeg, Int.reduceAdd, Int.reduceMul, Int.reduceSub, Int.reduceToNat, inR, Nat.zero_ne_one, false_and, Nat.succ_ne_zero, reduceCtorEq, false_implies, true_implies, not_false_eq_true, not_true_eq_false, Int.reduceEq, KRE, C_Model_tellText, FM, bt]
        repeat (first | refine ⟨by omega, ?_⟩ | refine ⟨fun _ _ => okt_nn (by omega), ?_⟩)
        try (first | (show _ ≤ _; omega) | (show _ < _; omega))
        refine (says_tx (c := 63) X5 (by simp only [List.length_append, List.length_cons]; omega)).mono (fun M6 X6 => ?_)
        have K4 := K3 [some (.inr 154), some (.inl (t : Int)), some (.inl ((r + 1 : Nat) : Int))] M6 ⟨by
          rw [ed, if_neg (by omega)]
          simpa [List.append_assoc] using X6, rfl⟩
        rw [show ((r + 1 : Nat) : Int) = (r : Int) + 1 by omega] at K4
        try simp (maxSteps := 2000000) only [↓reduceIte, wp_eq, wpd_eq, kont_eq, STP1, STP2, STP3, STP4, STP5, konM_eq, AMK, CZ, Option.map, List.getElem?_cons_zero, List.getElem?_cons_succ, List.mem_cons, List.not_mem_nil, if_false, if_true, Nat.reduceAdd, Nat.reduceLT, Nat.reduceLeDiff, Nat.reduceEqDiff, true_and, and_true, List.length_nil, List.length_cons, or_true, true_or, or_false, false_or, Option.some.injEq, Sum.inl.injEq, Sum.inr.injEq, exists_eq_left', exists_eq_left, Int.reduceLE, Int.reduceLT, Int.reduceNeg, Int.reduceAdd, Int.reduceMul, Int.reduceSub, Int.reduceToNat, inR, Nat.zero_ne_one, false_and, Nat.succ_ne_zero, reduceCtorEq, false_implies, true_implies, not_false_eq_true, not_true_eq_false, Int.reduceEq, KRE, C_Model_tellText, FM]
        first | exact K4 | exact ⟨rfl, K4⟩ | exact ⟨by simp, K4⟩ | exact ⟨by omega, K4⟩ | exact ⟨by simp, rfl, K4⟩ | exact ⟨by omega, rfl, K4⟩ | exact ⟨by simp, by simp, K4⟩ | exact ⟨by omega, by simp, K4⟩ | (simp; first | exact K4 | exact ⟨by omega, K4⟩)
      | false =>
        rw [cb, if_neg (by decide)] at bt
        rw [cb, if_neg (by decide)] at ed
        have K4 := K3 [some (.inr 154), some (.inl (t : Int)), some (.inl ((r + 1 : Nat) : Int))] M5 ⟨by
          rw [ed, if_pos rfl]
          simpa [List.append_assoc] using X5, rfl⟩
        rw [show ((r + 1 : Nat) : Int) = (r : Int) + 1 by omega] at K4
        try simp (maxSteps := 2000000) only [↓reduceIte, wp_eq, wpd_eq, kont_eq, STP1, STP2, STP3, STP4, STP5, konM_eq, AMK, CZ, Option.map, List.getElem?_cons_zero, List.getElem?_cons_succ, List.mem_cons, List.not_mem_nil, if_false, if_true, Nat.reduceAdd, Nat.reduceLT, Nat.reduceLeDiff, Nat.reduceEqDiff, true_and, and_true, List.length_nil, List.length_cons, or_true, true_or, or_false, false_or, Option.some.injEq, Sum.inl.injEq, Sum.inr.injEq, exists_eq_left', exists_eq_left, Int.reduceLE, Int.reduceLT, Int.reduceNeg, Int.reduceAdd, Int.reduceMul, Int.reduceSub, Int.reduceToNat, inR, Nat.zero_ne_one, false_and, Nat.succ_ne_zero, reduceCtorEq, false_implies, true_implies, not_false_eq_true, not_true_eq_false, Int.reduceEq, KRE, C_Model_tellText, FM, bt]
        repeat (first | refine ⟨by omega, ?_⟩ | refine ⟨fun _ _ => okt_nn (by omega), ?_⟩)
        try (first | (show _ ≤ _; omega) | (show _ < _; omega))
        first | exact K4 | exact ⟨rfl, K4⟩ | exact ⟨by simp, K4⟩ | exact ⟨by omega, K4⟩ | exact ⟨by simp, rfl, K4⟩ | exact ⟨by omega, rfl, K4⟩ | exact ⟨by simp, by simp, K4⟩ | exact ⟨by omega, by simp, K4⟩ | (simp; first | exact K4 | exact ⟨by omega, K4⟩)
  · have c' := eq_false ck
    have hk6 : k < 6 := by omega
    refine wpm_of (cuts := [7, 62]) (by decide) 60 _ _ _ _ ?_
    simp (maxSteps := 2000000) only [↓reduceIte, wp_eq, wpd_eq, kont_eq, STP1, STP2, STP3, STP4, STP5, konM_eq, AMK, CZ, Option.map, List.getElem?_cons_zero, List.getElem?_cons_succ, List.mem_cons, List.not_mem_nil, if_false, if_true, Nat.reduceAdd, Nat.reduceLT, Nat.reduceLeDiff, Nat.reduceEqDiff, true_and, and_true, List.length_nil, List.length_cons, or_true, true_or, or_false, false_or, Option.some.injEq, Sum.inl.injEq, Sum.inr.injEq, exists_eq_left', exists_eq_left, Int.reduceLE, Int.reduceLT, Int.reduceNeg, Int.reduceAdd, Int.reduceMul, Int.reduceSub, Int.reduceToNat, inR, Nat.zero_ne_one, false_and, Nat.succ_ne_zero, reduceCtorEq, false_implies, true_implies, not_false_eq_true, not_true_eq_false, Int.reduceEq, KRE, C_Model_tellText, FM, hr, e191]
    repeat (first | refine ⟨by omega, ?_⟩ | refine ⟨fun _ _ => okt_nn (by omega), ?_⟩)
    try (first | (show _ ≤ _; omega) | (show _ < _; omega))
    refine (SL M1).eq ?_
    try simp (maxSteps := 2000000) only [↓reduceIte, wp_eq, wpd_eq, kont_eq, STP1, STP2, STP3, STP4, STP5, konM_eq, AMK, CZ, Option.map, List.getElem?_cons_zero, List.getElem?_cons_succ, List.mem_cons, List.not_mem_nil, if_false, if_true, Nat.reduceAdd, Nat.reduceLT, Nat.reduceLeDiff, Nat.reduceEqDiff, true_and, and_true, List.length_nil, List.length_cons, or_true, true_or, or_false, false_or, Option.some.injEq, Sum.inl.injEq, Sum.inr.injEq, exists_eq_left', exists_eq_left, Int.reduceLE, Int.reduceLT, Int.reduceNeg, Int.reduceAdd, Int.reduceMul, Int.reduceSub, Int.reduceToNat, inR, Nat.zero_ne_one, false_and, Nat.succ_ne_zero, reduceCtorEq, false_implies, true_implies, not_false_eq_true, not_true_eq_false, Int.reduceEq, KRE, C_Model_tellText, FM, c', hr, e191]
    repeat (first | refine ⟨by omega, ?_⟩ | refine ⟨fun _ _ => okt_nn (by omega), ?_⟩)
    try (first | (show _ ≤ _; omega) | (show _ < _; omega))
    refine (SC k hk6 M1).eq ?_
    try simp (maxSteps := 2000000) only [↓reduceIte, wp_eq, wpd_eq, kont_eq, STP1, STP2, STP3, STP4, STP5, konM_eq, AMK, CZ, Option.map, List.getElem?_cons_zero, List.getElem?_cons_succ, List.mem_cons, List.not_mem_nil, if_false, if_true, Nat.reduceAdd, Nat.reduceLT, Nat.reduceLeDiff, Nat.reduceEqDiff, true_and, and_true, List.length_nil, List.length_cons, or_true, true_or, or_false, false_or, Option.some.injEq, Sum.inl.injEq, Sum.inr.injEq, exists_eq_left', exists_eq_left, Int.reduceLE, Int.reduceLT, Int.reduceNeg, Int.reduceAdd, Int.reduceMul, Int.reduceSub, Int.reduceToNat, inR, Nat.zero_ne_one, false_and, Nat.succ_ne_zero, reduceCtorEq, false_implies, true_implies, not_false_eq_true, not_true_eq_false, Int.reduceEq, KRE, C_Model_tellText, FM]
    repeat (first | refine ⟨by omega, ?_⟩ | refine ⟨fun _ _ => okt_nn (by omega), ?_⟩)
    try (first | (show _ ≤ _; omega) | (show _ < _; omega))
    refine (says_tx (c := strCh 0 k) X1 (by rw [List.length_take]; omega)).mono (fun M2 X2 => ?_)
    have K4 := K hk6 [some (.inr 154), some (.inl (t : Int)), some (.inl ((k + 1 : Nat) : Int))] M2 ⟨by rw [tW0_take k hk6]; exact X2, rfl⟩
    rw [show ((k + 1 : Nat) : Int) = (k : Int) + 1 by omega] at K4
    try simp (maxSteps := 2000000) only [↓reduceIte, wp_eq, wpd_eq, kont_eq, STP1, STP2, STP3, STP4, STP5, konM_eq, AMK, CZ, Option.map, List.getElem?_cons_zero, List.getElem?_cons_succ, List.mem_cons, List.not_mem_nil, if_false, if_true, Nat.reduceAdd, Nat.reduceLT, Nat.reduceLeDiff, Nat.reduceEqDiff, true_and, and_true, List.length_nil, List.length_cons, or_true, true_or, or_false, false_or, Option.some.injEq, Sum.inl.injEq, Sum.inr.injEq, exists_eq_left', exists_eq_left, Int.reduceLE, Int.reduceLT, Int.reduceNeg, Int.reduceAdd, Int.reduceMul, Int.reduceSub, Int.reduceToNat, inR, Nat.zero_ne_one, false_and, Nat.succ_ne_zero, reduceCtorEq, false_implies, true_implies, not_false_eq_true, not_true_eq_false, Int.reduceEq, KRE, C_Model_tellText, FM]
    first | exact K4 | exact ⟨rfl, K4⟩ | exact ⟨by simp, K4⟩ | exact ⟨by omega, K4⟩ | exact ⟨by simp, rfl, K4⟩ | exact ⟨by omega, rfl, K4⟩ | exact ⟨by simp, by simp, K4⟩ | exact ⟨by omega, by simp, K4⟩ | (simp; first | exact K4 | exact ⟨by omega, K4⟩)
/-- what told answers of the text w -/
def tdA (w : List Int) (i : Int) : Int := if i = -1 then w.length else w.getD i.toNat 0
def tdM (M M' : Mm) : Prop := ∀ b j, ¬ (b = 154 ∧ (j = 1 ∨ j = 68) ∨ b = 185) → M' b j = M b j
set_option maxHeartbeats 600000 in
set_option maxRecDepth 20000 in
theorem Mtold_ok {t : Nat} {i : Int} (h : mdl M n T Y lap bnd mrg) (ht : t < n) (hi : i = -1 ∨ 0 ≤ i ∧ i < (txW (M 158 (30 * t + 1)) (M 158 (30 * t + 2)) (T t)).length) (hiR : inR i) : CallI m_Model_told [.inr 154, .inl (t : Int), .inl i] M (fun x M' => x = tdA (txW (M 158 (30 * t + 1)) (M 158 (30 * t + 2)) (T t)) i ∧ rsM M 0 M') := by
  have h0 : mdl (mset M 154 1 0) n T Y lap bnd mrg := mdl_fr h scr_0 scr_mdl
  have TT := tellText_ok h0 ht
  have e1 : mset M 154 1 0 158 (30 * t + 1) = M 158 (30 * t + 1) := by simp [mset]
  have e2 : mset M 154 1 0 158 (30 * t + 2) = M 158 (30 * t + 2) := by simp [mset]
  rw [e1, e2] at TT
  have hw := txW_len (le := M 158 (30 * t + 1)) (mo := M 158 (30 * t + 2)) (A := T t) (mdl_t h ht).2.2.2.1.1.2
  generalize txW (M 158 (30 * t + 1)) (M 158 (30 * t + 2)) (T t) = W at *
  have fin : ∀ M', txM (mset M 154 1 0) M' W → rsM M 0 M' := fun M' X => by
    refine ⟨?_, fun b j z => ?_⟩
    · have := X.2.2 154 1 (fun y => by unfold txP at y; omega)
      rw [this]; simp [mset]
    · have z' : ¬ txP b j ∧ ¬ (b = 154 ∧ j = 1) := by
        unfold scrM at z
        unfold txP
        constructor <;> intro y <;> apply z <;> omega
      rw [X.2.2 b j z'.1]
      show (if b = 154 ∧ j = 1 then _ else M b j) = M b j
      rw [if_neg z'.2]
  refine callP_of (by decide) (by decide) (Nat.le_of_ble_eq_true rfl) (wpm_of (cuts := []) (by decide) 60 _ _ _ _ ?_)
  rw [show lM m_Model_told = 3 from rfl]
  simp (maxSteps := 2000000) only [↓reduceIte, wp_eq, wpd_eq, kont_eq, STP1, STP2, STP3, STP4, STP5, konM_eq, AMK, CZ, Option.map, List.getElem?_cons_zero, List.getElem?_cons_succ, List.mem_cons, List.not_mem_nil, if_false, if_true, Nat.reduceAdd, Nat.reduceLT, Nat.reduceLeDiff, Nat.reduceEqDiff, true_and, and_true, List.length_nil, List.length_cons, or_true, true_or, or_false, false_or, Option.some.injEq, Sum.inl.injEq, Sum.inr.injEq, exists_eq_left', exists_eq_left, Int.reduceLE, Int.reduceLT, Int.reduceNeg, Int.reduceAdd, Int.reduceMul, Int.reduceSub, Int.reduceToNat, inR, Nat.zero_ne_one, false_and, Nat.succ_ne_zero, reduceCtorEq, false_implies, true_implies, not_false_eq_true, not_true_eq_false, Int.reduceEq, KRE, C_Model_told, FM]
  repeat (first | refine ⟨by omega, ?_⟩ | refine ⟨fun _ _ => okt_nn (by omega), ?_⟩)
  try (first | (show _ ≤ _; omega) | (show _ < _; omega))
  refine (isTimber_y h0 ht).eq ?_
  try simp (maxSteps := 2000000) only [↓reduceIte, wp_eq, wpd_eq, kont_eq, STP1, STP2, STP3, STP4, STP5, konM_eq, AMK, CZ, Option.map, List.getElem?_cons_zero, List.getElem?_cons_succ, List.mem_cons, List.not_mem_nil, if_false, if_true, Nat.reduceAdd, Nat.reduceLT, Nat.reduceLeDiff, Nat.reduceEqDiff, true_and, and_true, List.length_nil, List.length_cons, or_true, true_or, or_false, false_or, Option.some.injEq, Sum.inl.injEq, Sum.inr.injEq, exists_eq_left', exists_eq_left, Int.reduceLE, Int.reduceLT, Int.reduceNeg, Int.reduceAdd, Int.reduceMul, Int.reduceSub, Int.reduceToNat, inR, Nat.zero_ne_one, false_and, Nat.succ_ne_zero, reduceCtorEq, false_implies, true_implies, not_false_eq_true, not_true_eq_false, Int.reduceEq, KRE, C_Model_told, FM]
  repeat (first | refine ⟨by omega, ?_⟩ | refine ⟨fun _ _ => okt_nn (by omega), ?_⟩)
  try (first | (show _ ≤ _; omega) | (show _ < _; omega))
  refine TT.mono (fun M1 X1 => ?_)
  have F1 := fin M1 X1
  have x68 := X1.1
  by_cases ci : i = -1
  · have c' := eq_true ci
    try simp (maxSteps := 2000000) only [↓reduceIte, wp_eq, wpd_eq, kont_eq, STP1, STP2, STP3, STP4, STP5, konM_eq, AMK, CZ, Option.map, List.getElem?_cons_zero, List.getElem?_cons_succ, List.mem_cons, List.not_mem_nil, if_false, if_true, Nat.reduceAdd, Nat.reduceLT, Nat.reduceLeDiff, Nat.reduceEqDiff, true_and, and_true, List.length_nil, List.length_cons, or_true, true_or, or_false, false_or, Option.some.injEq, Sum.inl.injEq, Sum.inr.injEq, exists_eq_left', exists_eq_left, Int.reduceLE, Int.reduceLT, Int.reduceNeg, Int.reduceAdd, Int.reduceMul, Int.reduceSub, Int.reduceToNat, inR, Nat.zero_ne_one, false_and, Nat.succ_ne_zero, reduceCtorEq, false_implies, true_implies, not_false_eq_true, not_true_eq_false, Int.reduceEq, KRE, C_Model_told, FM, c', x68]
    repeat (first | refine ⟨by omega, ?_⟩ | refine ⟨fun _ _ => okt_nn (by omega), ?_⟩)
    try (first | (show _ ≤ _; omega) | (show _ < _; omega))
    all_goals first | exact ⟨by unfold tdA; rw [if_pos ci], F1⟩ | exact F1 | skip
  · have c' := eq_false ci
    have i2 : 0 ≤ i ∧ i < W.length := by omega
    have hiR' := hiR
    simp only [inR] at hiR'
    have II := Model_isIn_ok (M := M1) (v := i) (a := 0) (b := (W.length : Int) - 1) hiR ⟨by omega, by omega⟩ ⟨by omega, by omega⟩
    rw [if_pos ⟨by omega, by omega⟩] at II
    have e185 : M1 185 i.toNat = W.getD i.toNat 0 := X1.2.1 _ (by omega)
    have b1 := eq_true (show 0 ≤ i by omega)
    have b2 := eq_true (show i < ((200 : Nat) : Int) by omega)
    try simp (maxSteps := 2000000) only [↓reduceIte, wp_eq, wpd_eq, kont_eq, STP1, STP2, STP3, STP4, STP5, konM_eq, AMK, CZ, Option.map, List.getElem?_cons_zero, List.getElem?_cons_succ, List.mem_cons, List.not_mem_nil, if_false, if_true, Nat.reduceAdd, Nat.reduceLT, Nat.reduceLeDiff, Nat.reduceEqDiff, true_and, and_true, List.length_nil, List.length_cons, or_true, true_or, or_false, false_or, Option.some.injEq, Sum.inl.injEq, Sum.inr.injEq, exists_eq_left', exists_eq_left, Int.reduceLE, Int.reduceLT, Int.reduceNeg, Int.reduceAdd, Int.reduceMul, Int.reduceSub, Int.reduceToNat, inR, Nat.zero_ne_one, false_and, Nat.succ_ne_zero, reduceCtorEq, false_implies, true_implies, not_false_eq_true, not_true_eq_false, Int.reduceEq, KRE, C_Model_told, FM, c', x68]
    repeat (first | refine ⟨by omega, ?_⟩ | refine ⟨fun _ _ => okt_nn (by omega), ?_⟩)
    try (first | (show _ ≤ _; omega) | (show _ < _; omega))
    refine II.eq ?_
    try simp (maxSteps := 2000000) only [↓reduceIte, wp_eq, wpd_eq, kont_eq, STP1, STP2, STP3, STP4, STP5, konM_eq, AMK, CZ, Option.map, List.getElem?_cons_zero, List.getElem?_cons_succ, List.mem_cons, List.not_mem_nil, if_false, if_true, Nat.reduceAdd, Nat.reduceLT, Nat.reduceLeDiff, Nat.reduceEqDiff, true_and, and_true, List.length_nil, List.length_cons, or_true, true_or, or_false, false_or, Option.some.injEq, Sum.inl.injEq, Sum.inr.injEq, exists_eq_left', exists_eq_left, Int.reduceLE, Int.reduceLT, Int.reduceNeg, Int.reduceAdd, Int.reduceMul, Int.reduceSub, Int.reduceToNat, inR, Nat.zero_ne_one, false_and, Nat.succ_ne_zero, reduceCtorEq, false_implies, true_implies, not_false_eq_true, not_true_eq_false, Int.reduceEq, KRE, C_Model_told, FM, b1, b2]
    repeat (first | refine ⟨by omega, ?_⟩ | refine ⟨fun _ _ => okt_nn (by omega), ?_⟩)
    try (first | (show _ ≤ _; omega) | (show _ < _; omega))
    all_goals first | exact ⟨by unfold tdA; rw [if_neg ci]; exact e185, F1⟩ | skip
set_option maxHeartbeats 600000 in
set_option maxRecDepth 20000 in
theorem Mtold_x1 {t i : Int} (h : mdl M n T Y lap bnd mrg) (htR : inR t) (ht : ¬ (0 ≤ t ∧ t < n)) : CallI m_Model_told [.inr 154, .inl t, .inl i] M (fun _ M' => rsM M 1 M') := by
  have h0 : mdl (mset M 154 1 0) n T Y lap bnd mrg := mdl_fr h scr_0 scr_mdl
  refine callP_of (by decide) (by decide) (Nat.le_of_ble_eq_true rfl) (wpm_of (cuts := []) (by decide) 60 _ _ _ _ ?_)
  rw [show lM m_Model_told = 3 from rfl]
  simp (maxSteps := 2000000) only [↓reduceIte, wp_eq, wpd_eq, kont_eq, STP1, STP2, STP3, STP4, STP5, konM_eq, AMK, CZ, Option.map, List.getElem?_cons_zero, List.getElem?_cons_succ, List.mem_cons, List.not_mem_nil, if_false, if_true, Nat.reduceAdd, Nat.reduceLT, Nat.reduceLeDiff, Nat.reduceEqDiff, true_and, and_true, List.length_nil, List.length_cons, or_true, true_or, or_false, false_or, Option.some.injEq, Sum.inl.injEq, Sum.inr.injEq, exists_eq_left', exists_eq_left, Int.reduceLE, Int.reduceLT, Int.reduceNeg, Int.reduceAdd, Int.reduceMul, Int.reduceSub, Int.reduceToNat, inR, Nat.zero_ne_one, false_and, Nat.succ_ne_zero, reduceCtorEq, false_implies, true_implies, not_false_eq_true, not_true_eq_false, Int.reduceEq, KRE, C_Model_told, FM]
  repeat (first | refine ⟨by omega, ?_⟩ | refine ⟨fun _ _ => okt_nn (by omega), ?_⟩)
  try (first | (show _ ≤ _; omega) | (show _ < _; omega))
  refine (isTimber_n h0 htR ht).eq ?_
  try simp (maxSteps := 2000000) only [↓reduceIte, wp_eq, wpd_eq, kont_eq, STP1, STP2, STP3, STP4, STP5, konM_eq, AMK, CZ, Option.map, List.getElem?_cons_zero, List.getElem?_cons_succ, List.mem_cons, List.not_mem_nil, if_false, if_true, Nat.reduceAdd, Nat.reduceLT, Nat.reduceLeDiff, Nat.reduceEqDiff, true_and, and_true, List.length_nil, List.length_cons, or_true, true_or, or_false, false_or, Option.some.injEq, Sum.inl.injEq, Sum.inr.injEq, exists_eq_left', exists_eq_left, Int.reduceLE, Int.reduceLT, Int.reduceNeg, Int.reduceAdd, Int.reduceMul, Int.reduceSub, Int.reduceToNat, inR, Nat.zero_ne_one, false_and, Nat.succ_ne_zero, reduceCtorEq, false_implies, true_implies, not_false_eq_true, not_true_eq_false, Int.reduceEq, KRE, C_Model_told, FM]
  repeat (first | refine ⟨by omega, ?_⟩ | refine ⟨fun _ _ => okt_nn (by omega), ?_⟩)
  try (first | (show _ ≤ _; omega) | (show _ < _; omega))
  refine (Model_fail_ok (k := 1)).eq ?_
  try simp (maxSteps := 2000000) only [↓reduceIte, wp_eq, wpd_eq, kont_eq, STP1, STP2, STP3, STP4, STP5, konM_eq, AMK, CZ, Option.map, List.getElem?_cons_zero, List.getElem?_cons_succ, List.mem_cons, List.not_mem_nil, if_false, if_true, Nat.reduceAdd, Nat.reduceLT, Nat.reduceLeDiff, Nat.reduceEqDiff, true_and, and_true, List.length_nil, List.length_cons, or_true, true_or, or_false, false_or, Option.some.injEq, Sum.inl.injEq, Sum.inr.injEq, exists_eq_left', exists_eq_left, Int.reduceLE, Int.reduceLT, Int.reduceNeg, Int.reduceAdd, Int.reduceMul, Int.reduceSub, Int.reduceToNat, inR, Nat.zero_ne_one, false_and, Nat.succ_ne_zero, reduceCtorEq, false_implies, true_implies, not_false_eq_true, not_true_eq_false, Int.reduceEq, KRE, C_Model_told, FM]
  refine ⟨by simp [mset], fun b j z => ?_⟩
  have z' : ¬ (b = 154 ∧ j = 1) := by unfold scrM at z; omega
  simp only [mset]
  rw [if_neg z', if_neg z']
set_option maxHeartbeats 600000 in
set_option maxRecDepth 20000 in
theorem Mtold_x2 {t : Nat} {i : Int} (h : mdl M n T Y lap bnd mrg) (ht : t < n) (hi : ¬ (i = -1 ∨ 0 ≤ i ∧ i < (txW (M 158 (30 * t + 1)) (M 158 (30 * t + 2)) (T t)).length)) (hiR : inR i) : CallI m_Model_told [.inr 154, .inl (t : Int), .inl i] M (fun _ M' => rsM M 1 M') := by
  have h0 : mdl (mset M 154 1 0) n T Y lap bnd mrg := mdl_fr h scr_0 scr_mdl
  have TT := tellText_ok h0 ht
  have e1 : mset M 154 1 0 158 (30 * t + 1) = M 158 (30 * t + 1) := by simp [mset]
  have e2 : mset M 154 1 0 158 (30 * t + 2) = M 158 (30 * t + 2) := by simp [mset]
  rw [e1, e2] at TT
  have hw := txW_len (le := M 158 (30 * t + 1)) (mo := M 158 (30 * t + 2)) (A := T t) (mdl_t h ht).2.2.2.1.1.2
  generalize txW (M 158 (30 * t + 1)) (M 158 (30 * t + 2)) (T t) = W at *
  refine callP_of (by decide) (by decide) (Nat.le_of_ble_eq_true rfl) (wpm_of (cuts := []) (by decide) 60 _ _ _ _ ?_)
  rw [show lM m_Model_told = 3 from rfl]
  simp (maxSteps := 2000000) only [↓reduceIte, wp_eq, wpd_eq, kont_eq, STP1, STP2, STP3, STP4, STP5, konM_eq, AMK, CZ, Option.map, List.getElem?_cons_zero, List.getElem?_cons_succ, List.mem_cons, List.not_mem_nil, if_false, if_true, Nat.reduceAdd, Nat.reduceLT, Nat.reduceLeDiff, Nat.reduceEqDiff, true_and, and_true, List.length_nil, List.length_cons, or_true, true_or, or_false, false_or, Option.some.injEq, Sum.inl.injEq, Sum.inr.injEq, exists_eq_left', exists_eq_left, Int.reduceLE, Int.reduceLT, Int.reduceNeg, Int.reduceAdd, Int.reduceMul, Int.reduceSub, Int.reduceToNat, inR, Nat.zero_ne_one, false_and, Nat.succ_ne_zero, reduceCtorEq, false_implies, true_implies, not_false_eq_true, not_true_eq_false, Int.reduceEq, KRE, C_Model_told, FM]
  repeat (first | refine ⟨by omega, ?_⟩ | refine ⟨fun _ _ => okt_nn (by omega), ?_⟩)
  try (first | (show _ ≤ _; omega) | (show _ < _; omega))
  refine (isTimber_y h0 ht).eq ?_
  try simp (maxSteps := 2000000) only [↓reduceIte, wp_eq, wpd_eq, kont_eq, STP1, STP2, STP3, STP4, STP5, konM_eq, AMK, CZ, Option.map, List.getElem?_cons_zero, List.getElem?_cons_succ, List.mem_cons, List.not_mem_nil, if_false, if_true, Nat.reduceAdd, Nat.reduceLT, Nat.reduceLeDiff, Nat.reduceEqDiff, true_and, and_true, List.length_nil, List.length_cons, or_true, true_or, or_false, false_or, Option.some.injEq, Sum.inl.injEq, Sum.inr.injEq, exists_eq_left', exists_eq_left, Int.reduceLE, Int.reduceLT, Int.reduceNeg, Int.reduceAdd, Int.reduceMul, Int.reduceSub, Int.reduceToNat, inR, Nat.zero_ne_one, false_and, Nat.succ_ne_zero, reduceCtorEq, false_implies, true_implies, not_false_eq_true, not_true_eq_false, Int.reduceEq, KRE, C_Model_told, FM]
  repeat (first | refine ⟨by omega, ?_⟩ | refine ⟨fun _ _ => okt_nn (by omega), ?_⟩)
  try (first | (show _ ≤ _; omega) | (show _ < _; omega))
  refine TT.mono (fun M1 X1 => ?_)
  have x68 := X1.1
  have c' := eq_false (show ¬ i = -1 by omega)
  have hiR' := hiR
  simp only [inR] at hiR'
  have II := Model_isIn_ok (M := M1) (v := i) (a := 0) (b := (W.length : Int) - 1) hiR ⟨by omega, by omega⟩ ⟨by omega, by omega⟩
  rw [if_neg (by omega)] at II
  try simp (maxSteps := 2000000) only [↓reduceIte, wp_eq, wpd_eq, kont_eq, STP1, STP2, STP3, STP4, STP5, konM_eq, AMK, CZ, Option.map, List.getElem?_cons_zero, List.getElem?_cons_succ, List.mem_cons, List.not_mem_nil, if_false, if_true, Nat.reduceAdd, Nat.reduceLT, Nat.reduceLeDiff, Nat.reduceEqDiff, true_and, and_true, List.length_nil, List.length_cons, or_true, true_or, or_false, false_or, Option.some.injEq, Sum.inl.injEq, Sum.inr.injEq, exists_eq_left', exists_eq_left, Int.reduceLE, Int.reduceLT, Int.reduceNeg, Int.reduceAdd, Int.reduceMul, Int.reduceSub, Int.reduceToNat, inR, Nat.zero_ne_one, false_and, Nat.succ_ne_zero, reduceCtorEq, false_implies, true_implies, not_false_eq_true, not_true_eq_false, Int.reduceEq, KRE, C_Model_told, FM, c', x68]
  repeat (first | refine ⟨by omega, ?_⟩ | refine ⟨fun _ _ => okt_nn (by omega), ?_⟩)
  try (first | (show _ ≤ _; omega) | (show _ < _; omega))
  refine II.eq ?_
  try simp (maxSteps := 2000000) only [↓reduceIte, wp_eq, wpd_eq, kont_eq, STP1, STP2, STP3, STP4, STP5, konM_eq, AMK, CZ, Option.map, List.getElem?_cons_zero, List.getElem?_cons_succ, List.mem_cons, List.not_mem_nil, if_false, if_true, Nat.reduceAdd, Nat.reduceLT, Nat.reduceLeDiff, Nat.reduceEqDiff, true_and, and_true, List.length_nil, List.length_cons, or_true, true_or, or_false, false_or, Option.some.injEq, Sum.inl.injEq, Sum.inr.injEq, exists_eq_left', exists_eq_left, Int.reduceLE, Int.reduceLT, Int.reduceNeg, Int.reduceAdd, Int.reduceMul, Int.reduceSub, Int.reduceToNat, inR, Nat.zero_ne_one, false_and, Nat.succ_ne_zero, reduceCtorEq, false_implies, true_implies, not_false_eq_true, not_true_eq_false, Int.reduceEq, KRE, C_Model_told, FM]
  repeat (first | refine ⟨by omega, ?_⟩ | refine ⟨fun _ _ => okt_nn (by omega), ?_⟩)
  try (first | (show _ ≤ _; omega) | (show _ < _; omega))
  refine (Model_fail_ok (k := 1)).eq ?_
  try simp (maxSteps := 2000000) only [↓reduceIte, wp_eq, wpd_eq, kont_eq, STP1, STP2, STP3, STP4, STP5, konM_eq, AMK, CZ, Option.map, List.getElem?_cons_zero, List.getElem?_cons_succ, List.mem_cons, List.not_mem_nil, if_false, if_true, Nat.reduceAdd, Nat.reduceLT, Nat.reduceLeDiff, Nat.reduceEqDiff, true_and, and_true, List.length_nil, List.length_cons, or_true, true_or, or_false, false_or, Option.some.injEq, Sum.inl.injEq, Sum.inr.injEq, exists_eq_left', exists_eq_left, Int.reduceLE, Int.reduceLT, Int.reduceNeg, Int.reduceAdd, Int.reduceMul, Int.reduceSub, Int.reduceToNat, inR, Nat.zero_ne_one, false_and, Nat.succ_ne_zero, reduceCtorEq, false_implies, true_implies, not_false_eq_true, not_true_eq_false, Int.reduceEq, KRE, C_Model_told, FM]
  refine ⟨by simp [mset], fun b j z => ?_⟩
  have z' : ¬ txP b j ∧ ¬ (b = 154 ∧ j = 1) := by
    unfold scrM at z
    unfold txP
    constructor <;> intro y <;> apply z <;> omega
  show (if b = 154 ∧ j = 1 then _ else M1 b j) = M b j
  rw [if_neg z'.2, X1.2.2 b j z'.1]
  show (if b = 154 ∧ j = 1 then _ else M b j) = M b j
  rw [if_neg z'.2]
end MT
