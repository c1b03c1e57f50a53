/-! TOLD, 1: the text of a timber; the reference tells it. -/
def dgW (v : Int) : List Int := if v ≤ 9 then [48 + v] else [48 + v / 10, 48 + v % 10]
def rgW (A : Rw) : Nat → List Int
  | 0 => []
  | r + 1 => rgW A r ++ (32 :: dgW (A.1 r) ++ (if A.2.2 r = 0 then [] else [63]))
def tW0 : List Int := [116, 105, 109, 98, 101, 114]
def txW (le mo : Int) (A : Rw) : List Int := tW0 ++ (32 :: dgW le) ++ (32 :: dgW mo) ++ rgW A A.2.1.toNat ++ [59]
theorem dgW_len (v : Int) : 1 ≤ (dgW v).length ∧ (dgW v).length ≤ 2 := by
  unfold dgW
  split <;> simp
theorem rgW_len (A : Rw) : ∀ r, (rgW A r).length ≤ 4 * r
  | 0 => by simp [rgW]
  | r + 1 => by
    have h1 := rgW_len A r
    have h2 := (dgW_len (A.1 r)).2
    have h3 : (if A.2.2 r = 0 then ([] : List Int) else [63]).length ≤ 1 := by split <;> simp
    simp only [rgW, List.length_append, List.length_cons]
    omega
theorem txW_len {le mo : Int} {A : Rw} (h : A.2.1 ≤ 24) : (txW le mo A).length ≤ 109 := by
  have h1 := rgW_len A A.2.1.toNat
  have h2 := (dgW_len le).2
  have h3 := (dgW_len mo).2
  have h4 : tW0.length = 6 := rfl
  simp only [txW, List.length_append, List.length_cons, List.length_nil]
  omega
def txP : Nat → Nat → Prop := fun b j => b = 154 ∧ j = 68 ∨ b = 185
/-- the text w told, out of M0 -/
def txM (M0 M : Mm) (w : List Int) : Prop := M 154 68 = (w.length : Int) ∧ (∀ j, j < w.length → M 185 j = w.getD j 0) ∧ FrP txP M0 M
def mSay (M : Mm) (n : Nat) (c : Int) : Mm := mset (mset M 185 n c) 154 68 ((n : Int) + 1)
theorem getD_app {w : List Int} {c : Int} {j : Nat} (h : j < w.length + 1) : (w ++ [c]).getD j 0 = if j = w.length then c else w.getD j 0 := by
  by_cases e : j = w.length
  · subst e
    rw [if_pos rfl, List.getD_eq_getElem?_getD, List.getElem?_append_right (Nat.le_refl _), Nat.sub_self]
    rfl
  · rw [if_neg e, List.getD_eq_getElem?_getD, List.getElem?_append_left (by omega), List.getD_eq_getElem?_getD]
theorem txM_app {M0 M : Mm} {w : List Int} {c : Int} (h : txM M0 M w) : txM M0 (mSay M w.length c) (w ++ [c]) := by
  obtain ⟨h1, h2, h3⟩ := h
  refine ⟨?_, fun j hj => ?_, fun b j z => ?_⟩
  · simp [mSay, mset]
  · have hj' : j < w.length + 1 := by simpa using hj
    rw [getD_app hj']
    by_cases e : j = w.length
    · subst e
      rw [if_pos rfl]
      simp [mSay, mset]
    · rw [if_neg e, ← h2 j (by omega)]
      simp [mSay, mset, e]
  · rw [← h3 b j z]
    have z' : ¬ (b = 154 ∧ j = 68) ∧ b ≠ 185 := by
      constructor
      · exact fun y => z (.inl y)
      · exact fun y => z (.inr y)
    show (if b = 154 ∧ j = 68 then _ else if b = 185 ∧ j = w.length then _ else M b j) = M b j
    rw [if_neg z'.1, if_neg (fun y => z'.2 y.1)]
section MT
variable {n : Nat} {T : Nat → Rw} {Y : Nat → Int} {lap bnd mrg : Int} {M M0 : Mm} {w : List Int}
set_option maxHeartbeats 600000 in
set_option maxRecDepth 20000 in
theorem Model_says_ok {k : Nat} {c : Int} (h : M 154 68 = k) (hk : k < 200) : CallV m_Model_says [.inr 154, .inl c] M (fun M' => M' = mSay M k c) := by
  have e2 : ∀ v, mset M 185 k v 154 68 = k := fun v => by rw [← h]; simp [mset]
  have hk0 := eq_true (show (0 : Int) ≤ (k : Int) by omega)
  have hk1 := eq_true (show (k : Int) < ((200 : Nat) : Int) by omega)
  refine callP_of (by decide) (by decide) (Nat.le_of_ble_eq_true rfl) (wpm_of (cuts := []) (by decide) 60 _ _ _ _ ?_)
  rw [show lM m_Model_says = 2 from rfl]
  simp (maxSteps := 2000000) only [↓reduceIte, wp_eq, wpd_eq, kont_eq, STP1, STP2, STP3, STP4, STP5, konM_eq, AMK, CZ, Option.map, List.getElem?_cons_zero, List.getElem?_cons_succ, List.mem_cons, List.not_mem_nil, if_false, if_true, Nat.reduceAdd, Nat.reduceLT, Nat.reduceLeDiff, Nat.reduceEqDiff, true_and, and_true, List.length_nil, List.length_cons, or_true, true_or, or_false, false_or, Option.some.injEq, Sum.inl.injEq, Sum.inr.injEq, exists_eq_left', exists_eq_left, Int.reduceLE, Int.reduceLT, Int.reduceNeg, Int.reduceAdd, Int.reduceMul, Int.reduceSub, Int.reduceToNat, inR, Nat.zero_ne_one, false_and, Nat.succ_ne_zero, reduceCtorEq, false_implies, true_implies, not_false_eq_true, not_true_eq_false, Int.reduceEq, KRE, C_Model_says, FM, h, natT, e2]
  repeat (first | refine ⟨by omega, ?_⟩ | refine ⟨fun _ _ => okt_nn (by omega), ?_⟩)
  try (first | (show _ ≤ _; omega) | (show _ < _; omega))
  try exact rfl
theorem says_tx {c : Int} (h : txM M0 M w) (hw : w.length < 200) : CallV m_Model_says [.inr 154, .inl c] M (fun M' => txM M0 M' (w ++ [c])) := (Model_says_ok h.1 hw).mono (fun M' z => by rw [z]; exact txM_app h)
set_option maxHeartbeats 600000 in
set_option maxRecDepth 20000 in
theorem saysN_tx {v : Int} (h : txM M0 M w) (hw : w.length < 190) (h0 : 0 ≤ v) (h1 : v ≤ 99) : CallV m_Model_saysNumber [.inr 154, .inl v] M (fun M' => txM M0 M' (w ++ 32 :: dgW v)) := by
  refine callP_of (by decide) (by decide) (Nat.le_of_ble_eq_true rfl) (wpm_of (cuts := []) (by decide) 60 _ _ _ _ ?_)
  rw [show lM m_Model_saysNumber = 2 from rfl]
  simp (maxSteps := 2000000) only [↓reduceIte, wp_eq, wpd_eq, kont_eq, STP1, STP2, STP3, STP4, STP5, konM_eq, AMK, CZ, Option.map, List.getElem?_cons_zero, List.getElem?_cons_succ, List.mem_cons, List.not_mem_nil, if_false, if_true, Nat.reduceAdd, Nat.reduceLT, Nat.reduceLeDiff, Nat.reduceEqDiff, true_and, and_true, List.length_nil, List.length_cons, or_true, true_or, or_false, false_or, Option.some.injEq, Sum.inl.injEq, Sum.inr.injEq, exists_eq_left', exists_eq_left, Int.reduceLE, Int.reduceLT, Int.reduceNeg, Int.reduceAdd, Int.reduceMul, Int.reduceSub, Int.reduceToNat, inR, Nat.zero_ne_one, false_and, Nat.succ_ne_zero, reduceCtorEq, false_implies, true_implies, not_false_eq_true, not_true_eq_false, Int.reduceEq, KRE, C_Model_saysNumber, FM]
  repeat (first | refine ⟨by omega, ?_⟩ | refine ⟨fun _ _ => okt_nn (by omega), ?_⟩)
  try (first | (show _ ≤ _; omega) | (show _ < _; omega))
  refine (says_tx h (by omega)).mono (fun M1 g1 => ?_)
  by_cases c : v ≤ 9
  · have c' := eq_true c
    try simp (maxSteps := 2000000) only [↓reduceIte, wp_eq, wpd_eq, kont_eq, STP1, STP2, STP3, STP4, STP5, konM_eq, AMK, CZ, Option.map, List.getElem?_cons_zero, List.getElem?_cons_succ, List.mem_cons, List.not_mem_nil, if_false, if_true, Nat.reduceAdd, Nat.reduceLT, Nat.reduceLeDiff, Nat.reduceEqDiff, true_and, and_true, List.length_nil, List.length_cons, or_true, true_or, or_false, false_or, Option.some.injEq, Sum.inl.injEq, Sum.inr.injEq, exists_eq_left', exists_eq_left, Int.reduceLE, Int.reduceLT, Int.reduceNeg, Int.reduceAdd, Int.reduceMul, Int.reduceSub, Int.reduceToNat, inR, Nat.zero_ne_one, false_and, Nat.succ_ne_zero, reduceCtorEq, false_implies, true_implies, not_false_eq_true, not_true_eq_false, Int.reduceEq, KRE, C_Model_saysNumber, FM, c']
    repeat (first | refine ⟨by omega, ?_⟩ | refine ⟨fun _ _ => okt_nn (by omega), ?_⟩)
    try (first | (show _ ≤ _; omega) | (show _ < _; omega))
    refine (says_tx (c := 48 + v.tmod 10) g1 (by simp; omega)).mono (fun M2 g2 => ?_)
    have e : w ++ 32 :: dgW v = w ++ [32] ++ [48 + v.tmod 10] := by
      unfold dgW
      rw [if_pos c, Int.tmod_eq_emod_of_nonneg h0, show v % 10 = v by omega]
      simp
    rw [e]
    try simp (maxSteps := 2000000) only [↓reduceIte, wp_eq, wpd_eq, kont_eq, STP1, STP2, STP3, STP4, STP5, konM_eq, AMK, CZ, Option.map, List.getElem?_cons_zero, List.getElem?_cons_succ, List.mem_cons, List.not_mem_nil, if_false, if_true, Nat.reduceAdd, Nat.reduceLT, Nat.reduceLeDiff, Nat.reduceEqDiff, true_and, and_true, List.length_nil, List.length_cons, or_true, true_or, or_false, false_or, Option.some.injEq, Sum.inl.injEq, Sum.inr.injEq, exists_eq_left', exists_eq_left, Int.reduceLE, Int.reduceLT, Int.reduceNeg, Int.reduceAdd, Int.reduceMul, Int.reduceSub, Int.reduceToNat, inR, Nat.zero_ne_one, false_and, Nat.succ_ne_zero, reduceCtorEq, false_implies, true_implies, not_false_eq_true, not_true_eq_false, Int.reduceEq, KRE, C_Model_saysNumber, FM]
    first | exact g2 | exact ⟨rfl, g2⟩ | exact ⟨by simp, g2⟩ | exact ⟨by omega, g2⟩ | exact ⟨by simp, rfl, g2⟩ | exact ⟨by omega, rfl, g2⟩ | exact ⟨by simp, by simp, g2⟩ | exact ⟨by omega, by simp, g2⟩ | (simp; first | exact g2 | exact ⟨by omega, g2⟩)
  · have c' := eq_false c
    try simp (maxSteps := 2000000) only [↓reduceIte, wp_eq, wpd_eq, kont_eq, STP1, STP2, STP3, STP4, STP5, konM_eq, AMK, CZ, Option.map, List.getElem?_cons_zero, List.getElem?_cons_succ, List.mem_cons, List.not_mem_nil, if_false, if_true, Nat.reduceAdd, Nat.reduceLT, Nat.reduceLeDiff, Nat.reduceEqDiff, true_and, and_true, List.length_nil, List.length_cons, or_true, true_or, or_false, false_or, Option.some.injEq, Sum.inl.injEq, Sum.inr.injEq, exists_eq_left', exists_eq_left, Int.reduceLE, Int.reduceLT, Int.reduceNeg, Int.reduceAdd, Int.reduceMul, Int.reduceSub, Int.reduceToNat, inR, Nat.zero_ne_one, false_and, Nat.succ_ne_zero, reduceCtorEq, false_implies, true_implies, not_false_eq_true, not_true_eq_false, Int.reduceEq, KRE, C_Model_saysNumber, FM, c']
    repeat (first | refine ⟨by omega, ?_⟩ | refine ⟨fun _ _ => okt_nn (by omega), ?_⟩)
    try (first | (show _ ≤ _; omega) | (show _ < _; omega))
    refine (says_tx (c := 48 + v.tdiv 10) g1 (by simp; omega)).mono (fun M2 g2 => ?_)
    try simp (maxSteps := 2000000) only [↓reduceIte, wp_eq, wpd_eq, kont_eq, STP1, STP2, STP3, STP4, STP5, konM_eq, AMK, CZ, Option.map, List.getElem?_cons_zero, List.getElem?_cons_succ, List.mem_cons, List.not_mem_nil, if_false, if_true, Nat.reduceAdd, Nat.reduceLT, Nat.reduceLeDiff, Nat.reduceEqDiff, true_and, and_true, List.length_nil, List.length_cons, or_true, true_or, or_false, false_or, Option.some.injEq, Sum.inl.injEq, Sum.inr.injEq, exists_eq_left', exists_eq_left, Int.reduceLE, Int.reduceLT, Int.reduceNeg, Int.reduceAdd, Int.reduceMul, Int.reduceSub, Int.reduceToNat, inR, Nat.zero_ne_one, false_and, Nat.succ_ne_zero, reduceCtorEq, false_implies, true_implies, not_false_eq_true, not_true_eq_false, Int.reduceEq, KRE, C_Model_saysNumber, FM]
    repeat (first | refine ⟨by omega, ?_⟩ | refine ⟨fun _ _ => okt_nn (by omega), ?_⟩)
    try (first | (show _ ≤ _; omega) | (show _ < _; omega))
    refine (says_tx (c := 48 + v.tmod 10) g2 (by simp; omega)).mono (fun M3 g3 => ?_)
    have e : w ++ 32 :: dgW v = w ++ [32] ++ [48 + v.tdiv 10] ++ [48 + v.tmod 10] := by
      unfold dgW
      rw [if_neg c, Int.tmod_eq_emod_of_nonneg h0, Int.tdiv_eq_ediv_of_nonneg h0]
      simp
    rw [e]
    try simp (maxSteps := 2000000) only [↓reduceIte, wp_eq, wpd_eq, kont_eq, STP1, STP2, STP3, STP4, STP5, konM_eq, AMK, CZ, Option.map, List.getElem?_cons_zero, List.getElem?_cons_succ, List.mem_cons, List.not_mem_nil, if_false, if_true, Nat.reduceAdd, Nat.reduceLT, Nat.reduceLeDiff, Nat.reduceEqDiff, true_and, and_true, List.length_nil, List.length_cons, or_true, true_or, or_false, false_or, Option.some.injEq, Sum.inl.injEq, Sum.inr.injEq, exists_eq_left', exists_eq_left, Int.reduceLE, Int.reduceLT, Int.reduceNeg, Int.reduceAdd, Int.reduceMul, Int.reduceSub, Int.reduceToNat, inR, Nat.zero_ne_one, false_and, Nat.succ_ne_zero, reduceCtorEq, false_implies, true_implies, not_false_eq_true, not_true_eq_false, Int.reduceEq, KRE, C_Model_saysNumber, FM]
    first | exact g3 | exact ⟨rfl, g3⟩ | exact ⟨by simp, g3⟩ | exact ⟨by omega, g3⟩ | exact ⟨by simp, rfl, g3⟩ | exact ⟨by omega, rfl, g3⟩ | exact ⟨by simp, by simp, g3⟩ | exact ⟨by omega, by simp, g3⟩ | (simp; first | exact g3 | exact ⟨by omega, g3⟩)
theorem tW0_take : ∀ k, k < 6 → tW0.take (k + 1) = tW0.take k ++ [strCh 0 k] := by decide +kernel
set_option maxHeartbeats 600000 in
set_option maxRecDepth 20000 in
theorem tellText_ok {t : Nat} (h : mdl M n T Y lap bnd mrg) (ht : t < n) : CallV m_Model_tellText [.inr 154, .inl (t : Int)] M (fun M' => txM M M' (txW (M 158 (30 * t + 1)) (M 158 (30 * t + 2)) (T t))) := by
  obtain ⟨⟨n8, g1⟩, g2, g3, g4, g5, g6, -⟩ := mdl_t h ht
  obtain ⟨eT, -, -⟩ := h.2.1 t ht
  obtain ⟨⟨o1, o2⟩, o3, o4⟩ := g4
  have hr := rcS (show 0 < 7 by omega)
  have e191 : ([191, 192, 193, 194, 195, 196] : List Nat).getD 0 0 = NN + 0 := rfl
  have SL := fun M1 => String_length_ok (i := 0) (by omega) (M := M1)
  have SC := fun k hk M1 => String_charAt_ok (i := 0) (k := k) (by omega) hk (M := M1)
  have l6 : strLen.getD 0 0 = 6 := rfl
  rw [l6] at SL SC
  have mofE : ∀ (M1 : Mm) (k : Int), FrP txP M M1 → 0 ≤ k → k < 30 → CallI m_Model_of [.inr 154, .inl (t : Int), .inl k] M1 (fun x M' => x = M 158 (30 * (t : Int) + k).toNat ∧ M' = M1) := fun M1 k F k0 k1 => (Model_of_ok ⟨by omega, by omega⟩).mono (fun x M' z => ⟨by rw [z.1]; exact F _ _ (fun y => by unfold txP at y; omega), z.2⟩)
  have hd : inR (M 158 (30 * t + 5)) := g6.2.2.2.1
  obtain ⟨⟨le0, le1⟩, ⟨mo0, mo1⟩, -⟩ := id g6
  refine callP_of (by decide) (by decide) (Nat.le_of_ble_eq_true rfl) (wpm_of (cuts := [7, 62]) (by decide) 60 _ _ _ _ ?_)
  rw [show lM m_Model_tellText = 3 from rfl]
  simp (maxSteps := 2000000) only [↓reduceIte, wp_eq, wpd_eq, kont_eq, STP1, STP2, STP3, STP4, STP5, konM_eq, AMK, CZ, Option.map, List.getElem?_cons_zero, List.getElem?_cons_succ, List.mem_cons, List.not_mem_nil, if_false, if_true, Nat.reduceAdd, Nat.reduceLT, Nat.reduceLeDiff, Nat.reduceEqDiff, true_and, and_true, List.length_nil, List.length_cons, or_true, true_or, or_false, false_or, Option.some.injEq, Sum.inl.injEq, Sum.inr.injEq, exists_eq_left', exists_eq_left, Int.reduceLE, Int.reduceLT, Int.reduceNeg, Int.reduceAdd, Int.reduceMul, Int.reduceSub, Int.reduceToNat, inR, Nat.zero_ne_one, false_and, Nat.succ_ne_zero, reduceCtorEq, false_implies, true_implies, not_false_eq_true, not_true_eq_false, Int.reduceEq, KRE, C_Model_tellText, FM, e191]
  refine loopQ 6 (fun k ls M1 => txM M M1 (tW0.take k) ∧ ls = [some (.inr 154), some (.inl (t : Int)), some (.inl (k : Int))]) ?_ _ _ ⟨⟨by simp [mset], fun j hj => absurd hj (by simp), fun b j z => by
    show (if b = 154 ∧ j = 68 then (0 : Int) else M b j) = M b j
    rw [if_neg (fun y => z (.inl y))]⟩, rfl⟩
  rintro k _ M1 hk ⟨X1, rfl⟩ K
  by_cases ck : 6 ≤ (k : Int)
  · obtain rfl : k = 6 := by omega
    have c' := eq_true (show ((6 : Nat) : Int) ≤ ((6 : Nat) : Int) by omega)
    have X1 : txM M M1 tW0 := X1
    refine wpm_of (cuts := [7, 62]) (by decide) 60 _ _ _ _ ?_
    simp (maxSteps := 2000000) only [↓reduceIte, wp_eq, wpd_eq, kont_eq, STP1, STP2, STP3, STP4, STP5, konM_eq, AMK, CZ, Option.map, List.getElem?_cons_zero, List.getElem?_cons_succ, List.mem_cons, List.not_mem_nil, if_false, if_true, Nat.reduceAdd, Nat.reduceLT, Nat.reduceLeDiff, Nat.reduceEqDiff, true_and, and_true, List.length_nil, List.length_cons, or_true, true_or, or_false, false_or, Option.some.injEq, Sum.inl.injEq, Sum.inr.injEq, exists_eq_left', exists_eq_left, Int.reduceLE, Int.reduceLT, Int.reduceNeg, Int.reduceAdd, Int.reduceMul, Int.reduceSub, Int.reduceToNat, inR, Nat.zero_ne_one, false_and, Nat.succ_ne_zero, reduceCtorEq, false_implies, true_implies, not_false_eq_true, not_true_eq_false, Int.reduceEq, KRE, C_Model_tellText, FM, hr, e191]
    repeat (first | refine ⟨by omega, ?_⟩ | refine ⟨fun _ _ => okt_nn (by omega), ?_⟩)
    try (first | (show _ ≤ _; omega) | (show _ < _; omega))
    refine (SL M1).eq ?_
    try simp (maxSteps := 2000000) only [↓reduceIte, wp_eq, wpd_eq, kont_eq, STP1, STP2, STP3, STP4, STP5, konM_eq, AMK, CZ, Option.map, List.getElem?_cons_zero, List.getElem?_cons_succ, List.mem_cons, List.not_mem_nil, if_false, if_true, Nat.reduceAdd, Nat.reduceLT, Nat.reduceLeDiff, Nat.reduceEqDiff, true_and, and_true, List.length_nil, List.length_cons, or_true, true_or, or_false, false_or, Option.some.injEq, Sum.inl.injEq, Sum.inr.injEq, exists_eq_left', exists_eq_left, Int.reduceLE, Int.reduceLT, Int.reduceNeg, Int.reduceAdd, Int.reduceMul, Int.reduceSub, Int.reduceToNat, inR, Nat.zero_ne_one, false_and, Nat.succ_ne_zero, reduceCtorEq, false_implies, true_implies, not_false_eq_true, not_true_eq_false, Int.reduceEq, KRE, C_Model_tellText, FM, c']
    repeat (first | refine ⟨by omega, ?_⟩ | refine ⟨fun _ _ => okt_nn (by omega), ?_⟩)
    try (first | (show _ ≤ _; omega) | (show _ < _; omega))
    refine (mofE M1 1 X1.2.2 (by omega) (by omega)).eq ?_
    try simp (maxSteps := 2000000) only [↓reduceIte, wp_eq, wpd_eq, kont_eq, STP1, STP2, STP3, STP4, STP5, konM_eq, AMK, CZ, Option.map, List.getElem?_cons_zero, List.getElem?_cons_succ, List.mem_cons, List.not_mem_nil, if_false, if_true, Nat.reduceAdd, Nat.reduceLT, Nat.reduceLeDiff, Nat.reduceEqDiff, true_and, and_true, List.length_nil, List.length_cons, or_true, true_or, or_false, false_or, Option.some.injEq, Sum.inl.injEq, Sum.inr.injEq, exists_eq_left', exists_eq_left, Int.reduceLE, Int.reduceLT, Int.reduceNeg, Int.reduceAdd, Int.reduceMul, Int.reduceSub, Int.reduceToNat, inR, Nat.zero_ne_one, false_and, Nat.succ_ne_zero, reduceCtorEq, false_implies, true_implies, not_false_eq_true, not_true_eq_false, Int.reduceEq, KRE, C_Model_tellText, FM]
    repeat (first | refine ⟨by omega, ?_⟩ | refine ⟨fun _ _ => okt_nn (by omega), ?_⟩)
    try (first | (show _ ≤ _; omega) | (show _ < _; omega))
    rw [show (30 * (t : Int) + 1).toNat = 30 * t + 1 by omega]
    refine (saysN_tx X1 (by decide) (by omega) (by omega)).mono (fun M2 X2 => ?_)
    try simp (maxSteps := 2000000) only [↓reduceIte, wp_eq, wpd_eq, kont_eq, STP1, STP2, STP3, STP4, STP5, konM_eq, AMK, CZ, Option.map, List.getElem?_cons_zero, List.getElem?_cons_succ, List.mem_cons, List.not_mem_nil, if_false, if_true, Nat.reduceAdd, Nat.reduceLT, Nat.reduceLeDiff, Nat.reduceEqDiff, true_and, and_true, List.length_nil, List.length_cons, or_true, true_or, or_false, false_or, Option.some.injEq, Sum.inl.injEq, Sum.inr.injEq, exists_eq_left', exists_eq_left, Int.reduceLE, Int.reduceLT, Int.reduceNeg, Int.reduceAdd, Int.reduceMul, Int.reduceSub, Int.reduceToNat, inR, Nat.zero_ne_one, false_and, Nat.succ_ne_zero, reduceCtorEq, false_implies, true_implies, not_false_eq_true, not_true_eq_false, Int.reduceEq, KRE, C_Model_tellText, FM]
    repeat (first | refine ⟨by omega, ?_⟩ | refine ⟨fun _ _ => okt_nn (by omega), ?_⟩)
    try (first | (show _ ≤ _; omega) | (show _ < _; omega))
    refine (mofE M2 2 X2.2.2 (by omega) (by omega)).eq ?_
    try simp (maxSteps := 2000000) only [↓reduceIte, wp_eq, wpd_eq, kont_eq, STP1, STP2, STP3, STP4, STP5, konM_eq, AMK, CZ, Option.map, List.getElem?_cons_zero, List.getElem?_cons_succ, List.mem_cons, List.not_mem_nil, if_false, if_true, Nat.reduceAdd, Nat.reduceLT, Nat.reduceLeDiff, Nat.reduceEqDiff, true_and, and_true, List.length_nil, List.length_cons, or_true, true_or, or_false, false_or, Option.some.injEq, Sum.inl.injEq, Sum.inr.injEq, exists_eq_left', exists_eq_left, Int.reduceLE, Int.reduceLT, Int.reduceNeg, Int.reduceAdd, Int.reduceMul, Int.reduceSub, Int.reduceToNat, inR, Nat.zero_ne_one, false_and, Nat.succ_ne_zero, reduceCtorEq, false_implies, true_implies, not_false_eq_true, not_true_eq_false, Int.reduceEq, KRE, C_Model_tellText, FM]
    repeat (first | refine ⟨by omega, ?_⟩ | refine ⟨fun _ _ => okt_nn (by omega), ?_⟩)
    try (first | (show _ ≤ _; omega) | (show _ < _; omega))
    rw [show (30 * (t : Int) + 2).toNat = 30 * t + 2 by omega]
    have d1 := (dgW_len (M 158 (30 * t + 1))).2
    have d2 := (dgW_len (M 158 (30 * t + 2))).2
    refine (saysN_tx X2 (by simp only [List.length_append, List.length_cons, show tW0.length = 6 from rfl]; omega) (by omega) (by omega)).mono (fun M3 X3 => ?_)
    have hL : (tW0 ++ 32 :: dgW (M 158 (30 * t + 1)) ++ 32 :: dgW (M 158 (30 * t + 2))).length ≤ 12 := by simp only [List.length_append, List.length_cons, show tW0.length = 6 from rfl]; omega
    unfold txW
    generalize tW0 ++ 32 :: dgW (M 158 (30 * t + 1)) ++ 32 :: dgW (M 158 (30 * t + 2)) = W at *
    try simp (maxSteps := 2000000) only [↓reduceIte, wp_eq, wpd_eq, kont_eq, STP1, STP2, STP3, STP4, STP5, konM_eq, AMK, CZ, Option.map, List.getElem?_cons_zero, List.getElem?_cons_succ, List.mem_cons, List.not_mem_nil, if_false, if_true, Nat.reduceAdd, Nat.reduceLT, Nat.reduceLeDiff, Nat.reduceEqDiff, true_and, and_true, List.length_nil, List.length_cons, or_true, true_or, or_false, false_or, Option.some.injEq, Sum.inl.injEq, Sum.inr.injEq, exists_eq_left', exists_eq_left, Int.reduceLE, Int.reduceLT, Int.reduceNeg, Int.reduceAdd, Int.reduceMul, Int.reduceSub, Int.reduceToNat, inR, Nat.zero_ne_one, false_and, Nat.succ_ne_zero, reduceCtorEq, false_implies, true_implies, not_false_eq_true, not_true_eq_false, Int.reduceEq, KRE, C_Model_tellText, FM]
    refine loopQ (T t).2.1.toNat (fun r ls M4 => txM M M4 (W ++ rgW (T t) r) ∧ ls = [some (.inr 154), some (.inl (t : Int)), some (.inl (r : Int))]) ?_ _ _ ⟨by simpa [rgW] using X3, rfl⟩
    rintro r _ M4 hr4 ⟨X4, rfl⟩ K2
    have hl4 := rgW_len (T t) r
    have hLr : (W ++ rgW (T t) r).length ≤ 12 + 4 * r := by rw [List.length_append]; omega
    by_cases cr : (T t).2.1 ≤ (r : Int)
    · have er : r = (T t).2.1.toNat := by omega
      have c2' := eq_true cr
      refine wpm_of (cuts := [7, 62]) (by decide) 60 _ _ _ _ ?_
      simp (maxSteps := 2000000) only [↓reduceIte, wp_eq, wpd_eq, kont_eq, STP1, STP2, STP3, STP4, STP5, konM_eq, AMK, CZ, Option.map, List.getElem?_cons_zero, List.getElem?_cons_succ, List.mem_cons, List.not_mem_nil, if_false, if_true, Nat.reduceAdd, Nat.reduceLT, Nat.reduceLeDiff, Nat.reduceEqDiff, true_and, and_true, List.length_nil, List.length_cons, or_true, true_or, or_false, false_or, Option.some.injEq, Sum.inl.injEq, Sum.inr.injEq, exists_eq_left', exists_eq_left, Int.reduceLE, Int.reduceLT, Int.reduceNeg, Int.reduceAdd, Int.reduceMul, Int.reduceSub, Int.reduceToNat, inR, Nat.zero_ne_one, false_and, Nat.succ_ne_zero, reduceCtorEq, false_implies, true_implies, not_false_eq_true, not_true_eq_false, Int.reduceEq, KRE, C_Model_tellText, FM, hr, e191]
      repeat (first | refine ⟨by omega, ?_⟩ | refine ⟨fun _ _ => okt_nn (by omega), ?_⟩)
      try (first | (show _ ≤ _; omega) | (show _ < _; omega))
      refine (mofE M4 0 X4.2.2 (by omega) (by omega)).eq ?_
      rw [show (30 * (t : Int) + 0).toNat = 30 * t by omega, g1]
      try simp (maxSteps := 2000000) only [↓reduceIte, wp_eq, wpd_eq, kont_eq, STP1, STP2, STP3, STP4, STP5, konM_eq, AMK, CZ, Option.map, List.getElem?_cons_zero, List.getElem?_cons_succ, List.mem_cons, List.not_mem_nil, if_false, if_true, Nat.reduceAdd, Nat.reduceLT, Nat.reduceLeDiff, Nat.reduceEqDiff, true_and, and_true, List.length_nil, List.length_cons, or_true, true_or, or_false, false_or, Option.some.injEq, Sum.inl.injEq, Sum.inr.injEq, exists_eq_left', exists_eq_left, Int.reduceLE, Int.reduceLT, Int.reduceNeg, Int.reduceAdd, Int.reduceMul, Int.reduceSub, Int.reduceToNat, inR, Nat.zero_ne_one, false_and, Nat.succ_ne_zero, reduceCtorEq, false_implies, true_implies, not_false_eq_true, not_true_eq_false, Int.reduceEq, KRE, C_Model_tellText, FM, c2']
      repeat (first | refine ⟨by omega, ?_⟩ | refine ⟨fun _ _ => okt_nn (by omega), ?_⟩)
      try (first | (show _ ≤ _; omega) | (show _ < _; omega))
      refine (says_tx (c := 59) X4 (by omega)).mono (fun M5 X5 => ?_)
      rw [er] at X5
      try simp (maxSteps := 2000000) only [↓reduceIte, wp_eq, wpd_eq, kont_eq, STP1, STP2, STP3, STP4, STP5, konM_eq, AMK, CZ, Option.map, List.getElem?_cons_zero, List.getElem?_cons_succ, List.mem_cons, List.not_mem_nil, if_false, if_true, Nat.reduceAdd, Nat.reduceLT, Nat.reduceLeDiff, Nat.reduceEqDiff, true_and, and_true, List.length_nil, List.length_cons, or_true, true_or, or_false, false_or, Option.some.injEq, Sum.inl.injEq, Sum.inr.injEq, exists_eq_left', exists_eq_left, Int.reduceLE, Int.reduceLT, Int.reduceNeg, Int.reduceAdd, Int.reduceMul, Int.reduceSub, Int.reduceToNat, inR, Nat.zero_ne_one, false_and, Nat.succ_ne_zero, reduceCtorEq, false_implies, true_implies, not_false_eq_true, not_true_eq_false, Int.reduceEq, KRE, C_Model_tellText, FM]
      first | exact X5 | exact ⟨rfl, X5⟩ | exact ⟨by simp, X5⟩ | exact ⟨by omega, X5⟩ | exact ⟨by simp, rfl, X5⟩ | exact ⟨by omega, rfl, X5⟩ | exact ⟨by simp, by simp, X5⟩ | exact ⟨by omega, by simp, X5⟩ | (simp; first | exact X5 | exact ⟨by omega, X5⟩)
    · have c2' := eq_false cr
      have er : r < (T t).2.1.toNat := by omega
      have ew : M 158 (30 * t + 6 + r) = (T t).1 r := by
        rw [← eT]
        show _ = if (r : Int) < M 158 (30 * t) then M 158 (30 * t + 6 + r) else 0
        rw [if_pos (by omega)]
      have ed : (T t).2.2 r = if btI (M 158 (30 * t + 5)) r = true then 1 else 0 := by
        rw [← eT]
        show (if (r : Int) < M 158 (30 * t) then (if btI (M 158 (30 * t + 5)) r = true then 1 else 0) else 0) = _
        rw [if_pos (by omega)]
      obtain ⟨w1, w2⟩ := o3 r (by omega)
      have K3 := K2 er
      rw [show rgW (T t) (r + 1) = rgW (T t) r ++ (32 :: dgW ((T t).1 r) ++ (if (T t).2.2 r = 0 then [] else [63])) from rfl] at K3
      refine wpm_of (cuts := [7, 62]) (by decide) 60 _ _ _ _ ?_
      simp (maxSteps := 2000000) only [↓reduceIte, wp_eq, wpd_eq, kont_eq, STP1, STP2, STP3, STP4, STP5, konM_eq, AMK, CZ, Option.map, List.getElem?_cons_zero, List.getElem?_cons_succ, List.mem_cons, List.not_mem_nil, if_false, if_true, Nat.reduceAdd, Nat.reduceLT, Nat.reduceLeDiff, Nat.reduceEqDiff, true_and, and_true, List.length_nil, List.length_cons, or_true, true_or, or_false, false_or, Option.some.injEq, Sum.inl.injEq, Sum.inr.injEq, exists_eq_left', exists_eq_left, Int.reduceLE, Int.reduceLT, Int.reduceNeg, Int.reduceAdd, Int.reduceMul, Int.reduceSub, Int.reduceToNat, inR, Nat.zero_ne_one, false_and, Nat.succ_ne_zero, reduceCtorEq, false_implies, true_implies, not_false_eq_true, not_true_eq_false, Int.reduceEq, KRE, C_Model_tellText, FM, hr, e191]
      repeat (first | refine ⟨by omega, ?_⟩ | refine ⟨fun _ _ => okt_nn (by omega), ?_⟩)
      try (first | (show _ ≤ _; omega) | (show _ < _; omega))
      refine (mofE M4 0 X4.2.2 (by omega) (by omega)).eq ?_
      rw [show (30 * (t : Int) + 0).toNat = 30 * t by omega, g1]
      try simp (maxSteps := 2000000) only [↓reduceIte, wp_eq, wpd_eq, kont_eq, STP1, STP2, STP3, STP4, STP5, konM_eq, AMK, CZ, Option.map, List.getElem?_cons_zero, List.getElem?_cons_succ, List.mem_cons, List.not_mem_nil, if_false, if_true, Nat.reduceAdd, Nat.reduceLT, Nat.reduceLeDiff, Nat.reduceEqDiff, true_and, and_true, List.length_nil, List.length_cons, or_true, true_or, or_false, false_or, Option.some.injEq, Sum.inl.injEq, Sum.inr.injEq, exists_eq_left', exists_eq_left, Int.reduceLE, Int.reduceLT, Int.reduceNeg, Int.reduceAdd, Int.reduceMul, Int.reduceSub, Int.reduceToNat, inR, Nat.zero_ne_one, false_and, Nat.succ_ne_zero, reduceCtorEq, false_implies, true_implies, not_false_eq_true, not_true_eq_false, Int.reduceEq, KRE, C_Model_tellText, FM, c2']
      repeat (first | refine ⟨by omega, ?_⟩ | refine ⟨fun _ _ => okt_nn (by omega), ?_⟩)
      try (first | (show _ ≤ _; omega) | (show _ < _; omega))
      refine (mofE M4 (6 + (r : Int)) X4.2.2 (by omega) (by omega)).eq ?_
      rw [show (30 * (t : Int) + (6 + (r : Int))).toNat = 30 * t + 6 + r by omega, ew]
      try simp (maxSteps := 2000000) only [↓reduceIte, wp_eq, wpd_eq, kont_eq, STP1, STP2, STP3, STP4, STP5, konM_eq, AMK, CZ, Option.map, List.getElem?_cons_zero, List.getElem?_cons_succ, List.mem_cons, List.not_mem_nil, if_false, if_true, Nat.reduceAdd, Nat.reduceLT, Nat.reduceLeDiff, Nat.reduceEqDiff, true_and, and_true, List.length_nil, List.length_cons, or_true, true_or, or_false, false_or, Option.some.injEq, Sum.inl.injEq, Sum.inr.injEq, exists_eq_left', exists_eq_left, Int.reduceLE, Int.reduceLT, Int.reduceNeg, Int.reduceAdd, Int.reduceMul, Int.reduceSub, Int.reduceToNat, inR, Nat.zero_ne_one, false_and, Nat.succ_ne_zero, reduceCtorEq, false_implies, true_implies, not_false_eq_true, not_true_eq_false, Int.reduceEq, KRE, C_Model_tellText, FM]
      repeat (first | refine ⟨by omega, ?_⟩ | refine ⟨fun _ _ => okt_nn (by omega), ?_⟩)
      try (first | (show _ ≤ _; omega) | (show _ < _; omega))
      refine (saysN_tx X4 (by omega) (by omega) (by omega)).mono (fun M5 X5 => ?_)
      have d5 := (dgW_len ((T t).1 r)).2
      try simp (maxSteps := 2000000) only [↓reduceIte, wp_eq, wpd_eq, kont_eq, STP1, STP2, STP3, STP4, STP5, konM_eq, AMK, CZ, Option.map, List.getElem?_cons_zero, List.getElem?_cons_succ, List.mem_cons, List.not_mem_nil, if_false, if_true, Nat.reduceAdd, Nat.reduceLT, Nat.reduceLeDiff, Nat.reduceEqDiff, true_and, and_true, List.length_nil, List.length_cons, or_true, true_or, or_false, false_or, Option.some.injEq, Sum.inl.injEq, Sum.inr.injEq, exists_eq_left', exists_eq_left, Int.reduceLE, Int.reduceLT, Int.reduceNeg, Int.reduceAdd, Int.reduceMul, Int.reduceSub, Int.reduceToNat, inR, Nat.zero_ne_one, false_and, Nat.succ_ne_zero, reduceCtorEq, false_implies, true_implies, not_false_eq_true, not_true_eq_false, Int.reduceEq, KRE, C_Model_tellText, FM]
      repeat (first | refine ⟨by omega, ?_⟩ | refine ⟨fun _ _ => okt_nn (by omega), ?_⟩)
      try (first | (show _ ≤ _; omega) | (show _ < _; omega))
      refine (mofE M5 5 X5.2.2 (by omega) (by omega)).eq ?_
      rw [show (30 * (t : Int) + 5).toNat = 30 * t + 5 by omega]
      have bt := bit_testI (M 158 (30 * t + 5)) (k := (r : Int)) (by omega) (by omega)
      rw [show ((r : Int)).toNat = r by omega] at bt
      cases cb : btI (M 158 (30 * t + 5)) r with
      | true =>
        rw [cb, if_pos rfl] at bt
        rw [cb, if_pos rfl] at ed
        try simp (maxSteps := 2000000) only [↓reduceIte, wp_eq, wpd_eq, kont_eq, STP1, STP2, STP3, STP4, STP5, konM_eq, AMK, CZ, Option.map, List.getElem?_cons_zero, List.getElem?_cons_succ, List.mem_cons, List.not_mem_nil, if_false, if_true, Nat.reduceAdd, Nat.reduceLT, Nat.reduceLeDiff, Nat.reduceEqDiff, true_and, and_true, List.length_nil, List.length_cons, or_true, true_or, or_false, false_or, Option.some.injEq, Sum.inl.injEq, Sum.inr.injEq, exists_eq_left', exists_eq_left, Int.reduceLE, Int.reduceLT, Int.reduceNeg, Int.reduceAdd, Int.reduceMul, Int.reduceSub, Int.reduceToNat, inR, Nat.zero_ne_one, false_and, Nat.succ_ne_zero, reduceCtorEq, false_implies, true_implies, not_false_eq_true, not_true_eq_false, Int.reduceEq, KRE, C_Model_tellText, FM, bt]
        repeat (first | refine ⟨by omega, ?_⟩ | refine ⟨fun _ _ => okt_nn (by omega), ?_⟩)
        try (first | (show _ ≤ _; omega) | (show _ < _; omega))
        refine (says_tx (c := 63) X5 (by simp only [List.length_append, List.length_cons]; omega)).mono (fun M6 X6 => ?_)
        have K4 := K3 [some (.inr 154), some (.inl (t : Int)), some (.inl ((r + 1 : Nat) : Int))] M6 ⟨by
          rw [ed, if_neg (by omega)]
          simpa [List.append_assoc] using X6, rfl⟩
        rw [show ((r + 1 : Nat) : Int) = (r : Int) + 1 by omega] at K4
        try simp (maxSteps := 2000000) only [↓reduceIte, wp_eq, wpd_eq, kont_eq, STP1, STP2, STP3, STP4, STP5, konM_eq, AMK, CZ, Option.map, List.getElem?_cons_zero, List.getElem?_cons_succ, List.mem_cons, List.not_mem_nil, if_false, if_true, Nat.reduceAdd, Nat.reduceLT, Nat.reduceLeDiff, Nat.reduceEqDiff, true_and, and_true, List.length_nil, List.length_cons, or_true, true_or, or_false, false_or, Option.some.injEq, Sum.inl.injEq, Sum.inr.injEq, exists_eq_left', exists_eq_left, Int.reduceLE, Int.reduceLT, Int.reduceNeg, Int.reduceAdd, Int.reduceMul, Int.reduceSub, Int.reduceToNat, inR, Nat.zero_ne_one, false_and, Nat.succ_ne_zero, reduceCtorEq, false_implies, true_implies, not_false_eq_true, not_true_eq_false, Int.reduceEq, KRE, C_Model_tellText, FM]
        first | exact K4 | exact ⟨rfl, K4⟩ | exact ⟨by simp, K4⟩ | exact ⟨by omega, K4⟩ | exact ⟨by simp, rfl, K4⟩ | exact ⟨by omega, rfl, K4⟩ | exact ⟨by simp, by simp, K4⟩ | exact ⟨by omega, by simp, K4⟩ | (simp; first | exact K4 | exact ⟨by omega, K4⟩)
      | false =>
        rw [cb, if_neg (by decide)] at bt
        rw [cb, if_neg (by decide)] at ed
        have K4 := K3 [some (.inr 154), some (.inl (t : Int)), some (.inl ((r + 1 : Nat) : Int))] M5 ⟨by
          rw [ed, if_pos rfl]
          simpa [List.append_assoc] using X5, rfl⟩
        rw [show ((r + 1 : Nat) : Int) = (r : Int) + 1 by omega] at K4
        try simp (maxSteps := 2000000) only [↓reduceIte, wp_eq, wpd_eq, kont_eq, STP1, STP2, STP3, STP4, STP5, konM_eq, AMK, CZ, Option.map, List.getElem?_cons_zero, List.getElem?_cons_succ, List.mem_cons, List.not_mem_nil, if_false, if_true, Nat.reduceAdd, Nat.reduceLT, Nat.reduceLeDiff, Nat.reduceEqDiff, true_and, and_true, List.length_nil, List.length_cons, or_true, true_or, or_false, false_or, Option.some.injEq, Sum.inl.injEq, Sum.inr.injEq, exists_eq_left', exists_eq_left, Int.reduceLE, Int.reduceLT, Int.reduceNeg, Int.reduceAdd, Int.reduceMul, Int.reduceSub, Int.reduceToNat, inR, Nat.zero_ne_one, false_and, Nat.succ_ne_zero, reduceCtorEq, false_implies, true_implies, not_false_eq_true, not_true_eq_false, Int.reduceEq, KRE, C_Model_tellText, FM, bt]
        repeat (first | refine ⟨by omega, ?_⟩ | refine ⟨fun _ _ => okt_nn (by omega), ?_⟩)
        try (first | (show _ ≤ _; omega) | (show _ < _; omega))
        first | exact K4 | exact ⟨rfl, K4⟩ | exact ⟨by simp, K4⟩ | exact ⟨by omega, K4⟩ | exact ⟨by simp, rfl, K4⟩ | exact ⟨by omega, rfl, K4⟩ | exact ⟨by simp, by simp, K4⟩ | exact ⟨by omega, by simp, K4⟩ | (simp; first | exact K4 | exact ⟨by omega, K4⟩)
  · have c' := eq_false ck
    have hk6 : k < 6 := by omega
    refine wpm_of (cuts := [7, 62]) (by decide) 60 _ _ _ _ ?_
    simp (maxSteps := 2000000) only [↓reduceIte, wp_eq, wpd_eq, kont_eq, STP1, STP2, STP3, STP4, STP5, konM_eq, AMK, CZ, Option.map, List.getElem?_cons_zero, List.getElem?_cons_succ, List.mem_cons, List.not_mem_nil, if_false, if_true, Nat.reduceAdd, Nat.reduceLT, Nat.reduceLeDiff, Nat.reduceEqDiff, true_and, and_true, List.length_nil, List.length_cons, or_true, true_or, or_false, false_or, Option.some.injEq, Sum.inl.injEq, Sum.inr.injEq, exists_eq_left', exists_eq_left, Int.reduceLE, Int.reduceLT, Int.reduceNeg, Int.reduceAdd, Int.reduceMul, Int.reduceSub, Int.reduceToNat, inR, Nat.zero_ne_one, false_and, Nat.succ_ne_zero, reduceCtorEq, false_implies, true_implies, not_false_eq_true, not_true_eq_false, Int.reduceEq, KRE, C_Model_tellText, FM, hr, e191]
    repeat (first | refine ⟨by omega, ?_⟩ | refine ⟨fun _ _ => okt_nn (by omega), ?_⟩)
    try (first | (show _ ≤ _; omega) | (show _ < _; omega))
    refine (SL M1).eq ?_
    try simp (maxSteps := 2000000) only [↓reduceIte, wp_eq, wpd_eq, kont_eq, STP1, STP2, STP3, STP4, STP5, konM_eq, AMK, CZ, Option.map, List.getElem?_cons_zero, List.getElem?_cons_succ, List.mem_cons, List.not_mem_nil, if_false, if_true, Nat.reduceAdd, Nat.reduceLT, Nat.reduceLeDiff, Nat.reduceEqDiff, true_and, and_true, List.length_nil, List.length_cons, or_true, true_or, or_false, false_or, Option.some.injEq, Sum.inl.injEq, Sum.inr.injEq, exists_eq_left', exists_eq_left, Int.reduceLE, Int.reduceLT, Int.reduceNeg, Int.reduceAdd, Int.reduceMul, Int.reduceSub, Int.reduceToNat, inR, Nat.zero_ne_one, false_and, Nat.succ_ne_zero, reduceCtorEq, false_implies, true_implies, not_false_eq_true, not_true_eq_false, Int.reduceEq, KRE, C_Model_tellText, FM, c', hr, e191]
    repeat (first | refine ⟨by omega, ?_⟩ | refine ⟨fun _ _ => okt_nn (by omega), ?_⟩)
    try (first | (show _ ≤ _; omega) | (show _ < _; omega))
    refine (SC k hk6 M1).eq ?_
    try simp (maxSteps := 2000000) only [↓reduceIte, wp_eq, wpd_eq, kont_eq, STP1, STP2, STP3, STP4, STP5, konM_eq, AMK, CZ, Option.map, List.getElem?_cons_zero, List.getElem?_cons_succ, List.mem_cons, List.not_mem_nil, if_false, if_true, Nat.reduceAdd, Nat.reduceLT, Nat.reduceLeDiff, Nat.reduceEqDiff, true_and, and_true, List.length_nil, List.length_cons, or_true, true_or, or_false, false_or, Option.some.injEq, Sum.inl.injEq, Sum.inr.injEq, exists_eq_left', exists_eq_left, Int.reduceLE, Int.reduceLT, Int.reduceNeg, Int.reduceAdd, Int.reduceMul, Int.reduceSub, Int.reduceToNat, inR, Nat.zero_ne_one, false_and, Nat.succ_ne_zero, reduceCtorEq, false_implies, true_implies, not_false_eq_true, not_true_eq_false, Int.reduceEq, KRE, C_Model_tellText, FM]
    repeat (first | refine ⟨by omega, ?_⟩ | refine ⟨fun _ _ => okt_nn (by omega), ?_⟩)
    try (first | (show _ ≤ _; omega) | (show _ < _; omega))
    refine (says_tx (c := strCh 0 k) X1 (by rw [List.length_take]; omega)).mono (fun M2 X2 => ?_)
    have K4 := K hk6 [some (.inr 154), some (.inl (t : Int)), some (.inl ((k + 1 : Nat) : Int))] M2 ⟨by rw [tW0_take k hk6]; exact X2, rfl⟩
    rw [show ((k + 1 : Nat) : Int) = (k : Int) + 1 by omega] at K4
    try simp (maxSteps := 2000000) only [↓reduceIte, wp_eq, wpd_eq, kont_eq, STP1, STP2, STP3, STP4, STP5, konM_eq, AMK, CZ, Option.map, List.getElem?_cons_zero, List.getElem?_cons_succ, List.mem_cons, List.not_mem_nil, if_false, if_true, Nat.reduceAdd, Nat.reduceLT, Nat.reduceLeDiff, Nat.reduceEqDiff, true_and, and_true, List.length_nil, List.length_cons, or_true, true_or, or_false, false_or, Option.some.injEq, Sum.inl.injEq, Sum.inr.injEq, exists_eq_left', exists_eq_left, Int.reduceLE, Int.reduceLT, Int.reduceNeg, Int.reduceAdd, Int.reduceMul, Int.reduceSub, Int.reduceToNat, inR, Nat.zero_ne_one, false_and, Nat.succ_ne_zero, reduceCtorEq, false_implies, true_implies, not_false_eq_true, not_true_eq_false, Int.reduceEq, KRE, C_Model_tellText, FM]
    first | exact K4 | exact ⟨rfl, K4⟩ | exact ⟨by simp, K4⟩ | exact ⟨by omega, K4⟩ | exact ⟨by simp, rfl, K4⟩ | exact ⟨by omega, rfl, K4⟩ | exact ⟨by simp, by simp, K4⟩ | exact ⟨by omega, by simp, K4⟩ | (simp; first | exact K4 | exact ⟨by omega, K4⟩)
/-- what told answers of the text w -/
def tdA (w : List Int) (i : Int) : Int := if i = -1 then w.length else w.getD i.toNat 0
def tdM (M M' : Mm) : Prop := ∀ b j, ¬ (b = 154 ∧ (j = 1 ∨ j = 68) ∨ b = 185) → M' b j = M b j
set_option maxHeartbeats 600000 in
set_option maxRecDepth 20000 in
theorem Mtold_ok {t : Nat} {i : Int} (h : mdl M n T Y lap bnd mrg) (ht : t < n) (hi : i = -1 ∨ 0 ≤ i ∧ i < (txW (M 158 (30 * t + 1)) (M 158 (30 * t + 2)) (T t)).length) (hiR : inR i) : CallI m_Model_told [.inr 154, .inl (t : Int), .inl i] M (fun x M' => x = tdA (txW (M 158 (30 * t + 1)) (M 158 (30 * t + 2)) (T t)) i ∧ rsM M 0 M') := by
  have h0 : mdl (mset M 154 1 0) n T Y lap bnd mrg := mdl_fr h scr_0 scr_mdl
  have TT := tellText_ok h0 ht
  have e1 : mset M 154 1 0 158 (30 * t + 1) = M 158 (30 * t + 1) := by simp [mset]
  have e2 : mset M 154 1 0 158 (30 * t + 2) = M 158 (30 * t + 2) := by simp [mset]
  rw [e1, e2] at TT
  have hw := txW_len (le := M 158 (30 * t + 1)) (mo := M 158 (30 * t + 2)) (A := T t) (mdl_t h ht).2.2.2.1.1.2
  generalize txW (M 158 (30 * t + 1)) (M 158 (30 * t + 2)) (T t) = W at *
  have fin : ∀ M', txM (mset M 154 1 0) M' W → rsM M 0 M' := fun M' X => by
    refine ⟨?_, fun b j z => ?_⟩
    · have := X.2.2 154 1 (fun y => by unfold txP at y; omega)
      rw [this]; simp [mset]
    · have z' : ¬ txP b j ∧ ¬ (b = 154 ∧ j = 1) := by
        unfold scrM at z
        unfold txP
        constructor <;> intro y <;> apply z <;> omega
      rw [X.2.2 b j z'.1]
      show (if b = 154 ∧ j = 1 then _ else M b j) = M b j
      rw [if_neg z'.2]
  refine callP_of (by decide) (by decide) (Nat.le_of_ble_eq_true rfl) (wpm_of (cuts := []) (by decide) 60 _ _ _ _ ?_)
  rw [show lM m_Model_told = 3 from rfl]
  simp (maxSteps := 2000000) only [↓reduceIte, wp_eq, wpd_eq, kont_eq, STP1, STP2, STP3, STP4, STP5, konM_eq, AMK, CZ, Option.map, List.getElem?_cons_zero, List.getElem?_cons_succ, List.mem_cons, List.not_mem_nil, if_false, if_true, Nat.reduceAdd, Nat.reduceLT, Nat.reduceLeDiff, Nat.reduceEqDiff, true_and, and_true, List.length_nil, List.length_cons, or_true, true_or, or_false, false_or, Option.some.injEq, Sum.inl.injEq, Sum.inr.injEq, exists_eq_left', exists_eq_left, Int.reduceLE, Int.reduceLT, Int.reduceNeg, Int.reduceAdd, Int.reduceMul, Int.reduceSub, Int.reduceToNat, inR, Nat.zero_ne_one, false_and, Nat.succ_ne_zero, reduceCtorEq, false_implies, true_implies, not_false_eq_true, not_true_eq_false, Int.reduceEq, KRE, C_Model_told, FM]
  repeat (first | refine ⟨by omega, ?_⟩ | refine ⟨fun _ _ => okt_nn (by omega), ?_⟩)
  try (first | (show _ ≤ _; omega) | (show _ < _; omega))
  refine (isTimber_y h0 ht).eq ?_
  try simp (maxSteps := 2000000) only [↓reduceIte, wp_eq, wpd_eq, kont_eq, STP1, STP2, STP3, STP4, STP5, konM_eq, AMK, CZ, Option.map, List.getElem?_cons_zero, List.getElem?_cons_succ, List.mem_cons, List.not_mem_nil, if_false, if_true, Nat.reduceAdd, Nat.reduceLT, Nat.reduceLeDiff, Nat.reduceEqDiff, true_and, and_true, List.length_nil, List.length_cons, or_true, true_or, or_false, false_or, Option.some.injEq, Sum.inl.injEq, Sum.inr.injEq, exists_eq_left', exists_eq_left, Int.reduceLE, Int.reduceLT, Int.reduceNeg, Int.reduceAdd, Int.reduceMul, Int.reduceSub, Int.reduceToNat, inR, Nat.zero_ne_one, false_and, Nat.succ_ne_zero, reduceCtorEq, false_implies, true_implies, not_false_eq_true, not_true_eq_false, Int.reduceEq, KRE, C_Model_told, FM]
  repeat (first | refine ⟨by omega, ?_⟩ | refine ⟨fun _ _ => okt_nn (by omega), ?_⟩)
  try (first | (show _ ≤ _; omega) | (show _ < _; omega))
  refine TT.mono (fun M1 X1 => ?_)
  have F1 := fin M1 X1
  have x68 := X1.1
  by_cases ci : i = -1
  · have c' := eq_true ci
    try simp (maxSteps := 2000000) only [↓reduceIte, wp_eq, wpd_eq, kont_eq, STP1, STP2, STP3, STP4, STP5, konM_eq, AMK, CZ, Option.map, List.getElem?_cons_zero, List.getElem?_cons_succ, List.mem_cons, List.not_mem_nil, if_false, if_true, Nat.reduceAdd, Nat.reduceLT, Nat.reduceLeDiff, Nat.reduceEqDiff, true_and, and_true, List.length_nil, List.length_cons, or_true, true_or, or_false, false_or, Option.some.injEq, Sum.inl.injEq, Sum.inr.injEq, exists_eq_left', exists_eq_left, Int.reduceLE, Int.reduceLT, Int.reduceNeg, Int.reduceAdd, Int.reduceMul, Int.reduceSub, Int.reduceToNat, inR, Nat.zero_ne_one, false_and, Nat.succ_ne_zero, reduceCtorEq, false_implies, true_implies, not_false_eq_true, not_true_eq_false, Int.reduceEq, KRE, C_Model_told, FM, c', x68]
    repeat (first | refine ⟨by omega, ?_⟩ | refine ⟨fun _ _ => okt_nn (by omega), ?_⟩)
    try (first | (show _ ≤ _; omega) | (show _ < _; omega))
    all_goals first | exact ⟨by unfold tdA; rw [if_pos ci], F1⟩ | exact F1 | skip
  · have c' := eq_false ci
    have i2 : 0 ≤ i ∧ i < W.length := by omega
    have hiR' := hiR
    simp only [inR] at hiR'
    have II := Model_isIn_ok (M := M1) (v := i) (a := 0) (b := (W.length : Int) - 1) hiR ⟨by omega, by omega⟩ ⟨by omega, by omega⟩
    rw [if_pos ⟨by omega, by omega⟩] at II
    have e185 : M1 185 i.toNat = W.getD i.toNat 0 := X1.2.1 _ (by omega)
    have b1 := eq_true (show 0 ≤ i by omega)
    have b2 := eq_true (show i < ((200 : Nat) : Int) by omega)
    try simp (maxSteps := 2000000) only [↓reduceIte, wp_eq, wpd_eq, kont_eq, STP1, STP2, STP3, STP4, STP5, konM_eq, AMK, CZ, Option.map, List.getElem?_cons_zero, List.getElem?_cons_succ, List.mem_cons, List.not_mem_nil, if_false, if_true, Nat.reduceAdd, Nat.reduceLT, Nat.reduceLeDiff, Nat.reduceEqDiff, true_and, and_true, List.length_nil, List.length_cons, or_true, true_or, or_false, false_or, Option.some.injEq, Sum.inl.injEq, Sum.inr.injEq, exists_eq_left', exists_eq_left, Int.reduceLE, Int.reduceLT, Int.reduceNeg, Int.reduceAdd, Int.reduceMul, Int.reduceSub, Int.reduceToNat, inR, Nat.zero_ne_one, false_and, Nat.succ_ne_zero, reduceCtorEq, false_implies, true_implies, not_false_eq_true, not_true_eq_false, Int.reduceEq, KRE, C_Model_told, FM, c', x68]
    repeat (first | refine ⟨by omega, ?_⟩ | refine ⟨fun _ _ => okt_nn (by omega), ?_⟩)
    try (first | (show _ ≤ _; omega) | (show _ < _; omega))
    refine II.eq ?_
    try simp (maxSteps := 2000000) only [↓reduceIte, wp_eq, wpd_eq, kont_eq, STP1, STP2, STP3, STP4, STP5, konM_eq, AMK, CZ, Option.map, List.getElem?_cons_zero, List.getElem?_cons_succ, List.mem_cons, List.not_mem_nil, if_false, if_true, Nat.reduceAdd, Nat.reduceLT, Nat.reduceLeDiff, Nat.reduceEqDiff, true_and, and_true, List.length_nil, List.length_cons, or_true, true_or, or_false, false_or, Option.some.injEq, Sum.inl.injEq, Sum.inr.injEq, exists_eq_left', exists_eq_left, Int.reduceLE, Int.reduceLT, Int.reduceNeg, Int.reduceAdd, Int.reduceMul, Int.reduceSub, Int.reduceToNat, inR, Nat.zero_ne_one, false_and, Nat.succ_ne_zero, reduceCtorEq, false_implies, true_implies, not_false_eq_true, not_true_eq_false, Int.reduceEq, KRE, C_Model_told, FM, b1, b2]
    repeat (first | refine ⟨by omega, ?_⟩ | refine ⟨fun _ _ => okt_nn (by omega), ?_⟩)
    try (first | (show _ ≤ _; omega) | (show _ < _; omega))
    all_goals first | exact ⟨by unfold tdA; rw [if_neg ci]; exact e185, F1⟩ | skip
set_option maxHeartbeats 600000 in
set_option maxRecDepth 20000 in
theorem Mtold_x1 {t i : Int} (h : mdl M n T Y lap bnd mrg) (htR : inR t) (ht : ¬ (0 ≤ t ∧ t < n)) : CallI m_Model_told [.inr 154, .inl t, .inl i] M (fun _ M' => rsM M 1 M') := by
  have h0 : mdl (mset M 154 1 0) n T Y lap bnd mrg := mdl_fr h scr_0 scr_mdl
  refine callP_of (by decide) (by decide) (Nat.le_of_ble_eq_true rfl) (wpm_of (cuts := []) (by decide) 60 _ _ _ _ ?_)
  rw [show lM m_Model_told = 3 from rfl]
  simp (maxSteps := 2000000) only [↓reduceIte, wp_eq, wpd_eq, kont_eq, STP1, STP2, STP3, STP4, STP5, konM_eq, AMK, CZ, Option.map, List.getElem?_cons_zero, List.getElem?_cons_succ, List.mem_cons, List.not_mem_nil, if_false, if_true, Nat.reduceAdd, Nat.reduceLT, Nat.reduceLeDiff, Nat.reduceEqDiff, true_and, and_true, List.length_nil, List.length_cons, or_true, true_or, or_false, false_or, Option.some.injEq, Sum.inl.injEq, Sum.inr.injEq, exists_eq_left', exists_eq_left, Int.reduceLE, Int.reduceLT, Int.reduceNeg, Int.reduceAdd, Int.reduceMul, Int.reduceSub, Int.reduceToNat, inR, Nat.zero_ne_one, false_and, Nat.succ_ne_zero, reduceCtorEq, false_implies, true_implies, not_false_eq_true, not_true_eq_false, Int.reduceEq, KRE, C_Model_told, FM]
  repeat (first | refine ⟨by omega, ?_⟩ | refine ⟨fun _ _ => okt_nn (by omega), ?_⟩)
  try (first | (show _ ≤ _; omega) | (show _ < _; omega))
  refine (isTimber_n h0 htR ht).eq ?_
  try simp (maxSteps := 2000000) only [↓reduceIte, wp_eq, wpd_eq, kont_eq, STP1, STP2, STP3, STP4, STP5, konM_eq, AMK, CZ, Option.map, List.getElem?_cons_zero, List.getElem?_cons_succ, List.mem_cons, List.not_mem_nil, if_false, if_true, Nat.reduceAdd, Nat.reduceLT, Nat.reduceLeDiff, Nat.reduceEqDiff, true_and, and_true, List.length_nil, List.length_cons, or_true, true_or, or_false, false_or, Option.some.injEq, Sum.inl.injEq, Sum.inr.injEq, exists_eq_left', exists_eq_left, Int.reduceLE, Int.reduceLT, Int.reduceNeg, Int.reduceAdd, Int.reduceMul, Int.reduceSub, Int.reduceToNat, inR, Nat.zero_ne_one, false_and, Nat.succ_ne_zero, reduceCtorEq, false_implies, true_implies, not_false_eq_true, not_true_eq_false, Int.reduceEq, KRE, C_Model_told, FM]
  repeat (first | refine ⟨by omega, ?_⟩ | refine ⟨fun _ _ => okt_nn (by omega), ?_⟩)
  try (first | (show _ ≤ _; omega) | (show _ < _; omega))
  refine (Model_fail_ok (k := 1)).eq ?_
  try simp (maxSteps := 2000000) only [↓reduceIte, wp_eq, wpd_eq, kont_eq, STP1, STP2, STP3, STP4, STP5, konM_eq, AMK, CZ, Option.map, List.getElem?_cons_zero, List.getElem?_cons_succ, List.mem_cons, List.not_mem_nil, if_false, if_true, Nat.reduceAdd, Nat.reduceLT, Nat.reduceLeDiff, Nat.reduceEqDiff, true_and, and_true, List.length_nil, List.length_cons, or_true, true_or, or_false, false_or, Option.some.injEq, Sum.inl.injEq, Sum.inr.injEq, exists_eq_left', exists_eq_left, Int.reduceLE, Int.reduceLT, Int.reduceNeg, Int.reduceAdd, Int.reduceMul, Int.reduceSub, Int.reduceToNat, inR, Nat.zero_ne_one, false_and, Nat.succ_ne_zero, reduceCtorEq, false_implies, true_implies, not_false_eq_true, not_true_eq_false, Int.reduceEq, KRE, C_Model_told, FM]
  refine ⟨by simp [mset], fun b j z => ?_⟩
  have z' : ¬ (b = 154 ∧ j = 1) := by unfold scrM at z; omega
  simp only [mset]
  rw [if_neg z', if_neg z']
set_option maxHeartbeats 600000 in
set_option maxRecDepth 20000 in
theorem Mtold_x2 {t : Nat} {i : Int} (h : mdl M n T Y lap bnd mrg) (ht : t < n) (hi : ¬ (i = -1 ∨ 0 ≤ i ∧ i < (txW (M 158 (30 * t + 1)) (M 158 (30 * t + 2)) (T t)).length)) (hiR : inR i) : CallI m_Model_told [.inr 154, .inl (t : Int), .inl i] M (fun _ M' => rsM M 1 M') := by
  have h0 : mdl (mset M 154 1 0) n T Y lap bnd mrg := mdl_fr h scr_0 scr_mdl
  have TT := tellText_ok h0 ht
  have e1 : mset M 154 1 0 158 (30 * t + 1) = M 158 (30 * t + 1) := by simp [mset]
  have e2 : mset M 154 1 0 158 (30 * t + 2) = M 158 (30 * t + 2) := by simp [mset]
  rw [e1, e2] at TT
  have hw := txW_len (le := M 158 (30 * t + 1)) (mo := M 158 (30 * t + 2)) (A := T t) (mdl_t h ht).2.2.2.1.1.2
  generalize txW (M 158 (30 * t + 1)) (M 158 (30 * t + 2)) (T t) = W at *
  refine callP_of (by decide) (by decide) (Nat.le_of_ble_eq_true rfl) (wpm_of (cuts := []) (by decide) 60 _ _ _ _ ?_)
  rw [show lM m_Model_told = 3 from rfl]
  simp (maxSteps := 2000000) only [↓reduceIte, wp_eq, wpd_eq, kont_eq, STP1, STP2, STP3, STP4, STP5, konM_eq, AMK, CZ, Option.map, List.getElem?_cons_zero, List.getElem?_cons_succ, List.mem_cons, List.not_mem_nil, if_false, if_true, Nat.reduceAdd, Nat.reduceLT, Nat.reduceLeDiff, Nat.reduceEqDiff, true_and, and_true, List.length_nil, List.length_cons, or_true, true_or, or_false, false_or, Option.some.injEq, Sum.inl.injEq, Sum.inr.injEq, exists_eq_left', exists_eq_left, Int.reduceLE, Int.reduceLT, Int.reduceNeg, Int.reduceAdd, Int.reduceMul, Int.reduceSub, Int.reduceToNat, inR, Nat.zero_ne_one, false_and, Nat.succ_ne_zero, reduceCtorEq, false_implies, true_implies, not_false_eq_true, not_true_eq_false, Int.reduceEq, KRE, C_Model_told, FM]
  repeat (first | refine ⟨by omega, ?_⟩ | refine ⟨fun _ _ => okt_nn (by omega), ?_⟩)
  try (first | (show _ ≤ _; omega) | (show _ < _; omega))
  refine (isTimber_y h0 ht).eq ?_
  try simp (maxSteps := 2000000) only [↓reduceIte, wp_eq, wpd_eq, kont_eq, STP1, STP2, STP3, STP4, STP5, konM_eq, AMK, CZ, Option.map, List.getElem?_cons_zero, List.getElem?_cons_succ, List.mem_cons, List.not_mem_nil, if_false, if_true, Nat.reduceAdd, Nat.reduceLT, Nat.reduceLeDiff, Nat.reduceEqDiff, true_and, and_true, List.length_nil, List.length_cons, or_true, true_or, or_false, false_or, Option.some.injEq, Sum.inl.injEq, Sum.inr.injEq, exists_eq_left', exists_eq_left, Int.reduceLE, Int.reduceLT, Int.reduceNeg, Int.reduceAdd, Int.reduceMul, Int.reduceSub, Int.reduceToNat, inR, Nat.zero_ne_one, false_and, Nat.succ_ne_zero, reduceCtorEq, false_implies, true_implies, not_false_eq_true, not_true_eq_false, Int.reduceEq, KRE, C_Model_told, FM]
  repeat (first | refine ⟨by omega, ?_⟩ | refine ⟨fun _ _ => okt_nn (by omega), ?_⟩)
  try (first | (show _ ≤ _; omega) | (show _ < _; omega))
  refine TT.mono (fun M1 X1 => ?_)
  have x68 := X1.1
  have c' := eq_false (show ¬ i = -1 by omega)
  have hiR' := hiR
  simp only [inR] at hiR'
  have II := Model_isIn_ok (M := M1) (v := i) (a := 0) (b := (W.length : Int) - 1) hiR ⟨by omega, by omega⟩ ⟨by omega, by omega⟩
  rw [if_neg (by omega)] at II
  try simp (maxSteps := 2000000) only [↓reduceIte, wp_eq, wpd_eq, kont_eq, STP1, STP2, STP3, STP4, STP5, konM_eq, AMK, CZ, Option.map, List.getElem?_cons_zero, List.getElem?_cons_succ, List.mem_cons, List.not_mem_nil, if_false, if_true, Nat.reduceAdd, Nat.reduceLT, Nat.reduceLeDiff, Nat.reduceEqDiff, true_and, and_true, List.length_nil, List.length_cons, or_true, true_or, or_false, false_or, Option.some.injEq, Sum.inl.injEq, Sum.inr.injEq, exists_eq_left', exists_eq_left, Int.reduceLE, Int.reduceLT, Int.reduceNeg, Int.reduceAdd, Int.reduceMul, Int.reduceSub, Int.reduceToNat, inR, Nat.zero_ne_one, false_and, Nat.succ_ne_zero, reduceCtorEq, false_implies, true_implies, not_false_eq_true, not_true_eq_false, Int.reduceEq, KRE, C_Model_told, FM, c', x68]
  repeat (first | refine ⟨by omega, ?_⟩ | refine ⟨fun _ _ => okt_nn (by omega), ?_⟩)
  try (first | (show _ ≤ _; omega) | (show _ < _; omega))
  refine II.eq ?_
  try simp (maxSteps := 2000000) only [↓reduceIte, wp_eq, wpd_eq, kont_eq, STP1, STP2, STP3, STP4, STP5, konM_eq, AMK, CZ, Option.map, List.getElem?_cons_zero, List.getElem?_cons_succ, List.mem_cons, List.not_mem_nil, if_false, if_true, Nat.reduceAdd, Nat.reduceLT, Nat.reduceLeDiff, Nat.reduceEqDiff, true_and, and_true, List.length_nil, List.length_cons, or_true, true_or, or_false, false_or, Option.some.injEq, Sum.inl.injEq, Sum.inr.injEq, exists_eq_left', exists_eq_left, Int.reduceLE, Int.reduceLT, Int.reduceNeg, Int.reduceAdd, Int.reduceMul, Int.reduceSub, Int.reduceToNat, inR, Nat.zero_ne_one, false_and, Nat.succ_ne_zero, reduceCtorEq, false_implies, true_implies, not_false_eq_true, not_true_eq_false, Int.reduceEq, KRE, C_Model_told, FM]
  repeat (first | refine ⟨by omega, ?_⟩ | refine ⟨fun _ _ => okt_nn (by omega), ?_⟩)
  try (first | (show _ ≤ _; omega) | (show _ < _; omega))
  refine (Model_fail_ok (k := 1)).eq ?_
  try simp (maxSteps := 2000000) only [↓reduceIte, wp_eq, wpd_eq, kont_eq, STP1, STP2, STP3, STP4, STP5, konM_eq, AMK, CZ, Option.map, List.getElem?_cons_zero, List.getElem?_cons_succ, List.mem_cons, List.not_mem_nil, if_false, if_true, Nat.reduceAdd, Nat.reduceLT, Nat.reduceLeDiff, Nat.reduceEqDiff, true_and, and_true, List.length_nil, List.length_cons, or_true, true_or, or_false, false_or, Option.some.injEq, Sum.inl.injEq, Sum.inr.injEq, exists_eq_left', exists_eq_left, Int.reduceLE, Int.reduceLT, Int.reduceNeg, Int.reduceAdd, Int.reduceMul, Int.reduceSub, Int.reduceToNat, inR, Nat.zero_ne_one, false_and, Nat.succ_ne_zero, reduceCtorEq, false_implies, true_implies, not_false_eq_true, not_true_eq_false, Int.reduceEq, KRE, C_Model_told, FM]
  refine ⟨by simp [mset], fun b j z => ?_⟩
  have z' : ¬ txP b j ∧ ¬ (b = 154 ∧ j = 1) := by
    unfold scrM at z
    unfold txP
    constructor <;> intro y <;> apply z <;> omega
  show (if b = 154 ∧ j = 1 then _ else M1 b j) = M b j
  rw [if_neg z'.2, X1.2.2 b j z'.1]
  show (if b = 154 ∧ j = 1 then _ else M b j) = M b j
  rw [if_neg z'.2]
end MT

/-! TOLD, 2: the class's: a world with the memory, out and the builder. -/
def LHX (D : va_G) (tA : Nat → ClassId) (n0 o bs : Nat) (adr : Nat → Nat) (M : Mm) (f : Nat → Int64) (x : BS) (H : Heap) : Prop :=
  (n0 ≤ H.size ∧ va_P D clA (wsA tA adr M) H ∧ va_at D clA (o, .inl (tA 5, (1, .inr (.inl f)))) H) ∧ (n0 ≤ xB x ∧ xB x ≠ o ∧ xB x ≠ bs ∧ ∀ a, a < NN → xB x ≠ adr a) ∧ okX x ∧ va_P D clA (BW tA bs x) H
/-- the builder's text -/
def isTx (x : BS) (w : List Int) : Prop := xN x = w.length ∧ ∀ j, j < w.length → xT x j = w.getD j 0
theorem isTx_app {x x' : BS} {w : List Int} {c : Int} (h : isTx x w) (e : xN x' = xN x + 1 ∧ (∀ j, j < xN x → xT x' j = xT x j) ∧ xT x' (xN x) = c) : isTx x' (w ++ [c]) := by
  obtain ⟨h1, h2⟩ := h
  obtain ⟨e1, e2, e3⟩ := e
  refine ⟨by rw [List.length_append, e1, h1]; rfl, fun j hj => ?_⟩
  have hj' : j < w.length + 1 := by simpa using hj
  rw [getD_app hj']
  by_cases c : j = w.length
  · rw [if_pos c, c, ← h1, e3]
  · rw [if_neg c, e2 j (by omega), h2 j (by omega)]
theorem isTx_num {x x' : BS} {w : List Int} {a : Int} (h : isTx x w) (e : (∀ j, j < xN x → xT x' j = xT x j) ∧ if a ≤ 9 then xN x' = xN x + 1 ∧ xT x' (xN x) = 48 + a else xN x' = xN x + 2 ∧ xT x' (xN x) = 48 + a / 10 ∧ xT x' (xN x + 1) = 48 + a % 10) : isTx x' (w ++ dgW a) := by
  obtain ⟨e2, e⟩ := e
  unfold dgW
  by_cases c : a ≤ 9
  · rw [if_pos c] at e ⊢
    exact isTx_app h ⟨e.1, e2, e.2⟩
  · rw [if_neg c] at e ⊢
    obtain ⟨e1, e3, e4⟩ := e
    obtain ⟨h1, h2⟩ := h
    have g : isTx (xB x', xC x', xN x + 1, xM x', xT x') (w ++ [48 + a / 10]) := isTx_app ⟨h1, h2⟩ ⟨rfl, e2, e3⟩
    have g2 := isTx_app (x' := x') (c := 48 + a % 10) g ⟨e1, fun j hj => rfl, e4⟩
    simpa using g2
theorem isTx_tb {x : BS} (e : xN x = 7 ∧ ∀ j, j < 7 → xT x j = tbW.getD j 0) : isTx x tbW := e
section P2
variable {D : va_G} {tA : Nat → ClassId} {n0 o bs : Nat} {adr adV : Nat → Nat} {M M' : Mm} {f : Nat → Int64} {x x' : BS} {H H1 : Heap}
theorem LHX.to (h : LHX D tA n0 o bs adr M f x H) : LH D tA n0 o bs adr M f H := ⟨h.1.1, h.1.2.1, h.1.2.2, xB x, xC x, xN x, xM x, xT x, h.2.1, h.2.2.1, h.2.2.2 0 _ rfl, h.2.2.2 1 _ rfl⟩
theorem LH.ex (h : LH D tA n0 o bs adr M f H) : ∃ x, LHX D tA n0 o bs adr M f x H := by
  obtain ⟨h1, h2, h3, bb, cap, cnt, ml, T, h4, h5, h6, h7⟩ := h
  refine ⟨(bb, cap, cnt, ml, T), ⟨h1, h2, h3⟩, h4, h5, fun k y hy => ?_⟩
  match k, hy with
  | 0, hy => cases hy; exact h6
  | 1, hy => cases hy; exact h7
theorem x_keep (hm : LM n0 o bs adr) (hh : LHX D tA n0 o bs adr M f x H) (hz : H.size ≤ H1.size) (hk : ∀ q : Nat, q < H.size → ¬ AA adr H.size q → H1[q]? = H[q]?) (hP : va_P D clA (wsA tA adr M') H1) : LHX D tA n0 o bs adr M' f x H1 := by
  obtain ⟨⟨h1, h2, h3⟩, ⟨b1, b2, b3, b4⟩, hc, h4⟩ := hh
  have hn : ∀ q : Nat, q < H.size → (∀ a, a < NN → adr a ≠ q) → ¬ AA adr H.size q := by
    rintro q hq hne (⟨a, ha, rfl⟩ | hge)
    · exact hne a ha rfl
    · omega
  have l3 : o < H.size := h3.lt
  refine ⟨⟨Nat.le_trans h1 hz, hP, h3.kept (hk o l3 (hn o l3 (fun a ha => (hm.2.1 a ha).2.1)))⟩, ⟨b1, b2, b3, b4⟩, hc, fun k y hy => ?_⟩
  have hl := (h4 k y hy).lt
  refine (h4 k y hy).kept (hk _ hl (hn _ hl (fun a ha => ?_)))
  match k, hy with
  | 0, hy => cases hy; exact (hm.2.1 a ha).2.2
  | 1, hy => cases hy; exact fun e => b4 a ha e.symm
/-- behind a call of the builder -/
theorem x_bkeep (hm : LM n0 o bs adr) (hh : LHX D tA n0 o bs adr M f x H) (hz : H.size ≤ H1.size) (hk : ∀ q : Nat, q < H.size → ¬ bA bs (xB x) H.size q → H1[q]? = H[q]?) (hx : okX x') (hP : va_P D clA (BW tA bs x') H1) (hb : bs ≠ xB x' ∧ bA bs (xB x) H.size (xB x')) : LHX D tA n0 o bs adr M f x' H1 := by
  obtain ⟨⟨h1, h2, h3⟩, ⟨b1, b2, b3, b4⟩, hc, h4⟩ := hh
  have l3 : o < H.size := h3.lt
  have hn : ∀ q : Nat, q < H.size → q ≠ bs → q ≠ xB x → ¬ bA bs (xB x) H.size q := by
    rintro q hq n1 n2 (h | h | h)
    · exact n1 h
    · exact n2 h
    · omega
  have wl : ∀ a, a < NN → adr a < H.size := fun a ha => (h2 a _ (wsA_at ha)).lt
  have hB : xB x' = xB x ∨ H.size ≤ xB x' := by
    rcases hb.2 with h | h | h
    · exact absurd h.symm hb.1
    · exact .inl h
    · exact .inr h
  refine ⟨⟨Nat.le_trans h1 hz, h2.kept (fun k q hq => ?_), h3.kept (hk o l3 (hn o l3 hm.1.2.2 (fun e => b2 e.symm)))⟩, ⟨?_, ?_, fun e => hb.1 e.symm, fun a ha => ?_⟩, hx, hP⟩
  · obtain ⟨k1, k2⟩ := ws_el hq
    rw [k2]
    exact hk _ (wl k k1) (hn _ (wl k k1) (hm.2.1 k k1).2.2 (fun e => b4 k k1 e.symm))
  · rcases hB with e | e
    · rw [e]; exact b1
    · omega
  · rcases hB with e | e
    · rw [e]; exact b2
    · omega
  · rcases hB with e | e
    · rw [e]; exact b4 a ha
    · have := wl a ha; omega
end P2
section P3
variable {p : Program} {l : Launch} {e : Env} {R : Room} {s : State} {m : MethodId} {args : Array Value} {below : List Frame} {meth : Method} {c : Code} {Q : State → Prop}
variable {D : va_G} {tA : Nat → ClassId} {n0 o bs : Nat} {adr adV : Nat → Nat} {M : Mm} {f : Nat → Int64} {x : BS} {H : Heap} {locs : List Loc} {cells slots pc : Nat} {ls : Array Slot} {rest st0 : List Value} {nL : Nat} {cc : ByteArray} {own : String}
def LWo (own : String) (idx q : Nat) : Prop := (Cond.methodLink own idx (yM q) ∈ gW ∧ Cond.instanceMethod (yM q) ∈ gW) ∧ (Cond.selects (yM q).cls (yM q) (yM q) ∈ gW ∧ Cond.initialized (yM q).cls ∈ gW) ∧ (parseMethodDescriptor (yM q).desc).map (fun d => d.parameters.length + 1) = some (nM q) ∧ q < mtN
theorem LHX.Wld {U : State} (hm : LM n0 o bs adr) (hs : LSt D tA n0 adr adV U H) (hh : LHX D tA n0 o bs adr M f x H) (hU : U.heap = H) : Wld D tA adr adV M H.size U := lw_Wld hm hs hh.to hU
/-- a field of a cell of the memory -/
theorem t_get {a ci k index : Nat} {fs : List (Option Nat)} {r : Option Nat} (X : BX p s m args c own nL cc) (hs : LSt D tA n0 adr adV s s.heap) (hh : LHX D tA n0 o bs adr M f x H) (hlay : lay a = .inr (.inl (ci, fs))) (hci : ci < 13) (hk : k < Nc ci) (hf : fs[k]? = some r) (hl : Cond.fieldLink own index (Tc ci k).1 (Tc ci k).2.1 (Tc ci k).2.2.1 ∈ gW) (hdg : decode cc pc = .ok (.getfield index, 3))
    (kk : W p l e R s m args below meth c H locs cells slots Q (F0 m (pc + 3) ls (celV adr M a k r :: rest))) : W p l e R s m args below meth c H locs cells slots Q (F0 m pc ls (.ref (adr a) :: rest)) := by
  obtain ⟨c1, c2⟩ := cls_el hci
  exact va_get (ref := (Tc ci k).1) X.1 X.2.1 X.2.2.2.2 c2 X.2.2.2.1 hs.1.1 hh.1.2.1 a (ws_obj hlay) c1 k hk (X.2.2.2.2 _ hl) (fun _ h => h) (by simp [celF, List.getElem?_mapIdx, hf]) hdg kk
/-- a call on a cell of the memory -/
theorem t_call {idx q b : Nat} {As : List AV} {Qc : Option AV → Mm → Prop} (X : BX p s m args c own nL cc) (hw : LWo own idx q) (hm : LM n0 o bs adr) (hs : LSt D tA n0 adr adV s s.heap) (hh : LHX D tA n0 o bs adr M f x H) (hS : LV n0 s H locs) (hls : ls.size = nL) (hb : kc (lay b) (oM q)) (hn : As.length + 1 = nM q) (hR : dM q + 1 ≤ R.frames ∧ 49 + 64 * dM q ≤ R.locals) (hc : cells ≤ R.cells ∧ slots ≤ R.slots)
    (hrest : (rest.map fun v => v.category).sum ≤ 8) (hst : st0 = (As.map (cvA adr)).reverse ++ .ref (adr b) :: rest) (hdg : decode cc pc = .ok (.invokevirtual idx, 3)) (hC : CallP q (.inr b :: As) M Qc)
    (hk : ∀ v M' H1 locs1, Qc v M' → LHX D tA n0 o bs adr M' f x H1 → LV n0 s H1 locs1 → W p l e R s m args below meth c H1 locs1 cells slots Q (F0 m (pc + 3) ls ((v.map (cvA adr)).toList ++ rest))) : W p l e R s m args below meth c H locs cells slots Q (F0 m pc ls st0) := by
  obtain ⟨hx, hb', hml, hown, hts⟩ := X
  have hq := hw.2.2.2
  have h30 := l_l30 hq
  have hsig : (yM q).cls ≠ "java/lang/invoke/MethodHandle" ∧ (yM q).cls ≠ "java/lang/invoke/VarHandle" ∧ (parseMethodDescriptor (yM q).desc).map (fun d => d.parameters.length) = some As.length := by
    obtain ⟨m1, m2⟩ := meth_el hq
    simp only [okM, Bool.and_eq_true, decide_eq_true_eq] at m2
    obtain ⟨⟨⟨⟨⟨⟨-, hpl⟩, hcls⟩, hn1⟩, hn2⟩, hl30⟩, -⟩ := m2
    have w4 := hw.2.2.1
    refine ⟨hn1, hn2, ?_⟩
    cases hp : parseMethodDescriptor (yM q).desc with
    | none => rw [hp] at w4; cases w4
    | some d =>
      rw [hp] at w4
      have : d.parameters.length + 1 = nM q := Option.some.inj w4
      simp only [Option.map_some]
      congr 1
      omega
  have hr := va_runV (p := p) (l := l) (e := e) (R := R) (s := s) (m := m) (args := args) (below := below) (meth := meth) (c := c) (H := H) (locs := locs) (cells := cells) (slots := slots) (b := adr b) (g := F0 m pc ls st0) (rest := rest) (own := own) (Ts := gW) (nL := nL) (As := As.map (cvA adr)) (C := (yM q).cls) (n := As.length) (bytes := cM q) (maxL := lM q) (ret := rM q) ⟨hx, hb', hml, hown, hts⟩ (hC l D tA adr adV H.size)
    ⟨callB_of As.length hts (wM_good hq) rfl rfl rfl (hts _ hw.2.1.2) (hts _ hw.1.1) hsig ⟨hR.1, by show 8 + (lM q + 11) + 64 * dM q ≤ R.locals; omega⟩, hts _ hw.1.2, hts _ hw.2.1.1⟩
    ⟨Wld.blind _, l_recv hs hh.to hq hb, fun U hU hW => ⟨by simp [cvA], by rw [← hU]; exact LHX.Wld hm (hU ▸ hs.now hS hW) (hU ▸ hh) rfl⟩⟩ rfl (by simp) hls hst (lv_room (pc := pc) (ls := ls) (rest := st0) hrest) hdg ⟨by omega, by omega⟩
  intro T hT XX
  obtain ⟨v, st₀, t, T', L2, h0, X', hL, e1, e2, ⟨⟨v', M', hq', hv, hP, hD⟩, hz, hkk⟩, st⟩ := hr T hT XX
  rw [h0] at hz hkk hD
  have hv' : v = v'.map (cvA adr) := by cases hv; rfl
  subst hv'
  have hz1 : H.size ≤ T'.heap.size := by rw [e1]; exact hz
  have hk1 : ∀ y : Nat, y < H.size → ¬ AA adr H.size y → T'.heap[y]? = H[y]? := fun y h1 h2 => by rw [e1]; exact hkk y h1 h2
  have K := hk v' M' T'.heap (locs ++ L2) hq' (x_keep hm hh hz1 hk1 (by rw [e1]; exact hP)) (vS_app hS hz1 hk1 (hm.sub hh.1.1) (fun y hy => hm.sub hh.1.1 _ (hL y hy)))
  obtain ⟨t2, a1, b1⟩ := K T' rfl X'
  exact ⟨t2, st t2 a1, b1⟩
/-- a call of the builder -/
theorem t_bcall {y : MethodName} {cc2 : ByteArray} {nL2 fr lo mc ms idx n : Nat} {ret : Option FieldType} {av : BS → (Nat → Nat) → List Value} {P : BS → Prop} {Rr : BS → Option Value → BS → Prop} {As : List Value} (X : BX p s m args c own nL cc) (hm : LM n0 o bs adr) (hs : LSt D tA n0 adr adV s s.heap) (hh : LHX D tA n0 o bs adr M f x H) (hS : LV n0 s H locs) (hC : BC y cc2 nL2 ret fr lo mc ms bs av P Rr) (hP : P x) (hw : BWd 0 own idx y cc2 nL2 ret RJ4 n) (hav : av x adr = .ref bs :: As) (hn : As.length = n) (hls : ls.size = nL) (hR : fr + 1 ≤ R.frames ∧ 39 + lo ≤ R.locals) (hf : cells + mc ≤ R.cells ∧ slots + ms ≤ R.slots) (hrest : (rest.map fun v => v.category).sum ≤ 8) (hst : st0 = As.reverse ++ .ref bs :: rest) (hdg : decode cc pc = .ok (.invokevirtual idx, 3))
    (kk : ∀ v x' H1 locs1, Rr x v x' → LHX D tA n0 o bs adr M f x' H1 → LV n0 s H1 locs1 → W p l e R s m args below meth c H1 locs1 (cells + mc) (slots + ms) Q (F0 m (pc + 3) ls (v.toList ++ rest))) : W p l e R s m args below meth c H locs cells slots Q (F0 m pc ls st0) := by
  obtain ⟨⟨⟨w1, w2, w3⟩, w4, w5⟩, w6, w7⟩ := hw
  have hts := X.2.2.2.2
  have hr := va_runV (p := p) (l := l) (e := e) (R := R) (s := s) (m := m) (args := args) (below := below) (meth := meth) (c := c) (H := H) (locs := locs) (cells := cells) (slots := slots) (b := bs) (g := F0 m pc ls st0) (rest := rest) (own := own) (Ts := gW) (nL := nL) (As := As) (C := RJ4) (n := n) (bytes := cc2) (maxL := nL2) (ret := ret) X (hC l D tA n0 adr adV H.size x hP) ⟨callB_of n hts (code_good w3) rfl rfl rfl (hts _ w2) (hts _ w1) w4 ⟨hR.1, by show 8 + (nL2 + 11) + lo ≤ R.locals; omega⟩, hts _ w6, hts _ w7⟩
    ⟨BPre.blind, va_recv hs.1.2 hh.2.2.2 c13.1 (q0 := 0) rfl, fun U hU hW => ⟨by rw [hav], ⟨by rw [hU], hh.1.1, hm.1.2.1, hh.2.1.1, fun e => hh.2.1.2.2.1 e.symm⟩, hh.2.2.1, by rw [hU]; exact hh.2.2.2, by
      have hs2 := hs.now hS hW
      rw [hU]
      exact ⟨hs2.1.2, hs2.2.1, hs2.2.2.2.2.2.1, hs2.2.2.2.2.2.2⟩⟩⟩ rfl hn hls hst (lv_room (pc := pc) (ls := ls) (rest := st0) hrest) hdg hf
  intro T hT XX
  obtain ⟨v, st₀, t, T', L2, h0, X', hL2, e1, e2, ⟨⟨_, x', hv, hR2, hx, hP2, hb⟩, hsz, hkk⟩, st⟩ := hr T hT XX
  rw [h0] at hsz hkk
  cases hv
  have hz1 : H.size ≤ T'.heap.size := by rw [e1]; exact hsz
  have hk1 : ∀ y : Nat, y < H.size → ¬ bA bs (xB x) H.size y → T'.heap[y]? = H[y]? := fun y h1 h2 => by rw [e1]; exact hkk y h1 h2
  have hsub : ∀ q, bA bs (xB x) H.size q → n0 ≤ q := by
    rintro q (rfl | rfl | hq)
    · exact hm.1.2.1
    · exact hh.2.1.1
    · exact Nat.le_trans hh.1.1 hq
  have K := kk v x' T'.heap (locs ++ L2) hR2 (x_bkeep hm hh hz1 hk1 hx (by rw [e1]; exact hP2) hb) (vS_app hS hz1 hk1 hsub (fun q hq => hsub _ (hL2 q hq)))
  obtain ⟨t2, a1, b1⟩ := K T' rfl X'
  exact ⟨t2, st t2 a1, b1⟩
end P3

/-! TOLD, 3: Timber.writeOn (words and rows printed by wip/whole/g7t.py). -/
def yb_wo : MethodName := ⟨"RingDater$Timber", "writeOn", "(Ljava/lang/StringBuilder;)V"⟩
set_option maxRecDepth 100000 in
theorem wb_22 : BWd 0 "RingDater$Timber" 58 yb_setL prog_28_method_89_code 2 none RJ4 1 := ⟨⟨⟨gW_at (i := 1419) rfl rfl, gW_at (i := 115) rfl rfl, gW_at (i := 1422) rfl rfl⟩, ⟨by decide, by decide, rfl⟩, by decide⟩, gW_at (i := 1420) rfl rfl, gW_at (i := 1421) rfl rfl⟩
set_option maxRecDepth 100000 in
theorem wb_23 : BWd 0 "RingDater$Timber" 66 yb_appS prog_28_method_7_code 2 (some (.object "java/lang/StringBuilder")) RJ4 1 := ⟨⟨⟨gW_at (i := 1638) rfl rfl, gW_at (i := 115) rfl rfl, gW_at (i := 1478) rfl rfl⟩, ⟨by decide, by decide, rfl⟩, by decide⟩, gW_at (i := 1476) rfl rfl, gW_at (i := 1477) rfl rfl⟩
set_option maxRecDepth 100000 in
theorem wb_24 : BWd 0 "RingDater$Timber" 70 yb_appI prog_28_method_15_code 2 (some (.object "java/lang/StringBuilder")) RJ4 1 := ⟨⟨⟨gW_at (i := 1639) rfl rfl, gW_at (i := 115) rfl rfl, gW_at (i := 1539) rfl rfl⟩, ⟨by decide, by decide, rfl⟩, by decide⟩, gW_at (i := 1537) rfl rfl, gW_at (i := 1538) rfl rfl⟩
set_option maxRecDepth 100000 in
theorem wb_25 : BWd 0 "RingDater$Timber" 73 yb_appC prog_28_method_14_code 2 (some (.object "java/lang/StringBuilder")) RJ4 1 := ⟨⟨⟨gW_at (i := 1640) rfl rfl, gW_at (i := 115) rfl rfl, gW_at (i := 1643) rfl rfl⟩, ⟨by decide, by decide, rfl⟩, by decide⟩, gW_at (i := 1641) rfl rfl, gW_at (i := 1642) rfl rfl⟩
set_option maxRecDepth 100000 in
theorem lwo_0 : LWo "RingDater$Timber" 32 m_Timber_widthOf := ⟨⟨gW_at (i := 645) rfl rfl, gW_at (i := 646) rfl rfl⟩, ⟨gW_at (i := 647) rfl rfl, gW_at (i := 106) rfl rfl⟩, rfl, by decide⟩
set_option maxRecDepth 100000 in
theorem lwo_1 : LWo "RingDater$Timber" 46 m_Timber_isDoubtful := ⟨⟨gW_at (i := 830) rfl rfl, gW_at (i := 733) rfl rfl⟩, ⟨gW_at (i := 734) rfl rfl, gW_at (i := 106) rfl rfl⟩, rfl, by decide⟩
set_option maxRecDepth 100000 in
theorem ft_Timber_23 : Cond.fieldLink "RingDater$Timber" 23 (Tc 9 3).1 (Tc 9 3).2.1 (Tc 9 3).2.2.1 ∈ gW := gW_at (i := 166) rfl rfl
set_option maxRecDepth 100000 in
theorem ft_Timber_26 : Cond.fieldLink "RingDater$Timber" 26 (Tc 9 4).1 (Tc 9 4).2.1 (Tc 9 4).2.2.1 ∈ gW := gW_at (i := 169) rfl rfl
set_option maxRecDepth 100000 in
theorem ft_Timber_19 : Cond.fieldLink "RingDater$Timber" 19 (Tc 9 2).1 (Tc 9 2).2.1 (Tc 9 2).2.2.1 ∈ gW := gW_at (i := 162) rfl rfl
set_option maxRecDepth 100000 in
theorem db_wo_0 : decode prog_11_method_17_code 0 = .ok (.aload_n 1, 1) := rfl
set_option maxRecDepth 100000 in
theorem db_wo_1 : decode prog_11_method_17_code 1 = .ok (.iconst 0, 1) := rfl
set_option maxRecDepth 100000 in
theorem db_wo_2 : decode prog_11_method_17_code 2 = .ok (.invokevirtual 58, 3) := rfl
set_option maxRecDepth 100000 in
theorem db_wo_5 : decode prog_11_method_17_code 5 = .ok (.aload_n 1, 1) := rfl
set_option maxRecDepth 100000 in
theorem db_wo_6 : decode prog_11_method_17_code 6 = .ok (.ldc 64, 2) := rfl
set_option maxRecDepth 100000 in
theorem db_wo_8 : decode prog_11_method_17_code 8 = .ok (.invokevirtual 66, 3) := rfl
set_option maxRecDepth 100000 in
theorem db_wo_11 : decode prog_11_method_17_code 11 = .ok (.aload_n 0, 1) := rfl
set_option maxRecDepth 100000 in
theorem db_wo_12 : decode prog_11_method_17_code 12 = .ok (.getfield 23, 3) := rfl
set_option maxRecDepth 100000 in
theorem db_wo_15 : decode prog_11_method_17_code 15 = .ok (.invokevirtual 70, 3) := rfl
set_option maxRecDepth 100000 in
theorem db_wo_18 : decode prog_11_method_17_code 18 = .ok (.bipush 32, 2) := rfl
set_option maxRecDepth 100000 in
theorem db_wo_20 : decode prog_11_method_17_code 20 = .ok (.invokevirtual 73, 3) := rfl
set_option maxRecDepth 100000 in
theorem db_wo_23 : decode prog_11_method_17_code 23 = .ok (.aload_n 0, 1) := rfl
set_option maxRecDepth 100000 in
theorem db_wo_24 : decode prog_11_method_17_code 24 = .ok (.getfield 26, 3) := rfl
set_option maxRecDepth 100000 in
theorem db_wo_27 : decode prog_11_method_17_code 27 = .ok (.invokevirtual 70, 3) := rfl
set_option maxRecDepth 100000 in
theorem db_wo_30 : decode prog_11_method_17_code 30 = .ok (.pop, 1) := rfl
set_option maxRecDepth 100000 in
theorem db_wo_31 : decode prog_11_method_17_code 31 = .ok (.iconst 0, 1) := rfl
set_option maxRecDepth 100000 in
theorem db_wo_32 : decode prog_11_method_17_code 32 = .ok (.istore_n 2, 1) := rfl
set_option maxRecDepth 100000 in
theorem db_wo_33 : decode prog_11_method_17_code 33 = .ok (.iload_n 2, 1) := rfl
set_option maxRecDepth 100000 in
theorem db_wo_34 : decode prog_11_method_17_code 34 = .ok (.aload_n 0, 1) := rfl
set_option maxRecDepth 100000 in
theorem db_wo_35 : decode prog_11_method_17_code 35 = .ok (.getfield 19, 3) := rfl
set_option maxRecDepth 100000 in
theorem db_wo_38 : decode prog_11_method_17_code 38 = .ok (.if_icmp .ge 39, 3) := rfl
set_option maxRecDepth 100000 in
theorem db_wo_41 : decode prog_11_method_17_code 41 = .ok (.aload_n 1, 1) := rfl
set_option maxRecDepth 100000 in
theorem db_wo_42 : decode prog_11_method_17_code 42 = .ok (.bipush 32, 2) := rfl
set_option maxRecDepth 100000 in
theorem db_wo_44 : decode prog_11_method_17_code 44 = .ok (.invokevirtual 73, 3) := rfl
set_option maxRecDepth 100000 in
theorem db_wo_47 : decode prog_11_method_17_code 47 = .ok (.aload_n 0, 1) := rfl
set_option maxRecDepth 100000 in
theorem db_wo_48 : decode prog_11_method_17_code 48 = .ok (.iload_n 2, 1) := rfl
set_option maxRecDepth 100000 in
theorem db_wo_49 : decode prog_11_method_17_code 49 = .ok (.invokevirtual 32, 3) := rfl
set_option maxRecDepth 100000 in
theorem db_wo_52 : decode prog_11_method_17_code 52 = .ok (.invokevirtual 70, 3) := rfl
set_option maxRecDepth 100000 in
theorem db_wo_55 : decode prog_11_method_17_code 55 = .ok (.pop, 1) := rfl
set_option maxRecDepth 100000 in
theorem db_wo_56 : decode prog_11_method_17_code 56 = .ok (.aload_n 0, 1) := rfl
set_option maxRecDepth 100000 in
theorem db_wo_57 : decode prog_11_method_17_code 57 = .ok (.iload_n 2, 1) := rfl
set_option maxRecDepth 100000 in
theorem db_wo_58 : decode prog_11_method_17_code 58 = .ok (.invokevirtual 46, 3) := rfl
set_option maxRecDepth 100000 in
theorem db_wo_61 : decode prog_11_method_17_code 61 = .ok (.ifCond .eq 10, 3) := rfl
set_option maxRecDepth 100000 in
theorem db_wo_64 : decode prog_11_method_17_code 64 = .ok (.aload_n 1, 1) := rfl
set_option maxRecDepth 100000 in
theorem db_wo_65 : decode prog_11_method_17_code 65 = .ok (.bipush 63, 2) := rfl
set_option maxRecDepth 100000 in
theorem db_wo_67 : decode prog_11_method_17_code 67 = .ok (.invokevirtual 73, 3) := rfl
set_option maxRecDepth 100000 in
theorem db_wo_70 : decode prog_11_method_17_code 70 = .ok (.pop, 1) := rfl
set_option maxRecDepth 100000 in
theorem db_wo_71 : decode prog_11_method_17_code 71 = .ok (.iinc 2 1, 3) := rfl
set_option maxRecDepth 100000 in
theorem db_wo_74 : decode prog_11_method_17_code 74 = .ok (.goto (-41), 3) := rfl
set_option maxRecDepth 100000 in
theorem db_wo_77 : decode prog_11_method_17_code 77 = .ok (.aload_n 1, 1) := rfl
set_option maxRecDepth 100000 in
theorem db_wo_78 : decode prog_11_method_17_code 78 = .ok (.bipush 59, 2) := rfl
set_option maxRecDepth 100000 in
theorem db_wo_80 : decode prog_11_method_17_code 80 = .ok (.invokevirtual 73, 3) := rfl
set_option maxRecDepth 100000 in
theorem db_wo_83 : decode prog_11_method_17_code 83 = .ok (.pop, 1) := rfl
set_option maxRecDepth 100000 in
theorem db_wo_84 : decode prog_11_method_17_code 84 = .ok (.return_, 1) := rfl
def WoPost (D : va_G) (tA : Nat → ClassId) (n0 o bs : Nat) (adr : Nat → Nat) (M : Mm) (f : Nat → Int64) (w : List Int) : Array Value → State → Outcome → State → Prop := fun _ st oc t =>
  (oc = .returned none ∧ ∃ x, LHX D tA n0 o bs adr M f x t.heap ∧ isTx x w) ∧ va_F (fun q => n0 ≤ q) st t
def WoPre (D : va_G) (tA : Nat → ClassId) (n0 o bs : Nat) (adr adV : Nat → Nat) (M : Mm) (f : Nat → Int64) (U : State) : Prop := LSt D tA n0 adr adV U U.heap ∧ LH D tA n0 o bs adr M f U.heap
def woR : Room := { frames := 60, cells := 90, slots := 11900, locals := 6000 }
def woW : List Cond := Cond.code yb_wo prog_11_method_17_code 3 none :: gW
section WO
variable {D : va_G} {tA : Nat → ClassId} {n0 o bs : Nat} {adr adV : Nat → Nat} {M : Mm} {f : Nat → Int64} {ot : Nat}
variable {p : Program} {l : Launch} {e : Env} {s : State} {m : MethodId} {args : Array Value} {below : List Frame} {meth : Method} {c : Code}
theorem wid_A {r : Nat} (h : (r : Int) < M ot 2) (h24 : M ot 2 ≤ 24) : vWid M ot r = (tRw M ot).1 r ∧ vDou M ot r = (tRw M ot).2.2 r := by
  constructor
  · show (if 0 ≤ (r : Int) ∧ (r : Int) < M ot 2 ∧ (r : Int) < 24 then M (ot + 1) (r : Int).toNat else 0) = (if (r : Int) < M ot 2 then M (ot + 1) r else 0)
    rw [if_pos ⟨by omega, h, by omega⟩, if_pos h, Int.toNat_natCast]
  · show (if 0 ≤ (r : Int) ∧ (r : Int) < M ot 2 ∧ (r : Int) < 24 then M (ot + 2) (r : Int).toNat else 0) = (if (r : Int) < M ot 2 then M (ot + 2) r else 0)
    rw [if_pos ⟨by omega, h, by omega⟩, if_pos h, Int.toNat_natCast]
set_option maxHeartbeats 4000000 in
set_option maxRecDepth 100000 in
theorem wo_loop (ho : isTim ot) (hm : LM n0 o bs adr) (hw : wfT M ot) (X : BX p s m args c "RingDater$Timber" 3 prog_11_method_17_code) (hs : LSt D tA n0 adr adV s s.heap) (hret : meth.sig.returnType = none) (hlk : meth.locks = false) (w0 : List Int) (hW : w0.length ≤ 12) :
    ∀ (k r : Nat) (x : BS) (H : Heap) (locs : List Loc) (cells slots : Nat) (ls : Array Slot), r + k = (M ot 2).toNat → LHX D tA n0 o bs adr M f x H → LV n0 s H locs → isTx x (w0 ++ rgW (tRw M ot) r) → lv_has ls 3 [(2, .int (iN (r : Int))), (0, .ref (adr ot)), (1, .ref bs)] → cells ≤ 10 + 3 * r → slots ≤ 1420 + 426 * r →
      W p l e woR s m args below meth c H locs cells slots (MQ below (WoPost D tA n0 o bs adr M f (w0 ++ rgW (tRw M ot) (M ot 2).toNat ++ [59])) args s 90 11900 (fun q => n0 ≤ q)) (F0 m 33 ls []) := by
  have h24 := hw.1.2
  have h0 := hw.1.1
  intro k
  induction k with
  | zero =>
    intro r x H locs cells slots ls hk hh hS hx hl hc hsl
    have hr : (r : Int) = M ot 2 := by omega
    have hlen := rgW_len (tRw M ot) r
    have hxl := hx.1
    rw [List.length_append] at hxl
    refine lv_iload_n (i := 2) (x := iN (r : Int)) X.1 X.2.1 db_wo_33 rfl (lv_at hl 0 rfl) ?_
    refine lv_aload_n (i := 0) (x := adr ot) X.1 X.2.1 db_wo_34 rfl (lv_at hl 1 rfl) ?_
    refine t_get (k := 2) (r := none) X hs hh ho.1 (by decide) (by decide) rfl ft_Timber_19 db_wo_35 ?_
    show W p l e woR s m args below meth c H locs cells slots _ (F0 m 38 ls [.int (iN (M ot 2)), .int (iN (r : Int))])
    rw [hr]
    refine lv_icmp_ge (tgt := 77) X.1 X.2.1 db_wo_38 (by decide) (fun _ => ?_) (fun h => absurd (Int32.le_refl _) h)
    refine lv_aload_n (i := 1) (x := bs) X.1 X.2.1 db_wo_77 rfl (lv_at hl 2 rfl) ?_
    refine lv_bipush (v := iN 59) X.1 X.2.1 db_wo_78 (by decide) ?_
    refine t_bcall (As := [.int (iN 59)]) (rest := []) X hm hs hh hS (b_appC (a := 59) (by omega) (by omega)) (by omega) wb_25 rfl rfl hl.1 ⟨by decide, by decide⟩ ⟨by show cells + 1 ≤ 90; omega, by show slots + 142 ≤ 11900; omega⟩ (by simp) rfl db_wo_80 (fun v x1 H1 lc1 hv hh1 hS1 => ?_)
    obtain ⟨rfl, hv⟩ := hv
    refine lv_pop (va := .ref bs) X.1 X.2.1 db_wo_83 rfl ?_
    have hr2 : (M ot 2).toNat = r := by omega
    rw [hr2]
    exact W.widen (by omega) (by omega) (W.vret X.1 X.2.1 hret (fun t ht _ => ⟨⟨rfl, x1, by rw [ht]; exact hh1, isTx_app hx hv⟩, va_S.F hS1 ht⟩) hS1.2.2 db_wo_84 hlk)
  | succ k ih =>
    intro r x H locs cells slots ls hk hh hS hx hl hc hsl
    have hr : (r : Int) < M ot 2 := by omega
    have hlen := rgW_len (tRw M ot) r
    have hxl := hx.1
    rw [List.length_append] at hxl
    obtain ⟨eW, eD⟩ := wid_A (M := M) (ot := ot) hr h24
    obtain ⟨q1, q2⟩ := hw.2.1 r (by omega)
    have e1 : (tRw M ot).1 r = M (ot + 1) r := by
      show (if (r : Int) < M ot 2 then M (ot + 1) r else 0) = _
      rw [if_pos hr]
    refine lv_iload_n (i := 2) (x := iN (r : Int)) X.1 X.2.1 db_wo_33 rfl (lv_at hl 0 rfl) ?_
    refine lv_aload_n (i := 0) (x := adr ot) X.1 X.2.1 db_wo_34 rfl (lv_at hl 1 rfl) ?_
    refine t_get (k := 2) (r := none) X hs hh ho.1 (by decide) (by decide) rfl ft_Timber_19 db_wo_35 ?_
    show W p l e woR s m args below meth c H locs cells slots _ (F0 m 38 ls [.int (iN (M ot 2)), .int (iN (r : Int))])
    refine lv_icmp_ge (tgt := 77) X.1 X.2.1 db_wo_38 (by decide) (fun h => absurd ((iN_le (x := M ot 2) (y := (r : Int)) ⟨by omega, by omega⟩ ⟨by omega, by omega⟩).mp h) (by omega)) (fun _ => ?_)
    refine lv_aload_n (i := 1) (x := bs) X.1 X.2.1 db_wo_41 rfl (lv_at hl 2 rfl) ?_
    refine lv_bipush (v := iN 32) X.1 X.2.1 db_wo_42 (by decide) ?_
    refine t_bcall (As := [.int (iN 32)]) (rest := []) X hm hs hh hS (b_appC (a := 32) (by omega) (by omega)) (by omega) wb_25 rfl rfl hl.1 ⟨by decide, by decide⟩ ⟨by show cells + 1 ≤ 90; omega, by show slots + 142 ≤ 11900; omega⟩ (by simp) rfl db_wo_44 (fun v x1 H1 lc1 hv hh1 hS1 => ?_)
    obtain ⟨rfl, hv⟩ := hv
    have hx1 := isTx_app hx hv
    have hxl1 := hx1.1
    rw [List.length_append, List.length_append] at hxl1
    refine lv_aload_n (i := 0) (x := adr ot) X.1 X.2.1 db_wo_47 rfl (lv_at hl 1 rfl) ?_
    refine lv_iload_n (i := 2) (x := iN (r : Int)) X.1 X.2.1 db_wo_48 rfl (lv_at hl 0 rfl) ?_
    refine t_call (q := m_Timber_widthOf) (b := ot) (As := [.inl (r : Int)]) (rest := [.ref bs]) X lwo_0 hm hs hh1 hS1 hl.1 (by rw [ho.1]; rfl) rfl ⟨by decide +kernel, by decide +kernel⟩ ⟨by show cells + 1 ≤ 90; omega, by show slots + 142 ≤ 11900; omega⟩ (by simp [Value.category]) rfl db_wo_49 (Timber_widthOf_ok ho ⟨by omega, by omega⟩ hw) (fun v M2 H2 lc2 hv hh2 hS2 => ?_)
    obtain ⟨y, rfl, rfl, rfl⟩ := hv
    rw [eW] at *
    refine t_bcall (As := [.int (iN ((tRw M2 ot).1 r))]) (rest := []) X hm hs hh2 hS2 (b_appI (a := (tRw M2 ot).1 r) (by omega) (by omega)) (by simp at hxl1; omega) wb_24 rfl rfl hl.1 ⟨by decide, by decide⟩ ⟨by show cells + 1 + 1 ≤ 90; omega, by show slots + 142 + 142 ≤ 11900; omega⟩ (by simp) rfl db_wo_52 (fun v x3 H3 lc3 hv3 hh3 hS3 => ?_)
    obtain ⟨rfl, hv3⟩ := hv3
    have hx3 := isTx_num hx1 hv3
    have hxl3 := hx3.1
    have dl := (dgW_len ((tRw M2 ot).1 r)).2
    rw [List.length_append, List.length_append, List.length_append] at hxl3
    refine lv_pop (va := .ref bs) X.1 X.2.1 db_wo_55 rfl ?_
    refine lv_aload_n (i := 0) (x := adr ot) X.1 X.2.1 db_wo_56 rfl (lv_at hl 1 rfl) ?_
    refine lv_iload_n (i := 2) (x := iN (r : Int)) X.1 X.2.1 db_wo_57 rfl (lv_at hl 0 rfl) ?_
    refine t_call (q := m_Timber_isDoubtful) (b := ot) (As := [.inl (r : Int)]) (rest := []) X lwo_1 hm hs hh3 hS3 hl.1 (by rw [ho.1]; rfl) rfl ⟨by decide +kernel, by decide +kernel⟩ ⟨by show cells + 1 + 1 ≤ 90; omega, by show slots + 142 + 142 ≤ 11900; omega⟩ (by simp) rfl db_wo_58 (Timber_isDoubtful_ok ho ⟨by omega, by omega⟩ hw) (fun v M4 H4 lc4 hv hh4 hS4 => ?_)
    obtain ⟨y, rfl, rfl, rfl⟩ := hv
    rw [eD]
    have ed : (tRw M4 ot).2.2 r = 0 ∨ (tRw M4 ot).2.2 r = 1 := by
      show (if (r : Int) < M4 ot 2 then M4 (ot + 2) r else 0) = 0 ∨ (if (r : Int) < M4 ot 2 then M4 (ot + 2) r else 0) = 1
      rw [if_pos hr]
      exact hw.2.2.1 r (by omega)
    have es : rgW (tRw M4 ot) (r + 1) = rgW (tRw M4 ot) r ++ (32 :: dgW ((tRw M4 ot).1 r) ++ (if (tRw M4 ot).2.2 r = 0 then [] else [63])) := rfl
    suffices G : ∀ (x5 : BS) (H5 : Heap) (lc5 : List Loc), LHX D tA n0 o bs adr M4 f x5 H5 → LV n0 s H5 lc5 → isTx x5 (w0 ++ rgW (tRw M4 ot) (r + 1)) → W p l e woR s m args below meth c H5 lc5 (cells + 1 + 1 + 1) (slots + 142 + 142 + 142) (MQ below (WoPost D tA n0 o bs adr M4 f (w0 ++ rgW (tRw M4 ot) (M4 ot 2).toNat ++ [59])) args s 90 11900 (fun q => n0 ≤ q)) (F0 m 71 ls []) by
      show W p l e woR s m args below meth c H4 lc4 (cells + 1 + 1) (slots + 142 + 142) _ (F0 m 61 ls [.int (iN ((tRw M4 ot).2.2 r))])
      refine lv_if_eq (tgt := 71) X.1 X.2.1 db_wo_61 (by decide) (fun z => ?_) (fun z => ?_)
      · have z0 : (tRw M4 ot).2.2 r = 0 := (iN_eq (by rcases ed with h | h <;> rw [h] <;> exact ⟨by omega, by omega⟩) inR_0).mp z
        refine W.widen (by omega) (by omega) (G x3 H4 lc4 hh4 hS4 ?_)
        rw [es, if_pos z0]
        simpa [List.append_assoc] using hx3
      · have z0 : ¬ (tRw M4 ot).2.2 r = 0 := fun h => z (by rw [h]; rfl)
        refine lv_aload_n (i := 1) (x := bs) X.1 X.2.1 db_wo_64 rfl (lv_at hl 2 rfl) ?_
        refine lv_bipush (v := iN 63) X.1 X.2.1 db_wo_65 (by decide) ?_
        refine t_bcall (As := [.int (iN 63)]) (rest := []) X hm hs hh4 hS4 (b_appC (a := 63) (by omega) (by omega)) (by simp at hxl3; omega) wb_25 rfl rfl hl.1 ⟨by decide, by decide⟩ ⟨by show cells + 1 + 1 + 1 ≤ 90; omega, by show slots + 142 + 142 + 142 ≤ 11900; omega⟩ (by simp) rfl db_wo_67 (fun v x5 H5 lc5 hv5 hh5 hS5 => ?_)
        obtain ⟨rfl, hv5⟩ := hv5
        refine lv_pop (va := .ref bs) X.1 X.2.1 db_wo_70 rfl ?_
        refine G x5 H5 lc5 hh5 hS5 ?_
        rw [es, if_neg z0]
        simpa [List.append_assoc] using isTx_app hx3 hv5
    intro x5 H5 lc5 hh5 hS5 hx5
    refine lv_iinc (k := 0) (x := iN (r : Int)) (v := iN ((r + 1 : Nat) : Int)) (lv' := [(2, .int (iN ((r + 1 : Nat) : Int))), (0, .ref (adr ot)), (1, .ref bs)]) X.1 X.2.1 db_wo_71 hl rfl (iN_add _ _) (by decide) rfl (fun ls2 hl2 => ?_)
    refine lv_goto (tgt := 33) X.1 X.2.1 db_wo_74 (by decide) ?_
    exact ih (r + 1) x5 H5 lc5 _ _ ls2 (by omega) hh5 hS5 hx5 hl2 (by omega) (by omega)
set_option maxHeartbeats 4000000 in
set_option maxRecDepth 100000 in
theorem writeOn_ok (ho : isTim ot) (hm : LM n0 o bs adr) (hw : wfT M ot) : Met l yb_wo woW woR (va_Pc [.ref (adr ot), .ref bs] (WoPre D tA n0 o bs adr adV M f)) (WoPost D tA n0 o bs adr M f (txW (M ot 3) (M ot 4) (tRw M ot))) 90 11900 (fun q => n0 ≤ q) := by
  refine Met.ofW (cc := prog_11_method_17_code) (maxL := 3) (ret := none) (by decide) rfl ?_
  intro p e s m args below meth c s₁ B hml hv
  obtain ⟨rfl, hs, hh⟩ := hv
  obtain ⟨x, hh⟩ := hh.ex
  have hts := atoms_spec (ws := woW) B.pre
  have hown : s.vm.findClass "RingDater$Timber" = some m.cls := findClass_of_methodNamed B.named
  rw [lg_entry_eq]
  have hl := lv_entry ([.ref (adr ot), .ref bs] : List Value) (n := 3) (by simp [lg_sl, Value.category])
  generalize (lg_sl ([.ref (adr ot), .ref bs] : List Value) ++ List.replicate (3 - (lg_sl ([.ref (adr ot), .ref bs] : List Value)).length) Slot.unset).toArray = ls at hl ⊢
  have hl : lv_has ls 3 [(0, .ref (adr ot)), (1, .ref bs)] := hl
  have X : BX p s m #[.ref (adr ot), .ref bs] c "RingDater$Timber" 3 prog_11_method_17_code := ⟨B.exec, B.bytes, hml, hown, fun w hw => hts w (List.mem_cons_of_mem _ hw)⟩
  have hS : LV n0 s s.heap [] := va_S.rf
  have hret := B.returns
  have hlk := B.notSynchronized
  obtain ⟨⟨r0, r1⟩, -, -, ⟨l0, l1⟩, ⟨m0, m1⟩, -⟩ := id hw
  refine lv_aload_n (i := 1) (x := bs) X.1 X.2.1 db_wo_0 rfl (lv_at hl 1 rfl) ?_
  refine lv_iconst (v := iN 0) X.1 X.2.1 db_wo_1 (by decide) ?_
  refine t_bcall (As := [.int (iN 0)]) (rest := []) X hm hs hh hS b_setL trivial wb_22 rfl rfl hl.1 ⟨by decide, by decide⟩ ⟨by decide, by decide⟩ (by simp) rfl db_wo_2 (fun v x1 H1 lc1 hv1 hh1 hS1 => ?_)
  obtain ⟨rfl, hv1⟩ := hv1
  refine lv_aload_n (i := 1) (x := bs) X.1 X.2.1 db_wo_5 rfl (lv_at hl 1 rfl) ?_
  refine va_ldcS X.1 X.2.1 X.2.2.2.1 (hs.2.2.1.1 9 (64, "timber ", 6) (by decide)) db_wo_6 ?_
  refine t_bcall (As := [.ref (adr (NN + 6))]) (rest := []) X hm hs hh1 hS1 b_appS hv1 wb_23 rfl rfl hl.1 ⟨by decide, by decide⟩ ⟨by decide, by decide⟩ (by simp) rfl db_wo_8 (fun v x2 H2 lc2 hv2 hh2 hS2 => ?_)
  obtain ⟨rfl, hv2⟩ := hv2
  have hx2 := isTx_tb hv2
  refine lv_aload_n (i := 0) (x := adr ot) X.1 X.2.1 db_wo_11 rfl (lv_at hl 0 rfl) ?_
  refine t_get (k := 3) (r := none) X hs hh2 ho.1 (by decide) (by decide) rfl ft_Timber_23 db_wo_12 ?_
  refine t_bcall (As := [.int (iN (M ot 3))]) (rest := []) X hm hs hh2 hS2 (b_appI (a := M ot 3) l0 (by omega)) (by have := hx2.1; have e : tbW.length = 7 := rfl; omega) wb_24 rfl rfl hl.1 ⟨by decide, by decide⟩ ⟨by decide, by decide⟩ (by simp) rfl db_wo_15 (fun v x3 H3 lc3 hv3 hh3 hS3 => ?_)
  obtain ⟨rfl, hv3⟩ := hv3
  have hx3 := isTx_num hx2 hv3
  have d1 := (dgW_len (M ot 3)).2
  have d2 := (dgW_len (M ot 4)).2
  have e7 : tbW.length = 7 := rfl
  refine lv_bipush (v := iN 32) X.1 X.2.1 db_wo_18 (by decide) ?_
  refine t_bcall (As := [.int (iN 32)]) (rest := []) X hm hs hh3 hS3 (b_appC (a := 32) (by omega) (by omega)) (by have := hx3.1; rw [List.length_append] at this; omega) wb_25 rfl rfl hl.1 ⟨by decide, by decide⟩ ⟨by decide, by decide⟩ (by simp) rfl db_wo_20 (fun v x4 H4 lc4 hv4 hh4 hS4 => ?_)
  obtain ⟨rfl, hv4⟩ := hv4
  have hx4 := isTx_app hx3 hv4
  refine lv_aload_n (i := 0) (x := adr ot) X.1 X.2.1 db_wo_23 rfl (lv_at hl 0 rfl) ?_
  refine t_get (k := 4) (r := none) X hs hh4 ho.1 (by decide) (by decide) rfl ft_Timber_26 db_wo_24 ?_
  refine t_bcall (As := [.int (iN (M ot 4))]) (rest := []) X hm hs hh4 hS4 (b_appI (a := M ot 4) m0 (by omega)) (by have := hx4.1; rw [List.length_append, List.length_append] at this; simp at this; omega) wb_24 rfl rfl hl.1 ⟨by decide, by decide⟩ ⟨by decide, by decide⟩ (by simp) rfl db_wo_27 (fun v x5 H5 lc5 hv5 hh5 hS5 => ?_)
  obtain ⟨rfl, hv5⟩ := hv5
  have hx5 := isTx_num hx4 hv5
  refine lv_pop (va := .ref bs) X.1 X.2.1 db_wo_30 rfl ?_
  refine lv_iconst (v := iN 0) X.1 X.2.1 db_wo_31 (by decide) ?_
  refine lv_istore_n (i := 2) (lv' := [(2, .int (iN 0)), (0, .ref (adr ot)), (1, .ref bs)]) X.1 X.2.1 db_wo_32 rfl hl (by decide) rfl (fun ls2 hl2 => ?_)
  have e : txW (M ot 3) (M ot 4) (tRw M ot) = (tbW ++ dgW (M ot 3) ++ [32] ++ dgW (M ot 4)) ++ rgW (tRw M ot) (M ot 2).toNat ++ [59] := by
    unfold txW
    rw [show tbW = tW0 ++ [32] from rfl]
    simp [List.append_assoc]
    rfl
  rw [e]
  exact wo_loop ho hm hw X hs hret hlk (tbW ++ dgW (M ot 3) ++ [32] ++ dgW (M ot 4)) (by simp only [List.length_append, List.length_cons, List.length_nil]; omega) (M ot 2).toNat 0 x5 H5 lc5 _ _ ls2 (by omega) hh5 hS5 (by simpa [rgW] using hx5) hl2 (by decide) (by decide)
end WO

/-! TOLD, 4: RingDater.told (words and rows printed by wip/whole/g7t.py). -/
def yb_td : MethodName := ⟨"RingDater", "told", "(II)I"⟩
set_option maxRecDepth 100000 in
theorem db_td_0 : decode prog_1_method_29_code 0 = .ok (.aload_n 0, 1) := rfl
set_option maxRecDepth 100000 in
theorem db_td_1 : decode prog_1_method_29_code 1 = .ok (.getfield 54, 3) := rfl
set_option maxRecDepth 100000 in
theorem db_td_4 : decode prog_1_method_29_code 4 = .ok (.iload_n 1, 1) := rfl
set_option maxRecDepth 100000 in
theorem db_td_5 : decode prog_1_method_29_code 5 = .ok (.invokevirtual 174, 3) := rfl
set_option maxRecDepth 100000 in
theorem db_td_8 : decode prog_1_method_29_code 8 = .ok (.ifCond .ne 11, 3) := rfl
set_option maxRecDepth 100000 in
theorem db_td_11 : decode prog_1_method_29_code 11 = .ok (.new 171, 3) := rfl
set_option maxRecDepth 100000 in
theorem db_td_14 : decode prog_1_method_29_code 14 = .ok (.dup, 1) := rfl
set_option maxRecDepth 100000 in
theorem db_td_15 : decode prog_1_method_29_code 15 = .ok (.invokespecial 173, 3) := rfl
set_option maxRecDepth 100000 in
theorem db_td_18 : decode prog_1_method_29_code 18 = .ok (.athrow, 1) := rfl
set_option maxRecDepth 100000 in
theorem db_td_19 : decode prog_1_method_29_code 19 = .ok (.aload_n 0, 1) := rfl
set_option maxRecDepth 100000 in
theorem db_td_20 : decode prog_1_method_29_code 20 = .ok (.getfield 54, 3) := rfl
set_option maxRecDepth 100000 in
theorem db_td_23 : decode prog_1_method_29_code 23 = .ok (.iload_n 1, 1) := rfl
set_option maxRecDepth 100000 in
theorem db_td_24 : decode prog_1_method_29_code 24 = .ok (.invokevirtual 178, 3) := rfl
set_option maxRecDepth 100000 in
theorem db_td_27 : decode prog_1_method_29_code 27 = .ok (.aload_n 0, 1) := rfl
set_option maxRecDepth 100000 in
theorem db_td_28 : decode prog_1_method_29_code 28 = .ok (.getfield 47, 3) := rfl
set_option maxRecDepth 100000 in
theorem db_td_31 : decode prog_1_method_29_code 31 = .ok (.invokevirtual 377, 3) := rfl
set_option maxRecDepth 100000 in
theorem db_td_34 : decode prog_1_method_29_code 34 = .ok (.iload_n 2, 1) := rfl
set_option maxRecDepth 100000 in
theorem db_td_35 : decode prog_1_method_29_code 35 = .ok (.iconst (-1), 1) := rfl
set_option maxRecDepth 100000 in
theorem db_td_36 : decode prog_1_method_29_code 36 = .ok (.if_icmp .ne 11, 3) := rfl
set_option maxRecDepth 100000 in
theorem db_td_39 : decode prog_1_method_29_code 39 = .ok (.aload_n 0, 1) := rfl
set_option maxRecDepth 100000 in
theorem db_td_40 : decode prog_1_method_29_code 40 = .ok (.getfield 47, 3) := rfl
set_option maxRecDepth 100000 in
theorem db_td_43 : decode prog_1_method_29_code 43 = .ok (.invokevirtual 381, 3) := rfl
set_option maxRecDepth 100000 in
theorem db_td_46 : decode prog_1_method_29_code 46 = .ok (.ireturn, 1) := rfl
set_option maxRecDepth 100000 in
theorem db_td_47 : decode prog_1_method_29_code 47 = .ok (.iload_n 2, 1) := rfl
set_option maxRecDepth 100000 in
theorem db_td_48 : decode prog_1_method_29_code 48 = .ok (.ifCond .lt 14, 3) := rfl
set_option maxRecDepth 100000 in
theorem db_td_51 : decode prog_1_method_29_code 51 = .ok (.iload_n 2, 1) := rfl
set_option maxRecDepth 100000 in
theorem db_td_52 : decode prog_1_method_29_code 52 = .ok (.aload_n 0, 1) := rfl
set_option maxRecDepth 100000 in
theorem db_td_53 : decode prog_1_method_29_code 53 = .ok (.getfield 47, 3) := rfl
set_option maxRecDepth 100000 in
theorem db_td_56 : decode prog_1_method_29_code 56 = .ok (.invokevirtual 381, 3) := rfl
set_option maxRecDepth 100000 in
theorem db_td_59 : decode prog_1_method_29_code 59 = .ok (.if_icmp .lt 11, 3) := rfl
set_option maxRecDepth 100000 in
theorem db_td_62 : decode prog_1_method_29_code 62 = .ok (.new 171, 3) := rfl
set_option maxRecDepth 100000 in
theorem db_td_65 : decode prog_1_method_29_code 65 = .ok (.dup, 1) := rfl
set_option maxRecDepth 100000 in
theorem db_td_66 : decode prog_1_method_29_code 66 = .ok (.invokespecial 173, 3) := rfl
set_option maxRecDepth 100000 in
theorem db_td_69 : decode prog_1_method_29_code 69 = .ok (.athrow, 1) := rfl
set_option maxRecDepth 100000 in
theorem db_td_70 : decode prog_1_method_29_code 70 = .ok (.aload_n 0, 1) := rfl
set_option maxRecDepth 100000 in
theorem db_td_71 : decode prog_1_method_29_code 71 = .ok (.getfield 47, 3) := rfl
set_option maxRecDepth 100000 in
theorem db_td_74 : decode prog_1_method_29_code 74 = .ok (.iload_n 2, 1) := rfl
set_option maxRecDepth 100000 in
theorem db_td_75 : decode prog_1_method_29_code 75 = .ok (.invokevirtual 383, 3) := rfl
set_option maxRecDepth 100000 in
theorem db_td_78 : decode prog_1_method_29_code 78 = .ok (.ireturn, 1) := rfl
set_option maxRecDepth 100000 in
theorem lwo_2 : LWo "RingDater" 174 m_Stock_has := ⟨⟨gW_at (i := 691) rfl rfl, gW_at (i := 628) rfl rfl⟩, ⟨gW_at (i := 629) rfl rfl, gW_at (i := 105) rfl rfl⟩, rfl, by decide⟩
set_option maxRecDepth 100000 in
theorem lwo_3 : LWo "RingDater" 178 m_Stock_timberAt := ⟨⟨gW_at (i := 724) rfl rfl, gW_at (i := 624) rfl rfl⟩, ⟨gW_at (i := 625) rfl rfl, gW_at (i := 105) rfl rfl⟩, rfl, by decide⟩
set_option maxRecDepth 100000 in
theorem ft_RingDater_54 : Cond.fieldLink "RingDater" 54 (Tc 11 6).1 (Tc 11 6).2.1 (Tc 11 6).2.2.1 ∈ gW := gW_at (i := 555) rfl rfl
set_option maxRecDepth 100000 in
theorem ft_RingDater_47 : Cond.fieldLink "RingDater" 47 (Tc 11 5).1 (Tc 11 5).2.1 (Tc 11 5).2.2.1 ∈ gW := gW_at (i := 554) rfl rfl
set_option maxRecDepth 100000 in
theorem wb_26 : BWd 0 "RingDater" 377 yb_wo prog_11_method_17_code 3 none "RingDater$Timber" 1 := ⟨⟨⟨gW_at (i := 1415) rfl rfl, gW_at (i := 106) rfl rfl, gW_at (i := 1418) rfl rfl⟩, ⟨by decide, by decide, rfl⟩, by decide⟩, gW_at (i := 1416) rfl rfl, gW_at (i := 1417) rfl rfl⟩
set_option maxRecDepth 100000 in
theorem wb_27 : BWd 0 "RingDater" 381 yb_lenS prog_28_method_93_code 1 (some .int) RJ4 0 := ⟨⟨⟨gW_at (i := 1653) rfl rfl, gW_at (i := 115) rfl rfl, gW_at (i := 1586) rfl rfl⟩, ⟨by decide, by decide, rfl⟩, by decide⟩, gW_at (i := 1585) rfl rfl, gW_at (i := 2334) rfl rfl⟩
set_option maxRecDepth 100000 in
theorem wb_28 : BWd 0 "RingDater" 383 yb_charS prog_28_method_88_code 2 (some .char) RJ4 1 := ⟨⟨⟨gW_at (i := 1654) rfl rfl, gW_at (i := 115) rfl rfl, gW_at (i := 1657) rfl rfl⟩, ⟨by decide, by decide, rfl⟩, by decide⟩, gW_at (i := 1655) rfl rfl, gW_at (i := 1656) rfl rfl⟩
set_option maxRecDepth 100000 in
theorem wb_29 : BWd 0 lwN 59 yb_td prog_1_method_29_code 3 (some .int) "RingDater" 2 := ⟨⟨⟨gW_at (i := 1411) rfl rfl, gW_at (i := 103) rfl rfl, gW_at (i := 1414) rfl rfl⟩, ⟨by decide, by decide, rfl⟩, by decide⟩, gW_at (i := 1412) rfl rfl, gW_at (i := 1413) rfl rfl⟩
def tdR : Room := { frames := 70, cells := 92, slots := 11950, locals := 8000 }
def tdW : List Cond := Cond.code yb_td prog_1_method_29_code 3 (some .int) :: gW
section TD
variable {D : va_G} {tA : Nat → ClassId} {n0 o bs : Nat} {adr adV : Nat → Nat} {M : Mm} {f : Nat → Int64} {t : Nat} {i : Int}
variable {p : Program} {l : Launch} {e : Env} {s : State} {m : MethodId} {args : Array Value} {below : List Frame} {meth : Method} {c : Code} {Q : State → Prop} {ls : Array Slot}
/-- a timber's number -/
def tNo (t : Nat) : Nat := 82 + 3 * t
theorem tNo_is (ht : t < 8) : isTim (tNo t) := by
  have h := (show ∀ t, t < 8 → isTim (82 + 3 * t) from fun t ht => by
    match t, ht with
    | 0, _ => exact ⟨rfl, rfl, rfl⟩
    | 1, _ => exact ⟨rfl, rfl, rfl⟩
    | 2, _ => exact ⟨rfl, rfl, rfl⟩
    | 3, _ => exact ⟨rfl, rfl, rfl⟩
    | 4, _ => exact ⟨rfl, rfl, rfl⟩
    | 5, _ => exact ⟨rfl, rfl, rfl⟩
    | 6, _ => exact ⟨rfl, rfl, rfl⟩
    | 7, _ => exact ⟨rfl, rfl, rfl⟩)
  exact h t ht
def tWd (M : Mm) (t : Nat) : List Int := txW (M (tNo t) 3) (M (tNo t) 4) (tRw M (tNo t))
set_option maxHeartbeats 4000000 in
set_option maxRecDepth 100000 in
theorem td_mid (hm : LM n0 o bs adr) (X : BX p s m args c "RingDater" 3 prog_1_method_29_code) (hs : LSt D tA n0 adr adV s s.heap) (hh : LH D tA n0 o bs adr M f s.heap) (hw : wfS M 76) (ht8 : t < 8) (ht : (t : Int) < M 76 3) (hwt : wfT M (tNo t)) (hl : lv_has ls 3 [(0, .ref (adr 0)), (1, .int (iN (t : Int))), (2, .int (iN i))])
    (kk : ∀ x H1 lc1, LHX D tA n0 o bs adr M f x H1 → isTx x (tWd M t) → LV n0 s H1 lc1 → W p l e tdR s m args below meth c H1 lc1 90 11900 Q (F0 m 34 ls [])) : W p l e tdR s m args below meth c s.heap [] 0 0 Q (F0 m 0 ls []) := by
  obtain ⟨x, hh⟩ := hh.ex
  have hS : LV n0 s s.heap [] := va_S.rf
  have hlay : lay 0 = .inr (.inl (11, [some 1, some 33, some 60, some 68, some 73, some 198, some 76, some 106, some 111, some 114, some 115, some 145, some 150, some 153, none])) := rfl
  have hbs : bs = adr 198 := hm.2.2.2
  refine lv_aload_n (i := 0) (x := adr 0) X.1 X.2.1 db_td_0 rfl (lv_at hl 0 rfl) ?_
  refine t_get (k := 6) (r := some 76) X hs hh hlay (by decide) (by decide) rfl ft_RingDater_54 db_td_1 ?_
  refine lv_iload_n (i := 1) (x := iN (t : Int)) X.1 X.2.1 db_td_4 rfl (lv_at hl 1 rfl) ?_
  refine t_call (q := m_Stock_has) (b := 76) (As := [.inl (t : Int)]) (rest := []) X lwo_2 hm hs hh hS hl.1 (show (8 : Nat) = 8 from rfl) rfl ⟨by decide +kernel, by decide +kernel⟩ ⟨by decide, by decide⟩ (by simp) rfl db_td_5 (Stock_has_ok isStk_76 ⟨by omega, by omega⟩ hw) (fun v M2 H2 lc2 hv hh2 hS2 => ?_)
  obtain ⟨y, rfl, rfl, rfl⟩ := hv
  rw [if_pos ⟨by omega, ht⟩]
  refine lv_if_ne (tgt := 19) X.1 X.2.1 db_td_8 (by decide) (fun _ => ?_) (fun z => absurd z (by decide))
  refine lv_aload_n (i := 0) (x := adr 0) X.1 X.2.1 db_td_19 rfl (lv_at hl 0 rfl) ?_
  refine t_get (k := 6) (r := some 76) X hs hh2 hlay (by decide) (by decide) rfl ft_RingDater_54 db_td_20 ?_
  refine lv_iload_n (i := 1) (x := iN (t : Int)) X.1 X.2.1 db_td_23 rfl (lv_at hl 1 rfl) ?_
  refine t_call (q := m_Stock_timberAt) (b := 76) (As := [.inl (t : Int)]) (rest := []) X lwo_3 hm hs hh2 hS2 hl.1 (show (8 : Nat) = 8 from rfl) rfl ⟨by decide +kernel, by decide +kernel⟩ ⟨by decide, by decide⟩ (by simp) rfl db_td_24 (Stock_timberAt_ok isStk_76 ⟨by omega, by omega⟩ hw) (fun v M3 H3 lc3 hv hh3 hS3 => ?_)
  obtain ⟨y, rfl, rfl, rfl⟩ := hv
  have etm : tmA M3 76 (t : Int) = tNo t := by
    unfold tmA tNo
    rw [if_pos ⟨by omega, ht⟩, Int.toNat_natCast]
  rw [etm]
  show W p l e tdR s m args below meth c H3 lc3 0 0 Q (F0 m 27 ls [.ref (adr (tNo t))])
  refine lv_aload_n (i := 0) (x := adr 0) X.1 X.2.1 db_td_27 rfl (lv_at hl 0 rfl) ?_
  refine t_get (k := 5) (r := some 198) X hs hh3 hlay (by decide) (by decide) rfl ft_RingDater_47 db_td_28 ?_
  show W p l e tdR s m args below meth c H3 lc3 0 0 Q (F0 m 31 ls [.ref (adr 198), .ref (adr (tNo t))])
  rw [← hbs]
  have hts := X.2.2.2.2
  obtain ⟨⟨⟨w1, w2, w3⟩, w4, w5⟩, w6, w7⟩ := wb_26
  have ho := tNo_is ht8
  have hr := va_runV (p := p) (l := l) (e := e) (R := tdR) (s := s) (m := m) (args := args) (below := below) (meth := meth) (c := c) (H := H3) (locs := lc3) (cells := 0) (slots := 0) (b := adr (tNo t)) (g := F0 m 31 ls [.ref bs, .ref (adr (tNo t))]) (rest := []) (own := "RingDater") (Ts := gW) (nL := 3) (As := [.ref bs]) (C := "RingDater$Timber") (n := 1) (bytes := prog_11_method_17_code) (maxL := 3) (ret := none) X (writeOn_ok (l := l) (D := D) (tA := tA) (adV := adV) (M := M3) (f := f) ho hm hwt) ⟨callB_of 1 hts (code_good w3) rfl rfl rfl (hts _ w2) (hts _ w1) w4 ⟨by decide, by decide⟩, hts _ w6, hts _ w7⟩
    ⟨by
      intro a U g mk ⟨h, h1, h2⟩
      exact ⟨h, LSt.same (u := U) (U := U.calling g mk a) rfl h1, h2⟩, va_recv hs.1.1 hh3.1.2.1 (cls_el (show 9 < 13 by decide)).1 (ws_obj ho.1), fun U hU hW => ⟨rfl, hU ▸ hs.now hS3 hW, hU ▸ hh3.to⟩⟩ rfl rfl hl.1 rfl (lv_room (pc := 31) (ls := ls) (rest := [.ref bs, .ref (adr (tNo t))]) (by simp)) db_td_31 ⟨by decide, by decide⟩
  intro T hT XX
  obtain ⟨v, st₀, t2, T', L2, h0, X', hL2, e1, e2, ⟨⟨hv, x4, hh4, hx4⟩, hsz, hkk⟩, st⟩ := hr T hT XX
  rw [h0] at hsz hkk
  cases hv
  have K := kk x4 T'.heap (lc3 ++ L2) (by rw [e1]; exact hh4) hx4 (vS_app hS3 (by rw [e1]; exact hsz) (fun q h1 h2 => by rw [e1]; exact hkk q h1 h2) (fun q h => h) hL2)
  obtain ⟨t3, a1, b1⟩ := K T' rfl X'
  exact ⟨t3, st t3 a1, b1⟩
def TdPost (D : va_G) (tA : Nat → ClassId) (n0 o bs : Nat) (adr : Nat → Nat) (M : Mm) (f : Nat → Int64) (v : Int) : Array Value → State → Outcome → State → Prop := fun _ st oc t =>
  (oc = .returned (some (.int (iN v))) ∧ LH D tA n0 o bs adr M f t.heap) ∧ va_F (fun q => n0 ≤ q) st t
def TdX (D : va_G) (tA : Nat → ClassId) (n0 o bs : Nat) (adr : Nat → Nat) (M : Mm) (f : Nat → Int64) : String → State → State → Prop := fun E st t => E = excN 0 ∧ LH D tA n0 o bs adr M f t.heap ∧ va_F (fun q => n0 ≤ q) st t
set_option maxHeartbeats 4000000 in
set_option maxRecDepth 100000 in
theorem told_ok (hm : LM n0 o bs adr) (hw : wfS M 76) (ht8 : t < 8) (ht : (t : Int) < M 76 3) (hwt : wfT M (tNo t)) (hiR : inR i) (hi : i = -1 ∨ 0 ≤ i ∧ i < (tWd M t).length) : Met l yb_td tdW tdR (va_Pc [.ref (adr 0), .int (iN (t : Int)), .int (iN i)] (WoPre D tA n0 o bs adr adV M f)) (TdPost D tA n0 o bs adr M f (tdA (tWd M t) i)) 92 11950 (fun q => n0 ≤ q) := by
  refine Met.ofW (cc := prog_1_method_29_code) (maxL := 3) (ret := some .int) (by decide) rfl ?_
  intro p e s m args below meth c s₁ B hml hv
  obtain ⟨rfl, hs, hh⟩ := hv
  have hts := atoms_spec (ws := tdW) B.pre
  have hown : s.vm.findClass "RingDater" = some m.cls := findClass_of_methodNamed B.named
  rw [lg_entry_eq]
  have hl := lv_entry ([.ref (adr 0), .int (iN (t : Int)), .int (iN i)] : List Value) (n := 3) (by simp [lg_sl, Value.category])
  generalize (lg_sl ([.ref (adr 0), .int (iN (t : Int)), .int (iN i)] : List Value) ++ List.replicate (3 - (lg_sl ([.ref (adr 0), .int (iN (t : Int)), .int (iN i)] : List Value)).length) Slot.unset).toArray = ls at hl ⊢
  have hl : lv_has ls 3 [(0, .ref (adr 0)), (1, .int (iN (t : Int))), (2, .int (iN i))] := hl
  have X : BX p s m #[.ref (adr 0), .int (iN (t : Int)), .int (iN i)] c "RingDater" 3 prog_1_method_29_code := ⟨B.exec, B.bytes, hml, hown, fun w hw => hts w (List.mem_cons_of_mem _ hw)⟩
  have hret := B.returns
  have hlk := B.notSynchronized
  have hlay : lay 0 = .inr (.inl (11, [some 1, some 33, some 60, some 68, some 73, some 198, some 76, some 106, some 111, some 114, some 115, some 145, some 150, some 153, none])) := rfl
  have hbs : bs = adr 198 := hm.2.2.2
  refine td_mid hm X hs hh hw ht8 ht hwt hl (fun x H1 lc1 hh1 hx1 hS1 => ?_)
  have hN := hx1.1
  have hL : (tWd M t).length ≤ 109 := txW_len hwt.1.2
  refine lv_iload_n (i := 2) (x := iN i) X.1 X.2.1 db_td_34 rfl (lv_at hl 2 rfl) ?_
  refine lv_iconst (v := iN (-1)) X.1 X.2.1 db_td_35 (by decide) ?_
  by_cases c1 : i = -1
  · refine lv_icmp_ne (tgt := 47) X.1 X.2.1 db_td_36 (by decide) (fun z => absurd (by rw [c1]) z) (fun _ => ?_)
    refine lv_aload_n (i := 0) (x := adr 0) X.1 X.2.1 db_td_39 rfl (lv_at hl 0 rfl) ?_
    refine t_get (k := 5) (r := some 198) X hs hh1 hlay (by decide) (by decide) rfl ft_RingDater_47 db_td_40 ?_
    show W p l e tdR s m _ below meth c H1 lc1 90 11900 _ (F0 m 43 ls [.ref (adr 198)])
    rw [← hbs]
    refine t_bcall (As := []) (rest := []) X hm hs hh1 hS1 b_lenS trivial wb_27 rfl rfl hl.1 ⟨by decide, by decide⟩ ⟨by decide, by decide⟩ (by simp) rfl db_td_43 (fun v x2 H2 lc2 hv2 hh2 hS2 => ?_)
    obtain ⟨rfl, rfl⟩ := hv2
    have ev : tdA (tWd M t) i = (xN x2 : Int) := by
      unfold tdA
      rw [if_pos c1, hN]
    rw [ev]
    exact W.widen (by omega) (by omega) (W.iret X.1 X.2.1 hret (fun t2 ht2 _ => ⟨⟨rfl, by rw [ht2]; exact hh2.to⟩, va_S.F hS2 ht2⟩) hS2.2.2 db_td_46 hlk)
  · have i2 : 0 ≤ i ∧ i < (tWd M t).length := by omega
    refine lv_icmp_ne (tgt := 47) X.1 X.2.1 db_td_36 (by decide) (fun _ => ?_) (fun z => absurd ((iN_eq hiR ⟨by omega, by omega⟩).mp z) c1)
    refine lv_iload_n (i := 2) (x := iN i) X.1 X.2.1 db_td_47 rfl (lv_at hl 2 rfl) ?_
    refine lv_if_lt (tgt := 62) X.1 X.2.1 db_td_48 (by decide) (fun z => absurd ((iN_lt hiR inR_0).mp z) (by omega)) (fun _ => ?_)
    refine lv_iload_n (i := 2) (x := iN i) X.1 X.2.1 db_td_51 rfl (lv_at hl 2 rfl) ?_
    refine lv_aload_n (i := 0) (x := adr 0) X.1 X.2.1 db_td_52 rfl (lv_at hl 0 rfl) ?_
    refine t_get (k := 5) (r := some 198) X hs hh1 hlay (by decide) (by decide) rfl ft_RingDater_47 db_td_53 ?_
    show W p l e tdR s m _ below meth c H1 lc1 90 11900 _ (F0 m 56 ls [.ref (adr 198), .int (iN i)])
    rw [← hbs]
    refine t_bcall (As := []) (rest := [.int (iN i)]) X hm hs hh1 hS1 b_lenS trivial wb_27 rfl rfl hl.1 ⟨by decide, by decide⟩ ⟨by decide, by decide⟩ (by simp [Value.category]) rfl db_td_56 (fun v x2 H2 lc2 hv2 hh2 hS2 => ?_)
    obtain ⟨rfl, rfl⟩ := hv2
    show W p l e tdR s m _ below meth c H2 lc2 90 11900 _ (F0 m 59 ls [.int (iN (xN x2 : Int)), .int (iN i)])
    refine lv_icmp_lt (tgt := 70) X.1 X.2.1 db_td_59 (by decide) (fun _ => ?_) (fun z => absurd ((iN_lt hiR (y := (xN x2 : Int)) ⟨by omega, by omega⟩).mpr (by omega)) z)
    refine lv_aload_n (i := 0) (x := adr 0) X.1 X.2.1 db_td_70 rfl (lv_at hl 0 rfl) ?_
    refine t_get (k := 5) (r := some 198) X hs hh2 hlay (by decide) (by decide) rfl ft_RingDater_47 db_td_71 ?_
    show W p l e tdR s m _ below meth c H2 lc2 90 11900 _ (F0 m 74 ls [.ref (adr 198)])
    rw [← hbs]
    refine lv_iload_n (i := 2) (x := iN i) X.1 X.2.1 db_td_74 rfl (lv_at hl 2 rfl) ?_
    refine t_bcall (As := [.int (iN i)]) (rest := []) X hm hs hh2 hS2 (b_charS (i := i)) ⟨i2.1, by omega⟩ wb_28 rfl rfl hl.1 ⟨by decide, by decide⟩ ⟨by decide, by decide⟩ (by simp) rfl db_td_75 (fun v x3 H3 lc3 hv3 hh3 hS3 => ?_)
    obtain ⟨rfl, rfl⟩ := hv3
    have ev : tdA (tWd M t) i = xT x3 i.toNat := by
      unfold tdA
      rw [if_neg c1, hx1.2 _ (by omega)]
    rw [ev]
    exact W.widen (by omega) (by omega) (W.iret X.1 X.2.1 hret (fun t2 ht2 _ => ⟨⟨rfl, by rw [ht2]; exact hh3.to⟩, va_S.F hS3 ht2⟩) hS3.2.2 db_td_78 hlk)
set_option maxHeartbeats 4000000 in
set_option maxRecDepth 100000 in
theorem told_x (hfl : l.stackTraces = false) (hm : LM n0 o bs adr) (hw : wfS M 76) (ht8 : t < 8) (ht : (t : Int) < M 76 3) (hwt : wfT M (tNo t)) (hiR : inR i) (hi : ¬ (i = -1 ∨ 0 ≤ i ∧ i < (tWd M t).length)) : vx_Met l yb_td tdW tdR (va_Pc [.ref (adr 0), .int (iN (t : Int)), .int (iN i)] (WoPre D tA n0 o bs adr adV M f)) (fun _ _ _ _ => False) (TdX D tA n0 o bs adr M f) 92 11950 (fun q => n0 ≤ q) := by
  refine vx_ofW (cc := prog_1_method_29_code) (maxL := 3) (ret := some .int) (by decide) rfl ?_
  intro p e s m args below meth c s₁ B hml hex hv
  obtain ⟨rfl, hs, hh⟩ := hv
  have hts := atoms_spec (ws := tdW) B.pre
  have hown : s.vm.findClass "RingDater" = some m.cls := findClass_of_methodNamed B.named
  rw [lg_entry_eq]
  have hl := lv_entry ([.ref (adr 0), .int (iN (t : Int)), .int (iN i)] : List Value) (n := 3) (by simp [lg_sl, Value.category])
  generalize (lg_sl ([.ref (adr 0), .int (iN (t : Int)), .int (iN i)] : List Value) ++ List.replicate (3 - (lg_sl ([.ref (adr 0), .int (iN (t : Int)), .int (iN i)] : List Value)).length) Slot.unset).toArray = ls at hl ⊢
  have hl : lv_has ls 3 [(0, .ref (adr 0)), (1, .int (iN (t : Int))), (2, .int (iN i))] := hl
  have X : BX p s m #[.ref (adr 0), .int (iN (t : Int)), .int (iN i)] c "RingDater" 3 prog_1_method_29_code := ⟨B.exec, B.bytes, hml, hown, fun w hw => hts w (List.mem_cons_of_mem _ hw)⟩
  have hret := B.returns
  have hlk := B.notSynchronized
  have hlay : lay 0 = .inr (.inl (11, [some 1, some 33, some 60, some 68, some 73, some 198, some 76, some 106, some 111, some 114, some 115, some 145, some 150, some 153, none])) := rfl
  have hbs : bs = adr 198 := hm.2.2.2
  refine td_mid hm X hs hh hw ht8 ht hwt hl (fun x H1 lc1 hh1 hx1 hS1 => ?_)
  have hN := hx1.1
  have hL : (tWd M t).length ≤ 109 := txW_len hwt.1.2
  have hwd := X.2.2.2.2
  have thr : ∀ (H2 : Heap) (lc2 : List Loc) (st : List Value), LH D tA n0 o bs adr M f H2 → LV n0 s H2 lc2 → (st.map fun v => v.category).sum ≤ 4 → W p l e tdR s m #[.ref (adr 0), .int (iN (t : Int)), .int (iN i)] below meth c H2 lc2 90 11900 (vx_MQ below (fun _ _ _ _ => False) (TdX D tA n0 o bs adr M f) #[.ref (adr 0), .int (iN (t : Int)), .int (iN i)] s 92 11950 (fun q => n0 ≤ q)) (F0 m 62 ls st) := fun H2 lc2 st hh2 hS2 hst => by
    have hxx : ∀ t2 : State, s.vm.Alike t2.vm → H2.size ≤ t2.heap.size → (∀ q : Nat, q < H2.size → t2.heap[q]? = H2[q]?) → TdX D tA n0 o bs adr M f (excN 0) s t2 := fun t2 _ h1 h2 => ⟨rfl, by
      obtain ⟨a1, a2, a3, bb, cap, cnt, ml, T2, a4, a5, a6, a7⟩ := hh2
      exact ⟨Nat.le_trans a1 h1, a2.kept (fun k q hq => h2 _ ((a2 k q hq).lt)), a3.kept (h2 _ a3.lt), bb, cap, cnt, ml, T2, a4, a5, a6.kept (h2 _ a6.lt), a7.kept (h2 _ a7.lt)⟩, Nat.le_trans hS2.1 h1, fun q h3 h4 => (h2 q (Nat.lt_of_lt_of_le h3 hS2.1)).trans (hS2.2.1 q h3 h4)⟩
    exact vx_throw0 (own := Rn 11) (cls := excN 0) (names := excUp) (A := fun q => n0 ≤ q) X.1 X.2.1 hfl X.2.2.2.1 (by decide +kernel) (by decide +kernel) (hwd _ (gW_of (ex0_in _ (by simp)) rfl)) (hwd _ (gW_of (ex0_in _ (by simp)) rfl))
      (vx_hat (B := excD) (fun w hh => hwd w (gW_of (ex0_at w hh) (List.mem_filter.mp hh).2)) (fun w hh => List.mem_append_left _ hh) (hs.2.2.2.1.at _)) ex0_ot hs.2.1.2.2.1 hs.2.1.2.2.2 hS2 (hl.1.trans X.2.2.1.symm) db_td_62 db_td_65 db_td_66 db_td_69 (fun x hx => (hex x hx).elim) (by show 2 + 3 < 70; omega) (by show (st.map fun v => v.category).sum + (13 * (2 + 1) + 42) ≤ 8000; omega) (by show 90 + 1 ≤ 92; omega) (by show 11900 + 6 ≤ 11950; omega) hlk hxx hS2.2.2 (by omega) (by omega)
  refine lv_iload_n (i := 2) (x := iN i) X.1 X.2.1 db_td_34 rfl (lv_at hl 2 rfl) ?_
  refine lv_iconst (v := iN (-1)) X.1 X.2.1 db_td_35 (by decide) ?_
  refine lv_icmp_ne (tgt := 47) X.1 X.2.1 db_td_36 (by decide) (fun _ => ?_) (fun z => absurd ((iN_eq hiR ⟨by omega, by omega⟩).mp z) (by omega))
  refine lv_iload_n (i := 2) (x := iN i) X.1 X.2.1 db_td_47 rfl (lv_at hl 2 rfl) ?_
  refine lv_if_lt (tgt := 62) X.1 X.2.1 db_td_48 (by decide) (fun _ => thr H1 lc1 [] hh1.to hS1 (by simp)) (fun z => ?_)
  have i0 : 0 ≤ i := by
    have : ¬ i < 0 := fun h => z ((iN_lt hiR inR_0).mpr h)
    omega
  refine lv_iload_n (i := 2) (x := iN i) X.1 X.2.1 db_td_51 rfl (lv_at hl 2 rfl) ?_
  refine lv_aload_n (i := 0) (x := adr 0) X.1 X.2.1 db_td_52 rfl (lv_at hl 0 rfl) ?_
  refine t_get (k := 5) (r := some 198) X hs hh1 hlay (by decide) (by decide) rfl ft_RingDater_47 db_td_53 ?_
  show W p l e tdR s m _ below meth c H1 lc1 90 11900 _ (F0 m 56 ls [.ref (adr 198), .int (iN i)])
  rw [← hbs]
  refine t_bcall (As := []) (rest := [.int (iN i)]) X hm hs hh1 hS1 b_lenS trivial wb_27 rfl rfl hl.1 ⟨by decide, by decide⟩ ⟨by decide, by decide⟩ (by simp [Value.category]) rfl db_td_56 (fun v x2 H2 lc2 hv2 hh2 hS2 => ?_)
  obtain ⟨rfl, rfl⟩ := hv2
  show W p l e tdR s m _ below meth c H2 lc2 90 11900 _ (F0 m 59 ls [.int (iN (xN x2 : Int)), .int (iN i)])
  refine lv_icmp_lt (tgt := 70) X.1 X.2.1 db_td_59 (by decide) (fun z => absurd ((iN_lt hiR (y := (xN x2 : Int)) ⟨by omega, by omega⟩).mp z) (by omega)) (fun _ => thr H2 lc2 [] hh2.to hS2 (by simp))
end TD

/-! TOLD, 5: no such timber; the wrapper (words and rows printed by wip/whole/g7t.py). -/
section TE
variable {D : va_G} {tA : Nat → ClassId} {n0 o bs : Nat} {adr adV : Nat → Nat} {M : Mm} {f : Nat → Int64} {p0 p1 : Int}
variable {l : Launch}
set_option maxHeartbeats 4000000 in
set_option maxRecDepth 100000 in
theorem told_x0 (hfl : l.stackTraces = false) (hm : LM n0 o bs adr) (hw : wfS M 76) (htR : inR p0) (ht : ¬ (0 ≤ p0 ∧ p0 < M 76 3)) : vx_Met l yb_td tdW tdR (va_Pc [.ref (adr 0), .int (iN p0), .int (iN p1)] (WoPre D tA n0 o bs adr adV M f)) (fun _ _ _ _ => False) (TdX D tA n0 o bs adr M f) 92 11950 (fun q => n0 ≤ q) := by
  refine vx_ofW (cc := prog_1_method_29_code) (maxL := 3) (ret := some .int) (by decide) rfl ?_
  intro p e s m args below meth c s₁ B hml hex hv
  obtain ⟨rfl, hs, hh⟩ := hv
  obtain ⟨x, hh⟩ := hh.ex
  have hts := atoms_spec (ws := tdW) B.pre
  have hown : s.vm.findClass "RingDater" = some m.cls := findClass_of_methodNamed B.named
  rw [lg_entry_eq]
  have hl := lv_entry ([.ref (adr 0), .int (iN p0), .int (iN p1)] : List Value) (n := 3) (by simp [lg_sl, Value.category])
  generalize (lg_sl ([.ref (adr 0), .int (iN p0), .int (iN p1)] : List Value) ++ List.replicate (3 - (lg_sl ([.ref (adr 0), .int (iN p0), .int (iN p1)] : List Value)).length) Slot.unset).toArray = ls at hl ⊢
  have hl : lv_has ls 3 [(0, .ref (adr 0)), (1, .int (iN p0)), (2, .int (iN p1))] := hl
  have X : BX p s m #[.ref (adr 0), .int (iN p0), .int (iN p1)] c "RingDater" 3 prog_1_method_29_code := ⟨B.exec, B.bytes, hml, hown, fun w hw => hts w (List.mem_cons_of_mem _ hw)⟩
  have hlk := B.notSynchronized
  have hlay : lay 0 = .inr (.inl (11, [some 1, some 33, some 60, some 68, some 73, some 198, some 76, some 106, some 111, some 114, some 115, some 145, some 150, some 153, none])) := rfl
  have hS : LV n0 s s.heap [] := va_S.rf
  have hwd := X.2.2.2.2
  refine lv_aload_n (i := 0) (x := adr 0) X.1 X.2.1 db_td_0 rfl (lv_at hl 0 rfl) ?_
  refine t_get (k := 6) (r := some 76) X hs hh hlay (by decide) (by decide) rfl ft_RingDater_54 db_td_1 ?_
  refine lv_iload_n (i := 1) (x := iN p0) X.1 X.2.1 db_td_4 rfl (lv_at hl 1 rfl) ?_
  refine t_call (q := m_Stock_has) (b := 76) (As := [.inl p0]) (rest := []) X lwo_2 hm hs hh hS hl.1 (show (8 : Nat) = 8 from rfl) rfl ⟨by decide +kernel, by decide +kernel⟩ ⟨by decide, by decide⟩ (by simp) rfl db_td_5 (Stock_has_ok isStk_76 htR hw) (fun v M2 H2 lc2 hv hh2 hS2 => ?_)
  obtain ⟨y, rfl, rfl, rfl⟩ := hv
  rw [if_neg ht]
  refine lv_if_ne (tgt := 19) X.1 X.2.1 db_td_8 (by decide) (fun z => absurd rfl z) (fun _ => ?_)
  have hh2 := hh2.to
  have hxx : ∀ t2 : State, s.vm.Alike t2.vm → H2.size ≤ t2.heap.size → (∀ q : Nat, q < H2.size → t2.heap[q]? = H2[q]?) → TdX D tA n0 o bs adr M2 f (excN 0) s t2 := fun t2 _ h1 h2 => ⟨rfl, by
    obtain ⟨a1, a2, a3, bb, cap, cnt, ml, T2, a4, a5, a6, a7⟩ := hh2
    exact ⟨Nat.le_trans a1 h1, a2.kept (fun k q hq => h2 _ ((a2 k q hq).lt)), a3.kept (h2 _ a3.lt), bb, cap, cnt, ml, T2, a4, a5, a6.kept (h2 _ a6.lt), a7.kept (h2 _ a7.lt)⟩, Nat.le_trans hS2.1 h1, fun q h3 h4 => (h2 q (Nat.lt_of_lt_of_le h3 hS2.1)).trans (hS2.2.1 q h3 h4)⟩
  exact vx_throw0 (own := Rn 11) (cls := excN 0) (names := excUp) (A := fun q => n0 ≤ q) X.1 X.2.1 hfl X.2.2.2.1 (by decide +kernel) (by decide +kernel) (hwd _ (gW_of (ex0_in _ (by simp)) rfl)) (hwd _ (gW_of (ex0_in _ (by simp)) rfl))
    (vx_hat (B := excD) (fun w hh => hwd w (gW_of (ex0_at w hh) (List.mem_filter.mp hh).2)) (fun w hh => List.mem_append_left _ hh) (hs.2.2.2.1.at _)) ex0_ot hs.2.1.2.2.1 hs.2.1.2.2.2 hS2 (hl.1.trans X.2.2.1.symm) db_td_11 db_td_14 db_td_15 db_td_18 (fun x hx => (hex x hx).elim) (by show 2 + 3 < 70; omega) (by show (([] : List Value).map fun v => v.category).sum + (13 * (2 + 1) + 42) ≤ 8000; simp) (by show 0 + 1 ≤ 92; omega) (by show 0 + 6 ≤ 11950; omega) hlk hxx hS2.2.2 (by omega) (by omega)
end TE
theorem Wo_blind {D : va_G} {tA : Nat → ClassId} {n0 o bs : Nat} {adr adV : Nat → Nat} {M : Mm} {f : Nat → Int64} {vs : List Value} : FrameBlind (va_Pc vs (WoPre D tA n0 o bs adr adV M f)) := by
  intro a U g mk ⟨h, h1, h2⟩
  exact ⟨h, LSt.same (u := U) (U := U.calling g mk a) rfl h1, h2⟩
set_option maxHeartbeats 4000000 in
set_option maxRecDepth 100000 in
theorem wr_toldA {p0 p1 v : Int} {k : Nat} {M : Mm} (hq : WQ m_Model_told [.inl p0, .inl p1] k 0 v M) (hM : ∀ (l : Launch) (D : va_G) (tA : Nat → ClassId) (n0 o bs : Nat) (adr adV : Nat → Nat) (f : Nat → Int64), LM n0 o bs adr → Met l yb_td tdW tdR (va_Pc [.ref (adr 0), .int (iN p0), .int (iN p1)] (WoPre D tA n0 o bs adr adV M f)) (TdPost D tA n0 o bs adr M f v) 92 11950 (fun q => n0 ≤ q)) : WrC yw_told method_17_code 5 [(0, 10, 13, 18)] [.inl p0, .inl p1] M (WQ m_Model_told [.inl p0, .inl p1] k) := by
  refine wr_of (by decide) rfl (fun adr o => by simp [lg_sl, cvA, Value.category]) ?_
  intro p l e s m args below meth c D tA n0 o bs adr adV f ls hfl hL X hs hh htab hret hlk hl
  have hl : lv_has ls 5 [(0, .ref (adr 0)), (1, .int (iN p0)), (2, .int (iN p1)), (3, .ref o)] := hl
  refine lv_aload_n (i := 3) (x := o) X.1 X.2.1 dw_told_0 rfl (lv_at hl 3 rfl) ?_
  refine lv_iconst (v := 0) X.1 X.2.1 dw_told_1 (by decide) ?_
  refine lv_aload_n (i := 0) (x := adr 0) X.1 X.2.1 dw_told_2 rfl (lv_at hl 0 rfl) ?_
  refine lv_iload_n (i := 1) (x := iN p0) X.1 X.2.1 dw_told_3 rfl (lv_at hl 1 rfl) ?_
  refine lv_iload_n (i := 2) (x := iN p1) X.1 X.2.1 dw_told_4 rfl (lv_at hl 2 rfl) ?_
  have hS : LV n0 s s.heap [] := va_S.rf
  have hts := X.2.2.2.2
  obtain ⟨⟨⟨w1, w2, w3⟩, w4, w5⟩, w6, w7⟩ := wb_29
  have hr := va_runV (p := p) (l := l) (e := e) (R := wrR) (s := s) (m := m) (args := args) (below := below) (meth := meth) (c := c) (H := s.heap) (locs := []) (cells := 0) (slots := 0) (b := adr 0) (g := F0 m 5 ls [.int (iN p1), .int (iN p0), .ref (adr 0), .int 0, .ref o]) (rest := [.int 0, .ref o]) (own := lwN) (Ts := gW) (nL := 5) (As := [.int (iN p0), .int (iN p1)]) (C := "RingDater") (n := 2) (bytes := prog_1_method_29_code) (maxL := 3) (ret := some .int) X (hM l D tA n0 o bs adr adV f hL) ⟨callB_of 2 hts (code_good w3) rfl rfl rfl (hts _ w2) (hts _ w1) w4 ⟨by decide, by decide⟩, hts _ w6, hts _ w7⟩
    ⟨Wo_blind, l_recv hs hh lwd_59.2.2.2 (show (11 : Nat) = 11 from rfl), fun U hU hW => ⟨rfl, hU ▸ hs.now hS hW, hU ▸ hh⟩⟩ rfl rfl hl.1 rfl (lv_room (pc := 5) (ls := ls) (rest := [.int (iN p1), .int (iN p0), .ref (adr 0), .int 0, .ref o]) (by simp [Value.category])) dw_told_5 ⟨by decide, by decide⟩
  intro T hT XX
  obtain ⟨v1, st₀, t2, T', L2, h0, X', hL2, e1, e2, ⟨⟨hv, hh1⟩, hsz, hkk⟩, st⟩ := hr T hT XX
  rw [h0] at hsz hkk
  cases hv
  have hS1 : LV n0 s T'.heap ([] ++ L2) := vS_app hS (by rw [e1]; exact hsz) (fun q h1 h2 => by rw [e1]; exact hkk q h1 h2) (fun q h => h) hL2
  have hh2 : LH D tA n0 o bs adr M f T'.heap := by rw [e1]; exact hh1
  have G : W p l e wrR s m args below meth c T'.heap ([] ++ L2) (0 + 92) (0 + 11950) (MQ below (WPost D tA n0 o bs adr (WQ m_Model_told [.inl p0, .inl p1] k)) args s 100 12000 (fun q => n0 ≤ q)) (F0 m 8 ls [.int (iN v), .int 0, .ref o]) := by
    refine lv_i2l X.1 X.2.1 dw_told_8 rfl ?_
    refine l_out X hL hs hh2 hS1 dw_told_9 (fun H2 locs2 hh3 hS2 => ?_)
    refine lv_goto (tgt := 17) X.1 X.2.1 dw_told_10 (by decide) ?_
    refine lv_iconst (v := iN 0) X.1 X.2.1 dw_told_17 (by decide) ?_
    refine wr_fin (r := 0) (x := v) X hret hlk hq (fun _ => ?_) hh3 hS2 (by omega) (by omega) dw_told_18
    simp [vp_updL]
  obtain ⟨t3, a1, b1⟩ := G T' rfl X'
  exact ⟨t3, st t3 a1, b1⟩
set_option maxHeartbeats 4000000 in
set_option maxRecDepth 100000 in
theorem wr_toldB {p0 p1 : Int} {k : Nat} {M : Mm} (hq : CallI m_Model_told [.inr 154, .inl p0, .inl p1] M (fun _ M2 => M2 154 1 = 1 ∧ Rel (k + 1) M2)) (hM : ∀ (l : Launch) (D : va_G) (tA : Nat → ClassId) (n0 o bs : Nat) (adr adV : Nat → Nat) (f : Nat → Int64), l.stackTraces = false → LM n0 o bs adr → vx_Met l yb_td tdW tdR (va_Pc [.ref (adr 0), .int (iN p0), .int (iN p1)] (WoPre D tA n0 o bs adr adV M f)) (fun _ _ _ _ => False) (TdX D tA n0 o bs adr M f) 92 11950 (fun q => n0 ≤ q)) : WrC yw_told method_17_code 5 [(0, 10, 13, 18)] [.inl p0, .inl p1] M (WQ m_Model_told [.inl p0, .inl p1] k) := by
  refine wr_of (by decide) rfl (fun adr o => by simp [lg_sl, cvA, Value.category]) ?_
  intro p l e s m args below meth c D tA n0 o bs adr adV f ls hfl hL X hs hh htab hret hlk hl
  have hl : lv_has ls 5 [(0, .ref (adr 0)), (1, .int (iN p0)), (2, .int (iN p1)), (3, .ref o)] := hl
  refine lv_aload_n (i := 3) (x := o) X.1 X.2.1 dw_told_0 rfl (lv_at hl 3 rfl) ?_
  refine lv_iconst (v := 0) X.1 X.2.1 dw_told_1 (by decide) ?_
  refine lv_aload_n (i := 0) (x := adr 0) X.1 X.2.1 dw_told_2 rfl (lv_at hl 0 rfl) ?_
  refine lv_iload_n (i := 1) (x := iN p0) X.1 X.2.1 dw_told_3 rfl (lv_at hl 1 rfl) ?_
  refine lv_iload_n (i := 2) (x := iN p1) X.1 X.2.1 dw_told_4 rfl (lv_at hl 2 rfl) ?_
  have hS : LV n0 s s.heap [] := va_S.rf
  have hts := X.2.2.2.2
  obtain ⟨⟨⟨w1, w2, w3⟩, w4, w5⟩, w6, w7⟩ := wb_29
  have hr := vx_runV (p := p) (l := l) (e := e) (R := wrR) (s := s) (m := m) (args := args) (below := below) (meth := meth) (c := c) (H := s.heap) (locs := []) (cells := 0) (slots := 0) (b := adr 0) (g := F0 m 5 ls [.int (iN p1), .int (iN p0), .ref (adr 0), .int 0, .ref o]) (rest := [.int 0, .ref o]) (own := lwN) (Ts := gW) (nL := 5) (As := [.int (iN p0), .int (iN p1)]) (C := "RingDater") (n := 2) (bytes := prog_1_method_29_code) (maxL := 3) (ret := some .int) X (hM l D tA n0 o bs adr adV f hfl hL) ⟨callB_of 2 hts (code_good w3) rfl rfl rfl (hts _ w2) (hts _ w1) w4 ⟨by decide, by decide⟩, hts _ w6, hts _ w7⟩
    ⟨Wo_blind, l_recv hs hh lwd_59.2.2.2 (show (11 : Nat) = 11 from rfl), fun U hU hW => ⟨rfl, hU ▸ hs.now hS hW, hU ▸ hh⟩⟩ rfl rfl hl.1 rfl (lv_room (pc := 5) (ls := ls) (rest := [.int (iN p1), .int (iN p0), .ref (adr 0), .int 0, .ref o]) (by simp [Value.category])) dw_told_5 ⟨by decide, by decide⟩
  intro T hT XX
  rcases hr T hT XX with ⟨v, st₀, t, T', L2, h0, X', hL2, e1, e2, hF, st⟩ | ⟨q9, st₀, t, T', L2, E, ce, h0, X', hL2, e1, e2, ⟨rfl, hh1, hsz, hkk⟩, hce, hcv, hcl, st⟩
  · exact hF.elim
  rw [h0] at hsz hkk
  have hS1 : LV n0 s T'.heap ([] ++ L2) := vS_app hS (by rw [e1]; exact hsz) (fun q h1 h2 => by rw [e1]; exact hkk q h1 h2) (fun q h => h) hL2
  have hh2 : LH D tA n0 o bs adr M f T'.heap := by rw [e1]; exact hh1
  have G : vx_W p l e wrR s m args below meth c T'.heap ([] ++ L2) (0 + 92) (0 + 11950) (MQ below (WPost D tA n0 o bs adr (WQ m_Model_told [.inl p0, .inl p1] k)) args s 100 12000 (fun q => n0 ≤ q)) (F0 m 5 ls [.int 0, .ref o]) q9 := by
    refine vx_catch (own := lwN) (name := excN 0) (E := excN 0) X.2.2.2.1 [] ⟨0, 10, 13, 18⟩ [] htab (fun z hz => by cases hz) (by decide) (by decide) (X.2.2.2.2 _ lk_18) (hs.2.2.2.1.at _ _ ex_c0) (by rw [e1]; exact hce) hcv hcl ?_
    refine lv_astore X.1 X.2.1 dw_told_13 hl (by decide) rfl (fun ls2 hl2 => ?_)
    refine lv_iconst (v := iN 1) X.1 X.2.1 dw_told_15 (by decide) ?_
    exact wr_fin (r := 1) (x := 0) X hret hlk ⟨⟨⟨by decide, by decide⟩, inR_0⟩, hq.mono (fun y M2 w => ⟨w.1, fun h => absurd h (by decide), w.2⟩)⟩ (fun h => absurd h (by decide)) hh2 hS1 (by omega) (by omega) dw_told_16
  obtain ⟨t3, a1, b1⟩ := G T' rfl X'
  exact ⟨t3, st.trans a1, b1⟩
theorem dgW_in {v : Int} (h0 : 0 ≤ v) (h1 : v ≤ 99) : ∀ c ∈ dgW v, 0 ≤ c ∧ c ≤ 127 := by
  unfold dgW
  split
  · intro c hc
    rw [List.mem_singleton.mp hc]
    omega
  · intro c hc
    rcases List.mem_cons.mp hc with rfl | hc
    · omega
    · rw [List.mem_singleton.mp hc]
      omega
theorem rgW_in {A : Rw} (h : ∀ j : Nat, 0 ≤ A.1 j ∧ A.1 j ≤ 99) : ∀ r, ∀ c ∈ rgW A r, 0 ≤ c ∧ c ≤ 127
  | 0 => fun c hc => by cases hc
  | r + 1 => fun c hc => by
    rcases List.mem_append.mp hc with hc | hc
    · exact rgW_in h r c hc
    · rcases List.mem_append.mp hc with hc | hc
      · rcases List.mem_cons.mp hc with rfl | hc
        · omega
        · exact dgW_in (h r).1 (h r).2 c hc
      · split at hc
        · cases hc
        · rw [List.mem_singleton.mp hc]; omega
theorem txW_in {M : Mm} {t : Nat} (hw : wfT M (tNo t)) (j : Nat) : inR ((tWd M t).getD j 0) := by
  obtain ⟨⟨r0, r1⟩, hwd, -, ⟨l0, l1⟩, ⟨m0, m1⟩, -⟩ := hw
  have hA : ∀ j : Nat, 0 ≤ (tRw M (tNo t)).1 j ∧ (tRw M (tNo t)).1 j ≤ 99 := fun j => by
    show 0 ≤ (if (j : Int) < M (tNo t) 2 then M (tNo t + 1) j else 0) ∧ (if (j : Int) < M (tNo t) 2 then M (tNo t + 1) j else 0) ≤ 99
    split
    · exact hwd j (by omega)
    · omega
  have hall : ∀ c ∈ tWd M t, 0 ≤ c ∧ c ≤ 127 := by
    intro c hc
    unfold tWd txW at hc
    rcases List.mem_append.mp hc with hc | hc
    · rcases List.mem_append.mp hc with hc | hc
      · rcases List.mem_append.mp hc with hc | hc
        · rcases List.mem_append.mp hc with hc | hc
          · exact (show ∀ c ∈ tW0, 0 ≤ c ∧ c ≤ 127 by decide) c hc
          · rcases List.mem_cons.mp hc with rfl | hc
            · omega
            · exact dgW_in l0 (by omega) c hc
        · rcases List.mem_cons.mp hc with rfl | hc
          · omega
          · exact dgW_in m0 (by omega) c hc
      · exact rgW_in hA _ c hc
    · rw [List.mem_singleton.mp hc]; omega
  by_cases h : j < (tWd M t).length
  · have := hall _ (List.getElem_mem h)
    rw [List.getD_eq_getElem?_getD, List.getElem?_eq_getElem h]
    exact ⟨by show -2147483648 ≤ (tWd M t)[j]; omega, by show (tWd M t)[j] ≤ 2147483647; omega⟩
  · rw [List.getD_eq_getElem?_getD, List.getElem?_eq_none (by omega)]
    exact inR_0
theorem wr_told {p0 p1 : Int} {k : Nat} {M : Mm} (hR : Rel k M) (h0 : inR p0) (h1 : inR p1) : WrC yw_told method_17_code 5 [(0, 10, 13, 18)] [.inl p0, .inl p1] M (WQ m_Model_told [.inl p0, .inl p1] k) := by
  obtain ⟨n, T, Y, lap, bnd, mrg, hc, hm, hx⟩ := id hR
  have hw : wfS M 76 := hc.1.1.1
  obtain ⟨e3, n8⟩ := hc.2.1
  by_cases c : 0 ≤ p0 ∧ p0 < M 76 3
  · obtain ⟨t, rfl⟩ : ∃ t : Nat, p0 = (t : Int) := ⟨p0.toNat, by omega⟩
    have ht : t < n := by omega
    have hwt : wfT M (tNo t) := hw.2.2.2.2.1 t (by omega)
    obtain ⟨r1, r2, r3⟩ := relX_row hx ht
    have eT : tRw M (tNo t) = T t := (hc.2.2.1 t (by omega)).1
    have eW : tWd M t = txW (M 158 (30 * t + 1)) (M 158 (30 * t + 2)) (T t) := by
      unfold tWd
      rw [eT]
      show txW (M (82 + 3 * t) 3) (M (82 + 3 * t) 4) (T t) = _
      rw [r1, r2]
    by_cases ci : p1 = -1 ∨ 0 ≤ p1 ∧ p1 < (tWd M t).length
    · have hv : inR (tdA (tWd M t) p1) := by
        have hL : (tWd M t).length ≤ 109 := txW_len hwt.1.2
        unfold tdA
        split
        · exact ⟨by omega, by omega⟩
        · exact txW_in hwt _
      refine wr_toldA (v := tdA (tWd M t) p1) ⟨⟨inR_0, hv⟩, (Mtold_ok hm ht (by rw [← eW]; exact ci) h1).mono (fun y M2 w => ?_)⟩ (fun l D tA n0 o bs adr adV f hL => told_ok hL hw (by omega) c.2 hwt h1 ci)
      obtain ⟨rfl, w2⟩ := w
      have q := rel_q hm hx hc FrP.rf w2
      exact ⟨q.1, fun _ => by rw [eW], q.2⟩
    · refine wr_toldB ((Mtold_x2 hm ht (by rw [← eW]; exact ci) h1).mono (fun y M2 w => ?_)) (fun l D tA n0 o bs adr adV f hfl hL => told_x hfl hL hw (by omega) c.2 hwt h1 ci)
      exact rel_q hm hx hc FrP.rf w
  · refine wr_toldB ((Mtold_x1 hm h0 (by omega)).mono (fun y M2 w => ?_)) (fun l D tA n0 o bs adr adV f hfl hL => told_x0 hfl hL hw h0 c)
    exact rel_q hm hx hc FrP.rf w

