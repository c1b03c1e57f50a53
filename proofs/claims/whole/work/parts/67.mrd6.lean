/-! THE REFERENCE READS, 6: one clause (printed by wip/whole/g67.py). -/
abbrev CS : Type := Int × Nat × (Nat → Int) × (Nat → Int) × Int × Int
/-- the end of a clause, the token at p -/
def enS (g : Nat → Int) (E p : Nat) (f r : Nat → Int) (kb hb : Int) : CS := if tmK g E p = 3 ∧ g p = 59 then (0, nxT g E p, f, r, kb, hb) else (1, p, f, r, kb, hb)
def stLo (w : Int) : Int := if w = 1 then 50 else if w = 2 then 3 else 0
def stHi (w : Int) : Int := if w = 1 then 100 else if w = 2 then 24 else 50
/-- a clause whose word at a is w: fault, its place (or the token behind), row, settings, what is known, what is housed -/
def clW (g : Nat → Int) (E a : Nat) (w : Int) (f r : Nat → Int) (kb hb : Int) : CS :=
  if w = -1 then (1, a, f, r, kb, hb) else
  if w = 0 then (if (rtS g E (r 0).toNat a f).1 ≠ 0 then ((rtS g E (r 0).toNat a f).1, (rtS g E (r 0).toNat a f).2.1, f, r, kb, hb) else enS g E (rtS g E (r 0).toNat a f).2.1 (rtS g E (r 0).toNat a f).2.2 (updI r 0 (r 0 + 1)) kb hb) else
  if w ≤ 3 then (if r w.toNat ≠ -1 then (4, a, f, r, kb, hb) else if nmF g E (nxT g E a) (stLo w) (stHi w) ≠ 0 then (nmF g E (nxT g E a) (stLo w) (stHi w), nxT g E a, f, r, kb, hb) else enS g E (nxT g E (nxT g E a)) f (updI r w.toNat (nmN g E (nxT g E a))) kb hb) else
  if tnF g E (nxT g E a) (r 0) (if w = 4 then kb else hb) ≠ 0 then (tnF g E (nxT g E a) (r 0) (if w = 4 then kb else hb), nxT g E a, f, r, kb, hb) else
  if nmF g E (nxT g E (nxT g E a)) 0 (if w = 4 then 900 else 3) ≠ 0 then (nmF g E (nxT g E (nxT g E a)) 0 (if w = 4 then 900 else 3), nxT g E (nxT g E a), f, r, kb, hb) else
  enS g E (nxT g E (nxT g E (nxT g E a))) (updI f (30 * (nmN g E (nxT g E a)).toNat + (if w = 4 then 4 else 3)) (nmN g E (nxT g E (nxT g E a)))) r (if w = 4 then bOr kb (bShl 1 (nmN g E (nxT g E a))) else kb) (if w = 4 then hb else bOr hb (bShl 1 (nmN g E (nxT g E a))))
section CLW
variable {g f r : Nat → Int} {E a : Nat} {kb hb : Int}
theorem clW_m1 : clW g E a (-1) f r kb hb = (1, a, f, r, kb, hb) := if_pos rfl
theorem clW_0 : clW g E a 0 f r kb hb = if (rtS g E (r 0).toNat a f).1 ≠ 0 then ((rtS g E (r 0).toNat a f).1, (rtS g E (r 0).toNat a f).2.1, f, r, kb, hb) else enS g E (rtS g E (r 0).toNat a f).2.1 (rtS g E (r 0).toNat a f).2.2 (updI r 0 (r 0 + 1)) kb hb := by
  unfold clW
  rw [if_neg (by omega), if_pos rfl]
theorem clW_1 : clW g E a 1 f r kb hb = if r 1 ≠ -1 then (4, a, f, r, kb, hb) else if nmF g E (nxT g E a) 50 100 ≠ 0 then (nmF g E (nxT g E a) 50 100, nxT g E a, f, r, kb, hb) else enS g E (nxT g E (nxT g E a)) f (updI r 1 (nmN g E (nxT g E a))) kb hb := by
  unfold clW
  rw [if_neg (by omega), if_neg (by omega), if_pos (by omega), show stLo 1 = 50 by decide, show stHi 1 = 100 by decide, show (1 : Int).toNat = 1 by decide]
theorem clW_2 : clW g E a 2 f r kb hb = if r 2 ≠ -1 then (4, a, f, r, kb, hb) else if nmF g E (nxT g E a) 3 24 ≠ 0 then (nmF g E (nxT g E a) 3 24, nxT g E a, f, r, kb, hb) else enS g E (nxT g E (nxT g E a)) f (updI r 2 (nmN g E (nxT g E a))) kb hb := by
  unfold clW
  rw [if_neg (by omega), if_neg (by omega), if_pos (by omega), show stLo 2 = 3 by decide, show stHi 2 = 24 by decide, show (2 : Int).toNat = 2 by decide]
theorem clW_3 : clW g E a 3 f r kb hb = if r 3 ≠ -1 then (4, a, f, r, kb, hb) else if nmF g E (nxT g E a) 0 50 ≠ 0 then (nmF g E (nxT g E a) 0 50, nxT g E a, f, r, kb, hb) else enS g E (nxT g E (nxT g E a)) f (updI r 3 (nmN g E (nxT g E a))) kb hb := by
  unfold clW
  rw [if_neg (by omega), if_neg (by omega), if_pos (by omega), show stLo 3 = 0 by decide, show stHi 3 = 50 by decide, show (3 : Int).toNat = 3 by decide]
theorem clW_4 : clW g E a 4 f r kb hb = if tnF g E (nxT g E a) (r 0) kb ≠ 0 then (tnF g E (nxT g E a) (r 0) kb, nxT g E a, f, r, kb, hb) else if nmF g E (nxT g E (nxT g E a)) 0 900 ≠ 0 then (nmF g E (nxT g E (nxT g E a)) 0 900, nxT g E (nxT g E a), f, r, kb, hb) else enS g E (nxT g E (nxT g E (nxT g E a))) (updI f (30 * (nmN g E (nxT g E a)).toNat + 4) (nmN g E (nxT g E (nxT g E a)))) r (bOr kb (bShl 1 (nmN g E (nxT g E a)))) (hb) := by
  unfold clW
  rw [if_neg (by omega), if_neg (by omega), if_neg (by omega)]
  simp only [if_pos, if_neg, show (4 : Int) = 4 from rfl, ↓reduceIte]
theorem clW_5 : clW g E a 5 f r kb hb = if tnF g E (nxT g E a) (r 0) hb ≠ 0 then (tnF g E (nxT g E a) (r 0) hb, nxT g E a, f, r, kb, hb) else if nmF g E (nxT g E (nxT g E a)) 0 3 ≠ 0 then (nmF g E (nxT g E (nxT g E a)) 0 3, nxT g E (nxT g E a), f, r, kb, hb) else enS g E (nxT g E (nxT g E (nxT g E a))) (updI f (30 * (nmN g E (nxT g E a)).toNat + 3) (nmN g E (nxT g E (nxT g E a)))) r (kb) (bOr hb (bShl 1 (nmN g E (nxT g E a)))) := by
  unfold clW
  rw [if_neg (by omega), if_neg (by omega), if_neg (by omega)]
  simp only [if_pos, if_neg, show ¬ (5 : Int) = 4 by omega, ↓reduceIte]
end CLW
def clS (g : Nat → Int) (E a : Nat) (f r : Nat → Int) (kb hb : Int) : CS := clW g E a (wdW g E a) f r kb hb
def rdI (r : Nat → Int) (kb hb : Int) : Prop := (0 ≤ r 0 ∧ r 0 ≤ 8) ∧ (∀ j, 1 ≤ j → j ≤ 3 → -1 ≤ r j ∧ r j ≤ 100) ∧ inR kb ∧ inR hb
def rdM (M : Mm) (g : Nat → Int) (E a : Nat) (f r : Nat → Int) (kb hb : Int) : Prop := tsM M g E a ∧ M 154 15 = 0 ∧ M 159 = f ∧ M 157 = r ∧ M 154 18 = kb ∧ M 154 19 = hb
def rcP : Nat → Nat → Prop := fun b j => stP b j ∨ b = 159 ∨ b = 157 ∨ b = 154 ∧ (15 ≤ j ∧ j ≤ 16 ∨ 18 ≤ j ∧ j ≤ 19)
def rcQ (M0 : Mm) (g : Nat → Int) (E : Nat) (S : CS) (M' : Mm) : Prop := FrP rcP M0 M' ∧ (S.1 ≠ 0 → M' 154 15 = S.1 ∧ M' 154 16 = (S.2.1 : Int)) ∧ (S.1 = 0 → rdM M' g E S.2.1 S.2.2.1 S.2.2.2.1 S.2.2.2.2.1 S.2.2.2.2.2)
theorem bOr_0 {x : Int} (h : inR x) : bOr x 0 = x := by
  unfold bOr
  rw [show iN 0 = (0 : Int32) from rfl, Int32.or_zero]
  exact iN_toInt h
theorem rtP_rc {b j : Nat} (h : rtP b j) : rcP b j := by
  unfold rtP stP at h
  unfold rcP stP
  omega
theorem rcP_wr {M0 M : Mm} {c : Int} (F : FrP rcP M0 M) : FrP rcP M0 (mWr M c) := (F.st (by unfold rcP; omega)).st (by unfold rcP; omega)
theorem rcP_st {M0 M M' : Mm} (F : FrP rcP M0 M) (G : FrP stP M M') : FrP rcP M0 M' := F.tr (G.wd (fun b j z => Or.inl z))
theorem mWr_16 {M : Mm} {g : Nat → Int} {E a : Nat} (h : tsM M g E a) (c : Int) : mWr M c 154 16 = (a : Int) := by rw [← h.2.2.1]; simp [mWr, mset]
theorem rdM_st {M M' : Mm} {g f r : Nat → Int} {E a b : Nat} {kb hb : Int} (h : rdM M g E a f r kb hb) (F : FrP stP M M') (t : tsM M' g E b) : rdM M' g E b f r kb hb := by
  obtain ⟨-, h2, h3, h4, h5, h6⟩ := h
  exact ⟨t, (F _ _ (by unfold stP; omega)).trans h2, (funext fun j => F 159 j (by unfold stP; omega)).trans h3, (funext fun j => F 157 j (by unfold stP; omega)).trans h4, (F _ _ (by unfold stP; omega)).trans h5, (F _ _ (by unfold stP; omega)).trans h6⟩
theorem rcQ_bad {M0 M : Mm} {g : Nat → Int} {E : Nat} {S : CS} (F : FrP rcP M0 M) (hc : S.1 ≠ 0) (h15 : M 154 15 = S.1) (h16 : M 154 16 = (S.2.1 : Int)) : rcQ M0 g E S M := ⟨F, fun _ => ⟨h15, h16⟩, fun z => absurd z hc⟩
set_option maxHeartbeats 600000 in
set_option maxRecDepth 20000 in
theorem rc_263b {M0 M : Mm} {g : Nat → Int} {E : Nat} {S : CS} {x1 x2 x3 : Option AV} (r : rcQ M0 g E S M) (hc : S.1 ≠ 0) (hr : inR S.1) : WPm m_Model_readClause (fun v M' => v = none ∧ rcQ M0 g E S M') 263 [some (.inr 154), x1, x2, x3] [] M := by
  have h15 := (r.2.1 hc).1
  generalize hX : rcQ M0 g E S = X at *
  generalize S.1 = c at *
  obtain ⟨r1, r2⟩ := hr
  have q := eq_false hc
  refine wpm_of (cuts := []) (by decide) 80 _ _ _ _ ?_
  simp (maxSteps := 2000000) only [↓reduceIte, wp_eq, wpd_eq, kont_eq, STP1, STP2, STP3, STP4, STP5, konM_eq, AMK, CZ, Option.map, List.getElem?_cons_zero, List.getElem?_cons_succ, List.mem_cons, List.not_mem_nil, if_false, if_true, Nat.reduceAdd, Nat.reduceLT, Nat.reduceLeDiff, Nat.reduceEqDiff, true_and, and_true, List.length_nil, List.length_cons, or_true, true_or, or_false, false_or, Option.some.injEq, Sum.inl.injEq, Sum.inr.injEq, exists_eq_left', exists_eq_left, Int.reduceLE, Int.reduceLT, Int.reduceNeg, Int.reduceAdd, Int.reduceMul, Int.reduceSub, Int.reduceToNat, inR, Nat.zero_ne_one, false_and, Nat.succ_ne_zero, reduceCtorEq, false_implies, true_implies, not_false_eq_true, not_true_eq_false, Int.reduceEq, KRE, C_Model_readClause, FM, h15, q]
  repeat (first | refine ⟨by omega, ?_⟩ | refine ⟨fun _ _ => okt_nn (by omega), ?_⟩)
  try (first | (show _ ≤ _; omega) | (show _ < _; omega))
  all_goals first | exact r | exact ⟨rfl, r⟩
set_option maxHeartbeats 600000 in
set_option maxRecDepth 20000 in
theorem rc_263 {M0 M : Mm} {g f r : Nat → Int} {E p : Nat} {kb hb : Int} {x1 x2 x3 : Option AV} (hp : oct g E) (hE : E ≤ 900) (ha : p ≤ 900) (F : FrP rcP M0 M) (hd : rdM M g E p f r kb hb) : WPm m_Model_readClause (fun v M' => v = none ∧ rcQ M0 g E (enS g E p f r kb hb) M') 263 [some (.inr 154), x1, x2, x3] [] M := by
  have ht := hd.1
  have b0 := hd.2.1
  have MK := marked_ok (c := 59) ht hp b0 hE ⟨by omega, by omega⟩
  by_cases c : tmK g E p = 3 ∧ g p = 59
  · rw [show enS g E p f r kb hb = (0, nxT g E p, f, r, kb, hb) from if_pos c]
    rw [if_pos c] at MK
    have S : CallV m_Model_stepOn [.inr 154] M (fun M' => rcQ M0 g E (0, nxT g E p, f, r, kb, hb) M') := (step_ok ht hp hE ha).mono (fun M' z => ⟨rcP_st F z.1, fun w => absurd rfl w, fun _ => rdM_st hd z.1 z.2⟩)
    refine wpm_of (cuts := []) (by decide) 80 _ _ _ _ ?_
    simp (maxSteps := 2000000) only [↓reduceIte, wp_eq, wpd_eq, kont_eq, STP1, STP2, STP3, STP4, STP5, konM_eq, AMK, CZ, Option.map, List.getElem?_cons_zero, List.getElem?_cons_succ, List.mem_cons, List.not_mem_nil, if_false, if_true, Nat.reduceAdd, Nat.reduceLT, Nat.reduceLeDiff, Nat.reduceEqDiff, true_and, and_true, List.length_nil, List.length_cons, or_true, true_or, or_false, false_or, Option.some.injEq, Sum.inl.injEq, Sum.inr.injEq, exists_eq_left', exists_eq_left, Int.reduceLE, Int.reduceLT, Int.reduceNeg, Int.reduceAdd, Int.reduceMul, Int.reduceSub, Int.reduceToNat, inR, Nat.zero_ne_one, false_and, Nat.succ_ne_zero, reduceCtorEq, false_implies, true_implies, not_false_eq_true, not_true_eq_false, Int.reduceEq, KRE, C_Model_readClause, FM, b0]
    repeat (first | refine ⟨by omega, ?_⟩ | refine ⟨fun _ _ => okt_nn (by omega), ?_⟩)
    try (first | (show _ ≤ _; omega) | (show _ < _; omega))
    refine MK.eq ?_
    try simp (maxSteps := 2000000) only [↓reduceIte, wp_eq, wpd_eq, kont_eq, STP1, STP2, STP3, STP4, STP5, konM_eq, AMK, CZ, Option.map, List.getElem?_cons_zero, List.getElem?_cons_succ, List.mem_cons, List.not_mem_nil, if_false, if_true, Nat.reduceAdd, Nat.reduceLT, Nat.reduceLeDiff, Nat.reduceEqDiff, true_and, and_true, List.length_nil, List.length_cons, or_true, true_or, or_false, false_or, Option.some.injEq, Sum.inl.injEq, Sum.inr.injEq, exists_eq_left', exists_eq_left, Int.reduceLE, Int.reduceLT, Int.reduceNeg, Int.reduceAdd, Int.reduceMul, Int.reduceSub, Int.reduceToNat, inR, Nat.zero_ne_one, false_and, Nat.succ_ne_zero, reduceCtorEq, false_implies, true_implies, not_false_eq_true, not_true_eq_false, Int.reduceEq, KRE, C_Model_readClause, FM, b0]
    repeat (first | refine ⟨by omega, ?_⟩ | refine ⟨fun _ _ => okt_nn (by omega), ?_⟩)
    try (first | (show _ ≤ _; omega) | (show _ < _; omega))
    refine S.mono (fun M' z => ?_)
    try simp (maxSteps := 2000000) only [↓reduceIte, wp_eq, wpd_eq, kont_eq, STP1, STP2, STP3, STP4, STP5, konM_eq, AMK, CZ, Option.map, List.getElem?_cons_zero, List.getElem?_cons_succ, List.mem_cons, List.not_mem_nil, if_false, if_true, Nat.reduceAdd, Nat.reduceLT, Nat.reduceLeDiff, Nat.reduceEqDiff, true_and, and_true, List.length_nil, List.length_cons, or_true, true_or, or_false, false_or, Option.some.injEq, Sum.inl.injEq, Sum.inr.injEq, exists_eq_left', exists_eq_left, Int.reduceLE, Int.reduceLT, Int.reduceNeg, Int.reduceAdd, Int.reduceMul, Int.reduceSub, Int.reduceToNat, inR, Nat.zero_ne_one, false_and, Nat.succ_ne_zero, reduceCtorEq, false_implies, true_implies, not_false_eq_true, not_true_eq_false, Int.reduceEq, KRE, C_Model_readClause, FM]
    all_goals first | exact z | exact ⟨rfl, z⟩
  · rw [show enS g E p f r kb hb = (1, p, f, r, kb, hb) from if_neg c]
    rw [if_neg c] at MK
    have W := wrong_ok (M := M) (c := 1) b0 ⟨by omega, by omega⟩
    have e15 := mWr_15 M 1
    have R : rcQ M0 g E (1, p, f, r, kb, hb) (mWr M 1) := rcQ_bad (rcP_wr F) (by show (1 : Int) ≠ 0; omega) e15 (mWr_16 ht 1)
    generalize hX : rcQ M0 g E (1, p, f, r, kb, hb) = X at *
    refine wpm_of (cuts := []) (by decide) 80 _ _ _ _ ?_
    simp (maxSteps := 2000000) only [↓reduceIte, wp_eq, wpd_eq, kont_eq, STP1, STP2, STP3, STP4, STP5, konM_eq, AMK, CZ, Option.map, List.getElem?_cons_zero, List.getElem?_cons_succ, List.mem_cons, List.not_mem_nil, if_false, if_true, Nat.reduceAdd, Nat.reduceLT, Nat.reduceLeDiff, Nat.reduceEqDiff, true_and, and_true, List.length_nil, List.length_cons, or_true, true_or, or_false, false_or, Option.some.injEq, Sum.inl.injEq, Sum.inr.injEq, exists_eq_left', exists_eq_left, Int.reduceLE, Int.reduceLT, Int.reduceNeg, Int.reduceAdd, Int.reduceMul, Int.reduceSub, Int.reduceToNat, inR, Nat.zero_ne_one, false_and, Nat.succ_ne_zero, reduceCtorEq, false_implies, true_implies, not_false_eq_true, not_true_eq_false, Int.reduceEq, KRE, C_Model_readClause, FM, b0]
    repeat (first | refine ⟨by omega, ?_⟩ | refine ⟨fun _ _ => okt_nn (by omega), ?_⟩)
    try (first | (show _ ≤ _; omega) | (show _ < _; omega))
    refine MK.eq ?_
    try simp (maxSteps := 2000000) only [↓reduceIte, wp_eq, wpd_eq, kont_eq, STP1, STP2, STP3, STP4, STP5, konM_eq, AMK, CZ, Option.map, List.getElem?_cons_zero, List.getElem?_cons_succ, List.mem_cons, List.not_mem_nil, if_false, if_true, Nat.reduceAdd, Nat.reduceLT, Nat.reduceLeDiff, Nat.reduceEqDiff, true_and, and_true, List.length_nil, List.length_cons, or_true, true_or, or_false, false_or, Option.some.injEq, Sum.inl.injEq, Sum.inr.injEq, exists_eq_left', exists_eq_left, Int.reduceLE, Int.reduceLT, Int.reduceNeg, Int.reduceAdd, Int.reduceMul, Int.reduceSub, Int.reduceToNat, inR, Nat.zero_ne_one, false_and, Nat.succ_ne_zero, reduceCtorEq, false_implies, true_implies, not_false_eq_true, not_true_eq_false, Int.reduceEq, KRE, C_Model_readClause, FM]
    repeat (first | refine ⟨by omega, ?_⟩ | refine ⟨fun _ _ => okt_nn (by omega), ?_⟩)
    try (first | (show _ ≤ _; omega) | (show _ < _; omega))
    refine W.eq ?_
    try simp (maxSteps := 2000000) only [↓reduceIte, wp_eq, wpd_eq, kont_eq, STP1, STP2, STP3, STP4, STP5, konM_eq, AMK, CZ, Option.map, List.getElem?_cons_zero, List.getElem?_cons_succ, List.mem_cons, List.not_mem_nil, if_false, if_true, Nat.reduceAdd, Nat.reduceLT, Nat.reduceLeDiff, Nat.reduceEqDiff, true_and, and_true, List.length_nil, List.length_cons, or_true, true_or, or_false, false_or, Option.some.injEq, Sum.inl.injEq, Sum.inr.injEq, exists_eq_left', exists_eq_left, Int.reduceLE, Int.reduceLT, Int.reduceNeg, Int.reduceAdd, Int.reduceMul, Int.reduceSub, Int.reduceToNat, inR, Nat.zero_ne_one, false_and, Nat.succ_ne_zero, reduceCtorEq, false_implies, true_implies, not_false_eq_true, not_true_eq_false, Int.reduceEq, KRE, C_Model_readClause, FM, e15]
    repeat (first | refine ⟨by omega, ?_⟩ | refine ⟨fun _ _ => okt_nn (by omega), ?_⟩)
    try (first | (show _ ≤ _; omega) | (show _ < _; omega))
    all_goals first | exact R | exact ⟨rfl, R⟩
theorem tnF_in (g : Nat → Int) (E a : Nat) (n set : Int) : 0 ≤ tnF g E a n set ∧ tnF g E a n set ≤ 4 := by
  have i := nmF_in g E a 0 7
  unfold tnF
  split
  · omega
  · split
    · omega
    · split <;> omega
section RC
variable {M0 M : Mm} {g f r : Nat → Int} {E a : Nat} {kb hb : Int}
set_option maxHeartbeats 600000 in
set_option maxRecDepth 20000 in
theorem rc_m1 (hE : E ≤ 900) (ha : a ≤ 900) (F : FrP rcP M0 M) (hd : rdM M g E a f r kb hb) : WPm m_Model_readClause (fun v M' => v = none ∧ rcQ M0 g E (clW g E a (-1) f r kb hb) M') 5 [some (.inr 154), some (.inl (-1)), none, none] [] M := by
  obtain ⟨ht, b0, h9, h7, h18, h19⟩ := hd
  rw [clW_m1]
  have W := wrong_ok (M := M) (c := 1) b0 ⟨by omega, by omega⟩
  have e15 := mWr_15 M 1
  have R : rcQ M0 g E (1, a, f, r, kb, hb) (mWr M 1) := rcQ_bad (rcP_wr F) (by show (1 : Int) ≠ 0; omega) e15 (mWr_16 ht 1)
  have I := Model_isIn_ok (v := -1) (a := 1) (b := 3) (M := mWr M 1) ⟨by omega, by omega⟩ ⟨by omega, by omega⟩ ⟨by omega, by omega⟩
  rw [if_neg (by omega)] at I
  generalize hX : rcQ M0 g E (1, a, f, r, kb, hb) = X at *
  refine wpm_of (cuts := []) (by decide) 80 _ _ _ _ ?_
  simp (maxSteps := 2000000) only [↓reduceIte, wp_eq, wpd_eq, kont_eq, STP1, STP2, STP3, STP4, STP5, konM_eq, AMK, CZ, Option.map, List.getElem?_cons_zero, List.getElem?_cons_succ, List.mem_cons, List.not_mem_nil, if_false, if_true, Nat.reduceAdd, Nat.reduceLT, Nat.reduceLeDiff, Nat.reduceEqDiff, true_and, and_true, List.length_nil, List.length_cons, or_true, true_or, or_false, false_or, Option.some.injEq, Sum.inl.injEq, Sum.inr.injEq, exists_eq_left', exists_eq_left, Int.reduceLE, Int.reduceLT, Int.reduceNeg, Int.reduceAdd, Int.reduceMul, Int.reduceSub, Int.reduceToNat, inR, Nat.zero_ne_one, false_and, Nat.succ_ne_zero, reduceCtorEq, false_implies, true_implies, not_false_eq_true, not_true_eq_false, Int.reduceEq, KRE, C_Model_readClause, FM]
  repeat (first | refine ⟨by omega, ?_⟩ | refine ⟨fun _ _ => okt_nn (by omega), ?_⟩)
  try (first | (show _ ≤ _; omega) | (show _ < _; omega))
  refine W.eq ?_
  try simp (maxSteps := 2000000) only [↓reduceIte, wp_eq, wpd_eq, kont_eq, STP1, STP2, STP3, STP4, STP5, konM_eq, AMK, CZ, Option.map, List.getElem?_cons_zero, List.getElem?_cons_succ, List.mem_cons, List.not_mem_nil, if_false, if_true, Nat.reduceAdd, Nat.reduceLT, Nat.reduceLeDiff, Nat.reduceEqDiff, true_and, and_true, List.length_nil, List.length_cons, or_true, true_or, or_false, false_or, Option.some.injEq, Sum.inl.injEq, Sum.inr.injEq, exists_eq_left', exists_eq_left, Int.reduceLE, Int.reduceLT, Int.reduceNeg, Int.reduceAdd, Int.reduceMul, Int.reduceSub, Int.reduceToNat, inR, Nat.zero_ne_one, false_and, Nat.succ_ne_zero, reduceCtorEq, false_implies, true_implies, not_false_eq_true, not_true_eq_false, Int.reduceEq, KRE, C_Model_readClause, FM]
  repeat (first | refine ⟨by omega, ?_⟩ | refine ⟨fun _ _ => okt_nn (by omega), ?_⟩)
  try (first | (show _ ≤ _; omega) | (show _ < _; omega))
  refine I.eq ?_
  try simp (maxSteps := 2000000) only [↓reduceIte, wp_eq, wpd_eq, kont_eq, STP1, STP2, STP3, STP4, STP5, konM_eq, AMK, CZ, Option.map, List.getElem?_cons_zero, List.getElem?_cons_succ, List.mem_cons, List.not_mem_nil, if_false, if_true, Nat.reduceAdd, Nat.reduceLT, Nat.reduceLeDiff, Nat.reduceEqDiff, true_and, and_true, List.length_nil, List.length_cons, or_true, true_or, or_false, false_or, Option.some.injEq, Sum.inl.injEq, Sum.inr.injEq, exists_eq_left', exists_eq_left, Int.reduceLE, Int.reduceLT, Int.reduceNeg, Int.reduceAdd, Int.reduceMul, Int.reduceSub, Int.reduceToNat, inR, Nat.zero_ne_one, false_and, Nat.succ_ne_zero, reduceCtorEq, false_implies, true_implies, not_false_eq_true, not_true_eq_false, Int.reduceEq, KRE, C_Model_readClause, FM, e15]
  repeat (first | refine ⟨by omega, ?_⟩ | refine ⟨fun _ _ => okt_nn (by omega), ?_⟩)
  try (first | (show _ ≤ _; omega) | (show _ < _; omega))
  all_goals first | exact R | exact ⟨rfl, R⟩
set_option maxHeartbeats 600000 in
set_option maxRecDepth 20000 in
theorem rc_0 (hp : oct g E) (hE : E ≤ 900) (ha : a ≤ 900) (F : FrP rcP M0 M) (hd : rdM M g E a f r kb hb) (hi : rdI r kb hb) (hrt : (rtS g E (r 0).toNat a f).2.1 ≤ 900 ∧ inR (rtS g E (r 0).toNat a f).1) : WPm m_Model_readClause (fun v M' => v = none ∧ rcQ M0 g E (clW g E a 0 f r kb hb) M') 5 [some (.inr 154), some (.inl 0), none, none] [] M := by
  obtain ⟨ht, b0, h9, h7, h18, h19⟩ := hd
  obtain ⟨i0, i1, i2, i3⟩ := hi
  have eC : clW g E a 0 f r kb hb = if (rtS g E (r 0).toNat a f).1 ≠ 0 then ((rtS g E (r 0).toNat a f).1, (rtS g E (r 0).toNat a f).2.1, f, r, kb, hb) else enS g E (rtS g E (r 0).toNat a f).2.1 (rtS g E (r 0).toNat a f).2.2 (updI r 0 (r 0 + 1)) kb hb := clW_0
  have I := Model_isIn_ok (v := 0) (a := 1) (b := 3) (M := M) ⟨by omega, by omega⟩ ⟨by omega, by omega⟩ ⟨by omega, by omega⟩
  rw [if_neg (by omega)] at I
  have e0 : M 157 0 = ((r 0).toNat : Int) := by rw [h7]; omega
  have RT := readTimber_ok (n := (r 0).toNat) hp hE ha (by omega) ht b0 e0 h9
  generalize rtS g E (r 0).toNat a f = T at *
  refine wpm_of (cuts := [263]) (by decide) 80 _ _ _ _ ?_
  simp (maxSteps := 2000000) only [↓reduceIte, wp_eq, wpd_eq, kont_eq, STP1, STP2, STP3, STP4, STP5, konM_eq, AMK, CZ, Option.map, List.getElem?_cons_zero, List.getElem?_cons_succ, List.mem_cons, List.not_mem_nil, if_false, if_true, Nat.reduceAdd, Nat.reduceLT, Nat.reduceLeDiff, Nat.reduceEqDiff, true_and, and_true, List.length_nil, List.length_cons, or_true, true_or, or_false, false_or, Option.some.injEq, Sum.inl.injEq, Sum.inr.injEq, exists_eq_left', exists_eq_left, Int.reduceLE, Int.reduceLT, Int.reduceNeg, Int.reduceAdd, Int.reduceMul, Int.reduceSub, Int.reduceToNat, inR, Nat.zero_ne_one, false_and, Nat.succ_ne_zero, reduceCtorEq, false_implies, true_implies, not_false_eq_true, not_true_eq_false, Int.reduceEq, KRE, C_Model_readClause, FM]
  repeat (first | refine ⟨by omega, ?_⟩ | refine ⟨fun _ _ => okt_nn (by omega), ?_⟩)
  try (first | (show _ ≤ _; omega) | (show _ < _; omega))
  refine I.eq ?_
  try simp (maxSteps := 2000000) only [↓reduceIte, wp_eq, wpd_eq, kont_eq, STP1, STP2, STP3, STP4, STP5, konM_eq, AMK, CZ, Option.map, List.getElem?_cons_zero, List.getElem?_cons_succ, List.mem_cons, List.not_mem_nil, if_false, if_true, Nat.reduceAdd, Nat.reduceLT, Nat.reduceLeDiff, Nat.reduceEqDiff, true_and, and_true, List.length_nil, List.length_cons, or_true, true_or, or_false, false_or, Option.some.injEq, Sum.inl.injEq, Sum.inr.injEq, exists_eq_left', exists_eq_left, Int.reduceLE, Int.reduceLT, Int.reduceNeg, Int.reduceAdd, Int.reduceMul, Int.reduceSub, Int.reduceToNat, inR, Nat.zero_ne_one, false_and, Nat.succ_ne_zero, reduceCtorEq, false_implies, true_implies, not_false_eq_true, not_true_eq_false, Int.reduceEq, KRE, C_Model_readClause, FM, b0]
  repeat (first | refine ⟨by omega, ?_⟩ | refine ⟨fun _ _ => okt_nn (by omega), ?_⟩)
  try (first | (show _ ≤ _; omega) | (show _ < _; omega))
  refine RT.mono (fun M1 z => ?_)
  obtain ⟨z1, z2, z3⟩ := z
  have F1 : FrP rcP M0 M1 := F.tr (z1.wd (fun b j z => rtP_rc z))
  by_cases c : T.1 = 0
  · obtain ⟨y1, y2, y3, y4⟩ := z3 c
    rw [eC, if_neg (fun z => z c)]
    have e7 : M1 157 = updI r 0 (r 0 + 1) := by
      funext j
      by_cases w : j = 0
      · rw [w, y4]
        show _ = if (0 : Nat) = 0 then r 0 + 1 else r 0
        rw [if_pos rfl]
        omega
      · rw [z1 _ _ (by unfold rtP stP; omega), h7]
        exact (if_neg w).symm
    have R := rc_263 (x1 := some (.inl (0 : Int))) (x2 := none) (x3 := none) hp hE hrt.1 F1 (f := T.2.2) (r := updI r 0 (r 0 + 1)) (kb := kb) (hb := hb) (p := T.2.1) ⟨y1, y2, y3, e7, (z1 _ _ (by unfold rtP stP; omega)).trans h18, (z1 _ _ (by unfold rtP stP; omega)).trans h19⟩
    try simp (maxSteps := 2000000) only [↓reduceIte, wp_eq, wpd_eq, kont_eq, STP1, STP2, STP3, STP4, STP5, konM_eq, AMK, CZ, Option.map, List.getElem?_cons_zero, List.getElem?_cons_succ, List.mem_cons, List.not_mem_nil, if_false, if_true, Nat.reduceAdd, Nat.reduceLT, Nat.reduceLeDiff, Nat.reduceEqDiff, true_and, and_true, List.length_nil, List.length_cons, or_true, true_or, or_false, false_or, Option.some.injEq, Sum.inl.injEq, Sum.inr.injEq, exists_eq_left', exists_eq_left, Int.reduceLE, Int.reduceLT, Int.reduceNeg, Int.reduceAdd, Int.reduceMul, Int.reduceSub, Int.reduceToNat, inR, Nat.zero_ne_one, false_and, Nat.succ_ne_zero, reduceCtorEq, false_implies, true_implies, not_false_eq_true, not_true_eq_false, Int.reduceEq, KRE, C_Model_readClause, FM]
    repeat (first | refine ⟨by omega, ?_⟩ | refine ⟨fun _ _ => okt_nn (by omega), ?_⟩)
    try (first | (show _ ≤ _; omega) | (show _ < _; omega))
    exact R
  · rw [eC, if_pos c]
    obtain ⟨y1, y2⟩ := z2 c
    have R := rc_263b (M0 := M0) (M := M1) (g := g) (E := E) (S := (T.1, T.2.1, f, r, kb, hb)) (x1 := some (.inl (0 : Int))) (x2 := none) (x3 := none) (rcQ_bad F1 c y1 y2) c hrt.2
    try simp (maxSteps := 2000000) only [↓reduceIte, wp_eq, wpd_eq, kont_eq, STP1, STP2, STP3, STP4, STP5, konM_eq, AMK, CZ, Option.map, List.getElem?_cons_zero, List.getElem?_cons_succ, List.mem_cons, List.not_mem_nil, if_false, if_true, Nat.reduceAdd, Nat.reduceLT, Nat.reduceLeDiff, Nat.reduceEqDiff, true_and, and_true, List.length_nil, List.length_cons, or_true, true_or, or_false, false_or, Option.some.injEq, Sum.inl.injEq, Sum.inr.injEq, exists_eq_left', exists_eq_left, Int.reduceLE, Int.reduceLT, Int.reduceNeg, Int.reduceAdd, Int.reduceMul, Int.reduceSub, Int.reduceToNat, inR, Nat.zero_ne_one, false_and, Nat.succ_ne_zero, reduceCtorEq, false_implies, true_implies, not_false_eq_true, not_true_eq_false, Int.reduceEq, KRE, C_Model_readClause, FM]
    repeat (first | refine ⟨by omega, ?_⟩ | refine ⟨fun _ _ => okt_nn (by omega), ?_⟩)
    try (first | (show _ ≤ _; omega) | (show _ < _; omega))
    exact R
set_option maxHeartbeats 600000 in
set_option maxRecDepth 20000 in
theorem rc_1 (hp : oct g E) (hE : E ≤ 900) (ha : a ≤ 900) (F : FrP rcP M0 M) (hd : rdM M g E a f r kb hb) (hi : rdI r kb hb) : WPm m_Model_readClause (fun v M' => v = none ∧ rcQ M0 g E (clW g E a 1 f r kb hb) M') 5 [some (.inr 154), some (.inl 1), none, none] [] M := by
  have hd0 := hd
  obtain ⟨ht, b0, h9, h7, h18, h19⟩ := hd
  obtain ⟨i0, i1, i2, i3⟩ := hi
  have iw := i1 1 (by omega) (by omega)
  obtain ⟨iw1, iw2⟩ := iw
  have e7 : M 157 1 = r 1 := by rw [h7]
  have b9 := nxT_le (g := g) hE ha
  have c9 := nxT_le (g := g) hE b9
  have eC : clW g E a 1 f r kb hb = if r 1 ≠ -1 then (4, a, f, r, kb, hb) else if nmF g E (nxT g E a) 50 100 ≠ 0 then (nmF g E (nxT g E a) 50 100, nxT g E a, f, r, kb, hb) else enS g E (nxT g E (nxT g E a)) f (updI r 1 (nmN g E (nxT g E a))) kb hb := clW_1
  have I := Model_isIn_ok (v := 1) (a := 1) (b := 3) (M := M) ⟨by omega, by omega⟩ ⟨by omega, by omega⟩ ⟨by omega, by omega⟩
  rw [if_pos (by omega)] at I
  have k0 := bOr_0 i2
  have h0 := bOr_0 i3
  by_cases c1 : r 1 = -1
  · rw [if_neg (fun z => z c1)] at eC
    refine wpm_of (cuts := [39]) (by decide) 40 _ _ _ _ ?_
    simp (maxSteps := 2000000) only [↓reduceIte, wp_eq, wpd_eq, kont_eq, STP1, STP2, STP3, STP4, STP5, konM_eq, AMK, CZ, Option.map, List.getElem?_cons_zero, List.getElem?_cons_succ, List.mem_cons, List.not_mem_nil, if_false, if_true, Nat.reduceAdd, Nat.reduceLT, Nat.reduceLeDiff, Nat.reduceEqDiff, true_and, and_true, List.length_nil, List.length_cons, or_true, true_or, or_false, false_or, Option.some.injEq, Sum.inl.injEq, Sum.inr.injEq, exists_eq_left', exists_eq_left, Int.reduceLE, Int.reduceLT, Int.reduceNeg, Int.reduceAdd, Int.reduceMul, Int.reduceSub, Int.reduceToNat, inR, Nat.zero_ne_one, false_and, Nat.succ_ne_zero, reduceCtorEq, false_implies, true_implies, not_false_eq_true, not_true_eq_false, Int.reduceEq, KRE, C_Model_readClause, FM]
    repeat (first | refine ⟨by omega, ?_⟩ | refine ⟨fun _ _ => okt_nn (by omega), ?_⟩)
    try (first | (show _ ≤ _; omega) | (show _ < _; omega))
    refine I.eq ?_
    try simp (maxSteps := 2000000) only [↓reduceIte, wp_eq, wpd_eq, kont_eq, STP1, STP2, STP3, STP4, STP5, konM_eq, AMK, CZ, Option.map, List.getElem?_cons_zero, List.getElem?_cons_succ, List.mem_cons, List.not_mem_nil, if_false, if_true, Nat.reduceAdd, Nat.reduceLT, Nat.reduceLeDiff, Nat.reduceEqDiff, true_and, and_true, List.length_nil, List.length_cons, or_true, true_or, or_false, false_or, Option.some.injEq, Sum.inl.injEq, Sum.inr.injEq, exists_eq_left', exists_eq_left, Int.reduceLE, Int.reduceLT, Int.reduceNeg, Int.reduceAdd, Int.reduceMul, Int.reduceSub, Int.reduceToNat, inR, Nat.zero_ne_one, false_and, Nat.succ_ne_zero, reduceCtorEq, false_implies, true_implies, not_false_eq_true, not_true_eq_false, Int.reduceEq, KRE, C_Model_readClause, FM, e7, c1, b0]
    repeat (first | refine ⟨by omega, ?_⟩ | refine ⟨fun _ _ => okt_nn (by omega), ?_⟩)
    try (first | (show _ ≤ _; omega) | (show _ < _; omega))
    refine wpm_of (cuts := [176]) (by decide) 60 _ _ _ _ ?_
    simp (maxSteps := 2000000) only [↓reduceIte, wp_eq, wpd_eq, kont_eq, STP1, STP2, STP3, STP4, STP5, konM_eq, AMK, CZ, Option.map, List.getElem?_cons_zero, List.getElem?_cons_succ, List.mem_cons, List.not_mem_nil, if_false, if_true, Nat.reduceAdd, Nat.reduceLT, Nat.reduceLeDiff, Nat.reduceEqDiff, true_and, and_true, List.length_nil, List.length_cons, or_true, true_or, or_false, false_or, Option.some.injEq, Sum.inl.injEq, Sum.inr.injEq, exists_eq_left', exists_eq_left, Int.reduceLE, Int.reduceLT, Int.reduceNeg, Int.reduceAdd, Int.reduceMul, Int.reduceSub, Int.reduceToNat, inR, Nat.zero_ne_one, false_and, Nat.succ_ne_zero, reduceCtorEq, false_implies, true_implies, not_false_eq_true, not_true_eq_false, Int.reduceEq, KRE, C_Model_readClause, FM, b0]
    repeat (first | refine ⟨by omega, ?_⟩ | refine ⟨fun _ _ => okt_nn (by omega), ?_⟩)
    try (first | (show _ ≤ _; omega) | (show _ < _; omega))
    refine (step_ok ht hp hE ha).mono (fun M1 w => ?_)
    obtain ⟨F1, T1⟩ := w
    have D1 := rdM_st hd0 F1 T1
    have F1' := rcP_st F F1
    have b1 := D1.2.1
    have N := readNumber_ok (lo := 50) (hi := 100) T1 hp b1 hE b9 ⟨by omega, by omega⟩ ⟨by omega, by omega⟩
    try simp (maxSteps := 2000000) only [↓reduceIte, wp_eq, wpd_eq, kont_eq, STP1, STP2, STP3, STP4, STP5, konM_eq, AMK, CZ, Option.map, List.getElem?_cons_zero, List.getElem?_cons_succ, List.mem_cons, List.not_mem_nil, if_false, if_true, Nat.reduceAdd, Nat.reduceLT, Nat.reduceLeDiff, Nat.reduceEqDiff, true_and, and_true, List.length_nil, List.length_cons, or_true, true_or, or_false, false_or, Option.some.injEq, Sum.inl.injEq, Sum.inr.injEq, exists_eq_left', exists_eq_left, Int.reduceLE, Int.reduceLT, Int.reduceNeg, Int.reduceAdd, Int.reduceMul, Int.reduceSub, Int.reduceToNat, inR, Nat.zero_ne_one, false_and, Nat.succ_ne_zero, reduceCtorEq, false_implies, true_implies, not_false_eq_true, not_true_eq_false, Int.reduceEq, KRE, C_Model_readClause, FM, b1]
    repeat (first | refine ⟨by omega, ?_⟩ | refine ⟨fun _ _ => okt_nn (by omega), ?_⟩)
    try (first | (show _ ≤ _; omega) | (show _ < _; omega))
    refine N.mono (fun x M2 z => ?_)
    obtain ⟨z1, z2⟩ := z
    by_cases cF : nmF g E (nxT g E a) 50 100 = 0
    · rw [eC, if_neg (fun w => w cF)]
      obtain ⟨rfl, F2, T2⟩ := z1 cF
      have D2 := rdM_st D1 F2 T2
      have F2' := rcP_st F1' F2
      generalize nxT g E (nxT g E a) = p at *
      generalize nmN g E (nxT g E a) = v at *
      have b2 := D2.2.1
      have e18 : mset M2 157 1 v 154 18 = kb := by rw [← D2.2.2.2.2.1]; simp [mset]
      have e19 : mset (mset M2 157 1 v) 154 18 kb 154 19 = hb := by rw [← D2.2.2.2.2.2]; simp [mset]
      have eM : mset (mset (mset M2 157 1 v) 154 18 kb) 154 19 hb = mset M2 157 1 v := by
        have e19' : mset M2 157 1 v 154 19 = hb := by rw [← D2.2.2.2.2.2]; simp [mset]
        rw [← e18, mset_same, ← e19', mset_same]
      have D3 : rdM (mset M2 157 1 v) g E p f (updI r 1 v) kb hb := by
        refine ⟨tsM_mv T2 (fun b j z => if_neg (by omega)), by rw [← b2]; simp [mset], ?_, by rw [mset_row, D2.2.2.2.1], e18, by rw [← D2.2.2.2.2.2]; simp [mset]⟩
        rw [← D2.2.2.1]
        funext j
        exact if_neg (by omega)
      have R := rc_263 (x1 := some (.inl (1 : Int))) (x2 := some (.inl (0 : Int))) (x3 := some (.inl v)) hp hE c9 (F2'.st (a := 157) (k := 1) (v := v) (by unfold rcP; omega)) D3
      try simp (maxSteps := 2000000) only [↓reduceIte, wp_eq, wpd_eq, kont_eq, STP1, STP2, STP3, STP4, STP5, konM_eq, AMK, CZ, Option.map, List.getElem?_cons_zero, List.getElem?_cons_succ, List.mem_cons, List.not_mem_nil, if_false, if_true, Nat.reduceAdd, Nat.reduceLT, Nat.reduceLeDiff, Nat.reduceEqDiff, true_and, and_true, List.length_nil, List.length_cons, or_true, true_or, or_false, false_or, Option.some.injEq, Sum.inl.injEq, Sum.inr.injEq, exists_eq_left', exists_eq_left, Int.reduceLE, Int.reduceLT, Int.reduceNeg, Int.reduceAdd, Int.reduceMul, Int.reduceSub, Int.reduceToNat, inR, Nat.zero_ne_one, false_and, Nat.succ_ne_zero, reduceCtorEq, false_implies, true_implies, not_false_eq_true, not_true_eq_false, Int.reduceEq, KRE, C_Model_readClause, FM]
      refine wpm_of (cuts := [263]) (by decide) 60 _ _ _ _ ?_
      simp (maxSteps := 2000000) only [↓reduceIte, wp_eq, wpd_eq, kont_eq, STP1, STP2, STP3, STP4, STP5, konM_eq, AMK, CZ, Option.map, List.getElem?_cons_zero, List.getElem?_cons_succ, List.mem_cons, List.not_mem_nil, if_false, if_true, Nat.reduceAdd, Nat.reduceLT, Nat.reduceLeDiff, Nat.reduceEqDiff, true_and, and_true, List.length_nil, List.length_cons, or_true, true_or, or_false, false_or, Option.some.injEq, Sum.inl.injEq, Sum.inr.injEq, exists_eq_left', exists_eq_left, Int.reduceLE, Int.reduceLT, Int.reduceNeg, Int.reduceAdd, Int.reduceMul, Int.reduceSub, Int.reduceToNat, inR, Nat.zero_ne_one, false_and, Nat.succ_ne_zero, reduceCtorEq, false_implies, true_implies, not_false_eq_true, not_true_eq_false, Int.reduceEq, KRE, C_Model_readClause, FM, b2, e18, k0, e19, h0, eM]
      repeat (first | refine ⟨by omega, ?_⟩ | refine ⟨fun _ _ => okt_nn (by omega), ?_⟩)
      try (first | (show _ ≤ _; omega) | (show _ < _; omega))
      exact R
    · rw [eC, if_pos cF]
      obtain ⟨rfl, rfl⟩ := z2 cF
      have e15 := mWr_15 M1 (nmF g E (nxT g E a) 50 100)
      have R : rcQ M0 g E (nmF g E (nxT g E a) 50 100, nxT g E a, f, r, kb, hb) (mWr M1 (nmF g E (nxT g E a) 50 100)) := rcQ_bad (rcP_wr F1') cF e15 (mWr_16 T1 _)
      have i2 := nmF_in g E (nxT g E a) 50 100
      have q := eq_false cF
      generalize hX : rcQ M0 g E (nmF g E (nxT g E a) 50 100, nxT g E a, f, r, kb, hb) = X at *
      generalize nmF g E (nxT g E a) 50 100 = cc at *
      try simp (maxSteps := 2000000) only [↓reduceIte, wp_eq, wpd_eq, kont_eq, STP1, STP2, STP3, STP4, STP5, konM_eq, AMK, CZ, Option.map, List.getElem?_cons_zero, List.getElem?_cons_succ, List.mem_cons, List.not_mem_nil, if_false, if_true, Nat.reduceAdd, Nat.reduceLT, Nat.reduceLeDiff, Nat.reduceEqDiff, true_and, and_true, List.length_nil, List.length_cons, or_true, true_or, or_false, false_or, Option.some.injEq, Sum.inl.injEq, Sum.inr.injEq, exists_eq_left', exists_eq_left, Int.reduceLE, Int.reduceLT, Int.reduceNeg, Int.reduceAdd, Int.reduceMul, Int.reduceSub, Int.reduceToNat, inR, Nat.zero_ne_one, false_and, Nat.succ_ne_zero, reduceCtorEq, false_implies, true_implies, not_false_eq_true, not_true_eq_false, Int.reduceEq, KRE, C_Model_readClause, FM]
      refine wpm_of (cuts := [263]) (by decide) 40 _ _ _ _ ?_
      simp (maxSteps := 2000000) only [↓reduceIte, wp_eq, wpd_eq, kont_eq, STP1, STP2, STP3, STP4, STP5, konM_eq, AMK, CZ, Option.map, List.getElem?_cons_zero, List.getElem?_cons_succ, List.mem_cons, List.not_mem_nil, if_false, if_true, Nat.reduceAdd, Nat.reduceLT, Nat.reduceLeDiff, Nat.reduceEqDiff, true_and, and_true, List.length_nil, List.length_cons, or_true, true_or, or_false, false_or, Option.some.injEq, Sum.inl.injEq, Sum.inr.injEq, exists_eq_left', exists_eq_left, Int.reduceLE, Int.reduceLT, Int.reduceNeg, Int.reduceAdd, Int.reduceMul, Int.reduceSub, Int.reduceToNat, inR, Nat.zero_ne_one, false_and, Nat.succ_ne_zero, reduceCtorEq, false_implies, true_implies, not_false_eq_true, not_true_eq_false, Int.reduceEq, KRE, C_Model_readClause, FM, e15, q]
      repeat (first | refine ⟨by omega, ?_⟩ | refine ⟨fun _ _ => okt_nn (by omega), ?_⟩)
      try (first | (show _ ≤ _; omega) | (show _ < _; omega))
      all_goals first | exact R | exact ⟨rfl, R⟩
  · rw [eC, if_pos c1]
    have W := wrong_ok (M := M) (c := 4) b0 ⟨by omega, by omega⟩
    have e15 := mWr_15 M 4
    have R : rcQ M0 g E (4, a, f, r, kb, hb) (mWr M 4) := rcQ_bad (rcP_wr F) (by show (4 : Int) ≠ 0; omega) e15 (mWr_16 ht 4)
    have c1' := eq_false c1
    generalize hX : rcQ M0 g E (4, a, f, r, kb, hb) = X at *
    refine wpm_of (cuts := [39]) (by decide) 40 _ _ _ _ ?_
    simp (maxSteps := 2000000) only [↓reduceIte, wp_eq, wpd_eq, kont_eq, STP1, STP2, STP3, STP4, STP5, konM_eq, AMK, CZ, Option.map, List.getElem?_cons_zero, List.getElem?_cons_succ, List.mem_cons, List.not_mem_nil, if_false, if_true, Nat.reduceAdd, Nat.reduceLT, Nat.reduceLeDiff, Nat.reduceEqDiff, true_and, and_true, List.length_nil, List.length_cons, or_true, true_or, or_false, false_or, Option.some.injEq, Sum.inl.injEq, Sum.inr.injEq, exists_eq_left', exists_eq_left, Int.reduceLE, Int.reduceLT, Int.reduceNeg, Int.reduceAdd, Int.reduceMul, Int.reduceSub, Int.reduceToNat, inR, Nat.zero_ne_one, false_and, Nat.succ_ne_zero, reduceCtorEq, false_implies, true_implies, not_false_eq_true, not_true_eq_false, Int.reduceEq, KRE, C_Model_readClause, FM]
    repeat (first | refine ⟨by omega, ?_⟩ | refine ⟨fun _ _ => okt_nn (by omega), ?_⟩)
    try (first | (show _ ≤ _; omega) | (show _ < _; omega))
    refine I.eq ?_
    try simp (maxSteps := 2000000) only [↓reduceIte, wp_eq, wpd_eq, kont_eq, STP1, STP2, STP3, STP4, STP5, konM_eq, AMK, CZ, Option.map, List.getElem?_cons_zero, List.getElem?_cons_succ, List.mem_cons, List.not_mem_nil, if_false, if_true, Nat.reduceAdd, Nat.reduceLT, Nat.reduceLeDiff, Nat.reduceEqDiff, true_and, and_true, List.length_nil, List.length_cons, or_true, true_or, or_false, false_or, Option.some.injEq, Sum.inl.injEq, Sum.inr.injEq, exists_eq_left', exists_eq_left, Int.reduceLE, Int.reduceLT, Int.reduceNeg, Int.reduceAdd, Int.reduceMul, Int.reduceSub, Int.reduceToNat, inR, Nat.zero_ne_one, false_and, Nat.succ_ne_zero, reduceCtorEq, false_implies, true_implies, not_false_eq_true, not_true_eq_false, Int.reduceEq, KRE, C_Model_readClause, FM, e7, c1', b0]
    repeat (first | refine ⟨by omega, ?_⟩ | refine ⟨fun _ _ => okt_nn (by omega), ?_⟩)
    try (first | (show _ ≤ _; omega) | (show _ < _; omega))
    refine W.eq ?_
    try simp (maxSteps := 2000000) only [↓reduceIte, wp_eq, wpd_eq, kont_eq, STP1, STP2, STP3, STP4, STP5, konM_eq, AMK, CZ, Option.map, List.getElem?_cons_zero, List.getElem?_cons_succ, List.mem_cons, List.not_mem_nil, if_false, if_true, Nat.reduceAdd, Nat.reduceLT, Nat.reduceLeDiff, Nat.reduceEqDiff, true_and, and_true, List.length_nil, List.length_cons, or_true, true_or, or_false, false_or, Option.some.injEq, Sum.inl.injEq, Sum.inr.injEq, exists_eq_left', exists_eq_left, Int.reduceLE, Int.reduceLT, Int.reduceNeg, Int.reduceAdd, Int.reduceMul, Int.reduceSub, Int.reduceToNat, inR, Nat.zero_ne_one, false_and, Nat.succ_ne_zero, reduceCtorEq, false_implies, true_implies, not_false_eq_true, not_true_eq_false, Int.reduceEq, KRE, C_Model_readClause, FM]
    refine wpm_of (cuts := [263]) (by decide) 40 _ _ _ _ ?_
    simp (maxSteps := 2000000) only [↓reduceIte, wp_eq, wpd_eq, kont_eq, STP1, STP2, STP3, STP4, STP5, konM_eq, AMK, CZ, Option.map, List.getElem?_cons_zero, List.getElem?_cons_succ, List.mem_cons, List.not_mem_nil, if_false, if_true, Nat.reduceAdd, Nat.reduceLT, Nat.reduceLeDiff, Nat.reduceEqDiff, true_and, and_true, List.length_nil, List.length_cons, or_true, true_or, or_false, false_or, Option.some.injEq, Sum.inl.injEq, Sum.inr.injEq, exists_eq_left', exists_eq_left, Int.reduceLE, Int.reduceLT, Int.reduceNeg, Int.reduceAdd, Int.reduceMul, Int.reduceSub, Int.reduceToNat, inR, Nat.zero_ne_one, false_and, Nat.succ_ne_zero, reduceCtorEq, false_implies, true_implies, not_false_eq_true, not_true_eq_false, Int.reduceEq, KRE, C_Model_readClause, FM, e15]
    repeat (first | refine ⟨by omega, ?_⟩ | refine ⟨fun _ _ => okt_nn (by omega), ?_⟩)
    try (first | (show _ ≤ _; omega) | (show _ < _; omega))
    all_goals first | exact R | exact ⟨rfl, R⟩
set_option maxHeartbeats 600000 in
set_option maxRecDepth 20000 in
theorem rc_2 (hp : oct g E) (hE : E ≤ 900) (ha : a ≤ 900) (F : FrP rcP M0 M) (hd : rdM M g E a f r kb hb) (hi : rdI r kb hb) : WPm m_Model_readClause (fun v M' => v = none ∧ rcQ M0 g E (clW g E a 2 f r kb hb) M') 5 [some (.inr 154), some (.inl 2), none, none] [] M := by
  have hd0 := hd
  obtain ⟨ht, b0, h9, h7, h18, h19⟩ := hd
  obtain ⟨i0, i1, i2, i3⟩ := hi
  have iw := i1 2 (by omega) (by omega)
  obtain ⟨iw1, iw2⟩ := iw
  have e7 : M 157 2 = r 2 := by rw [h7]
  have b9 := nxT_le (g := g) hE ha
  have c9 := nxT_le (g := g) hE b9
  have eC : clW g E a 2 f r kb hb = if r 2 ≠ -1 then (4, a, f, r, kb, hb) else if nmF g E (nxT g E a) 3 24 ≠ 0 then (nmF g E (nxT g E a) 3 24, nxT g E a, f, r, kb, hb) else enS g E (nxT g E (nxT g E a)) f (updI r 2 (nmN g E (nxT g E a))) kb hb := clW_2
  have I := Model_isIn_ok (v := 2) (a := 1) (b := 3) (M := M) ⟨by omega, by omega⟩ ⟨by omega, by omega⟩ ⟨by omega, by omega⟩
  rw [if_pos (by omega)] at I
  have k0 := bOr_0 i2
  have h0 := bOr_0 i3
  by_cases c1 : r 2 = -1
  · rw [if_neg (fun z => z c1)] at eC
    refine wpm_of (cuts := [39]) (by decide) 40 _ _ _ _ ?_
    simp (maxSteps := 2000000) only [↓reduceIte, wp_eq, wpd_eq, kont_eq, STP1, STP2, STP3, STP4, STP5, konM_eq, AMK, CZ, Option.map, List.getElem?_cons_zero, List.getElem?_cons_succ, List.mem_cons, List.not_mem_nil, if_false, if_true, Nat.reduceAdd, Nat.reduceLT, Nat.reduceLeDiff, Nat.reduceEqDiff, true_and, and_true, List.length_nil, List.length_cons, or_true, true_or, or_false, false_or, Option.some.injEq, Sum.inl.injEq, Sum.inr.injEq, exists_eq_left', exists_eq_left, Int.reduceLE, Int.reduceLT, Int.reduceNeg, Int.reduceAdd, Int.reduceMul, Int.reduceSub, Int.reduceToNat, inR, Nat.zero_ne_one, false_and, Nat.succ_ne_zero, reduceCtorEq, false_implies, true_implies, not_false_eq_true, not_true_eq_false, Int.reduceEq, KRE, C_Model_readClause, FM]
    repeat (first | refine ⟨by omega, ?_⟩ | refine ⟨fun _ _ => okt_nn (by omega), ?_⟩)
    try (first | (show _ ≤ _; omega) | (show _ < _; omega))
    refine I.eq ?_
    try simp (maxSteps := 2000000) only [↓reduceIte, wp_eq, wpd_eq, kont_eq, STP1, STP2, STP3, STP4, STP5, konM_eq, AMK, CZ, Option.map, List.getElem?_cons_zero, List.getElem?_cons_succ, List.mem_cons, List.not_mem_nil, if_false, if_true, Nat.reduceAdd, Nat.reduceLT, Nat.reduceLeDiff, Nat.reduceEqDiff, true_and, and_true, List.length_nil, List.length_cons, or_true, true_or, or_false, false_or, Option.some.injEq, Sum.inl.injEq, Sum.inr.injEq, exists_eq_left', exists_eq_left, Int.reduceLE, Int.reduceLT, Int.reduceNeg, Int.reduceAdd, Int.reduceMul, Int.reduceSub, Int.reduceToNat, inR, Nat.zero_ne_one, false_and, Nat.succ_ne_zero, reduceCtorEq, false_implies, true_implies, not_false_eq_true, not_true_eq_false, Int.reduceEq, KRE, C_Model_readClause, FM, e7, c1, b0]
    repeat (first | refine ⟨by omega, ?_⟩ | refine ⟨fun _ _ => okt_nn (by omega), ?_⟩)
    try (first | (show _ ≤ _; omega) | (show _ < _; omega))
    refine wpm_of (cuts := [176]) (by decide) 60 _ _ _ _ ?_
    simp (maxSteps := 2000000) only [↓reduceIte, wp_eq, wpd_eq, kont_eq, STP1, STP2, STP3, STP4, STP5, konM_eq, AMK, CZ, Option.map, List.getElem?_cons_zero, List.getElem?_cons_succ, List.mem_cons, List.not_mem_nil, if_false, if_true, Nat.reduceAdd, Nat.reduceLT, Nat.reduceLeDiff, Nat.reduceEqDiff, true_and, and_true, List.length_nil, List.length_cons, or_true, true_or, or_false, false_or, Option.some.injEq, Sum.inl.injEq, Sum.inr.injEq, exists_eq_left', exists_eq_left, Int.reduceLE, Int.reduceLT, Int.reduceNeg, Int.reduceAdd, Int.reduceMul, Int.reduceSub, Int.reduceToNat, inR, Nat.zero_ne_one, false_and, Nat.succ_ne_zero, reduceCtorEq, false_implies, true_implies, not_false_eq_true, not_true_eq_false, Int.reduceEq, KRE, C_Model_readClause, FM, b0]
    repeat (first | refine ⟨by omega, ?_⟩ | refine ⟨fun _ _ => okt_nn (by omega), ?_⟩)
    try (first | (show _ ≤ _; omega) | (show _ < _; omega))
    refine (step_ok ht hp hE ha).mono (fun M1 w => ?_)
    obtain ⟨F1, T1⟩ := w
    have D1 := rdM_st hd0 F1 T1
    have F1' := rcP_st F F1
    have b1 := D1.2.1
    have N := readNumber_ok (lo := 3) (hi := 24) T1 hp b1 hE b9 ⟨by omega, by omega⟩ ⟨by omega, by omega⟩
    try simp (maxSteps := 2000000) only [↓reduceIte, wp_eq, wpd_eq, kont_eq, STP1, STP2, STP3, STP4, STP5, konM_eq, AMK, CZ, Option.map, List.getElem?_cons_zero, List.getElem?_cons_succ, List.mem_cons, List.not_mem_nil, if_false, if_true, Nat.reduceAdd, Nat.reduceLT, Nat.reduceLeDiff, Nat.reduceEqDiff, true_and, and_true, List.length_nil, List.length_cons, or_true, true_or, or_false, false_or, Option.some.injEq, Sum.inl.injEq, Sum.inr.injEq, exists_eq_left', exists_eq_left, Int.reduceLE, Int.reduceLT, Int.reduceNeg, Int.reduceAdd, Int.reduceMul, Int.reduceSub, Int.reduceToNat, inR, Nat.zero_ne_one, false_and, Nat.succ_ne_zero, reduceCtorEq, false_implies, true_implies, not_false_eq_true, not_true_eq_false, Int.reduceEq, KRE, C_Model_readClause, FM, b1]
    repeat (first | refine ⟨by omega, ?_⟩ | refine ⟨fun _ _ => okt_nn (by omega), ?_⟩)
    try (first | (show _ ≤ _; omega) | (show _ < _; omega))
    refine N.mono (fun x M2 z => ?_)
    obtain ⟨z1, z2⟩ := z
    by_cases cF : nmF g E (nxT g E a) 3 24 = 0
    · rw [eC, if_neg (fun w => w cF)]
      obtain ⟨rfl, F2, T2⟩ := z1 cF
      have D2 := rdM_st D1 F2 T2
      have F2' := rcP_st F1' F2
      generalize nxT g E (nxT g E a) = p at *
      generalize nmN g E (nxT g E a) = v at *
      have b2 := D2.2.1
      have e18 : mset M2 157 2 v 154 18 = kb := by rw [← D2.2.2.2.2.1]; simp [mset]
      have e19 : mset (mset M2 157 2 v) 154 18 kb 154 19 = hb := by rw [← D2.2.2.2.2.2]; simp [mset]
      have eM : mset (mset (mset M2 157 2 v) 154 18 kb) 154 19 hb = mset M2 157 2 v := by
        have e19' : mset M2 157 2 v 154 19 = hb := by rw [← D2.2.2.2.2.2]; simp [mset]
        rw [← e18, mset_same, ← e19', mset_same]
      have D3 : rdM (mset M2 157 2 v) g E p f (updI r 2 v) kb hb := by
        refine ⟨tsM_mv T2 (fun b j z => if_neg (by omega)), by rw [← b2]; simp [mset], ?_, by rw [mset_row, D2.2.2.2.1], e18, by rw [← D2.2.2.2.2.2]; simp [mset]⟩
        rw [← D2.2.2.1]
        funext j
        exact if_neg (by omega)
      have R := rc_263 (x1 := some (.inl (2 : Int))) (x2 := some (.inl (0 : Int))) (x3 := some (.inl v)) hp hE c9 (F2'.st (a := 157) (k := 2) (v := v) (by unfold rcP; omega)) D3
      try simp (maxSteps := 2000000) only [↓reduceIte, wp_eq, wpd_eq, kont_eq, STP1, STP2, STP3, STP4, STP5, konM_eq, AMK, CZ, Option.map, List.getElem?_cons_zero, List.getElem?_cons_succ, List.mem_cons, List.not_mem_nil, if_false, if_true, Nat.reduceAdd, Nat.reduceLT, Nat.reduceLeDiff, Nat.reduceEqDiff, true_and, and_true, List.length_nil, List.length_cons, or_true, true_or, or_false, false_or, Option.some.injEq, Sum.inl.injEq, Sum.inr.injEq, exists_eq_left', exists_eq_left, Int.reduceLE, Int.reduceLT, Int.reduceNeg, Int.reduceAdd, Int.reduceMul, Int.reduceSub, Int.reduceToNat, inR, Nat.zero_ne_one, false_and, Nat.succ_ne_zero, reduceCtorEq, false_implies, true_implies, not_false_eq_true, not_true_eq_false, Int.reduceEq, KRE, C_Model_readClause, FM]
      refine wpm_of (cuts := [263]) (by decide) 60 _ _ _ _ ?_
      simp (maxSteps := 2000000) only [↓reduceIte, wp_eq, wpd_eq, kont_eq, STP1, STP2, STP3, STP4, STP5, konM_eq, AMK, CZ, Option.map, List.getElem?_cons_zero, List.getElem?_cons_succ, List.mem_cons, List.not_mem_nil, if_false, if_true, Nat.reduceAdd, Nat.reduceLT, Nat.reduceLeDiff, Nat.reduceEqDiff, true_and, and_true, List.length_nil, List.length_cons, or_true, true_or, or_false, false_or, Option.some.injEq, Sum.inl.injEq, Sum.inr.injEq, exists_eq_left', exists_eq_left, Int.reduceLE, Int.reduceLT, Int.reduceNeg, Int.reduceAdd, Int.reduceMul, Int.reduceSub, Int.reduceToNat, inR, Nat.zero_ne_one, false_and, Nat.succ_ne_zero, reduceCtorEq, false_implies, true_implies, not_false_eq_true, not_true_eq_false, Int.reduceEq, KRE, C_Model_readClause, FM, b2, e18, k0, e19, h0, eM]
      repeat (first | refine ⟨by omega, ?_⟩ | refine ⟨fun _ _ => okt_nn (by omega), ?_⟩)
      try (first | (show _ ≤ _; omega) | (show _ < _; omega))
      exact R
    · rw [eC, if_pos cF]
      obtain ⟨rfl, rfl⟩ := z2 cF
      have e15 := mWr_15 M1 (nmF g E (nxT g E a) 3 24)
      have R : rcQ M0 g E (nmF g E (nxT g E a) 3 24, nxT g E a, f, r, kb, hb) (mWr M1 (nmF g E (nxT g E a) 3 24)) := rcQ_bad (rcP_wr F1') cF e15 (mWr_16 T1 _)
      have i2 := nmF_in g E (nxT g E a) 3 24
      have q := eq_false cF
      generalize hX : rcQ M0 g E (nmF g E (nxT g E a) 3 24, nxT g E a, f, r, kb, hb) = X at *
      generalize nmF g E (nxT g E a) 3 24 = cc at *
      try simp (maxSteps := 2000000) only [↓reduceIte, wp_eq, wpd_eq, kont_eq, STP1, STP2, STP3, STP4, STP5, konM_eq, AMK, CZ, Option.map, List.getElem?_cons_zero, List.getElem?_cons_succ, List.mem_cons, List.not_mem_nil, if_false, if_true, Nat.reduceAdd, Nat.reduceLT, Nat.reduceLeDiff, Nat.reduceEqDiff, true_and, and_true, List.length_nil, List.length_cons, or_true, true_or, or_false, false_or, Option.some.injEq, Sum.inl.injEq, Sum.inr.injEq, exists_eq_left', exists_eq_left, Int.reduceLE, Int.reduceLT, Int.reduceNeg, Int.reduceAdd, Int.reduceMul, Int.reduceSub, Int.reduceToNat, inR, Nat.zero_ne_one, false_and, Nat.succ_ne_zero, reduceCtorEq, false_implies, true_implies, not_false_eq_true, not_true_eq_false, Int.reduceEq, KRE, C_Model_readClause, FM]
      refine wpm_of (cuts := [263]) (by decide) 40 _ _ _ _ ?_
      simp (maxSteps := 2000000) only [↓reduceIte, wp_eq, wpd_eq, kont_eq, STP1, STP2, STP3, STP4, STP5, konM_eq, AMK, CZ, Option.map, List.getElem?_cons_zero, List.getElem?_cons_succ, List.mem_cons, List.not_mem_nil, if_false, if_true, Nat.reduceAdd, Nat.reduceLT, Nat.reduceLeDiff, Nat.reduceEqDiff, true_and, and_true, List.length_nil, List.length_cons, or_true, true_or, or_false, false_or, Option.some.injEq, Sum.inl.injEq, Sum.inr.injEq, exists_eq_left', exists_eq_left, Int.reduceLE, Int.reduceLT, Int.reduceNeg, Int.reduceAdd, Int.reduceMul, Int.reduceSub, Int.reduceToNat, inR, Nat.zero_ne_one, false_and, Nat.succ_ne_zero, reduceCtorEq, false_implies, true_implies, not_false_eq_true, not_true_eq_false, Int.reduceEq, KRE, C_Model_readClause, FM, e15, q]
      repeat (first | refine ⟨by omega, ?_⟩ | refine ⟨fun _ _ => okt_nn (by omega), ?_⟩)
      try (first | (show _ ≤ _; omega) | (show _ < _; omega))
      all_goals first | exact R | exact ⟨rfl, R⟩
  · rw [eC, if_pos c1]
    have W := wrong_ok (M := M) (c := 4) b0 ⟨by omega, by omega⟩
    have e15 := mWr_15 M 4
    have R : rcQ M0 g E (4, a, f, r, kb, hb) (mWr M 4) := rcQ_bad (rcP_wr F) (by show (4 : Int) ≠ 0; omega) e15 (mWr_16 ht 4)
    have c1' := eq_false c1
    generalize hX : rcQ M0 g E (4, a, f, r, kb, hb) = X at *
    refine wpm_of (cuts := [39]) (by decide) 40 _ _ _ _ ?_
    simp (maxSteps := 2000000) only [↓reduceIte, wp_eq, wpd_eq, kont_eq, STP1, STP2, STP3, STP4, STP5, konM_eq, AMK, CZ, Option.map, List.getElem?_cons_zero, List.getElem?_cons_succ, List.mem_cons, List.not_mem_nil, if_false, if_true, Nat.reduceAdd, Nat.reduceLT, Nat.reduceLeDiff, Nat.reduceEqDiff, true_and, and_true, List.length_nil, List.length_cons, or_true, true_or, or_false, false_or, Option.some.injEq, Sum.inl.injEq, Sum.inr.injEq, exists_eq_left', exists_eq_left, Int.reduceLE, Int.reduceLT, Int.reduceNeg, Int.reduceAdd, Int.reduceMul, Int.reduceSub, Int.reduceToNat, inR, Nat.zero_ne_one, false_and, Nat.succ_ne_zero, reduceCtorEq, false_implies, true_implies, not_false_eq_true, not_true_eq_false, Int.reduceEq, KRE, C_Model_readClause, FM]
    repeat (first | refine ⟨by omega, ?_⟩ | refine ⟨fun _ _ => okt_nn (by omega), ?_⟩)
    try (first | (show _ ≤ _; omega) | (show _ < _; omega))
    refine I.eq ?_
    try simp (maxSteps := 2000000) only [↓reduceIte, wp_eq, wpd_eq, kont_eq, STP1, STP2, STP3, STP4, STP5, konM_eq, AMK, CZ, Option.map, List.getElem?_cons_zero, List.getElem?_cons_succ, List.mem_cons, List.not_mem_nil, if_false, if_true, Nat.reduceAdd, Nat.reduceLT, Nat.reduceLeDiff, Nat.reduceEqDiff, true_and, and_true, List.length_nil, List.length_cons, or_true, true_or, or_false, false_or, Option.some.injEq, Sum.inl.injEq, Sum.inr.injEq, exists_eq_left', exists_eq_left, Int.reduceLE, Int.reduceLT, Int.reduceNeg, Int.reduceAdd, Int.reduceMul, Int.reduceSub, Int.reduceToNat, inR, Nat.zero_ne_one, false_and, Nat.succ_ne_zero, reduceCtorEq, false_implies, true_implies, not_false_eq_true, not_true_eq_false, Int.reduceEq, KRE, C_Model_readClause, FM, e7, c1', b0]
    repeat (first | refine ⟨by omega, ?_⟩ | refine ⟨fun _ _ => okt_nn (by omega), ?_⟩)
    try (first | (show _ ≤ _; omega) | (show _ < _; omega))
    refine W.eq ?_
    try simp (maxSteps := 2000000) only [↓reduceIte, wp_eq, wpd_eq, kont_eq, STP1, STP2, STP3, STP4, STP5, konM_eq, AMK, CZ, Option.map, List.getElem?_cons_zero, List.getElem?_cons_succ, List.mem_cons, List.not_mem_nil, if_false, if_true, Nat.reduceAdd, Nat.reduceLT, Nat.reduceLeDiff, Nat.reduceEqDiff, true_and, and_true, List.length_nil, List.length_cons, or_true, true_or, or_false, false_or, Option.some.injEq, Sum.inl.injEq, Sum.inr.injEq, exists_eq_left', exists_eq_left, Int.reduceLE, Int.reduceLT, Int.reduceNeg, Int.reduceAdd, Int.reduceMul, Int.reduceSub, Int.reduceToNat, inR, Nat.zero_ne_one, false_and, Nat.succ_ne_zero, reduceCtorEq, false_implies, true_implies, not_false_eq_true, not_true_eq_false, Int.reduceEq, KRE, C_Model_readClause, FM]
    refine wpm_of (cuts := [263]) (by decide) 40 _ _ _ _ ?_
    simp (maxSteps := 2000000) only [↓reduceIte, wp_eq, wpd_eq, kont_eq, STP1, STP2, STP3, STP4, STP5, konM_eq, AMK, CZ, Option.map, List.getElem?_cons_zero, List.getElem?_cons_succ, List.mem_cons, List.not_mem_nil, if_false, if_true, Nat.reduceAdd, Nat.reduceLT, Nat.reduceLeDiff, Nat.reduceEqDiff, true_and, and_true, List.length_nil, List.length_cons, or_true, true_or, or_false, false_or, Option.some.injEq, Sum.inl.injEq, Sum.inr.injEq, exists_eq_left', exists_eq_left, Int.reduceLE, Int.reduceLT, Int.reduceNeg, Int.reduceAdd, Int.reduceMul, Int.reduceSub, Int.reduceToNat, inR, Nat.zero_ne_one, false_and, Nat.succ_ne_zero, reduceCtorEq, false_implies, true_implies, not_false_eq_true, not_true_eq_false, Int.reduceEq, KRE, C_Model_readClause, FM, e15]
    repeat (first | refine ⟨by omega, ?_⟩ | refine ⟨fun _ _ => okt_nn (by omega), ?_⟩)
    try (first | (show _ ≤ _; omega) | (show _ < _; omega))
    all_goals first | exact R | exact ⟨rfl, R⟩
set_option maxHeartbeats 600000 in
set_option maxRecDepth 20000 in
theorem rc_3 (hp : oct g E) (hE : E ≤ 900) (ha : a ≤ 900) (F : FrP rcP M0 M) (hd : rdM M g E a f r kb hb) (hi : rdI r kb hb) : WPm m_Model_readClause (fun v M' => v = none ∧ rcQ M0 g E (clW g E a 3 f r kb hb) M') 5 [some (.inr 154), some (.inl 3), none, none] [] M := by
  have hd0 := hd
  obtain ⟨ht, b0, h9, h7, h18, h19⟩ := hd
  obtain ⟨i0, i1, i2, i3⟩ := hi
  have iw := i1 3 (by omega) (by omega)
  obtain ⟨iw1, iw2⟩ := iw
  have e7 : M 157 3 = r 3 := by rw [h7]
  have b9 := nxT_le (g := g) hE ha
  have c9 := nxT_le (g := g) hE b9
  have eC : clW g E a 3 f r kb hb = if r 3 ≠ -1 then (4, a, f, r, kb, hb) else if nmF g E (nxT g E a) 0 50 ≠ 0 then (nmF g E (nxT g E a) 0 50, nxT g E a, f, r, kb, hb) else enS g E (nxT g E (nxT g E a)) f (updI r 3 (nmN g E (nxT g E a))) kb hb := clW_3
  have I := Model_isIn_ok (v := 3) (a := 1) (b := 3) (M := M) ⟨by omega, by omega⟩ ⟨by omega, by omega⟩ ⟨by omega, by omega⟩
  rw [if_pos (by omega)] at I
  have k0 := bOr_0 i2
  have h0 := bOr_0 i3
  by_cases c1 : r 3 = -1
  · rw [if_neg (fun z => z c1)] at eC
    refine wpm_of (cuts := [39]) (by decide) 40 _ _ _ _ ?_
    simp (maxSteps := 2000000) only [↓reduceIte, wp_eq, wpd_eq, kont_eq, STP1, STP2, STP3, STP4, STP5, konM_eq, AMK, CZ, Option.map, List.getElem?_cons_zero, List.getElem?_cons_succ, List.mem_cons, List.not_mem_nil, if_false, if_true, Nat.reduceAdd, Nat.reduceLT, Nat.reduceLeDiff, Nat.reduceEqDiff, true_and, and_true, List.length_nil, List.length_cons, or_true, true_or, or_false, false_or, Option.some.injEq, Sum.inl.injEq, Sum.inr.injEq, exists_eq_left', exists_eq_left, Int.reduceLE, Int.reduceLT, Int.reduceNeg, Int.reduceAdd, Int.reduceMul, Int.reduceSub, Int.reduceToNat, inR, Nat.zero_ne_one, false_and, Nat.succ_ne_zero, reduceCtorEq, false_implies, true_implies, not_false_eq_true, not_true_eq_false, Int.reduceEq, KRE, C_Model_readClause, FM]
    repeat (first | refine ⟨by omega, ?_⟩ | refine ⟨fun _ _ => okt_nn (by omega), ?_⟩)
    try (first | (show _ ≤ _; omega) | (show _ < _; omega))
    refine I.eq ?_
    try simp (maxSteps := 2000000) only [↓reduceIte, wp_eq, wpd_eq, kont_eq, STP1, STP2, STP3, STP4, STP5, konM_eq, AMK, CZ, Option.map, List.getElem?_cons_zero, List.getElem?_cons_succ, List.mem_cons, List.not_mem_nil, if_false, if_true, Nat.reduceAdd, Nat.reduceLT, Nat.reduceLeDiff, Nat.reduceEqDiff, true_and, and_true, List.length_nil, List.length_cons, or_true, true_or, or_false, false_or, Option.some.injEq, Sum.inl.injEq, Sum.inr.injEq, exists_eq_left', exists_eq_left, Int.reduceLE, Int.reduceLT, Int.reduceNeg, Int.reduceAdd, Int.reduceMul, Int.reduceSub, Int.reduceToNat, inR, Nat.zero_ne_one, false_and, Nat.succ_ne_zero, reduceCtorEq, false_implies, true_implies, not_false_eq_true, not_true_eq_false, Int.reduceEq, KRE, C_Model_readClause, FM, e7, c1, b0]
    repeat (first | refine ⟨by omega, ?_⟩ | refine ⟨fun _ _ => okt_nn (by omega), ?_⟩)
    try (first | (show _ ≤ _; omega) | (show _ < _; omega))
    refine wpm_of (cuts := [176]) (by decide) 60 _ _ _ _ ?_
    simp (maxSteps := 2000000) only [↓reduceIte, wp_eq, wpd_eq, kont_eq, STP1, STP2, STP3, STP4, STP5, konM_eq, AMK, CZ, Option.map, List.getElem?_cons_zero, List.getElem?_cons_succ, List.mem_cons, List.not_mem_nil, if_false, if_true, Nat.reduceAdd, Nat.reduceLT, Nat.reduceLeDiff, Nat.reduceEqDiff, true_and, and_true, List.length_nil, List.length_cons, or_true, true_or, or_false, false_or, Option.some.injEq, Sum.inl.injEq, Sum.inr.injEq, exists_eq_left', exists_eq_left, Int.reduceLE, Int.reduceLT, Int.reduceNeg, Int.reduceAdd, Int.reduceMul, Int.reduceSub, Int.reduceToNat, inR, Nat.zero_ne_one, false_and, Nat.succ_ne_zero, reduceCtorEq, false_implies, true_implies, not_false_eq_true, not_true_eq_false, Int.reduceEq, KRE, C_Model_readClause, FM, b0]
    repeat (first | refine ⟨by omega, ?_⟩ | refine ⟨fun _ _ => okt_nn (by omega), ?_⟩)
    try (first | (show _ ≤ _; omega) | (show _ < _; omega))
    refine (step_ok ht hp hE ha).mono (fun M1 w => ?_)
    obtain ⟨F1, T1⟩ := w
    have D1 := rdM_st hd0 F1 T1
    have F1' := rcP_st F F1
    have b1 := D1.2.1
    have N := readNumber_ok (lo := 0) (hi := 50) T1 hp b1 hE b9 ⟨by omega, by omega⟩ ⟨by omega, by omega⟩
    try simp (maxSteps := 2000000) only [↓reduceIte, wp_eq, wpd_eq, kont_eq, STP1, STP2, STP3, STP4, STP5, konM_eq, AMK, CZ, Option.map, List.getElem?_cons_zero, List.getElem?_cons_succ, List.mem_cons, List.not_mem_nil, if_false, if_true, Nat.reduceAdd, Nat.reduceLT, Nat.reduceLeDiff, Nat.reduceEqDiff, true_and, and_true, List.length_nil, List.length_cons, or_true, true_or, or_false, false_or, Option.some.injEq, Sum.inl.injEq, Sum.inr.injEq, exists_eq_left', exists_eq_left, Int.reduceLE, Int.reduceLT, Int.reduceNeg, Int.reduceAdd, Int.reduceMul, Int.reduceSub, Int.reduceToNat, inR, Nat.zero_ne_one, false_and, Nat.succ_ne_zero, reduceCtorEq, false_implies, true_implies, not_false_eq_true, not_true_eq_false, Int.reduceEq, KRE, C_Model_readClause, FM, b1]
    repeat (first | refine ⟨by omega, ?_⟩ | refine ⟨fun _ _ => okt_nn (by omega), ?_⟩)
    try (first | (show _ ≤ _; omega) | (show _ < _; omega))
    refine N.mono (fun x M2 z => ?_)
    obtain ⟨z1, z2⟩ := z
    by_cases cF : nmF g E (nxT g E a) 0 50 = 0
    · rw [eC, if_neg (fun w => w cF)]
      obtain ⟨rfl, F2, T2⟩ := z1 cF
      have D2 := rdM_st D1 F2 T2
      have F2' := rcP_st F1' F2
      generalize nxT g E (nxT g E a) = p at *
      generalize nmN g E (nxT g E a) = v at *
      have b2 := D2.2.1
      have e18 : mset M2 157 3 v 154 18 = kb := by rw [← D2.2.2.2.2.1]; simp [mset]
      have e19 : mset (mset M2 157 3 v) 154 18 kb 154 19 = hb := by rw [← D2.2.2.2.2.2]; simp [mset]
      have eM : mset (mset (mset M2 157 3 v) 154 18 kb) 154 19 hb = mset M2 157 3 v := by
        have e19' : mset M2 157 3 v 154 19 = hb := by rw [← D2.2.2.2.2.2]; simp [mset]
        rw [← e18, mset_same, ← e19', mset_same]
      have D3 : rdM (mset M2 157 3 v) g E p f (updI r 3 v) kb hb := by
        refine ⟨tsM_mv T2 (fun b j z => if_neg (by omega)), by rw [← b2]; simp [mset], ?_, by rw [mset_row, D2.2.2.2.1], e18, by rw [← D2.2.2.2.2.2]; simp [mset]⟩
        rw [← D2.2.2.1]
        funext j
        exact if_neg (by omega)
      have R := rc_263 (x1 := some (.inl (3 : Int))) (x2 := some (.inl (0 : Int))) (x3 := some (.inl v)) hp hE c9 (F2'.st (a := 157) (k := 3) (v := v) (by unfold rcP; omega)) D3
      try simp (maxSteps := 2000000) only [↓reduceIte, wp_eq, wpd_eq, kont_eq, STP1, STP2, STP3, STP4, STP5, konM_eq, AMK, CZ, Option.map, List.getElem?_cons_zero, List.getElem?_cons_succ, List.mem_cons, List.not_mem_nil, if_false, if_true, Nat.reduceAdd, Nat.reduceLT, Nat.reduceLeDiff, Nat.reduceEqDiff, true_and, and_true, List.length_nil, List.length_cons, or_true, true_or, or_false, false_or, Option.some.injEq, Sum.inl.injEq, Sum.inr.injEq, exists_eq_left', exists_eq_left, Int.reduceLE, Int.reduceLT, Int.reduceNeg, Int.reduceAdd, Int.reduceMul, Int.reduceSub, Int.reduceToNat, inR, Nat.zero_ne_one, false_and, Nat.succ_ne_zero, reduceCtorEq, false_implies, true_implies, not_false_eq_true, not_true_eq_false, Int.reduceEq, KRE, C_Model_readClause, FM]
      refine wpm_of (cuts := [263]) (by decide) 60 _ _ _ _ ?_
      simp (maxSteps := 2000000) only [↓reduceIte, wp_eq, wpd_eq, kont_eq, STP1, STP2, STP3, STP4, STP5, konM_eq, AMK, CZ, Option.map, List.getElem?_cons_zero, List.getElem?_cons_succ, List.mem_cons, List.not_mem_nil, if_false, if_true, Nat.reduceAdd, Nat.reduceLT, Nat.reduceLeDiff, Nat.reduceEqDiff, true_and, and_true, List.length_nil, List.length_cons, or_true, true_or, or_false, false_or, Option.some.injEq, Sum.inl.injEq, Sum.inr.injEq, exists_eq_left', exists_eq_left, Int.reduceLE, Int.reduceLT, Int.reduceNeg, Int.reduceAdd, Int.reduceMul, Int.reduceSub, Int.reduceToNat, inR, Nat.zero_ne_one, false_and, Nat.succ_ne_zero, reduceCtorEq, false_implies, true_implies, not_false_eq_true, not_true_eq_false, Int.reduceEq, KRE, C_Model_readClause, FM, b2, e18, k0, e19, h0, eM]
      repeat (first | refine ⟨by omega, ?_⟩ | refine ⟨fun _ _ => okt_nn (by omega), ?_⟩)
      try (first | (show _ ≤ _; omega) | (show _ < _; omega))
      exact R
    · rw [eC, if_pos cF]
      obtain ⟨rfl, rfl⟩ := z2 cF
      have e15 := mWr_15 M1 (nmF g E (nxT g E a) 0 50)
      have R : rcQ M0 g E (nmF g E (nxT g E a) 0 50, nxT g E a, f, r, kb, hb) (mWr M1 (nmF g E (nxT g E a) 0 50)) := rcQ_bad (rcP_wr F1') cF e15 (mWr_16 T1 _)
      have i2 := nmF_in g E (nxT g E a) 0 50
      have q := eq_false cF
      generalize hX : rcQ M0 g E (nmF g E (nxT g E a) 0 50, nxT g E a, f, r, kb, hb) = X at *
      generalize nmF g E (nxT g E a) 0 50 = cc at *
      try simp (maxSteps := 2000000) only [↓reduceIte, wp_eq, wpd_eq, kont_eq, STP1, STP2, STP3, STP4, STP5, konM_eq, AMK, CZ, Option.map, List.getElem?_cons_zero, List.getElem?_cons_succ, List.mem_cons, List.not_mem_nil, if_false, if_true, Nat.reduceAdd, Nat.reduceLT, Nat.reduceLeDiff, Nat.reduceEqDiff, true_and, and_true, List.length_nil, List.length_cons, or_true, true_or, or_false, false_or, Option.some.injEq, Sum.inl.injEq, Sum.inr.injEq, exists_eq_left', exists_eq_left, Int.reduceLE, Int.reduceLT, Int.reduceNeg, Int.reduceAdd, Int.reduceMul, Int.reduceSub, Int.reduceToNat, inR, Nat.zero_ne_one, false_and, Nat.succ_ne_zero, reduceCtorEq, false_implies, true_implies, not_false_eq_true, not_true_eq_false, Int.reduceEq, KRE, C_Model_readClause, FM]
      refine wpm_of (cuts := [263]) (by decide) 40 _ _ _ _ ?_
      simp (maxSteps := 2000000) only [↓reduceIte, wp_eq, wpd_eq, kont_eq, STP1, STP2, STP3, STP4, STP5, konM_eq, AMK, CZ, Option.map, List.getElem?_cons_zero, List.getElem?_cons_succ, List.mem_cons, List.not_mem_nil, if_false, if_true, Nat.reduceAdd, Nat.reduceLT, Nat.reduceLeDiff, Nat.reduceEqDiff, true_and, and_true, List.length_nil, List.length_cons, or_true, true_or, or_false, false_or, Option.some.injEq, Sum.inl.injEq, Sum.inr.injEq, exists_eq_left', exists_eq_left, Int.reduceLE, Int.reduceLT, Int.reduceNeg, Int.reduceAdd, Int.reduceMul, Int.reduceSub, Int.reduceToNat, inR, Nat.zero_ne_one, false_and, Nat.succ_ne_zero, reduceCtorEq, false_implies, true_implies, not_false_eq_true, not_true_eq_false, Int.reduceEq, KRE, C_Model_readClause, FM, e15, q]
      repeat (first | refine ⟨by omega, ?_⟩ | refine ⟨fun _ _ => okt_nn (by omega), ?_⟩)
      try (first | (show _ ≤ _; omega) | (show _ < _; omega))
      all_goals first | exact R | exact ⟨rfl, R⟩
  · rw [eC, if_pos c1]
    have W := wrong_ok (M := M) (c := 4) b0 ⟨by omega, by omega⟩
    have e15 := mWr_15 M 4
    have R : rcQ M0 g E (4, a, f, r, kb, hb) (mWr M 4) := rcQ_bad (rcP_wr F) (by show (4 : Int) ≠ 0; omega) e15 (mWr_16 ht 4)
    have c1' := eq_false c1
    generalize hX : rcQ M0 g E (4, a, f, r, kb, hb) = X at *
    refine wpm_of (cuts := [39]) (by decide) 40 _ _ _ _ ?_
    simp (maxSteps := 2000000) only [↓reduceIte, wp_eq, wpd_eq, kont_eq, STP1, STP2, STP3, STP4, STP5, konM_eq, AMK, CZ, Option.map, List.getElem?_cons_zero, List.getElem?_cons_succ, List.mem_cons, List.not_mem_nil, if_false, if_true, Nat.reduceAdd, Nat.reduceLT, Nat.reduceLeDiff, Nat.reduceEqDiff, true_and, and_true, List.length_nil, List.length_cons, or_true, true_or, or_false, false_or, Option.some.injEq, Sum.inl.injEq, Sum.inr.injEq, exists_eq_left', exists_eq_left, Int.reduceLE, Int.reduceLT, Int.reduceNeg, Int.reduceAdd, Int.reduceMul, Int.reduceSub, Int.reduceToNat, inR, Nat.zero_ne_one, false_and, Nat.succ_ne_zero, reduceCtorEq, false_implies, true_implies, not_false_eq_true, not_true_eq_false, Int.reduceEq, KRE, C_Model_readClause, FM]
    repeat (first | refine ⟨by omega, ?_⟩ | refine ⟨fun _ _ => okt_nn (by omega), ?_⟩)
    try (first | (show _ ≤ _; omega) | (show _ < _; omega))
    refine I.eq ?_
    try simp (maxSteps := 2000000) only [↓reduceIte, wp_eq, wpd_eq, kont_eq, STP1, STP2, STP3, STP4, STP5, konM_eq, AMK, CZ, Option.map, List.getElem?_cons_zero, List.getElem?_cons_succ, List.mem_cons, List.not_mem_nil, if_false, if_true, Nat.reduceAdd, Nat.reduceLT, Nat.reduceLeDiff, Nat.reduceEqDiff, true_and, and_true, List.length_nil, List.length_cons, or_true, true_or, or_false, false_or, Option.some.injEq, Sum.inl.injEq, Sum.inr.injEq, exists_eq_left', exists_eq_left, Int.reduceLE, Int.reduceLT, Int.reduceNeg, Int.reduceAdd, Int.reduceMul, Int.reduceSub, Int.reduceToNat, inR, Nat.zero_ne_one, false_and, Nat.succ_ne_zero, reduceCtorEq, false_implies, true_implies, not_false_eq_true, not_true_eq_false, Int.reduceEq, KRE, C_Model_readClause, FM, e7, c1', b0]
    repeat (first | refine ⟨by omega, ?_⟩ | refine ⟨fun _ _ => okt_nn (by omega), ?_⟩)
    try (first | (show _ ≤ _; omega) | (show _ < _; omega))
    refine W.eq ?_
    try simp (maxSteps := 2000000) only [↓reduceIte, wp_eq, wpd_eq, kont_eq, STP1, STP2, STP3, STP4, STP5, konM_eq, AMK, CZ, Option.map, List.getElem?_cons_zero, List.getElem?_cons_succ, List.mem_cons, List.not_mem_nil, if_false, if_true, Nat.reduceAdd, Nat.reduceLT, Nat.reduceLeDiff, Nat.reduceEqDiff, true_and, and_true, List.length_nil, List.length_cons, or_true, true_or, or_false, false_or, Option.some.injEq, Sum.inl.injEq, Sum.inr.injEq, exists_eq_left', exists_eq_left, Int.reduceLE, Int.reduceLT, Int.reduceNeg, Int.reduceAdd, Int.reduceMul, Int.reduceSub, Int.reduceToNat, inR, Nat.zero_ne_one, false_and, Nat.succ_ne_zero, reduceCtorEq, false_implies, true_implies, not_false_eq_true, not_true_eq_false, Int.reduceEq, KRE, C_Model_readClause, FM]
    refine wpm_of (cuts := [263]) (by decide) 40 _ _ _ _ ?_
    simp (maxSteps := 2000000) only [↓reduceIte, wp_eq, wpd_eq, kont_eq, STP1, STP2, STP3, STP4, STP5, konM_eq, AMK, CZ, Option.map, List.getElem?_cons_zero, List.getElem?_cons_succ, List.mem_cons, List.not_mem_nil, if_false, if_true, Nat.reduceAdd, Nat.reduceLT, Nat.reduceLeDiff, Nat.reduceEqDiff, true_and, and_true, List.length_nil, List.length_cons, or_true, true_or, or_false, false_or, Option.some.injEq, Sum.inl.injEq, Sum.inr.injEq, exists_eq_left', exists_eq_left, Int.reduceLE, Int.reduceLT, Int.reduceNeg, Int.reduceAdd, Int.reduceMul, Int.reduceSub, Int.reduceToNat, inR, Nat.zero_ne_one, false_and, Nat.succ_ne_zero, reduceCtorEq, false_implies, true_implies, not_false_eq_true, not_true_eq_false, Int.reduceEq, KRE, C_Model_readClause, FM, e15]
    repeat (first | refine ⟨by omega, ?_⟩ | refine ⟨fun _ _ => okt_nn (by omega), ?_⟩)
    try (first | (show _ ≤ _; omega) | (show _ < _; omega))
    all_goals first | exact R | exact ⟨rfl, R⟩
set_option maxHeartbeats 600000 in
set_option maxRecDepth 20000 in
theorem rc_4 (hp : oct g E) (hE : E ≤ 900) (ha : a ≤ 900) (F : FrP rcP M0 M) (hd : rdM M g E a f r kb hb) (hi : rdI r kb hb) : WPm m_Model_readClause (fun v M' => v = none ∧ rcQ M0 g E (clW g E a 4 f r kb hb) M') 5 [some (.inr 154), some (.inl 4), none, none] [] M := by
  have hd0 := hd
  obtain ⟨ht, b0, h9, h7, h18, h19⟩ := hd
  obtain ⟨i0, i1, i2, i3⟩ := hi
  have b9 := nxT_le (g := g) hE ha
  have c9 := nxT_le (g := g) hE b9
  have d9 := nxT_le (g := g) hE c9
  have eC : clW g E a 4 f r kb hb = if tnF g E (nxT g E a) (r 0) kb ≠ 0 then (tnF g E (nxT g E a) (r 0) kb, nxT g E a, f, r, kb, hb) else if nmF g E (nxT g E (nxT g E a)) 0 900 ≠ 0 then (nmF g E (nxT g E (nxT g E a)) 0 900, nxT g E (nxT g E a), f, r, kb, hb) else enS g E (nxT g E (nxT g E (nxT g E a))) (updI f (30 * (nmN g E (nxT g E a)).toNat + 4) (nmN g E (nxT g E (nxT g E a)))) r (bOr kb (bShl 1 (nmN g E (nxT g E a)))) (hb) := clW_4
  have I := Model_isIn_ok (v := 4) (a := 1) (b := 3) (M := M) ⟨by omega, by omega⟩ ⟨by omega, by omega⟩ ⟨by omega, by omega⟩
  rw [if_neg (by omega)] at I
  have k0 := bOr_0 i2
  have h0 := bOr_0 i3
  refine wpm_of (cuts := [39]) (by decide) 40 _ _ _ _ ?_
  simp (maxSteps := 2000000) only [↓reduceIte, wp_eq, wpd_eq, kont_eq, STP1, STP2, STP3, STP4, STP5, konM_eq, AMK, CZ, Option.map, List.getElem?_cons_zero, List.getElem?_cons_succ, List.mem_cons, List.not_mem_nil, if_false, if_true, Nat.reduceAdd, Nat.reduceLT, Nat.reduceLeDiff, Nat.reduceEqDiff, true_and, and_true, List.length_nil, List.length_cons, or_true, true_or, or_false, false_or, Option.some.injEq, Sum.inl.injEq, Sum.inr.injEq, exists_eq_left', exists_eq_left, Int.reduceLE, Int.reduceLT, Int.reduceNeg, Int.reduceAdd, Int.reduceMul, Int.reduceSub, Int.reduceToNat, inR, Nat.zero_ne_one, false_and, Nat.succ_ne_zero, reduceCtorEq, false_implies, true_implies, not_false_eq_true, not_true_eq_false, Int.reduceEq, KRE, C_Model_readClause, FM]
  repeat (first | refine ⟨by omega, ?_⟩ | refine ⟨fun _ _ => okt_nn (by omega), ?_⟩)
  try (first | (show _ ≤ _; omega) | (show _ < _; omega))
  refine I.eq ?_
  try simp (maxSteps := 2000000) only [↓reduceIte, wp_eq, wpd_eq, kont_eq, STP1, STP2, STP3, STP4, STP5, konM_eq, AMK, CZ, Option.map, List.getElem?_cons_zero, List.getElem?_cons_succ, List.mem_cons, List.not_mem_nil, if_false, if_true, Nat.reduceAdd, Nat.reduceLT, Nat.reduceLeDiff, Nat.reduceEqDiff, true_and, and_true, List.length_nil, List.length_cons, or_true, true_or, or_false, false_or, Option.some.injEq, Sum.inl.injEq, Sum.inr.injEq, exists_eq_left', exists_eq_left, Int.reduceLE, Int.reduceLT, Int.reduceNeg, Int.reduceAdd, Int.reduceMul, Int.reduceSub, Int.reduceToNat, inR, Nat.zero_ne_one, false_and, Nat.succ_ne_zero, reduceCtorEq, false_implies, true_implies, not_false_eq_true, not_true_eq_false, Int.reduceEq, KRE, C_Model_readClause, FM]
  repeat (first | refine ⟨by omega, ?_⟩ | refine ⟨fun _ _ => okt_nn (by omega), ?_⟩)
  try (first | (show _ ≤ _; omega) | (show _ < _; omega))
  refine wpm_of (cuts := [176]) (by decide) 80 _ _ _ _ ?_
  simp (maxSteps := 2000000) only [↓reduceIte, wp_eq, wpd_eq, kont_eq, STP1, STP2, STP3, STP4, STP5, konM_eq, AMK, CZ, Option.map, List.getElem?_cons_zero, List.getElem?_cons_succ, List.mem_cons, List.not_mem_nil, if_false, if_true, Nat.reduceAdd, Nat.reduceLT, Nat.reduceLeDiff, Nat.reduceEqDiff, true_and, and_true, List.length_nil, List.length_cons, or_true, true_or, or_false, false_or, Option.some.injEq, Sum.inl.injEq, Sum.inr.injEq, exists_eq_left', exists_eq_left, Int.reduceLE, Int.reduceLT, Int.reduceNeg, Int.reduceAdd, Int.reduceMul, Int.reduceSub, Int.reduceToNat, inR, Nat.zero_ne_one, false_and, Nat.succ_ne_zero, reduceCtorEq, false_implies, true_implies, not_false_eq_true, not_true_eq_false, Int.reduceEq, KRE, C_Model_readClause, FM, b0]
  repeat (first | refine ⟨by omega, ?_⟩ | refine ⟨fun _ _ => okt_nn (by omega), ?_⟩)
  try (first | (show _ ≤ _; omega) | (show _ < _; omega))
  refine (step_ok ht hp hE ha).mono (fun M1 w => ?_)
  obtain ⟨F1, T1⟩ := w
  have D1 := rdM_st hd0 F1 T1
  have F1' := rcP_st F F1
  have b1 := D1.2.1
  have e1 : M1 154 18 = kb := D1.2.2.2.2.1
  have TN := timberNow_ok (n := r 0) (set := kb) T1 b1 hE b9 (by rw [D1.2.2.2.1]) i0
  try simp (maxSteps := 2000000) only [↓reduceIte, wp_eq, wpd_eq, kont_eq, STP1, STP2, STP3, STP4, STP5, konM_eq, AMK, CZ, Option.map, List.getElem?_cons_zero, List.getElem?_cons_succ, List.mem_cons, List.not_mem_nil, if_false, if_true, Nat.reduceAdd, Nat.reduceLT, Nat.reduceLeDiff, Nat.reduceEqDiff, true_and, and_true, List.length_nil, List.length_cons, or_true, true_or, or_false, false_or, Option.some.injEq, Sum.inl.injEq, Sum.inr.injEq, exists_eq_left', exists_eq_left, Int.reduceLE, Int.reduceLT, Int.reduceNeg, Int.reduceAdd, Int.reduceMul, Int.reduceSub, Int.reduceToNat, inR, Nat.zero_ne_one, false_and, Nat.succ_ne_zero, reduceCtorEq, false_implies, true_implies, not_false_eq_true, not_true_eq_false, Int.reduceEq, KRE, C_Model_readClause, FM, e1]
  repeat (first | refine ⟨by omega, ?_⟩ | refine ⟨fun _ _ => okt_nn (by omega), ?_⟩)
  try (first | (show _ ≤ _; omega) | (show _ < _; omega))
  refine TN.mono (fun x M2 z => ?_)
  obtain ⟨z1, z2⟩ := z
  by_cases cT : tnF g E (nxT g E a) (r 0) kb = 0
  · rw [eC, if_neg (fun w => w cT)]
    obtain ⟨rfl, rfl⟩ := z1 cT
    have n07 : 0 ≤ nmN g E (nxT g E a) ∧ nmN g E (nxT g E a) ≤ 7 := by
      refine nmN_in (lo := 0) (hi := 7) ?_
      unfold tnF at cT
      by_cases w : nmF g E (nxT g E a) 0 7 = 0
      · exact w
      · rw [if_pos w] at cT
        exact absurd cT w
    try simp (maxSteps := 2000000) only [↓reduceIte, wp_eq, wpd_eq, kont_eq, STP1, STP2, STP3, STP4, STP5, konM_eq, AMK, CZ, Option.map, List.getElem?_cons_zero, List.getElem?_cons_succ, List.mem_cons, List.not_mem_nil, if_false, if_true, Nat.reduceAdd, Nat.reduceLT, Nat.reduceLeDiff, Nat.reduceEqDiff, true_and, and_true, List.length_nil, List.length_cons, or_true, true_or, or_false, false_or, Option.some.injEq, Sum.inl.injEq, Sum.inr.injEq, exists_eq_left', exists_eq_left, Int.reduceLE, Int.reduceLT, Int.reduceNeg, Int.reduceAdd, Int.reduceMul, Int.reduceSub, Int.reduceToNat, inR, Nat.zero_ne_one, false_and, Nat.succ_ne_zero, reduceCtorEq, false_implies, true_implies, not_false_eq_true, not_true_eq_false, Int.reduceEq, KRE, C_Model_readClause, FM, b1]
    repeat (first | refine ⟨by omega, ?_⟩ | refine ⟨fun _ _ => okt_nn (by omega), ?_⟩)
    try (first | (show _ ≤ _; omega) | (show _ < _; omega))
    refine (step_ok T1 hp hE b9).mono (fun M2 w => ?_)
    obtain ⟨F2, T2⟩ := w
    have D2 := rdM_st D1 F2 T2
    have F2' := rcP_st F1' F2
    have b2 := D2.2.1
    have N := readNumber_ok (lo := 0) (hi := 900) T2 hp b2 hE c9 ⟨by omega, by omega⟩ ⟨by omega, by omega⟩
    try simp (maxSteps := 2000000) only [↓reduceIte, wp_eq, wpd_eq, kont_eq, STP1, STP2, STP3, STP4, STP5, konM_eq, AMK, CZ, Option.map, List.getElem?_cons_zero, List.getElem?_cons_succ, List.mem_cons, List.not_mem_nil, if_false, if_true, Nat.reduceAdd, Nat.reduceLT, Nat.reduceLeDiff, Nat.reduceEqDiff, true_and, and_true, List.length_nil, List.length_cons, or_true, true_or, or_false, false_or, Option.some.injEq, Sum.inl.injEq, Sum.inr.injEq, exists_eq_left', exists_eq_left, Int.reduceLE, Int.reduceLT, Int.reduceNeg, Int.reduceAdd, Int.reduceMul, Int.reduceSub, Int.reduceToNat, inR, Nat.zero_ne_one, false_and, Nat.succ_ne_zero, reduceCtorEq, false_implies, true_implies, not_false_eq_true, not_true_eq_false, Int.reduceEq, KRE, C_Model_readClause, FM, b2]
    repeat (first | refine ⟨by omega, ?_⟩ | refine ⟨fun _ _ => okt_nn (by omega), ?_⟩)
    try (first | (show _ ≤ _; omega) | (show _ < _; omega))
    refine N.mono (fun x M3 z => ?_)
    obtain ⟨y1, y2⟩ := z
    by_cases cF : nmF g E (nxT g E (nxT g E a)) 0 900 = 0
    · rw [if_neg (fun w => w cF)]
      obtain ⟨rfl, F3, T3⟩ := y1 cF
      have D3 := rdM_st D2 F3 T3
      have F3' := rcP_st F2' F3
      have ix : (30 * nmN g E (nxT g E a) + 4).toNat = 30 * (nmN g E (nxT g E a)).toNat + 4 := by omega
      generalize nmN g E (nxT g E (nxT g E a)) = v at *
      generalize nxT g E (nxT g E (nxT g E a)) = p at *
      generalize nmN g E (nxT g E a) = t at *
      have b3 := D3.2.1
      have e18 : mset M3 159 (30 * t.toNat + 4) v 154 18 = kb := by rw [← D3.2.2.2.2.1]; simp [mset]
      have e19 : mset (mset M3 159 (30 * t.toNat + 4) v) 154 18 (bOr kb (bShl 1 (t))) 154 19 = hb := by rw [← D3.2.2.2.2.2]; simp [mset]
      have D4 : rdM (mset (mset (mset M3 159 (30 * t.toNat + 4) v) 154 18 (bOr kb (bShl 1 (t)))) 154 19 (hb)) g E p (updI f (30 * t.toNat + 4) v) r (bOr kb (bShl 1 (t))) (hb) := by
        refine ⟨tsM_mv T3 (fun b j z => (if_neg (by omega)).trans ((if_neg (by omega)).trans (if_neg (by omega)))), by rw [← b3]; simp [mset], ?_, ?_, by simp [mset], by simp [mset]⟩
        · rw [← D3.2.2.1, ← mset_row]
          funext j
          exact (if_neg (by omega)).trans (if_neg (by omega))
        · rw [← D3.2.2.2.1]
          funext j
          exact (if_neg (by omega)).trans ((if_neg (by omega)).trans (if_neg (by omega)))
      have F4 : FrP rcP M0 (mset (mset (mset M3 159 (30 * t.toNat + 4) v) 154 18 (bOr kb (bShl 1 (t)))) 154 19 (hb)) := ((F3'.st (by unfold rcP; omega)).st (by unfold rcP; omega)).st (by unfold rcP; omega)
      have R := rc_263 (x1 := some (.inl (4 : Int))) (x2 := some (.inl t)) (x3 := some (.inl v)) hp hE d9 F4 D4
      try simp (maxSteps := 2000000) only [↓reduceIte, wp_eq, wpd_eq, kont_eq, STP1, STP2, STP3, STP4, STP5, konM_eq, AMK, CZ, Option.map, List.getElem?_cons_zero, List.getElem?_cons_succ, List.mem_cons, List.not_mem_nil, if_false, if_true, Nat.reduceAdd, Nat.reduceLT, Nat.reduceLeDiff, Nat.reduceEqDiff, true_and, and_true, List.length_nil, List.length_cons, or_true, true_or, or_false, false_or, Option.some.injEq, Sum.inl.injEq, Sum.inr.injEq, exists_eq_left', exists_eq_left, Int.reduceLE, Int.reduceLT, Int.reduceNeg, Int.reduceAdd, Int.reduceMul, Int.reduceSub, Int.reduceToNat, inR, Nat.zero_ne_one, false_and, Nat.succ_ne_zero, reduceCtorEq, false_implies, true_implies, not_false_eq_true, not_true_eq_false, Int.reduceEq, KRE, C_Model_readClause, FM]
      refine wpm_of (cuts := [263]) (by decide) 60 _ _ _ _ ?_
      simp (maxSteps := 2000000) only [↓reduceIte, wp_eq, wpd_eq, kont_eq, STP1, STP2, STP3, STP4, STP5, konM_eq, AMK, CZ, Option.map, List.getElem?_cons_zero, List.getElem?_cons_succ, List.mem_cons, List.not_mem_nil, if_false, if_true, Nat.reduceAdd, Nat.reduceLT, Nat.reduceLeDiff, Nat.reduceEqDiff, true_and, and_true, List.length_nil, List.length_cons, or_true, true_or, or_false, false_or, Option.some.injEq, Sum.inl.injEq, Sum.inr.injEq, exists_eq_left', exists_eq_left, Int.reduceLE, Int.reduceLT, Int.reduceNeg, Int.reduceAdd, Int.reduceMul, Int.reduceSub, Int.reduceToNat, inR, Nat.zero_ne_one, false_and, Nat.succ_ne_zero, reduceCtorEq, false_implies, true_implies, not_false_eq_true, not_true_eq_false, Int.reduceEq, KRE, C_Model_readClause, FM, b3, ix, e18, k0, e19, h0]
      repeat (first | refine ⟨by omega, ?_⟩ | refine ⟨fun _ _ => okt_nn (by omega), ?_⟩)
      try (first | (show _ ≤ _; omega) | (show _ < _; omega))
      exact R
    · rw [if_pos cF]
      obtain ⟨rfl, rfl⟩ := y2 cF
      have e15 := mWr_15 M2 (nmF g E (nxT g E (nxT g E a)) 0 900)
      have R : rcQ M0 g E (nmF g E (nxT g E (nxT g E a)) 0 900, nxT g E (nxT g E a), f, r, kb, hb) (mWr M2 (nmF g E (nxT g E (nxT g E a)) 0 900)) := rcQ_bad (rcP_wr F2') cF e15 (mWr_16 T2 _)
      have i2 := nmF_in g E (nxT g E (nxT g E a)) 0 900
      have q := eq_false cF
      generalize hX : rcQ M0 g E (nmF g E (nxT g E (nxT g E a)) 0 900, nxT g E (nxT g E a), f, r, kb, hb) = X at *
      generalize nmF g E (nxT g E (nxT g E a)) 0 900 = cc at *
      try simp (maxSteps := 2000000) only [↓reduceIte, wp_eq, wpd_eq, kont_eq, STP1, STP2, STP3, STP4, STP5, konM_eq, AMK, CZ, Option.map, List.getElem?_cons_zero, List.getElem?_cons_succ, List.mem_cons, List.not_mem_nil, if_false, if_true, Nat.reduceAdd, Nat.reduceLT, Nat.reduceLeDiff, Nat.reduceEqDiff, true_and, and_true, List.length_nil, List.length_cons, or_true, true_or, or_false, false_or, Option.some.injEq, Sum.inl.injEq, Sum.inr.injEq, exists_eq_left', exists_eq_left, Int.reduceLE, Int.reduceLT, Int.reduceNeg, Int.reduceAdd, Int.reduceMul, Int.reduceSub, Int.reduceToNat, inR, Nat.zero_ne_one, false_and, Nat.succ_ne_zero, reduceCtorEq, false_implies, true_implies, not_false_eq_true, not_true_eq_false, Int.reduceEq, KRE, C_Model_readClause, FM]
      refine wpm_of (cuts := [263]) (by decide) 40 _ _ _ _ ?_
      simp (maxSteps := 2000000) only [↓reduceIte, wp_eq, wpd_eq, kont_eq, STP1, STP2, STP3, STP4, STP5, konM_eq, AMK, CZ, Option.map, List.getElem?_cons_zero, List.getElem?_cons_succ, List.mem_cons, List.not_mem_nil, if_false, if_true, Nat.reduceAdd, Nat.reduceLT, Nat.reduceLeDiff, Nat.reduceEqDiff, true_and, and_true, List.length_nil, List.length_cons, or_true, true_or, or_false, false_or, Option.some.injEq, Sum.inl.injEq, Sum.inr.injEq, exists_eq_left', exists_eq_left, Int.reduceLE, Int.reduceLT, Int.reduceNeg, Int.reduceAdd, Int.reduceMul, Int.reduceSub, Int.reduceToNat, inR, Nat.zero_ne_one, false_and, Nat.succ_ne_zero, reduceCtorEq, false_implies, true_implies, not_false_eq_true, not_true_eq_false, Int.reduceEq, KRE, C_Model_readClause, FM, e15, q]
      repeat (first | refine ⟨by omega, ?_⟩ | refine ⟨fun _ _ => okt_nn (by omega), ?_⟩)
      try (first | (show _ ≤ _; omega) | (show _ < _; omega))
      all_goals first | exact R | exact ⟨rfl, R⟩
  · rw [eC, if_pos cT]
    obtain ⟨x0, x7, rfl⟩ := z2 cT
    have it := tnF_in g E (nxT g E a) (r 0) kb
    have e15 := mWr_15 M1 (tnF g E (nxT g E a) (r 0) kb)
    have R : rcQ M0 g E (tnF g E (nxT g E a) (r 0) kb, nxT g E a, f, r, kb, hb) (mWr M1 (tnF g E (nxT g E a) (r 0) kb)) := rcQ_bad (rcP_wr F1') cT e15 (mWr_16 T1 _)
    have q := eq_false cT
    generalize hX : rcQ M0 g E (tnF g E (nxT g E a) (r 0) kb, nxT g E a, f, r, kb, hb) = X at *
    generalize tnF g E (nxT g E a) (r 0) kb = cc at *
    have N := readNumber_no (M := mWr M1 cc) (lo := 0) (hi := 900) (by rw [e15]; exact cT) (by rw [e15]; exact ⟨by omega, by omega⟩)
    try simp (maxSteps := 2000000) only [↓reduceIte, wp_eq, wpd_eq, kont_eq, STP1, STP2, STP3, STP4, STP5, konM_eq, AMK, CZ, Option.map, List.getElem?_cons_zero, List.getElem?_cons_succ, List.mem_cons, List.not_mem_nil, if_false, if_true, Nat.reduceAdd, Nat.reduceLT, Nat.reduceLeDiff, Nat.reduceEqDiff, true_and, and_true, List.length_nil, List.length_cons, or_true, true_or, or_false, false_or, Option.some.injEq, Sum.inl.injEq, Sum.inr.injEq, exists_eq_left', exists_eq_left, Int.reduceLE, Int.reduceLT, Int.reduceNeg, Int.reduceAdd, Int.reduceMul, Int.reduceSub, Int.reduceToNat, inR, Nat.zero_ne_one, false_and, Nat.succ_ne_zero, reduceCtorEq, false_implies, true_implies, not_false_eq_true, not_true_eq_false, Int.reduceEq, KRE, C_Model_readClause, FM, e15, q]
    repeat (first | refine ⟨by omega, ?_⟩ | refine ⟨fun _ _ => okt_nn (by omega), ?_⟩)
    try (first | (show _ ≤ _; omega) | (show _ < _; omega))
    refine N.eq ?_
    try simp (maxSteps := 2000000) only [↓reduceIte, wp_eq, wpd_eq, kont_eq, STP1, STP2, STP3, STP4, STP5, konM_eq, AMK, CZ, Option.map, List.getElem?_cons_zero, List.getElem?_cons_succ, List.mem_cons, List.not_mem_nil, if_false, if_true, Nat.reduceAdd, Nat.reduceLT, Nat.reduceLeDiff, Nat.reduceEqDiff, true_and, and_true, List.length_nil, List.length_cons, or_true, true_or, or_false, false_or, Option.some.injEq, Sum.inl.injEq, Sum.inr.injEq, exists_eq_left', exists_eq_left, Int.reduceLE, Int.reduceLT, Int.reduceNeg, Int.reduceAdd, Int.reduceMul, Int.reduceSub, Int.reduceToNat, inR, Nat.zero_ne_one, false_and, Nat.succ_ne_zero, reduceCtorEq, false_implies, true_implies, not_false_eq_true, not_true_eq_false, Int.reduceEq, KRE, C_Model_readClause, FM]
    refine wpm_of (cuts := [263]) (by decide) 40 _ _ _ _ ?_
    simp (maxSteps := 2000000) only [↓reduceIte, wp_eq, wpd_eq, kont_eq, STP1, STP2, STP3, STP4, STP5, konM_eq, AMK, CZ, Option.map, List.getElem?_cons_zero, List.getElem?_cons_succ, List.mem_cons, List.not_mem_nil, if_false, if_true, Nat.reduceAdd, Nat.reduceLT, Nat.reduceLeDiff, Nat.reduceEqDiff, true_and, and_true, List.length_nil, List.length_cons, or_true, true_or, or_false, false_or, Option.some.injEq, Sum.inl.injEq, Sum.inr.injEq, exists_eq_left', exists_eq_left, Int.reduceLE, Int.reduceLT, Int.reduceNeg, Int.reduceAdd, Int.reduceMul, Int.reduceSub, Int.reduceToNat, inR, Nat.zero_ne_one, false_and, Nat.succ_ne_zero, reduceCtorEq, false_implies, true_implies, not_false_eq_true, not_true_eq_false, Int.reduceEq, KRE, C_Model_readClause, FM, e15, q]
    repeat (first | refine ⟨by omega, ?_⟩ | refine ⟨fun _ _ => okt_nn (by omega), ?_⟩)
    try (first | (show _ ≤ _; omega) | (show _ < _; omega))
    all_goals first | exact R | exact ⟨rfl, R⟩
set_option maxHeartbeats 600000 in
set_option maxRecDepth 20000 in
theorem rc_5 (hp : oct g E) (hE : E ≤ 900) (ha : a ≤ 900) (F : FrP rcP M0 M) (hd : rdM M g E a f r kb hb) (hi : rdI r kb hb) : WPm m_Model_readClause (fun v M' => v = none ∧ rcQ M0 g E (clW g E a 5 f r kb hb) M') 5 [some (.inr 154), some (.inl 5), none, none] [] M := by
  have hd0 := hd
  obtain ⟨ht, b0, h9, h7, h18, h19⟩ := hd
  obtain ⟨i0, i1, i2, i3⟩ := hi
  have b9 := nxT_le (g := g) hE ha
  have c9 := nxT_le (g := g) hE b9
  have d9 := nxT_le (g := g) hE c9
  have eC : clW g E a 5 f r kb hb = if tnF g E (nxT g E a) (r 0) hb ≠ 0 then (tnF g E (nxT g E a) (r 0) hb, nxT g E a, f, r, kb, hb) else if nmF g E (nxT g E (nxT g E a)) 0 3 ≠ 0 then (nmF g E (nxT g E (nxT g E a)) 0 3, nxT g E (nxT g E a), f, r, kb, hb) else enS g E (nxT g E (nxT g E (nxT g E a))) (updI f (30 * (nmN g E (nxT g E a)).toNat + 3) (nmN g E (nxT g E (nxT g E a)))) r (kb) (bOr hb (bShl 1 (nmN g E (nxT g E a)))) := clW_5
  have I := Model_isIn_ok (v := 5) (a := 1) (b := 3) (M := M) ⟨by omega, by omega⟩ ⟨by omega, by omega⟩ ⟨by omega, by omega⟩
  rw [if_neg (by omega)] at I
  have k0 := bOr_0 i2
  have h0 := bOr_0 i3
  refine wpm_of (cuts := [39]) (by decide) 40 _ _ _ _ ?_
  simp (maxSteps := 2000000) only [↓reduceIte, wp_eq, wpd_eq, kont_eq, STP1, STP2, STP3, STP4, STP5, konM_eq, AMK, CZ, Option.map, List.getElem?_cons_zero, List.getElem?_cons_succ, List.mem_cons, List.not_mem_nil, if_false, if_true, Nat.reduceAdd, Nat.reduceLT, Nat.reduceLeDiff, Nat.reduceEqDiff, true_and, and_true, List.length_nil, List.length_cons, or_true, true_or, or_false, false_or, Option.some.injEq, Sum.inl.injEq, Sum.inr.injEq, exists_eq_left', exists_eq_left, Int.reduceLE, Int.reduceLT, Int.reduceNeg, Int.reduceAdd, Int.reduceMul, Int.reduceSub, Int.reduceToNat, inR, Nat.zero_ne_one, false_and, Nat.succ_ne_zero, reduceCtorEq, false_implies, true_implies, not_false_eq_true, not_true_eq_false, Int.reduceEq, KRE, C_Model_readClause, FM]
  repeat (first | refine ⟨by omega, ?_⟩ | refine ⟨fun _ _ => okt_nn (by omega), ?_⟩)
  try (first | (show _ ≤ _; omega) | (show _ < _; omega))
  refine I.eq ?_
  try simp (maxSteps := 2000000) only [↓reduceIte, wp_eq, wpd_eq, kont_eq, STP1, STP2, STP3, STP4, STP5, konM_eq, AMK, CZ, Option.map, List.getElem?_cons_zero, List.getElem?_cons_succ, List.mem_cons, List.not_mem_nil, if_false, if_true, Nat.reduceAdd, Nat.reduceLT, Nat.reduceLeDiff, Nat.reduceEqDiff, true_and, and_true, List.length_nil, List.length_cons, or_true, true_or, or_false, false_or, Option.some.injEq, Sum.inl.injEq, Sum.inr.injEq, exists_eq_left', exists_eq_left, Int.reduceLE, Int.reduceLT, Int.reduceNeg, Int.reduceAdd, Int.reduceMul, Int.reduceSub, Int.reduceToNat, inR, Nat.zero_ne_one, false_and, Nat.succ_ne_zero, reduceCtorEq, false_implies, true_implies, not_false_eq_true, not_true_eq_false, Int.reduceEq, KRE, C_Model_readClause, FM]
  repeat (first | refine ⟨by omega, ?_⟩ | refine ⟨fun _ _ => okt_nn (by omega), ?_⟩)
  try (first | (show _ ≤ _; omega) | (show _ < _; omega))
  refine wpm_of (cuts := [176]) (by decide) 80 _ _ _ _ ?_
  simp (maxSteps := 2000000) only [↓reduceIte, wp_eq, wpd_eq, kont_eq, STP1, STP2, STP3, STP4, STP5, konM_eq, AMK, CZ, Option.map, List.getElem?_cons_zero, List.getElem?_cons_succ, List.mem_cons, List.not_mem_nil, if_false, if_true, Nat.reduceAdd, Nat.reduceLT, Nat.reduceLeDiff, Nat.reduceEqDiff, true_and, and_true, List.length_nil, List.length_cons, or_true, true_or, or_false, false_or, Option.some.injEq, Sum.inl.injEq, Sum.inr.injEq, exists_eq_left', exists_eq_left, Int.reduceLE, Int.reduceLT, Int.reduceNeg, Int.reduceAdd, Int.reduceMul, Int.reduceSub, Int.reduceToNat, inR, Nat.zero_ne_one, false_and, Nat.succ_ne_zero, reduceCtorEq, false_implies, true_implies, not_false_eq_true, not_true_eq_false, Int.reduceEq, KRE, C_Model_readClause, FM, b0]
  repeat (first | refine ⟨by omega, ?_⟩ | refine ⟨fun _ _ => okt_nn (by omega), ?_⟩)
  try (first | (show _ ≤ _; omega) | (show _ < _; omega))
  refine (step_ok ht hp hE ha).mono (fun M1 w => ?_)
  obtain ⟨F1, T1⟩ := w
  have D1 := rdM_st hd0 F1 T1
  have F1' := rcP_st F F1
  have b1 := D1.2.1
  have e1 : M1 154 19 = hb := D1.2.2.2.2.2
  have TN := timberNow_ok (n := r 0) (set := hb) T1 b1 hE b9 (by rw [D1.2.2.2.1]) i0
  try simp (maxSteps := 2000000) only [↓reduceIte, wp_eq, wpd_eq, kont_eq, STP1, STP2, STP3, STP4, STP5, konM_eq, AMK, CZ, Option.map, List.getElem?_cons_zero, List.getElem?_cons_succ, List.mem_cons, List.not_mem_nil, if_false, if_true, Nat.reduceAdd, Nat.reduceLT, Nat.reduceLeDiff, Nat.reduceEqDiff, true_and, and_true, List.length_nil, List.length_cons, or_true, true_or, or_false, false_or, Option.some.injEq, Sum.inl.injEq, Sum.inr.injEq, exists_eq_left', exists_eq_left, Int.reduceLE, Int.reduceLT, Int.reduceNeg, Int.reduceAdd, Int.reduceMul, Int.reduceSub, Int.reduceToNat, inR, Nat.zero_ne_one, false_and, Nat.succ_ne_zero, reduceCtorEq, false_implies, true_implies, not_false_eq_true, not_true_eq_false, Int.reduceEq, KRE, C_Model_readClause, FM, e1]
  repeat (first | refine ⟨by omega, ?_⟩ | refine ⟨fun _ _ => okt_nn (by omega), ?_⟩)
  try (first | (show _ ≤ _; omega) | (show _ < _; omega))
  refine TN.mono (fun x M2 z => ?_)
  obtain ⟨z1, z2⟩ := z
  by_cases cT : tnF g E (nxT g E a) (r 0) hb = 0
  · rw [eC, if_neg (fun w => w cT)]
    obtain ⟨rfl, rfl⟩ := z1 cT
    have n07 : 0 ≤ nmN g E (nxT g E a) ∧ nmN g E (nxT g E a) ≤ 7 := by
      refine nmN_in (lo := 0) (hi := 7) ?_
      unfold tnF at cT
      by_cases w : nmF g E (nxT g E a) 0 7 = 0
      · exact w
      · rw [if_pos w] at cT
        exact absurd cT w
    try simp (maxSteps := 2000000) only [↓reduceIte, wp_eq, wpd_eq, kont_eq, STP1, STP2, STP3, STP4, STP5, konM_eq, AMK, CZ, Option.map, List.getElem?_cons_zero, List.getElem?_cons_succ, List.mem_cons, List.not_mem_nil, if_false, if_true, Nat.reduceAdd, Nat.reduceLT, Nat.reduceLeDiff, Nat.reduceEqDiff, true_and, and_true, List.length_nil, List.length_cons, or_true, true_or, or_false, false_or, Option.some.injEq, Sum.inl.injEq, Sum.inr.injEq, exists_eq_left', exists_eq_left, Int.reduceLE, Int.reduceLT, Int.reduceNeg, Int.reduceAdd, Int.reduceMul, Int.reduceSub, Int.reduceToNat, inR, Nat.zero_ne_one, false_and, Nat.succ_ne_zero, reduceCtorEq, false_implies, true_implies, not_false_eq_true, not_true_eq_false, Int.reduceEq, KRE, C_Model_readClause, FM, b1]
    repeat (first | refine ⟨by omega, ?_⟩ | refine ⟨fun _ _ => okt_nn (by omega), ?_⟩)
    try (first | (show _ ≤ _; omega) | (show _ < _; omega))
    refine (step_ok T1 hp hE b9).mono (fun M2 w => ?_)
    obtain ⟨F2, T2⟩ := w
    have D2 := rdM_st D1 F2 T2
    have F2' := rcP_st F1' F2
    have b2 := D2.2.1
    have N := readNumber_ok (lo := 0) (hi := 3) T2 hp b2 hE c9 ⟨by omega, by omega⟩ ⟨by omega, by omega⟩
    try simp (maxSteps := 2000000) only [↓reduceIte, wp_eq, wpd_eq, kont_eq, STP1, STP2, STP3, STP4, STP5, konM_eq, AMK, CZ, Option.map, List.getElem?_cons_zero, List.getElem?_cons_succ, List.mem_cons, List.not_mem_nil, if_false, if_true, Nat.reduceAdd, Nat.reduceLT, Nat.reduceLeDiff, Nat.reduceEqDiff, true_and, and_true, List.length_nil, List.length_cons, or_true, true_or, or_false, false_or, Option.some.injEq, Sum.inl.injEq, Sum.inr.injEq, exists_eq_left', exists_eq_left, Int.reduceLE, Int.reduceLT, Int.reduceNeg, Int.reduceAdd, Int.reduceMul, Int.reduceSub, Int.reduceToNat, inR, Nat.zero_ne_one, false_and, Nat.succ_ne_zero, reduceCtorEq, false_implies, true_implies, not_false_eq_true, not_true_eq_false, Int.reduceEq, KRE, C_Model_readClause, FM, b2]
    repeat (first | refine ⟨by omega, ?_⟩ | refine ⟨fun _ _ => okt_nn (by omega), ?_⟩)
    try (first | (show _ ≤ _; omega) | (show _ < _; omega))
    refine N.mono (fun x M3 z => ?_)
    obtain ⟨y1, y2⟩ := z
    by_cases cF : nmF g E (nxT g E (nxT g E a)) 0 3 = 0
    · rw [if_neg (fun w => w cF)]
      obtain ⟨rfl, F3, T3⟩ := y1 cF
      have D3 := rdM_st D2 F3 T3
      have F3' := rcP_st F2' F3
      have ix : (30 * nmN g E (nxT g E a) + 3).toNat = 30 * (nmN g E (nxT g E a)).toNat + 3 := by omega
      generalize nmN g E (nxT g E (nxT g E a)) = v at *
      generalize nxT g E (nxT g E (nxT g E a)) = p at *
      generalize nmN g E (nxT g E a) = t at *
      have b3 := D3.2.1
      have e18 : mset M3 159 (30 * t.toNat + 3) v 154 18 = kb := by rw [← D3.2.2.2.2.1]; simp [mset]
      have e19 : mset (mset M3 159 (30 * t.toNat + 3) v) 154 18 (kb) 154 19 = hb := by rw [← D3.2.2.2.2.2]; simp [mset]
      have D4 : rdM (mset (mset (mset M3 159 (30 * t.toNat + 3) v) 154 18 (kb)) 154 19 (bOr hb (bShl 1 (t)))) g E p (updI f (30 * t.toNat + 3) v) r (kb) (bOr hb (bShl 1 (t))) := by
        refine ⟨tsM_mv T3 (fun b j z => (if_neg (by omega)).trans ((if_neg (by omega)).trans (if_neg (by omega)))), by rw [← b3]; simp [mset], ?_, ?_, by simp [mset], by simp [mset]⟩
        · rw [← D3.2.2.1, ← mset_row]
          funext j
          exact (if_neg (by omega)).trans (if_neg (by omega))
        · rw [← D3.2.2.2.1]
          funext j
          exact (if_neg (by omega)).trans ((if_neg (by omega)).trans (if_neg (by omega)))
      have F4 : FrP rcP M0 (mset (mset (mset M3 159 (30 * t.toNat + 3) v) 154 18 (kb)) 154 19 (bOr hb (bShl 1 (t)))) := ((F3'.st (by unfold rcP; omega)).st (by unfold rcP; omega)).st (by unfold rcP; omega)
      have R := rc_263 (x1 := some (.inl (5 : Int))) (x2 := some (.inl t)) (x3 := some (.inl v)) hp hE d9 F4 D4
      try simp (maxSteps := 2000000) only [↓reduceIte, wp_eq, wpd_eq, kont_eq, STP1, STP2, STP3, STP4, STP5, konM_eq, AMK, CZ, Option.map, List.getElem?_cons_zero, List.getElem?_cons_succ, List.mem_cons, List.not_mem_nil, if_false, if_true, Nat.reduceAdd, Nat.reduceLT, Nat.reduceLeDiff, Nat.reduceEqDiff, true_and, and_true, List.length_nil, List.length_cons, or_true, true_or, or_false, false_or, Option.some.injEq, Sum.inl.injEq, Sum.inr.injEq, exists_eq_left', exists_eq_left, Int.reduceLE, Int.reduceLT, Int.reduceNeg, Int.reduceAdd, Int.reduceMul, Int.reduceSub, Int.reduceToNat, inR, Nat.zero_ne_one, false_and, Nat.succ_ne_zero, reduceCtorEq, false_implies, true_implies, not_false_eq_true, not_true_eq_false, Int.reduceEq, KRE, C_Model_readClause, FM]
      refine wpm_of (cuts := [263]) (by decide) 60 _ _ _ _ ?_
      simp (maxSteps := 2000000) only [↓reduceIte, wp_eq, wpd_eq, kont_eq, STP1, STP2, STP3, STP4, STP5, konM_eq, AMK, CZ, Option.map, List.getElem?_cons_zero, List.getElem?_cons_succ, List.mem_cons, List.not_mem_nil, if_false, if_true, Nat.reduceAdd, Nat.reduceLT, Nat.reduceLeDiff, Nat.reduceEqDiff, true_and, and_true, List.length_nil, List.length_cons, or_true, true_or, or_false, false_or, Option.some.injEq, Sum.inl.injEq, Sum.inr.injEq, exists_eq_left', exists_eq_left, Int.reduceLE, Int.reduceLT, Int.reduceNeg, Int.reduceAdd, Int.reduceMul, Int.reduceSub, Int.reduceToNat, inR, Nat.zero_ne_one, false_and, Nat.succ_ne_zero, reduceCtorEq, false_implies, true_implies, not_false_eq_true, not_true_eq_false, Int.reduceEq, KRE, C_Model_readClause, FM, b3, ix, e18, k0, e19, h0]
      repeat (first | refine ⟨by omega, ?_⟩ | refine ⟨fun _ _ => okt_nn (by omega), ?_⟩)
      try (first | (show _ ≤ _; omega) | (show _ < _; omega))
      exact R
    · rw [if_pos cF]
      obtain ⟨rfl, rfl⟩ := y2 cF
      have e15 := mWr_15 M2 (nmF g E (nxT g E (nxT g E a)) 0 3)
      have R : rcQ M0 g E (nmF g E (nxT g E (nxT g E a)) 0 3, nxT g E (nxT g E a), f, r, kb, hb) (mWr M2 (nmF g E (nxT g E (nxT g E a)) 0 3)) := rcQ_bad (rcP_wr F2') cF e15 (mWr_16 T2 _)
      have i2 := nmF_in g E (nxT g E (nxT g E a)) 0 3
      have q := eq_false cF
      generalize hX : rcQ M0 g E (nmF g E (nxT g E (nxT g E a)) 0 3, nxT g E (nxT g E a), f, r, kb, hb) = X at *
      generalize nmF g E (nxT g E (nxT g E a)) 0 3 = cc at *
      try simp (maxSteps := 2000000) only [↓reduceIte, wp_eq, wpd_eq, kont_eq, STP1, STP2, STP3, STP4, STP5, konM_eq, AMK, CZ, Option.map, List.getElem?_cons_zero, List.getElem?_cons_succ, List.mem_cons, List.not_mem_nil, if_false, if_true, Nat.reduceAdd, Nat.reduceLT, Nat.reduceLeDiff, Nat.reduceEqDiff, true_and, and_true, List.length_nil, List.length_cons, or_true, true_or, or_false, false_or, Option.some.injEq, Sum.inl.injEq, Sum.inr.injEq, exists_eq_left', exists_eq_left, Int.reduceLE, Int.reduceLT, Int.reduceNeg, Int.reduceAdd, Int.reduceMul, Int.reduceSub, Int.reduceToNat, inR, Nat.zero_ne_one, false_and, Nat.succ_ne_zero, reduceCtorEq, false_implies, true_implies, not_false_eq_true, not_true_eq_false, Int.reduceEq, KRE, C_Model_readClause, FM]
      refine wpm_of (cuts := [263]) (by decide) 40 _ _ _ _ ?_
      simp (maxSteps := 2000000) only [↓reduceIte, wp_eq, wpd_eq, kont_eq, STP1, STP2, STP3, STP4, STP5, konM_eq, AMK, CZ, Option.map, List.getElem?_cons_zero, List.getElem?_cons_succ, List.mem_cons, List.not_mem_nil, if_false, if_true, Nat.reduceAdd, Nat.reduceLT, Nat.reduceLeDiff, Nat.reduceEqDiff, true_and, and_true, List.length_nil, List.length_cons, or_true, true_or, or_false, false_or, Option.some.injEq, Sum.inl.injEq, Sum.inr.injEq, exists_eq_left', exists_eq_left, Int.reduceLE, Int.reduceLT, Int.reduceNeg, Int.reduceAdd, Int.reduceMul, Int.reduceSub, Int.reduceToNat, inR, Nat.zero_ne_one, false_and, Nat.succ_ne_zero, reduceCtorEq, false_implies, true_implies, not_false_eq_true, not_true_eq_false, Int.reduceEq, KRE, C_Model_readClause, FM, e15, q]
      repeat (first | refine ⟨by omega, ?_⟩ | refine ⟨fun _ _ => okt_nn (by omega), ?_⟩)
      try (first | (show _ ≤ _; omega) | (show _ < _; omega))
      all_goals first | exact R | exact ⟨rfl, R⟩
  · rw [eC, if_pos cT]
    obtain ⟨x0, x7, rfl⟩ := z2 cT
    have it := tnF_in g E (nxT g E a) (r 0) hb
    have e15 := mWr_15 M1 (tnF g E (nxT g E a) (r 0) hb)
    have R : rcQ M0 g E (tnF g E (nxT g E a) (r 0) hb, nxT g E a, f, r, kb, hb) (mWr M1 (tnF g E (nxT g E a) (r 0) hb)) := rcQ_bad (rcP_wr F1') cT e15 (mWr_16 T1 _)
    have q := eq_false cT
    generalize hX : rcQ M0 g E (tnF g E (nxT g E a) (r 0) hb, nxT g E a, f, r, kb, hb) = X at *
    generalize tnF g E (nxT g E a) (r 0) hb = cc at *
    have N := readNumber_no (M := mWr M1 cc) (lo := 0) (hi := 3) (by rw [e15]; exact cT) (by rw [e15]; exact ⟨by omega, by omega⟩)
    try simp (maxSteps := 2000000) only [↓reduceIte, wp_eq, wpd_eq, kont_eq, STP1, STP2, STP3, STP4, STP5, konM_eq, AMK, CZ, Option.map, List.getElem?_cons_zero, List.getElem?_cons_succ, List.mem_cons, List.not_mem_nil, if_false, if_true, Nat.reduceAdd, Nat.reduceLT, Nat.reduceLeDiff, Nat.reduceEqDiff, true_and, and_true, List.length_nil, List.length_cons, or_true, true_or, or_false, false_or, Option.some.injEq, Sum.inl.injEq, Sum.inr.injEq, exists_eq_left', exists_eq_left, Int.reduceLE, Int.reduceLT, Int.reduceNeg, Int.reduceAdd, Int.reduceMul, Int.reduceSub, Int.reduceToNat, inR, Nat.zero_ne_one, false_and, Nat.succ_ne_zero, reduceCtorEq, false_implies, true_implies, not_false_eq_true, not_true_eq_false, Int.reduceEq, KRE, C_Model_readClause, FM, e15, q]
    repeat (first | refine ⟨by omega, ?_⟩ | refine ⟨fun _ _ => okt_nn (by omega), ?_⟩)
    try (first | (show _ ≤ _; omega) | (show _ < _; omega))
    refine N.eq ?_
    try simp (maxSteps := 2000000) only [↓reduceIte, wp_eq, wpd_eq, kont_eq, STP1, STP2, STP3, STP4, STP5, konM_eq, AMK, CZ, Option.map, List.getElem?_cons_zero, List.getElem?_cons_succ, List.mem_cons, List.not_mem_nil, if_false, if_true, Nat.reduceAdd, Nat.reduceLT, Nat.reduceLeDiff, Nat.reduceEqDiff, true_and, and_true, List.length_nil, List.length_cons, or_true, true_or, or_false, false_or, Option.some.injEq, Sum.inl.injEq, Sum.inr.injEq, exists_eq_left', exists_eq_left, Int.reduceLE, Int.reduceLT, Int.reduceNeg, Int.reduceAdd, Int.reduceMul, Int.reduceSub, Int.reduceToNat, inR, Nat.zero_ne_one, false_and, Nat.succ_ne_zero, reduceCtorEq, false_implies, true_implies, not_false_eq_true, not_true_eq_false, Int.reduceEq, KRE, C_Model_readClause, FM]
    refine wpm_of (cuts := [263]) (by decide) 40 _ _ _ _ ?_
    simp (maxSteps := 2000000) only [↓reduceIte, wp_eq, wpd_eq, kont_eq, STP1, STP2, STP3, STP4, STP5, konM_eq, AMK, CZ, Option.map, List.getElem?_cons_zero, List.getElem?_cons_succ, List.mem_cons, List.not_mem_nil, if_false, if_true, Nat.reduceAdd, Nat.reduceLT, Nat.reduceLeDiff, Nat.reduceEqDiff, true_and, and_true, List.length_nil, List.length_cons, or_true, true_or, or_false, false_or, Option.some.injEq, Sum.inl.injEq, Sum.inr.injEq, exists_eq_left', exists_eq_left, Int.reduceLE, Int.reduceLT, Int.reduceNeg, Int.reduceAdd, Int.reduceMul, Int.reduceSub, Int.reduceToNat, inR, Nat.zero_ne_one, false_and, Nat.succ_ne_zero, reduceCtorEq, false_implies, true_implies, not_false_eq_true, not_true_eq_false, Int.reduceEq, KRE, C_Model_readClause, FM, e15, q]
    repeat (first | refine ⟨by omega, ?_⟩ | refine ⟨fun _ _ => okt_nn (by omega), ?_⟩)
    try (first | (show _ ≤ _; omega) | (show _ < _; omega))
    all_goals first | exact R | exact ⟨rfl, R⟩
end RC
theorem wdW_in (g : Nat → Int) (E a : Nat) : wdW g E a = -1 ∨ wdW g E a = 0 ∨ wdW g E a = 1 ∨ wdW g E a = 2 ∨ wdW g E a = 3 ∨ wdW g E a = 4 ∨ wdW g E a = 5 := by
  unfold wdW
  repeat' split
  all_goals omega
theorem rgS_pl {g : Nat → Int} {E n : Nat} (hE : E ≤ 900) : ∀ (d k a : Nat) (f : Nat → Int), a ≤ 900 → (rgS g E n d k a f).2.1 ≤ 900 ∧ 0 ≤ (rgS g E n d k a f).1 ∧ (rgS g E n d k a f).1 ≤ 2
  | 0, k, a, f, ha => ⟨ha, by show (0 : Int) ≤ 2; omega, by show (2 : Int) ≤ 2; omega⟩
  | d + 1, k, a, f, ha => by
    have b9 := nxT_le (g := g) hE ha
    have c9 := nxT_le (g := g) hE b9
    have i := nmF_in g E a 1 99
    unfold rgS
    split
    · exact ⟨ha, by show (0 : Int) ≤ 0; omega, by show (0 : Int) ≤ 2; omega⟩
    · split
      · exact ⟨ha, by show (0 : Int) ≤ 2; omega, by show (2 : Int) ≤ 2; omega⟩
      · split
        · exact ⟨ha, i.1, i.2⟩
        · split
          · exact rgS_pl hE d _ _ _ c9
          · exact rgS_pl hE d _ _ _ b9
theorem rtS_pl {g f : Nat → Int} {E n a : Nat} (hE : E ≤ 900) (ha : a ≤ 900) : (rtS g E n a f).2.1 ≤ 900 ∧ 0 ≤ (rtS g E n a f).1 ∧ (rtS g E n a f).1 ≤ 5 := by
  have b9 := nxT_le (g := g) hE ha
  have c9 := nxT_le (g := g) hE b9
  have d9 := nxT_le (g := g) hE c9
  have i := nmF_in g E (nxT g E a) 0 30
  have i2 := nmF_in g E (nxT g E (nxT g E a)) 0 30
  unfold rtS
  split
  · exact ⟨ha, by show (0 : Int) ≤ 2; omega, by show (2 : Int) ≤ 5; omega⟩
  · split
    · exact ⟨b9, i.1, by show nmF g E (nxT g E a) 0 30 ≤ 5; omega⟩
    · split
      · exact ⟨c9, i2.1, by show nmF g E (nxT g E (nxT g E a)) 0 30 ≤ 5; omega⟩
      · split
        · exact ⟨c9, by show (0 : Int) ≤ 5; omega, by show (5 : Int) ≤ 5; omega⟩
        · have R := rgS_pl (g := g) (E := E) (n := n) hE 25 0 (nxT g E (nxT g E (nxT g E a))) (updI (updI (updI (clrR f n 30) (30 * n + 4) (-1)) (30 * n + 1) (nmN g E (nxT g E a))) (30 * n + 2) (nmN g E (nxT g E (nxT g E a)))) d9
          exact ⟨R.1, R.2.1, Int.le_trans R.2.2 (by omega)⟩
set_option maxHeartbeats 600000 in
set_option maxRecDepth 20000 in
theorem readClause_ok {M : Mm} {g f r : Nat → Int} {E a : Nat} {kb hb : Int} (hp : oct g E) (hE : E ≤ 900) (ha : a ≤ 900) (hd : rdM M g E a f r kb hb) (hi : rdI r kb hb) : CallV m_Model_readClause [.inr 154] M (fun M' => rcQ M g E (clS g E a f r kb hb) M') := by
  have W := which_ok hd.1 hp hd.2.1 hE ha
  have rt := rtS_pl (g := g) (f := f) (n := (r 0).toNat) hE ha
  have R : WPm m_Model_readClause (fun v M' => v = none ∧ rcQ M g E (clS g E a f r kb hb) M') 5 [some (.inr 154), some (.inl (wdW g E a)), none, none] [] M := by
    unfold clS
    rcases wdW_in g E a with e | e | e | e | e | e | e <;> rw [e]
    · exact rc_m1 hE ha FrP.rf hd
    · exact rc_0 hp hE ha FrP.rf hd hi ⟨rt.1, ⟨by omega, by omega⟩⟩
    · exact rc_1 hp hE ha FrP.rf hd hi
    · exact rc_2 hp hE ha FrP.rf hd hi
    · exact rc_3 hp hE ha FrP.rf hd hi
    · exact rc_4 hp hE ha FrP.rf hd hi
    · exact rc_5 hp hE ha FrP.rf hd hi
  refine callP_of (by decide) (by decide) (Nat.le_of_ble_eq_true rfl) (wpm_of (cuts := [5]) (by decide) 30 _ _ _ _ ?_)
  rw [show lM m_Model_readClause = 4 from rfl]
  simp (maxSteps := 2000000) only [↓reduceIte, wp_eq, wpd_eq, kont_eq, STP1, STP2, STP3, STP4, STP5, konM_eq, AMK, CZ, Option.map, List.getElem?_cons_zero, List.getElem?_cons_succ, List.mem_cons, List.not_mem_nil, if_false, if_true, Nat.reduceAdd, Nat.reduceLT, Nat.reduceLeDiff, Nat.reduceEqDiff, true_and, and_true, List.length_nil, List.length_cons, or_true, true_or, or_false, false_or, Option.some.injEq, Sum.inl.injEq, Sum.inr.injEq, exists_eq_left', exists_eq_left, Int.reduceLE, Int.reduceLT, Int.reduceNeg, Int.reduceAdd, Int.reduceMul, Int.reduceSub, Int.reduceToNat, inR, Nat.zero_ne_one, false_and, Nat.succ_ne_zero, reduceCtorEq, false_implies, true_implies, not_false_eq_true, not_true_eq_false, Int.reduceEq, KRE, C_Model_readClause, FM]
  repeat (first | refine ⟨by omega, ?_⟩ | refine ⟨fun _ _ => okt_nn (by omega), ?_⟩)
  try (first | (show _ ≤ _; omega) | (show _ < _; omega))
  refine W.eq ?_
  try simp (maxSteps := 2000000) only [↓reduceIte, wp_eq, wpd_eq, kont_eq, STP1, STP2, STP3, STP4, STP5, konM_eq, AMK, CZ, Option.map, List.getElem?_cons_zero, List.getElem?_cons_succ, List.mem_cons, List.not_mem_nil, if_false, if_true, Nat.reduceAdd, Nat.reduceLT, Nat.reduceLeDiff, Nat.reduceEqDiff, true_and, and_true, List.length_nil, List.length_cons, or_true, true_or, or_false, false_or, Option.some.injEq, Sum.inl.injEq, Sum.inr.injEq, exists_eq_left', exists_eq_left, Int.reduceLE, Int.reduceLT, Int.reduceNeg, Int.reduceAdd, Int.reduceMul, Int.reduceSub, Int.reduceToNat, inR, Nat.zero_ne_one, false_and, Nat.succ_ne_zero, reduceCtorEq, false_implies, true_implies, not_false_eq_true, not_true_eq_false, Int.reduceEq, KRE, C_Model_readClause, FM]
  repeat (first | refine ⟨by omega, ?_⟩ | refine ⟨fun _ _ => okt_nn (by omega), ?_⟩)
  try (first | (show _ ≤ _; omega) | (show _ < _; omega))
  exact R
