/-! THE CLASS'S OWN HELPERS, 3: a ring in or out. -/
/-- a row without place r -/
def rwRem (A : Rw) (r : Int) : Rw := (fun j => if (j : Int) < A.2.1 - 1 then (if r ≤ j then A.1 (j + 1) else A.1 j) else 0, A.2.1 - 1, fun j => if (j : Int) < A.2.1 - 1 then (if r ≤ j then A.2.2 (j + 1) else A.2.2 j) else 0)
/-- a row with x, doubtful, at place r -/
def rwIns (A : Rw) (r x : Int) : Rw := (fun j => if (j : Int) < A.2.1 + 1 then (if (j : Int) = r then x else if r < j then A.1 (j - 1) else A.1 j) else 0, A.2.1 + 1, fun j => if (j : Int) < A.2.1 + 1 then (if (j : Int) = r then 1 else if r < j then A.2.2 (j - 1) else A.2.2 j) else 0)
theorem tRw_rem {M : Mm} {o : Nat} {r : Int} (h0 : 0 ≤ r) (h1 : r < M o 2) : tRw (mRem M o r) o = rwRem (tRw M o) r := by
  have e2 : mRem M o r o 2 = M o 2 - 1 := by simp [mRem]
  unfold tRw rwRem
  rw [e2]
  refine Prod.ext (funext fun j => ?_) (Prod.ext rfl (funext fun j => ?_))
  · simp only [mRem]
    grind
  · simp only [mRem]
    grind
theorem tRw_ins {M : Mm} {o : Nat} {r x : Int} (h0 : 0 ≤ r) (h1 : r ≤ M o 2) : tRw (mIns M o r x) o = rwIns (tRw M o) r x := by
  have e2 : mIns M o r x o 2 = M o 2 + 1 := by simp [mIns]
  unfold tRw rwIns
  rw [e2]
  refine Prod.ext (funext fun j => ?_) (Prod.ext rfl (funext fun j => ?_))
  · simp only [mIns]
    grind
  · simp only [mIns]
    grind
theorem okT_rem {A : Rw} {r : Int} (h : okT A) (h3 : 3 < A.2.1) (h0 : 0 ≤ r) (h1 : r < A.2.1) : okT (rwRem A r) := by
  obtain ⟨a1, a2, a3⟩ := h
  refine ⟨by show 3 ≤ A.2.1 - 1 ∧ A.2.1 - 1 ≤ 24; omega, fun j hj => ?_, fun j hj => ?_⟩
  · have hj' : (j : Int) < A.2.1 - 1 := hj
    simp only [rwRem]
    rw [if_pos hj']
    split
    · exact a2 _ (by omega)
    · exact a2 _ (by omega)
  · have hj' : (j : Int) < A.2.1 - 1 := hj
    simp only [rwRem]
    rw [if_pos hj']
    split
    · exact a3 _ (by omega)
    · exact a3 _ (by omega)
theorem okT_ins {A : Rw} {r x : Int} (h : okT A) (h3 : A.2.1 < 24) (h0 : 0 ≤ r) (h1 : r ≤ A.2.1) (hx : 1 ≤ x ∧ x ≤ 99) : okT (rwIns A r x) := by
  obtain ⟨a1, a2, a3⟩ := h
  refine ⟨by show 3 ≤ A.2.1 + 1 ∧ A.2.1 + 1 ≤ 24; omega, fun j hj => ?_, fun j hj => ?_⟩
  · have hj' : (j : Int) < A.2.1 + 1 := hj
    simp only [rwIns]
    rw [if_pos hj']
    split
    · exact hx
    · split
      · exact a2 _ (by omega)
      · exact a2 _ (by omega)
  · have hj' : (j : Int) < A.2.1 + 1 := hj
    simp only [rwIns]
    rw [if_pos hj']
    split
    · exact Or.inr rfl
    · split
      · exact a3 _ (by omega)
      · exact a3 _ (by omega)
theorem mRem_wf {M : Mm} {o : Nat} {r : Int} (hw : wfT M o) (h0 : 0 ≤ r) (h1 : r < M o 2) : wfT (mRem M o r) o := by
  obtain ⟨w0, w1, w2, w3, w4, w5⟩ := hw
  refine ⟨?_, fun j hj => ?_, fun j hj => ?_, ?_, ?_, ?_⟩
  · simp [mRem]; omega
  · have := w1 j hj
    have := w1 (j + 1)
    simp only [mRem]
    grind
  · have := w2 j hj
    have := w2 (j + 1)
    simp only [mRem]
    grind
  · simp [mRem]; exact w3
  · simp [mRem]; exact w4
  · simp [mRem]; exact w5
theorem mIns_wf {M : Mm} {o : Nat} {r x : Int} (hw : wfT M o) (h3 : M o 2 < 24) (hx : 0 ≤ x ∧ x ≤ 99) : wfT (mIns M o r x) o := by
  obtain ⟨w0, w1, w2, w3, w4, w5⟩ := hw
  refine ⟨?_, fun j hj => ?_, fun j hj => ?_, ?_, ?_, ?_⟩
  · simp [mIns]; omega
  · have := w1 j hj
    have := w1 (j - 1)
    simp only [mIns]
    grind
  · have := w2 j hj
    have := w2 (j - 1)
    simp only [mIns]
    grind
  · simp [mIns]; exact w3
  · simp [mIns]; exact w4
  · simp [mIns]; exact w5
def mCpT (M : Mm) (o f : Nat) : Mm := mset (mset (mset (mset (mCp M o f 24) o 2 (M f 2)) o 3 (M f 3)) o 4 (M f 4)) o 5 (M f 5)
theorem mCpT_out {M : Mm} {o f : Nat} (b j : Nat) (h : b < o ∨ o + 3 ≤ b) : mCpT M o f b j = M b j := by
  unfold mCpT
  rw [mset_ne _ (by omega), mset_ne _ (by omega), mset_ne _ (by omega), mset_ne _ (by omega)]
  simp only [mCp]
  rw [if_neg (by omega), if_neg (by omega)]
theorem mCpT_eq (M : Mm) (o f : Nat) : tmEq (mCpT M o f) o M f := by
  unfold mCpT
  refine ⟨fun j hj => ?_, fun j hj => ?_, ?_, ?_, ?_, ?_⟩
  · rw [mset_ne _ (by omega), mset_ne _ (by omega), mset_ne _ (by omega), mset_ne _ (by omega)]
    exact if_pos ⟨rfl, by omega⟩
  · rw [mset_ne _ (by omega), mset_ne _ (by omega), mset_ne _ (by omega), mset_ne _ (by omega)]
    exact (if_neg (by omega)).trans (if_pos ⟨rfl, by omega⟩)
  · simp [mset]
  · simp [mset]
  · simp [mset]
  · simp [mset]
/-- can a ring out of it, in -/
def canL (A : Rw) (r : Int) : Prop := 3 < A.2.1 ∧ 0 ≤ r ∧ r < A.2.1 ∧ A.2.2 r.toNat ≠ 0
def canG (A : Rw) (r : Int) : Prop := A.2.1 < 24 ∧ 1 ≤ r ∧ r < A.2.1
theorem canL_tm {M : Mm} {o : Nat} {r : Int} (hw : wfT M o) : (if 3 < M o 2 then vDou M o r else 0) = 1 ↔ canL (tRw M o) r := by
  have w0 := hw.1
  have w2 := hw.2.2.1 r.toNat
  have e1 : (tRw M o).2.1 = M o 2 := rfl
  have e2 : (tRw M o).2.2 r.toNat = if ((r.toNat : Nat) : Int) < M o 2 then M (o + 2) r.toNat else 0 := rfl
  unfold canL vDou
  rw [e1, e2]
  constructor
  · intro h
    split at h
    · split at h
      · rename_i h1 h2
        refine ⟨h1, by omega, by omega, ?_⟩
        rw [if_pos (by omega)]
        omega
      · omega
    · omega
  · rintro ⟨h1, h2, h3, h4⟩
    rw [if_pos (by omega)] at h4
    rw [if_pos h1, if_pos (by omega)]
    have := w2 (by omega)
    omega
theorem canL_01 {M : Mm} {o : Nat} {r : Int} (hw : wfT M o) : (if 3 < M o 2 then vDou M o r else 0) = 0 ∨ (if 3 < M o 2 then vDou M o r else 0) = 1 := by
  have := vDou_in (r := r) hw
  split
  · exact this
  · exact Or.inl rfl
set_option maxHeartbeats 600000 in
set_option maxRecDepth 20000 in
theorem RingDater_scoreWithout_ok {n t : Nat} {r : Int} {T : Nat → Rw} {Y : Nat → Int} {lap bnd mrg : Int} {A : Rw} {M : Mm} (h : cls M n T Y lap bnd mrg) (ht : t < n) (hr : inR r) (hA : finR M 48 924 A) : CallI m_RingDater_scoreWithout [.inr 0, .inr (82 + 3 * t), .inl r] M (fun x M' => (canL (T t) r → x = scF (best A (rwRem (T t) r) lap)) ∧ (¬ canL (T t) r → x = -1) ∧ cls M' n T Y lap bnd mrg ∧ finR M' 48 924 A ∧ FrP (fun b _ => 41 ≤ b ∧ b < 48 ∨ 58 ≤ b ∧ b < 60 ∨ 73 ≤ b ∧ b < 76) M M') := by
  obtain ⟨t1, t2, t3, t4, t5, t6, t7⟩ := cls_tm h ht
  have k0 : kc (lay 0) 11 = True := FR.1
  have k73 : kc (lay 73) 9 = True := by rw [isTim_73.1]; exact eq_true rfl
  have cL := canL_tm (r := r) t3
  have c01 := canL_01 (r := r) t3
  rw [t4] at cL
  refine callP_of (by decide) (by decide) (Nat.le_of_ble_eq_true rfl) (wpm_of (cuts := []) (by decide) 60 _ _ _ _ ?_)
  rw [show lM m_RingDater_scoreWithout = 3 from rfl]
  simp (maxSteps := 2000000) only [↓reduceIte, wp_eq, wpd_eq, kont_eq, STP1, STP2, STP3, STP4, STP5, konM_eq, AMK, CZ, Option.map, List.getElem?_cons_zero, List.getElem?_cons_succ, List.mem_cons, List.not_mem_nil, if_false, if_true, Nat.reduceAdd, Nat.reduceLT, Nat.reduceLeDiff, Nat.reduceEqDiff, true_and, and_true, List.length_nil, List.length_cons, or_true, true_or, or_false, false_or, Option.some.injEq, Sum.inl.injEq, Sum.inr.injEq, exists_eq_left', exists_eq_left, Int.reduceLE, Int.reduceLT, Int.reduceNeg, Int.reduceAdd, Int.reduceMul, Int.reduceSub, Int.reduceToNat, inR, Nat.zero_ne_one, false_and, Nat.succ_ne_zero, reduceCtorEq, false_implies, true_implies, not_false_eq_true, not_true_eq_false, Int.reduceEq, KRE, C_RingDater_scoreWithout, FR, k0, k73, t2.1]
  refine (Timber_canLose_ok t2 hr t3).eq ?_
  generalize (if 3 < M (82 + 3 * t) 2 then vDou M (82 + 3 * t) r else 0) = v at *
  rcases c01 with c | c
  · subst c
    have nc : ¬ canL (T t) r := fun z => absurd (cL.mpr z) (by decide)
    simp (maxSteps := 2000000) only [↓reduceIte, wp_eq, wpd_eq, kont_eq, STP1, STP2, STP3, STP4, STP5, konM_eq, AMK, CZ, Option.map, List.getElem?_cons_zero, List.getElem?_cons_succ, List.mem_cons, List.not_mem_nil, if_false, if_true, Nat.reduceAdd, Nat.reduceLT, Nat.reduceLeDiff, Nat.reduceEqDiff, true_and, and_true, List.length_nil, List.length_cons, or_true, true_or, or_false, false_or, Option.some.injEq, Sum.inl.injEq, Sum.inr.injEq, exists_eq_left', exists_eq_left, Int.reduceLE, Int.reduceLT, Int.reduceNeg, Int.reduceAdd, Int.reduceMul, Int.reduceSub, Int.reduceToNat, inR, Nat.zero_ne_one, false_and, Nat.succ_ne_zero, reduceCtorEq, false_implies, true_implies, not_false_eq_true, not_true_eq_false, Int.reduceEq, KRE, C_RingDater_scoreWithout, FR]
    repeat (first | refine ⟨by omega, ?_⟩ | refine ⟨fun _ _ => okt_nn (by omega), ?_⟩)
    try (first | (show _ ≤ _; omega) | (show _ < _; omega))
    exact ⟨fun z => absurd z nc, fun _ => trivial, h, hA, FrP.rf⟩
  · subst c
    have yc := cL.mp rfl
    obtain ⟨y1, y2, y3, y4⟩ := id yc
    have eR : M (82 + 3 * t) 2 = (T t).2.1 := by rw [← t4]; rfl
    simp (maxSteps := 2000000) only [↓reduceIte, wp_eq, wpd_eq, kont_eq, STP1, STP2, STP3, STP4, STP5, konM_eq, AMK, CZ, Option.map, List.getElem?_cons_zero, List.getElem?_cons_succ, List.mem_cons, List.not_mem_nil, if_false, if_true, Nat.reduceAdd, Nat.reduceLT, Nat.reduceLeDiff, Nat.reduceEqDiff, true_and, and_true, List.length_nil, List.length_cons, or_true, true_or, or_false, false_or, Option.some.injEq, Sum.inl.injEq, Sum.inr.injEq, exists_eq_left', exists_eq_left, Int.reduceLE, Int.reduceLT, Int.reduceNeg, Int.reduceAdd, Int.reduceMul, Int.reduceSub, Int.reduceToNat, inR, Nat.zero_ne_one, false_and, Nat.succ_ne_zero, reduceCtorEq, false_implies, true_implies, not_false_eq_true, not_true_eq_false, Int.reduceEq, KRE, C_RingDater_scoreWithout, FR, k0, k73]
    repeat (first | refine ⟨by omega, ?_⟩ | refine ⟨fun _ _ => okt_nn (by omega), ?_⟩)
    try (first | (show _ ≤ _; omega) | (show _ < _; omega))
    refine (Timber_copyFrom_ok isTim_73 t2 t3).eq ?_
    have hM1 : mset (mset (mset (mset (mCp M 73 (82 + 3 * t) 24) 73 2 (M (82 + 3 * t) 2)) 73 3 (M (82 + 3 * t) 3)) 73 4 (M (82 + 3 * t) 4)) 73 5 (M (82 + 3 * t) 5) = mCpT M 73 (82 + 3 * t) := rfl
    rw [hM1]
    have o1 := fun b j q => mCpT_out (M := M) (o := 73) (f := 82 + 3 * t) b j q
    have q1 := mCpT_eq M 73 (82 + 3 * t)
    have w1 := tmEq_wf q1 t3
    have e1 := (tmEq_rw q1 t3).trans t4
    have l1 : mCpT M 73 (82 + 3 * t) 73 2 = (T t).2.1 := q1.2.2.1.trans eR
    generalize mCpT M 73 (82 + 3 * t) = M1 at *
    refine (Timber_removeRing_ok isTim_73 hr w1).eq ?_
    rw [if_pos ⟨y2, by omega⟩]
    have o2 : ∀ b j, (b < 73 ∨ 76 ≤ b) → mRem M1 73 r b j = M b j := fun b j q => by
      rw [← o1 b j (by omega)]
      simp only [mRem]
      rw [if_neg (by omega), if_neg (by omega), if_neg (by omega)]
    have w2 := mRem_wf w1 y2 (show r < M1 73 2 by omega)
    have e2 := tRw_rem (M := M1) (o := 73) y2 (show r < M1 73 2 by omega)
    rw [e1] at e2
    generalize mRem M1 73 r = M2 at *
    have f2 : FrP (fun b _ => 73 ≤ b ∧ b < 76) M M2 := fun b j q => o2 b j (by omega)
    have b2 : benOK M2 := ⟨rowOK_cells (fun b p1 p2 j => o2 b j (by omega)) h.1.2.1.1, rowOK_cells (fun b p1 p2 j => o2 b j (by omega)) h.1.2.1.2.1, rowOK_cells (fun b p1 p2 j => o2 b j (by omega)) h.1.2.1.2.2⟩
    have c2 := (cls_fr h f2 (fun b j q => by omega) b2 w2).1
    refine (RingDater_scoreHere_ok (A := A) c2 isTim_73 w2 (by rw [e2]; exact okT_rem t5 (by omega) y2 (by omega)) (by omega) (finR_cells (fun b p1 p2 j => o2 b j (by omega)) hA)).mono (fun x M3 z => ?_)
    obtain ⟨rfl, z1, z2, z3⟩ := z
    rw [e2]
    exact ⟨fun _ => rfl, fun z => absurd yc z, z1, z2, (f2.wd (fun b j q => by omega)).tr (z3.wd (fun b j q => by omega))⟩
set_option maxHeartbeats 600000 in
set_option maxRecDepth 20000 in
theorem RingDater_scoreWithOneMore_ok {n t : Nat} {r : Int} {T : Nat → Rw} {Y : Nat → Int} {lap bnd mrg : Int} {A : Rw} {M : Mm} (h : cls M n T Y lap bnd mrg) (ht : t < n) (hr : inR r) (hA : finR M 48 924 A) : CallI m_RingDater_scoreWithOneMore [.inr 0, .inr (82 + 3 * t), .inl r] M (fun x M' => (canG (T t) r → x = scF (best A (rwIns (T t) r 1) lap)) ∧ (¬ canG (T t) r → x = -1) ∧ cls M' n T Y lap bnd mrg ∧ finR M' 48 924 A ∧ FrP (fun b _ => 41 ≤ b ∧ b < 48 ∨ 58 ≤ b ∧ b < 60 ∨ 73 ≤ b ∧ b < 76) M M') := by
  obtain ⟨t1, t2, t3, t4, t5, t6, t7⟩ := cls_tm h ht
  have k0 : kc (lay 0) 11 = True := FR.1
  have k73 : kc (lay 73) 9 = True := by rw [isTim_73.1]; exact eq_true rfl
  have eR : M (82 + 3 * t) 2 = (T t).2.1 := by rw [← t4]; rfl
  refine callP_of (by decide) (by decide) (Nat.le_of_ble_eq_true rfl) (wpm_of (cuts := []) (by decide) 60 _ _ _ _ ?_)
  rw [show lM m_RingDater_scoreWithOneMore = 3 from rfl]
  simp (maxSteps := 2000000) only [↓reduceIte, wp_eq, wpd_eq, kont_eq, STP1, STP2, STP3, STP4, STP5, konM_eq, AMK, CZ, Option.map, List.getElem?_cons_zero, List.getElem?_cons_succ, List.mem_cons, List.not_mem_nil, if_false, if_true, Nat.reduceAdd, Nat.reduceLT, Nat.reduceLeDiff, Nat.reduceEqDiff, true_and, and_true, List.length_nil, List.length_cons, or_true, true_or, or_false, false_or, Option.some.injEq, Sum.inl.injEq, Sum.inr.injEq, exists_eq_left', exists_eq_left, Int.reduceLE, Int.reduceLT, Int.reduceNeg, Int.reduceAdd, Int.reduceMul, Int.reduceSub, Int.reduceToNat, inR, Nat.zero_ne_one, false_and, Nat.succ_ne_zero, reduceCtorEq, false_implies, true_implies, not_false_eq_true, not_true_eq_false, Int.reduceEq, KRE, C_RingDater_scoreWithOneMore, FR, k0, k73, t2.1]
  refine (Timber_canGain_ok t2 hr t3).eq ?_
  by_cases c : M (82 + 3 * t) 2 < 24 ∧ 1 ≤ r ∧ r < M (82 + 3 * t) 2
  · rw [if_pos c]
    have yc : canG (T t) r := by unfold canG; omega
    simp (maxSteps := 2000000) only [↓reduceIte, wp_eq, wpd_eq, kont_eq, STP1, STP2, STP3, STP4, STP5, konM_eq, AMK, CZ, Option.map, List.getElem?_cons_zero, List.getElem?_cons_succ, List.mem_cons, List.not_mem_nil, if_false, if_true, Nat.reduceAdd, Nat.reduceLT, Nat.reduceLeDiff, Nat.reduceEqDiff, true_and, and_true, List.length_nil, List.length_cons, or_true, true_or, or_false, false_or, Option.some.injEq, Sum.inl.injEq, Sum.inr.injEq, exists_eq_left', exists_eq_left, Int.reduceLE, Int.reduceLT, Int.reduceNeg, Int.reduceAdd, Int.reduceMul, Int.reduceSub, Int.reduceToNat, inR, Nat.zero_ne_one, false_and, Nat.succ_ne_zero, reduceCtorEq, false_implies, true_implies, not_false_eq_true, not_true_eq_false, Int.reduceEq, KRE, C_RingDater_scoreWithOneMore, FR, k0, k73]
    repeat (first | refine ⟨by omega, ?_⟩ | refine ⟨fun _ _ => okt_nn (by omega), ?_⟩)
    try (first | (show _ ≤ _; omega) | (show _ < _; omega))
    refine (Timber_copyFrom_ok isTim_73 t2 t3).eq ?_
    have hM1 : mset (mset (mset (mset (mCp M 73 (82 + 3 * t) 24) 73 2 (M (82 + 3 * t) 2)) 73 3 (M (82 + 3 * t) 3)) 73 4 (M (82 + 3 * t) 4)) 73 5 (M (82 + 3 * t) 5) = mCpT M 73 (82 + 3 * t) := rfl
    rw [hM1]
    have o1 := fun b j q => mCpT_out (M := M) (o := 73) (f := 82 + 3 * t) b j q
    have q1 := mCpT_eq M 73 (82 + 3 * t)
    have w1 := tmEq_wf q1 t3
    have e1 := (tmEq_rw q1 t3).trans t4
    have l1 : mCpT M 73 (82 + 3 * t) 73 2 = (T t).2.1 := q1.2.2.1.trans eR
    generalize mCpT M 73 (82 + 3 * t) = M1 at *
    refine (Timber_insertRing_ok isTim_73 hr w1).eq ?_
    rw [if_pos ⟨by omega, by omega, by omega⟩]
    have o2 : ∀ b j, (b < 73 ∨ 76 ≤ b) → mIns M1 73 r 1 b j = M b j := fun b j q => by
      rw [← o1 b j (by omega)]
      simp only [mIns]
      rw [if_neg (by omega), if_neg (by omega), if_neg (by omega), if_neg (by omega), if_neg (by omega)]
    have w2 := mIns_wf (r := r) (x := 1) w1 (by omega) (by omega)
    have e2 := tRw_ins (M := M1) (o := 73) (x := 1) (show 0 ≤ r by omega) (show r ≤ M1 73 2 by omega)
    rw [e1] at e2
    generalize mIns M1 73 r 1 = M2 at *
    have f2 : FrP (fun b _ => 73 ≤ b ∧ b < 76) M M2 := fun b j q => o2 b j (by omega)
    have b2 : benOK M2 := ⟨rowOK_cells (fun b p1 p2 j => o2 b j (by omega)) h.1.2.1.1, rowOK_cells (fun b p1 p2 j => o2 b j (by omega)) h.1.2.1.2.1, rowOK_cells (fun b p1 p2 j => o2 b j (by omega)) h.1.2.1.2.2⟩
    have c2 := (cls_fr h f2 (fun b j q => by omega) b2 w2).1
    refine (RingDater_scoreHere_ok (A := A) c2 isTim_73 w2 (by rw [e2]; exact okT_ins t5 (by omega) (by omega) (by omega) (by omega)) (by omega) (finR_cells (fun b p1 p2 j => o2 b j (by omega)) hA)).mono (fun x M3 z => ?_)
    obtain ⟨rfl, z1, z2, z3⟩ := z
    rw [e2]
    exact ⟨fun _ => rfl, fun z => absurd yc z, z1, z2, (f2.wd (fun b j q => by omega)).tr (z3.wd (fun b j q => by omega))⟩
  · rw [if_neg c]
    have nc : ¬ canG (T t) r := by unfold canG; omega
    simp (maxSteps := 2000000) only [↓reduceIte, wp_eq, wpd_eq, kont_eq, STP1, STP2, STP3, STP4, STP5, konM_eq, AMK, CZ, Option.map, List.getElem?_cons_zero, List.getElem?_cons_succ, List.mem_cons, List.not_mem_nil, if_false, if_true, Nat.reduceAdd, Nat.reduceLT, Nat.reduceLeDiff, Nat.reduceEqDiff, true_and, and_true, List.length_nil, List.length_cons, or_true, true_or, or_false, false_or, Option.some.injEq, Sum.inl.injEq, Sum.inr.injEq, exists_eq_left', exists_eq_left, Int.reduceLE, Int.reduceLT, Int.reduceNeg, Int.reduceAdd, Int.reduceMul, Int.reduceSub, Int.reduceToNat, inR, Nat.zero_ne_one, false_and, Nat.succ_ne_zero, reduceCtorEq, false_implies, true_implies, not_false_eq_true, not_true_eq_false, Int.reduceEq, KRE, C_RingDater_scoreWithOneMore, FR]
    repeat (first | refine ⟨by omega, ?_⟩ | refine ⟨fun _ _ => okt_nn (by omega), ?_⟩)
    try (first | (show _ ≤ _; omega) | (show _ < _; omega))
    exact ⟨fun z => absurd z nc, fun _ => trivial, h, hA, FrP.rf⟩
