/-! THE REFERENCE, I: chance, image, restore, feed. -/
section MODI
variable {n : Nat} {T : Nat → Rw} {Y : Nat → Int} {lap bnd mrg : Int} {M : Mm}
set_option maxHeartbeats 600000 in
set_option maxRecDepth 20000 in
theorem Model_draw_ok {s : Int} (hs : M 154 66 = s) : CallI m_Model_draw [.inr 154, .inl 99] M (fun x M' => x = drw (lcg s) - 1 ∧ M' = mset M 154 66 (lcg s)) := by
  have hm := bAnd_mask (bUshr (lcg s) 16)
  have e : mset M 154 66 (lcg s) 154 66 = lcg s := by simp [mset]
  have e2 := shr_mask (lcg s)
  have l : s * 1103515245 + 12345 = lcg s := rfl
  refine callP_of (by decide) (by decide) (Nat.le_of_ble_eq_true rfl) (wpm_of (cuts := []) (by decide) 60 _ _ _ _ ?_)
  rw [show lM m_Model_draw = 2 from rfl]
  simp (maxSteps := 2000000) only [↓reduceIte, wp_eq, wpd_eq, kont_eq, STP1, STP2, STP3, STP4, STP5, konM_eq, AMK, CZ, Option.map, List.getElem?_cons_zero, List.getElem?_cons_succ, List.mem_cons, List.not_mem_nil, if_false, if_true, Nat.reduceAdd, Nat.reduceLT, Nat.reduceLeDiff, Nat.reduceEqDiff, true_and, and_true, List.length_nil, List.length_cons, or_true, true_or, or_false, false_or, Option.some.injEq, Sum.inl.injEq, Sum.inr.injEq, exists_eq_left', exists_eq_left, Int.reduceLE, Int.reduceLT, Int.reduceNeg, Int.reduceAdd, Int.reduceMul, Int.reduceSub, Int.reduceToNat, inR, Nat.zero_ne_one, false_and, Nat.succ_ne_zero, reduceCtorEq, false_implies, true_implies, not_false_eq_true, not_true_eq_false, Int.reduceEq, KRE, C_Model_draw, FM, hs, l, e, e2]
  repeat (first | refine ⟨by omega, ?_⟩ | refine ⟨fun _ _ => okt_nn (by omega), ?_⟩)
  try (first | (show _ ≤ _; omega) | (show _ < _; omega))
  have d : drw (lcg s) - 1 = (bAnd (bUshr (lcg s) 16) 32767).tmod 99 := by unfold drw; omega
  rw [d]
def chP : Nat → Nat → Prop := fun b j => b = 154 ∧ (32 ≤ j ∧ j ≤ 41 ∨ j = 66) ∨ 165 ≤ b ∧ b ≤ 167
def mDr (M : Mm) (s : Int) (k : Nat) : Mm := mset (mFil M 165 (drG s) k) 154 66 (lcgN k s)
set_option maxHeartbeats 600000 in
set_option maxRecDepth 20000 in
theorem Model_chance_111 {s : Int} {c : Nat} {x0 x1 x2 x3 x4 x5 x6 x7 x8 x9 : Option AV} {Qc : Option AV → Mm → Prop} (hs : M 154 66 = s) (hc : M 154 28 = c) (c24 : c ≤ 24)
    (K : WPm m_Model_chance Qc 141 [some (.inr 154), x1, x2, x3, x4, x5, x6, x7, x8, x9, some (.inl (c : Int))] [] (mDr M s c)) :
    WPm m_Model_chance Qc 111 [some (.inr 154), x1, x2, x3, x4, x5, x6, x7, x8, x9, some (.inl 0)] [] M := by
  refine loopQ c (fun k ls M1 => M1 = mDr M s k ∧ ls = [some (.inr 154), x1, x2, x3, x4, x5, x6, x7, x8, x9, some (.inl (k : Int))]) ?_ _ _ ⟨?_, rfl⟩
  · rintro k _ _ hk ⟨rfl, rfl⟩ KK
    have e28 : mDr M s k 154 28 = c := by rw [← hc]; simp [mDr, mset, mFil]
    have e66 : mDr M s k 154 66 = lcgN k s := by simp [mDr, mset]
    by_cases ck : k = c
    · subst ck
      have c' := eq_true (show (k : Int) ≤ k by omega)
      refine wpm_of (cuts := [111, 141]) (by decide) 60 _ _ _ _ ?_
      simp (maxSteps := 2000000) only [↓reduceIte, wp_eq, wpd_eq, kont_eq, STP1, STP2, STP3, STP4, STP5, konM_eq, AMK, CZ, Option.map, List.getElem?_cons_zero, List.getElem?_cons_succ, List.mem_cons, List.not_mem_nil, if_false, if_true, Nat.reduceAdd, Nat.reduceLT, Nat.reduceLeDiff, Nat.reduceEqDiff, true_and, and_true, List.length_nil, List.length_cons, or_true, true_or, or_false, false_or, Option.some.injEq, Sum.inl.injEq, Sum.inr.injEq, exists_eq_left', exists_eq_left, Int.reduceLE, Int.reduceLT, Int.reduceNeg, Int.reduceAdd, Int.reduceMul, Int.reduceSub, Int.reduceToNat, inR, Nat.zero_ne_one, false_and, Nat.succ_ne_zero, reduceCtorEq, false_implies, true_implies, not_false_eq_true, not_true_eq_false, Int.reduceEq, KRE, C_Model_chance, FM, e28, c']
      repeat (first | refine ⟨by omega, ?_⟩ | refine ⟨fun _ _ => okt_nn (by omega), ?_⟩)
      try (first | (show _ ≤ _; omega) | (show _ < _; omega))
      exact K
    · have hlt : k < c := by omega
      have c' := eq_false (show ¬ (c : Int) ≤ k by omega)
      have K' := KK hlt _ _ ⟨rfl, rfl⟩
      refine wpm_of (cuts := [111, 141]) (by decide) 60 _ _ _ _ ?_
      simp (maxSteps := 2000000) only [↓reduceIte, wp_eq, wpd_eq, kont_eq, STP1, STP2, STP3, STP4, STP5, konM_eq, AMK, CZ, Option.map, List.getElem?_cons_zero, List.getElem?_cons_succ, List.mem_cons, List.not_mem_nil, if_false, if_true, Nat.reduceAdd, Nat.reduceLT, Nat.reduceLeDiff, Nat.reduceEqDiff, true_and, and_true, List.length_nil, List.length_cons, or_true, true_or, or_false, false_or, Option.some.injEq, Sum.inl.injEq, Sum.inr.injEq, exists_eq_left', exists_eq_left, Int.reduceLE, Int.reduceLT, Int.reduceNeg, Int.reduceAdd, Int.reduceMul, Int.reduceSub, Int.reduceToNat, inR, Nat.zero_ne_one, false_and, Nat.succ_ne_zero, reduceCtorEq, false_implies, true_implies, not_false_eq_true, not_true_eq_false, Int.reduceEq, KRE, C_Model_chance, FM, e28, c']
      repeat (first | refine ⟨by omega, ?_⟩ | refine ⟨fun _ _ => okt_nn (by omega), ?_⟩)
      try (first | (show _ ≤ _; omega) | (show _ < _; omega))
      refine (Model_draw_ok e66).eq ?_
      try simp (maxSteps := 2000000) only [↓reduceIte, wp_eq, wpd_eq, kont_eq, STP1, STP2, STP3, STP4, STP5, konM_eq, AMK, CZ, Option.map, List.getElem?_cons_zero, List.getElem?_cons_succ, List.mem_cons, List.not_mem_nil, if_false, if_true, Nat.reduceAdd, Nat.reduceLT, Nat.reduceLeDiff, Nat.reduceEqDiff, true_and, and_true, List.length_nil, List.length_cons, or_true, true_or, or_false, false_or, Option.some.injEq, Sum.inl.injEq, Sum.inr.injEq, exists_eq_left', exists_eq_left, Int.reduceLE, Int.reduceLT, Int.reduceNeg, Int.reduceAdd, Int.reduceMul, Int.reduceSub, Int.reduceToNat, inR, Nat.zero_ne_one, false_and, Nat.succ_ne_zero, reduceCtorEq, false_implies, true_implies, not_false_eq_true, not_true_eq_false, Int.reduceEq, KRE, C_Model_chance, FM, natT]
      repeat (first | refine ⟨by omega, ?_⟩ | refine ⟨fun _ _ => okt_nn (by omega), ?_⟩)
      try (first | (show _ ≤ _; omega) | (show _ < _; omega))
      refine WPm.eqM K' ?_
      have d : drw (lcg (lcgN k s)) - 1 + 1 = drG s k := by
        rw [Int.sub_add_cancel]
        rfl
      rw [d]
      unfold mDr
      rw [← mFil_s]
      funext b j
      simp only [mset]
      rw [show lcgN (k + 1) s = lcg (lcgN k s) from rfl]
      by_cases c1 : b = 154 ∧ j = 66
      · rw [if_pos c1, if_neg (by omega), if_pos c1]
      · rw [if_neg c1, if_neg c1]
        by_cases c2 : b = 165 ∧ j = k
        · rw [if_pos c2, if_pos c2]
        · rw [if_neg c2, if_neg c2, if_neg c1]
  · unfold mDr
    rw [mFil_0, show lcgN 0 s = s from rfl, ← hs, mset_same]
theorem rowB_dr {s : Int} {c : Nat} (hc : M 154 28 = c) (h3 : 3 ≤ c) (c24 : c ≤ 24) (hd : M 154 29 = 0) : numM (mDr M s c) 165 (dRw s c) ∧ rowB (mTell (mDr M s c) 166 167 (dRw s c) (dRw s c).2.1) (dRw s c) := by
  have ok := okT_drw (x := s) (c := (c : Int)) ⟨by omega, by omega⟩
  have num : numM (mDr M s c) 165 (dRw s c) := by
    refine ⟨by show (0 : Int) ≤ c; omega, okT_R ok, fun j hj => ?_⟩
    have hj' : (j : Int) < c := hj
    rw [mV_full (okT_full ok) (by omega) hj]
    have e : mDr M s c 165 j = drG s j := by
      simp only [mDr, mset, mFil]
      rw [if_neg (by omega), if_pos (by first | exact ⟨rfl, by omega⟩ | exact ⟨trivial, by omega⟩)]
    rw [e]
    show _ = if 0 ≤ (j : Int) ∧ (j : Int) < (c : Int) then (if (((j : Int).toNat : Nat) : Int) < (c : Int) then drG s (j : Int).toNat else 0) else 0
    rw [natT, if_pos ⟨by omega, hj'⟩, if_pos hj']
  have f4 := mTell_fr (M := mDr M s c) (s := 166) (r := 167) (A := dRw s c) (n := (dRw s c).2.1)
  refine ⟨num, ?_, by show (c : Int) ≤ 24; omega, mTell_fin num, ?_, okT_full ok⟩
  · rw [f4 _ _ (by omega)]
    show _ = (c : Int)
    rw [← hc]
    simp [mDr, mset, mFil]
  · rw [f4 _ _ (by omega)]
    have e : mDr M s c 154 29 = 0 := by rw [← hd]; simp [mDr, mset, mFil]
    rw [e]
    refine ⟨inR_0, fun k k0 k1 => ⟨fun z => ?_, fun z => absurd z (isD_0 k)⟩⟩
    exfalso
    apply z
    unfold sShk
    rw [if_neg]
    rintro ⟨-, -, z | z⟩
    · exact z (by unfold sD; split <;> rfl)
    · exact z (by unfold sD; split <;> rfl)
theorem chcN_s {A : Rw} {own lap seed c : Int} {k : Nat} : chcN A own lap seed c (k + 1) = ((chcN A own lap seed c k).1 + (if own ≤ chcS A own lap seed c k then 1 else 0), max (chcN A own lap seed c k).2.1 (chcS A own lap seed c k), (chcN A own lap seed c k).2.2 + chcS A own lap seed c k) := rfl
set_option maxHeartbeats 600000 in
set_option maxRecDepth 20000 in
theorem Model_chance_102 {A : Rw} {own seed w : Int} {c m : Nat} {x1 x2 a10 : Option AV} {M0 : Mm} (h : mdl M n T Y lap bnd mrg) (hA : rowA M A) (hc : M 154 28 = c) (h3 : 3 ≤ c) (c24 : c ≤ 24) (hd : M 154 29 = 0) (hs : M 154 66 = seed) (hm : m ≤ 40) (hw : 0 ≤ w ∧ w ≤ 2) (ho : 0 ≤ own ∧ own ≤ 100) (rs : rsM M0 0 M) :
    WPm m_Model_chance (fun v M' => ∃ y, v = some (.inl y) ∧ y = (if w = 0 then (chcN A own lap seed c m).1 else if w = 1 then (chcN A own lap seed c m).2.1 else (chcN A own lap seed c m).2.2) ∧ rsM M0 0 M') 102 [some (.inr 154), x1, x2, some (.inl (m : Int)), some (.inl w), some (.inl own), some (.inl 0), some (.inl 0), some (.inl 0), some (.inl 0), a10] [] M := by
  have sep : ∀ b j, chP b j → b ≠ 156 ∧ b ≠ 158 := fun b j z => by unfold chP at z; omega
  have hAA : 0 ≤ A.2.1 ∧ A.2.1 ≤ 924 := ⟨hA.2.2.1.1.1, hA.2.1⟩
  refine loopQ m (fun k ls M1 => (FrP chP M M1 ∧ M1 154 66 = lcgN (c * k) seed) ∧ ∃ a10, ls = [some (.inr 154), x1, x2, some (.inl (m : Int)), some (.inl w), some (.inl own), some (.inl (chcN A own lap seed c k).1), some (.inl (chcN A own lap seed c k).2.1), some (.inl (chcN A own lap seed c k).2.2), some (.inl (k : Int)), a10]) ?_ _ _ ⟨⟨FrP.rf, by rw [Nat.mul_zero]; exact hs⟩, a10, rfl⟩
  rintro k _ M1 hk ⟨⟨F, e66⟩, b10, rfl⟩ KK
  have ci := chc_in (own := own) (lap := lap) (seed := seed) hAA (c := (c : Int)) ⟨by omega, by omega⟩ k
  by_cases ck : k = m
  · subst ck
    have rs1 := rsM_fr rs F (fun b j z => by unfold chP at z; unfold scrM; omega)
    have c' := eq_true (show (k : Int) ≤ k by omega)
    generalize chcN A own lap seed c k = x at *
    rcases (show w = 0 ∨ w = 1 ∨ w = 2 by omega) with rfl | rfl | rfl
    · refine wpm_of (cuts := [102]) (by decide) 60 _ _ _ _ ?_
      simp (maxSteps := 2000000) only [↓reduceIte, wp_eq, wpd_eq, kont_eq, STP1, STP2, STP3, STP4, STP5, konM_eq, AMK, CZ, Option.map, List.getElem?_cons_zero, List.getElem?_cons_succ, List.mem_cons, List.not_mem_nil, if_false, if_true, Nat.reduceAdd, Nat.reduceLT, Nat.reduceLeDiff, Nat.reduceEqDiff, true_and, and_true, List.length_nil, List.length_cons, or_true, true_or, or_false, false_or, Option.some.injEq, Sum.inl.injEq, Sum.inr.injEq, exists_eq_left', exists_eq_left, Int.reduceLE, Int.reduceLT, Int.reduceNeg, Int.reduceAdd, Int.reduceMul, Int.reduceSub, Int.reduceToNat, inR, Nat.zero_ne_one, false_and, Nat.succ_ne_zero, reduceCtorEq, false_implies, true_implies, not_false_eq_true, not_true_eq_false, Int.reduceEq, KRE, C_Model_chance, FM, c']
      repeat (first | refine ⟨by omega, ?_⟩ | refine ⟨fun _ _ => okt_nn (by omega), ?_⟩)
      try (first | (show _ ≤ _; omega) | (show _ < _; omega))
      first | exact rs1 | exact ⟨rfl, rs1⟩ | exact ⟨by simp, rs1⟩ | exact ⟨by omega, rs1⟩ | exact ⟨by simp, rfl, rs1⟩ | exact ⟨by omega, rfl, rs1⟩ | exact ⟨by simp, by simp, rs1⟩ | exact ⟨by omega, by simp, rs1⟩ | (simp; first | exact rs1 | exact ⟨by omega, rs1⟩)
    · refine wpm_of (cuts := [102]) (by decide) 60 _ _ _ _ ?_
      simp (maxSteps := 2000000) only [↓reduceIte, wp_eq, wpd_eq, kont_eq, STP1, STP2, STP3, STP4, STP5, konM_eq, AMK, CZ, Option.map, List.getElem?_cons_zero, List.getElem?_cons_succ, List.mem_cons, List.not_mem_nil, if_false, if_true, Nat.reduceAdd, Nat.reduceLT, Nat.reduceLeDiff, Nat.reduceEqDiff, true_and, and_true, List.length_nil, List.length_cons, or_true, true_or, or_false, false_or, Option.some.injEq, Sum.inl.injEq, Sum.inr.injEq, exists_eq_left', exists_eq_left, Int.reduceLE, Int.reduceLT, Int.reduceNeg, Int.reduceAdd, Int.reduceMul, Int.reduceSub, Int.reduceToNat, inR, Nat.zero_ne_one, false_and, Nat.succ_ne_zero, reduceCtorEq, false_implies, true_implies, not_false_eq_true, not_true_eq_false, Int.reduceEq, KRE, C_Model_chance, FM, c']
      repeat (first | refine ⟨by omega, ?_⟩ | refine ⟨fun _ _ => okt_nn (by omega), ?_⟩)
      try (first | (show _ ≤ _; omega) | (show _ < _; omega))
      first | exact rs1 | exact ⟨rfl, rs1⟩ | exact ⟨by simp, rs1⟩ | exact ⟨by omega, rs1⟩ | exact ⟨by simp, rfl, rs1⟩ | exact ⟨by omega, rfl, rs1⟩ | exact ⟨by simp, by simp, rs1⟩ | exact ⟨by omega, by simp, rs1⟩ | (simp; first | exact rs1 | exact ⟨by omega, rs1⟩)
    · refine wpm_of (cuts := [102]) (by decide) 60 _ _ _ _ ?_
      simp (maxSteps := 2000000) only [↓reduceIte, wp_eq, wpd_eq, kont_eq, STP1, STP2, STP3, STP4, STP5, konM_eq, AMK, CZ, Option.map, List.getElem?_cons_zero, List.getElem?_cons_succ, List.mem_cons, List.not_mem_nil, if_false, if_true, Nat.reduceAdd, Nat.reduceLT, Nat.reduceLeDiff, Nat.reduceEqDiff, true_and, and_true, List.length_nil, List.length_cons, or_true, true_or, or_false, false_or, Option.some.injEq, Sum.inl.injEq, Sum.inr.injEq, exists_eq_left', exists_eq_left, Int.reduceLE, Int.reduceLT, Int.reduceNeg, Int.reduceAdd, Int.reduceMul, Int.reduceSub, Int.reduceToNat, inR, Nat.zero_ne_one, false_and, Nat.succ_ne_zero, reduceCtorEq, false_implies, true_implies, not_false_eq_true, not_true_eq_false, Int.reduceEq, KRE, C_Model_chance, FM, c']
      repeat (first | refine ⟨by omega, ?_⟩ | refine ⟨fun _ _ => okt_nn (by omega), ?_⟩)
      try (first | (show _ ≤ _; omega) | (show _ < _; omega))
      first | exact rs1 | exact ⟨rfl, rs1⟩ | exact ⟨by simp, rs1⟩ | exact ⟨by omega, rs1⟩ | exact ⟨by simp, rfl, rs1⟩ | exact ⟨by omega, rfl, rs1⟩ | exact ⟨by simp, by simp, rs1⟩ | exact ⟨by omega, by simp, rs1⟩ | (simp; first | exact rs1 | exact ⟨by omega, rs1⟩)
  · have hlt : k < m := by omega
    have c' := eq_false (show ¬ (m : Int) ≤ k by omega)
    have h1 := mdl_fr h F sep
    have hc1 : M1 154 28 = c := (F _ _ (by unfold chP; omega)).trans hc
    have hd1 : M1 154 29 = 0 := (F _ _ (by unfold chP; omega)).trans hd
    have hA1 : rowA M1 A := rowA_cells (fun b q1 q2 j => F _ _ (by unfold chP; omega)) (F _ _ (by unfold chP; omega)) (F _ _ (by unfold chP; omega)) hA
    have hb := h.2.2.1.1.2
    refine wpm_of (cuts := [102, 111]) (by decide) 60 _ _ _ _ ?_
    simp (maxSteps := 2000000) only [↓reduceIte, wp_eq, wpd_eq, kont_eq, STP1, STP2, STP3, STP4, STP5, konM_eq, AMK, CZ, Option.map, List.getElem?_cons_zero, List.getElem?_cons_succ, List.mem_cons, List.not_mem_nil, if_false, if_true, Nat.reduceAdd, Nat.reduceLT, Nat.reduceLeDiff, Nat.reduceEqDiff, true_and, and_true, List.length_nil, List.length_cons, or_true, true_or, or_false, false_or, Option.some.injEq, Sum.inl.injEq, Sum.inr.injEq, exists_eq_left', exists_eq_left, Int.reduceLE, Int.reduceLT, Int.reduceNeg, Int.reduceAdd, Int.reduceMul, Int.reduceSub, Int.reduceToNat, inR, Nat.zero_ne_one, false_and, Nat.succ_ne_zero, reduceCtorEq, false_implies, true_implies, not_false_eq_true, not_true_eq_false, Int.reduceEq, KRE, C_Model_chance, FM, c']
    repeat (first | refine ⟨by omega, ?_⟩ | refine ⟨fun _ _ => okt_nn (by omega), ?_⟩)
    try (first | (show _ ≤ _; omega) | (show _ < _; omega))
    refine Model_chance_111 (x0 := none) e66 hc1 c24 ?_
    obtain ⟨num, rB⟩ := rowB_dr (s := lcgN (c * k) seed) hc1 h3 c24 hd1
    have F2 : FrP chP M1 (mDr M1 (lcgN (c * k) seed) c) := by
      intro b j z
      unfold chP at z
      simp only [mDr, mset, mFil]
      rw [if_neg (by omega), if_neg (by omega)]
    have e662 : mDr M1 (lcgN (c * k) seed) c 154 66 = lcgN (c * (k + 1)) seed := by
      rw [Nat.mul_add, Nat.mul_one, lcgN_add]
      simp [mDr, mset]
    have e282 : mDr M1 (lcgN (c * k) seed) c 154 28 = (dRw (lcgN (c * k) seed) c).2.1 := (F2 _ _ (by unfold chP; omega)).trans hc1
    have okd := okT_drw (x := lcgN (c * k) seed) (c := (c : Int)) ⟨by omega, by omega⟩
    generalize mDr M1 (lcgN (c * k) seed) c = M2 at *
    refine wpm_of (cuts := [102, 168]) (by decide) 60 _ _ _ _ ?_
    simp (maxSteps := 2000000) only [↓reduceIte, wp_eq, wpd_eq, kont_eq, STP1, STP2, STP3, STP4, STP5, konM_eq, AMK, CZ, Option.map, List.getElem?_cons_zero, List.getElem?_cons_succ, List.mem_cons, List.not_mem_nil, if_false, if_true, Nat.reduceAdd, Nat.reduceLT, Nat.reduceLeDiff, Nat.reduceEqDiff, true_and, and_true, List.length_nil, List.length_cons, or_true, true_or, or_false, false_or, Option.some.injEq, Sum.inl.injEq, Sum.inr.injEq, exists_eq_left', exists_eq_left, Int.reduceLE, Int.reduceLT, Int.reduceNeg, Int.reduceAdd, Int.reduceMul, Int.reduceSub, Int.reduceToNat, inR, Nat.zero_ne_one, false_and, Nat.succ_ne_zero, reduceCtorEq, false_implies, true_implies, not_false_eq_true, not_true_eq_false, Int.reduceEq, KRE, C_Model_chance, FM]
    refine (Model_tellB_ok e282 (by show (c : Int) ≤ 24; omega) num).eq ?_
    have f4 := mTell_fr (M := M2) (s := 166) (r := 167) (A := dRw (lcgN (c * k) seed) c) (n := (dRw (lcgN (c * k) seed) c).2.1)
    have F3 : FrP chP M1 (mTell M2 166 167 (dRw (lcgN (c * k) seed) c) (dRw (lcgN (c * k) seed) c).2.1) := F2.tr (f4.wd (fun b j z => by unfold chP; omega))
    have e663 : mTell M2 166 167 (dRw (lcgN (c * k) seed) c) (dRw (lcgN (c * k) seed) c).2.1 154 66 = lcgN (c * (k + 1)) seed := (f4 _ _ (by omega)).trans e662
    generalize mTell M2 166 167 (dRw (lcgN (c * k) seed) c) (dRw (lcgN (c * k) seed) c).2.1 = M3 at *
    have h3' := mdl_fr h1 F3 sep
    have hA3 : rowA M3 A := rowA_cells (fun b q1 q2 j => F3 _ _ (by unfold chP; omega)) (F3 _ _ (by unfold chP; omega)) (F3 _ _ (by unfold chP; omega)) hA1
    try simp (maxSteps := 2000000) only [↓reduceIte, wp_eq, wpd_eq, kont_eq, STP1, STP2, STP3, STP4, STP5, konM_eq, AMK, CZ, Option.map, List.getElem?_cons_zero, List.getElem?_cons_succ, List.mem_cons, List.not_mem_nil, if_false, if_true, Nat.reduceAdd, Nat.reduceLT, Nat.reduceLeDiff, Nat.reduceEqDiff, true_and, and_true, List.length_nil, List.length_cons, or_true, true_or, or_false, false_or, Option.some.injEq, Sum.inl.injEq, Sum.inr.injEq, exists_eq_left', exists_eq_left, Int.reduceLE, Int.reduceLT, Int.reduceNeg, Int.reduceAdd, Int.reduceMul, Int.reduceSub, Int.reduceToNat, inR, Nat.zero_ne_one, false_and, Nat.succ_ne_zero, reduceCtorEq, false_implies, true_implies, not_false_eq_true, not_true_eq_false, Int.reduceEq, KRE, C_Model_chance, FM]
    refine (Model_bound_ok h3'.2.2.1).eq ?_
    try simp (maxSteps := 2000000) only [↓reduceIte, wp_eq, wpd_eq, kont_eq, STP1, STP2, STP3, STP4, STP5, konM_eq, AMK, CZ, Option.map, List.getElem?_cons_zero, List.getElem?_cons_succ, List.mem_cons, List.not_mem_nil, if_false, if_true, Nat.reduceAdd, Nat.reduceLT, Nat.reduceLeDiff, Nat.reduceEqDiff, true_and, and_true, List.length_nil, List.length_cons, or_true, true_or, or_false, false_or, Option.some.injEq, Sum.inl.injEq, Sum.inr.injEq, exists_eq_left', exists_eq_left, Int.reduceLE, Int.reduceLT, Int.reduceNeg, Int.reduceAdd, Int.reduceMul, Int.reduceSub, Int.reduceToNat, inR, Nat.zero_ne_one, false_and, Nat.succ_ne_zero, reduceCtorEq, false_implies, true_implies, not_false_eq_true, not_true_eq_false, Int.reduceEq, KRE, C_Model_chance, FM]
    refine (Model_tellBest_ok h3'.2.2.1 hA3 rB (by omega)).mono (fun M4 z => ?_)
    obtain ⟨⟨b1, b2, b3⟩, -, F4⟩ := z
    have F4' : FrP chP M M4 := (F.tr F3).tr (F4.wd (fun b j z => by unfold bestP at z; unfold chP; omega))
    have e664 : M4 154 66 = lcgN (c * (k + 1)) seed := (F4 _ _ (by unfold bestP; omega)).trans e663
    have ob := okB_best (A := A) (B := dRw (lcgN (c * k) seed) c) (lap := lap) hAA (by have := okd.1; omega)
    have si := scF_in ob
    have es : chcS A own lap seed c k = scF (best A (dRw (lcgN (c * k) seed) c) lap) := by
      unfold chcS
      rw [natT]
    have sb : scF (best A (dRw (lcgN (c * k) seed) c) lap) = if (best A (dRw (lcgN (c * k) seed) c) lap).1 = 0 then 0 else (best A (dRw (lcgN (c * k) seed) c) lap).2.2.1 := rfl
    have K' := fun a10 => KK hlt _ M4 ⟨⟨F4', e664⟩, a10, rfl⟩
    rw [chcN_s, es] at K'
    generalize best A (dRw (lcgN (c * k) seed) c) lap = y at *
    have KK2 : WPm m_Model_chance (fun v M' => ∃ y, v = some (.inl y) ∧ y = (if w = 0 then (chcN A own lap seed c m).1 else if w = 1 then (chcN A own lap seed c m).2.1 else (chcN A own lap seed c m).2.2) ∧ rsM M0 0 M') 168 [some (.inr 154), x1, x2, some (.inl (m : Int)), some (.inl w), some (.inl own), some (.inl (chcN A own lap seed c k).1), some (.inl (chcN A own lap seed c k).2.1), some (.inl (chcN A own lap seed c k).2.2), some (.inl (k : Int)), some (.inl (c : Int))] [.inl (scF y)] M4 := by
      generalize scF y = v at *
      generalize chcN A own lap seed c k = x at *
      by_cases cv : own ≤ v
      · rw [if_pos cv] at K'
        have cv' := eq_false (show ¬ v < own by omega)
        refine wpm_of (cuts := [102]) (by decide) 60 _ _ _ _ ?_
        simp (maxSteps := 2000000) only [↓reduceIte, wp_eq, wpd_eq, kont_eq, STP1, STP2, STP3, STP4, STP5, konM_eq, AMK, CZ, Option.map, List.getElem?_cons_zero, List.getElem?_cons_succ, List.mem_cons, List.not_mem_nil, if_false, if_true, Nat.reduceAdd, Nat.reduceLT, Nat.reduceLeDiff, Nat.reduceEqDiff, true_and, and_true, List.length_nil, List.length_cons, or_true, true_or, or_false, false_or, Option.some.injEq, Sum.inl.injEq, Sum.inr.injEq, exists_eq_left', exists_eq_left, Int.reduceLE, Int.reduceLT, Int.reduceNeg, Int.reduceAdd, Int.reduceMul, Int.reduceSub, Int.reduceToNat, inR, Nat.zero_ne_one, false_and, Nat.succ_ne_zero, reduceCtorEq, false_implies, true_implies, not_false_eq_true, not_true_eq_false, Int.reduceEq, KRE, C_Model_chance, FM, cv']
        repeat (first | refine ⟨by omega, ?_⟩ | refine ⟨fun _ _ => okt_nn (by omega), ?_⟩)
        try (first | (show _ ≤ _; omega) | (show _ < _; omega))
        exact K' _
      · rw [if_neg cv] at K'
        have cv' := eq_true (show v < own by omega)
        refine wpm_of (cuts := [102]) (by decide) 60 _ _ _ _ ?_
        simp (maxSteps := 2000000) only [↓reduceIte, wp_eq, wpd_eq, kont_eq, STP1, STP2, STP3, STP4, STP5, konM_eq, AMK, CZ, Option.map, List.getElem?_cons_zero, List.getElem?_cons_succ, List.mem_cons, List.not_mem_nil, if_false, if_true, Nat.reduceAdd, Nat.reduceLT, Nat.reduceLeDiff, Nat.reduceEqDiff, true_and, and_true, List.length_nil, List.length_cons, or_true, true_or, or_false, false_or, Option.some.injEq, Sum.inl.injEq, Sum.inr.injEq, exists_eq_left', exists_eq_left, Int.reduceLE, Int.reduceLT, Int.reduceNeg, Int.reduceAdd, Int.reduceMul, Int.reduceSub, Int.reduceToNat, inR, Nat.zero_ne_one, false_and, Nat.succ_ne_zero, reduceCtorEq, false_implies, true_implies, not_false_eq_true, not_true_eq_false, Int.reduceEq, KRE, C_Model_chance, FM, cv']
        repeat (first | refine ⟨by omega, ?_⟩ | refine ⟨fun _ _ => okt_nn (by omega), ?_⟩)
        try (first | (show _ ≤ _; omega) | (show _ < _; omega))
        exact K' _
    rcases ob.1 with o1 | o1
    · rw [if_pos o1] at sb
      rw [o1] at b1
      rw [sb] at KK2
      try simp (maxSteps := 2000000) only [↓reduceIte, wp_eq, wpd_eq, kont_eq, STP1, STP2, STP3, STP4, STP5, konM_eq, AMK, CZ, Option.map, List.getElem?_cons_zero, List.getElem?_cons_succ, List.mem_cons, List.not_mem_nil, if_false, if_true, Nat.reduceAdd, Nat.reduceLT, Nat.reduceLeDiff, Nat.reduceEqDiff, true_and, and_true, List.length_nil, List.length_cons, or_true, true_or, or_false, false_or, Option.some.injEq, Sum.inl.injEq, Sum.inr.injEq, exists_eq_left', exists_eq_left, Int.reduceLE, Int.reduceLT, Int.reduceNeg, Int.reduceAdd, Int.reduceMul, Int.reduceSub, Int.reduceToNat, inR, Nat.zero_ne_one, false_and, Nat.succ_ne_zero, reduceCtorEq, false_implies, true_implies, not_false_eq_true, not_true_eq_false, Int.reduceEq, KRE, C_Model_chance, FM, b1]
      repeat (first | refine ⟨by omega, ?_⟩ | refine ⟨fun _ _ => okt_nn (by omega), ?_⟩)
      try (first | (show _ ≤ _; omega) | (show _ < _; omega))
      exact KK2
    · rw [if_neg (by omega)] at sb
      have b4 := (b3 (by omega)).2.1
      rw [o1] at b1
      have one0 := eq_false (show ¬ (1 : Int) = 0 by omega)
      rw [sb] at KK2
      try simp (maxSteps := 2000000) only [↓reduceIte, wp_eq, wpd_eq, kont_eq, STP1, STP2, STP3, STP4, STP5, konM_eq, AMK, CZ, Option.map, List.getElem?_cons_zero, List.getElem?_cons_succ, List.mem_cons, List.not_mem_nil, if_false, if_true, Nat.reduceAdd, Nat.reduceLT, Nat.reduceLeDiff, Nat.reduceEqDiff, true_and, and_true, List.length_nil, List.length_cons, or_true, true_or, or_false, false_or, Option.some.injEq, Sum.inl.injEq, Sum.inr.injEq, exists_eq_left', exists_eq_left, Int.reduceLE, Int.reduceLT, Int.reduceNeg, Int.reduceAdd, Int.reduceMul, Int.reduceSub, Int.reduceToNat, inR, Nat.zero_ne_one, false_and, Nat.succ_ne_zero, reduceCtorEq, false_implies, true_implies, not_false_eq_true, not_true_eq_false, Int.reduceEq, KRE, C_Model_chance, FM, b1, b4, one0]
      repeat (first | refine ⟨by omega, ?_⟩ | refine ⟨fun _ _ => okt_nn (by omega), ?_⟩)
      try (first | (show _ ≤ _; omega) | (show _ < _; omega))
      exact KK2
set_option maxHeartbeats 600000 in
set_option maxRecDepth 20000 in
theorem Mchance_ok {t m : Nat} {seed w : Int} (h : mdl M n T Y lap bnd mrg) (ht : t < n) (hm : m ≤ 40) (hw : 0 ≤ w ∧ w ≤ 2) : CallI m_Model_chance [.inr 154, .inl (t : Int), .inl seed, .inl (m : Int), .inl w] M (fun y M' => y = (if w = 0 then (chcN (chr T Y (-1) n) (scF (best (chr T Y (-1) n) (T t) lap)) lap seed (T t).2.1 m).1 else if w = 1 then (chcN (chr T Y (-1) n) (scF (best (chr T Y (-1) n) (T t) lap)) lap seed (T t).2.1 m).2.1 else (chcN (chr T Y (-1) n) (scF (best (chr T Y (-1) n) (T t) lap)) lap seed (T t).2.1 m).2.2) ∧ rsM M 0 M') := by
  have h0 : mdl (mset M 154 1 0) n T Y lap bnd mrg := mdl_fr h scr_0 scr_mdl
  have n8 := h.1.2
  have lT := (mdl_t h ht).2.2.2.1.1
  have hc := h.2.2.2
  have rr := chr_R (wo := -1) hc
  have sep : ∀ b j, fitP b j → b ≠ 156 ∧ b ≠ 158 := fun b j z => by unfold fitP at z; omega
  obtain ⟨c, ec⟩ : ∃ c : Nat, (T t).2.1 = c := ⟨(T t).2.1.toNat, by omega⟩
  refine callP_of (by decide) (by decide) (Nat.le_of_ble_eq_true rfl) (wpm_of (cuts := [78, 102]) (by decide) 60 _ _ _ _ ?_)
  rw [show lM m_Model_chance = 11 from rfl]
  simp (maxSteps := 2000000) only [↓reduceIte, wp_eq, wpd_eq, kont_eq, STP1, STP2, STP3, STP4, STP5, konM_eq, AMK, CZ, Option.map, List.getElem?_cons_zero, List.getElem?_cons_succ, List.mem_cons, List.not_mem_nil, if_false, if_true, Nat.reduceAdd, Nat.reduceLT, Nat.reduceLeDiff, Nat.reduceEqDiff, true_and, and_true, List.length_nil, List.length_cons, or_true, true_or, or_false, false_or, Option.some.injEq, Sum.inl.injEq, Sum.inr.injEq, exists_eq_left', exists_eq_left, Int.reduceLE, Int.reduceLT, Int.reduceNeg, Int.reduceAdd, Int.reduceMul, Int.reduceSub, Int.reduceToNat, inR, Nat.zero_ne_one, false_and, Nat.succ_ne_zero, reduceCtorEq, false_implies, true_implies, not_false_eq_true, not_true_eq_false, Int.reduceEq, KRE, C_Model_chance, FM]
  refine (isTimber_y h0 ht).eq ?_
  try simp (maxSteps := 2000000) only [↓reduceIte, wp_eq, wpd_eq, kont_eq, STP1, STP2, STP3, STP4, STP5, konM_eq, AMK, CZ, Option.map, List.getElem?_cons_zero, List.getElem?_cons_succ, List.mem_cons, List.not_mem_nil, if_false, if_true, Nat.reduceAdd, Nat.reduceLT, Nat.reduceLeDiff, Nat.reduceEqDiff, true_and, and_true, List.length_nil, List.length_cons, or_true, true_or, or_false, false_or, Option.some.injEq, Sum.inl.injEq, Sum.inr.injEq, exists_eq_left', exists_eq_left, Int.reduceLE, Int.reduceLT, Int.reduceNeg, Int.reduceAdd, Int.reduceMul, Int.reduceSub, Int.reduceToNat, inR, Nat.zero_ne_one, false_and, Nat.succ_ne_zero, reduceCtorEq, false_implies, true_implies, not_false_eq_true, not_true_eq_false, Int.reduceEq, KRE, C_Model_chance, FM]
  repeat (first | refine ⟨by omega, ?_⟩ | refine ⟨fun _ _ => okt_nn (by omega), ?_⟩)
  try (first | (show _ ≤ _; omega) | (show _ < _; omega))
  refine (Model_isIn_ok ⟨by omega, by omega⟩ ⟨by omega, by omega⟩ ⟨by omega, by omega⟩).eq ?_
  rw [if_pos (by omega)]
  try simp (maxSteps := 2000000) only [↓reduceIte, wp_eq, wpd_eq, kont_eq, STP1, STP2, STP3, STP4, STP5, konM_eq, AMK, CZ, Option.map, List.getElem?_cons_zero, List.getElem?_cons_succ, List.mem_cons, List.not_mem_nil, if_false, if_true, Nat.reduceAdd, Nat.reduceLT, Nat.reduceLeDiff, Nat.reduceEqDiff, true_and, and_true, List.length_nil, List.length_cons, or_true, true_or, or_false, false_or, Option.some.injEq, Sum.inl.injEq, Sum.inr.injEq, exists_eq_left', exists_eq_left, Int.reduceLE, Int.reduceLT, Int.reduceNeg, Int.reduceAdd, Int.reduceMul, Int.reduceSub, Int.reduceToNat, inR, Nat.zero_ne_one, false_and, Nat.succ_ne_zero, reduceCtorEq, false_implies, true_implies, not_false_eq_true, not_true_eq_false, Int.reduceEq, KRE, C_Model_chance, FM]
  repeat (first | refine ⟨by omega, ?_⟩ | refine ⟨fun _ _ => okt_nn (by omega), ?_⟩)
  try (first | (show _ ≤ _; omega) | (show _ < _; omega))
  refine (Model_isIn_ok ⟨by omega, by omega⟩ ⟨by omega, by omega⟩ ⟨by omega, by omega⟩).eq ?_
  rw [if_pos (by omega)]
  try simp (maxSteps := 2000000) only [↓reduceIte, wp_eq, wpd_eq, kont_eq, STP1, STP2, STP3, STP4, STP5, konM_eq, AMK, CZ, Option.map, List.getElem?_cons_zero, List.getElem?_cons_succ, List.mem_cons, List.not_mem_nil, if_false, if_true, Nat.reduceAdd, Nat.reduceLT, Nat.reduceLeDiff, Nat.reduceEqDiff, true_and, and_true, List.length_nil, List.length_cons, or_true, true_or, or_false, false_or, Option.some.injEq, Sum.inl.injEq, Sum.inr.injEq, exists_eq_left', exists_eq_left, Int.reduceLE, Int.reduceLT, Int.reduceNeg, Int.reduceAdd, Int.reduceMul, Int.reduceSub, Int.reduceToNat, inR, Nat.zero_ne_one, false_and, Nat.succ_ne_zero, reduceCtorEq, false_implies, true_implies, not_false_eq_true, not_true_eq_false, Int.reduceEq, KRE, C_Model_chance, FM]
  repeat (first | refine ⟨by omega, ?_⟩ | refine ⟨fun _ _ => okt_nn (by omega), ?_⟩)
  try (first | (show _ ≤ _; omega) | (show _ < _; omega))
  refine (Model_layChronology_ok (wo := -1) h0 ⟨by omega, by omega⟩).mono (fun M1 z => ?_)
  obtain ⟨rA, -, F1⟩ := z
  have F1' : FrP fitP (mset M 154 1 0) M1 := F1.wd (fun b j z => by unfold chrP at z; unfold fitP; omega)
  have h1 := mdl_fr h0 F1' sep
  try simp (maxSteps := 2000000) only [↓reduceIte, wp_eq, wpd_eq, kont_eq, STP1, STP2, STP3, STP4, STP5, konM_eq, AMK, CZ, Option.map, List.getElem?_cons_zero, List.getElem?_cons_succ, List.mem_cons, List.not_mem_nil, if_false, if_true, Nat.reduceAdd, Nat.reduceLT, Nat.reduceLeDiff, Nat.reduceEqDiff, true_and, and_true, List.length_nil, List.length_cons, or_true, true_or, or_false, false_or, Option.some.injEq, Sum.inl.injEq, Sum.inr.injEq, exists_eq_left', exists_eq_left, Int.reduceLE, Int.reduceLT, Int.reduceNeg, Int.reduceAdd, Int.reduceMul, Int.reduceSub, Int.reduceToNat, inR, Nat.zero_ne_one, false_and, Nat.succ_ne_zero, reduceCtorEq, false_implies, true_implies, not_false_eq_true, not_true_eq_false, Int.reduceEq, KRE, C_Model_chance, FM]
  refine (Model_layB_ok h1 ht).mono (fun M2 z => ?_)
  obtain ⟨rB, F2⟩ := z
  have F2' : FrP fitP M1 M2 := F2.wd (fun b j z => by unfold layBP at z; unfold fitP; omega)
  have h2 := mdl_fr h1 F2' sep
  have rA2 : rowA M2 (chr T Y (-1) n) := rowA_cells (fun b q1 q2 j => F2 _ _ (by unfold layBP; omega)) (F2 _ _ (by unfold layBP; omega)) (F2 _ _ (by unfold layBP; omega)) rA
  try simp (maxSteps := 2000000) only [↓reduceIte, wp_eq, wpd_eq, kont_eq, STP1, STP2, STP3, STP4, STP5, konM_eq, AMK, CZ, Option.map, List.getElem?_cons_zero, List.getElem?_cons_succ, List.mem_cons, List.not_mem_nil, if_false, if_true, Nat.reduceAdd, Nat.reduceLT, Nat.reduceLeDiff, Nat.reduceEqDiff, true_and, and_true, List.length_nil, List.length_cons, or_true, true_or, or_false, false_or, Option.some.injEq, Sum.inl.injEq, Sum.inr.injEq, exists_eq_left', exists_eq_left, Int.reduceLE, Int.reduceLT, Int.reduceNeg, Int.reduceAdd, Int.reduceMul, Int.reduceSub, Int.reduceToNat, inR, Nat.zero_ne_one, false_and, Nat.succ_ne_zero, reduceCtorEq, false_implies, true_implies, not_false_eq_true, not_true_eq_false, Int.reduceEq, KRE, C_Model_chance, FM]
  refine (Model_bound_ok h2.2.2.1).eq ?_
  try simp (maxSteps := 2000000) only [↓reduceIte, wp_eq, wpd_eq, kont_eq, STP1, STP2, STP3, STP4, STP5, konM_eq, AMK, CZ, Option.map, List.getElem?_cons_zero, List.getElem?_cons_succ, List.mem_cons, List.not_mem_nil, if_false, if_true, Nat.reduceAdd, Nat.reduceLT, Nat.reduceLeDiff, Nat.reduceEqDiff, true_and, and_true, List.length_nil, List.length_cons, or_true, true_or, or_false, false_or, Option.some.injEq, Sum.inl.injEq, Sum.inr.injEq, exists_eq_left', exists_eq_left, Int.reduceLE, Int.reduceLT, Int.reduceNeg, Int.reduceAdd, Int.reduceMul, Int.reduceSub, Int.reduceToNat, inR, Nat.zero_ne_one, false_and, Nat.succ_ne_zero, reduceCtorEq, false_implies, true_implies, not_false_eq_true, not_true_eq_false, Int.reduceEq, KRE, C_Model_chance, FM]
  have hb := h2.2.2.1.1.2
  refine (Model_tellBest_ok h2.2.2.1 rA2 rB (by omega)).mono (fun M3 z => ?_)
  obtain ⟨⟨b1, b2, b3⟩, -, F3⟩ := z
  have F3' : FrP fitP M2 M3 := F3.wd (fun b j z => by unfold bestP at z; unfold fitP; omega)
  have rs := rsM_fr rsM_0 ((F1'.tr F2').tr F3') (fun b j z => by unfold fitP at z; unfold scrM; omega)
  have rA3 : rowA M3 (chr T Y (-1) n) := rowA_cells (fun b q1 q2 j => F3 _ _ (by unfold bestP; omega)) (F3 _ _ (by unfold bestP; omega)) (F3 _ _ (by unfold bestP; omega)) rA2
  have e28 : M3 154 28 = c := (F3 _ _ (by unfold bestP; omega)).trans (rB.1.trans ec)
  have h3 := mdl_fr h2 F3' sep
  have ob := okB_best (A := chr T Y (-1) n) (B := T t) (lap := lap) rr.2 (by omega)
  have si := scF_in ob
  have sb : scF (best (chr T Y (-1) n) (T t) lap) = if (best (chr T Y (-1) n) (T t) lap).1 = 0 then 0 else (best (chr T Y (-1) n) (T t) lap).2.2.1 := rfl
  rw [ec]
  have KK : WPm m_Model_chance (fun v M' => ∃ y, v = some (.inl y) ∧ y = (if w = 0 then (chcN (chr T Y (-1) n) (scF (best (chr T Y (-1) n) (T t) lap)) lap seed c m).1 else if w = 1 then (chcN (chr T Y (-1) n) (scF (best (chr T Y (-1) n) (T t) lap)) lap seed c m).2.1 else (chcN (chr T Y (-1) n) (scF (best (chr T Y (-1) n) (T t) lap)) lap seed c m).2.2) ∧ rsM M 0 M') 78 [some (.inr 154), some (.inl (t : Int)), some (.inl seed), some (.inl (m : Int)), some (.inl w), none, none, none, none, none, none] [.inl (scF (best (chr T Y (-1) n) (T t) lap))] M3 := by
    have F4 : FrP (fun b j => b = 154 ∧ (j = 66 ∨ j = 29)) M3 (mset (mset M3 154 66 seed) 154 29 0) := (FrP.rf.st ⟨rfl, Or.inl rfl⟩).st ⟨rfl, Or.inr rfl⟩
    have rA4 : rowA (mset (mset M3 154 66 seed) 154 29 0) (chr T Y (-1) n) := rowA_cells (fun b q1 q2 j => F4 _ _ (by omega)) (F4 _ _ (by omega)) (F4 _ _ (by omega)) rA3
    have G := fun x1 x2 => Model_chance_102 (x1 := x1) (x2 := x2) (a10 := none) (A := chr T Y (-1) n) (own := scF (best (chr T Y (-1) n) (T t) lap)) (seed := seed) (w := w) (m := m) (c := c) (M0 := M) (mdl_fr h3 F4 (fun b j z => by omega)) rA4 ((F4 _ _ (by omega)).trans e28) (by omega) (by omega) (by simp [mset]) (by simp [mset]) hm hw si (rsM_fr rs F4 (fun b j z => by unfold scrM; omega))
    refine wpm_of (cuts := [102]) (by decide) 60 _ _ _ _ ?_
    simp (maxSteps := 2000000) only [↓reduceIte, wp_eq, wpd_eq, kont_eq, STP1, STP2, STP3, STP4, STP5, konM_eq, AMK, CZ, Option.map, List.getElem?_cons_zero, List.getElem?_cons_succ, List.mem_cons, List.not_mem_nil, if_false, if_true, Nat.reduceAdd, Nat.reduceLT, Nat.reduceLeDiff, Nat.reduceEqDiff, true_and, and_true, List.length_nil, List.length_cons, or_true, true_or, or_false, false_or, Option.some.injEq, Sum.inl.injEq, Sum.inr.injEq, exists_eq_left', exists_eq_left, Int.reduceLE, Int.reduceLT, Int.reduceNeg, Int.reduceAdd, Int.reduceMul, Int.reduceSub, Int.reduceToNat, inR, Nat.zero_ne_one, false_and, Nat.succ_ne_zero, reduceCtorEq, false_implies, true_implies, not_false_eq_true, not_true_eq_false, Int.reduceEq, KRE, C_Model_chance, FM]
    repeat (first | refine ⟨by omega, ?_⟩ | refine ⟨fun _ _ => okt_nn (by omega), ?_⟩)
    try (first | (show _ ≤ _; omega) | (show _ < _; omega))
    exact G _ _
  rcases ob.1 with o1 | o1
  · rw [if_pos o1] at sb
    rw [o1] at b1
    rw [sb] at KK ⊢
    try simp (maxSteps := 2000000) only [↓reduceIte, wp_eq, wpd_eq, kont_eq, STP1, STP2, STP3, STP4, STP5, konM_eq, AMK, CZ, Option.map, List.getElem?_cons_zero, List.getElem?_cons_succ, List.mem_cons, List.not_mem_nil, if_false, if_true, Nat.reduceAdd, Nat.reduceLT, Nat.reduceLeDiff, Nat.reduceEqDiff, true_and, and_true, List.length_nil, List.length_cons, or_true, true_or, or_false, false_or, Option.some.injEq, Sum.inl.injEq, Sum.inr.injEq, exists_eq_left', exists_eq_left, Int.reduceLE, Int.reduceLT, Int.reduceNeg, Int.reduceAdd, Int.reduceMul, Int.reduceSub, Int.reduceToNat, inR, Nat.zero_ne_one, false_and, Nat.succ_ne_zero, reduceCtorEq, false_implies, true_implies, not_false_eq_true, not_true_eq_false, Int.reduceEq, KRE, C_Model_chance, FM, b1]
    repeat (first | refine ⟨by omega, ?_⟩ | refine ⟨fun _ _ => okt_nn (by omega), ?_⟩)
    try (first | (show _ ≤ _; omega) | (show _ < _; omega))
    exact KK
  · rw [if_neg (by omega)] at sb
    have b4 := (b3 (by omega)).2.1
    rw [o1] at b1
    have one0 := eq_false (show ¬ (1 : Int) = 0 by omega)
    rw [sb] at KK ⊢
    try simp (maxSteps := 2000000) only [↓reduceIte, wp_eq, wpd_eq, kont_eq, STP1, STP2, STP3, STP4, STP5, konM_eq, AMK, CZ, Option.map, List.getElem?_cons_zero, List.getElem?_cons_succ, List.mem_cons, List.not_mem_nil, if_false, if_true, Nat.reduceAdd, Nat.reduceLT, Nat.reduceLeDiff, Nat.reduceEqDiff, true_and, and_true, List.length_nil, List.length_cons, or_true, true_or, or_false, false_or, Option.some.injEq, Sum.inl.injEq, Sum.inr.injEq, exists_eq_left', exists_eq_left, Int.reduceLE, Int.reduceLT, Int.reduceNeg, Int.reduceAdd, Int.reduceMul, Int.reduceSub, Int.reduceToNat, inR, Nat.zero_ne_one, false_and, Nat.succ_ne_zero, reduceCtorEq, false_implies, true_implies, not_false_eq_true, not_true_eq_false, Int.reduceEq, KRE, C_Model_chance, FM, b1, b4, one0]
    repeat (first | refine ⟨by omega, ?_⟩ | refine ⟨fun _ _ => okt_nn (by omega), ?_⟩)
    try (first | (show _ ≤ _; omega) | (show _ < _; omega))
    exact KK
set_option maxHeartbeats 600000 in
set_option maxRecDepth 20000 in
theorem Mchance_x {t seed m w : Int} (h : mdl M n T Y lap bnd mrg) (ht : inR t) (hw : inR w) (hx : ¬ (0 ≤ t ∧ t < n) ∨ w < 0 ∨ 2 < w) : CallI m_Model_chance [.inr 154, .inl t, .inl seed, .inl m, .inl w] M (fun _ M' => rsM M 1 M') := by
  have h0 : mdl (mset M 154 1 0) n T Y lap bnd mrg := mdl_fr h scr_0 scr_mdl
  have F := (Model_fail_ok (k := 1) (M := mset M 154 1 0)).eq (G := fun x M' => rsM M 1 M') (rsM_fail rsM_0)
  refine callP_of (by decide) (by decide) (Nat.le_of_ble_eq_true rfl) (wpm_of (cuts := [45]) (by decide) 60 _ _ _ _ ?_)
  rw [show lM m_Model_chance = 11 from rfl]
  simp (maxSteps := 2000000) only [↓reduceIte, wp_eq, wpd_eq, kont_eq, STP1, STP2, STP3, STP4, STP5, konM_eq, AMK, CZ, Option.map, List.getElem?_cons_zero, List.getElem?_cons_succ, List.mem_cons, List.not_mem_nil, if_false, if_true, Nat.reduceAdd, Nat.reduceLT, Nat.reduceLeDiff, Nat.reduceEqDiff, true_and, and_true, List.length_nil, List.length_cons, or_true, true_or, or_false, false_or, Option.some.injEq, Sum.inl.injEq, Sum.inr.injEq, exists_eq_left', exists_eq_left, Int.reduceLE, Int.reduceLT, Int.reduceNeg, Int.reduceAdd, Int.reduceMul, Int.reduceSub, Int.reduceToNat, inR, Nat.zero_ne_one, false_and, Nat.succ_ne_zero, reduceCtorEq, false_implies, true_implies, not_false_eq_true, not_true_eq_false, Int.reduceEq, KRE, C_Model_chance, FM]
  refine (Model_isTimber_ok h0 ht).eq ?_
  by_cases c1 : 0 ≤ t ∧ t < n
  · rw [if_pos c1]
    try simp (maxSteps := 2000000) only [↓reduceIte, wp_eq, wpd_eq, kont_eq, STP1, STP2, STP3, STP4, STP5, konM_eq, AMK, CZ, Option.map, List.getElem?_cons_zero, List.getElem?_cons_succ, List.mem_cons, List.not_mem_nil, if_false, if_true, Nat.reduceAdd, Nat.reduceLT, Nat.reduceLeDiff, Nat.reduceEqDiff, true_and, and_true, List.length_nil, List.length_cons, or_true, true_or, or_false, false_or, Option.some.injEq, Sum.inl.injEq, Sum.inr.injEq, exists_eq_left', exists_eq_left, Int.reduceLE, Int.reduceLT, Int.reduceNeg, Int.reduceAdd, Int.reduceMul, Int.reduceSub, Int.reduceToNat, inR, Nat.zero_ne_one, false_and, Nat.succ_ne_zero, reduceCtorEq, false_implies, true_implies, not_false_eq_true, not_true_eq_false, Int.reduceEq, KRE, C_Model_chance, FM]
    repeat (first | refine ⟨by omega, ?_⟩ | refine ⟨fun _ _ => okt_nn (by omega), ?_⟩)
    try (first | (show _ ≤ _; omega) | (show _ < _; omega))
    refine (Model_isIn_ok hw ⟨by omega, by omega⟩ ⟨by omega, by omega⟩).eq ?_
    rw [if_neg (by omega)]
    try simp (maxSteps := 2000000) only [↓reduceIte, wp_eq, wpd_eq, kont_eq, STP1, STP2, STP3, STP4, STP5, konM_eq, AMK, CZ, Option.map, List.getElem?_cons_zero, List.getElem?_cons_succ, List.mem_cons, List.not_mem_nil, if_false, if_true, Nat.reduceAdd, Nat.reduceLT, Nat.reduceLeDiff, Nat.reduceEqDiff, true_and, and_true, List.length_nil, List.length_cons, or_true, true_or, or_false, false_or, Option.some.injEq, Sum.inl.injEq, Sum.inr.injEq, exists_eq_left', exists_eq_left, Int.reduceLE, Int.reduceLT, Int.reduceNeg, Int.reduceAdd, Int.reduceMul, Int.reduceSub, Int.reduceToNat, inR, Nat.zero_ne_one, false_and, Nat.succ_ne_zero, reduceCtorEq, false_implies, true_implies, not_false_eq_true, not_true_eq_false, Int.reduceEq, KRE, C_Model_chance, FM]
    repeat (first | refine ⟨by omega, ?_⟩ | refine ⟨fun _ _ => okt_nn (by omega), ?_⟩)
    try (first | (show _ ≤ _; omega) | (show _ < _; omega))
    exact F
  · rw [if_neg c1]
    try simp (maxSteps := 2000000) only [↓reduceIte, wp_eq, wpd_eq, kont_eq, STP1, STP2, STP3, STP4, STP5, konM_eq, AMK, CZ, Option.map, List.getElem?_cons_zero, List.getElem?_cons_succ, List.mem_cons, List.not_mem_nil, if_false, if_true, Nat.reduceAdd, Nat.reduceLT, Nat.reduceLeDiff, Nat.reduceEqDiff, true_and, and_true, List.length_nil, List.length_cons, or_true, true_or, or_false, false_or, Option.some.injEq, Sum.inl.injEq, Sum.inr.injEq, exists_eq_left', exists_eq_left, Int.reduceLE, Int.reduceLT, Int.reduceNeg, Int.reduceAdd, Int.reduceMul, Int.reduceSub, Int.reduceToNat, inR, Nat.zero_ne_one, false_and, Nat.succ_ne_zero, reduceCtorEq, false_implies, true_implies, not_false_eq_true, not_true_eq_false, Int.reduceEq, KRE, C_Model_chance, FM]
    repeat (first | refine ⟨by omega, ?_⟩ | refine ⟨fun _ _ => okt_nn (by omega), ?_⟩)
    try (first | (show _ ≤ _; omega) | (show _ < _; omega))
    exact F
set_option maxHeartbeats 600000 in
set_option maxRecDepth 20000 in
theorem Mchance_y {t seed m w : Int} (h : mdl M n T Y lap bnd mrg) (ht : 0 ≤ t ∧ t < n) (hm : inR m) (hw : 0 ≤ w ∧ w ≤ 2) (hx : m < 0 ∨ 40 < m) : CallI m_Model_chance [.inr 154, .inl t, .inl seed, .inl m, .inl w] M (fun _ M' => rsM M 2 M') := by
  have h0 : mdl (mset M 154 1 0) n T Y lap bnd mrg := mdl_fr h scr_0 scr_mdl
  have n8 := h.1.2
  have F := (Model_fail_ok (k := 2) (M := mset M 154 1 0)).eq (G := fun x M' => rsM M 2 M') (rsM_fail rsM_0)
  refine callP_of (by decide) (by decide) (Nat.le_of_ble_eq_true rfl) (wpm_of (cuts := [45]) (by decide) 60 _ _ _ _ ?_)
  rw [show lM m_Model_chance = 11 from rfl]
  simp (maxSteps := 2000000) only [↓reduceIte, wp_eq, wpd_eq, kont_eq, STP1, STP2, STP3, STP4, STP5, konM_eq, AMK, CZ, Option.map, List.getElem?_cons_zero, List.getElem?_cons_succ, List.mem_cons, List.not_mem_nil, if_false, if_true, Nat.reduceAdd, Nat.reduceLT, Nat.reduceLeDiff, Nat.reduceEqDiff, true_and, and_true, List.length_nil, List.length_cons, or_true, true_or, or_false, false_or, Option.some.injEq, Sum.inl.injEq, Sum.inr.injEq, exists_eq_left', exists_eq_left, Int.reduceLE, Int.reduceLT, Int.reduceNeg, Int.reduceAdd, Int.reduceMul, Int.reduceSub, Int.reduceToNat, inR, Nat.zero_ne_one, false_and, Nat.succ_ne_zero, reduceCtorEq, false_implies, true_implies, not_false_eq_true, not_true_eq_false, Int.reduceEq, KRE, C_Model_chance, FM]
  refine (Model_isTimber_ok h0 ⟨by omega, by omega⟩).eq ?_
  rw [if_pos ht]
  try simp (maxSteps := 2000000) only [↓reduceIte, wp_eq, wpd_eq, kont_eq, STP1, STP2, STP3, STP4, STP5, konM_eq, AMK, CZ, Option.map, List.getElem?_cons_zero, List.getElem?_cons_succ, List.mem_cons, List.not_mem_nil, if_false, if_true, Nat.reduceAdd, Nat.reduceLT, Nat.reduceLeDiff, Nat.reduceEqDiff, true_and, and_true, List.length_nil, List.length_cons, or_true, true_or, or_false, false_or, Option.some.injEq, Sum.inl.injEq, Sum.inr.injEq, exists_eq_left', exists_eq_left, Int.reduceLE, Int.reduceLT, Int.reduceNeg, Int.reduceAdd, Int.reduceMul, Int.reduceSub, Int.reduceToNat, inR, Nat.zero_ne_one, false_and, Nat.succ_ne_zero, reduceCtorEq, false_implies, true_implies, not_false_eq_true, not_true_eq_false, Int.reduceEq, KRE, C_Model_chance, FM]
  repeat (first | refine ⟨by omega, ?_⟩ | refine ⟨fun _ _ => okt_nn (by omega), ?_⟩)
  try (first | (show _ ≤ _; omega) | (show _ < _; omega))
  refine (Model_isIn_ok ⟨by omega, by omega⟩ ⟨by omega, by omega⟩ ⟨by omega, by omega⟩).eq ?_
  rw [if_pos (by omega)]
  try simp (maxSteps := 2000000) only [↓reduceIte, wp_eq, wpd_eq, kont_eq, STP1, STP2, STP3, STP4, STP5, konM_eq, AMK, CZ, Option.map, List.getElem?_cons_zero, List.getElem?_cons_succ, List.mem_cons, List.not_mem_nil, if_false, if_true, Nat.reduceAdd, Nat.reduceLT, Nat.reduceLeDiff, Nat.reduceEqDiff, true_and, and_true, List.length_nil, List.length_cons, or_true, true_or, or_false, false_or, Option.some.injEq, Sum.inl.injEq, Sum.inr.injEq, exists_eq_left', exists_eq_left, Int.reduceLE, Int.reduceLT, Int.reduceNeg, Int.reduceAdd, Int.reduceMul, Int.reduceSub, Int.reduceToNat, inR, Nat.zero_ne_one, false_and, Nat.succ_ne_zero, reduceCtorEq, false_implies, true_implies, not_false_eq_true, not_true_eq_false, Int.reduceEq, KRE, C_Model_chance, FM]
  repeat (first | refine ⟨by omega, ?_⟩ | refine ⟨fun _ _ => okt_nn (by omega), ?_⟩)
  try (first | (show _ ≤ _; omega) | (show _ < _; omega))
  refine (Model_isIn_ok hm ⟨by omega, by omega⟩ ⟨by omega, by omega⟩).eq ?_
  rw [if_neg (by omega)]
  try simp (maxSteps := 2000000) only [↓reduceIte, wp_eq, wpd_eq, kont_eq, STP1, STP2, STP3, STP4, STP5, konM_eq, AMK, CZ, Option.map, List.getElem?_cons_zero, List.getElem?_cons_succ, List.mem_cons, List.not_mem_nil, if_false, if_true, Nat.reduceAdd, Nat.reduceLT, Nat.reduceLeDiff, Nat.reduceEqDiff, true_and, and_true, List.length_nil, List.length_cons, or_true, true_or, or_false, false_or, Option.some.injEq, Sum.inl.injEq, Sum.inr.injEq, exists_eq_left', exists_eq_left, Int.reduceLE, Int.reduceLT, Int.reduceNeg, Int.reduceAdd, Int.reduceMul, Int.reduceSub, Int.reduceToNat, inR, Nat.zero_ne_one, false_and, Nat.succ_ne_zero, reduceCtorEq, false_implies, true_implies, not_false_eq_true, not_true_eq_false, Int.reduceEq, KRE, C_Model_chance, FM]
  repeat (first | refine ⟨by omega, ?_⟩ | refine ⟨fun _ _ => okt_nn (by omega), ?_⟩)
  try (first | (show _ ≤ _; omega) | (show _ < _; omega))
  exact F
/-- an image: rows copied -/
def mImg (M : Mm) : Mm := mCpR (mCpR (mCpR (mCpR (mCpR (mset (mset (mset M 154 69 1) 154 70 (M 154 58)) 154 71 (M 154 60)) 186 158 240) 187 181 9600) 188 182 8) 189 183 8) 190 160 3
def mRst (M : Mm) : Mm := mCpR (mCpR (mCpR (mCpR (mCpR (mset (mset M 154 58 (M 154 70)) 154 60 (M 154 71)) 158 186 240) 181 187 9600) 182 188 8) 183 189 8) 160 190 3
set_option maxHeartbeats 600000 in
set_option maxRecDepth 20000 in
theorem Mimage_ok : CallV m_Model_image [.inr 154] M (fun M' => M' = mImg (c0M M)) := by
  have e1 : mset (mset M 154 1 0) 154 69 1 154 58 = M 154 58 := by simp [mset]
  have e2 : ∀ v, mset (mset (mset M 154 1 0) 154 69 1) 154 70 v 154 60 = M 154 60 := fun v => by simp [mset]
  have e3 : c0M M 154 58 = M 154 58 := by simp [mset]
  have e4 : c0M M 154 60 = M 154 60 := by simp [mset]
  unfold mImg
  rw [e3, e4]
  refine callP_of (by decide) (by decide) (Nat.le_of_ble_eq_true rfl) (wpm_of (cuts := []) (by decide) 60 _ _ _ _ ?_)
  rw [show lM m_Model_image = 1 from rfl]
  simp (maxSteps := 2000000) only [↓reduceIte, wp_eq, wpd_eq, kont_eq, STP1, STP2, STP3, STP4, STP5, konM_eq, AMK, CZ, Option.map, List.getElem?_cons_zero, List.getElem?_cons_succ, List.mem_cons, List.not_mem_nil, if_false, if_true, Nat.reduceAdd, Nat.reduceLT, Nat.reduceLeDiff, Nat.reduceEqDiff, true_and, and_true, List.length_nil, List.length_cons, or_true, true_or, or_false, false_or, Option.some.injEq, Sum.inl.injEq, Sum.inr.injEq, exists_eq_left', exists_eq_left, Int.reduceLE, Int.reduceLT, Int.reduceNeg, Int.reduceAdd, Int.reduceMul, Int.reduceSub, Int.reduceToNat, inR, Nat.zero_ne_one, false_and, Nat.succ_ne_zero, reduceCtorEq, false_implies, true_implies, not_false_eq_true, not_true_eq_false, Int.reduceEq, KRE, C_Model_image, FM, e1, e2]
  refine (Model_copyTo_ok (a := 186) (f := 158) (n := 240) (by simp only [FM]) (by simp only [FM]) (by omega) (by omega)).eq ?_
  try simp (maxSteps := 2000000) only [↓reduceIte, wp_eq, wpd_eq, kont_eq, STP1, STP2, STP3, STP4, STP5, konM_eq, AMK, CZ, Option.map, List.getElem?_cons_zero, List.getElem?_cons_succ, List.mem_cons, List.not_mem_nil, if_false, if_true, Nat.reduceAdd, Nat.reduceLT, Nat.reduceLeDiff, Nat.reduceEqDiff, true_and, and_true, List.length_nil, List.length_cons, or_true, true_or, or_false, false_or, Option.some.injEq, Sum.inl.injEq, Sum.inr.injEq, exists_eq_left', exists_eq_left, Int.reduceLE, Int.reduceLT, Int.reduceNeg, Int.reduceAdd, Int.reduceMul, Int.reduceSub, Int.reduceToNat, inR, Nat.zero_ne_one, false_and, Nat.succ_ne_zero, reduceCtorEq, false_implies, true_implies, not_false_eq_true, not_true_eq_false, Int.reduceEq, KRE, C_Model_image, FM]
  refine (Model_copyTo_ok (a := 187) (f := 181) (n := 9600) (by simp only [FM]) (by simp only [FM]) (by omega) (by omega)).eq ?_
  try simp (maxSteps := 2000000) only [↓reduceIte, wp_eq, wpd_eq, kont_eq, STP1, STP2, STP3, STP4, STP5, konM_eq, AMK, CZ, Option.map, List.getElem?_cons_zero, List.getElem?_cons_succ, List.mem_cons, List.not_mem_nil, if_false, if_true, Nat.reduceAdd, Nat.reduceLT, Nat.reduceLeDiff, Nat.reduceEqDiff, true_and, and_true, List.length_nil, List.length_cons, or_true, true_or, or_false, false_or, Option.some.injEq, Sum.inl.injEq, Sum.inr.injEq, exists_eq_left', exists_eq_left, Int.reduceLE, Int.reduceLT, Int.reduceNeg, Int.reduceAdd, Int.reduceMul, Int.reduceSub, Int.reduceToNat, inR, Nat.zero_ne_one, false_and, Nat.succ_ne_zero, reduceCtorEq, false_implies, true_implies, not_false_eq_true, not_true_eq_false, Int.reduceEq, KRE, C_Model_image, FM]
  refine (Model_copyTo_ok (a := 188) (f := 182) (n := 8) (by simp only [FM]) (by simp only [FM]) (by omega) (by omega)).eq ?_
  try simp (maxSteps := 2000000) only [↓reduceIte, wp_eq, wpd_eq, kont_eq, STP1, STP2, STP3, STP4, STP5, konM_eq, AMK, CZ, Option.map, List.getElem?_cons_zero, List.getElem?_cons_succ, List.mem_cons, List.not_mem_nil, if_false, if_true, Nat.reduceAdd, Nat.reduceLT, Nat.reduceLeDiff, Nat.reduceEqDiff, true_and, and_true, List.length_nil, List.length_cons, or_true, true_or, or_false, false_or, Option.some.injEq, Sum.inl.injEq, Sum.inr.injEq, exists_eq_left', exists_eq_left, Int.reduceLE, Int.reduceLT, Int.reduceNeg, Int.reduceAdd, Int.reduceMul, Int.reduceSub, Int.reduceToNat, inR, Nat.zero_ne_one, false_and, Nat.succ_ne_zero, reduceCtorEq, false_implies, true_implies, not_false_eq_true, not_true_eq_false, Int.reduceEq, KRE, C_Model_image, FM]
  refine (Model_copyTo_ok (a := 189) (f := 183) (n := 8) (by simp only [FM]) (by simp only [FM]) (by omega) (by omega)).eq ?_
  try simp (maxSteps := 2000000) only [↓reduceIte, wp_eq, wpd_eq, kont_eq, STP1, STP2, STP3, STP4, STP5, konM_eq, AMK, CZ, Option.map, List.getElem?_cons_zero, List.getElem?_cons_succ, List.mem_cons, List.not_mem_nil, if_false, if_true, Nat.reduceAdd, Nat.reduceLT, Nat.reduceLeDiff, Nat.reduceEqDiff, true_and, and_true, List.length_nil, List.length_cons, or_true, true_or, or_false, false_or, Option.some.injEq, Sum.inl.injEq, Sum.inr.injEq, exists_eq_left', exists_eq_left, Int.reduceLE, Int.reduceLT, Int.reduceNeg, Int.reduceAdd, Int.reduceMul, Int.reduceSub, Int.reduceToNat, inR, Nat.zero_ne_one, false_and, Nat.succ_ne_zero, reduceCtorEq, false_implies, true_implies, not_false_eq_true, not_true_eq_false, Int.reduceEq, KRE, C_Model_image, FM]
  refine (Model_copyTo_ok (a := 190) (f := 160) (n := 3) (by simp only [FM]) (by simp only [FM]) (by omega) (by omega)).eq ?_
  try simp (maxSteps := 2000000) only [↓reduceIte, wp_eq, wpd_eq, kont_eq, STP1, STP2, STP3, STP4, STP5, konM_eq, AMK, CZ, Option.map, List.getElem?_cons_zero, List.getElem?_cons_succ, List.mem_cons, List.not_mem_nil, if_false, if_true, Nat.reduceAdd, Nat.reduceLT, Nat.reduceLeDiff, Nat.reduceEqDiff, true_and, and_true, List.length_nil, List.length_cons, or_true, true_or, or_false, false_or, Option.some.injEq, Sum.inl.injEq, Sum.inr.injEq, exists_eq_left', exists_eq_left, Int.reduceLE, Int.reduceLT, Int.reduceNeg, Int.reduceAdd, Int.reduceMul, Int.reduceSub, Int.reduceToNat, inR, Nat.zero_ne_one, false_and, Nat.succ_ne_zero, reduceCtorEq, false_implies, true_implies, not_false_eq_true, not_true_eq_false, Int.reduceEq, KRE, C_Model_image, FM]
set_option maxHeartbeats 600000 in
set_option maxRecDepth 20000 in
theorem Mrestore_no (h : M 154 69 = 0) : CallI m_Model_restore [.inr 154] M (fun x M' => x = 0 ∧ M' = c0M M) := by
  have e1 : mset M 154 1 0 154 69 = 0 := by rw [← h]; simp [mset]
  refine callP_of (by decide) (by decide) (Nat.le_of_ble_eq_true rfl) (wpm_of (cuts := []) (by decide) 60 _ _ _ _ ?_)
  rw [show lM m_Model_restore = 1 from rfl]
  simp (maxSteps := 2000000) only [↓reduceIte, wp_eq, wpd_eq, kont_eq, STP1, STP2, STP3, STP4, STP5, konM_eq, AMK, CZ, Option.map, List.getElem?_cons_zero, List.getElem?_cons_succ, List.mem_cons, List.not_mem_nil, if_false, if_true, Nat.reduceAdd, Nat.reduceLT, Nat.reduceLeDiff, Nat.reduceEqDiff, true_and, and_true, List.length_nil, List.length_cons, or_true, true_or, or_false, false_or, Option.some.injEq, Sum.inl.injEq, Sum.inr.injEq, exists_eq_left', exists_eq_left, Int.reduceLE, Int.reduceLT, Int.reduceNeg, Int.reduceAdd, Int.reduceMul, Int.reduceSub, Int.reduceToNat, inR, Nat.zero_ne_one, false_and, Nat.succ_ne_zero, reduceCtorEq, false_implies, true_implies, not_false_eq_true, not_true_eq_false, Int.reduceEq, KRE, C_Model_restore, FM, e1]
  repeat (first | refine ⟨by omega, ?_⟩ | refine ⟨fun _ _ => okt_nn (by omega), ?_⟩)
  try (first | (show _ ≤ _; omega) | (show _ < _; omega))
set_option maxHeartbeats 600000 in
set_option maxRecDepth 20000 in
theorem Mrestore_ok (h : M 154 69 = 1) : CallI m_Model_restore [.inr 154] M (fun x M' => x = 1 ∧ M' = mRst (c0M M)) := by
  have e0 : mset M 154 1 0 154 69 = 1 := by rw [← h]; simp [mset]
  have one0 := eq_false (show ¬ (1 : Int) = 0 by omega)
  have e1 : mset M 154 1 0 154 70 = M 154 70 := by simp [mset]
  have e2 : ∀ v, mset (mset M 154 1 0) 154 58 v 154 71 = M 154 71 := fun v => by simp [mset]
  have e3 : c0M M 154 70 = M 154 70 := by simp [mset]
  have e4 : c0M M 154 71 = M 154 71 := by simp [mset]
  unfold mRst
  rw [e3, e4]
  refine callP_of (by decide) (by decide) (Nat.le_of_ble_eq_true rfl) (wpm_of (cuts := []) (by decide) 60 _ _ _ _ ?_)
  rw [show lM m_Model_restore = 1 from rfl]
  simp (maxSteps := 2000000) only [↓reduceIte, wp_eq, wpd_eq, kont_eq, STP1, STP2, STP3, STP4, STP5, konM_eq, AMK, CZ, Option.map, List.getElem?_cons_zero, List.getElem?_cons_succ, List.mem_cons, List.not_mem_nil, if_false, if_true, Nat.reduceAdd, Nat.reduceLT, Nat.reduceLeDiff, Nat.reduceEqDiff, true_and, and_true, List.length_nil, List.length_cons, or_true, true_or, or_false, false_or, Option.some.injEq, Sum.inl.injEq, Sum.inr.injEq, exists_eq_left', exists_eq_left, Int.reduceLE, Int.reduceLT, Int.reduceNeg, Int.reduceAdd, Int.reduceMul, Int.reduceSub, Int.reduceToNat, inR, Nat.zero_ne_one, false_and, Nat.succ_ne_zero, reduceCtorEq, false_implies, true_implies, not_false_eq_true, not_true_eq_false, Int.reduceEq, KRE, C_Model_restore, FM, e0, one0, e1, e2]
  repeat (first | refine ⟨by omega, ?_⟩ | refine ⟨fun _ _ => okt_nn (by omega), ?_⟩)
  try (first | (show _ ≤ _; omega) | (show _ < _; omega))
  refine (Model_copyTo_ok (a := 158) (f := 186) (n := 240) (by simp only [FM]) (by simp only [FM]) (by omega) (by omega)).eq ?_
  try simp (maxSteps := 2000000) only [↓reduceIte, wp_eq, wpd_eq, kont_eq, STP1, STP2, STP3, STP4, STP5, konM_eq, AMK, CZ, Option.map, List.getElem?_cons_zero, List.getElem?_cons_succ, List.mem_cons, List.not_mem_nil, if_false, if_true, Nat.reduceAdd, Nat.reduceLT, Nat.reduceLeDiff, Nat.reduceEqDiff, true_and, and_true, List.length_nil, List.length_cons, or_true, true_or, or_false, false_or, Option.some.injEq, Sum.inl.injEq, Sum.inr.injEq, exists_eq_left', exists_eq_left, Int.reduceLE, Int.reduceLT, Int.reduceNeg, Int.reduceAdd, Int.reduceMul, Int.reduceSub, Int.reduceToNat, inR, Nat.zero_ne_one, false_and, Nat.succ_ne_zero, reduceCtorEq, false_implies, true_implies, not_false_eq_true, not_true_eq_false, Int.reduceEq, KRE, C_Model_restore, FM]
  refine (Model_copyTo_ok (a := 181) (f := 187) (n := 9600) (by simp only [FM]) (by simp only [FM]) (by omega) (by omega)).eq ?_
  try simp (maxSteps := 2000000) only [↓reduceIte, wp_eq, wpd_eq, kont_eq, STP1, STP2, STP3, STP4, STP5, konM_eq, AMK, CZ, Option.map, List.getElem?_cons_zero, List.getElem?_cons_succ, List.mem_cons, List.not_mem_nil, if_false, if_true, Nat.reduceAdd, Nat.reduceLT, Nat.reduceLeDiff, Nat.reduceEqDiff, true_and, and_true, List.length_nil, List.length_cons, or_true, true_or, or_false, false_or, Option.some.injEq, Sum.inl.injEq, Sum.inr.injEq, exists_eq_left', exists_eq_left, Int.reduceLE, Int.reduceLT, Int.reduceNeg, Int.reduceAdd, Int.reduceMul, Int.reduceSub, Int.reduceToNat, inR, Nat.zero_ne_one, false_and, Nat.succ_ne_zero, reduceCtorEq, false_implies, true_implies, not_false_eq_true, not_true_eq_false, Int.reduceEq, KRE, C_Model_restore, FM]
  refine (Model_copyTo_ok (a := 182) (f := 188) (n := 8) (by simp only [FM]) (by simp only [FM]) (by omega) (by omega)).eq ?_
  try simp (maxSteps := 2000000) only [↓reduceIte, wp_eq, wpd_eq, kont_eq, STP1, STP2, STP3, STP4, STP5, konM_eq, AMK, CZ, Option.map, List.getElem?_cons_zero, List.getElem?_cons_succ, List.mem_cons, List.not_mem_nil, if_false, if_true, Nat.reduceAdd, Nat.reduceLT, Nat.reduceLeDiff, Nat.reduceEqDiff, true_and, and_true, List.length_nil, List.length_cons, or_true, true_or, or_false, false_or, Option.some.injEq, Sum.inl.injEq, Sum.inr.injEq, exists_eq_left', exists_eq_left, Int.reduceLE, Int.reduceLT, Int.reduceNeg, Int.reduceAdd, Int.reduceMul, Int.reduceSub, Int.reduceToNat, inR, Nat.zero_ne_one, false_and, Nat.succ_ne_zero, reduceCtorEq, false_implies, true_implies, not_false_eq_true, not_true_eq_false, Int.reduceEq, KRE, C_Model_restore, FM]
  refine (Model_copyTo_ok (a := 183) (f := 189) (n := 8) (by simp only [FM]) (by simp only [FM]) (by omega) (by omega)).eq ?_
  try simp (maxSteps := 2000000) only [↓reduceIte, wp_eq, wpd_eq, kont_eq, STP1, STP2, STP3, STP4, STP5, konM_eq, AMK, CZ, Option.map, List.getElem?_cons_zero, List.getElem?_cons_succ, List.mem_cons, List.not_mem_nil, if_false, if_true, Nat.reduceAdd, Nat.reduceLT, Nat.reduceLeDiff, Nat.reduceEqDiff, true_and, and_true, List.length_nil, List.length_cons, or_true, true_or, or_false, false_or, Option.some.injEq, Sum.inl.injEq, Sum.inr.injEq, exists_eq_left', exists_eq_left, Int.reduceLE, Int.reduceLT, Int.reduceNeg, Int.reduceAdd, Int.reduceMul, Int.reduceSub, Int.reduceToNat, inR, Nat.zero_ne_one, false_and, Nat.succ_ne_zero, reduceCtorEq, false_implies, true_implies, not_false_eq_true, not_true_eq_false, Int.reduceEq, KRE, C_Model_restore, FM]
  refine (Model_copyTo_ok (a := 160) (f := 190) (n := 3) (by simp only [FM]) (by simp only [FM]) (by omega) (by omega)).eq ?_
  try simp (maxSteps := 2000000) only [↓reduceIte, wp_eq, wpd_eq, kont_eq, STP1, STP2, STP3, STP4, STP5, konM_eq, AMK, CZ, Option.map, List.getElem?_cons_zero, List.getElem?_cons_succ, List.mem_cons, List.not_mem_nil, if_false, if_true, Nat.reduceAdd, Nat.reduceLT, Nat.reduceLeDiff, Nat.reduceEqDiff, true_and, and_true, List.length_nil, List.length_cons, or_true, true_or, or_false, false_or, Option.some.injEq, Sum.inl.injEq, Sum.inr.injEq, exists_eq_left', exists_eq_left, Int.reduceLE, Int.reduceLT, Int.reduceNeg, Int.reduceAdd, Int.reduceMul, Int.reduceSub, Int.reduceToNat, inR, Nat.zero_ne_one, false_and, Nat.succ_ne_zero, reduceCtorEq, false_implies, true_implies, not_false_eq_true, not_true_eq_false, Int.reduceEq, KRE, C_Model_restore, FM]
/-- bytes of a word: the sign bit is not among them -/
theorem btI_ushr {k : Nat} (hk : k < 32) (x : Int) (i : Nat) : btI (bUshr x k) i = btI x (k + i) := by
  unfold btI bUshr
  rw [iN_ti, iN_nat]
  exact b_ushr k hk (iN x) i
theorem bUshr_in (x y : Int) : inR (bUshr x y) := by
  unfold bUshr
  have h1 := Int32.le_toInt ((((iN x).toUInt32 >>> ((iN y).toUInt32 &&& Int32.toUInt32 31)).toInt32))
  have h2 := Int32.toInt_lt ((((iN x).toUInt32 >>> ((iN y).toUInt32 &&& Int32.toUInt32 31)).toInt32))
  exact ⟨by omega, by omega⟩
theorem btI_255 (i : Nat) : btI 255 i = decide (i < 8) := b_255 i
theorem shr_byte (x : Int) {k : Nat} (hk : k ≤ 24) : bAnd (bShr x k) 255 = bAnd (bUshr x k) 255 := by
  refine btI_ext (bAnd_in _ _) (bAnd_in _ _) (fun i hi => ?_)
  rw [btI_and, btI_and, btI_255, btI_shr (by omega) _ hi, btI_ushr (by omega)]
  by_cases c : i < 8
  · rw [if_pos (by omega)]
  · simp [c]
def mFeedM (M : Mm) (L : Nat) (f : Nat → Int) (k : Nat) : Mm := fun b j => if b = 161 ∧ L ≤ j ∧ j < L + k then f (j - L) else if b = 154 ∧ j = 8 then (L + k : Nat) else M b j
theorem mFeedM_s {L k : Nat} {f : Nat → Int} : mset (mset (mFeedM M L f k) 161 (L + k) (f k)) 154 8 ((L : Int) + k + 1) = mFeedM M L f (k + 1) := by
  funext b j
  show (if b = 154 ∧ j = 8 then (L : Int) + k + 1 else if b = 161 ∧ j = L + k then f k else if b = 161 ∧ L ≤ j ∧ j < L + k then f (j - L) else if b = 154 ∧ j = 8 then ((L + k : Nat) : Int) else M b j) = (if b = 161 ∧ L ≤ j ∧ j < L + (k + 1) then f (j - L) else if b = 154 ∧ j = 8 then ((L + (k + 1) : Nat) : Int) else M b j)
  by_cases h0 : b = 154 ∧ j = 8
  · rw [if_pos h0, if_neg (by omega), if_pos h0]
    omega
  · rw [if_neg h0, if_neg h0, if_neg h0]
    by_cases h1 : b = 161 ∧ j = L + k
    · rw [if_pos h1, if_pos (by omega)]
      congr 1
      omega
    · rw [if_neg h1]
      exact if_cg (by omega) rfl rfl
set_option maxHeartbeats 600000 in
set_option maxRecDepth 20000 in
theorem Mfeed_ok {L : Nat} {a b c d e : Int} (hL : M 154 8 = L) (h : L + 20 ≤ 900) : CallI m_Model_feed [.inr 154, .inl a, .inl b, .inl c, .inl d, .inl e] M (fun x M' => x = (L + 20 : Nat) ∧ M' = mFeedM (c0M M) L (b20 a b c d e) 20) := by
  have e8 : mset M 154 1 0 154 8 = L := by rw [← hL]; simp [mset]
  have c0 := eq_true (show (L : Int) + 20 ≤ 900 by omega)
  refine callP_of (by decide) (by decide) (Nat.le_of_ble_eq_true rfl) (wpm_of (cuts := [23]) (by decide) 60 _ _ _ _ ?_)
  rw [show lM m_Model_feed = 8 from rfl]
  simp (maxSteps := 2000000) only [↓reduceIte, wp_eq, wpd_eq, kont_eq, STP1, STP2, STP3, STP4, STP5, konM_eq, AMK, CZ, Option.map, List.getElem?_cons_zero, List.getElem?_cons_succ, List.mem_cons, List.not_mem_nil, if_false, if_true, Nat.reduceAdd, Nat.reduceLT, Nat.reduceLeDiff, Nat.reduceEqDiff, true_and, and_true, List.length_nil, List.length_cons, or_true, true_or, or_false, false_or, Option.some.injEq, Sum.inl.injEq, Sum.inr.injEq, exists_eq_left', exists_eq_left, Int.reduceLE, Int.reduceLT, Int.reduceNeg, Int.reduceAdd, Int.reduceMul, Int.reduceSub, Int.reduceToNat, inR, Nat.zero_ne_one, false_and, Nat.succ_ne_zero, reduceCtorEq, false_implies, true_implies, not_false_eq_true, not_true_eq_false, Int.reduceEq, KRE, C_Model_feed, FM, e8, c0]
  repeat (first | refine ⟨by omega, ?_⟩ | refine ⟨fun _ _ => okt_nn (by omega), ?_⟩)
  try (first | (show _ ≤ _; omega) | (show _ < _; omega))
  refine loopQ 20 (fun k ls M1 => M1 = mFeedM (c0M M) L (b20 a b c d e) k ∧ ∃ a7, ls = [some (.inr 154), some (.inl a), some (.inl b), some (.inl c), some (.inl d), some (.inl e), some (.inl (k : Int)), a7]) ?_ _ _ ⟨?_, none, rfl⟩
  · rintro k _ _ hk ⟨rfl, a7, rfl⟩ K
    have e81 : mFeedM (c0M M) L (b20 a b c d e) k 154 8 = (L : Int) + k := by
      show (if 154 = 161 ∧ L ≤ 8 ∧ 8 < L + k then _ else if 154 = 154 ∧ 8 = 8 then ((L + k : Nat) : Int) else _) = _
      rw [if_neg (by omega), if_pos ⟨rfl, rfl⟩]
      omega
    by_cases ck : k = 20
    · subst ck
      have c' := eq_true (show (20 : Int) ≤ (20 : Nat) by omega)
      refine wpm_of (cuts := [23]) (by decide) 60 _ _ _ _ ?_
      simp (maxSteps := 2000000) only [↓reduceIte, wp_eq, wpd_eq, kont_eq, STP1, STP2, STP3, STP4, STP5, konM_eq, AMK, CZ, Option.map, List.getElem?_cons_zero, List.getElem?_cons_succ, List.mem_cons, List.not_mem_nil, if_false, if_true, Nat.reduceAdd, Nat.reduceLT, Nat.reduceLeDiff, Nat.reduceEqDiff, true_and, and_true, List.length_nil, List.length_cons, or_true, true_or, or_false, false_or, Option.some.injEq, Sum.inl.injEq, Sum.inr.injEq, exists_eq_left', exists_eq_left, Int.reduceLE, Int.reduceLT, Int.reduceNeg, Int.reduceAdd, Int.reduceMul, Int.reduceSub, Int.reduceToNat, inR, Nat.zero_ne_one, false_and, Nat.succ_ne_zero, reduceCtorEq, false_implies, true_implies, not_false_eq_true, not_true_eq_false, Int.reduceEq, KRE, C_Model_feed, FM, e81, c']
      repeat (first | refine ⟨by omega, ?_⟩ | refine ⟨fun _ _ => okt_nn (by omega), ?_⟩)
      try (first | (show _ ≤ _; omega) | (show _ < _; omega))
      all_goals (try omega)
    · have hlt : k < 20 := by omega
      have c' := eq_false (show ¬ (20 : Int) ≤ k by omega)
      have K' := fun a7 => K hlt _ _ ⟨rfl, a7, rfl⟩
      have ix : ((L : Int) + (k : Int)).toNat = L + k := by omega
      have er : (24 : Int) - 8 * (k : Int).tmod 4 = ((24 - 8 * (k % 4) : Nat) : Int) := by
        rw [Int.tmod_eq_emod_of_nonneg (by omega)]
        omega
      have e82 : ∀ v, mset (mFeedM (c0M M) L (b20 a b c d e) k) 161 (L + k) v 154 8 = (L : Int) + k := fun v => by rw [← e81]; simp [mset]
      have KK : ∀ wv : Int, wv = (if k < 4 then a else if k < 8 then b else if k < 12 then c else if k < 16 then d else e) → WPm m_Model_feed (fun v M' => ∃ x, v = some (.inl x) ∧ x = (L + 20 : Nat) ∧ M' = mFeedM (c0M M) L (b20 a b c d e) 20) 76 [some (.inr 154), some (.inl a), some (.inl b), some (.inl c), some (.inl d), some (.inl e), some (.inl (k : Int)), a7] [.inl wv] (mFeedM (c0M M) L (b20 a b c d e) k) := by
        intro wv hwv
        have eb : bAnd (bShr wv ((24 - 8 * (k % 4) : Nat) : Int)) 255 = b20 a b c d e k := by
          rw [shr_byte _ (by omega), hwv]
          unfold b20 b4N
          rw [show ((24 - 8 * (k % 4) : Nat) : Int) = 24 - 8 * ((k % 4 : Nat) : Int) by omega]
        refine wpm_of (cuts := [23]) (by decide) 60 _ _ _ _ ?_
        simp (maxSteps := 2000000) only [↓reduceIte, wp_eq, wpd_eq, kont_eq, STP1, STP2, STP3, STP4, STP5, konM_eq, AMK, CZ, Option.map, List.getElem?_cons_zero, List.getElem?_cons_succ, List.mem_cons, List.not_mem_nil, if_false, if_true, Nat.reduceAdd, Nat.reduceLT, Nat.reduceLeDiff, Nat.reduceEqDiff, true_and, and_true, List.length_nil, List.length_cons, or_true, true_or, or_false, false_or, Option.some.injEq, Sum.inl.injEq, Sum.inr.injEq, exists_eq_left', exists_eq_left, Int.reduceLE, Int.reduceLT, Int.reduceNeg, Int.reduceAdd, Int.reduceMul, Int.reduceSub, Int.reduceToNat, inR, Nat.zero_ne_one, false_and, Nat.succ_ne_zero, reduceCtorEq, false_implies, true_implies, not_false_eq_true, not_true_eq_false, Int.reduceEq, KRE, C_Model_feed, FM, e81, er, ix, eb, e82]
        repeat (first | refine ⟨by omega, ?_⟩ | refine ⟨fun _ _ => okt_nn (by omega), ?_⟩)
        try (first | (show _ ≤ _; omega) | (show _ < _; omega))
        rw [mFeedM_s]
        exact K' _
      by_cases k1 : k < 4
      · have q1 := eq_false (show ¬ (4 : Int) ≤ k by omega)
        have G := KK a (by rw [if_pos k1])
        refine wpm_of (cuts := [23, 76]) (by decide) 60 _ _ _ _ ?_
        simp (maxSteps := 2000000) only [↓reduceIte, wp_eq, wpd_eq, kont_eq, STP1, STP2, STP3, STP4, STP5, konM_eq, AMK, CZ, Option.map, List.getElem?_cons_zero, List.getElem?_cons_succ, List.mem_cons, List.not_mem_nil, if_false, if_true, Nat.reduceAdd, Nat.reduceLT, Nat.reduceLeDiff, Nat.reduceEqDiff, true_and, and_true, List.length_nil, List.length_cons, or_true, true_or, or_false, false_or, Option.some.injEq, Sum.inl.injEq, Sum.inr.injEq, exists_eq_left', exists_eq_left, Int.reduceLE, Int.reduceLT, Int.reduceNeg, Int.reduceAdd, Int.reduceMul, Int.reduceSub, Int.reduceToNat, inR, Nat.zero_ne_one, false_and, Nat.succ_ne_zero, reduceCtorEq, false_implies, true_implies, not_false_eq_true, not_true_eq_false, Int.reduceEq, KRE, C_Model_feed, FM, c', q1]
        repeat (first | refine ⟨by omega, ?_⟩ | refine ⟨fun _ _ => okt_nn (by omega), ?_⟩)
        try (first | (show _ ≤ _; omega) | (show _ < _; omega))
        exact G
      · have q1 := eq_true (show (4 : Int) ≤ k by omega)
        by_cases k2 : k < 8
        · have q2 := eq_false (show ¬ (8 : Int) ≤ k by omega)
          have G := KK b (by rw [if_neg k1, if_pos k2])
          refine wpm_of (cuts := [23, 76]) (by decide) 60 _ _ _ _ ?_
          simp (maxSteps := 2000000) only [↓reduceIte, wp_eq, wpd_eq, kont_eq, STP1, STP2, STP3, STP4, STP5, konM_eq, AMK, CZ, Option.map, List.getElem?_cons_zero, List.getElem?_cons_succ, List.mem_cons, List.not_mem_nil, if_false, if_true, Nat.reduceAdd, Nat.reduceLT, Nat.reduceLeDiff, Nat.reduceEqDiff, true_and, and_true, List.length_nil, List.length_cons, or_true, true_or, or_false, false_or, Option.some.injEq, Sum.inl.injEq, Sum.inr.injEq, exists_eq_left', exists_eq_left, Int.reduceLE, Int.reduceLT, Int.reduceNeg, Int.reduceAdd, Int.reduceMul, Int.reduceSub, Int.reduceToNat, inR, Nat.zero_ne_one, false_and, Nat.succ_ne_zero, reduceCtorEq, false_implies, true_implies, not_false_eq_true, not_true_eq_false, Int.reduceEq, KRE, C_Model_feed, FM, c', q1, q2]
          repeat (first | refine ⟨by omega, ?_⟩ | refine ⟨fun _ _ => okt_nn (by omega), ?_⟩)
          try (first | (show _ ≤ _; omega) | (show _ < _; omega))
          exact G
        · have q2 := eq_true (show (8 : Int) ≤ k by omega)
          by_cases k3 : k < 12
          · have q3 := eq_false (show ¬ (12 : Int) ≤ k by omega)
            have G := KK c (by rw [if_neg k1, if_neg k2, if_pos k3])
            refine wpm_of (cuts := [23, 76]) (by decide) 60 _ _ _ _ ?_
            simp (maxSteps := 2000000) only [↓reduceIte, wp_eq, wpd_eq, kont_eq, STP1, STP2, STP3, STP4, STP5, konM_eq, AMK, CZ, Option.map, List.getElem?_cons_zero, List.getElem?_cons_succ, List.mem_cons, List.not_mem_nil, if_false, if_true, Nat.reduceAdd, Nat.reduceLT, Nat.reduceLeDiff, Nat.reduceEqDiff, true_and, and_true, List.length_nil, List.length_cons, or_true, true_or, or_false, false_or, Option.some.injEq, Sum.inl.injEq, Sum.inr.injEq, exists_eq_left', exists_eq_left, Int.reduceLE, Int.reduceLT, Int.reduceNeg, Int.reduceAdd, Int.reduceMul, Int.reduceSub, Int.reduceToNat, inR, Nat.zero_ne_one, false_and, Nat.succ_ne_zero, reduceCtorEq, false_implies, true_implies, not_false_eq_true, not_true_eq_false, Int.reduceEq, KRE, C_Model_feed, FM, c', q1, q2, q3]
            repeat (first | refine ⟨by omega, ?_⟩ | refine ⟨fun _ _ => okt_nn (by omega), ?_⟩)
            try (first | (show _ ≤ _; omega) | (show _ < _; omega))
            exact G
          · have q3 := eq_true (show (12 : Int) ≤ k by omega)
            by_cases k4 : k < 16
            · have q4 := eq_false (show ¬ (16 : Int) ≤ k by omega)
              have G := KK d (by rw [if_neg k1, if_neg k2, if_neg k3, if_pos k4])
              refine wpm_of (cuts := [23, 76]) (by decide) 60 _ _ _ _ ?_
              simp (maxSteps := 2000000) only [↓reduceIte, wp_eq, wpd_eq, kont_eq, STP1, STP2, STP3, STP4, STP5, konM_eq, AMK, CZ, Option.map, List.getElem?_cons_zero, List.getElem?_cons_succ, List.mem_cons, List.not_mem_nil, if_false, if_true, Nat.reduceAdd, Nat.reduceLT, Nat.reduceLeDiff, Nat.reduceEqDiff, true_and, and_true, List.length_nil, List.length_cons, or_true, true_or, or_false, false_or, Option.some.injEq, Sum.inl.injEq, Sum.inr.injEq, exists_eq_left', exists_eq_left, Int.reduceLE, Int.reduceLT, Int.reduceNeg, Int.reduceAdd, Int.reduceMul, Int.reduceSub, Int.reduceToNat, inR, Nat.zero_ne_one, false_and, Nat.succ_ne_zero, reduceCtorEq, false_implies, true_implies, not_false_eq_true, not_true_eq_false, Int.reduceEq, KRE, C_Model_feed, FM, c', q1, q2, q3, q4]
              repeat (first | refine ⟨by omega, ?_⟩ | refine ⟨fun _ _ => okt_nn (by omega), ?_⟩)
              try (first | (show _ ≤ _; omega) | (show _ < _; omega))
              exact G
            · have q4 := eq_true (show (16 : Int) ≤ k by omega)
              have G := KK e (by rw [if_neg k1, if_neg k2, if_neg k3, if_neg k4])
              refine wpm_of (cuts := [23, 76]) (by decide) 60 _ _ _ _ ?_
              simp (maxSteps := 2000000) only [↓reduceIte, wp_eq, wpd_eq, kont_eq, STP1, STP2, STP3, STP4, STP5, konM_eq, AMK, CZ, Option.map, List.getElem?_cons_zero, List.getElem?_cons_succ, List.mem_cons, List.not_mem_nil, if_false, if_true, Nat.reduceAdd, Nat.reduceLT, Nat.reduceLeDiff, Nat.reduceEqDiff, true_and, and_true, List.length_nil, List.length_cons, or_true, true_or, or_false, false_or, Option.some.injEq, Sum.inl.injEq, Sum.inr.injEq, exists_eq_left', exists_eq_left, Int.reduceLE, Int.reduceLT, Int.reduceNeg, Int.reduceAdd, Int.reduceMul, Int.reduceSub, Int.reduceToNat, inR, Nat.zero_ne_one, false_and, Nat.succ_ne_zero, reduceCtorEq, false_implies, true_implies, not_false_eq_true, not_true_eq_false, Int.reduceEq, KRE, C_Model_feed, FM, c', q1, q2, q3, q4]
              repeat (first | refine ⟨by omega, ?_⟩ | refine ⟨fun _ _ => okt_nn (by omega), ?_⟩)
              try (first | (show _ ≤ _; omega) | (show _ < _; omega))
              exact G
  · funext q j
    show c0M M q j = if q = 161 ∧ L ≤ j ∧ j < L + 0 then _ else if q = 154 ∧ j = 8 then ((L + 0 : Nat) : Int) else c0M M q j
    rw [if_neg (by omega)]
    by_cases h1 : q = 154 ∧ j = 8
    · rw [if_pos h1, h1.1, h1.2]
      exact e8
    · rw [if_neg h1]
set_option maxHeartbeats 600000 in
set_option maxRecDepth 20000 in
theorem Mfeed_no {L : Nat} {a b c d e : Int} (hL : M 154 8 = L) (h : ¬ L + 20 ≤ 900) (h9 : L ≤ 900) : CallI m_Model_feed [.inr 154, .inl a, .inl b, .inl c, .inl d, .inl e] M (fun x M' => x = -1 ∧ M' = c0M M) := by
  have e8 : mset M 154 1 0 154 8 = L := by rw [← hL]; simp [mset]
  have c0 := eq_false (show ¬ (L : Int) + 20 ≤ 900 by omega)
  refine callP_of (by decide) (by decide) (Nat.le_of_ble_eq_true rfl) (wpm_of (cuts := [23]) (by decide) 60 _ _ _ _ ?_)
  rw [show lM m_Model_feed = 8 from rfl]
  simp (maxSteps := 2000000) only [↓reduceIte, wp_eq, wpd_eq, kont_eq, STP1, STP2, STP3, STP4, STP5, konM_eq, AMK, CZ, Option.map, List.getElem?_cons_zero, List.getElem?_cons_succ, List.mem_cons, List.not_mem_nil, if_false, if_true, Nat.reduceAdd, Nat.reduceLT, Nat.reduceLeDiff, Nat.reduceEqDiff, true_and, and_true, List.length_nil, List.length_cons, or_true, true_or, or_false, false_or, Option.some.injEq, Sum.inl.injEq, Sum.inr.injEq, exists_eq_left', exists_eq_left, Int.reduceLE, Int.reduceLT, Int.reduceNeg, Int.reduceAdd, Int.reduceMul, Int.reduceSub, Int.reduceToNat, inR, Nat.zero_ne_one, false_and, Nat.succ_ne_zero, reduceCtorEq, false_implies, true_implies, not_false_eq_true, not_true_eq_false, Int.reduceEq, KRE, C_Model_feed, FM, e8, c0]
  repeat (first | refine ⟨by omega, ?_⟩ | refine ⟨fun _ _ => okt_nn (by omega), ?_⟩)
  try (first | (show _ ≤ _; omega) | (show _ < _; omega))
end MODI
