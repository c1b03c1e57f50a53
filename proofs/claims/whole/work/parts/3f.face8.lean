/-! THE FACE: fits, look. -/
theorem gwP_in {T : Nat → Rw} {lap bnd mrg : Int} {n c i : Nat} {Y : Nat → Int} (h : okC T Y n) (hc : gwC T lap bnd mrg n Y c) (hi : i < c) : (0 ≤ (gwP T lap bnd mrg n Y i).1 ∧ (gwP T lap bnd mrg n Y i).1 < n) ∧ gwY T lap bnd mrg n Y i (gwP T lap bnd mrg n Y i).1.toNat = -1 ∧ (0 ≤ (gwP T lap bnd mrg n Y i).2.1 ∧ (gwP T lap bnd mrg n Y i).2.1 ≤ 900) ∧ (0 ≤ (gwP T lap bnd mrg n Y i).2.2 ∧ (gwP T lap bnd mrg n Y i).2.2 ≤ 100) ∧ bnd ≤ (gwP T lap bnd mrg n Y i).2.2 :=
  (gwY_ok h i).2.resolve_left (fun z => hc.1 i hi (congrArg Prod.fst z))
theorem ybR_congr {W W' Z Z' S S' : Nat → Int} {t bnd : Int} : ∀ (d i : Nat), (∀ j, i ≤ j → j < i + d → W j = W' j ∧ Z j = Z' j ∧ S j = S' j) → ybR W Z S t bnd d i = ybR W' Z' S' t bnd d i
  | 0, _, _ => rfl
  | d + 1, i, h => by
    obtain ⟨h1, h2, h3⟩ := h i (by omega) (by omega)
    rw [ybR, ybR, h1, h2, h3, ybR_congr d (i + 1) (fun j p q => h j (by omega) (by omega))]
def ybS (P : Nat → Pk) (Y : Nat → Int) (c : Nat) (t bnd : Int) : Int := if Y t.toNat ≠ -1 then Y t.toNat else ybR (fun i => (P i).1) (fun i => (P i).2.1) (fun i => (P i).2.2) t bnd c 0
theorem yb_eq {n c : Nat} {T : Nat → Rw} {Y : Nat → Int} {lap bnd mrg b0 b t : Int} {M : Mm} (h : cls M n T Y lap bnd mrg) (g : gwIs M T lap b0 mrg n Y c) (ht : 0 ≤ t ∧ t < n) : yb M c t b = ybS (gwP T lap b0 mrg n Y) Y c t b := by
  obtain ⟨t', rfl⟩ : ∃ k : Nat, t = k := ⟨t.toNat, by omega⟩
  have e := (cls_tm h (show t' < n by omega)).2.2.2.2.2.1
  unfold yb ybS
  rw [e, natT]
  obtain ⟨g1, g2, g3⟩ := g
  rw [ybR_congr (W := M 69) (Z := M 70) (S := M 71) (W' := fun i => (gwP T lap b0 mrg n Y i).1) (Z' := fun i => (gwP T lap b0 mrg n Y i).2.1) (S' := fun i => (gwP T lap b0 mrg n Y i).2.2) c 0 (fun j _ hj => g3 j (by omega))]
/-- what is noted: m of them, timbers N, years Z -/
def nts (M : Mm) (n m : Nat) (N Z : Nat → Int) : Prop := M 111 2 = m ∧ m ≤ 8 ∧ ∀ i, i < m → (M 112 i = N i ∧ M 113 i = Z i) ∧ (0 ≤ N i ∧ N i < n) ∧ (-1 ≤ Z i ∧ Z i ≤ 900)
theorem nts_fr {n m : Nat} {N Z : Nat → Int} {M M1 : Mm} (h : nts M n m N Z) (f : FrP scrF M M1) : nts M1 n m N Z := by
  obtain ⟨h1, h2, h3⟩ := h
  exact ⟨(f 111 2 (by unfold scrF; omega)).trans h1, h2, fun i hi => ⟨⟨(f 112 i (by unfold scrF; omega)).trans (h3 i hi).1.1, (f 113 i (by unfold scrF; omega)).trans (h3 i hi).1.2⟩, (h3 i hi).2⟩⟩
abbrev agS (P : Nat → Pk) (Y : Nat → Int) (c m : Nat) (N Z : Nat → Int) (b : Int) : Prop := ∀ i, i < m → ybS P Y c (N i) b = Z i
theorem agree_cls {n m c : Nat} {T : Nat → Rw} {Y N Z : Nat → Int} {lap bnd mrg b0 b : Int} {M : Mm} (h : cls M n T Y lap bnd mrg) (hc : gwC T lap b0 mrg n Y c) (g : gwIs M T lap b0 mrg n Y c) (hn : nts M n m N Z) (hb : inR b) : CallI m_Notes_agree [.inr 111, .inr 76, .inr 68, .inl b] M (fun x M' => x = (if agS (gwP T lap b0 mrg n Y) Y c m N Z b then 1 else 0) ∧ M' = M) := by
  obtain ⟨n1, n2, n3⟩ := hn
  obtain ⟨g1, g2, g3⟩ := id g
  have n8 := h.2.1.2
  have gi := fun i hi => gwP_in (i := i) h.2.2.2.2.2.2 hc hi
  refine (Notes_agree_ok (c := c) (m := m) isNts_111 h.1.1.1 g2 g1 (fun i hi => ?_) (fun i hi => ?_) hb n1 n2 (fun i hi => ?_)).mono (fun x M' z => ⟨z.1.trans ?_, z.2⟩)
  · obtain ⟨p1, p2, p3⟩ := g3 i hi
    have := gi i hi
    rw [p1, p3]
    omega
  · obtain ⟨p1, p2, p3⟩ := g3 i hi
    have := gi i hi
    rw [p2]
    omega
  · obtain ⟨⟨p1, p2⟩, p3, p4⟩ := n3 i hi
    show inR (M 112 i) ∧ inR (M 113 i)
    rw [p1, p2]
    exact ⟨⟨by omega, by omega⟩, ⟨by omega, by omega⟩⟩
  · have e : (∀ i, i < m → yb M c (M 112 i) b = M 113 i) ↔ agS (gwP T lap b0 mrg n Y) Y c m N Z b := by
      constructor
      · intro q i hi
        obtain ⟨⟨p1, p2⟩, p3, p4⟩ := n3 i hi
        have := q i hi
        rw [p1, p2, yb_eq h g p3] at this
        exact this
      · intro q i hi
        obtain ⟨⟨p1, p2⟩, p3, p4⟩ := n3 i hi
        rw [p1, p2, yb_eq h g p3]
        exact q i hi
    by_cases c1 : agS (gwP T lap b0 mrg n Y) Y c m N Z b
    · rw [if_pos c1]
      exact if_pos (e.mpr c1)
    · rw [if_neg c1]
      exact if_neg (fun z => c1 (e.mp z))
/-- FITS: how many, the least -/
def ftN (P : Nat → Pk) (Y : Nat → Int) (c m : Nat) (N Z : Nat → Int) (k : Nat) : Int × Int := foldN (fun i x => if agS P Y c m N Z (50 + i) then (x.1 + 1, if x.2 = -1 then 50 + (i : Int) else x.2) else x) (0, -1) k
theorem ftN_in (P : Nat → Pk) (Y : Nat → Int) (c m : Nat) (N Z : Nat → Int) : ∀ k : Nat, (0 ≤ (ftN P Y c m N Z k).1 ∧ (ftN P Y c m N Z k).1 ≤ k) ∧ (-1 ≤ (ftN P Y c m N Z k).2 ∧ (ftN P Y c m N Z k).2 ≤ 50 + k)
  | 0 => ⟨⟨show (0 : Int) ≤ 0 by decide, show (0 : Int) ≤ 0 by decide⟩, ⟨show (-1 : Int) ≤ -1 by decide, show (-1 : Int) ≤ 50 + 0 by decide⟩⟩
  | k + 1 => by
    have i := ftN_in P Y c m N Z k
    unfold ftN at *
    rw [foldN]
    split
    · simp only
      refine ⟨by omega, ?_⟩
      split <;> omega
    · omega
set_option maxHeartbeats 600000 in
set_option maxRecDepth 20000 in
theorem RingDater_fits_ok {n m c : Nat} {T : Nat → Rw} {Y N Z : Nat → Int} {lap bnd mrg w : Int} {M : Mm} (h : cls M n T Y lap bnd mrg) (hn : nts M n m N Z) (hc : gwC T lap 50 mrg n Y c) (hw : w = 0 ∨ w = 1) : CallI m_RingDater_fits [.inr 0, .inl w] M (fun y M' => y = (if w = 0 then (ftN (gwP T lap 50 mrg n Y) Y c m N Z 51).1 else (ftN (gwP T lap 50 mrg n Y) Y c m N Z 51).2) ∧ cls M' n T Y lap bnd mrg ∧ FrP scrF M M') := by
  have l0 := isStk_76.1
  have k68 : kc (lay 68) 2 = True := FG.1
  have k111 : kc (lay 111) 4 = True := by rw [isNts_111.1]; exact eq_true rfl
  have w1 : ¬ w < 0 := by omega
  have w2 : w ≤ 1 := by omega
  refine callP_of (by decide) (by decide) (Nat.le_of_ble_eq_true rfl) (wpm_of (cuts := [43]) (by decide) 60 _ _ _ _ ?_)
  rw [show lM m_RingDater_fits = 5 from rfl]
  simp (maxSteps := 2000000) only [↓reduceIte, wp_eq, wpd_eq, kont_eq, STP1, STP2, STP3, STP4, STP5, konM_eq, AMK, CZ, Option.map, List.getElem?_cons_zero, List.getElem?_cons_succ, List.mem_cons, List.not_mem_nil, if_false, if_true, Nat.reduceAdd, Nat.reduceLT, Nat.reduceLeDiff, Nat.reduceEqDiff, true_and, and_true, List.length_nil, List.length_cons, or_true, true_or, or_false, false_or, Option.some.injEq, Sum.inl.injEq, Sum.inr.injEq, exists_eq_left', exists_eq_left, Int.reduceLE, Int.reduceLT, Int.reduceNeg, Int.reduceAdd, Int.reduceMul, Int.reduceSub, Int.reduceToNat, inR, Nat.zero_ne_one, false_and, Nat.succ_ne_zero, reduceCtorEq, false_implies, true_implies, not_false_eq_true, not_true_eq_false, Int.reduceEq, KRE, C_RingDater_fits, FR, l0, k68, w1, w2]
  repeat (first | refine ⟨by omega, ?_⟩ | refine ⟨fun _ _ => okt_nn (by omega), ?_⟩)
  try (first | (show _ ≤ _; omega) | (show _ < _; omega))
  refine (run_cls h (by omega)).mono (fun x M1 z => ?_)
  obtain ⟨d, z1, z2, z3, z4, z5, z6⟩ := z
  obtain rfl := gwC_u z3 hc
  have n1 := nts_fr hn z6
  refine loopQ 51 (fun k ls M2 => M1 = M2 ∧ ls = [some (.inr 0), some (.inl w), some (.inl (ftN (gwP T lap 50 mrg n Y) Y d m N Z k).1), some (.inl (ftN (gwP T lap 50 mrg n Y) Y d m N Z k).2), some (.inl (50 + k))]) ?_ _ _ ⟨rfl, rfl⟩
  rintro k _ _ hk ⟨rfl, rfl⟩ K
  have fi := ftN_in (gwP T lap 50 mrg n Y) Y d m N Z k
  by_cases hz : (100 : Int) < 50 + k
  · obtain rfl : k = 51 := by omega
    rcases hw with rfl | rfl
    · refine wpm_of (cuts := [43]) (by decide) 60 _ _ _ _ ?_
      simp (maxSteps := 2000000) only [↓reduceIte, wp_eq, wpd_eq, kont_eq, STP1, STP2, STP3, STP4, STP5, konM_eq, AMK, CZ, Option.map, List.getElem?_cons_zero, List.getElem?_cons_succ, List.mem_cons, List.not_mem_nil, if_false, if_true, Nat.reduceAdd, Nat.reduceLT, Nat.reduceLeDiff, Nat.reduceEqDiff, true_and, and_true, List.length_nil, List.length_cons, or_true, true_or, or_false, false_or, Option.some.injEq, Sum.inl.injEq, Sum.inr.injEq, exists_eq_left', exists_eq_left, Int.reduceLE, Int.reduceLT, Int.reduceNeg, Int.reduceAdd, Int.reduceMul, Int.reduceSub, Int.reduceToNat, inR, Nat.zero_ne_one, false_and, Nat.succ_ne_zero, reduceCtorEq, false_implies, true_implies, not_false_eq_true, not_true_eq_false, Int.reduceEq, KRE, C_RingDater_fits, FR, hz]
      repeat (first | refine ⟨by omega, ?_⟩ | refine ⟨fun _ _ => okt_nn (by omega), ?_⟩)
      try (first | (show _ ≤ _; omega) | (show _ < _; omega))
      first | exact ⟨rfl, z5, z6⟩ | exact ⟨z5, z6⟩ | exact z6
    · refine wpm_of (cuts := [43]) (by decide) 60 _ _ _ _ ?_
      simp (maxSteps := 2000000) only [↓reduceIte, wp_eq, wpd_eq, kont_eq, STP1, STP2, STP3, STP4, STP5, konM_eq, AMK, CZ, Option.map, List.getElem?_cons_zero, List.getElem?_cons_succ, List.mem_cons, List.not_mem_nil, if_false, if_true, Nat.reduceAdd, Nat.reduceLT, Nat.reduceLeDiff, Nat.reduceEqDiff, true_and, and_true, List.length_nil, List.length_cons, or_true, true_or, or_false, false_or, Option.some.injEq, Sum.inl.injEq, Sum.inr.injEq, exists_eq_left', exists_eq_left, Int.reduceLE, Int.reduceLT, Int.reduceNeg, Int.reduceAdd, Int.reduceMul, Int.reduceSub, Int.reduceToNat, inR, Nat.zero_ne_one, false_and, Nat.succ_ne_zero, reduceCtorEq, false_implies, true_implies, not_false_eq_true, not_true_eq_false, Int.reduceEq, KRE, C_RingDater_fits, FR, hz]
      repeat (first | refine ⟨by omega, ?_⟩ | refine ⟨fun _ _ => okt_nn (by omega), ?_⟩)
      try (first | (show _ ≤ _; omega) | (show _ < _; omega))
      first | exact ⟨rfl, z5, z6⟩ | exact ⟨z5, z6⟩ | exact z6
  · refine wpm_of (cuts := [43]) (by decide) 60 _ _ _ _ ?_
    simp (maxSteps := 2000000) only [↓reduceIte, wp_eq, wpd_eq, kont_eq, STP1, STP2, STP3, STP4, STP5, konM_eq, AMK, CZ, Option.map, List.getElem?_cons_zero, List.getElem?_cons_succ, List.mem_cons, List.not_mem_nil, if_false, if_true, Nat.reduceAdd, Nat.reduceLT, Nat.reduceLeDiff, Nat.reduceEqDiff, true_and, and_true, List.length_nil, List.length_cons, or_true, true_or, or_false, false_or, Option.some.injEq, Sum.inl.injEq, Sum.inr.injEq, exists_eq_left', exists_eq_left, Int.reduceLE, Int.reduceLT, Int.reduceNeg, Int.reduceAdd, Int.reduceMul, Int.reduceSub, Int.reduceToNat, inR, Nat.zero_ne_one, false_and, Nat.succ_ne_zero, reduceCtorEq, false_implies, true_implies, not_false_eq_true, not_true_eq_false, Int.reduceEq, KRE, C_RingDater_fits, FR, hz, k111]
    repeat (first | refine ⟨by omega, ?_⟩ | refine ⟨fun _ _ => okt_nn (by omega), ?_⟩)
    try (first | (show _ ≤ _; omega) | (show _ < _; omega))
    refine (agree_cls (b := 50 + k) z5 z3 z4 n1 ⟨by omega, by omega⟩).eq ?_
    have K' := K (by omega) _ _ ⟨rfl, rfl⟩
    have eF : ftN (gwP T lap 50 mrg n Y) Y d m N Z (k + 1) = if agS (gwP T lap 50 mrg n Y) Y d m N Z (50 + k) then ((ftN (gwP T lap 50 mrg n Y) Y d m N Z k).1 + 1, if (ftN (gwP T lap 50 mrg n Y) Y d m N Z k).2 = -1 then 50 + (k : Int) else (ftN (gwP T lap 50 mrg n Y) Y d m N Z k).2) else ftN (gwP T lap 50 mrg n Y) Y d m N Z k := rfl
    have eI : (50 : Int) + (k + 1 : Nat) = 50 + k + 1 := by omega
    rw [eI] at K'
    generalize ftN (gwP T lap 50 mrg n Y) Y d m N Z (k + 1) = X1 at *
    generalize ftN (gwP T lap 50 mrg n Y) Y d m N Z k = X at *
    by_cases c1 : agS (gwP T lap 50 mrg n Y) Y d m N Z (50 + k)
    · rw [if_pos c1] at eF ⊢
      subst eF
      simp (maxSteps := 2000000) only [↓reduceIte, wp_eq, wpd_eq, kont_eq, STP1, STP2, STP3, STP4, STP5, konM_eq, AMK, CZ, Option.map, List.getElem?_cons_zero, List.getElem?_cons_succ, List.mem_cons, List.not_mem_nil, if_false, if_true, Nat.reduceAdd, Nat.reduceLT, Nat.reduceLeDiff, Nat.reduceEqDiff, true_and, and_true, List.length_nil, List.length_cons, or_true, true_or, or_false, false_or, Option.some.injEq, Sum.inl.injEq, Sum.inr.injEq, exists_eq_left', exists_eq_left, Int.reduceLE, Int.reduceLT, Int.reduceNeg, Int.reduceAdd, Int.reduceMul, Int.reduceSub, Int.reduceToNat, inR, Nat.zero_ne_one, false_and, Nat.succ_ne_zero, reduceCtorEq, false_implies, true_implies, not_false_eq_true, not_true_eq_false, Int.reduceEq, KRE, C_RingDater_fits, FR]
      refine ⟨⟨by omega, by omega⟩, fun e => ?_, fun e => ?_⟩
      · rw [if_neg e] at K'
        exact K'
      · rw [if_pos (show X.2 = -1 by omega)] at K'
        exact K'
    · rw [if_neg c1] at eF ⊢
      subst eF
      simp (maxSteps := 2000000) only [↓reduceIte, wp_eq, wpd_eq, kont_eq, STP1, STP2, STP3, STP4, STP5, konM_eq, AMK, CZ, Option.map, List.getElem?_cons_zero, List.getElem?_cons_succ, List.mem_cons, List.not_mem_nil, if_false, if_true, Nat.reduceAdd, Nat.reduceLT, Nat.reduceLeDiff, Nat.reduceEqDiff, true_and, and_true, List.length_nil, List.length_cons, or_true, true_or, or_false, false_or, Option.some.injEq, Sum.inl.injEq, Sum.inr.injEq, exists_eq_left', exists_eq_left, Int.reduceLE, Int.reduceLT, Int.reduceNeg, Int.reduceAdd, Int.reduceMul, Int.reduceSub, Int.reduceToNat, inR, Nat.zero_ne_one, false_and, Nat.succ_ne_zero, reduceCtorEq, false_implies, true_implies, not_false_eq_true, not_true_eq_false, Int.reduceEq, KRE, C_RingDater_fits, FR]
      exact K'
/-- how many unlike years a timber has -/
def unN (P : Nat → Pk) (Y : Nat → Int) (c m : Nat) (N Z : Nat → Int) (t : Int) (k : Nat) : Int × Int := foldN (fun i x => if agS P Y c m N Z (50 + i) then (if ybS P Y c t (50 + i) ≠ -1 then (1, x.2) else (x.1, 1)) else x) (0, 0) k
theorem unN_in (P : Nat → Pk) (Y : Nat → Int) (c m : Nat) (N Z : Nat → Int) (t : Int) : ∀ k : Nat, ((unN P Y c m N Z t k).1 = 0 ∨ (unN P Y c m N Z t k).1 = 1) ∧ ((unN P Y c m N Z t k).2 = 0 ∨ (unN P Y c m N Z t k).2 = 1)
  | 0 => ⟨Or.inl rfl, Or.inl rfl⟩
  | k + 1 => by
    have i := unN_in P Y c m N Z t k
    unfold unN at *
    rw [foldN]
    split
    · split
      · exact ⟨Or.inr rfl, i.2⟩
      · exact ⟨i.1, Or.inr rfl⟩
    · exact i
theorem ybS_in {n c : Nat} {T : Nat → Rw} {Y : Nat → Int} {lap b0 mrg b t : Int} (h : okC T Y n) (hc : gwC T lap b0 mrg n Y c) (ht : 0 ≤ t ∧ t < n) : -1 ≤ ybS (gwP T lap b0 mrg n Y) Y c t b ∧ ybS (gwP T lap b0 mrg n Y) Y c t b ≤ 900 := by
  have H : ∀ d i, i + d = c → -1 ≤ ybR (fun i => (gwP T lap b0 mrg n Y i).1) (fun i => (gwP T lap b0 mrg n Y i).2.1) (fun i => (gwP T lap b0 mrg n Y i).2.2) t b d i ∧ ybR (fun i => (gwP T lap b0 mrg n Y i).1) (fun i => (gwP T lap b0 mrg n Y i).2.1) (fun i => (gwP T lap b0 mrg n Y i).2.2) t b d i ≤ 900 := by
    intro d
    induction d with
    | zero => exact fun i hi => ⟨show (-1 : Int) ≤ -1 by decide, show (-1 : Int) ≤ 900 by decide⟩
    | succ d ih =>
      intro i hi
      have a := (gwP_in (i := i) h hc (by omega)).2.2.1
      have b := ih (i + 1) (by omega)
      rw [ybR]
      split
      · omega
      · split
        · show -1 ≤ (gwP T lap b0 mrg n Y i).2.1 ∧ (gwP T lap b0 mrg n Y i).2.1 ≤ 900
          omega
        · exact b
  unfold ybS
  split
  · exact (h.2 t.toNat (by omega)).2
  · exact H c 0 (by omega)
set_option maxHeartbeats 600000 in
set_option maxRecDepth 20000 in
theorem RingDater_countUnlikeYears_ok {n m c t : Nat} {T : Nat → Rw} {Y N Z : Nat → Int} {lap bnd mrg : Int} {M : Mm} (h : cls M n T Y lap bnd mrg) (hn : nts M n m N Z) (hc : gwC T lap 50 mrg n Y c) (g : gwIs M T lap 50 mrg n Y c) (ht : t < n) : CallI m_RingDater_countUnlikeYears [.inr 0, .inl t] M (fun y M' => y = (unN (gwP T lap 50 mrg n Y) Y c m N Z t 51).1 + (unN (gwP T lap 50 mrg n Y) Y c m N Z t 51).2 ∧ M' = M) := by
  have l0 := isStk_76.1
  have k68 : kc (lay 68) 2 = True := FG.1
  have k111 : kc (lay 111) 4 = True := by rw [isNts_111.1]; exact eq_true rfl
  obtain ⟨g1, g2, g3⟩ := id g
  have n8 := h.2.1.2
  have gi := fun i hi => gwP_in (i := i) h.2.2.2.2.2.2 hc hi
  have hS : ∀ i, i < c → (0 ≤ M 71 i ∧ M 71 i ≤ 100) ∧ (0 ≤ M 69 i ∧ M 69 i ≤ 7) := fun i hi => by
    obtain ⟨p1, p2, p3⟩ := g3 i hi
    have := gi i hi
    rw [p1, p3]
    omega
  refine callP_of (by decide) (by decide) (Nat.le_of_ble_eq_true rfl) (wpm_of (cuts := [8]) (by decide) 60 _ _ _ _ ?_)
  rw [show lM m_RingDater_countUnlikeYears = 6 from rfl]
  simp (maxSteps := 2000000) only [↓reduceIte, wp_eq, wpd_eq, kont_eq, STP1, STP2, STP3, STP4, STP5, konM_eq, AMK, CZ, Option.map, List.getElem?_cons_zero, List.getElem?_cons_succ, List.mem_cons, List.not_mem_nil, if_false, if_true, Nat.reduceAdd, Nat.reduceLT, Nat.reduceLeDiff, Nat.reduceEqDiff, true_and, and_true, List.length_nil, List.length_cons, or_true, true_or, or_false, false_or, Option.some.injEq, Sum.inl.injEq, Sum.inr.injEq, exists_eq_left', exists_eq_left, Int.reduceLE, Int.reduceLT, Int.reduceNeg, Int.reduceAdd, Int.reduceMul, Int.reduceSub, Int.reduceToNat, inR, Nat.zero_ne_one, false_and, Nat.succ_ne_zero, reduceCtorEq, false_implies, true_implies, not_false_eq_true, not_true_eq_false, Int.reduceEq, KRE, C_RingDater_countUnlikeYears, FR]
  refine loopQ 51 (fun k ls M2 => M = M2 ∧ ∃ a5, ls = [some (.inr 0), some (.inl t), some (.inl (unN (gwP T lap 50 mrg n Y) Y c m N Z t k).1), some (.inl (unN (gwP T lap 50 mrg n Y) Y c m N Z t k).2), some (.inl (50 + k)), a5]) ?_ _ _ ⟨rfl, none, rfl⟩
  rintro k _ _ hk ⟨rfl, a5, rfl⟩ K
  have fi := unN_in (gwP T lap 50 mrg n Y) Y c m N Z t k
  by_cases hz : (100 : Int) < 50 + k
  · obtain rfl : k = 51 := by omega
    obtain ⟨f1 | f1, f2 | f2⟩ := fi
    all_goals
      rw [f1, f2]
      refine wpm_of (cuts := [8]) (by decide) 60 _ _ _ _ ?_
      simp (maxSteps := 2000000) only [↓reduceIte, wp_eq, wpd_eq, kont_eq, STP1, STP2, STP3, STP4, STP5, konM_eq, AMK, CZ, Option.map, List.getElem?_cons_zero, List.getElem?_cons_succ, List.mem_cons, List.not_mem_nil, if_false, if_true, Nat.reduceAdd, Nat.reduceLT, Nat.reduceLeDiff, Nat.reduceEqDiff, true_and, and_true, List.length_nil, List.length_cons, or_true, true_or, or_false, false_or, Option.some.injEq, Sum.inl.injEq, Sum.inr.injEq, exists_eq_left', exists_eq_left, Int.reduceLE, Int.reduceLT, Int.reduceNeg, Int.reduceAdd, Int.reduceMul, Int.reduceSub, Int.reduceToNat, inR, Nat.zero_ne_one, false_and, Nat.succ_ne_zero, reduceCtorEq, false_implies, true_implies, not_false_eq_true, not_true_eq_false, Int.reduceEq, KRE, C_RingDater_countUnlikeYears, FR, hz]
      repeat (first | refine ⟨by omega, ?_⟩ | refine ⟨fun _ _ => okt_nn (by omega), ?_⟩)
      try (first | (show _ ≤ _; omega) | (show _ < _; omega))
  · refine wpm_of (cuts := [8]) (by decide) 60 _ _ _ _ ?_
    simp (maxSteps := 2000000) only [↓reduceIte, wp_eq, wpd_eq, kont_eq, STP1, STP2, STP3, STP4, STP5, konM_eq, AMK, CZ, Option.map, List.getElem?_cons_zero, List.getElem?_cons_succ, List.mem_cons, List.not_mem_nil, if_false, if_true, Nat.reduceAdd, Nat.reduceLT, Nat.reduceLeDiff, Nat.reduceEqDiff, true_and, and_true, List.length_nil, List.length_cons, or_true, true_or, or_false, false_or, Option.some.injEq, Sum.inl.injEq, Sum.inr.injEq, exists_eq_left', exists_eq_left, Int.reduceLE, Int.reduceLT, Int.reduceNeg, Int.reduceAdd, Int.reduceMul, Int.reduceSub, Int.reduceToNat, inR, Nat.zero_ne_one, false_and, Nat.succ_ne_zero, reduceCtorEq, false_implies, true_implies, not_false_eq_true, not_true_eq_false, Int.reduceEq, KRE, C_RingDater_countUnlikeYears, FR, hz, k111, k68]
    repeat (first | refine ⟨by omega, ?_⟩ | refine ⟨fun _ _ => okt_nn (by omega), ?_⟩)
    try (first | (show _ ≤ _; omega) | (show _ < _; omega))
    refine (agree_cls (b := 50 + k) h hc g hn ⟨by omega, by omega⟩).eq ?_
    have K' := fun a5 => K (by omega) _ _ ⟨rfl, a5, rfl⟩
    have eF : unN (gwP T lap 50 mrg n Y) Y c m N Z t (k + 1) = if agS (gwP T lap 50 mrg n Y) Y c m N Z (50 + k) then (if ybS (gwP T lap 50 mrg n Y) Y c t (50 + k) ≠ -1 then (1, (unN (gwP T lap 50 mrg n Y) Y c m N Z t k).2) else ((unN (gwP T lap 50 mrg n Y) Y c m N Z t k).1, 1)) else unN (gwP T lap 50 mrg n Y) Y c m N Z t k := rfl
    have eI : (50 : Int) + (k + 1 : Nat) = 50 + k + 1 := by omega
    rw [eI] at K'
    generalize unN (gwP T lap 50 mrg n Y) Y c m N Z t (k + 1) = X1 at *
    generalize unN (gwP T lap 50 mrg n Y) Y c m N Z t k = X at *
    by_cases c1 : agS (gwP T lap 50 mrg n Y) Y c m N Z (50 + k)
    · rw [if_pos c1] at eF ⊢
      simp (maxSteps := 2000000) only [↓reduceIte, wp_eq, wpd_eq, kont_eq, STP1, STP2, STP3, STP4, STP5, konM_eq, AMK, CZ, Option.map, List.getElem?_cons_zero, List.getElem?_cons_succ, List.mem_cons, List.not_mem_nil, if_false, if_true, Nat.reduceAdd, Nat.reduceLT, Nat.reduceLeDiff, Nat.reduceEqDiff, true_and, and_true, List.length_nil, List.length_cons, or_true, true_or, or_false, false_or, Option.some.injEq, Sum.inl.injEq, Sum.inr.injEq, exists_eq_left', exists_eq_left, Int.reduceLE, Int.reduceLT, Int.reduceNeg, Int.reduceAdd, Int.reduceMul, Int.reduceSub, Int.reduceToNat, inR, Nat.zero_ne_one, false_and, Nat.succ_ne_zero, reduceCtorEq, false_implies, true_implies, not_false_eq_true, not_true_eq_false, Int.reduceEq, KRE, C_RingDater_countUnlikeYears, FR, k68]
      repeat (first | refine ⟨by omega, ?_⟩ | refine ⟨fun _ _ => okt_nn (by omega), ?_⟩)
      try (first | (show _ ≤ _; omega) | (show _ < _; omega))
      refine (Growth_yearBy_ok (c := c) (t := (t : Int)) (bnd := 50 + k) h.1.1.1 g2 g1 hS ⟨by omega, by omega⟩ ⟨by omega, by omega⟩).eq ?_
      rw [yb_eq h g ⟨by omega, by omega⟩]
      have yi := ybS_in (b := 50 + k) (t := t) h.2.2.2.2.2.2 hc ⟨by omega, by omega⟩
      by_cases c2 : ybS (gwP T lap 50 mrg n Y) Y c t (50 + k) = -1
      · rw [if_neg (fun z => z c2)] at eF
        subst eF
        have c2' := eq_true c2
        obtain ⟨f1 | f1, f2 | f2⟩ := fi
        all_goals
          simp only [f1, f2] at K' ⊢
          try simp (maxSteps := 2000000) only [↓reduceIte, wp_eq, wpd_eq, kont_eq, STP1, STP2, STP3, STP4, STP5, konM_eq, AMK, CZ, Option.map, List.getElem?_cons_zero, List.getElem?_cons_succ, List.mem_cons, List.not_mem_nil, if_false, if_true, Nat.reduceAdd, Nat.reduceLT, Nat.reduceLeDiff, Nat.reduceEqDiff, true_and, and_true, List.length_nil, List.length_cons, or_true, true_or, or_false, false_or, Option.some.injEq, Sum.inl.injEq, Sum.inr.injEq, exists_eq_left', exists_eq_left, Int.reduceLE, Int.reduceLT, Int.reduceNeg, Int.reduceAdd, Int.reduceMul, Int.reduceSub, Int.reduceToNat, inR, Nat.zero_ne_one, false_and, Nat.succ_ne_zero, reduceCtorEq, false_implies, true_implies, not_false_eq_true, not_true_eq_false, Int.reduceEq, KRE, C_RingDater_countUnlikeYears, FR, c2', f1, f2]
          repeat (first | refine ⟨by omega, ?_⟩ | refine ⟨fun _ _ => okt_nn (by omega), ?_⟩)
          try (first | (show _ ≤ _; omega) | (show _ < _; omega))
          exact K' _
      · rw [if_pos c2] at eF
        subst eF
        have c2' := eq_false c2
        obtain ⟨f1 | f1, f2 | f2⟩ := fi
        all_goals
          simp only [f1, f2] at K' ⊢
          try simp (maxSteps := 2000000) only [↓reduceIte, wp_eq, wpd_eq, kont_eq, STP1, STP2, STP3, STP4, STP5, konM_eq, AMK, CZ, Option.map, List.getElem?_cons_zero, List.getElem?_cons_succ, List.mem_cons, List.not_mem_nil, if_false, if_true, Nat.reduceAdd, Nat.reduceLT, Nat.reduceLeDiff, Nat.reduceEqDiff, true_and, and_true, List.length_nil, List.length_cons, or_true, true_or, or_false, false_or, Option.some.injEq, Sum.inl.injEq, Sum.inr.injEq, exists_eq_left', exists_eq_left, Int.reduceLE, Int.reduceLT, Int.reduceNeg, Int.reduceAdd, Int.reduceMul, Int.reduceSub, Int.reduceToNat, inR, Nat.zero_ne_one, false_and, Nat.succ_ne_zero, reduceCtorEq, false_implies, true_implies, not_false_eq_true, not_true_eq_false, Int.reduceEq, KRE, C_RingDater_countUnlikeYears, FR, c2', f1, f2]
          repeat (first | refine ⟨by omega, ?_⟩ | refine ⟨fun _ _ => okt_nn (by omega), ?_⟩)
          try (first | (show _ ≤ _; omega) | (show _ < _; omega))
          exact K' _
    · rw [if_neg c1] at eF ⊢
      subst eF
      simp (maxSteps := 2000000) only [↓reduceIte, wp_eq, wpd_eq, kont_eq, STP1, STP2, STP3, STP4, STP5, konM_eq, AMK, CZ, Option.map, List.getElem?_cons_zero, List.getElem?_cons_succ, List.mem_cons, List.not_mem_nil, if_false, if_true, Nat.reduceAdd, Nat.reduceLT, Nat.reduceLeDiff, Nat.reduceEqDiff, true_and, and_true, List.length_nil, List.length_cons, or_true, true_or, or_false, false_or, Option.some.injEq, Sum.inl.injEq, Sum.inr.injEq, exists_eq_left', exists_eq_left, Int.reduceLE, Int.reduceLT, Int.reduceNeg, Int.reduceAdd, Int.reduceMul, Int.reduceSub, Int.reduceToNat, inR, Nat.zero_ne_one, false_and, Nat.succ_ne_zero, reduceCtorEq, false_implies, true_implies, not_false_eq_true, not_true_eq_false, Int.reduceEq, KRE, C_RingDater_countUnlikeYears, FR]
      exact K' _
def lokN (U : Nat → Int) (k : Nat) : Int × Int := foldN (fun t x => if x.2 < U t then ((t : Int), U t) else x) (-1, 0) k
set_option maxHeartbeats 600000 in
set_option maxRecDepth 20000 in
theorem RingDater_look_ok {n m c : Nat} {T : Nat → Rw} {Y N Z : Nat → Int} {lap bnd mrg w : Int} {M : Mm} (h : cls M n T Y lap bnd mrg) (hn : nts M n m N Z) (hc : gwC T lap 50 mrg n Y c) (hw : w = 0 ∨ w = 1) : CallI m_RingDater_look [.inr 0, .inl w] M (fun y M' => y = (if w = 0 then (lokN (fun t => (unN (gwP T lap 50 mrg n Y) Y c m N Z t 51).1 + (unN (gwP T lap 50 mrg n Y) Y c m N Z t 51).2) n).1 else (lokN (fun t => (unN (gwP T lap 50 mrg n Y) Y c m N Z t 51).1 + (unN (gwP T lap 50 mrg n Y) Y c m N Z t 51).2) n).2) ∧ cls M' n T Y lap bnd mrg ∧ FrP scrF M M') := by
  have l0 := isStk_76.1
  have k0 : kc (lay 0) 11 = True := FR.1
  have k68 : kc (lay 68) 2 = True := FG.1
  have w1 : ¬ w < 0 := by omega
  have w2 : w ≤ 1 := by omega
  refine callP_of (by decide) (by decide) (Nat.le_of_ble_eq_true rfl) (wpm_of (cuts := [42]) (by decide) 60 _ _ _ _ ?_)
  rw [show lM m_RingDater_look = 6 from rfl]
  simp (maxSteps := 2000000) only [↓reduceIte, wp_eq, wpd_eq, kont_eq, STP1, STP2, STP3, STP4, STP5, konM_eq, AMK, CZ, Option.map, List.getElem?_cons_zero, List.getElem?_cons_succ, List.mem_cons, List.not_mem_nil, if_false, if_true, Nat.reduceAdd, Nat.reduceLT, Nat.reduceLeDiff, Nat.reduceEqDiff, true_and, and_true, List.length_nil, List.length_cons, or_true, true_or, or_false, false_or, Option.some.injEq, Sum.inl.injEq, Sum.inr.injEq, exists_eq_left', exists_eq_left, Int.reduceLE, Int.reduceLT, Int.reduceNeg, Int.reduceAdd, Int.reduceMul, Int.reduceSub, Int.reduceToNat, inR, Nat.zero_ne_one, false_and, Nat.succ_ne_zero, reduceCtorEq, false_implies, true_implies, not_false_eq_true, not_true_eq_false, Int.reduceEq, KRE, C_RingDater_look, FR, l0, k68, w1, w2]
  repeat (first | refine ⟨by omega, ?_⟩ | refine ⟨fun _ _ => okt_nn (by omega), ?_⟩)
  try (first | (show _ ≤ _; omega) | (show _ < _; omega))
  refine (run_cls h (by omega)).mono (fun x M1 z => ?_)
  obtain ⟨d, z1, z2, z3, z4, z5, z6⟩ := z
  obtain rfl := gwC_u z3 hc
  have n1 := nts_fr hn z6
  have e3 := z5.2.1.1
  have n8 := z5.2.1.2
  have uI : ∀ t : Nat, 0 ≤ (unN (gwP T lap 50 mrg n Y) Y d m N Z t 51).1 + (unN (gwP T lap 50 mrg n Y) Y d m N Z t 51).2 ∧ (unN (gwP T lap 50 mrg n Y) Y d m N Z t 51).1 + (unN (gwP T lap 50 mrg n Y) Y d m N Z t 51).2 ≤ 2 := fun t => by
    have := unN_in (gwP T lap 50 mrg n Y) Y d m N Z t 51
    omega
  have hU := fun t ht => RingDater_countUnlikeYears_ok (t := t) z5 n1 z3 z4 ht
  generalize hUd : (fun t : Nat => (unN (gwP T lap 50 mrg n Y) Y d m N Z t 51).1 + (unN (gwP T lap 50 mrg n Y) Y d m N Z t 51).2) = U at *
  have uE : ∀ t : Nat, (unN (gwP T lap 50 mrg n Y) Y d m N Z t 51).1 + (unN (gwP T lap 50 mrg n Y) Y d m N Z t 51).2 = U t := fun t => by rw [← hUd]
  simp only [uE] at uI hU
  have lI : ∀ k : Nat, 0 ≤ (lokN U k).2 ∧ (lokN U k).2 ≤ 2 := by
    intro k
    induction k with
    | zero => exact ⟨show (0 : Int) ≤ 0 by decide, show (0 : Int) ≤ 2 by decide⟩
    | succ k ih =>
      have := uI k
      unfold lokN at *
      rw [foldN]
      split
      · exact this
      · exact ih
  clear hUd uE
  refine loopQ n (fun k ls M2 => M1 = M2 ∧ ∃ a5, ls = [some (.inr 0), some (.inl w), some (.inl (lokN U k).1), some (.inl (lokN U k).2), some (.inl k), a5]) ?_ _ _ ⟨rfl, none, rfl⟩
  rintro k _ _ hk ⟨rfl, a5, rfl⟩ K
  have li := lI k
  by_cases hz : (n : Int) ≤ k
  · obtain rfl : k = n := by omega
    clear K hU
    generalize lokN U k = X at *
    rcases hw with rfl | rfl
    · refine wpm_of (cuts := [42]) (by decide) 60 _ _ _ _ ?_
      simp (maxSteps := 2000000) only [↓reduceIte, wp_eq, wpd_eq, kont_eq, STP1, STP2, STP3, STP4, STP5, konM_eq, AMK, CZ, Option.map, List.getElem?_cons_zero, List.getElem?_cons_succ, List.mem_cons, List.not_mem_nil, if_false, if_true, Nat.reduceAdd, Nat.reduceLT, Nat.reduceLeDiff, Nat.reduceEqDiff, true_and, and_true, List.length_nil, List.length_cons, or_true, true_or, or_false, false_or, Option.some.injEq, Sum.inl.injEq, Sum.inr.injEq, exists_eq_left', exists_eq_left, Int.reduceLE, Int.reduceLT, Int.reduceNeg, Int.reduceAdd, Int.reduceMul, Int.reduceSub, Int.reduceToNat, inR, Nat.zero_ne_one, false_and, Nat.succ_ne_zero, reduceCtorEq, false_implies, true_implies, not_false_eq_true, not_true_eq_false, Int.reduceEq, KRE, C_RingDater_look, FR, l0, e3, hz]
      repeat (first | refine ⟨by omega, ?_⟩ | refine ⟨fun _ _ => okt_nn (by omega), ?_⟩)
      try (first | (show _ ≤ _; omega) | (show _ < _; omega))
      first | exact ⟨rfl, z5, z6⟩ | exact ⟨z5, z6⟩ | exact z6
    · refine wpm_of (cuts := [42]) (by decide) 60 _ _ _ _ ?_
      simp (maxSteps := 2000000) only [↓reduceIte, wp_eq, wpd_eq, kont_eq, STP1, STP2, STP3, STP4, STP5, konM_eq, AMK, CZ, Option.map, List.getElem?_cons_zero, List.getElem?_cons_succ, List.mem_cons, List.not_mem_nil, if_false, if_true, Nat.reduceAdd, Nat.reduceLT, Nat.reduceLeDiff, Nat.reduceEqDiff, true_and, and_true, List.length_nil, List.length_cons, or_true, true_or, or_false, false_or, Option.some.injEq, Sum.inl.injEq, Sum.inr.injEq, exists_eq_left', exists_eq_left, Int.reduceLE, Int.reduceLT, Int.reduceNeg, Int.reduceAdd, Int.reduceMul, Int.reduceSub, Int.reduceToNat, inR, Nat.zero_ne_one, false_and, Nat.succ_ne_zero, reduceCtorEq, false_implies, true_implies, not_false_eq_true, not_true_eq_false, Int.reduceEq, KRE, C_RingDater_look, FR, l0, e3, hz]
      repeat (first | refine ⟨by omega, ?_⟩ | refine ⟨fun _ _ => okt_nn (by omega), ?_⟩)
      try (first | (show _ ≤ _; omega) | (show _ < _; omega))
      first | exact ⟨rfl, z5, z6⟩ | exact ⟨z5, z6⟩ | exact z6
  · refine wpm_of (cuts := [42]) (by decide) 60 _ _ _ _ ?_
    simp (maxSteps := 2000000) only [↓reduceIte, wp_eq, wpd_eq, kont_eq, STP1, STP2, STP3, STP4, STP5, konM_eq, AMK, CZ, Option.map, List.getElem?_cons_zero, List.getElem?_cons_succ, List.mem_cons, List.not_mem_nil, if_false, if_true, Nat.reduceAdd, Nat.reduceLT, Nat.reduceLeDiff, Nat.reduceEqDiff, true_and, and_true, List.length_nil, List.length_cons, or_true, true_or, or_false, false_or, Option.some.injEq, Sum.inl.injEq, Sum.inr.injEq, exists_eq_left', exists_eq_left, Int.reduceLE, Int.reduceLT, Int.reduceNeg, Int.reduceAdd, Int.reduceMul, Int.reduceSub, Int.reduceToNat, inR, Nat.zero_ne_one, false_and, Nat.succ_ne_zero, reduceCtorEq, false_implies, true_implies, not_false_eq_true, not_true_eq_false, Int.reduceEq, KRE, C_RingDater_look, FR, l0, e3, hz, k0]
    repeat (first | refine ⟨by omega, ?_⟩ | refine ⟨fun _ _ => okt_nn (by omega), ?_⟩)
    try (first | (show _ ≤ _; omega) | (show _ < _; omega))
    refine (hU k (by omega)).eq ?_
    have K' := fun a5 => K (by omega) _ _ ⟨rfl, a5, rfl⟩
    have eF : lokN U (k + 1) = if (lokN U k).2 < U k then ((k : Int), U k) else lokN U k := rfl
    have ui := uI k
    generalize lokN U (k + 1) = X1 at *
    generalize lokN U k = X at *
    refine ⟨by omega, by omega, fun e => ?_, fun e => ?_⟩
    · rw [if_neg (by omega)] at eF
      subst eF
      exact K' _
    · rw [if_pos (by omega)] at eF
      subst eF
      exact K' _
