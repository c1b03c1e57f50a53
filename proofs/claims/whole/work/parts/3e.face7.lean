/-! THE FACE: help, chance. -/
theorem hlp_in {T A : Rw} {lap : Int} (hT : okT T) (hA : 0 ≤ A.2.1 ∧ A.2.1 ≤ 924) : (∀ k : Nat, (k : Int) ≤ T.2.1 → (0 ≤ (hlpL T A lap k).2 ∧ (hlpL T A lap k).2 ≤ 100) ∧ (0 ≤ (hlpL T A lap k).1 ∧ (hlpL T A lap k).1 ≤ 400)) ∧ ∀ k : Nat, (k : Int) ≤ T.2.1 → (0 ≤ (hlpG T A lap k).2 ∧ (hlpG T A lap k).2 ≤ 100) ∧ (0 ≤ (hlpG T A lap k).1 ∧ (hlpG T A lap k).1 ≤ 400) := by
  have l3 := hT.1
  have s0 := scF_in (okB_best (A := A) (B := T) (lap := lap) hA (by omega))
  have h1 : ∀ k : Nat, (k : Int) ≤ T.2.1 → (0 ≤ (hlpL T A lap k).2 ∧ (hlpL T A lap k).2 ≤ 100) ∧ (0 ≤ (hlpL T A lap k).1 ∧ (hlpL T A lap k).1 ≤ 400) := by
    intro k
    induction k with
    | zero => exact fun _ => ⟨s0, ⟨show (0 : Int) ≤ 0 by decide, show (0 : Int) ≤ 400 by decide⟩⟩
    | succ k ih =>
      intro hk
      have i := ih (by omega)
      have s := scF_in (okB_best (A := A) (B := rwRem T k) (lap := lap) hA (by show 0 ≤ T.2.1 - 1 ∧ T.2.1 - 1 ≤ 30; omega))
      unfold hlpL at *
      rw [foldN]
      split
      · simp only
        omega
      · exact i
  refine ⟨h1, fun k => ?_⟩
  induction k with
  | zero => exact fun _ => h1 _ (by omega)
  | succ k ih =>
    intro hk
    have i := ih (by omega)
    have s := scF_in (okB_best (A := A) (B := rwIns T k 1) (lap := lap) hA (by show 0 ≤ T.2.1 + 1 ∧ T.2.1 + 1 ≤ 30; omega))
    unfold hlpG at *
    rw [foldN]
    split
    · simp only
      omega
    · exact i
set_option maxHeartbeats 600000 in
set_option maxRecDepth 20000 in
theorem RingDater_help_ok {n t : Nat} {T : Nat → Rw} {Y : Nat → Int} {lap bnd mrg w : Int} {M : Mm} (h : cls M n T Y lap bnd mrg) (ht : t < n) (hY : Y t = -1) (hw : w = 0 ∨ w = 1) : CallI m_RingDater_help [.inr 0, .inl t, .inl w] M (fun y M' => y = (if w = 0 then (hlpG (T t) (chr T Y (-1) n) lap (T t).2.1.toNat).1 else (hlpG (T t) (chr T Y (-1) n) lap (T t).2.1.toNat).2) ∧ cls M' n T Y lap bnd mrg ∧ FrP scrF M M') := by
  have l0 := isStk_76.1
  have k0 : kc (lay 0) 11 = True := FR.1
  have k76 : kc (lay 76) 8 = True := by rw [l0]; exact eq_true rfl
  have r3 := h.2.1.1
  have n8 := h.2.1.2
  have hv := h.1.1.1
  obtain ⟨t1, t2, t3, t4, t5, t6, t7⟩ := cls_tm h ht
  have hA2 := (chr_R (wo := -1) h.2.2.2.2.2.2).2
  obtain ⟨hI1, hI2⟩ := hlp_in (lap := lap) t5 hA2
  have l3 := t5.1
  have w1 : ¬ w < 0 := by omega
  have w2 : w ≤ 1 := by omega
  refine callP_of (by decide) (by decide) (Nat.le_of_ble_eq_true rfl) (wpm_of (cuts := [73, 118]) (by decide) 60 _ _ _ _ ?_)
  rw [show lM m_RingDater_help = 8 from rfl]
  simp (maxSteps := 2000000) only [↓reduceIte, wp_eq, wpd_eq, kont_eq, STP1, STP2, STP3, STP4, STP5, konM_eq, AMK, CZ, Option.map, List.getElem?_cons_zero, List.getElem?_cons_succ, List.mem_cons, List.not_mem_nil, if_false, if_true, Nat.reduceAdd, Nat.reduceLT, Nat.reduceLeDiff, Nat.reduceEqDiff, true_and, and_true, List.length_nil, List.length_cons, or_true, true_or, or_false, false_or, Option.some.injEq, Sum.inl.injEq, Sum.inr.injEq, exists_eq_left', exists_eq_left, Int.reduceLE, Int.reduceLT, Int.reduceNeg, Int.reduceAdd, Int.reduceMul, Int.reduceSub, Int.reduceToNat, inR, Nat.zero_ne_one, false_and, Nat.succ_ne_zero, reduceCtorEq, false_implies, true_implies, not_false_eq_true, not_true_eq_false, Int.reduceEq, KRE, C_RingDater_help, FR, l0, k76, k0, w1, w2]
  repeat (first | refine ⟨by omega, ?_⟩ | refine ⟨fun _ _ => okt_nn (by omega), ?_⟩)
  try (first | (show _ ≤ _; omega) | (show _ < _; omega))
  refine (Stock_has_ok (t := (t : Int)) isStk_76 ⟨by omega, by omega⟩ hv).eq ?_
  rw [if_pos ⟨by omega, by omega⟩]
  simp (maxSteps := 2000000) only [↓reduceIte, wp_eq, wpd_eq, kont_eq, STP1, STP2, STP3, STP4, STP5, konM_eq, AMK, CZ, Option.map, List.getElem?_cons_zero, List.getElem?_cons_succ, List.mem_cons, List.not_mem_nil, if_false, if_true, Nat.reduceAdd, Nat.reduceLT, Nat.reduceLeDiff, Nat.reduceEqDiff, true_and, and_true, List.length_nil, List.length_cons, or_true, true_or, or_false, false_or, Option.some.injEq, Sum.inl.injEq, Sum.inr.injEq, exists_eq_left', exists_eq_left, Int.reduceLE, Int.reduceLT, Int.reduceNeg, Int.reduceAdd, Int.reduceMul, Int.reduceSub, Int.reduceToNat, inR, Nat.zero_ne_one, false_and, Nat.succ_ne_zero, reduceCtorEq, false_implies, true_implies, not_false_eq_true, not_true_eq_false, Int.reduceEq, KRE, C_RingDater_help, FR, l0, k76]
  repeat (first | refine ⟨by omega, ?_⟩ | refine ⟨fun _ _ => okt_nn (by omega), ?_⟩)
  try (first | (show _ ≤ _; omega) | (show _ < _; omega))
  refine (Stock_isDated_ok (t := (t : Int)) isStk_76 ⟨by omega, by omega⟩ hv).eq ?_
  rw [t6, hY, if_neg (fun z => z rfl)]
  try simp (maxSteps := 2000000) only [↓reduceIte, wp_eq, wpd_eq, kont_eq, STP1, STP2, STP3, STP4, STP5, konM_eq, AMK, CZ, Option.map, List.getElem?_cons_zero, List.getElem?_cons_succ, List.mem_cons, List.not_mem_nil, if_false, if_true, Nat.reduceAdd, Nat.reduceLT, Nat.reduceLeDiff, Nat.reduceEqDiff, true_and, and_true, List.length_nil, List.length_cons, or_true, true_or, or_false, false_or, Option.some.injEq, Sum.inl.injEq, Sum.inr.injEq, exists_eq_left', exists_eq_left, Int.reduceLE, Int.reduceLT, Int.reduceNeg, Int.reduceAdd, Int.reduceMul, Int.reduceSub, Int.reduceToNat, inR, Nat.zero_ne_one, false_and, Nat.succ_ne_zero, reduceCtorEq, false_implies, true_implies, not_false_eq_true, not_true_eq_false, Int.reduceEq, KRE, C_RingDater_help, FR, l0, k76, k0]
  repeat (first | refine ⟨by omega, ?_⟩ | refine ⟨fun _ _ => okt_nn (by omega), ?_⟩)
  try (first | (show _ ≤ _; omega) | (show _ < _; omega))
  refine (Stock_timberAt_ok (t := (t : Int)) isStk_76 ⟨by omega, by omega⟩ hv).eq ?_
  rw [t1]
  try simp (maxSteps := 2000000) only [↓reduceIte, wp_eq, wpd_eq, kont_eq, STP1, STP2, STP3, STP4, STP5, konM_eq, AMK, CZ, Option.map, List.getElem?_cons_zero, List.getElem?_cons_succ, List.mem_cons, List.not_mem_nil, if_false, if_true, Nat.reduceAdd, Nat.reduceLT, Nat.reduceLeDiff, Nat.reduceEqDiff, true_and, and_true, List.length_nil, List.length_cons, or_true, true_or, or_false, false_or, Option.some.injEq, Sum.inl.injEq, Sum.inr.injEq, exists_eq_left', exists_eq_left, Int.reduceLE, Int.reduceLT, Int.reduceNeg, Int.reduceAdd, Int.reduceMul, Int.reduceSub, Int.reduceToNat, inR, Nat.zero_ne_one, false_and, Nat.succ_ne_zero, reduceCtorEq, false_implies, true_implies, not_false_eq_true, not_true_eq_false, Int.reduceEq, KRE, C_RingDater_help, FR, l0, k76, k0]
  refine (RingDater_layChronology_ok h).mono (fun M1 z => ?_)
  obtain ⟨z1, z2, z3, h1, f1⟩ := z
  obtain ⟨-, -, a3, a4, -⟩ := cls_tm h1 ht
  generalize chr T Y (-1) n = A at *
  refine (RingDater_scoreHere_ok h1 t2 a3 (by rw [a4]; exact t5) (by omega) z1).mono (fun x M2 q => ?_)
  obtain ⟨rfl, h2, q2, q3⟩ := q
  rw [a4]
  have f2 : FrP scrF M M2 := f1.tr (q3.wd (fun b j p => by unfold scrF; omega))
  refine loopQ (T t).2.1.toNat (fun k ls M3 => (cls M3 n T Y lap bnd mrg ∧ finR M3 48 924 A ∧ FrP scrF M M3) ∧ ∃ a7, ls = [some (.inr 0), some (.inl t), some (.inl w), some (.inr (82 + 3 * t)), some (.inl (hlpL (T t) A lap k).1), some (.inl (hlpL (T t) A lap k).2), some (.inl k), a7]) ?_ _ _ ⟨⟨h2, q2, f2⟩, none, rfl⟩
  clear h2 q2 q3 f2 M2
  rintro k _ M3 hk ⟨⟨h3, g3, f3⟩, a7, rfl⟩ K
  obtain ⟨-, -, b3, b4, -⟩ := cls_tm h3 ht
  have eR : M3 (82 + 3 * t) 2 = (T t).2.1 := by rw [← b4]; rfl
  by_cases hz : (T t).2.1 ≤ (k : Int)
  · refine wpm_of (cuts := [73, 118]) (by decide) 60 _ _ _ _ ?_
    simp (maxSteps := 2000000) only [↓reduceIte, wp_eq, wpd_eq, kont_eq, STP1, STP2, STP3, STP4, STP5, konM_eq, AMK, CZ, Option.map, List.getElem?_cons_zero, List.getElem?_cons_succ, List.mem_cons, List.not_mem_nil, if_false, if_true, Nat.reduceAdd, Nat.reduceLT, Nat.reduceLeDiff, Nat.reduceEqDiff, true_and, and_true, List.length_nil, List.length_cons, or_true, true_or, or_false, false_or, Option.some.injEq, Sum.inl.injEq, Sum.inr.injEq, exists_eq_left', exists_eq_left, Int.reduceLE, Int.reduceLT, Int.reduceNeg, Int.reduceAdd, Int.reduceMul, Int.reduceSub, Int.reduceToNat, inR, Nat.zero_ne_one, false_and, Nat.succ_ne_zero, reduceCtorEq, false_implies, true_implies, not_false_eq_true, not_true_eq_false, Int.reduceEq, KRE, C_RingDater_help, FR, t2.1, eR, hz]
    repeat (first | refine ⟨by omega, ?_⟩ | refine ⟨fun _ _ => okt_nn (by omega), ?_⟩)
    try (first | (show _ ≤ _; omega) | (show _ < _; omega))
    clear K
    rw [show k = (T t).2.1.toNat by omega]
    refine loopQ ((T t).2.1.toNat - 1) (fun k ls M3 => (cls M3 n T Y lap bnd mrg ∧ finR M3 48 924 A ∧ FrP scrF M M3) ∧ ∃ a7, ls = [some (.inr 0), some (.inl t), some (.inl w), some (.inr (82 + 3 * t)), some (.inl (hlpG (T t) A lap (k + 1)).1), some (.inl (hlpG (T t) A lap (k + 1)).2), some (.inl (k + 1 : Nat)), a7]) ?_ _ _ ⟨⟨h3, g3, f3⟩, a7, ?_⟩
    · clear hz hk h3 g3 f3 b3 b4 eR M3 k
      rintro k _ M3 hk ⟨⟨h3, g3, f3⟩, a7, rfl⟩ K
      obtain ⟨-, -, b3, b4, -⟩ := cls_tm h3 ht
      have eR : M3 (82 + 3 * t) 2 = (T t).2.1 := by rw [← b4]; rfl
      have hI := hI2 (k + 1) (by omega)
      by_cases hz : (T t).2.1 ≤ (k + 1 : Nat)
      · have e : k + 1 = (T t).2.1.toNat := by omega
        rw [e] at hI hz ⊢
        rcases hw with rfl | rfl
        · refine wpm_of (cuts := [118]) (by decide) 60 _ _ _ _ ?_
          simp (maxSteps := 2000000) only [↓reduceIte, wp_eq, wpd_eq, kont_eq, STP1, STP2, STP3, STP4, STP5, konM_eq, AMK, CZ, Option.map, List.getElem?_cons_zero, List.getElem?_cons_succ, List.mem_cons, List.not_mem_nil, if_false, if_true, Nat.reduceAdd, Nat.reduceLT, Nat.reduceLeDiff, Nat.reduceEqDiff, true_and, and_true, List.length_nil, List.length_cons, or_true, true_or, or_false, false_or, Option.some.injEq, Sum.inl.injEq, Sum.inr.injEq, exists_eq_left', exists_eq_left, Int.reduceLE, Int.reduceLT, Int.reduceNeg, Int.reduceAdd, Int.reduceMul, Int.reduceSub, Int.reduceToNat, inR, Nat.zero_ne_one, false_and, Nat.succ_ne_zero, reduceCtorEq, false_implies, true_implies, not_false_eq_true, not_true_eq_false, Int.reduceEq, KRE, C_RingDater_help, FR, t2.1, eR, hz]
          repeat (first | refine ⟨by omega, ?_⟩ | refine ⟨fun _ _ => okt_nn (by omega), ?_⟩)
          try (first | (show _ ≤ _; omega) | (show _ < _; omega))
          first | exact ⟨rfl, h3, f3⟩ | exact ⟨h3, f3⟩ | exact f3
        · refine wpm_of (cuts := [118]) (by decide) 60 _ _ _ _ ?_
          simp (maxSteps := 2000000) only [↓reduceIte, wp_eq, wpd_eq, kont_eq, STP1, STP2, STP3, STP4, STP5, konM_eq, AMK, CZ, Option.map, List.getElem?_cons_zero, List.getElem?_cons_succ, List.mem_cons, List.not_mem_nil, if_false, if_true, Nat.reduceAdd, Nat.reduceLT, Nat.reduceLeDiff, Nat.reduceEqDiff, true_and, and_true, List.length_nil, List.length_cons, or_true, true_or, or_false, false_or, Option.some.injEq, Sum.inl.injEq, Sum.inr.injEq, exists_eq_left', exists_eq_left, Int.reduceLE, Int.reduceLT, Int.reduceNeg, Int.reduceAdd, Int.reduceMul, Int.reduceSub, Int.reduceToNat, inR, Nat.zero_ne_one, false_and, Nat.succ_ne_zero, reduceCtorEq, false_implies, true_implies, not_false_eq_true, not_true_eq_false, Int.reduceEq, KRE, C_RingDater_help, FR, t2.1, eR, hz]
          repeat (first | refine ⟨by omega, ?_⟩ | refine ⟨fun _ _ => okt_nn (by omega), ?_⟩)
          try (first | (show _ ≤ _; omega) | (show _ < _; omega))
          first | exact ⟨rfl, h3, f3⟩ | exact ⟨h3, f3⟩ | exact f3
      · refine wpm_of (cuts := [118]) (by decide) 60 _ _ _ _ ?_
        simp (maxSteps := 2000000) only [↓reduceIte, wp_eq, wpd_eq, kont_eq, STP1, STP2, STP3, STP4, STP5, konM_eq, AMK, CZ, Option.map, List.getElem?_cons_zero, List.getElem?_cons_succ, List.mem_cons, List.not_mem_nil, if_false, if_true, Nat.reduceAdd, Nat.reduceLT, Nat.reduceLeDiff, Nat.reduceEqDiff, true_and, and_true, List.length_nil, List.length_cons, or_true, true_or, or_false, false_or, Option.some.injEq, Sum.inl.injEq, Sum.inr.injEq, exists_eq_left', exists_eq_left, Int.reduceLE, Int.reduceLT, Int.reduceNeg, Int.reduceAdd, Int.reduceMul, Int.reduceSub, Int.reduceToNat, inR, Nat.zero_ne_one, false_and, Nat.succ_ne_zero, reduceCtorEq, false_implies, true_implies, not_false_eq_true, not_true_eq_false, Int.reduceEq, KRE, C_RingDater_help, FR, t2.1, eR, hz, k0]
        repeat (first | refine ⟨by omega, ?_⟩ | refine ⟨fun _ _ => okt_nn (by omega), ?_⟩)
        try (first | (show _ ≤ _; omega) | (show _ < _; omega))
        refine (RingDater_scoreWithOneMore_ok (r := (k + 1 : Nat)) h3 ht ⟨by omega, by omega⟩ g3).mono (fun x M4 q => ?_)
        obtain ⟨q1, q2, q3, q4, q5⟩ := q
        have f4 : FrP scrF M M4 := f3.tr (q5.wd (fun b j p => by unfold scrF; omega))
        have sI := scF_in (okB_best (A := A) (B := rwIns (T t) (k + 1 : Nat) 1) (lap := lap) hA2 (by show 0 ≤ (T t).2.1 + 1 ∧ (T t).2.1 + 1 ≤ 30; omega))
        have K' := fun a7 => K (by omega) _ M4 ⟨⟨q3, q4, f4⟩, a7, rfl⟩
        have eG : hlpG (T t) A lap (k + 1 + 1) = if (T t).2.1 < 24 ∧ 1 ≤ k + 1 ∧ (hlpG (T t) A lap (k + 1)).2 < scF (best A (rwIns (T t) (k + 1 : Nat) 1) lap) then (200 + ((k + 1 : Nat) : Int), scF (best A (rwIns (T t) (k + 1 : Nat) 1) lap)) else hlpG (T t) A lap (k + 1) := rfl
        generalize hlpG (T t) A lap (k + 1 + 1) = X1 at *
        generalize hlpG (T t) A lap (k + 1) = X at *
        by_cases c : canG (T t) (k + 1 : Nat)
        · obtain rfl := q1 c
          refine ⟨by omega, by omega, fun e => ?_, fun e => ?_⟩
          · rw [if_neg (by omega)] at eG
            rw [eG] at K'
            exact K' _
          · rw [if_pos ⟨c.1, by omega, by omega⟩] at eG
            rw [eG] at K'
            exact K' _
        · obtain rfl := q2 c
          have : ¬ ((T t).2.1 < 24) := fun z => c ⟨z, by omega, by omega⟩
          rw [if_neg (by omega)] at eG
          rw [eG] at K'
          refine ⟨by omega, by omega, fun e => K' _, fun e => absurd e (by omega)⟩
    · have e1 : hlpG (T t) A lap (0 + 1) = hlpL (T t) A lap (T t).2.1.toNat := if_neg (fun z => absurd z.2.1 (by decide))
      rw [e1]
      rfl
  · have hI := hI1 k (by omega)
    refine wpm_of (cuts := [73, 118]) (by decide) 60 _ _ _ _ ?_
    simp (maxSteps := 2000000) only [↓reduceIte, wp_eq, wpd_eq, kont_eq, STP1, STP2, STP3, STP4, STP5, konM_eq, AMK, CZ, Option.map, List.getElem?_cons_zero, List.getElem?_cons_succ, List.mem_cons, List.not_mem_nil, if_false, if_true, Nat.reduceAdd, Nat.reduceLT, Nat.reduceLeDiff, Nat.reduceEqDiff, true_and, and_true, List.length_nil, List.length_cons, or_true, true_or, or_false, false_or, Option.some.injEq, Sum.inl.injEq, Sum.inr.injEq, exists_eq_left', exists_eq_left, Int.reduceLE, Int.reduceLT, Int.reduceNeg, Int.reduceAdd, Int.reduceMul, Int.reduceSub, Int.reduceToNat, inR, Nat.zero_ne_one, false_and, Nat.succ_ne_zero, reduceCtorEq, false_implies, true_implies, not_false_eq_true, not_true_eq_false, Int.reduceEq, KRE, C_RingDater_help, FR, t2.1, eR, hz, k0]
    repeat (first | refine ⟨by omega, ?_⟩ | refine ⟨fun _ _ => okt_nn (by omega), ?_⟩)
    try (first | (show _ ≤ _; omega) | (show _ < _; omega))
    refine (RingDater_scoreWithout_ok (r := (k : Int)) h3 ht ⟨by omega, by omega⟩ g3).mono (fun x M4 q => ?_)
    obtain ⟨q1, q2, q3, q4, q5⟩ := q
    have f4 : FrP scrF M M4 := f3.tr (q5.wd (fun b j p => by unfold scrF; omega))
    have sI := scF_in (okB_best (A := A) (B := rwRem (T t) k) (lap := lap) hA2 (by show 0 ≤ (T t).2.1 - 1 ∧ (T t).2.1 - 1 ≤ 30; omega))
    have K' := fun a7 => K (by omega) _ M4 ⟨⟨q3, q4, f4⟩, a7, rfl⟩
    have eL : hlpL (T t) A lap (k + 1) = if 3 < (T t).2.1 ∧ (T t).2.2 k ≠ 0 ∧ (hlpL (T t) A lap k).2 < scF (best A (rwRem (T t) k) lap) then (100 + (k : Int), scF (best A (rwRem (T t) k) lap)) else hlpL (T t) A lap k := rfl
    generalize hlpL (T t) A lap (k + 1) = X1 at *
    generalize hlpL (T t) A lap k = X at *
    by_cases c : canL (T t) k
    · obtain rfl := q1 c
      refine ⟨by omega, by omega, fun e => ?_, fun e => ?_⟩
      · rw [if_neg (by omega)] at eL
        rw [eL] at K'
        exact K' _
      · rw [if_pos ⟨c.1, c.2.2.2, by omega⟩] at eL
        rw [eL] at K'
        exact K' _
    · obtain rfl := q2 c
      have nc : ¬ (3 < (T t).2.1 ∧ (T t).2.2 k ≠ 0 ∧ X.2 < scF (best A (rwRem (T t) k) lap)) := fun z => c ⟨z.1, by omega, by omega, z.2.1⟩
      rw [if_neg nc] at eL
      rw [eL] at K'
      refine ⟨by omega, by omega, fun e => K' _, fun e => absurd e (by omega)⟩
/-- the row drawn from a seed -/
def dRw (x : Int) (c : Int) : Rw := (fun j => if (j : Int) < c then drG x j else 0, c, fun _ => 0)
theorem tRw_drw {M : Mm} {x c : Int} : tRw (mDrw M 73 (drG x) c) 73 = dRw x c := by
  have e2 : mDrw M 73 (drG x) c 73 2 = c := by simp [mDrw]
  unfold tRw dRw
  rw [e2]
  refine Prod.ext (funext fun j => ?_) (Prod.ext rfl (funext fun j => ?_))
  · simp only [mDrw]
    grind
  · simp only [mDrw]
    grind
theorem okT_drw {x c : Int} (h : 3 ≤ c ∧ c ≤ 24) : okT (dRw x c) := by
  refine ⟨h, fun j hj => ?_, fun j hj => Or.inl rfl⟩
  have hj' : (j : Int) < c := hj
  simp only [dRw]
  rw [if_pos hj']
  exact drw_in _
theorem lcgN_add (x : Int) (a : Nat) : ∀ b : Nat, lcgN (a + b) x = lcgN b (lcgN a x)
  | 0 => rfl
  | b + 1 => by rw [← Nat.add_assoc, lcgN, lcgN, lcgN_add x a b]
def chcS (A : Rw) (own lap seed c : Int) (k : Nat) : Int := scF (best A (dRw (lcgN (c.toNat * k) seed) c) lap)
/-- CHANCE: how often, the greatest, all together -/
def chcN (A : Rw) (own lap seed c : Int) (k : Nat) : Int × Int × Int := foldN (fun i x => (x.1 + (if own ≤ chcS A own lap seed c i then 1 else 0), max x.2.1 (chcS A own lap seed c i), x.2.2 + chcS A own lap seed c i)) (0, 0, 0) k
theorem chc_in {A : Rw} {own lap seed c : Int} (hA : 0 ≤ A.2.1 ∧ A.2.1 ≤ 924) (hc : 3 ≤ c ∧ c ≤ 24) : ∀ k : Nat, (0 ≤ (chcN A own lap seed c k).1 ∧ (chcN A own lap seed c k).1 ≤ k) ∧ (0 ≤ (chcN A own lap seed c k).2.1 ∧ (chcN A own lap seed c k).2.1 ≤ 100) ∧ (0 ≤ (chcN A own lap seed c k).2.2 ∧ (chcN A own lap seed c k).2.2 ≤ 100 * k)
  | 0 => ⟨⟨show (0 : Int) ≤ 0 by decide, show (0 : Int) ≤ 0 by decide⟩, ⟨show (0 : Int) ≤ 0 by decide, show (0 : Int) ≤ 100 by decide⟩, ⟨show (0 : Int) ≤ 0 by decide, show (0 : Int) ≤ 100 * 0 by decide⟩⟩
  | k + 1 => by
    have i := chc_in (own := own) (lap := lap) (seed := seed) hA hc k
    have s : 0 ≤ chcS A own lap seed c k ∧ chcS A own lap seed c k ≤ 100 := scF_in (okB_best (A := A) (lap := lap) hA (by show 0 ≤ c ∧ c ≤ 30; omega))
    unfold chcN at *
    rw [foldN]
    simp only
    refine ⟨?_, ?_, ?_⟩
    · split <;> omega
    · omega
    · omega
set_option maxHeartbeats 600000 in
set_option maxRecDepth 20000 in
theorem RingDater_chance_ok {n t m : Nat} {T : Nat → Rw} {Y : Nat → Int} {lap bnd mrg seed w : Int} {M : Mm} (h : cls M n T Y lap bnd mrg) (ht : t < n) (hm : m ≤ 40) (hw : 0 ≤ w ∧ w ≤ 2) : CallI m_RingDater_chance [.inr 0, .inl t, .inl seed, .inl m, .inl w] M (fun y M' => y = (if w = 0 then (chcN (chr T Y (-1) n) (scF (best (chr T Y (-1) n) (T t) lap)) lap seed (T t).2.1 m).1 else if w = 1 then (chcN (chr T Y (-1) n) (scF (best (chr T Y (-1) n) (T t) lap)) lap seed (T t).2.1 m).2.1 else (chcN (chr T Y (-1) n) (scF (best (chr T Y (-1) n) (T t) lap)) lap seed (T t).2.1 m).2.2) ∧ cls M' n T Y lap bnd mrg ∧ FrP scrF M M') := by
  have l0 := isStk_76.1
  have k0 : kc (lay 0) 11 = True := FR.1
  have k73 : kc (lay 73) 9 = True := by rw [isTim_73.1]; exact eq_true rfl
  have k76 : kc (lay 76) 8 = True := by rw [l0]; exact eq_true rfl
  have r3 := h.2.1.1
  have n8 := h.2.1.2
  have hv := h.1.1.1
  obtain ⟨t1, t2, t3, t4, t5, t6, t7⟩ := cls_tm h ht
  have hA2 := (chr_R (wo := -1) h.2.2.2.2.2.2).2
  have l3 := t5.1
  have w1 : ¬ w < 0 := by omega
  have w2 : w ≤ 2 := by omega
  have m1 : ¬ (m : Int) < 0 := by omega
  have m2 : (m : Int) ≤ 40 := by omega
  refine callP_of (by decide) (by decide) (Nat.le_of_ble_eq_true rfl) (wpm_of (cuts := [85]) (by decide) 60 _ _ _ _ ?_)
  rw [show lM m_RingDater_chance = 13 from rfl]
  simp (maxSteps := 2000000) only [↓reduceIte, wp_eq, wpd_eq, kont_eq, STP1, STP2, STP3, STP4, STP5, konM_eq, AMK, CZ, Option.map, List.getElem?_cons_zero, List.getElem?_cons_succ, List.mem_cons, List.not_mem_nil, if_false, if_true, Nat.reduceAdd, Nat.reduceLT, Nat.reduceLeDiff, Nat.reduceEqDiff, true_and, and_true, List.length_nil, List.length_cons, or_true, true_or, or_false, false_or, Option.some.injEq, Sum.inl.injEq, Sum.inr.injEq, exists_eq_left', exists_eq_left, Int.reduceLE, Int.reduceLT, Int.reduceNeg, Int.reduceAdd, Int.reduceMul, Int.reduceSub, Int.reduceToNat, inR, Nat.zero_ne_one, false_and, Nat.succ_ne_zero, reduceCtorEq, false_implies, true_implies, not_false_eq_true, not_true_eq_false, Int.reduceEq, KRE, C_RingDater_chance, FR, l0, k76, k0, w1, w2, m1, m2]
  repeat (first | refine ⟨by omega, ?_⟩ | refine ⟨fun _ _ => okt_nn (by omega), ?_⟩)
  try (first | (show _ ≤ _; omega) | (show _ < _; omega))
  refine (Stock_has_ok (t := (t : Int)) isStk_76 ⟨by omega, by omega⟩ hv).eq ?_
  rw [if_pos ⟨by omega, by omega⟩]
  simp (maxSteps := 2000000) only [↓reduceIte, wp_eq, wpd_eq, kont_eq, STP1, STP2, STP3, STP4, STP5, konM_eq, AMK, CZ, Option.map, List.getElem?_cons_zero, List.getElem?_cons_succ, List.mem_cons, List.not_mem_nil, if_false, if_true, Nat.reduceAdd, Nat.reduceLT, Nat.reduceLeDiff, Nat.reduceEqDiff, true_and, and_true, List.length_nil, List.length_cons, or_true, true_or, or_false, false_or, Option.some.injEq, Sum.inl.injEq, Sum.inr.injEq, exists_eq_left', exists_eq_left, Int.reduceLE, Int.reduceLT, Int.reduceNeg, Int.reduceAdd, Int.reduceMul, Int.reduceSub, Int.reduceToNat, inR, Nat.zero_ne_one, false_and, Nat.succ_ne_zero, reduceCtorEq, false_implies, true_implies, not_false_eq_true, not_true_eq_false, Int.reduceEq, KRE, C_RingDater_chance, FR, l0, k76, k0]
  repeat (first | refine ⟨by omega, ?_⟩ | refine ⟨fun _ _ => okt_nn (by omega), ?_⟩)
  try (first | (show _ ≤ _; omega) | (show _ < _; omega))
  refine (Stock_timberAt_ok (t := (t : Int)) isStk_76 ⟨by omega, by omega⟩ hv).eq ?_
  rw [t1]
  try simp (maxSteps := 2000000) only [↓reduceIte, wp_eq, wpd_eq, kont_eq, STP1, STP2, STP3, STP4, STP5, konM_eq, AMK, CZ, Option.map, List.getElem?_cons_zero, List.getElem?_cons_succ, List.mem_cons, List.not_mem_nil, if_false, if_true, Nat.reduceAdd, Nat.reduceLT, Nat.reduceLeDiff, Nat.reduceEqDiff, true_and, and_true, List.length_nil, List.length_cons, or_true, true_or, or_false, false_or, Option.some.injEq, Sum.inl.injEq, Sum.inr.injEq, exists_eq_left', exists_eq_left, Int.reduceLE, Int.reduceLT, Int.reduceNeg, Int.reduceAdd, Int.reduceMul, Int.reduceSub, Int.reduceToNat, inR, Nat.zero_ne_one, false_and, Nat.succ_ne_zero, reduceCtorEq, false_implies, true_implies, not_false_eq_true, not_true_eq_false, Int.reduceEq, KRE, C_RingDater_chance, FR, l0, k76, k0]
  refine (RingDater_layChronology_ok h).mono (fun M1 z => ?_)
  obtain ⟨z1, z2, z3, h1, f1⟩ := z
  obtain ⟨-, -, a3, a4, -⟩ := cls_tm h1 ht
  generalize chr T Y (-1) n = A at *
  refine (RingDater_scoreHere_ok h1 t2 a3 (by rw [a4]; exact t5) (by omega) z1).mono (fun x M2 q => ?_)
  obtain ⟨rfl, h2, q2, q3⟩ := q
  rw [a4]
  have oI := scF_in (okB_best (A := A) (B := T t) (lap := lap) hA2 (by omega))
  generalize scF (best A (T t) lap) = own at *
  have f2 : FrP scrF M M2 := f1.tr (q3.wd (fun b j p => by unfold scrF; omega))
  refine loopQ m (fun k ls M3 => (cls M3 n T Y lap bnd mrg ∧ finR M3 48 924 A ∧ FrP scrF M M3) ∧ ∃ a12, ls = [some (.inr 0), some (.inl t), some (.inl seed), some (.inl m), some (.inl w), some (.inr (82 + 3 * t)), some (.inl own), some (.inl (chcN A own lap seed (T t).2.1 k).1), some (.inl (chcN A own lap seed (T t).2.1 k).2.1), some (.inl (chcN A own lap seed (T t).2.1 k).2.2), some (.inl (lcgN ((T t).2.1.toNat * k) seed)), some (.inl k), a12]) ?_ _ _ ⟨⟨h2, q2, f2⟩, none, rfl⟩
  clear h2 q2 q3 f2 M2
  rintro k _ M3 hk ⟨⟨h3, g3, f3⟩, a12, rfl⟩ K
  obtain ⟨-, -, b3, b4, -⟩ := cls_tm h3 ht
  have eR : M3 (82 + 3 * t) 2 = (T t).2.1 := by rw [← b4]; rfl
  have ci := chc_in (A := A) (own := own) (lap := lap) (seed := seed) hA2 l3 k
  by_cases hz : (m : Int) ≤ k
  · obtain rfl : k = m := by omega
    clear K
    generalize chcN A own lap seed (T t).2.1 k = X at *
    rcases (show w = 0 ∨ w = 1 ∨ w = 2 by omega) with rfl | rfl | rfl
    · refine wpm_of (cuts := [85]) (by decide) 60 _ _ _ _ ?_
      simp (maxSteps := 2000000) only [↓reduceIte, wp_eq, wpd_eq, kont_eq, STP1, STP2, STP3, STP4, STP5, konM_eq, AMK, CZ, Option.map, List.getElem?_cons_zero, List.getElem?_cons_succ, List.mem_cons, List.not_mem_nil, if_false, if_true, Nat.reduceAdd, Nat.reduceLT, Nat.reduceLeDiff, Nat.reduceEqDiff, true_and, and_true, List.length_nil, List.length_cons, or_true, true_or, or_false, false_or, Option.some.injEq, Sum.inl.injEq, Sum.inr.injEq, exists_eq_left', exists_eq_left, Int.reduceLE, Int.reduceLT, Int.reduceNeg, Int.reduceAdd, Int.reduceMul, Int.reduceSub, Int.reduceToNat, inR, Nat.zero_ne_one, false_and, Nat.succ_ne_zero, reduceCtorEq, false_implies, true_implies, not_false_eq_true, not_true_eq_false, Int.reduceEq, KRE, C_RingDater_chance, FR, hz]
      repeat (first | refine ⟨by omega, ?_⟩ | refine ⟨fun _ _ => okt_nn (by omega), ?_⟩)
      try (first | (show _ ≤ _; omega) | (show _ < _; omega))
      first | exact ⟨rfl, h3, f3⟩ | exact ⟨h3, f3⟩ | exact f3
    · refine wpm_of (cuts := [85]) (by decide) 60 _ _ _ _ ?_
      simp (maxSteps := 2000000) only [↓reduceIte, wp_eq, wpd_eq, kont_eq, STP1, STP2, STP3, STP4, STP5, konM_eq, AMK, CZ, Option.map, List.getElem?_cons_zero, List.getElem?_cons_succ, List.mem_cons, List.not_mem_nil, if_false, if_true, Nat.reduceAdd, Nat.reduceLT, Nat.reduceLeDiff, Nat.reduceEqDiff, true_and, and_true, List.length_nil, List.length_cons, or_true, true_or, or_false, false_or, Option.some.injEq, Sum.inl.injEq, Sum.inr.injEq, exists_eq_left', exists_eq_left, Int.reduceLE, Int.reduceLT, Int.reduceNeg, Int.reduceAdd, Int.reduceMul, Int.reduceSub, Int.reduceToNat, inR, Nat.zero_ne_one, false_and, Nat.succ_ne_zero, reduceCtorEq, false_implies, true_implies, not_false_eq_true, not_true_eq_false, Int.reduceEq, KRE, C_RingDater_chance, FR, hz]
      repeat (first | refine ⟨by omega, ?_⟩ | refine ⟨fun _ _ => okt_nn (by omega), ?_⟩)
      try (first | (show _ ≤ _; omega) | (show _ < _; omega))
      first | exact ⟨rfl, h3, f3⟩ | exact ⟨h3, f3⟩ | exact f3
    · refine wpm_of (cuts := [85]) (by decide) 60 _ _ _ _ ?_
      simp (maxSteps := 2000000) only [↓reduceIte, wp_eq, wpd_eq, kont_eq, STP1, STP2, STP3, STP4, STP5, konM_eq, AMK, CZ, Option.map, List.getElem?_cons_zero, List.getElem?_cons_succ, List.mem_cons, List.not_mem_nil, if_false, if_true, Nat.reduceAdd, Nat.reduceLT, Nat.reduceLeDiff, Nat.reduceEqDiff, true_and, and_true, List.length_nil, List.length_cons, or_true, true_or, or_false, false_or, Option.some.injEq, Sum.inl.injEq, Sum.inr.injEq, exists_eq_left', exists_eq_left, Int.reduceLE, Int.reduceLT, Int.reduceNeg, Int.reduceAdd, Int.reduceMul, Int.reduceSub, Int.reduceToNat, inR, Nat.zero_ne_one, false_and, Nat.succ_ne_zero, reduceCtorEq, false_implies, true_implies, not_false_eq_true, not_true_eq_false, Int.reduceEq, KRE, C_RingDater_chance, FR, hz]
      repeat (first | refine ⟨by omega, ?_⟩ | refine ⟨fun _ _ => okt_nn (by omega), ?_⟩)
      try (first | (show _ ≤ _; omega) | (show _ < _; omega))
      first | exact ⟨rfl, h3, f3⟩ | exact ⟨h3, f3⟩ | exact f3
  · refine wpm_of (cuts := [85]) (by decide) 60 _ _ _ _ ?_
    simp (maxSteps := 2000000) only [↓reduceIte, wp_eq, wpd_eq, kont_eq, STP1, STP2, STP3, STP4, STP5, konM_eq, AMK, CZ, Option.map, List.getElem?_cons_zero, List.getElem?_cons_succ, List.mem_cons, List.not_mem_nil, if_false, if_true, Nat.reduceAdd, Nat.reduceLT, Nat.reduceLeDiff, Nat.reduceEqDiff, true_and, and_true, List.length_nil, List.length_cons, or_true, true_or, or_false, false_or, Option.some.injEq, Sum.inl.injEq, Sum.inr.injEq, exists_eq_left', exists_eq_left, Int.reduceLE, Int.reduceLT, Int.reduceNeg, Int.reduceAdd, Int.reduceMul, Int.reduceSub, Int.reduceToNat, inR, Nat.zero_ne_one, false_and, Nat.succ_ne_zero, reduceCtorEq, false_implies, true_implies, not_false_eq_true, not_true_eq_false, Int.reduceEq, KRE, C_RingDater_chance, FR, hz, k0, k73, t2.1, eR]
    repeat (first | refine ⟨by omega, ?_⟩ | refine ⟨fun _ _ => okt_nn (by omega), ?_⟩)
    try (first | (show _ ≤ _; omega) | (show _ < _; omega))
    generalize hsd : lcgN ((T t).2.1.toNat * k) seed = sd at *
    refine (Timber_drawRings_ok (x := sd) isTim_73 h3.1.2.2 (by omega) (by omega)).eq ?_
    have o2 : ∀ b j, (b < 73 ∨ 76 ≤ b) → mDrw M3 73 (drG sd) (T t).2.1 b j = M3 b j := fun b j q => by
      simp only [mDrw]
      rw [if_neg (by omega), if_neg (by omega), if_neg (by omega), if_neg (by omega)]
    have wD := mDrw_wf (M := M3) (g := drG sd) (i := (T t).2.1) isTim_73 h3.1.2.2 (by omega) (by omega) (fun j => drw_in _)
    have eD := tRw_drw (M := M3) (x := sd) (c := (T t).2.1)
    generalize mDrw M3 73 (drG sd) (T t).2.1 = M4 at *
    have f4 : FrP (fun b _ => 73 ≤ b ∧ b < 76) M3 M4 := fun b j q => o2 b j (by omega)
    have b4' : benOK M4 := ⟨rowOK_cells (fun b p1 p2 j => o2 b j (by omega)) h3.1.2.1.1, rowOK_cells (fun b p1 p2 j => o2 b j (by omega)) h3.1.2.1.2.1, rowOK_cells (fun b p1 p2 j => o2 b j (by omega)) h3.1.2.1.2.2⟩
    have c4 := cls_fr h3 f4 (fun b j q => by omega) b4' wD
    try simp (maxSteps := 2000000) only [↓reduceIte, wp_eq, wpd_eq, kont_eq, STP1, STP2, STP3, STP4, STP5, konM_eq, AMK, CZ, Option.map, List.getElem?_cons_zero, List.getElem?_cons_succ, List.mem_cons, List.not_mem_nil, if_false, if_true, Nat.reduceAdd, Nat.reduceLT, Nat.reduceLeDiff, Nat.reduceEqDiff, true_and, and_true, List.length_nil, List.length_cons, or_true, true_or, or_false, false_or, Option.some.injEq, Sum.inl.injEq, Sum.inr.injEq, exists_eq_left', exists_eq_left, Int.reduceLE, Int.reduceLT, Int.reduceNeg, Int.reduceAdd, Int.reduceMul, Int.reduceSub, Int.reduceToNat, inR, Nat.zero_ne_one, false_and, Nat.succ_ne_zero, reduceCtorEq, false_implies, true_implies, not_false_eq_true, not_true_eq_false, Int.reduceEq, KRE, C_RingDater_chance, FR, k0, k73]
    repeat (first | refine ⟨by omega, ?_⟩ | refine ⟨fun _ _ => okt_nn (by omega), ?_⟩)
    try (first | (show _ ≤ _; omega) | (show _ < _; omega))
    refine (RingDater_scoreHere_ok (A := A) c4.1 isTim_73 wD (by rw [eD]; exact okT_drw l3) (by omega) (finR_cells (fun b p1 p2 j => o2 b j (by omega)) g3)).mono (fun x M5 q => ?_)
    obtain ⟨rfl, q1, q2, q3⟩ := q
    rw [eD]
    have f5 : FrP scrF M M5 := (f3.tr c4.2).tr (q3.wd (fun b j p => by unfold scrF; omega))
    have K' := fun a12 => K (by omega) _ M5 ⟨⟨q1, q2, f5⟩, a12, rfl⟩
    have eS : chcS A own lap seed (T t).2.1 k = scF (best A (dRw sd (T t).2.1) lap) := by unfold chcS; rw [hsd]
    rw [show chcN A own lap seed (T t).2.1 (k + 1) = ((chcN A own lap seed (T t).2.1 k).1 + (if own ≤ chcS A own lap seed (T t).2.1 k then 1 else 0), max (chcN A own lap seed (T t).2.1 k).2.1 (chcS A own lap seed (T t).2.1 k), (chcN A own lap seed (T t).2.1 k).2.2 + chcS A own lap seed (T t).2.1 k) from rfl, eS, Nat.mul_succ, lcgN_add, hsd] at K'
    simp only at K'
    have sI := scF_in (okB_best (A := A) (B := dRw sd (T t).2.1) (lap := lap) hA2 (by show 0 ≤ (T t).2.1 ∧ (T t).2.1 ≤ 30; omega))
    generalize scF (best A (dRw sd (T t).2.1) lap) = S at *
    generalize chcN A own lap seed (T t).2.1 k = X at *
    refine ⟨by omega, by omega, fun e => ?_, fun e => ?_⟩
    · rw [if_neg (show ¬ own ≤ S by omega)] at K'
      exact ⟨by omega, by omega, K' _⟩
    · rw [if_pos (show own ≤ S by omega)] at K'
      exact ⟨by omega, by omega, K' _⟩
