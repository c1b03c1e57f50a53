/-! THE REFERENCE, 9b: what count asks for. -/
section MODZ
variable {n : Nat} {T : Nat → Rw} {Y : Nat → Int} {lap bnd mrg : Int} {M : Mm}
theorem sumN_01 {f : Nat → Int} (hf : ∀ j, 0 ≤ f j ∧ f j ≤ 1) (n : Nat) : 0 ≤ sumN f n ∧ sumN f n ≤ n := by
  have := sumN_in (f := f) (a := 0) (b := 1) (n := n) (fun j _ => hf j)
  omega
set_option maxHeartbeats 600000 in
set_option maxRecDepth 20000 in
theorem Model_pieces_ok (h : mdl M n T Y lap bnd mrg) : CallI m_Model_pieces [.inr 154] M (fun x M' => x = sumN (fun t => if (pcN (lks T lap bnd mrg n n).2 (lks T lap bnd mrg n n).1).1 t = t then 1 else 0) n ∧ FrP linkP M M') := by
  refine callP_of (by decide) (by decide) (Nat.le_of_ble_eq_true rfl) (wpm_of (cuts := [8]) (by decide) 50 _ _ _ _ ?_)
  rw [show lM m_Model_pieces = 3 from rfl]
  simp (maxSteps := 2000000) only [↓reduceIte, wp_eq, wpd_eq, kont_eq, STP1, STP2, STP3, STP4, STP5, konM_eq, AMK, CZ, Option.map, List.getElem?_cons_zero, List.getElem?_cons_succ, List.mem_cons, List.not_mem_nil, if_false, if_true, Nat.reduceAdd, Nat.reduceLT, Nat.reduceLeDiff, Nat.reduceEqDiff, true_and, and_true, List.length_nil, List.length_cons, or_true, true_or, or_false, false_or, Option.some.injEq, Sum.inl.injEq, Sum.inr.injEq, exists_eq_left', exists_eq_left, Int.reduceLE, Int.reduceLT, Int.reduceNeg, Int.reduceAdd, Int.reduceMul, Int.reduceSub, Int.reduceToNat, inR, Nat.zero_ne_one, false_and, Nat.succ_ne_zero, reduceCtorEq, false_implies, true_implies, not_false_eq_true, not_true_eq_false, Int.reduceEq, KRE, C_Model_pieces, FM]
  refine (Model_tellLinks_ok h).mono (fun M1 z => ?_)
  obtain ⟨⟨l1, l2, l3, l4, l5, l6, l7⟩, F1⟩ := z
  have h1 := mdl_fr h F1 (fun b j z => by unfold linkP at z; omega)
  have en := h1.1.1
  have n8 := h1.1.2
  have pI := pcI_N l1 _ (Nat.le_refl _)
  try simp (maxSteps := 2000000) only [↓reduceIte, wp_eq, wpd_eq, kont_eq, STP1, STP2, STP3, STP4, STP5, konM_eq, AMK, CZ, Option.map, List.getElem?_cons_zero, List.getElem?_cons_succ, List.mem_cons, List.not_mem_nil, if_false, if_true, Nat.reduceAdd, Nat.reduceLT, Nat.reduceLeDiff, Nat.reduceEqDiff, true_and, and_true, List.length_nil, List.length_cons, or_true, true_or, or_false, false_or, Option.some.injEq, Sum.inl.injEq, Sum.inr.injEq, exists_eq_left', exists_eq_left, Int.reduceLE, Int.reduceLT, Int.reduceNeg, Int.reduceAdd, Int.reduceMul, Int.reduceSub, Int.reduceToNat, inR, Nat.zero_ne_one, false_and, Nat.succ_ne_zero, reduceCtorEq, false_implies, true_implies, not_false_eq_true, not_true_eq_false, Int.reduceEq, KRE, C_Model_pieces]
  generalize pcN (lks T lap bnd mrg n n).2 (lks T lap bnd mrg n n).1 = X at *
  refine loopQ n (fun k ls M2 => M1 = M2 ∧ ls = [some (.inr 154), some (.inl (sumN (fun t => if X.1 t = t then 1 else 0) k)), some (.inl (k : Int))]) ?_ _ _ ⟨rfl, rfl⟩
  rintro k _ _ hk ⟨rfl, rfl⟩ K
  by_cases c : k = n
  · subst c
    have c' := eq_true (show (k : Int) ≤ k by omega)
    refine wpm_of (cuts := [8]) (by decide) 50 _ _ _ _ ?_
    simp (maxSteps := 2000000) only [↓reduceIte, wp_eq, wpd_eq, kont_eq, STP1, STP2, STP3, STP4, STP5, konM_eq, AMK, CZ, Option.map, List.getElem?_cons_zero, List.getElem?_cons_succ, List.mem_cons, List.not_mem_nil, if_false, if_true, Nat.reduceAdd, Nat.reduceLT, Nat.reduceLeDiff, Nat.reduceEqDiff, true_and, and_true, List.length_nil, List.length_cons, or_true, true_or, or_false, false_or, Option.some.injEq, Sum.inl.injEq, Sum.inr.injEq, exists_eq_left', exists_eq_left, Int.reduceLE, Int.reduceLT, Int.reduceNeg, Int.reduceAdd, Int.reduceMul, Int.reduceSub, Int.reduceToNat, inR, Nat.zero_ne_one, false_and, Nat.succ_ne_zero, reduceCtorEq, false_implies, true_implies, not_false_eq_true, not_true_eq_false, Int.reduceEq, KRE, C_Model_pieces, FM, en, c']
    repeat (first | refine ⟨by omega, ?_⟩ | refine ⟨fun _ _ => okt_nn (by omega), ?_⟩)
    try (first | (show _ ≤ _; omega) | (show _ < _; omega))
    exact F1
  · have hlt : k < n := by omega
    have c' := eq_false (show ¬ (n : Int) ≤ k by omega)
    have K' := K hlt _ _ ⟨rfl, rfl⟩
    rw [show sumN (fun t => if X.1 t = t then 1 else 0) (k + 1) = sumN (fun t => if X.1 t = t then 1 else 0) k + (if X.1 k = k then 1 else 0) from rfl] at K'
    have e6 := l6 k hlt
    have pk := (pI.1 k (by omega)).1
    by_cases cp : X.1 k = k
    · rw [if_pos cp] at K'
      have cp' := eq_true cp
      refine wpm_of (cuts := [8]) (by decide) 50 _ _ _ _ ?_
      simp (maxSteps := 2000000) only [↓reduceIte, wp_eq, wpd_eq, kont_eq, STP1, STP2, STP3, STP4, STP5, konM_eq, AMK, CZ, Option.map, List.getElem?_cons_zero, List.getElem?_cons_succ, List.mem_cons, List.not_mem_nil, if_false, if_true, Nat.reduceAdd, Nat.reduceLT, Nat.reduceLeDiff, Nat.reduceEqDiff, true_and, and_true, List.length_nil, List.length_cons, or_true, true_or, or_false, false_or, Option.some.injEq, Sum.inl.injEq, Sum.inr.injEq, exists_eq_left', exists_eq_left, Int.reduceLE, Int.reduceLT, Int.reduceNeg, Int.reduceAdd, Int.reduceMul, Int.reduceSub, Int.reduceToNat, inR, Nat.zero_ne_one, false_and, Nat.succ_ne_zero, reduceCtorEq, false_implies, true_implies, not_false_eq_true, not_true_eq_false, Int.reduceEq, KRE, C_Model_pieces, FM, en, c', natT, e6, cp']
      repeat (first | refine ⟨by omega, ?_⟩ | refine ⟨fun _ _ => okt_nn (by omega), ?_⟩)
      try (first | (show _ ≤ _; omega) | (show _ < _; omega))
      exact K'
    · rw [if_neg cp] at K'
      have cp' := eq_false cp
      refine wpm_of (cuts := [8]) (by decide) 50 _ _ _ _ ?_
      simp (maxSteps := 2000000) only [↓reduceIte, wp_eq, wpd_eq, kont_eq, STP1, STP2, STP3, STP4, STP5, konM_eq, AMK, CZ, Option.map, List.getElem?_cons_zero, List.getElem?_cons_succ, List.mem_cons, List.not_mem_nil, if_false, if_true, Nat.reduceAdd, Nat.reduceLT, Nat.reduceLeDiff, Nat.reduceEqDiff, true_and, and_true, List.length_nil, List.length_cons, or_true, true_or, or_false, false_or, Option.some.injEq, Sum.inl.injEq, Sum.inr.injEq, exists_eq_left', exists_eq_left, Int.reduceLE, Int.reduceLT, Int.reduceNeg, Int.reduceAdd, Int.reduceMul, Int.reduceSub, Int.reduceToNat, inR, Nat.zero_ne_one, false_and, Nat.succ_ne_zero, reduceCtorEq, false_implies, true_implies, not_false_eq_true, not_true_eq_false, Int.reduceEq, KRE, C_Model_pieces, FM, en, c', natT, e6, cp']
      repeat (first | refine ⟨by omega, ?_⟩ | refine ⟨fun _ _ => okt_nn (by omega), ?_⟩)
      try (first | (show _ ≤ _; omega) | (show _ < _; omega))
      exact K'
theorem ag_eq {X : Lks} {M1 : Mm} (hA : lkAll n X) (hq : mqI n (fun t => M1 173 t, fun t => M1 174 t) (pcN X.2 X.1)) {i : Nat} (hi : i < X.1) (h0 : pcT X.2 i = 0) : M1 174 (X.2 1 i).toNat - M1 174 (X.2 0 i).toNat = (pcN X.2 X.1).2 (X.2 1 i).toNat - (pcN X.2 X.1).2 (X.2 0 i).toNat := by
  obtain ⟨a0, a1⟩ := hA i hi
  exact (hq (X.2 0 i).toNat (X.2 1 i).toNat (by omega) (by omega)).2 (pcT_stay h0 _ (by omega))
set_option maxHeartbeats 600000 in
set_option maxRecDepth 20000 in
theorem Model_against_ok (h : mdl M n T Y lap bnd mrg) : CallI m_Model_against [.inr 154] M (fun x M' => x = sumN (agF (lks T lap bnd mrg n n) (pcN (lks T lap bnd mrg n n).2 (lks T lap bnd mrg n n).1).2) (lks T lap bnd mrg n n).1 ∧ FrP linkP M M') := by
  refine callP_of (by decide) (by decide) (Nat.le_of_ble_eq_true rfl) (wpm_of (cuts := [8]) (by decide) 50 _ _ _ _ ?_)
  rw [show lM m_Model_against = 3 from rfl]
  simp (maxSteps := 2000000) only [↓reduceIte, wp_eq, wpd_eq, kont_eq, STP1, STP2, STP3, STP4, STP5, konM_eq, AMK, CZ, Option.map, List.getElem?_cons_zero, List.getElem?_cons_succ, List.mem_cons, List.not_mem_nil, if_false, if_true, Nat.reduceAdd, Nat.reduceLT, Nat.reduceLeDiff, Nat.reduceEqDiff, true_and, and_true, List.length_nil, List.length_cons, or_true, true_or, or_false, false_or, Option.some.injEq, Sum.inl.injEq, Sum.inr.injEq, exists_eq_left', exists_eq_left, Int.reduceLE, Int.reduceLT, Int.reduceNeg, Int.reduceAdd, Int.reduceMul, Int.reduceSub, Int.reduceToNat, inR, Nat.zero_ne_one, false_and, Nat.succ_ne_zero, reduceCtorEq, false_implies, true_implies, not_false_eq_true, not_true_eq_false, Int.reduceEq, KRE, C_Model_against, FM]
  refine (Model_tellLinks_ok h).mono (fun M1 z => ?_)
  obtain ⟨⟨l1, l2, l3, l4, l5, l6, l7⟩, F1⟩ := z
  have n8 := h.1.2
  have pI := pcI_N l1 _ (Nat.le_refl _)
  have ag := fun {i} => ag_eq (i := i) l2 l7
  try simp (maxSteps := 2000000) only [↓reduceIte, wp_eq, wpd_eq, kont_eq, STP1, STP2, STP3, STP4, STP5, konM_eq, AMK, CZ, Option.map, List.getElem?_cons_zero, List.getElem?_cons_succ, List.mem_cons, List.not_mem_nil, if_false, if_true, Nat.reduceAdd, Nat.reduceLT, Nat.reduceLeDiff, Nat.reduceEqDiff, true_and, and_true, List.length_nil, List.length_cons, or_true, true_or, or_false, false_or, Option.some.injEq, Sum.inl.injEq, Sum.inr.injEq, exists_eq_left', exists_eq_left, Int.reduceLE, Int.reduceLT, Int.reduceNeg, Int.reduceAdd, Int.reduceMul, Int.reduceSub, Int.reduceToNat, inR, Nat.zero_ne_one, false_and, Nat.succ_ne_zero, reduceCtorEq, false_implies, true_implies, not_false_eq_true, not_true_eq_false, Int.reduceEq, KRE, C_Model_against]
  generalize lks T lap bnd mrg n n = X at *
  refine loopQ X.1 (fun k ls M2 => M1 = M2 ∧ ls = [some (.inr 154), some (.inl (sumN (agF X (pcN X.2 X.1).2) k)), some (.inl (k : Int))]) ?_ _ _ ⟨rfl, rfl⟩
  rintro k _ _ hk ⟨rfl, rfl⟩ K
  have x28 := l1.1
  by_cases c : k = X.1
  · subst c
    have c' := eq_true (show (X.1 : Int) ≤ X.1 by omega)
    refine wpm_of (cuts := [8]) (by decide) 50 _ _ _ _ ?_
    simp (maxSteps := 2000000) only [↓reduceIte, wp_eq, wpd_eq, kont_eq, STP1, STP2, STP3, STP4, STP5, konM_eq, AMK, CZ, Option.map, List.getElem?_cons_zero, List.getElem?_cons_succ, List.mem_cons, List.not_mem_nil, if_false, if_true, Nat.reduceAdd, Nat.reduceLT, Nat.reduceLeDiff, Nat.reduceEqDiff, true_and, and_true, List.length_nil, List.length_cons, or_true, true_or, or_false, false_or, Option.some.injEq, Sum.inl.injEq, Sum.inr.injEq, exists_eq_left', exists_eq_left, Int.reduceLE, Int.reduceLT, Int.reduceNeg, Int.reduceAdd, Int.reduceMul, Int.reduceSub, Int.reduceToNat, inR, Nat.zero_ne_one, false_and, Nat.succ_ne_zero, reduceCtorEq, false_implies, true_implies, not_false_eq_true, not_true_eq_false, Int.reduceEq, KRE, C_Model_against, FM, l4, c']
    repeat (first | refine ⟨by omega, ?_⟩ | refine ⟨fun _ _ => okt_nn (by omega), ?_⟩)
    try (first | (show _ ≤ _; omega) | (show _ < _; omega))
    exact F1
  · have hlt : k < X.1 := by omega
    have c' := eq_false (show ¬ (X.1 : Int) ≤ k by omega)
    have K' := K hlt _ _ ⟨rfl, rfl⟩
    have ea : agF X (pcN X.2 X.1).2 k = if pcT X.2 k = 0 ∧ (pcN X.2 X.1).2 (X.2 1 k).toNat - (pcN X.2 X.1).2 (X.2 0 k).toNat ≠ X.2 2 k then 1 else 0 := rfl
    rw [show sumN (agF X (pcN X.2 X.1).2) (k + 1) = sumN (agF X (pcN X.2 X.1).2) k + agF X (pcN X.2 X.1).2 k from rfl, ea] at K'
    obtain ⟨a0, a1⟩ := l2 k hlt
    have g0 : M1 169 k = X.2 0 k := l3 0 (by omega) k hlt
    have g1 : M1 170 k = X.2 1 k := l3 1 (by omega) k hlt
    have g2 : M1 171 k = X.2 2 k := l3 2 (by omega) k hlt
    have e5 := l5 k hlt
    have q0 := (pcI_in pI (t := (X.2 0 k).toNat) (by omega)).1
    have q1 := (pcI_in pI (t := (X.2 1 k).toNat) (by omega)).1
    have rk := (l1.2 k hlt).2.2.1
    have e7 := ag hlt
    by_cases cT : pcT X.2 k = 0
    · have e7 := e7 cT
      have cT' := eq_true cT
      by_cases cd : (pcN X.2 X.1).2 (X.2 1 k).toNat - (pcN X.2 X.1).2 (X.2 0 k).toNat = X.2 2 k
      · rw [if_neg (fun z => z.2 cd)] at K'
        have cd' := eq_true (e7.trans cd)
        refine wpm_of (cuts := [8]) (by decide) 60 _ _ _ _ ?_
        simp (maxSteps := 2000000) only [↓reduceIte, wp_eq, wpd_eq, kont_eq, STP1, STP2, STP3, STP4, STP5, konM_eq, AMK, CZ, Option.map, List.getElem?_cons_zero, List.getElem?_cons_succ, List.mem_cons, List.not_mem_nil, if_false, if_true, Nat.reduceAdd, Nat.reduceLT, Nat.reduceLeDiff, Nat.reduceEqDiff, true_and, and_true, List.length_nil, List.length_cons, or_true, true_or, or_false, false_or, Option.some.injEq, Sum.inl.injEq, Sum.inr.injEq, exists_eq_left', exists_eq_left, Int.reduceLE, Int.reduceLT, Int.reduceNeg, Int.reduceAdd, Int.reduceMul, Int.reduceSub, Int.reduceToNat, inR, Nat.zero_ne_one, false_and, Nat.succ_ne_zero, reduceCtorEq, false_implies, true_implies, not_false_eq_true, not_true_eq_false, Int.reduceEq, KRE, C_Model_against, FM, l4, c', natT, g0, g1, g2, e5, cT, cd']
        repeat (first | refine ⟨by omega, ?_⟩ | refine ⟨fun _ _ => okt_nn (by omega), ?_⟩)
        try (first | (show _ ≤ _; omega) | (show _ < _; omega))
        exact K'
      · rw [if_pos ⟨cT, cd⟩] at K'
        have cd' := eq_false (fun z => cd (e7.symm.trans z))
        refine wpm_of (cuts := [8]) (by decide) 60 _ _ _ _ ?_
        simp (maxSteps := 2000000) only [↓reduceIte, wp_eq, wpd_eq, kont_eq, STP1, STP2, STP3, STP4, STP5, konM_eq, AMK, CZ, Option.map, List.getElem?_cons_zero, List.getElem?_cons_succ, List.mem_cons, List.not_mem_nil, if_false, if_true, Nat.reduceAdd, Nat.reduceLT, Nat.reduceLeDiff, Nat.reduceEqDiff, true_and, and_true, List.length_nil, List.length_cons, or_true, true_or, or_false, false_or, Option.some.injEq, Sum.inl.injEq, Sum.inr.injEq, exists_eq_left', exists_eq_left, Int.reduceLE, Int.reduceLT, Int.reduceNeg, Int.reduceAdd, Int.reduceMul, Int.reduceSub, Int.reduceToNat, inR, Nat.zero_ne_one, false_and, Nat.succ_ne_zero, reduceCtorEq, false_implies, true_implies, not_false_eq_true, not_true_eq_false, Int.reduceEq, KRE, C_Model_against, FM, l4, c', natT, g0, g1, g2, e5, cT, cd']
        repeat (first | refine ⟨by omega, ?_⟩ | refine ⟨fun _ _ => okt_nn (by omega), ?_⟩)
        try (first | (show _ ≤ _; omega) | (show _ < _; omega))
        exact K'
    · rw [if_neg (fun z => cT z.1)] at K'
      have e1 : pcT X.2 k = 1 := by
        unfold pcT at cT ⊢
        split
        · rfl
        · rename_i z
          rw [if_neg z] at cT
          exact absurd rfl cT
      have one0 := eq_false (show ¬ (1 : Int) = 0 by omega)
      refine wpm_of (cuts := [8]) (by decide) 60 _ _ _ _ ?_
      simp (maxSteps := 2000000) only [↓reduceIte, wp_eq, wpd_eq, kont_eq, STP1, STP2, STP3, STP4, STP5, konM_eq, AMK, CZ, Option.map, List.getElem?_cons_zero, List.getElem?_cons_succ, List.mem_cons, List.not_mem_nil, if_false, if_true, Nat.reduceAdd, Nat.reduceLT, Nat.reduceLeDiff, Nat.reduceEqDiff, true_and, and_true, List.length_nil, List.length_cons, or_true, true_or, or_false, false_or, Option.some.injEq, Sum.inl.injEq, Sum.inr.injEq, exists_eq_left', exists_eq_left, Int.reduceLE, Int.reduceLT, Int.reduceNeg, Int.reduceAdd, Int.reduceMul, Int.reduceSub, Int.reduceToNat, inR, Nat.zero_ne_one, false_and, Nat.succ_ne_zero, reduceCtorEq, false_implies, true_implies, not_false_eq_true, not_true_eq_false, Int.reduceEq, KRE, C_Model_against, FM, l4, c', natT, e5, e1, one0]
      repeat (first | refine ⟨by omega, ?_⟩ | refine ⟨fun _ _ => okt_nn (by omega), ?_⟩)
      try (first | (show _ ≤ _; omega) | (show _ < _; omega))
      exact K'
def fitP : Nat → Nat → Prop := fun b j => b = 154 ∧ 26 ≤ j ∧ j ≤ 41 ∨ 162 ≤ b ∧ b ≤ 168
set_option maxHeartbeats 600000 in
set_option maxRecDepth 20000 in
theorem Model_fitOf_ok {t : Nat} (h : mdl M n T Y lap bnd mrg) (ht : t < n) : CallI m_Model_fitOf [.inr 154, .inl (t : Int)] M (fun x M' => x = fitS T Y n t ∧ FrP fitP M M') := by
  have n8 := h.1.2
  have hc := h.2.2.2
  have sp := (cSpan_in (wo := (t : Int)) hc).1
  have rr := chr_R (wo := (t : Int)) hc
  have gy := (hc.2 t ht).2
  have lT := (hc.2 t ht).1.1
  have sep : ∀ b j, fitP b j → b ≠ 156 ∧ b ≠ 158 := fun b j z => by unfold fitP at z; omega
  refine callP_of (by decide) (by decide) (Nat.le_of_ble_eq_true rfl) (wpm_of (cuts := []) (by decide) 50 _ _ _ _ ?_)
  rw [show lM m_Model_fitOf = 2 from rfl]
  simp (maxSteps := 2000000) only [↓reduceIte, wp_eq, wpd_eq, kont_eq, STP1, STP2, STP3, STP4, STP5, konM_eq, AMK, CZ, Option.map, List.getElem?_cons_zero, List.getElem?_cons_succ, List.mem_cons, List.not_mem_nil, if_false, if_true, Nat.reduceAdd, Nat.reduceLT, Nat.reduceLeDiff, Nat.reduceEqDiff, true_and, and_true, List.length_nil, List.length_cons, or_true, true_or, or_false, false_or, Option.some.injEq, Sum.inl.injEq, Sum.inr.injEq, exists_eq_left', exists_eq_left, Int.reduceLE, Int.reduceLT, Int.reduceNeg, Int.reduceAdd, Int.reduceMul, Int.reduceSub, Int.reduceToNat, inR, Nat.zero_ne_one, false_and, Nat.succ_ne_zero, reduceCtorEq, false_implies, true_implies, not_false_eq_true, not_true_eq_false, Int.reduceEq, KRE, C_Model_fitOf, FM]
  refine (Model_layChronology_ok (wo := (t : Int)) h ⟨by omega, by omega⟩).mono (fun M1 z => ?_)
  obtain ⟨rA, e30, F1⟩ := z
  have F1' : FrP fitP M M1 := F1.wd (fun b j z => by unfold chrP at z; unfold fitP; omega)
  have h1 := mdl_fr h F1' sep
  try simp (maxSteps := 2000000) only [↓reduceIte, wp_eq, wpd_eq, kont_eq, STP1, STP2, STP3, STP4, STP5, konM_eq, AMK, CZ, Option.map, List.getElem?_cons_zero, List.getElem?_cons_succ, List.mem_cons, List.not_mem_nil, if_false, if_true, Nat.reduceAdd, Nat.reduceLT, Nat.reduceLeDiff, Nat.reduceEqDiff, true_and, and_true, List.length_nil, List.length_cons, or_true, true_or, or_false, false_or, Option.some.injEq, Sum.inl.injEq, Sum.inr.injEq, exists_eq_left', exists_eq_left, Int.reduceLE, Int.reduceLT, Int.reduceNeg, Int.reduceAdd, Int.reduceMul, Int.reduceSub, Int.reduceToNat, inR, Nat.zero_ne_one, false_and, Nat.succ_ne_zero, reduceCtorEq, false_implies, true_implies, not_false_eq_true, not_true_eq_false, Int.reduceEq, KRE, C_Model_fitOf]
  refine (Model_layB_ok h1 ht).mono (fun M2 z => ?_)
  obtain ⟨rB, F2⟩ := z
  have F2' : FrP fitP M1 M2 := F2.wd (fun b j z => by unfold layBP at z; unfold fitP; omega)
  have h2 := mdl_fr h1 F2' sep
  have rA2 : rowA M2 (chr T Y t n) := rowA_cells (fun b q1 q2 j => F2 _ _ (by unfold layBP; omega)) (F2 _ _ (by unfold layBP; omega)) (F2 _ _ (by unfold layBP; omega)) rA
  have e302 : M2 154 30 = (cSpan T Y t n).1 := (F2 _ _ (by unfold layBP; omega)).trans e30
  try simp (maxSteps := 2000000) only [↓reduceIte, wp_eq, wpd_eq, kont_eq, STP1, STP2, STP3, STP4, STP5, konM_eq, AMK, CZ, Option.map, List.getElem?_cons_zero, List.getElem?_cons_succ, List.mem_cons, List.not_mem_nil, if_false, if_true, Nat.reduceAdd, Nat.reduceLT, Nat.reduceLeDiff, Nat.reduceEqDiff, true_and, and_true, List.length_nil, List.length_cons, or_true, true_or, or_false, false_or, Option.some.injEq, Sum.inl.injEq, Sum.inr.injEq, exists_eq_left', exists_eq_left, Int.reduceLE, Int.reduceLT, Int.reduceNeg, Int.reduceAdd, Int.reduceMul, Int.reduceSub, Int.reduceToNat, inR, Nat.zero_ne_one, false_and, Nat.succ_ne_zero, reduceCtorEq, false_implies, true_implies, not_false_eq_true, not_true_eq_false, Int.reduceEq, KRE, C_Model_fitOf]
  refine (of_year h2 ht).eq ?_
  try simp (maxSteps := 2000000) only [↓reduceIte, wp_eq, wpd_eq, kont_eq, STP1, STP2, STP3, STP4, STP5, konM_eq, AMK, CZ, Option.map, List.getElem?_cons_zero, List.getElem?_cons_succ, List.mem_cons, List.not_mem_nil, if_false, if_true, Nat.reduceAdd, Nat.reduceLT, Nat.reduceLeDiff, Nat.reduceEqDiff, true_and, and_true, List.length_nil, List.length_cons, or_true, true_or, or_false, false_or, Option.some.injEq, Sum.inl.injEq, Sum.inr.injEq, exists_eq_left', exists_eq_left, Int.reduceLE, Int.reduceLT, Int.reduceNeg, Int.reduceAdd, Int.reduceMul, Int.reduceSub, Int.reduceToNat, inR, Nat.zero_ne_one, false_and, Nat.succ_ne_zero, reduceCtorEq, false_implies, true_implies, not_false_eq_true, not_true_eq_false, Int.reduceEq, KRE, C_Model_fitOf, FM, e302]
  refine (Model_slide_ok rA2 rB ⟨by omega, by omega⟩).eq ?_
  have F3 := mSlM_fr M2 (chr T Y t n) (T t) (Y t - (cSpan T Y t n).1)
  have F3' : FrP fitP M2 _ := F3.wd (fun b j z => by unfold fitP; omega)
  obtain ⟨g1, -, -, g4⟩ := mSlM_get M2 (chr T Y t n) (T t) (Y t - (cSpan T Y t n).1)
  have e26 : mSlM M2 (chr T Y t n) (T t) (Y t - (cSpan T Y t n).1) 154 26 = (chr T Y t n).2.1 := (F3 _ _ (by omega)).trans rA2.1
  have el : (chr T Y t n).2.1 = if (cSpan T Y t n).1 = -1 then 0 else (cSpan T Y t n).2 - (cSpan T Y t n).1 + 1 := rfl
  have ef : fitS T Y n t = if (cSpan T Y t n).1 = -1 then 0 else slScore (chr T Y t n) (T t) (Y t - (cSpan T Y t n).1) := rfl
  have F4 := (F1'.tr F2').tr F3'
  by_cases c : (cSpan T Y t n).1 = -1
  · rw [if_pos c] at el ef
    rw [el] at e26
    rw [ef]
    try simp (maxSteps := 2000000) only [↓reduceIte, wp_eq, wpd_eq, kont_eq, STP1, STP2, STP3, STP4, STP5, konM_eq, AMK, CZ, Option.map, List.getElem?_cons_zero, List.getElem?_cons_succ, List.mem_cons, List.not_mem_nil, if_false, if_true, Nat.reduceAdd, Nat.reduceLT, Nat.reduceLeDiff, Nat.reduceEqDiff, true_and, and_true, List.length_nil, List.length_cons, or_true, true_or, or_false, false_or, Option.some.injEq, Sum.inl.injEq, Sum.inr.injEq, exists_eq_left', exists_eq_left, Int.reduceLE, Int.reduceLT, Int.reduceNeg, Int.reduceAdd, Int.reduceMul, Int.reduceSub, Int.reduceToNat, inR, Nat.zero_ne_one, false_and, Nat.succ_ne_zero, reduceCtorEq, false_implies, true_implies, not_false_eq_true, not_true_eq_false, Int.reduceEq, KRE, C_Model_fitOf, FM, e26]
    repeat (first | refine ⟨by omega, ?_⟩ | refine ⟨fun _ _ => okt_nn (by omega), ?_⟩)
    try (first | (show _ ≤ _; omega) | (show _ < _; omega))
    exact F4
  · rw [if_neg c] at el ef
    rw [ef]
    have c' := eq_false (show ¬ (chr T Y t n).2.1 = 0 by omega)
    try simp (maxSteps := 2000000) only [↓reduceIte, wp_eq, wpd_eq, kont_eq, STP1, STP2, STP3, STP4, STP5, konM_eq, AMK, CZ, Option.map, List.getElem?_cons_zero, List.getElem?_cons_succ, List.mem_cons, List.not_mem_nil, if_false, if_true, Nat.reduceAdd, Nat.reduceLT, Nat.reduceLeDiff, Nat.reduceEqDiff, true_and, and_true, List.length_nil, List.length_cons, or_true, true_or, or_false, false_or, Option.some.injEq, Sum.inl.injEq, Sum.inr.injEq, exists_eq_left', exists_eq_left, Int.reduceLE, Int.reduceLT, Int.reduceNeg, Int.reduceAdd, Int.reduceMul, Int.reduceSub, Int.reduceToNat, inR, Nat.zero_ne_one, false_and, Nat.succ_ne_zero, reduceCtorEq, false_implies, true_implies, not_false_eq_true, not_true_eq_false, Int.reduceEq, KRE, C_Model_fitOf, FM, e26, c', g4]
    repeat (first | refine ⟨by omega, ?_⟩ | refine ⟨fun _ _ => okt_nn (by omega), ?_⟩)
    try (first | (show _ ≤ _; omega) | (show _ < _; omega))
    exact F4
set_option maxHeartbeats 600000 in
set_option maxRecDepth 20000 in
theorem Model_odd_ok (h : mdl M n T Y lap bnd mrg) : CallI m_Model_odd [.inr 154] M (fun x M' => x = (oddS (fitS T Y n) Y n).1 ∧ FrP fitP M M') := by
  have n8 := h.1.2
  have sep : ∀ b j, fitP b j → b ≠ 156 ∧ b ≠ 158 := fun b j z => by unfold fitP at z; omega
  refine callP_of (by decide) (by decide) (Nat.le_of_ble_eq_true rfl) (wpm_of (cuts := [6]) (by decide) 50 _ _ _ _ ?_)
  rw [show lM m_Model_odd = 5 from rfl]
  simp (maxSteps := 2000000) only [↓reduceIte, wp_eq, wpd_eq, kont_eq, STP1, STP2, STP3, STP4, STP5, konM_eq, AMK, CZ, Option.map, List.getElem?_cons_zero, List.getElem?_cons_succ, List.mem_cons, List.not_mem_nil, if_false, if_true, Nat.reduceAdd, Nat.reduceLT, Nat.reduceLeDiff, Nat.reduceEqDiff, true_and, and_true, List.length_nil, List.length_cons, or_true, true_or, or_false, false_or, Option.some.injEq, Sum.inl.injEq, Sum.inr.injEq, exists_eq_left', exists_eq_left, Int.reduceLE, Int.reduceLT, Int.reduceNeg, Int.reduceAdd, Int.reduceMul, Int.reduceSub, Int.reduceToNat, inR, Nat.zero_ne_one, false_and, Nat.succ_ne_zero, reduceCtorEq, false_implies, true_implies, not_false_eq_true, not_true_eq_false, Int.reduceEq, KRE, C_Model_odd, FM]
  refine loopQ n (fun k ls M1 => FrP fitP M M1 ∧ ∃ a4, ls = [some (.inr 154), some (.inl (oddS (fitS T Y n) Y k).1), some (.inl (oddS (fitS T Y n) Y k).2), some (.inl (k : Int)), a4]) ?_ _ _ ⟨FrP.rf, none, rfl⟩
  rintro k _ M1 hk ⟨F, a4, rfl⟩ K
  have h1 := mdl_fr h F sep
  have en := h1.1.1
  have oi := oddS_in (F := fitS T Y n) (Y := Y) (fun t => fitS_in T Y n t) k
  by_cases c : k = n
  · subst c
    have c' := eq_true (show (k : Int) ≤ k by omega)
    refine wpm_of (cuts := [6]) (by decide) 50 _ _ _ _ ?_
    simp (maxSteps := 2000000) only [↓reduceIte, wp_eq, wpd_eq, kont_eq, STP1, STP2, STP3, STP4, STP5, konM_eq, AMK, CZ, Option.map, List.getElem?_cons_zero, List.getElem?_cons_succ, List.mem_cons, List.not_mem_nil, if_false, if_true, Nat.reduceAdd, Nat.reduceLT, Nat.reduceLeDiff, Nat.reduceEqDiff, true_and, and_true, List.length_nil, List.length_cons, or_true, true_or, or_false, false_or, Option.some.injEq, Sum.inl.injEq, Sum.inr.injEq, exists_eq_left', exists_eq_left, Int.reduceLE, Int.reduceLT, Int.reduceNeg, Int.reduceAdd, Int.reduceMul, Int.reduceSub, Int.reduceToNat, inR, Nat.zero_ne_one, false_and, Nat.succ_ne_zero, reduceCtorEq, false_implies, true_implies, not_false_eq_true, not_true_eq_false, Int.reduceEq, KRE, C_Model_odd, FM, en, c']
    repeat (first | refine ⟨by omega, ?_⟩ | refine ⟨fun _ _ => okt_nn (by omega), ?_⟩)
    try (first | (show _ ≤ _; omega) | (show _ < _; omega))
    exact F
  · have hlt : k < n := by omega
    have c' := eq_false (show ¬ (n : Int) ≤ k by omega)
    have K' := fun M' a4 z => K hlt _ M' ⟨z, a4, rfl⟩
    rw [show oddS (fitS T Y n) Y (k + 1) = if Y k ≠ -1 ∧ ((oddS (fitS T Y n) Y k).1 = -1 ∨ fitS T Y n k < (oddS (fitS T Y n) Y k).2) then ((k : Int), fitS T Y n k) else oddS (fitS T Y n) Y k from rfl] at K'
    generalize oddS (fitS T Y n) Y k = x at *
    have fi := fitS_in T Y n k
    refine wpm_of (cuts := [6]) (by decide) 50 _ _ _ _ ?_
    simp (maxSteps := 2000000) only [↓reduceIte, wp_eq, wpd_eq, kont_eq, STP1, STP2, STP3, STP4, STP5, konM_eq, AMK, CZ, Option.map, List.getElem?_cons_zero, List.getElem?_cons_succ, List.mem_cons, List.not_mem_nil, if_false, if_true, Nat.reduceAdd, Nat.reduceLT, Nat.reduceLeDiff, Nat.reduceEqDiff, true_and, and_true, List.length_nil, List.length_cons, or_true, true_or, or_false, false_or, Option.some.injEq, Sum.inl.injEq, Sum.inr.injEq, exists_eq_left', exists_eq_left, Int.reduceLE, Int.reduceLT, Int.reduceNeg, Int.reduceAdd, Int.reduceMul, Int.reduceSub, Int.reduceToNat, inR, Nat.zero_ne_one, false_and, Nat.succ_ne_zero, reduceCtorEq, false_implies, true_implies, not_false_eq_true, not_true_eq_false, Int.reduceEq, KRE, C_Model_odd, FM, en, c']
    repeat (first | refine ⟨by omega, ?_⟩ | refine ⟨fun _ _ => okt_nn (by omega), ?_⟩)
    try (first | (show _ ≤ _; omega) | (show _ < _; omega))
    refine (dated_m h1 hlt).eq ?_
    by_cases cY : Y k = -1
    · rw [if_neg (fun z => z.1 cY)] at K'
      rw [if_neg (fun z => z cY)]
      try simp (maxSteps := 2000000) only [↓reduceIte, wp_eq, wpd_eq, kont_eq, STP1, STP2, STP3, STP4, STP5, konM_eq, AMK, CZ, Option.map, List.getElem?_cons_zero, List.getElem?_cons_succ, List.mem_cons, List.not_mem_nil, if_false, if_true, Nat.reduceAdd, Nat.reduceLT, Nat.reduceLeDiff, Nat.reduceEqDiff, true_and, and_true, List.length_nil, List.length_cons, or_true, true_or, or_false, false_or, Option.some.injEq, Sum.inl.injEq, Sum.inr.injEq, exists_eq_left', exists_eq_left, Int.reduceLE, Int.reduceLT, Int.reduceNeg, Int.reduceAdd, Int.reduceMul, Int.reduceSub, Int.reduceToNat, inR, Nat.zero_ne_one, false_and, Nat.succ_ne_zero, reduceCtorEq, false_implies, true_implies, not_false_eq_true, not_true_eq_false, Int.reduceEq, KRE, C_Model_odd]
      repeat (first | refine ⟨by omega, ?_⟩ | refine ⟨fun _ _ => okt_nn (by omega), ?_⟩)
      try (first | (show _ ≤ _; omega) | (show _ < _; omega))
      exact K' _ _ F
    · rw [if_pos cY]
      try simp (maxSteps := 2000000) only [↓reduceIte, wp_eq, wpd_eq, kont_eq, STP1, STP2, STP3, STP4, STP5, konM_eq, AMK, CZ, Option.map, List.getElem?_cons_zero, List.getElem?_cons_succ, List.mem_cons, List.not_mem_nil, if_false, if_true, Nat.reduceAdd, Nat.reduceLT, Nat.reduceLeDiff, Nat.reduceEqDiff, true_and, and_true, List.length_nil, List.length_cons, or_true, true_or, or_false, false_or, Option.some.injEq, Sum.inl.injEq, Sum.inr.injEq, exists_eq_left', exists_eq_left, Int.reduceLE, Int.reduceLT, Int.reduceNeg, Int.reduceAdd, Int.reduceMul, Int.reduceSub, Int.reduceToNat, inR, Nat.zero_ne_one, false_and, Nat.succ_ne_zero, reduceCtorEq, false_implies, true_implies, not_false_eq_true, not_true_eq_false, Int.reduceEq, KRE, C_Model_odd]
      repeat (first | refine ⟨by omega, ?_⟩ | refine ⟨fun _ _ => okt_nn (by omega), ?_⟩)
      try (first | (show _ ≤ _; omega) | (show _ < _; omega))
      refine (Model_fitOf_ok h1 hlt).mono (fun y M2 z => ?_)
      obtain ⟨rfl, F2⟩ := z
      by_cases c1 : x.1 = -1
      · rw [if_pos ⟨cY, Or.inl c1⟩] at K'
        have c1' := eq_true c1
        try simp (maxSteps := 2000000) only [↓reduceIte, wp_eq, wpd_eq, kont_eq, STP1, STP2, STP3, STP4, STP5, konM_eq, AMK, CZ, Option.map, List.getElem?_cons_zero, List.getElem?_cons_succ, List.mem_cons, List.not_mem_nil, if_false, if_true, Nat.reduceAdd, Nat.reduceLT, Nat.reduceLeDiff, Nat.reduceEqDiff, true_and, and_true, List.length_nil, List.length_cons, or_true, true_or, or_false, false_or, Option.some.injEq, Sum.inl.injEq, Sum.inr.injEq, exists_eq_left', exists_eq_left, Int.reduceLE, Int.reduceLT, Int.reduceNeg, Int.reduceAdd, Int.reduceMul, Int.reduceSub, Int.reduceToNat, inR, Nat.zero_ne_one, false_and, Nat.succ_ne_zero, reduceCtorEq, false_implies, true_implies, not_false_eq_true, not_true_eq_false, Int.reduceEq, KRE, C_Model_odd, c1']
        repeat (first | refine ⟨by omega, ?_⟩ | refine ⟨fun _ _ => okt_nn (by omega), ?_⟩)
        try (first | (show _ ≤ _; omega) | (show _ < _; omega))
        exact K' _ _ (F.tr F2)
      · have c1' := eq_false c1
        by_cases c2 : fitS T Y n k < x.2
        · rw [if_pos ⟨cY, Or.inr c2⟩] at K'
          have c2' := eq_true c2
          try simp (maxSteps := 2000000) only [↓reduceIte, wp_eq, wpd_eq, kont_eq, STP1, STP2, STP3, STP4, STP5, konM_eq, AMK, CZ, Option.map, List.getElem?_cons_zero, List.getElem?_cons_succ, List.mem_cons, List.not_mem_nil, if_false, if_true, Nat.reduceAdd, Nat.reduceLT, Nat.reduceLeDiff, Nat.reduceEqDiff, true_and, and_true, List.length_nil, List.length_cons, or_true, true_or, or_false, false_or, Option.some.injEq, Sum.inl.injEq, Sum.inr.injEq, exists_eq_left', exists_eq_left, Int.reduceLE, Int.reduceLT, Int.reduceNeg, Int.reduceAdd, Int.reduceMul, Int.reduceSub, Int.reduceToNat, inR, Nat.zero_ne_one, false_and, Nat.succ_ne_zero, reduceCtorEq, false_implies, true_implies, not_false_eq_true, not_true_eq_false, Int.reduceEq, KRE, C_Model_odd, c1', c2']
          repeat (first | refine ⟨by omega, ?_⟩ | refine ⟨fun _ _ => okt_nn (by omega), ?_⟩)
          try (first | (show _ ≤ _; omega) | (show _ < _; omega))
          exact K' _ _ (F.tr F2)
        · rw [if_neg (fun z => by omega)] at K'
          have c2' := eq_false c2
          try simp (maxSteps := 2000000) only [↓reduceIte, wp_eq, wpd_eq, kont_eq, STP1, STP2, STP3, STP4, STP5, konM_eq, AMK, CZ, Option.map, List.getElem?_cons_zero, List.getElem?_cons_succ, List.mem_cons, List.not_mem_nil, if_false, if_true, Nat.reduceAdd, Nat.reduceLT, Nat.reduceLeDiff, Nat.reduceEqDiff, true_and, and_true, List.length_nil, List.length_cons, or_true, true_or, or_false, false_or, Option.some.injEq, Sum.inl.injEq, Sum.inr.injEq, exists_eq_left', exists_eq_left, Int.reduceLE, Int.reduceLT, Int.reduceNeg, Int.reduceAdd, Int.reduceMul, Int.reduceSub, Int.reduceToNat, inR, Nat.zero_ne_one, false_and, Nat.succ_ne_zero, reduceCtorEq, false_implies, true_implies, not_false_eq_true, not_true_eq_false, Int.reduceEq, KRE, C_Model_odd, c1', c2']
          repeat (first | refine ⟨by omega, ?_⟩ | refine ⟨fun _ _ => okt_nn (by omega), ?_⟩)
          try (first | (show _ ≤ _; omega) | (show _ < _; omega))
          exact K' _ _ (F.tr F2)
set_option maxHeartbeats 600000 in
set_option maxRecDepth 20000 in
theorem Model_whyNot_ok {t : Nat} (h : mdl M n T Y lap bnd mrg) (ht : t < n) : CallI m_Model_whyNot [.inr 154, .inl (t : Int)] M (fun x M' => x = whyU T Y lap bnd mrg n t ∧ M' 154 30 = (cSpan T Y t n).1 ∧ bstM M' (bestO T Y lap n t) ∧ FrP fitP M M') := by
  have n8 := h.1.2
  have hc := h.2.2.2
  have sp := (cSpan_in (wo := (t : Int)) hc).1
  have sep : ∀ b j, fitP b j → b ≠ 156 ∧ b ≠ 158 := fun b j z => by unfold fitP at z; omega
  have ob := bestO_ok (lap := lap) hc ht
  have ew : whyU T Y lap bnd mrg n t = if why (bestO T Y lap n t) bnd mrg ≠ 0 then why (bestO T Y lap n t) bnd mrg else if 0 ≤ (cSpan T Y t n).1 + (bestO T Y lap n t).2.1 ∧ (cSpan T Y t n).1 + (bestO T Y lap n t).2.1 ≤ 900 then 0 else 4 := rfl
  refine callP_of (by decide) (by decide) (Nat.le_of_ble_eq_true rfl) (wpm_of (cuts := []) (by decide) 50 _ _ _ _ ?_)
  rw [show lM m_Model_whyNot = 2 from rfl]
  simp (maxSteps := 2000000) only [↓reduceIte, wp_eq, wpd_eq, kont_eq, STP1, STP2, STP3, STP4, STP5, konM_eq, AMK, CZ, Option.map, List.getElem?_cons_zero, List.getElem?_cons_succ, List.mem_cons, List.not_mem_nil, if_false, if_true, Nat.reduceAdd, Nat.reduceLT, Nat.reduceLeDiff, Nat.reduceEqDiff, true_and, and_true, List.length_nil, List.length_cons, or_true, true_or, or_false, false_or, Option.some.injEq, Sum.inl.injEq, Sum.inr.injEq, exists_eq_left', exists_eq_left, Int.reduceLE, Int.reduceLT, Int.reduceNeg, Int.reduceAdd, Int.reduceMul, Int.reduceSub, Int.reduceToNat, inR, Nat.zero_ne_one, false_and, Nat.succ_ne_zero, reduceCtorEq, false_implies, true_implies, not_false_eq_true, not_true_eq_false, Int.reduceEq, KRE, C_Model_whyNot, FM]
  refine (Model_layChronology_ok (wo := (t : Int)) h ⟨by omega, by omega⟩).mono (fun M1 z => ?_)
  obtain ⟨rA, e30, F1⟩ := z
  have F1' : FrP fitP M M1 := F1.wd (fun b j z => by unfold chrP at z; unfold fitP; omega)
  have h1 := mdl_fr h F1' sep
  try simp (maxSteps := 2000000) only [↓reduceIte, wp_eq, wpd_eq, kont_eq, STP1, STP2, STP3, STP4, STP5, konM_eq, AMK, CZ, Option.map, List.getElem?_cons_zero, List.getElem?_cons_succ, List.mem_cons, List.not_mem_nil, if_false, if_true, Nat.reduceAdd, Nat.reduceLT, Nat.reduceLeDiff, Nat.reduceEqDiff, true_and, and_true, List.length_nil, List.length_cons, or_true, true_or, or_false, false_or, Option.some.injEq, Sum.inl.injEq, Sum.inr.injEq, exists_eq_left', exists_eq_left, Int.reduceLE, Int.reduceLT, Int.reduceNeg, Int.reduceAdd, Int.reduceMul, Int.reduceSub, Int.reduceToNat, inR, Nat.zero_ne_one, false_and, Nat.succ_ne_zero, reduceCtorEq, false_implies, true_implies, not_false_eq_true, not_true_eq_false, Int.reduceEq, KRE, C_Model_whyNot]
  refine (Model_layB_ok h1 ht).mono (fun M2 z => ?_)
  obtain ⟨rB, F2⟩ := z
  have F2' : FrP fitP M1 M2 := F2.wd (fun b j z => by unfold layBP at z; unfold fitP; omega)
  have h2 := mdl_fr h1 F2' sep
  have rA2 : rowA M2 (chr T Y t n) := rowA_cells (fun b q1 q2 j => F2 _ _ (by unfold layBP; omega)) (F2 _ _ (by unfold layBP; omega)) (F2 _ _ (by unfold layBP; omega)) rA
  have e302 : M2 154 30 = (cSpan T Y t n).1 := (F2 _ _ (by unfold layBP; omega)).trans e30
  try simp (maxSteps := 2000000) only [↓reduceIte, wp_eq, wpd_eq, kont_eq, STP1, STP2, STP3, STP4, STP5, konM_eq, AMK, CZ, Option.map, List.getElem?_cons_zero, List.getElem?_cons_succ, List.mem_cons, List.not_mem_nil, if_false, if_true, Nat.reduceAdd, Nat.reduceLT, Nat.reduceLeDiff, Nat.reduceEqDiff, true_and, and_true, List.length_nil, List.length_cons, or_true, true_or, or_false, false_or, Option.some.injEq, Sum.inl.injEq, Sum.inr.injEq, exists_eq_left', exists_eq_left, Int.reduceLE, Int.reduceLT, Int.reduceNeg, Int.reduceAdd, Int.reduceMul, Int.reduceSub, Int.reduceToNat, inR, Nat.zero_ne_one, false_and, Nat.succ_ne_zero, reduceCtorEq, false_implies, true_implies, not_false_eq_true, not_true_eq_false, Int.reduceEq, KRE, C_Model_whyNot]
  refine (Model_bound_ok h2.2.2.1).eq ?_
  try simp (maxSteps := 2000000) only [↓reduceIte, wp_eq, wpd_eq, kont_eq, STP1, STP2, STP3, STP4, STP5, konM_eq, AMK, CZ, Option.map, List.getElem?_cons_zero, List.getElem?_cons_succ, List.mem_cons, List.not_mem_nil, if_false, if_true, Nat.reduceAdd, Nat.reduceLT, Nat.reduceLeDiff, Nat.reduceEqDiff, true_and, and_true, List.length_nil, List.length_cons, or_true, true_or, or_false, false_or, Option.some.injEq, Sum.inl.injEq, Sum.inr.injEq, exists_eq_left', exists_eq_left, Int.reduceLE, Int.reduceLT, Int.reduceNeg, Int.reduceAdd, Int.reduceMul, Int.reduceSub, Int.reduceToNat, inR, Nat.zero_ne_one, false_and, Nat.succ_ne_zero, reduceCtorEq, false_implies, true_implies, not_false_eq_true, not_true_eq_false, Int.reduceEq, KRE, C_Model_whyNot]
  have hb := h2.2.2.1.1.2
  refine (Model_tellBest_ok h2.2.2.1 rA2 rB (by omega)).mono (fun M3 z => ?_)
  obtain ⟨b1, b2, F3⟩ := z
  have F3' : FrP fitP M2 M3 := F3.wd (fun b j z => by unfold bestP at z; unfold fitP; omega)
  have e303 : M3 154 30 = (cSpan T Y t n).1 := (F3 _ _ (by unfold bestP; omega)).trans e302
  have F4 := (F1'.tr F2').tr F3'
  have eb : best (chr T Y t n) (T t) lap = bestO T Y lap n t := rfl
  rw [eb] at b1 b2
  have wi := why_in (bestO T Y lap n t) bnd mrg
  by_cases cw : why (bestO T Y lap n t) bnd mrg = 0
  · rw [if_neg (fun z => z cw)] at ew
    obtain ⟨g1, g2, g3, g4⟩ := why_0 ob cw
    obtain ⟨f2, f3, f4⟩ := b1.2.2 g1
    have cw' := eq_true cw
    try simp (maxSteps := 2000000) only [↓reduceIte, wp_eq, wpd_eq, kont_eq, STP1, STP2, STP3, STP4, STP5, konM_eq, AMK, CZ, Option.map, List.getElem?_cons_zero, List.getElem?_cons_succ, List.mem_cons, List.not_mem_nil, if_false, if_true, Nat.reduceAdd, Nat.reduceLT, Nat.reduceLeDiff, Nat.reduceEqDiff, true_and, and_true, List.length_nil, List.length_cons, or_true, true_or, or_false, false_or, Option.some.injEq, Sum.inl.injEq, Sum.inr.injEq, exists_eq_left', exists_eq_left, Int.reduceLE, Int.reduceLT, Int.reduceNeg, Int.reduceAdd, Int.reduceMul, Int.reduceSub, Int.reduceToNat, inR, Nat.zero_ne_one, false_and, Nat.succ_ne_zero, reduceCtorEq, false_implies, true_implies, not_false_eq_true, not_true_eq_false, Int.reduceEq, KRE, C_Model_whyNot, FM, b2, cw', e303, f2]
    repeat (first | refine ⟨by omega, ?_⟩ | refine ⟨fun _ _ => okt_nn (by omega), ?_⟩)
    try (first | (show _ ≤ _; omega) | (show _ < _; omega))
    refine (Model_isIn_ok ⟨by omega, by omega⟩ ⟨by omega, by omega⟩ ⟨by omega, by omega⟩).eq ?_
    by_cases ci : 0 ≤ (cSpan T Y t n).1 + (bestO T Y lap n t).2.1 ∧ (cSpan T Y t n).1 + (bestO T Y lap n t).2.1 ≤ 900
    · rw [if_pos ci] at ew ⊢
      rw [ew]
      try simp (maxSteps := 2000000) only [↓reduceIte, wp_eq, wpd_eq, kont_eq, STP1, STP2, STP3, STP4, STP5, konM_eq, AMK, CZ, Option.map, List.getElem?_cons_zero, List.getElem?_cons_succ, List.mem_cons, List.not_mem_nil, if_false, if_true, Nat.reduceAdd, Nat.reduceLT, Nat.reduceLeDiff, Nat.reduceEqDiff, true_and, and_true, List.length_nil, List.length_cons, or_true, true_or, or_false, false_or, Option.some.injEq, Sum.inl.injEq, Sum.inr.injEq, exists_eq_left', exists_eq_left, Int.reduceLE, Int.reduceLT, Int.reduceNeg, Int.reduceAdd, Int.reduceMul, Int.reduceSub, Int.reduceToNat, inR, Nat.zero_ne_one, false_and, Nat.succ_ne_zero, reduceCtorEq, false_implies, true_implies, not_false_eq_true, not_true_eq_false, Int.reduceEq, KRE, C_Model_whyNot]
      repeat (first | refine ⟨by omega, ?_⟩ | refine ⟨fun _ _ => okt_nn (by omega), ?_⟩)
      try (first | (show _ ≤ _; omega) | (show _ < _; omega))
      exact F4
    · rw [if_neg ci] at ew ⊢
      rw [ew]
      try simp (maxSteps := 2000000) only [↓reduceIte, wp_eq, wpd_eq, kont_eq, STP1, STP2, STP3, STP4, STP5, konM_eq, AMK, CZ, Option.map, List.getElem?_cons_zero, List.getElem?_cons_succ, List.mem_cons, List.not_mem_nil, if_false, if_true, Nat.reduceAdd, Nat.reduceLT, Nat.reduceLeDiff, Nat.reduceEqDiff, true_and, and_true, List.length_nil, List.length_cons, or_true, true_or, or_false, false_or, Option.some.injEq, Sum.inl.injEq, Sum.inr.injEq, exists_eq_left', exists_eq_left, Int.reduceLE, Int.reduceLT, Int.reduceNeg, Int.reduceAdd, Int.reduceMul, Int.reduceSub, Int.reduceToNat, inR, Nat.zero_ne_one, false_and, Nat.succ_ne_zero, reduceCtorEq, false_implies, true_implies, not_false_eq_true, not_true_eq_false, Int.reduceEq, KRE, C_Model_whyNot]
      repeat (first | refine ⟨by omega, ?_⟩ | refine ⟨fun _ _ => okt_nn (by omega), ?_⟩)
      try (first | (show _ ≤ _; omega) | (show _ < _; omega))
      exact F4
  · rw [if_pos cw] at ew
    have cw' := eq_false cw
    try simp (maxSteps := 2000000) only [↓reduceIte, wp_eq, wpd_eq, kont_eq, STP1, STP2, STP3, STP4, STP5, konM_eq, AMK, CZ, Option.map, List.getElem?_cons_zero, List.getElem?_cons_succ, List.mem_cons, List.not_mem_nil, if_false, if_true, Nat.reduceAdd, Nat.reduceLT, Nat.reduceLeDiff, Nat.reduceEqDiff, true_and, and_true, List.length_nil, List.length_cons, or_true, true_or, or_false, false_or, Option.some.injEq, Sum.inl.injEq, Sum.inr.injEq, exists_eq_left', exists_eq_left, Int.reduceLE, Int.reduceLT, Int.reduceNeg, Int.reduceAdd, Int.reduceMul, Int.reduceSub, Int.reduceToNat, inR, Nat.zero_ne_one, false_and, Nat.succ_ne_zero, reduceCtorEq, false_implies, true_implies, not_false_eq_true, not_true_eq_false, Int.reduceEq, KRE, C_Model_whyNot, FM, b2, cw', e303]
    repeat (first | refine ⟨by omega, ?_⟩ | refine ⟨fun _ _ => okt_nn (by omega), ?_⟩)
    try (first | (show _ ≤ _; omega) | (show _ < _; omega))
    exact F4
end MODZ
