/-! THE REFERENCE READS, 3: a timber's rings. -/
/-- rings from ring k on, the token at a; fault, its place (or the token behind), how many rings, the row -/
def rgS (g : Nat → Int) (E n : Nat) : Nat → Nat → Nat → (Nat → Int) → Int × Nat × Nat × (Nat → Int)
  | 0, k, a, f => (2, a, k, f)
  | d + 1, k, a, f => if 3 ≤ k ∧ tmK g E a ≠ 2 then (0, a, k, f) else if k = 24 then (2, a, k, f) else if nmF g E a 1 99 ≠ 0 then (nmF g E a 1 99, a, k, f)
    else if tmK g E (nxT g E a) = 3 ∧ g (nxT g E a) = 63 then rgS g E n d (k + 1) (nxT g E (nxT g E a)) (updI (updI f (30 * n + 6 + k) (nmN g E a)) (30 * n + 5) (bOr (f (30 * n + 5)) (bShl 1 k)))
    else rgS g E n d (k + 1) (nxT g E a) (updI f (30 * n + 6 + k) (nmN g E a))
def rgP (n : Nat) : Nat → Nat → Prop := fun b j => stP b j ∨ b = 159 ∧ 30 * n ≤ j ∧ j < 30 * n + 30 ∨ b = 154 ∧ (j = 15 ∨ j = 16)
theorem mset_row {M : Mm} {b i : Nat} {v : Int} : mset M b i v b = updI (M b) i v := by
  funext j
  simp only [mset, updI]
  by_cases c : j = i
  · simp [c]
  · simp [c]
set_option maxHeartbeats 600000 in
set_option maxRecDepth 20000 in
theorem rings_ok {g : Nat → Int} {E n : Nat} {Qc : Option AV → Mm → Prop} (hp : oct g E) (hE : E ≤ 900) (hn : n < 8) : ∀ (d k a : Nat) (f : Nat → Int) (M : Mm) (x3 : Option AV), k + d = 25 → k ≤ 24 → a ≤ 900 → tsM M g E a → M 154 15 = 0 → M 159 = f →
    ((rgS g E n d k a f).1 = 0 → ∀ x3 M', FrP (rgP n) M M' → tsM M' g E (rgS g E n d k a f).2.1 → M' 154 15 = 0 → M' 159 = (rgS g E n d k a f).2.2.2 → WPm m_Model_readTimber Qc 236 [some (.inr 154), some (.inl (30 * (n : Int))), some (.inl ((rgS g E n d k a f).2.2.1 : Int)), x3] [] M') →
    ((rgS g E n d k a f).1 ≠ 0 → ∀ M', FrP (rgP n) M M' → M' 154 15 = (rgS g E n d k a f).1 → M' 154 16 = ((rgS g E n d k a f).2.1 : Int) → Qc none M') →
    WPm m_Model_readTimber Qc 144 [some (.inr 154), some (.inl (30 * (n : Int))), some (.inl (k : Int)), x3] [] M
  | 0, k, a, f, M, x3, hk, hk4, ha, ht, hb, hf, K0, K1 => by
    omega
  | d + 1, k, a, f, M, x3, hk, hk4, ha, ht, hb, hf, K0, K1 => by
    have IH := fun k a f M x3 => rings_ok (Qc := Qc) hp hE hn d k a f M x3
    have t11 := ht.2.2.2.2.2.1
    have t13 := ht.2.2.1
    have k4 := tmK_in g E a
    have wr1 := mWr_15 M
    have wr6 : ∀ c, mWr M c 154 16 = a := fun c => by simp [mWr, mset, t13]
    have wrF : ∀ c, FrP (rgP n) M (mWr M c) := fun c => (FrP.rf.st (Or.inr (Or.inr ⟨rfl, by omega⟩))).st (Or.inr (Or.inr ⟨rfl, by omega⟩))
    unfold rgS at K0 K1
    by_cases cA : 3 ≤ k ∧ tmK g E a ≠ 2
    · rw [if_pos cA] at K0 K1
      have q1 := eq_false (show ¬ (k : Int) < 3 by omega)
      have q2 := eq_false (show ¬ M 154 11 = 2 by omega)
      have R := K0 rfl x3 M FrP.rf ht hb hf
      refine wpm_of (cuts := [144, 236]) (by decide) 80 _ _ _ _ ?_
      simp (maxSteps := 2000000) only [↓reduceIte, wp_eq, wpd_eq, kont_eq, STP1, STP2, STP3, STP4, STP5, konM_eq, AMK, CZ, Option.map, List.getElem?_cons_zero, List.getElem?_cons_succ, List.mem_cons, List.not_mem_nil, if_false, if_true, Nat.reduceAdd, Nat.reduceLT, Nat.reduceLeDiff, Nat.reduceEqDiff, true_and, and_true, List.length_nil, List.length_cons, or_true, true_or, or_false, false_or, Option.some.injEq, Sum.inl.injEq, Sum.inr.injEq, exists_eq_left', exists_eq_left, Int.reduceLE, Int.reduceLT, Int.reduceNeg, Int.reduceAdd, Int.reduceMul, Int.reduceSub, Int.reduceToNat, inR, Nat.zero_ne_one, false_and, Nat.succ_ne_zero, reduceCtorEq, false_implies, true_implies, not_false_eq_true, not_true_eq_false, Int.reduceEq, KRE, C_Model_readTimber, FM, hb, q1, q2]
      repeat (first | refine ⟨by omega, ?_⟩ | refine ⟨fun _ _ => okt_nn (by omega), ?_⟩)
      try (first | (show _ ≤ _; omega) | (show _ < _; omega))
      exact R
    · rw [if_neg cA] at K0 K1
      -- both ways lead to 164
      have go : WPm m_Model_readTimber Qc 164 [some (.inr 154), some (.inl (30 * (n : Int))), some (.inl (k : Int)), x3] [] M := by
        by_cases cB : k = 24
        · subst cB
          rw [if_pos rfl] at K0 K1
          have R := K1 (by show (2 : Int) ≠ 0; omega) (mWr M 2) (wrF 2) (wr1 2) (wr6 2)
          have e15 := wr1 2
          have N := readNumber_no (M := mWr M 2) (lo := 1) (hi := 99) (by rw [e15]; omega) (by rw [e15]; exact ⟨by omega, by omega⟩)
          have W := wrong_ok (M := M) (c := 2) hb ⟨by omega, by omega⟩
          have cc := eq_true (show ((24 : Nat) : Int) = 24 by omega)
          generalize mWr M 2 = MX at *
          refine wpm_of (cuts := [144, 236]) (by decide) 80 _ _ _ _ ?_
          simp (maxSteps := 2000000) only [↓reduceIte, wp_eq, wpd_eq, kont_eq, STP1, STP2, STP3, STP4, STP5, konM_eq, AMK, CZ, Option.map, List.getElem?_cons_zero, List.getElem?_cons_succ, List.mem_cons, List.not_mem_nil, if_false, if_true, Nat.reduceAdd, Nat.reduceLT, Nat.reduceLeDiff, Nat.reduceEqDiff, true_and, and_true, List.length_nil, List.length_cons, or_true, true_or, or_false, false_or, Option.some.injEq, Sum.inl.injEq, Sum.inr.injEq, exists_eq_left', exists_eq_left, Int.reduceLE, Int.reduceLT, Int.reduceNeg, Int.reduceAdd, Int.reduceMul, Int.reduceSub, Int.reduceToNat, inR, Nat.zero_ne_one, false_and, Nat.succ_ne_zero, reduceCtorEq, false_implies, true_implies, not_false_eq_true, not_true_eq_false, Int.reduceEq, KRE, C_Model_readTimber, FM, cc]
          repeat (first | refine ⟨by omega, ?_⟩ | refine ⟨fun _ _ => okt_nn (by omega), ?_⟩)
          try (first | (show _ ≤ _; omega) | (show _ < _; omega))
          refine W.eq ?_
          try simp (maxSteps := 2000000) only [↓reduceIte, wp_eq, wpd_eq, kont_eq, STP1, STP2, STP3, STP4, STP5, konM_eq, AMK, CZ, Option.map, List.getElem?_cons_zero, List.getElem?_cons_succ, List.mem_cons, List.not_mem_nil, if_false, if_true, Nat.reduceAdd, Nat.reduceLT, Nat.reduceLeDiff, Nat.reduceEqDiff, true_and, and_true, List.length_nil, List.length_cons, or_true, true_or, or_false, false_or, Option.some.injEq, Sum.inl.injEq, Sum.inr.injEq, exists_eq_left', exists_eq_left, Int.reduceLE, Int.reduceLT, Int.reduceNeg, Int.reduceAdd, Int.reduceMul, Int.reduceSub, Int.reduceToNat, inR, Nat.zero_ne_one, false_and, Nat.succ_ne_zero, reduceCtorEq, false_implies, true_implies, not_false_eq_true, not_true_eq_false, Int.reduceEq, KRE, C_Model_readTimber, FM]
          repeat (first | refine ⟨by omega, ?_⟩ | refine ⟨fun _ _ => okt_nn (by omega), ?_⟩)
          try (first | (show _ ≤ _; omega) | (show _ < _; omega))
          refine N.eq ?_
          try simp (maxSteps := 2000000) only [↓reduceIte, wp_eq, wpd_eq, kont_eq, STP1, STP2, STP3, STP4, STP5, konM_eq, AMK, CZ, Option.map, List.getElem?_cons_zero, List.getElem?_cons_succ, List.mem_cons, List.not_mem_nil, if_false, if_true, Nat.reduceAdd, Nat.reduceLT, Nat.reduceLeDiff, Nat.reduceEqDiff, true_and, and_true, List.length_nil, List.length_cons, or_true, true_or, or_false, false_or, Option.some.injEq, Sum.inl.injEq, Sum.inr.injEq, exists_eq_left', exists_eq_left, Int.reduceLE, Int.reduceLT, Int.reduceNeg, Int.reduceAdd, Int.reduceMul, Int.reduceSub, Int.reduceToNat, inR, Nat.zero_ne_one, false_and, Nat.succ_ne_zero, reduceCtorEq, false_implies, true_implies, not_false_eq_true, not_true_eq_false, Int.reduceEq, KRE, C_Model_readTimber, FM, e15]
          repeat (first | refine ⟨by omega, ?_⟩ | refine ⟨fun _ _ => okt_nn (by omega), ?_⟩)
          try (first | (show _ ≤ _; omega) | (show _ < _; omega))
          all_goals exact R
        · rw [if_neg cB] at K0 K1
          have cc := eq_false (show ¬ (k : Int) = 24 by omega)
          have N := readNumber_ok (lo := 1) (hi := 99) ht hp hb hE ha ⟨by omega, by omega⟩ ⟨by omega, by omega⟩
          refine wpm_of (cuts := [144, 236]) (by decide) 80 _ _ _ _ ?_
          simp (maxSteps := 2000000) only [↓reduceIte, wp_eq, wpd_eq, kont_eq, STP1, STP2, STP3, STP4, STP5, konM_eq, AMK, CZ, Option.map, List.getElem?_cons_zero, List.getElem?_cons_succ, List.mem_cons, List.not_mem_nil, if_false, if_true, Nat.reduceAdd, Nat.reduceLT, Nat.reduceLeDiff, Nat.reduceEqDiff, true_and, and_true, List.length_nil, List.length_cons, or_true, true_or, or_false, false_or, Option.some.injEq, Sum.inl.injEq, Sum.inr.injEq, exists_eq_left', exists_eq_left, Int.reduceLE, Int.reduceLT, Int.reduceNeg, Int.reduceAdd, Int.reduceMul, Int.reduceSub, Int.reduceToNat, inR, Nat.zero_ne_one, false_and, Nat.succ_ne_zero, reduceCtorEq, false_implies, true_implies, not_false_eq_true, not_true_eq_false, Int.reduceEq, KRE, C_Model_readTimber, FM, cc]
          repeat (first | refine ⟨by omega, ?_⟩ | refine ⟨fun _ _ => okt_nn (by omega), ?_⟩)
          try (first | (show _ ≤ _; omega) | (show _ < _; omega))
          refine N.mono (fun x M1 z => ?_)
          obtain ⟨z1, z2⟩ := z
          by_cases cF : nmF g E a 1 99 = 0
          · rw [if_neg (fun w => w cF)] at K0 K1
            obtain ⟨rfl, F1, T1⟩ := z1 cF
            have b9 := nxT_le (g := g) hE ha
            have b1 : M1 154 15 = 0 := (F1 _ _ (by unfold stP; omega)).trans hb
            have ef1 : M1 159 = f := (funext fun j => F1 _ _ (by unfold stP; omega)).trans hf
            have F1' : FrP (rgP n) M M1 := F1.wd (fun b j z => Or.inl z)
            have ix : (30 * (n : Int) + 6 + (k : Int)).toNat = 30 * n + 6 + k := by omega
            have F2 : FrP (rgP n) M (mset M1 159 (30 * n + 6 + k) (nmN g E a)) := F1'.st (Or.inr (Or.inl ⟨rfl, by omega⟩))
            have b2 : mset M1 159 (30 * n + 6 + k) (nmN g E a) 154 15 = 0 := by rw [← b1]; simp [mset]
            have T2 : tsM (mset M1 159 (30 * n + 6 + k) (nmN g E a)) g E (nxT g E a) := tsM_mv T1 (fun b j z => if_neg (by omega))
            have ef2 : mset M1 159 (30 * n + 6 + k) (nmN g E a) 159 = updI f (30 * n + 6 + k) (nmN g E a) := by rw [mset_row, ef1]
            generalize eM2 : mset M1 159 (30 * n + 6 + k) (nmN g E a) = M2 at *
            have MK := marked_ok (c := 63) T2 hp b2 hE ⟨by omega, by omega⟩
            by_cases cQ : tmK g E (nxT g E a) = 3 ∧ g (nxT g E a) = 63
            · rw [if_pos cQ] at K0 K1 MK
              have c9 := nxT_le (g := g) hE b9
              have ix5 : (30 * (n : Int) + 5).toNat = 30 * n + 5 := by omega
              have e5 : M2 159 (30 * n + 5) = f (30 * n + 5) := by
                rw [ef2]
                exact if_neg (by omega)
              have F3 : FrP (rgP n) M (mset M2 159 (30 * n + 5) (bOr (f (30 * n + 5)) (bShl 1 k))) := F2.st (Or.inr (Or.inl ⟨rfl, by omega⟩))
              have b3 : mset M2 159 (30 * n + 5) (bOr (f (30 * n + 5)) (bShl 1 k)) 154 15 = 0 := by rw [← b2]; simp [mset]
              have T3 : tsM (mset M2 159 (30 * n + 5) (bOr (f (30 * n + 5)) (bShl 1 k))) g E (nxT g E a) := tsM_mv T2 (fun b j z => if_neg (by omega))
              have ef3 : mset M2 159 (30 * n + 5) (bOr (f (30 * n + 5)) (bShl 1 k)) 159 = updI (updI f (30 * n + 6 + k) (nmN g E a)) (30 * n + 5) (bOr (f (30 * n + 5)) (bShl 1 k)) := by rw [mset_row, ef2]
              try simp (maxSteps := 2000000) only [↓reduceIte, wp_eq, wpd_eq, kont_eq, STP1, STP2, STP3, STP4, STP5, konM_eq, AMK, CZ, Option.map, List.getElem?_cons_zero, List.getElem?_cons_succ, List.mem_cons, List.not_mem_nil, if_false, if_true, Nat.reduceAdd, Nat.reduceLT, Nat.reduceLeDiff, Nat.reduceEqDiff, true_and, and_true, List.length_nil, List.length_cons, or_true, true_or, or_false, false_or, Option.some.injEq, Sum.inl.injEq, Sum.inr.injEq, exists_eq_left', exists_eq_left, Int.reduceLE, Int.reduceLT, Int.reduceNeg, Int.reduceAdd, Int.reduceMul, Int.reduceSub, Int.reduceToNat, inR, Nat.zero_ne_one, false_and, Nat.succ_ne_zero, reduceCtorEq, false_implies, true_implies, not_false_eq_true, not_true_eq_false, Int.reduceEq, KRE, C_Model_readTimber, FM, b1, ix, eM2]
              repeat (first | refine ⟨by omega, ?_⟩ | refine ⟨fun _ _ => okt_nn (by omega), ?_⟩)
              try (first | (show _ ≤ _; omega) | (show _ < _; omega))
              refine MK.eq ?_
              try simp (maxSteps := 2000000) only [↓reduceIte, wp_eq, wpd_eq, kont_eq, STP1, STP2, STP3, STP4, STP5, konM_eq, AMK, CZ, Option.map, List.getElem?_cons_zero, List.getElem?_cons_succ, List.mem_cons, List.not_mem_nil, if_false, if_true, Nat.reduceAdd, Nat.reduceLT, Nat.reduceLeDiff, Nat.reduceEqDiff, true_and, and_true, List.length_nil, List.length_cons, or_true, true_or, or_false, false_or, Option.some.injEq, Sum.inl.injEq, Sum.inr.injEq, exists_eq_left', exists_eq_left, Int.reduceLE, Int.reduceLT, Int.reduceNeg, Int.reduceAdd, Int.reduceMul, Int.reduceSub, Int.reduceToNat, inR, Nat.zero_ne_one, false_and, Nat.succ_ne_zero, reduceCtorEq, false_implies, true_implies, not_false_eq_true, not_true_eq_false, Int.reduceEq, KRE, C_Model_readTimber, FM, ix5, e5]
              repeat (first | refine ⟨by omega, ?_⟩ | refine ⟨fun _ _ => okt_nn (by omega), ?_⟩)
              try (first | (show _ ≤ _; omega) | (show _ < _; omega))
              generalize mset M2 159 (30 * n + 5) (bOr (f (30 * n + 5)) (bShl 1 k)) = M3 at *
              refine (step_ok T3 hp hE b9).mono (fun M4 w => ?_)
              obtain ⟨F4, T4⟩ := w
              have F4' : FrP (rgP n) M M4 := F3.tr (F4.wd (fun b j z => Or.inl z))
              have b4 : M4 154 15 = 0 := (F4 _ _ (by unfold stP; omega)).trans b3
              have ef4 := (funext fun j => F4 159 j (by unfold stP; omega) : M4 159 = M3 159).trans ef3
              have R := IH (k + 1) _ _ M4 (some (.inl (nmN g E a))) (by omega) (by omega) c9 T4 b4 ef4 (fun w x3 M' y1 y2 y3 y4 => K0 w x3 M' (F4'.tr y1) y2 y3 y4) (fun w M' y1 y2 y3 => K1 w M' (F4'.tr y1) y2 y3)
              rw [show ((k + 1 : Nat) : Int) = (k : Int) + 1 by omega] at R
              try simp (maxSteps := 2000000) only [↓reduceIte, wp_eq, wpd_eq, kont_eq, STP1, STP2, STP3, STP4, STP5, konM_eq, AMK, CZ, Option.map, List.getElem?_cons_zero, List.getElem?_cons_succ, List.mem_cons, List.not_mem_nil, if_false, if_true, Nat.reduceAdd, Nat.reduceLT, Nat.reduceLeDiff, Nat.reduceEqDiff, true_and, and_true, List.length_nil, List.length_cons, or_true, true_or, or_false, false_or, Option.some.injEq, Sum.inl.injEq, Sum.inr.injEq, exists_eq_left', exists_eq_left, Int.reduceLE, Int.reduceLT, Int.reduceNeg, Int.reduceAdd, Int.reduceMul, Int.reduceSub, Int.reduceToNat, inR, Nat.zero_ne_one, false_and, Nat.succ_ne_zero, reduceCtorEq, false_implies, true_implies, not_false_eq_true, not_true_eq_false, Int.reduceEq, KRE, C_Model_readTimber, FM]
              repeat (first | refine ⟨by omega, ?_⟩ | refine ⟨fun _ _ => okt_nn (by omega), ?_⟩)
              try (first | (show _ ≤ _; omega) | (show _ < _; omega))
              exact R
            · rw [if_neg cQ] at K0 K1 MK
              have R := IH (k + 1) _ _ M2 (some (.inl (nmN g E a))) (by omega) (by omega) b9 T2 b2 ef2 (fun w x3 M' y1 y2 y3 y4 => K0 w x3 M' (F2.tr y1) y2 y3 y4) (fun w M' y1 y2 y3 => K1 w M' (F2.tr y1) y2 y3)
              rw [show ((k + 1 : Nat) : Int) = (k : Int) + 1 by omega] at R
              try simp (maxSteps := 2000000) only [↓reduceIte, wp_eq, wpd_eq, kont_eq, STP1, STP2, STP3, STP4, STP5, konM_eq, AMK, CZ, Option.map, List.getElem?_cons_zero, List.getElem?_cons_succ, List.mem_cons, List.not_mem_nil, if_false, if_true, Nat.reduceAdd, Nat.reduceLT, Nat.reduceLeDiff, Nat.reduceEqDiff, true_and, and_true, List.length_nil, List.length_cons, or_true, true_or, or_false, false_or, Option.some.injEq, Sum.inl.injEq, Sum.inr.injEq, exists_eq_left', exists_eq_left, Int.reduceLE, Int.reduceLT, Int.reduceNeg, Int.reduceAdd, Int.reduceMul, Int.reduceSub, Int.reduceToNat, inR, Nat.zero_ne_one, false_and, Nat.succ_ne_zero, reduceCtorEq, false_implies, true_implies, not_false_eq_true, not_true_eq_false, Int.reduceEq, KRE, C_Model_readTimber, FM, b1, ix, eM2]
              repeat (first | refine ⟨by omega, ?_⟩ | refine ⟨fun _ _ => okt_nn (by omega), ?_⟩)
              try (first | (show _ ≤ _; omega) | (show _ < _; omega))
              refine MK.eq ?_
              try simp (maxSteps := 2000000) only [↓reduceIte, wp_eq, wpd_eq, kont_eq, STP1, STP2, STP3, STP4, STP5, konM_eq, AMK, CZ, Option.map, List.getElem?_cons_zero, List.getElem?_cons_succ, List.mem_cons, List.not_mem_nil, if_false, if_true, Nat.reduceAdd, Nat.reduceLT, Nat.reduceLeDiff, Nat.reduceEqDiff, true_and, and_true, List.length_nil, List.length_cons, or_true, true_or, or_false, false_or, Option.some.injEq, Sum.inl.injEq, Sum.inr.injEq, exists_eq_left', exists_eq_left, Int.reduceLE, Int.reduceLT, Int.reduceNeg, Int.reduceAdd, Int.reduceMul, Int.reduceSub, Int.reduceToNat, inR, Nat.zero_ne_one, false_and, Nat.succ_ne_zero, reduceCtorEq, false_implies, true_implies, not_false_eq_true, not_true_eq_false, Int.reduceEq, KRE, C_Model_readTimber, FM]
              repeat (first | refine ⟨by omega, ?_⟩ | refine ⟨fun _ _ => okt_nn (by omega), ?_⟩)
              try (first | (show _ ≤ _; omega) | (show _ < _; omega))
              exact R
          · obtain ⟨rfl, rfl⟩ := z2 cF
            rw [if_pos cF] at K0 K1
            have R := K1 cF (mWr M (nmF g E a 1 99)) (wrF _) (wr1 _) (wr6 _)
            have e15 := wr1 (nmF g E a 1 99)
            have q := eq_false cF
            have i2 := nmF_in g E a 1 99
            generalize hX : nmF g E a 1 99 = X at *
            try simp (maxSteps := 2000000) only [↓reduceIte, wp_eq, wpd_eq, kont_eq, STP1, STP2, STP3, STP4, STP5, konM_eq, AMK, CZ, Option.map, List.getElem?_cons_zero, List.getElem?_cons_succ, List.mem_cons, List.not_mem_nil, if_false, if_true, Nat.reduceAdd, Nat.reduceLT, Nat.reduceLeDiff, Nat.reduceEqDiff, true_and, and_true, List.length_nil, List.length_cons, or_true, true_or, or_false, false_or, Option.some.injEq, Sum.inl.injEq, Sum.inr.injEq, exists_eq_left', exists_eq_left, Int.reduceLE, Int.reduceLT, Int.reduceNeg, Int.reduceAdd, Int.reduceMul, Int.reduceSub, Int.reduceToNat, inR, Nat.zero_ne_one, false_and, Nat.succ_ne_zero, reduceCtorEq, false_implies, true_implies, not_false_eq_true, not_true_eq_false, Int.reduceEq, KRE, C_Model_readTimber, FM, e15, q]
            repeat (first | refine ⟨by omega, ?_⟩ | refine ⟨fun _ _ => okt_nn (by omega), ?_⟩)
            try (first | (show _ ≤ _; omega) | (show _ < _; omega))
            all_goals exact R
      by_cases c3 : (k : Int) < 3
      · refine wpm_of (cuts := [144, 164, 236]) (by decide) 80 _ _ _ _ ?_
        simp (maxSteps := 2000000) only [↓reduceIte, wp_eq, wpd_eq, kont_eq, STP1, STP2, STP3, STP4, STP5, konM_eq, AMK, CZ, Option.map, List.getElem?_cons_zero, List.getElem?_cons_succ, List.mem_cons, List.not_mem_nil, if_false, if_true, Nat.reduceAdd, Nat.reduceLT, Nat.reduceLeDiff, Nat.reduceEqDiff, true_and, and_true, List.length_nil, List.length_cons, or_true, true_or, or_false, false_or, Option.some.injEq, Sum.inl.injEq, Sum.inr.injEq, exists_eq_left', exists_eq_left, Int.reduceLE, Int.reduceLT, Int.reduceNeg, Int.reduceAdd, Int.reduceMul, Int.reduceSub, Int.reduceToNat, inR, Nat.zero_ne_one, false_and, Nat.succ_ne_zero, reduceCtorEq, false_implies, true_implies, not_false_eq_true, not_true_eq_false, Int.reduceEq, KRE, C_Model_readTimber, FM, hb, c3]
        repeat (first | refine ⟨by omega, ?_⟩ | refine ⟨fun _ _ => okt_nn (by omega), ?_⟩)
        try (first | (show _ ≤ _; omega) | (show _ < _; omega))
        exact go
      · have c3' := eq_false c3
        have q2 := eq_true (show M 154 11 = 2 by omega)
        refine wpm_of (cuts := [144, 164, 236]) (by decide) 80 _ _ _ _ ?_
        simp (maxSteps := 2000000) only [↓reduceIte, wp_eq, wpd_eq, kont_eq, STP1, STP2, STP3, STP4, STP5, konM_eq, AMK, CZ, Option.map, List.getElem?_cons_zero, List.getElem?_cons_succ, List.mem_cons, List.not_mem_nil, if_false, if_true, Nat.reduceAdd, Nat.reduceLT, Nat.reduceLeDiff, Nat.reduceEqDiff, true_and, and_true, List.length_nil, List.length_cons, or_true, true_or, or_false, false_or, Option.some.injEq, Sum.inl.injEq, Sum.inr.injEq, exists_eq_left', exists_eq_left, Int.reduceLE, Int.reduceLT, Int.reduceNeg, Int.reduceAdd, Int.reduceMul, Int.reduceSub, Int.reduceToNat, inR, Nat.zero_ne_one, false_and, Nat.succ_ne_zero, reduceCtorEq, false_implies, true_implies, not_false_eq_true, not_true_eq_false, Int.reduceEq, KRE, C_Model_readTimber, FM, hb, c3', q2]
        repeat (first | refine ⟨by omega, ?_⟩ | refine ⟨fun _ _ => okt_nn (by omega), ?_⟩)
        try (first | (show _ ≤ _; omega) | (show _ < _; omega))
        exact go
def rtP : Nat → Nat → Prop := fun b j => stP b j ∨ b = 159 ∨ b = 157 ∧ j = 0 ∨ b = 154 ∧ (j = 15 ∨ j = 16)
def rtQ (M0 : Mm) (g : Nat → Int) (E n : Nat) (c : Int) (p : Nat) (f' : Nat → Int) (M' : Mm) : Prop := FrP rtP M0 M' ∧ (c ≠ 0 → M' 154 15 = c ∧ M' 154 16 = (p : Int)) ∧ (c = 0 → tsM M' g E p ∧ M' 154 15 = 0 ∧ M' 159 = f' ∧ M' 157 0 = (n : Int) + 1)
set_option maxHeartbeats 600000 in
set_option maxRecDepth 20000 in
theorem readTimber_236b {M0 M : Mm} {g : Nat → Int} {E n p k : Nat} {c : Int} {f' : Nat → Int} {x3 : Option AV} (hn : n < 8) (f : FrP rtP M0 M) (hc : c ≠ 0) (h15 : M 154 15 = c) (h16 : M 154 16 = (p : Int)) : WPm m_Model_readTimber (fun v M' => v = none ∧ rtQ M0 g E n c p f' M') 236 [some (.inr 154), some (.inl (30 * (n : Int))), some (.inl (k : Int)), x3] [] M := by
  have ix : (30 * (n : Int)).toNat = 30 * n := by omega
  have r : rtQ M0 g E n c p f' (mset (mset M 159 (30 * n) k) 157 0 (mset M 159 (30 * n) k 157 0 + 1)) := ⟨(f.st (Or.inr (Or.inl rfl))).st (Or.inr (Or.inr (Or.inl ⟨rfl, rfl⟩))), fun _ => ⟨by rw [← h15]; simp [mset], by rw [← h16]; simp [mset]⟩, fun z => absurd z hc⟩
  refine wpm_of (cuts := []) (by decide) 80 _ _ _ _ ?_
  simp (maxSteps := 2000000) only [↓reduceIte, wp_eq, wpd_eq, kont_eq, STP1, STP2, STP3, STP4, STP5, konM_eq, AMK, CZ, Option.map, List.getElem?_cons_zero, List.getElem?_cons_succ, List.mem_cons, List.not_mem_nil, if_false, if_true, Nat.reduceAdd, Nat.reduceLT, Nat.reduceLeDiff, Nat.reduceEqDiff, true_and, and_true, List.length_nil, List.length_cons, or_true, true_or, or_false, false_or, Option.some.injEq, Sum.inl.injEq, Sum.inr.injEq, exists_eq_left', exists_eq_left, Int.reduceLE, Int.reduceLT, Int.reduceNeg, Int.reduceAdd, Int.reduceMul, Int.reduceSub, Int.reduceToNat, inR, Nat.zero_ne_one, false_and, Nat.succ_ne_zero, reduceCtorEq, false_implies, true_implies, not_false_eq_true, not_true_eq_false, Int.reduceEq, KRE, C_Model_readTimber, FM, Int.add_zero, ix]
  repeat (first | refine ⟨by omega, ?_⟩ | refine ⟨fun _ _ => okt_nn (by omega), ?_⟩)
  try (first | (show _ ≤ _; omega) | (show _ < _; omega))
  all_goals first | exact r | exact ⟨rfl, r⟩
set_option maxHeartbeats 600000 in
set_option maxRecDepth 20000 in
theorem readTimber_236 {M0 M : Mm} {g f3 : Nat → Int} {E n p k : Nat} {x3 : Option AV} (hn : n < 8) (f : FrP rtP M0 M) (ht : tsM M g E p) (hb : M 154 15 = 0) (hf : M 159 = f3) (h0 : M 157 0 = n) : WPm m_Model_readTimber (fun v M' => v = none ∧ rtQ M0 g E n 0 p (updI f3 (30 * n) k) M') 236 [some (.inr 154), some (.inl (30 * (n : Int))), some (.inl (k : Int)), x3] [] M := by
  have ix : (30 * (n : Int)).toNat = 30 * n := by omega
  have e0 : mset M 159 (30 * n) k 157 0 = n := by rw [← h0]; simp [mset]
  have r : rtQ M0 g E n 0 p (updI f3 (30 * n) k) (mset (mset M 159 (30 * n) k) 157 0 ((n : Int) + 1)) := by
    refine ⟨(f.st (Or.inr (Or.inl rfl))).st (Or.inr (Or.inr (Or.inl ⟨rfl, rfl⟩))), fun z => absurd rfl z, fun _ => ⟨tsM_mv ht (fun b j z => (if_neg (by omega)).trans (if_neg (by omega))), by rw [← hb]; simp [mset], ?_, by simp [mset]⟩⟩
    rw [← hf, ← mset_row]
    funext j
    exact if_neg (by omega)
  refine wpm_of (cuts := []) (by decide) 80 _ _ _ _ ?_
  simp (maxSteps := 2000000) only [↓reduceIte, wp_eq, wpd_eq, kont_eq, STP1, STP2, STP3, STP4, STP5, konM_eq, AMK, CZ, Option.map, List.getElem?_cons_zero, List.getElem?_cons_succ, List.mem_cons, List.not_mem_nil, if_false, if_true, Nat.reduceAdd, Nat.reduceLT, Nat.reduceLeDiff, Nat.reduceEqDiff, true_and, and_true, List.length_nil, List.length_cons, or_true, true_or, or_false, false_or, Option.some.injEq, Sum.inl.injEq, Sum.inr.injEq, exists_eq_left', exists_eq_left, Int.reduceLE, Int.reduceLT, Int.reduceNeg, Int.reduceAdd, Int.reduceMul, Int.reduceSub, Int.reduceToNat, inR, Nat.zero_ne_one, false_and, Nat.succ_ne_zero, reduceCtorEq, false_implies, true_implies, not_false_eq_true, not_true_eq_false, Int.reduceEq, KRE, C_Model_readTimber, FM, Int.add_zero, ix, e0]
  repeat (first | refine ⟨by omega, ?_⟩ | refine ⟨fun _ _ => okt_nn (by omega), ?_⟩)
  try (first | (show _ ≤ _; omega) | (show _ < _; omega))
  all_goals first | exact r | exact ⟨rfl, r⟩
set_option maxHeartbeats 600000 in
set_option maxRecDepth 20000 in
theorem readTimber_142b {M0 M : Mm} {g : Nat → Int} {E n p : Nat} {c : Int} {f' : Nat → Int} {x2 x3 : Option AV} (hn : n < 8) (f : FrP rtP M0 M) (hc : c ≠ 0) (hr : inR c) (h15 : M 154 15 = c) (h16 : M 154 16 = (p : Int)) : WPm m_Model_readTimber (fun v M' => v = none ∧ rtQ M0 g E n c p f' M') 131 [some (.inr 154), some (.inl (30 * (n : Int))), x2, x3] [] M := by
  obtain ⟨r1, r2⟩ := hr
  have q := eq_false hc
  have R := readTimber_236b (g := g) (E := E) (k := 0) (f' := f') (x3 := x3) hn f hc h15 h16
  refine wpm_of (cuts := [236]) (by decide) 80 _ _ _ _ ?_
  simp (maxSteps := 2000000) only [↓reduceIte, wp_eq, wpd_eq, kont_eq, STP1, STP2, STP3, STP4, STP5, konM_eq, AMK, CZ, Option.map, List.getElem?_cons_zero, List.getElem?_cons_succ, List.mem_cons, List.not_mem_nil, if_false, if_true, Nat.reduceAdd, Nat.reduceLT, Nat.reduceLeDiff, Nat.reduceEqDiff, true_and, and_true, List.length_nil, List.length_cons, or_true, true_or, or_false, false_or, Option.some.injEq, Sum.inl.injEq, Sum.inr.injEq, exists_eq_left', exists_eq_left, Int.reduceLE, Int.reduceLT, Int.reduceNeg, Int.reduceAdd, Int.reduceMul, Int.reduceSub, Int.reduceToNat, inR, Nat.zero_ne_one, false_and, Nat.succ_ne_zero, reduceCtorEq, false_implies, true_implies, not_false_eq_true, not_true_eq_false, Int.reduceEq, KRE, C_Model_readTimber, FM, h15, q]
  repeat (first | refine ⟨by omega, ?_⟩ | refine ⟨fun _ _ => okt_nn (by omega), ?_⟩)
  try (first | (show _ ≤ _; omega) | (show _ < _; omega))
  exact R
/-- a row with timber n wiped, but for the year -/
def clrR (f : Nat → Int) (n k : Nat) : Nat → Int := fun j => if 30 * n ≤ j ∧ j < 30 * n + k then 0 else f j
def rtS (g : Nat → Int) (E n a : Nat) (f : Nat → Int) : Int × Nat × (Nat → Int) :=
  if n = 8 then (2, a, f) else
  if nmF g E (nxT g E a) 0 30 ≠ 0 then (nmF g E (nxT g E a) 0 30, nxT g E a, f) else
  if nmF g E (nxT g E (nxT g E a)) 0 30 ≠ 0 then (nmF g E (nxT g E (nxT g E a)) 0 30, nxT g E (nxT g E a), f) else
  if nmN g E (nxT g E (nxT g E a)) < nmN g E (nxT g E a) then (5, nxT g E (nxT g E a), f) else
  let R := rgS g E n 25 0 (nxT g E (nxT g E (nxT g E a))) (updI (updI (updI (clrR f n 30) (30 * n + 4) (-1)) (30 * n + 1) (nmN g E (nxT g E a))) (30 * n + 2) (nmN g E (nxT g E (nxT g E a))))
  (R.1, R.2.1, updI R.2.2.2 (30 * n) R.2.2.1)
theorem rgP_rt {n b j : Nat} (h : rgP n b j) : rtP b j := by
  unfold rgP at h
  unfold rtP
  rcases h with h | h | h
  · exact Or.inl h
  · exact Or.inr (Or.inl h.1)
  · exact Or.inr (Or.inr (Or.inr h))
set_option maxHeartbeats 600000 in
set_option maxRecDepth 20000 in
theorem readTimber_61 {M0 M : Mm} {g f : Nat → Int} {E n a : Nat} {x3 : Option AV} (hp : oct g E) (hE : E ≤ 900) (ha : a ≤ 900) (hn : n < 8) (F : FrP rtP M0 M) (ht : tsM M g E (nxT g E a)) (hb : M 154 15 = 0) (h0 : M 157 0 = n) (hf : M 159 = clrR f n 30) : WPm m_Model_readTimber (fun v M' => v = none ∧ rtQ M0 g E n (rtS g E n a f).1 (rtS g E n a f).2.1 (rtS g E n a f).2.2 M') 61 [some (.inr 154), some (.inl (30 * (n : Int))), some (.inl (30 : Int)), x3] [] M := by
  unfold rtS
  rw [if_neg (show ¬ n = 8 by omega)]
  have b9 := nxT_le (g := g) hE ha
  have c9 := nxT_le (g := g) hE b9
  have d9 := nxT_le (g := g) hE c9
  generalize nxT g E a = b at *
  have ix4 : (30 * (n : Int) + 4).toNat = 30 * n + 4 := by omega
  have ix1 : (30 * (n : Int) + 1).toNat = 30 * n + 1 := by omega
  have ix2 : (30 * (n : Int) + 2).toNat = 30 * n + 2 := by omega
  have F1 : FrP rtP M0 (mset M 159 (30 * n + 4) (-1)) := F.st (Or.inr (Or.inl rfl))
  have T1 : tsM (mset M 159 (30 * n + 4) (-1)) g E b := tsM_mv ht (fun b j z => if_neg (by omega))
  have b1 : mset M 159 (30 * n + 4) (-1) 154 15 = 0 := by rw [← hb]; simp [mset]
  have z1 : mset M 159 (30 * n + 4) (-1) 157 0 = n := by rw [← h0]; simp [mset]
  have ef1 : mset M 159 (30 * n + 4) (-1) 159 = updI (clrR f n 30) (30 * n + 4) (-1) := by rw [mset_row, hf]
  generalize eM1 : mset M 159 (30 * n + 4) (-1) = M1 at *
  have N := readNumber_ok (lo := 0) (hi := 30) T1 hp b1 hE b9 ⟨by omega, by omega⟩ ⟨by omega, by omega⟩
  have i1 := nmF_in g E b 0 30
  refine wpm_of (cuts := [131, 144, 236]) (by decide) 80 _ _ _ _ ?_
  simp (maxSteps := 2000000) only [↓reduceIte, wp_eq, wpd_eq, kont_eq, STP1, STP2, STP3, STP4, STP5, konM_eq, AMK, CZ, Option.map, List.getElem?_cons_zero, List.getElem?_cons_succ, List.mem_cons, List.not_mem_nil, if_false, if_true, Nat.reduceAdd, Nat.reduceLT, Nat.reduceLeDiff, Nat.reduceEqDiff, true_and, and_true, List.length_nil, List.length_cons, or_true, true_or, or_false, false_or, Option.some.injEq, Sum.inl.injEq, Sum.inr.injEq, exists_eq_left', exists_eq_left, Int.reduceLE, Int.reduceLT, Int.reduceNeg, Int.reduceAdd, Int.reduceMul, Int.reduceSub, Int.reduceToNat, inR, Nat.zero_ne_one, false_and, Nat.succ_ne_zero, reduceCtorEq, false_implies, true_implies, not_false_eq_true, not_true_eq_false, Int.reduceEq, KRE, C_Model_readTimber, FM, ix4, eM1]
  repeat (first | refine ⟨by omega, ?_⟩ | refine ⟨fun _ _ => okt_nn (by omega), ?_⟩)
  try (first | (show _ ≤ _; omega) | (show _ < _; omega))
  refine N.mono (fun x M2 z => ?_)
  obtain ⟨y1, y2⟩ := z
  by_cases cF : nmF g E b 0 30 = 0
  · obtain ⟨rfl, F2, T2⟩ := y1 cF
    rw [if_neg (fun w => w cF)]
    have b2 : M2 154 15 = 0 := (F2 _ _ (by unfold stP; omega)).trans b1
    have z2 : M2 157 0 = n := (F2 _ _ (by unfold stP; omega)).trans z1
    have ef2 : M2 159 = updI (clrR f n 30) (30 * n + 4) (-1) := (funext fun j => F2 159 j (by unfold stP; omega)).trans ef1
    have F2' : FrP rtP M0 M2 := F1.tr (F2.wd (fun b j z => Or.inl z))
    generalize nxT g E b = c at *
    have F3 : FrP rtP M0 (mset M2 159 (30 * n + 1) (nmN g E b)) := F2'.st (Or.inr (Or.inl rfl))
    have T3 : tsM (mset M2 159 (30 * n + 1) (nmN g E b)) g E c := tsM_mv T2 (fun b j z => if_neg (by omega))
    have b3 : mset M2 159 (30 * n + 1) (nmN g E b) 154 15 = 0 := by rw [← b2]; simp [mset]
    have z3 : mset M2 159 (30 * n + 1) (nmN g E b) 157 0 = n := by rw [← z2]; simp [mset]
    have ef3 : mset M2 159 (30 * n + 1) (nmN g E b) 159 = updI (updI (clrR f n 30) (30 * n + 4) (-1)) (30 * n + 1) (nmN g E b) := by rw [mset_row, ef2]
    generalize eM3 : mset M2 159 (30 * n + 1) (nmN g E b) = M3 at *
    have N3 := number_ok (lo := 0) (hi := 30) T3 b3 hE c9 ⟨by omega, by omega⟩ ⟨by omega, by omega⟩
    have i3 := nmF_in g E c 0 30
    try simp (maxSteps := 2000000) only [↓reduceIte, wp_eq, wpd_eq, kont_eq, STP1, STP2, STP3, STP4, STP5, konM_eq, AMK, CZ, Option.map, List.getElem?_cons_zero, List.getElem?_cons_succ, List.mem_cons, List.not_mem_nil, if_false, if_true, Nat.reduceAdd, Nat.reduceLT, Nat.reduceLeDiff, Nat.reduceEqDiff, true_and, and_true, List.length_nil, List.length_cons, or_true, true_or, or_false, false_or, Option.some.injEq, Sum.inl.injEq, Sum.inr.injEq, exists_eq_left', exists_eq_left, Int.reduceLE, Int.reduceLT, Int.reduceNeg, Int.reduceAdd, Int.reduceMul, Int.reduceSub, Int.reduceToNat, inR, Nat.zero_ne_one, false_and, Nat.succ_ne_zero, reduceCtorEq, false_implies, true_implies, not_false_eq_true, not_true_eq_false, Int.reduceEq, KRE, C_Model_readTimber, FM, ix1, eM3]
    repeat (first | refine ⟨by omega, ?_⟩ | refine ⟨fun _ _ => okt_nn (by omega), ?_⟩)
    try (first | (show _ ≤ _; omega) | (show _ < _; omega))
    by_cases cG : nmF g E c 0 30 = 0
    · rw [if_neg (fun w => w cG)]
      rw [if_pos cG, if_pos cG] at N3
      have F4 : FrP rtP M0 (mset M3 159 (30 * n + 2) (nmN g E c)) := F3.st (Or.inr (Or.inl rfl))
      have T4 : tsM (mset M3 159 (30 * n + 2) (nmN g E c)) g E c := tsM_mv T3 (fun b j z => if_neg (by omega))
      have b4 : mset M3 159 (30 * n + 2) (nmN g E c) 154 15 = 0 := by rw [← b3]; simp [mset]
      have z4 : mset M3 159 (30 * n + 2) (nmN g E c) 157 0 = n := by rw [← z3]; simp [mset]
      have ef4 : mset M3 159 (30 * n + 2) (nmN g E c) 159 = updI (updI (updI (clrR f n 30) (30 * n + 4) (-1)) (30 * n + 1) (nmN g E b)) (30 * n + 2) (nmN g E c) := by rw [mset_row, ef3]
      have v2 : mset M3 159 (30 * n + 2) (nmN g E c) 159 (30 * n + 2) = nmN g E c := by simp [mset]
      have v1 : mset M3 159 (30 * n + 2) (nmN g E c) 159 (30 * n + 1) = nmN g E b := by
        rw [ef4]
        simp [updI]
      generalize eM4 : mset M3 159 (30 * n + 2) (nmN g E c) = M4 at *
      have in1 : inR (nmN g E b) := by
        unfold nmF at cF
        by_cases k2 : tmK g E b ≠ 2
        · rw [if_pos k2] at cF; omega
        · rw [if_neg k2] at cF
          unfold nmN
          split at cF
          · omega
          · exact ⟨by omega, by omega⟩
      have in2 : inR (nmN g E c) := by
        unfold nmF at cG
        by_cases k2 : tmK g E c ≠ 2
        · rw [if_pos k2] at cG; omega
        · rw [if_neg k2] at cG
          unfold nmN
          split at cG
          · omega
          · exact ⟨by omega, by omega⟩
      obtain ⟨n1, n2⟩ := in1
      obtain ⟨n3, n4⟩ := in2
      by_cases cL : nmN g E c < nmN g E b
      · rw [if_pos cL]
        have W := wrong_ok (M := M4) (c := 5) b4 ⟨by omega, by omega⟩
        have e15 := mWr_15 M4 5
        have e16 : mWr M4 5 154 16 = (c : Int) := by rw [← T4.2.2.1]; simp [mWr, mset]
        have F5 : FrP rtP M0 (mWr M4 5) := (F4.st (Or.inr (Or.inr (Or.inr ⟨rfl, by omega⟩)))).st (Or.inr (Or.inr (Or.inr ⟨rfl, by omega⟩)))
        have R := readTimber_142b (g := g) (E := E) (p := c) (f' := f) (x2 := some (.inl (30 : Int))) (x3 := x3) hn F5 (show (5 : Int) ≠ 0 by omega) ⟨by omega, by omega⟩ e15 e16
        have q := eq_false (show ¬ nmN g E b ≤ nmN g E c by omega)
        refine N3.eq ?_
        try simp (maxSteps := 2000000) only [↓reduceIte, wp_eq, wpd_eq, kont_eq, STP1, STP2, STP3, STP4, STP5, konM_eq, AMK, CZ, Option.map, List.getElem?_cons_zero, List.getElem?_cons_succ, List.mem_cons, List.not_mem_nil, if_false, if_true, Nat.reduceAdd, Nat.reduceLT, Nat.reduceLeDiff, Nat.reduceEqDiff, true_and, and_true, List.length_nil, List.length_cons, or_true, true_or, or_false, false_or, Option.some.injEq, Sum.inl.injEq, Sum.inr.injEq, exists_eq_left', exists_eq_left, Int.reduceLE, Int.reduceLT, Int.reduceNeg, Int.reduceAdd, Int.reduceMul, Int.reduceSub, Int.reduceToNat, inR, Nat.zero_ne_one, false_and, Nat.succ_ne_zero, reduceCtorEq, false_implies, true_implies, not_false_eq_true, not_true_eq_false, Int.reduceEq, KRE, C_Model_readTimber, FM, ix1, ix2, eM4, b4, v1, v2, q]
        repeat (first | refine ⟨by omega, ?_⟩ | refine ⟨fun _ _ => okt_nn (by omega), ?_⟩)
        try (first | (show _ ≤ _; omega) | (show _ < _; omega))
        refine W.eq ?_
        try simp (maxSteps := 2000000) only [↓reduceIte, wp_eq, wpd_eq, kont_eq, STP1, STP2, STP3, STP4, STP5, konM_eq, AMK, CZ, Option.map, List.getElem?_cons_zero, List.getElem?_cons_succ, List.mem_cons, List.not_mem_nil, if_false, if_true, Nat.reduceAdd, Nat.reduceLT, Nat.reduceLeDiff, Nat.reduceEqDiff, true_and, and_true, List.length_nil, List.length_cons, or_true, true_or, or_false, false_or, Option.some.injEq, Sum.inl.injEq, Sum.inr.injEq, exists_eq_left', exists_eq_left, Int.reduceLE, Int.reduceLT, Int.reduceNeg, Int.reduceAdd, Int.reduceMul, Int.reduceSub, Int.reduceToNat, inR, Nat.zero_ne_one, false_and, Nat.succ_ne_zero, reduceCtorEq, false_implies, true_implies, not_false_eq_true, not_true_eq_false, Int.reduceEq, KRE, C_Model_readTimber, FM]
        repeat (first | refine ⟨by omega, ?_⟩ | refine ⟨fun _ _ => okt_nn (by omega), ?_⟩)
        try (first | (show _ ≤ _; omega) | (show _ < _; omega))
        exact R
      · rw [if_neg cL]
        have q := eq_true (show nmN g E b ≤ nmN g E c by omega)
        have S := step_ok T4 hp hE c9
        refine N3.eq ?_
        try simp (maxSteps := 2000000) only [↓reduceIte, wp_eq, wpd_eq, kont_eq, STP1, STP2, STP3, STP4, STP5, konM_eq, AMK, CZ, Option.map, List.getElem?_cons_zero, List.getElem?_cons_succ, List.mem_cons, List.not_mem_nil, if_false, if_true, Nat.reduceAdd, Nat.reduceLT, Nat.reduceLeDiff, Nat.reduceEqDiff, true_and, and_true, List.length_nil, List.length_cons, or_true, true_or, or_false, false_or, Option.some.injEq, Sum.inl.injEq, Sum.inr.injEq, exists_eq_left', exists_eq_left, Int.reduceLE, Int.reduceLT, Int.reduceNeg, Int.reduceAdd, Int.reduceMul, Int.reduceSub, Int.reduceToNat, inR, Nat.zero_ne_one, false_and, Nat.succ_ne_zero, reduceCtorEq, false_implies, true_implies, not_false_eq_true, not_true_eq_false, Int.reduceEq, KRE, C_Model_readTimber, FM, ix1, ix2, eM4, b4, v1, v2, q]
        repeat (first | refine ⟨by omega, ?_⟩ | refine ⟨fun _ _ => okt_nn (by omega), ?_⟩)
        try (first | (show _ ≤ _; omega) | (show _ < _; omega))
        refine wpm_of (cuts := [144]) (by decide) 80 _ _ _ _ ?_
        simp (maxSteps := 2000000) only [↓reduceIte, wp_eq, wpd_eq, kont_eq, STP1, STP2, STP3, STP4, STP5, konM_eq, AMK, CZ, Option.map, List.getElem?_cons_zero, List.getElem?_cons_succ, List.mem_cons, List.not_mem_nil, if_false, if_true, Nat.reduceAdd, Nat.reduceLT, Nat.reduceLeDiff, Nat.reduceEqDiff, true_and, and_true, List.length_nil, List.length_cons, or_true, true_or, or_false, false_or, Option.some.injEq, Sum.inl.injEq, Sum.inr.injEq, exists_eq_left', exists_eq_left, Int.reduceLE, Int.reduceLT, Int.reduceNeg, Int.reduceAdd, Int.reduceMul, Int.reduceSub, Int.reduceToNat, inR, Nat.zero_ne_one, false_and, Nat.succ_ne_zero, reduceCtorEq, false_implies, true_implies, not_false_eq_true, not_true_eq_false, Int.reduceEq, KRE, C_Model_readTimber, FM, b4]
        repeat (first | refine ⟨by omega, ?_⟩ | refine ⟨fun _ _ => okt_nn (by omega), ?_⟩)
        try (first | (show _ ≤ _; omega) | (show _ < _; omega))
        refine S.mono (fun M5 w => ?_)
        obtain ⟨F5, T5⟩ := w
        have F5' : FrP rtP M0 M5 := F4.tr (F5.wd (fun b j z => Or.inl z))
        have b5 : M5 154 15 = 0 := (F5 _ _ (by unfold stP; omega)).trans b4
        have z5 : M5 157 0 = n := (F5 _ _ (by unfold stP; omega)).trans z4
        have ef5 := (funext fun j => F5 159 j (by unfold stP; omega) : M5 159 = M4 159).trans ef4
        try simp (maxSteps := 2000000) only [↓reduceIte, wp_eq, wpd_eq, kont_eq, STP1, STP2, STP3, STP4, STP5, konM_eq, AMK, CZ, Option.map, List.getElem?_cons_zero, List.getElem?_cons_succ, List.mem_cons, List.not_mem_nil, if_false, if_true, Nat.reduceAdd, Nat.reduceLT, Nat.reduceLeDiff, Nat.reduceEqDiff, true_and, and_true, List.length_nil, List.length_cons, or_true, true_or, or_false, false_or, Option.some.injEq, Sum.inl.injEq, Sum.inr.injEq, exists_eq_left', exists_eq_left, Int.reduceLE, Int.reduceLT, Int.reduceNeg, Int.reduceAdd, Int.reduceMul, Int.reduceSub, Int.reduceToNat, inR, Nat.zero_ne_one, false_and, Nat.succ_ne_zero, reduceCtorEq, false_implies, true_implies, not_false_eq_true, not_true_eq_false, Int.reduceEq, KRE, C_Model_readTimber, FM]
        repeat (first | refine ⟨by omega, ?_⟩ | refine ⟨fun _ _ => okt_nn (by omega), ?_⟩)
        try (first | (show _ ≤ _; omega) | (show _ < _; omega))
        generalize hf5 : updI (updI (updI (clrR f n 30) (30 * n + 4) (-1)) (30 * n + 1) (nmN g E b)) (30 * n + 2) (nmN g E c) = f5 at *
        refine rings_ok hp hE hn 25 0 (nxT g E c) f5 M5 x3 (by omega) (by omega) d9 T5 b5 ef5 (fun w0 x3 M' y1 y2 y3 y4 => ?_) (fun w0 M' y1 y2 y3 => ?_)
        · have G := readTimber_236 (M0 := M0) (x3 := x3) (k := (rgS g E n 25 0 (nxT g E c) f5).2.2.1) hn (F5'.tr (y1.wd (fun b j z => rgP_rt z))) y2 y3 y4 ((y1 _ _ (by unfold rgP stP; omega)).trans z5)
          rw [← w0] at G
          exact G
        · exact ⟨rfl, F5'.tr (y1.wd (fun b j z => rgP_rt z)), fun _ => ⟨y2, y3⟩, fun w => absurd w w0⟩
    · rw [if_pos cG]
      rw [if_neg cG, if_neg cG] at N3
      have e15 := mWr_15 M3 (nmF g E c 0 30)
      have e16 : mWr M3 (nmF g E c 0 30) 154 16 = (c : Int) := by rw [← T3.2.2.1]; simp [mWr, mset]
      have F4 : FrP rtP M0 (mWr M3 (nmF g E c 0 30)) := (F3.st (Or.inr (Or.inr (Or.inr ⟨rfl, by omega⟩)))).st (Or.inr (Or.inr (Or.inr ⟨rfl, by omega⟩)))
      generalize mWr M3 (nmF g E c 0 30) = M4 at *
      generalize nmF g E c 0 30 = cc at *
      have F5 : FrP rtP M0 (mset M4 159 (30 * n + 2) 0) := F4.st (Or.inr (Or.inl rfl))
      have e5 : mset M4 159 (30 * n + 2) 0 154 15 = cc := by rw [← e15]; simp [mset]
      have e56 : mset M4 159 (30 * n + 2) 0 154 16 = (c : Int) := by rw [← e16]; simp [mset]
      generalize eM5 : mset M4 159 (30 * n + 2) 0 = M5 at *
      have R := readTimber_142b (g := g) (E := E) (p := c) (f' := f) (x2 := some (.inl (30 : Int))) (x3 := x3) hn F5 cG ⟨by omega, by omega⟩ e5 e56
      have q := eq_false cG
      refine N3.eq ?_
      try simp (maxSteps := 2000000) only [↓reduceIte, wp_eq, wpd_eq, kont_eq, STP1, STP2, STP3, STP4, STP5, konM_eq, AMK, CZ, Option.map, List.getElem?_cons_zero, List.getElem?_cons_succ, List.mem_cons, List.not_mem_nil, if_false, if_true, Nat.reduceAdd, Nat.reduceLT, Nat.reduceLeDiff, Nat.reduceEqDiff, true_and, and_true, List.length_nil, List.length_cons, or_true, true_or, or_false, false_or, Option.some.injEq, Sum.inl.injEq, Sum.inr.injEq, exists_eq_left', exists_eq_left, Int.reduceLE, Int.reduceLT, Int.reduceNeg, Int.reduceAdd, Int.reduceMul, Int.reduceSub, Int.reduceToNat, inR, Nat.zero_ne_one, false_and, Nat.succ_ne_zero, reduceCtorEq, false_implies, true_implies, not_false_eq_true, not_true_eq_false, Int.reduceEq, KRE, C_Model_readTimber, FM, ix2, eM5, e5, q]
      repeat (first | refine ⟨by omega, ?_⟩ | refine ⟨fun _ _ => okt_nn (by omega), ?_⟩)
      try (first | (show _ ≤ _; omega) | (show _ < _; omega))
      exact R
  · obtain ⟨rfl, rfl⟩ := y2 cF
    rw [if_pos cF]
    have e15 := mWr_15 M1 (nmF g E b 0 30)
    have e16 : mWr M1 (nmF g E b 0 30) 154 16 = (b : Int) := by rw [← T1.2.2.1]; simp [mWr, mset]
    have F2 : FrP rtP M0 (mWr M1 (nmF g E b 0 30)) := (F1.st (Or.inr (Or.inr (Or.inr ⟨rfl, by omega⟩)))).st (Or.inr (Or.inr (Or.inr ⟨rfl, by omega⟩)))
    generalize mWr M1 (nmF g E b 0 30) = M2 at *
    generalize nmF g E b 0 30 = c at *
    have F3 : FrP rtP M0 (mset M2 159 (30 * n + 1) 0) := F2.st (Or.inr (Or.inl rfl))
    have e3 : mset M2 159 (30 * n + 1) 0 154 15 = c := by rw [← e15]; simp [mset]
    have e36 : mset M2 159 (30 * n + 1) 0 154 16 = (b : Int) := by rw [← e16]; simp [mset]
    generalize eM3 : mset M2 159 (30 * n + 1) 0 = M3 at *
    have N3 := number_no (M := M3) (lo := 0) (hi := 30) (by rw [e3]; exact cF) (by rw [e3]; exact ⟨by omega, by omega⟩)
    have F4 : FrP rtP M0 (mset M3 159 (30 * n + 2) 0) := F3.st (Or.inr (Or.inl rfl))
    have e4 : mset M3 159 (30 * n + 2) 0 154 15 = c := by rw [← e3]; simp [mset]
    have e46 : mset M3 159 (30 * n + 2) 0 154 16 = (b : Int) := by rw [← e36]; simp [mset]
    generalize eM4 : mset M3 159 (30 * n + 2) 0 = M4 at *
    have R := readTimber_142b (g := g) (E := E) (p := b) (f' := f) (x2 := some (.inl (30 : Int))) (x3 := x3) hn F4 cF ⟨by omega, by omega⟩ e4 e46
    have q := eq_false cF
    try simp (maxSteps := 2000000) only [↓reduceIte, wp_eq, wpd_eq, kont_eq, STP1, STP2, STP3, STP4, STP5, konM_eq, AMK, CZ, Option.map, List.getElem?_cons_zero, List.getElem?_cons_succ, List.mem_cons, List.not_mem_nil, if_false, if_true, Nat.reduceAdd, Nat.reduceLT, Nat.reduceLeDiff, Nat.reduceEqDiff, true_and, and_true, List.length_nil, List.length_cons, or_true, true_or, or_false, false_or, Option.some.injEq, Sum.inl.injEq, Sum.inr.injEq, exists_eq_left', exists_eq_left, Int.reduceLE, Int.reduceLT, Int.reduceNeg, Int.reduceAdd, Int.reduceMul, Int.reduceSub, Int.reduceToNat, inR, Nat.zero_ne_one, false_and, Nat.succ_ne_zero, reduceCtorEq, false_implies, true_implies, not_false_eq_true, not_true_eq_false, Int.reduceEq, KRE, C_Model_readTimber, FM, ix1, eM3]
    repeat (first | refine ⟨by omega, ?_⟩ | refine ⟨fun _ _ => okt_nn (by omega), ?_⟩)
    try (first | (show _ ≤ _; omega) | (show _ < _; omega))
    refine N3.eq ?_
    try simp (maxSteps := 2000000) only [↓reduceIte, wp_eq, wpd_eq, kont_eq, STP1, STP2, STP3, STP4, STP5, konM_eq, AMK, CZ, Option.map, List.getElem?_cons_zero, List.getElem?_cons_succ, List.mem_cons, List.not_mem_nil, if_false, if_true, Nat.reduceAdd, Nat.reduceLT, Nat.reduceLeDiff, Nat.reduceEqDiff, true_and, and_true, List.length_nil, List.length_cons, or_true, true_or, or_false, false_or, Option.some.injEq, Sum.inl.injEq, Sum.inr.injEq, exists_eq_left', exists_eq_left, Int.reduceLE, Int.reduceLT, Int.reduceNeg, Int.reduceAdd, Int.reduceMul, Int.reduceSub, Int.reduceToNat, inR, Nat.zero_ne_one, false_and, Nat.succ_ne_zero, reduceCtorEq, false_implies, true_implies, not_false_eq_true, not_true_eq_false, Int.reduceEq, KRE, C_Model_readTimber, FM, ix2, eM4, e4, q]
    repeat (first | refine ⟨by omega, ?_⟩ | refine ⟨fun _ _ => okt_nn (by omega), ?_⟩)
    try (first | (show _ ≤ _; omega) | (show _ < _; omega))
    exact R
def mClr (M : Mm) (n k : Nat) : Mm := fun b j => if b = 159 ∧ 30 * n ≤ j ∧ j < 30 * n + k then 0 else M b j
theorem mClr_s {M : Mm} {n k : Nat} : mset (mClr M n k) 159 (30 * n + k) 0 = mClr M n (k + 1) := by
  funext b j
  show (if b = 159 ∧ j = 30 * n + k then (0 : Int) else if b = 159 ∧ 30 * n ≤ j ∧ j < 30 * n + k then 0 else M b j) = (if b = 159 ∧ 30 * n ≤ j ∧ j < 30 * n + (k + 1) then 0 else M b j)
  by_cases h1 : b = 159 ∧ j = 30 * n + k
  · rw [if_pos h1, if_pos (by omega)]
  · rw [if_neg h1]
    exact if_cg (by omega) rfl rfl
set_option maxHeartbeats 600000 in
set_option maxRecDepth 20000 in
theorem readTimber_ok {M : Mm} {g f : Nat → Int} {E n a : Nat} (hp : oct g E) (hE : E ≤ 900) (ha : a ≤ 900) (hn : n ≤ 8) (ht : tsM M g E a) (hb : M 154 15 = 0) (h0 : M 157 0 = n) (hf : M 159 = f) : CallV m_Model_readTimber [.inr 154] M (fun M' => rtQ M g E n (rtS g E n a f).1 (rtS g E n a f).2.1 (rtS g E n a f).2.2 M') := by
  by_cases c8 : n = 8
  · have q := eq_true (show M 157 0 = 8 by omega)
    have W := wrong_ok (M := M) (c := 2) hb ⟨by omega, by omega⟩
    have e15 := mWr_15 M 2
    have r : rtQ M g E n (rtS g E n a f).1 (rtS g E n a f).2.1 (rtS g E n a f).2.2 (mWr M 2) := by
      unfold rtS
      rw [if_pos c8]
      refine ⟨(FrP.rf.st (Or.inr (Or.inr (Or.inr ⟨rfl, by omega⟩)))).st (Or.inr (Or.inr (Or.inr ⟨rfl, by omega⟩))), fun _ => ⟨e15, ?_⟩, fun z => ?_⟩
      · rw [← ht.2.2.1]; simp [mWr, mset]
      · exact absurd z (show ¬ (2 : Int) = 0 by omega)
    refine callP_of (by decide) (by decide) (Nat.le_of_ble_eq_true rfl) (wpm_of (cuts := [40]) (by decide) 80 _ _ _ _ ?_)
    rw [show lM m_Model_readTimber = 4 from rfl]
    simp (maxSteps := 2000000) only [↓reduceIte, wp_eq, wpd_eq, kont_eq, STP1, STP2, STP3, STP4, STP5, konM_eq, AMK, CZ, Option.map, List.getElem?_cons_zero, List.getElem?_cons_succ, List.mem_cons, List.not_mem_nil, if_false, if_true, Nat.reduceAdd, Nat.reduceLT, Nat.reduceLeDiff, Nat.reduceEqDiff, true_and, and_true, List.length_nil, List.length_cons, or_true, true_or, or_false, false_or, Option.some.injEq, Sum.inl.injEq, Sum.inr.injEq, exists_eq_left', exists_eq_left, Int.reduceLE, Int.reduceLT, Int.reduceNeg, Int.reduceAdd, Int.reduceMul, Int.reduceSub, Int.reduceToNat, inR, Nat.zero_ne_one, false_and, Nat.succ_ne_zero, reduceCtorEq, false_implies, true_implies, not_false_eq_true, not_true_eq_false, Int.reduceEq, KRE, C_Model_readTimber, FM, q]
    repeat (first | refine ⟨by omega, ?_⟩ | refine ⟨fun _ _ => okt_nn (by omega), ?_⟩)
    try (first | (show _ ≤ _; omega) | (show _ < _; omega))
    refine W.eq ?_
    try simp (maxSteps := 2000000) only [↓reduceIte, wp_eq, wpd_eq, kont_eq, STP1, STP2, STP3, STP4, STP5, konM_eq, AMK, CZ, Option.map, List.getElem?_cons_zero, List.getElem?_cons_succ, List.mem_cons, List.not_mem_nil, if_false, if_true, Nat.reduceAdd, Nat.reduceLT, Nat.reduceLeDiff, Nat.reduceEqDiff, true_and, and_true, List.length_nil, List.length_cons, or_true, true_or, or_false, false_or, Option.some.injEq, Sum.inl.injEq, Sum.inr.injEq, exists_eq_left', exists_eq_left, Int.reduceLE, Int.reduceLT, Int.reduceNeg, Int.reduceAdd, Int.reduceMul, Int.reduceSub, Int.reduceToNat, inR, Nat.zero_ne_one, false_and, Nat.succ_ne_zero, reduceCtorEq, false_implies, true_implies, not_false_eq_true, not_true_eq_false, Int.reduceEq, KRE, C_Model_readTimber, FM, e15]
    repeat (first | refine ⟨by omega, ?_⟩ | refine ⟨fun _ _ => okt_nn (by omega), ?_⟩)
    try (first | (show _ ≤ _; omega) | (show _ < _; omega))
    all_goals first | exact r | exact ⟨rfl, r⟩
  · have hn8 : n < 8 := by omega
    have q := eq_false (show ¬ M 157 0 = 8 by omega)
    have b9 := nxT_le (g := g) hE ha
    refine callP_of (by decide) (by decide) (Nat.le_of_ble_eq_true rfl) (wpm_of (cuts := [40, 61]) (by decide) 80 _ _ _ _ ?_)
    rw [show lM m_Model_readTimber = 4 from rfl]
    simp (maxSteps := 2000000) only [↓reduceIte, wp_eq, wpd_eq, kont_eq, STP1, STP2, STP3, STP4, STP5, konM_eq, AMK, CZ, Option.map, List.getElem?_cons_zero, List.getElem?_cons_succ, List.mem_cons, List.not_mem_nil, if_false, if_true, Nat.reduceAdd, Nat.reduceLT, Nat.reduceLeDiff, Nat.reduceEqDiff, true_and, and_true, List.length_nil, List.length_cons, or_true, true_or, or_false, false_or, Option.some.injEq, Sum.inl.injEq, Sum.inr.injEq, exists_eq_left', exists_eq_left, Int.reduceLE, Int.reduceLT, Int.reduceNeg, Int.reduceAdd, Int.reduceMul, Int.reduceSub, Int.reduceToNat, inR, Nat.zero_ne_one, false_and, Nat.succ_ne_zero, reduceCtorEq, false_implies, true_implies, not_false_eq_true, not_true_eq_false, Int.reduceEq, KRE, C_Model_readTimber, FM, q, hb]
    repeat (first | refine ⟨by omega, ?_⟩ | refine ⟨fun _ _ => okt_nn (by omega), ?_⟩)
    try (first | (show _ ≤ _; omega) | (show _ < _; omega))
    refine (step_ok ht hp hE ha).mono (fun M1 w => ?_)
    obtain ⟨F1, T1⟩ := w
    have b1 : M1 154 15 = 0 := (F1 _ _ (by unfold stP; omega)).trans hb
    have z1 : M1 157 0 = n := (F1 _ _ (by unfold stP; omega)).trans h0
    have ef1 : M1 159 = f := (funext fun j => F1 _ _ (by unfold stP; omega)).trans hf
    have F1' : FrP rtP M M1 := F1.wd (fun b j z => Or.inl z)
    try simp (maxSteps := 2000000) only [↓reduceIte, wp_eq, wpd_eq, kont_eq, STP1, STP2, STP3, STP4, STP5, konM_eq, AMK, CZ, Option.map, List.getElem?_cons_zero, List.getElem?_cons_succ, List.mem_cons, List.not_mem_nil, if_false, if_true, Nat.reduceAdd, Nat.reduceLT, Nat.reduceLeDiff, Nat.reduceEqDiff, true_and, and_true, List.length_nil, List.length_cons, or_true, true_or, or_false, false_or, Option.some.injEq, Sum.inl.injEq, Sum.inr.injEq, exists_eq_left', exists_eq_left, Int.reduceLE, Int.reduceLT, Int.reduceNeg, Int.reduceAdd, Int.reduceMul, Int.reduceSub, Int.reduceToNat, inR, Nat.zero_ne_one, false_and, Nat.succ_ne_zero, reduceCtorEq, false_implies, true_implies, not_false_eq_true, not_true_eq_false, Int.reduceEq, KRE, C_Model_readTimber, FM, z1]
    repeat (first | refine ⟨by omega, ?_⟩ | refine ⟨fun _ _ => okt_nn (by omega), ?_⟩)
    try (first | (show _ ≤ _; omega) | (show _ < _; omega))
    refine loopQ 30 (fun k ls M2 => M2 = mClr M1 n k ∧ ls = [some (.inr 154), some (.inl (30 * (n : Int))), some (.inl (k : Int)), none]) ?_ _ _ ⟨?_, rfl⟩
    · rintro k _ _ hk ⟨rfl, rfl⟩ K
      by_cases ck : k = 30
      · subst ck
        have o : ∀ b j, b ≠ 159 → mClr M1 n 30 b j = M1 b j := fun b j h => if_neg (fun z => h z.1)
        have R := readTimber_61 (M0 := M) (M := mClr M1 n 30) (g := g) (f := f) (E := E) (n := n) (a := a) (x3 := none) hp hE ha hn8 (fun b j z => by
          rw [o b j (fun w => z (Or.inr (Or.inl w)))]
          exact F1' b j z) (tsM_mv T1 (fun b j z => o b j (by omega))) ((o _ _ (by omega)).trans b1) ((o _ _ (by omega)).trans z1) (by
          funext j
          show (if 159 = 159 ∧ 30 * n ≤ j ∧ j < 30 * n + 30 then (0 : Int) else M1 159 j) = if 30 * n ≤ j ∧ j < 30 * n + 30 then 0 else f j
          rw [ef1]
          exact if_cg (by omega) rfl rfl)
        have c30 := eq_true (show (30 : Int) ≤ (30 : Nat) by omega)
        refine wpm_of (cuts := [40, 61]) (by decide) 80 _ _ _ _ ?_
        simp (maxSteps := 2000000) only [↓reduceIte, wp_eq, wpd_eq, kont_eq, STP1, STP2, STP3, STP4, STP5, konM_eq, AMK, CZ, Option.map, List.getElem?_cons_zero, List.getElem?_cons_succ, List.mem_cons, List.not_mem_nil, if_false, if_true, Nat.reduceAdd, Nat.reduceLT, Nat.reduceLeDiff, Nat.reduceEqDiff, true_and, and_true, List.length_nil, List.length_cons, or_true, true_or, or_false, false_or, Option.some.injEq, Sum.inl.injEq, Sum.inr.injEq, exists_eq_left', exists_eq_left, Int.reduceLE, Int.reduceLT, Int.reduceNeg, Int.reduceAdd, Int.reduceMul, Int.reduceSub, Int.reduceToNat, inR, Nat.zero_ne_one, false_and, Nat.succ_ne_zero, reduceCtorEq, false_implies, true_implies, not_false_eq_true, not_true_eq_false, Int.reduceEq, KRE, C_Model_readTimber, FM, c30]
        repeat (first | refine ⟨by omega, ?_⟩ | refine ⟨fun _ _ => okt_nn (by omega), ?_⟩)
        try (first | (show _ ≤ _; omega) | (show _ < _; omega))
        exact R
      · have c30 := eq_false (show ¬ (30 : Int) ≤ k by omega)
        have K' := K (by omega) _ _ ⟨rfl, rfl⟩
        rw [← mClr_s, show ((k + 1 : Nat) : Int) = (k : Int) + 1 by omega] at K'
        have ix : (30 * (n : Int) + (k : Int)).toNat = 30 * n + k := by omega
        refine wpm_of (cuts := [40, 61]) (by decide) 80 _ _ _ _ ?_
        simp (maxSteps := 2000000) only [↓reduceIte, wp_eq, wpd_eq, kont_eq, STP1, STP2, STP3, STP4, STP5, konM_eq, AMK, CZ, Option.map, List.getElem?_cons_zero, List.getElem?_cons_succ, List.mem_cons, List.not_mem_nil, if_false, if_true, Nat.reduceAdd, Nat.reduceLT, Nat.reduceLeDiff, Nat.reduceEqDiff, true_and, and_true, List.length_nil, List.length_cons, or_true, true_or, or_false, false_or, Option.some.injEq, Sum.inl.injEq, Sum.inr.injEq, exists_eq_left', exists_eq_left, Int.reduceLE, Int.reduceLT, Int.reduceNeg, Int.reduceAdd, Int.reduceMul, Int.reduceSub, Int.reduceToNat, inR, Nat.zero_ne_one, false_and, Nat.succ_ne_zero, reduceCtorEq, false_implies, true_implies, not_false_eq_true, not_true_eq_false, Int.reduceEq, KRE, C_Model_readTimber, FM, c30, ix]
        repeat (first | refine ⟨by omega, ?_⟩ | refine ⟨fun _ _ => okt_nn (by omega), ?_⟩)
        try (first | (show _ ≤ _; omega) | (show _ < _; omega))
        exact K'
    · funext b j
      show M1 b j = if b = 159 ∧ 30 * n ≤ j ∧ j < 30 * n + 0 then 0 else M1 b j
      rw [if_neg (by omega)]
