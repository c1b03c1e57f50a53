/-! THE REFERENCE READS, 7: a whole text. -/
/-- clauses from the token at a on -/
def ydS (g : Nat → Int) (E : Nat) : Nat → Nat → (Nat → Int) → (Nat → Int) → Int → Int → CS
  | 0, a, f, r, kb, hb => (0, a, f, r, kb, hb)
  | d + 1, a, f, r, kb, hb => if E ≤ a then (0, a, f, r, kb, hb) else if (clS g E a f r kb hb).1 ≠ 0 then clS g E a f r kb hb else ydS g E d (clS g E a f r kb hb).2.1 (clS g E a f r kb hb).2.2.1 (clS g E a f r kb hb).2.2.2.1 (clS g E a f r kb hb).2.2.2.2.1 (clS g E a f r kb hb).2.2.2.2.2
theorem nxT_gt {g : Nat → Int} {E a : Nat} (h : a < E) : a < nxT g E a := by
  have s : a < tmS g E a := by
    unfold tmS
    rw [if_neg (by omega)]
    by_cases c1 : isLet (g a)
    · rw [if_pos c1]
      unfold tkW runL
      rw [if_pos ⟨h, by simpa using c1⟩]
      omega
    · rw [if_neg c1]
      by_cases c2 : isDig (g a)
      · rw [if_pos c2]
        unfold tkD runL
        rw [if_pos ⟨h, by simpa using c2⟩]
        omega
      · rw [if_neg c2]
        omega
  unfold nxT tkA
  omega
theorem nxT_ge {g : Nat → Int} {E a : Nat} : a ≤ nxT g E a := by
  by_cases h : a < E
  · exact Nat.le_of_lt (nxT_gt h)
  · unfold nxT tkA tmS
    rw [if_pos (by omega)]
    omega
theorem enS_pl {g f r : Nat → Int} {E p : Nat} {kb hb : Int} (hE : E ≤ 900) (hp : p ≤ 900) : ((enS g E p f r kb hb).2.1 ≤ 900 ∧ p ≤ (enS g E p f r kb hb).2.1) ∧ inR (enS g E p f r kb hb).1 ∧ 0 ≤ (enS g E p f r kb hb).1 ∧ (enS g E p f r kb hb).1 ≤ 5 := by
  unfold enS
  split
  · exact ⟨⟨nxT_le hE hp, nxT_ge⟩, ⟨by show (-2147483648 : Int) ≤ 0; omega, by show (0 : Int) ≤ 2147483647; omega⟩, by show (0 : Int) ≤ 0; omega, by show (0 : Int) ≤ 5; omega⟩
  · exact ⟨⟨hp, Nat.le_refl _⟩, ⟨by show (-2147483648 : Int) ≤ 1; omega, by show (1 : Int) ≤ 2147483647; omega⟩, by show (0 : Int) ≤ 1; omega, by show (1 : Int) ≤ 5; omega⟩
/-- a good end: what stands there -/
theorem enS_0 {g f r : Nat → Int} {E p : Nat} {kb hb : Int} (h : (enS g E p f r kb hb).1 = 0) : (tmK g E p = 3 ∧ g p = 59) ∧ enS g E p f r kb hb = (0, nxT g E p, f, r, kb, hb) := by
  unfold enS at *
  by_cases c : tmK g E p = 3 ∧ g p = 59
  · rw [if_pos c]; exact ⟨c, rfl⟩
  · rw [if_neg c] at h
    exact absurd h (show ¬ (1 : Int) = 0 by omega)
theorem rgS_ge {g : Nat → Int} {E n : Nat} : ∀ (d k a : Nat) (f : Nat → Int), a ≤ (rgS g E n d k a f).2.1
  | 0, k, a, f => Nat.le_refl _
  | d + 1, k, a, f => by
    have b := nxT_ge (g := g) (E := E) (a := a)
    have c := nxT_ge (g := g) (E := E) (a := nxT g E a)
    unfold rgS
    repeat' split
    all_goals first | exact Nat.le_refl _ | exact Nat.le_trans (Nat.le_trans b c) (rgS_ge d _ _ _) | exact Nat.le_trans b (rgS_ge d _ _ _)
theorem rtS_ge {g f : Nat → Int} {E n a : Nat} (h : (rtS g E n a f).1 = 0) (hn : n ≠ 8) : nxT g E (nxT g E (nxT g E a)) ≤ (rtS g E n a f).2.1 := by
  unfold rtS at *
  rw [if_neg hn] at *
  split at h
  · rename_i c; exact absurd h c
  · rename_i c
    rw [if_neg c]
    split at h
    · rename_i c2; exact absurd h c2
    · rename_i c2
      rw [if_neg c2]
      split at h
      · exact absurd h (show ¬ (5 : Int) = 0 by omega)
      · rename_i c3
        rw [if_neg c3]
        exact rgS_ge _ _ _ _
theorem nmF_lt {g : Nat → Int} {E a : Nat} {lo hi : Int} (h : nmF g E a lo hi = 0) : a < E := by
  unfold nmF at h
  by_cases c : tmK g E a ≠ 2
  · rw [if_pos c] at h; omega
  · unfold tmK at c
    by_cases z : E ≤ a
    · rw [if_pos z] at c; omega
    · omega
/-- a clause's answer: its place, its fault; a good one's place is farther on -/
theorem clS_pl {g f r : Nat → Int} {E a : Nat} {kb hb : Int} (hE : E ≤ 900) (ha : a ≤ 900) (haE : a < E) : (clS g E a f r kb hb).2.1 ≤ 900 ∧ (0 ≤ (clS g E a f r kb hb).1 ∧ (clS g E a f r kb hb).1 ≤ 5) ∧ ((clS g E a f r kb hb).1 = 0 → a < (clS g E a f r kb hb).2.1) := by
  have b9 := nxT_le (g := g) hE ha
  have c9 := nxT_le (g := g) hE b9
  have d9 := nxT_le (g := g) hE c9
  have b := nxT_gt (g := g) haE
  have c := nxT_ge (g := g) (E := E) (a := nxT g E a)
  have d := nxT_ge (g := g) (E := E) (a := nxT g E (nxT g E a))
  unfold clS
  generalize wdW g E a = w
  unfold clW
  split
  · exact ⟨ha, ⟨by show (0 : Int) ≤ 1; omega, by show (1 : Int) ≤ 5; omega⟩, fun z => absurd z (show ¬ (1 : Int) = 0 by omega)⟩
  · split
    · have R := rtS_pl (g := g) (f := f) (n := (r 0).toNat) hE ha
      split
      · rename_i q; exact ⟨R.1, R.2, fun z => absurd z q⟩
      · rename_i q
        have q' : (rtS g E (r 0).toNat a f).1 = 0 := by omega
        have P := enS_pl (g := g) (f := (rtS g E (r 0).toNat a f).2.2) (r := updI r 0 (r 0 + 1)) (kb := kb) (hb := hb) hE R.1
        refine ⟨P.1.1, P.2.2, fun _ => ?_⟩
        have n8 : (r 0).toNat ≠ 8 := fun z => by
          unfold rtS at q'
          rw [if_pos z] at q'
          exact absurd q' (show ¬ (2 : Int) = 0 by omega)
        have := rtS_ge q' n8
        omega
    · split
      · split
        · exact ⟨ha, ⟨by show (0 : Int) ≤ 4; omega, by show (4 : Int) ≤ 5; omega⟩, fun z => absurd z (show ¬ (4 : Int) = 0 by omega)⟩
        · have i := nmF_in g E (nxT g E a) (stLo w) (stHi w)
          split
          · rename_i q; exact ⟨b9, ⟨i.1, by show nmF g E (nxT g E a) (stLo w) (stHi w) ≤ 5; omega⟩, fun z => absurd z q⟩
          · have P := enS_pl (g := g) (f := f) (r := updI r w.toNat (nmN g E (nxT g E a))) (kb := kb) (hb := hb) hE c9
            exact ⟨P.1.1, P.2.2, fun _ => by omega⟩
      · have i := tnF_in g E (nxT g E a) (r 0) (if w = 4 then kb else hb)
        by_cases c4 : tnF g E (nxT g E a) (r 0) (if w = 4 then kb else hb) ≠ 0
        · rw [if_pos c4]
          exact ⟨b9, ⟨i.1, Int.le_trans i.2 (by omega)⟩, fun z => absurd z c4⟩
        · rw [if_neg c4]
          have i2 := nmF_in g E (nxT g E (nxT g E a)) 0 (if w = 4 then 900 else 3)
          by_cases c5 : nmF g E (nxT g E (nxT g E a)) 0 (if w = 4 then 900 else 3) ≠ 0
          · rw [if_pos c5]
            exact ⟨c9, ⟨i2.1, Int.le_trans i2.2 (by omega)⟩, fun z => absurd z c5⟩
          · rw [if_neg c5]
            have P := enS_pl (g := g) (f := updI f (30 * (nmN g E (nxT g E a)).toNat + (if w = 4 then 4 else 3)) (nmN g E (nxT g E (nxT g E a)))) (r := r) (kb := if w = 4 then bOr kb (bShl 1 (nmN g E (nxT g E a))) else kb) (hb := if w = 4 then hb else bOr hb (bShl 1 (nmN g E (nxT g E a)))) hE d9
            exact ⟨P.1.1, P.2.2, fun _ => by have := P.1.2; omega⟩
theorem rdI_0 {r : Nat → Int} {kb hb : Int} (h : rdI r kb hb) {f : Nat → Int} {g : Nat → Int} {E a : Nat} (hz : (clS g E a f r kb hb).1 = 0) : rdI (clS g E a f r kb hb).2.2.2.1 (clS g E a f r kb hb).2.2.2.2.1 (clS g E a f r kb hb).2.2.2.2.2 := by
  obtain ⟨⟨h1, h2⟩, h3, h4, h5⟩ := h
  unfold clS at *
  have w7 := wdW_in g E a
  generalize wdW g E a = w at *
  unfold clW at *
  by_cases c1 : w = -1
  · rw [if_pos c1] at hz
    exact absurd hz (show ¬ (1 : Int) = 0 by omega)
  · rw [if_neg c1] at hz ⊢
    by_cases c2 : w = 0
    · rw [if_pos c2] at hz ⊢
      by_cases c3 : (rtS g E (r 0).toNat a f).1 ≠ 0
      · rw [if_pos c3] at hz
        exact absurd hz c3
      · rw [if_neg c3] at hz ⊢
        rw [(enS_0 hz).2]
        have n8 : r 0 ≠ 8 := fun z => by
          refine c3 ?_
          unfold rtS
          rw [if_pos (by omega)]
          show (2 : Int) ≠ 0
          omega
        refine ⟨?_, fun j j1 j2 => ?_, h4, h5⟩
        · show 0 ≤ updI r 0 (r 0 + 1) 0 ∧ updI r 0 (r 0 + 1) 0 ≤ 8
          simp only [updI, if_true]
          omega
        · show -1 ≤ updI r 0 (r 0 + 1) j ∧ updI r 0 (r 0 + 1) j ≤ 100
          simp only [updI]
          rw [if_neg (by omega)]
          exact h3 j j1 j2
    · rw [if_neg c2] at hz ⊢
      by_cases c3 : w ≤ 3
      · rw [if_pos c3] at hz ⊢
        by_cases c4 : r w.toNat ≠ -1
        · rw [if_pos c4] at hz
          exact absurd hz (show ¬ (4 : Int) = 0 by omega)
        · rw [if_neg c4] at hz ⊢
          by_cases c5 : nmF g E (nxT g E a) (stLo w) (stHi w) ≠ 0
          · rw [if_pos c5] at hz
            exact absurd hz c5
          · rw [if_neg c5] at hz ⊢
            rw [(enS_0 hz).2]
            have i := nmN_in (show nmF g E (nxT g E a) (stLo w) (stHi w) = 0 by omega)
            have lo : 0 ≤ stLo w ∧ stHi w ≤ 100 := by
              unfold stLo stHi
              repeat' split
              all_goals omega
            refine ⟨?_, fun j j1 j2 => ?_, h4, h5⟩
            · show 0 ≤ updI r w.toNat (nmN g E (nxT g E a)) 0 ∧ updI r w.toNat (nmN g E (nxT g E a)) 0 ≤ 8
              simp only [updI]
              rw [if_neg (by omega)]
              omega
            · show -1 ≤ updI r w.toNat (nmN g E (nxT g E a)) j ∧ updI r w.toNat (nmN g E (nxT g E a)) j ≤ 100
              simp only [updI]
              split
              · omega
              · exact h3 j j1 j2
      · rw [if_neg c3] at hz ⊢
        by_cases c4 : tnF g E (nxT g E a) (r 0) (if w = 4 then kb else hb) ≠ 0
        · rw [if_pos c4] at hz
          exact absurd hz c4
        · rw [if_neg c4] at hz ⊢
          by_cases c5 : nmF g E (nxT g E (nxT g E a)) 0 (if w = 4 then 900 else 3) ≠ 0
          · rw [if_pos c5] at hz
            exact absurd hz c5
          · rw [if_neg c5] at hz ⊢
            rw [(enS_0 hz).2]
            refine ⟨⟨h1, h2⟩, h3, ?_, ?_⟩
            · show inR (if w = 4 then bOr kb (bShl 1 (nmN g E (nxT g E a))) else kb)
              split
              · exact bOr_in _ _
              · exact h4
            · show inR (if w = 4 then hb else bOr hb (bShl 1 (nmN g E (nxT g E a))))
              split
              · exact h5
              · exact bOr_in _ _
theorem rcQ_tr {M0 M1 M2 : Mm} {g : Nat → Int} {E : Nat} {S : CS} (F : FrP rcP M0 M1) (h : rcQ M1 g E S M2) : rcQ M0 g E S M2 := ⟨F.tr h.1, h.2⟩
set_option maxHeartbeats 600000 in
set_option maxRecDepth 20000 in
theorem Myard_loop {g : Nat → Int} {E : Nat} {Qc : Option AV → Mm → Prop} {x1 : Option AV} (hp : oct g E) (hE : E ≤ 900) : ∀ (d a : Nat) (f r : Nat → Int) (kb hb : Int) (M : Mm), E ≤ a + d → a ≤ 900 → rdM M g E a f r kb hb → rdI r kb hb →
    (∀ M', rcQ M g E (ydS g E d a f r kb hb) M' → WPm m_Model_yard Qc 90 [some (.inr 154), x1] [] M') → WPm m_Model_yard Qc 69 [some (.inr 154), x1] [] M
  | 0, a, f, r, kb, hb, M, hd, ha, hm, hi, K => by
    have b0 := hm.2.1
    have t0 : M 154 11 = 0 := by
      rw [hm.1.2.2.2.2.2.1]
      exact if_pos (by omega)
    have R := K M ⟨FrP.rf, fun z => absurd rfl z, fun _ => hm⟩
    refine wpm_of (cuts := [69, 90]) (by decide) 60 _ _ _ _ ?_
    simp (maxSteps := 2000000) only [↓reduceIte, wp_eq, wpd_eq, kont_eq, STP1, STP2, STP3, STP4, STP5, konM_eq, AMK, CZ, Option.map, List.getElem?_cons_zero, List.getElem?_cons_succ, List.mem_cons, List.not_mem_nil, if_false, if_true, Nat.reduceAdd, Nat.reduceLT, Nat.reduceLeDiff, Nat.reduceEqDiff, true_and, and_true, List.length_nil, List.length_cons, or_true, true_or, or_false, false_or, Option.some.injEq, Sum.inl.injEq, Sum.inr.injEq, exists_eq_left', exists_eq_left, Int.reduceLE, Int.reduceLT, Int.reduceNeg, Int.reduceAdd, Int.reduceMul, Int.reduceSub, Int.reduceToNat, inR, Nat.zero_ne_one, false_and, Nat.succ_ne_zero, reduceCtorEq, false_implies, true_implies, not_false_eq_true, not_true_eq_false, Int.reduceEq, KRE, C_Model_yard, FM, b0, t0]
    repeat (first | refine ⟨by omega, ?_⟩ | refine ⟨fun _ _ => okt_nn (by omega), ?_⟩)
    try (first | (show _ ≤ _; omega) | (show _ < _; omega))
    exact R
  | d + 1, a, f, r, kb, hb, M, hd, ha, hm, hi, K => by
    have b0 := hm.2.1
    by_cases c : E ≤ a
    · have t0 : M 154 11 = 0 := by
        rw [hm.1.2.2.2.2.2.1]
        exact if_pos (by omega)
      unfold ydS at K
      rw [if_pos c] at K
      have R := K M ⟨FrP.rf, fun z => absurd rfl z, fun _ => hm⟩
      refine wpm_of (cuts := [69, 90]) (by decide) 60 _ _ _ _ ?_
      simp (maxSteps := 2000000) only [↓reduceIte, wp_eq, wpd_eq, kont_eq, STP1, STP2, STP3, STP4, STP5, konM_eq, AMK, CZ, Option.map, List.getElem?_cons_zero, List.getElem?_cons_succ, List.mem_cons, List.not_mem_nil, if_false, if_true, Nat.reduceAdd, Nat.reduceLT, Nat.reduceLeDiff, Nat.reduceEqDiff, true_and, and_true, List.length_nil, List.length_cons, or_true, true_or, or_false, false_or, Option.some.injEq, Sum.inl.injEq, Sum.inr.injEq, exists_eq_left', exists_eq_left, Int.reduceLE, Int.reduceLT, Int.reduceNeg, Int.reduceAdd, Int.reduceMul, Int.reduceSub, Int.reduceToNat, inR, Nat.zero_ne_one, false_and, Nat.succ_ne_zero, reduceCtorEq, false_implies, true_implies, not_false_eq_true, not_true_eq_false, Int.reduceEq, KRE, C_Model_yard, FM, b0, t0]
      repeat (first | refine ⟨by omega, ?_⟩ | refine ⟨fun _ _ => okt_nn (by omega), ?_⟩)
      try (first | (show _ ≤ _; omega) | (show _ < _; omega))
      exact R
    · have k4 := tmK_in g E a
      have k0 : tmK g E a ≠ 0 := by
        unfold tmK
        rw [if_neg c]
        repeat' split
        all_goals omega
      have t0 := eq_false (show ¬ M 154 11 = 0 by rw [hm.1.2.2.2.2.2.1]; exact k0)
      have t1 : M 154 11 = tmK g E a := hm.1.2.2.2.2.2.1
      have P := clS_pl (g := g) (f := f) (r := r) (kb := kb) (hb := hb) hE ha (by omega)
      have I0 := rdI_0 (f := f) (g := g) (E := E) (a := a) hi
      unfold ydS at K
      rw [if_neg c] at K
      refine wpm_of (cuts := [69, 90]) (by decide) 60 _ _ _ _ ?_
      simp (maxSteps := 2000000) only [↓reduceIte, wp_eq, wpd_eq, kont_eq, STP1, STP2, STP3, STP4, STP5, konM_eq, AMK, CZ, Option.map, List.getElem?_cons_zero, List.getElem?_cons_succ, List.mem_cons, List.not_mem_nil, if_false, if_true, Nat.reduceAdd, Nat.reduceLT, Nat.reduceLeDiff, Nat.reduceEqDiff, true_and, and_true, List.length_nil, List.length_cons, or_true, true_or, or_false, false_or, Option.some.injEq, Sum.inl.injEq, Sum.inr.injEq, exists_eq_left', exists_eq_left, Int.reduceLE, Int.reduceLT, Int.reduceNeg, Int.reduceAdd, Int.reduceMul, Int.reduceSub, Int.reduceToNat, inR, Nat.zero_ne_one, false_and, Nat.succ_ne_zero, reduceCtorEq, false_implies, true_implies, not_false_eq_true, not_true_eq_false, Int.reduceEq, KRE, C_Model_yard, FM, b0, t0]
      repeat (first | refine ⟨by omega, ?_⟩ | refine ⟨fun _ _ => okt_nn (by omega), ?_⟩)
      try (first | (show _ ≤ _; omega) | (show _ < _; omega))
      refine (readClause_ok hp hE ha hm hi).mono (fun M1 w => ?_)
      try simp (maxSteps := 2000000) only [↓reduceIte, wp_eq, wpd_eq, kont_eq, STP1, STP2, STP3, STP4, STP5, konM_eq, AMK, CZ, Option.map, List.getElem?_cons_zero, List.getElem?_cons_succ, List.mem_cons, List.not_mem_nil, if_false, if_true, Nat.reduceAdd, Nat.reduceLT, Nat.reduceLeDiff, Nat.reduceEqDiff, true_and, and_true, List.length_nil, List.length_cons, or_true, true_or, or_false, false_or, Option.some.injEq, Sum.inl.injEq, Sum.inr.injEq, exists_eq_left', exists_eq_left, Int.reduceLE, Int.reduceLT, Int.reduceNeg, Int.reduceAdd, Int.reduceMul, Int.reduceSub, Int.reduceToNat, inR, Nat.zero_ne_one, false_and, Nat.succ_ne_zero, reduceCtorEq, false_implies, true_implies, not_false_eq_true, not_true_eq_false, Int.reduceEq, KRE, C_Model_yard, FM]
      repeat (first | refine ⟨by omega, ?_⟩ | refine ⟨fun _ _ => okt_nn (by omega), ?_⟩)
      try (first | (show _ ≤ _; omega) | (show _ < _; omega))
      by_cases cz : (clS g E a f r kb hb).1 = 0
      · rw [if_neg (fun z => z cz)] at K
        exact Myard_loop hp hE d _ _ _ _ _ M1 (by have := P.2.2 cz; omega) P.1 (w.2.2 cz) (I0 cz) (fun M' z => K M' (rcQ_tr w.1 z))
      · rw [if_pos cz] at K
        have R := K M1 w
        have e15 := (w.2.1 cz).1
        have q := eq_false cz
        generalize (clS g E a f r kb hb).1 = cc at *
        refine wpm_of (cuts := [69, 90]) (by decide) 60 _ _ _ _ ?_
        simp (maxSteps := 2000000) only [↓reduceIte, wp_eq, wpd_eq, kont_eq, STP1, STP2, STP3, STP4, STP5, konM_eq, AMK, CZ, Option.map, List.getElem?_cons_zero, List.getElem?_cons_succ, List.mem_cons, List.not_mem_nil, if_false, if_true, Nat.reduceAdd, Nat.reduceLT, Nat.reduceLeDiff, Nat.reduceEqDiff, true_and, and_true, List.length_nil, List.length_cons, or_true, true_or, or_false, false_or, Option.some.injEq, Sum.inl.injEq, Sum.inr.injEq, exists_eq_left', exists_eq_left, Int.reduceLE, Int.reduceLT, Int.reduceNeg, Int.reduceAdd, Int.reduceMul, Int.reduceSub, Int.reduceToNat, inR, Nat.zero_ne_one, false_and, Nat.succ_ne_zero, reduceCtorEq, false_implies, true_implies, not_false_eq_true, not_true_eq_false, Int.reduceEq, KRE, C_Model_yard, FM, e15, q]
        repeat (first | refine ⟨by omega, ?_⟩ | refine ⟨fun _ _ => okt_nn (by omega), ?_⟩)
        try (first | (show _ ≤ _; omega) | (show _ < _; omega))
        exact R
def r0F (r : Nat → Int) : Nat → Int := fun j => if j < 4 then (if j = 0 then 0 else -1) else r j
/-- the whole text of n bytes -/
def ydA (M : Mm) (n : Nat) : CS := ydS (M 161) n 901 (tkA (M 161) n 0) (M 159) (r0F (M 157)) 0 0
def mY0 (M : Mm) (n : Nat) : Mm := mset (mset (mset (mset (mset (mset (mset (mset M 154 1 0) 154 8 0) 154 10 (n : Int)) 154 9 0) 154 15 0) 154 17 (-1)) 154 18 0) 154 19 0
def ydP : Nat → Nat → Prop := fun b j => rcP b j ∨ b = 154 ∧ (j = 1 ∨ j = 8 ∨ j = 10 ∨ j = 17)
theorem mY0_fr {M : Mm} {n : Nat} : FrP ydP M (mY0 M n) := by
  unfold mY0
  exact (((((((FrP.rf.st (by unfold ydP; omega)).st (by unfold ydP; omega)).st (by unfold ydP; omega)).st (by unfold ydP rcP stP; omega)).st (by unfold ydP rcP; omega)).st (by unfold ydP; omega)).st (by unfold ydP rcP; omega)).st (by unfold ydP rcP; omega)
def mYd (M M' : Mm) (S : CS) : Prop := M' 154 1 = 0 ∧ M' 154 8 = 0 ∧
  (S.1 ≠ 0 → M' 154 17 = (S.2.1 : Int) ∧ M' 160 0 = M 160 0 + 1 ∧ FrP (fun b j => ydP b j ∨ b = 160 ∧ j = 0) M M') ∧
  (S.1 = 0 → M' 154 17 = -1 ∧ (∀ j, j < 240 → M' 158 j = S.2.2.1 j) ∧ (∀ j, j < 4 → M' 156 j = S.2.2.2.1 j) ∧ M' 154 58 = 0 ∧ M' 154 60 = 0 ∧ M' 154 69 = 0 ∧ FrP (fun b j => ydP b j ∨ b = 156 ∨ b = 158 ∨ b = 154 ∧ (j = 58 ∨ j = 60 ∨ j = 69)) M M')
set_option maxHeartbeats 600000 in
set_option maxRecDepth 20000 in
theorem Myard_90 {M0 M1 M : Mm} {g : Nat → Int} {E : Nat} {S : CS} {x1 : Option AV} (hS : 0 ≤ S.1 ∧ S.1 ≤ 5) (F : FrP ydP M0 M1) (e1 : M1 154 1 = 0 ∧ M1 154 8 = 0 ∧ M1 154 17 = -1) (w : rcQ M1 g E S M) : WPm m_Model_yard (fun v M' => ∃ x, v = some (.inl x) ∧ x = S.1 ∧ mYd M0 M' S) 90 [some (.inr 154), x1] [] M := by
  obtain ⟨w1, w2, w3⟩ := w
  obtain ⟨u1, u8, u17⟩ := e1
  have F' : FrP ydP M0 M := F.tr (w1.wd (fun b j z => Or.inl z))
  have v1 : M 154 1 = 0 := (w1 _ _ (by unfold rcP stP; omega)).trans u1
  have v8 : M 154 8 = 0 := (w1 _ _ (by unfold rcP stP; omega)).trans u8
  have v17 : M 154 17 = -1 := (w1 _ _ (by unfold rcP stP; omega)).trans u17
  by_cases c : S.1 = 0
  · obtain ⟨y1, y2, y3, y4, y5, y6⟩ := w3 c
    have C1 := Model_copyTo_ok (a := 156) (f := 157) (n := 4) (M := M) (by simp only [FM]) (by simp only [FM]) (by omega) (by omega)
    have C2 := Model_copyTo_ok (a := 158) (f := 159) (n := 240) (M := mCpR M 156 157 4) (by simp only [FM]) (by simp only [FM]) (by omega) (by omega)
    have o : ∀ b j, b ≠ 156 → b ≠ 158 → mCpR (mCpR M 156 157 4) 158 159 240 b j = M b j := fun b j h1 h2 => by simp [mCpR, h1, h2]
    have R : mYd M0 (mset (mset (mset (mCpR (mCpR M 156 157 4) 158 159 240) 154 58 0) 154 60 0) 154 69 0) S := by
      have G : FrP (fun b j => ydP b j ∨ b = 156 ∨ b = 158 ∨ b = 154 ∧ (j = 58 ∨ j = 60 ∨ j = 69)) M0 (mCpR (mCpR M 156 157 4) 158 159 240) := fun b j z => by
        rw [o b j (fun q => z (by omega)) (fun q => z (by omega))]
        exact F' b j (fun q => z (Or.inl q))
      refine ⟨?_, ?_, fun q => absurd c q, fun _ => ⟨?_, fun j hj => ?_, fun j hj => ?_, by simp [mset], by simp [mset], by simp [mset], ((G.st (by omega)).st (by omega)).st (by omega)⟩⟩
      · rw [← v1]; simp [mset, mCpR]
      · rw [← v8]; simp [mset, mCpR]
      · rw [← v17]; simp [mset, mCpR]
      · rw [← y3]; simp [mset, mCpR, hj]
      · rw [← y4]; simp [mset, mCpR, hj]
    rw [c]
    refine wpm_of (cuts := []) (by decide) 60 _ _ _ _ ?_
    simp (maxSteps := 2000000) only [↓reduceIte, wp_eq, wpd_eq, kont_eq, STP1, STP2, STP3, STP4, STP5, konM_eq, AMK, CZ, Option.map, List.getElem?_cons_zero, List.getElem?_cons_succ, List.mem_cons, List.not_mem_nil, if_false, if_true, Nat.reduceAdd, Nat.reduceLT, Nat.reduceLeDiff, Nat.reduceEqDiff, true_and, and_true, List.length_nil, List.length_cons, or_true, true_or, or_false, false_or, Option.some.injEq, Sum.inl.injEq, Sum.inr.injEq, exists_eq_left', exists_eq_left, Int.reduceLE, Int.reduceLT, Int.reduceNeg, Int.reduceAdd, Int.reduceMul, Int.reduceSub, Int.reduceToNat, inR, Nat.zero_ne_one, false_and, Nat.succ_ne_zero, reduceCtorEq, false_implies, true_implies, not_false_eq_true, not_true_eq_false, Int.reduceEq, KRE, C_Model_yard, FM, y2]
    repeat (first | refine ⟨by omega, ?_⟩ | refine ⟨fun _ _ => okt_nn (by omega), ?_⟩)
    try (first | (show _ ≤ _; omega) | (show _ < _; omega))
    refine C1.eq ?_
    try simp (maxSteps := 2000000) only [↓reduceIte, wp_eq, wpd_eq, kont_eq, STP1, STP2, STP3, STP4, STP5, konM_eq, AMK, CZ, Option.map, List.getElem?_cons_zero, List.getElem?_cons_succ, List.mem_cons, List.not_mem_nil, if_false, if_true, Nat.reduceAdd, Nat.reduceLT, Nat.reduceLeDiff, Nat.reduceEqDiff, true_and, and_true, List.length_nil, List.length_cons, or_true, true_or, or_false, false_or, Option.some.injEq, Sum.inl.injEq, Sum.inr.injEq, exists_eq_left', exists_eq_left, Int.reduceLE, Int.reduceLT, Int.reduceNeg, Int.reduceAdd, Int.reduceMul, Int.reduceSub, Int.reduceToNat, inR, Nat.zero_ne_one, false_and, Nat.succ_ne_zero, reduceCtorEq, false_implies, true_implies, not_false_eq_true, not_true_eq_false, Int.reduceEq, KRE, C_Model_yard, FM]
    repeat (first | refine ⟨by omega, ?_⟩ | refine ⟨fun _ _ => okt_nn (by omega), ?_⟩)
    try (first | (show _ ≤ _; omega) | (show _ < _; omega))
    refine C2.eq ?_
    try simp (maxSteps := 2000000) only [↓reduceIte, wp_eq, wpd_eq, kont_eq, STP1, STP2, STP3, STP4, STP5, konM_eq, AMK, CZ, Option.map, List.getElem?_cons_zero, List.getElem?_cons_succ, List.mem_cons, List.not_mem_nil, if_false, if_true, Nat.reduceAdd, Nat.reduceLT, Nat.reduceLeDiff, Nat.reduceEqDiff, true_and, and_true, List.length_nil, List.length_cons, or_true, true_or, or_false, false_or, Option.some.injEq, Sum.inl.injEq, Sum.inr.injEq, exists_eq_left', exists_eq_left, Int.reduceLE, Int.reduceLT, Int.reduceNeg, Int.reduceAdd, Int.reduceMul, Int.reduceSub, Int.reduceToNat, inR, Nat.zero_ne_one, false_and, Nat.succ_ne_zero, reduceCtorEq, false_implies, true_implies, not_false_eq_true, not_true_eq_false, Int.reduceEq, KRE, C_Model_yard, FM]
    repeat (first | refine ⟨by omega, ?_⟩ | refine ⟨fun _ _ => okt_nn (by omega), ?_⟩)
    try (first | (show _ ≤ _; omega) | (show _ < _; omega))
    all_goals first | exact R | exact ⟨rfl, R⟩ | exact ⟨_, rfl, rfl, R⟩
  · obtain ⟨y1, y2⟩ := w2 c
    have e160 : mset M 154 17 (S.2.1 : Int) 160 0 = M0 160 0 := by
      rw [← F' 160 0 (by unfold ydP rcP stP; omega)]
      simp [mset]
    have R : mYd M0 (mset (mset M 154 17 (S.2.1 : Int)) 160 0 (M0 160 0 + 1)) S := by
      have G : FrP (fun b j => ydP b j ∨ b = 160 ∧ j = 0) M0 M := F'.wd (fun b j z => Or.inl z)
      refine ⟨?_, ?_, fun _ => ⟨by simp [mset], by simp [mset], (G.st (Or.inl (by unfold ydP; omega))).st (by omega)⟩, fun q => absurd q c⟩
      · rw [← v1]; simp [mset]
      · rw [← v8]; simp [mset]
    have e15 : mset (mset M 154 17 (S.2.1 : Int)) 160 0 (M0 160 0 + 1) 154 15 = S.1 := by rw [← y1]; simp [mset]
    have q := eq_false c
    generalize hX : mYd M0 = X at *
    generalize eC : S.1 = cc at *
    refine wpm_of (cuts := []) (by decide) 60 _ _ _ _ ?_
    simp (maxSteps := 2000000) only [↓reduceIte, wp_eq, wpd_eq, kont_eq, STP1, STP2, STP3, STP4, STP5, konM_eq, AMK, CZ, Option.map, List.getElem?_cons_zero, List.getElem?_cons_succ, List.mem_cons, List.not_mem_nil, if_false, if_true, Nat.reduceAdd, Nat.reduceLT, Nat.reduceLeDiff, Nat.reduceEqDiff, true_and, and_true, List.length_nil, List.length_cons, or_true, true_or, or_false, false_or, Option.some.injEq, Sum.inl.injEq, Sum.inr.injEq, exists_eq_left', exists_eq_left, Int.reduceLE, Int.reduceLT, Int.reduceNeg, Int.reduceAdd, Int.reduceMul, Int.reduceSub, Int.reduceToNat, inR, Nat.zero_ne_one, false_and, Nat.succ_ne_zero, reduceCtorEq, false_implies, true_implies, not_false_eq_true, not_true_eq_false, Int.reduceEq, KRE, C_Model_yard, FM, y1, y2, q, e160, e15]
    repeat (first | refine ⟨by omega, ?_⟩ | refine ⟨fun _ _ => okt_nn (by omega), ?_⟩)
    try (first | (show _ ≤ _; omega) | (show _ < _; omega))
    all_goals first | exact R | exact ⟨rfl, R⟩ | exact ⟨_, rfl, rfl, R⟩
theorem ydS_in {g : Nat → Int} {E : Nat} (hE : E ≤ 900) : ∀ (d a : Nat) (f r : Nat → Int) (kb hb : Int), a ≤ 900 → (0 ≤ (ydS g E d a f r kb hb).1 ∧ (ydS g E d a f r kb hb).1 ≤ 5) ∧ (ydS g E d a f r kb hb).2.1 ≤ 900
  | 0, a, f, r, kb, hb, ha => ⟨⟨by show (0 : Int) ≤ 0; omega, by show (0 : Int) ≤ 5; omega⟩, ha⟩
  | d + 1, a, f, r, kb, hb, ha => by
    unfold ydS
    by_cases c : E ≤ a
    · rw [if_pos c]
      exact ⟨⟨by show (0 : Int) ≤ 0; omega, by show (0 : Int) ≤ 5; omega⟩, ha⟩
    · rw [if_neg c]
      have P := clS_pl (g := g) (f := f) (r := r) (kb := kb) (hb := hb) hE ha (by omega)
      split
      · exact ⟨P.2.1, P.1⟩
      · exact ydS_in hE d _ _ _ _ _ P.1
theorem ydA_in {M : Mm} {n : Nat} (hn : n ≤ 900) : (0 ≤ (ydA M n).1 ∧ (ydA M n).1 ≤ 5) ∧ (ydA M n).2.1 ≤ 900 := ydS_in hn _ _ _ _ _ _ (tkA_le hn (by omega))
set_option maxHeartbeats 600000 in
set_option maxRecDepth 20000 in
theorem Model_yard_ok {M : Mm} {n L : Nat} (hL : M 154 8 = L) (hn : n ≤ L) (hL9 : L ≤ 900) (hp : oct (M 161) L) : CallI m_Model_yard [.inr 154, .inl (n : Int)] M (fun x M' => x = (ydA M n).1 ∧ mYd M M' (ydA M n)) := by
  have hn9 : n ≤ 900 := by omega
  have hp' : oct (M 161) n := fun j hj => hp j (by omega)
  have yin := ydA_in (M := M) hn9
  have fM : ∀ b j, ¬ (b = 157 ∧ j < 4) → mFst (mY0 M n) 4 b j = mY0 M n b j := fun b j h => if_neg h
  have o : ∀ b j, b ≠ 154 → b ≠ 157 → mFst (mY0 M n) 4 b j = M b j := fun b j h1 h2 => (fM b j (fun z => h2 z.1)).trans (by simp [mY0, mset, h1])
  have g161 : mFst (mY0 M n) 4 161 = M 161 := funext fun j => o _ _ (by omega) (by omega)
  have z8 : mset M 154 1 0 154 8 = L := by rw [← hL]; simp [mset]
  have v : ∀ j, mFst (mY0 M n) 4 154 j = mY0 M n 154 j := fun j => fM _ _ (by omega)
  have v1 : mFst (mY0 M n) 4 154 1 = 0 := by rw [v]; simp [mY0, mset]
  have v8 : mFst (mY0 M n) 4 154 8 = 0 := by rw [v]; simp [mY0, mset]
  have v9 : mFst (mY0 M n) 4 154 9 = ((0 : Nat) : Int) := by rw [v]; simp [mY0, mset]
  have v10 : mFst (mY0 M n) 4 154 10 = n := by rw [v]; simp [mY0, mset]
  have v15 : mFst (mY0 M n) 4 154 15 = 0 := by rw [v]; simp [mY0, mset]
  have v17 : mFst (mY0 M n) 4 154 17 = -1 := by rw [v]; simp [mY0, mset]
  have v18 : mFst (mY0 M n) 4 154 18 = 0 := by rw [v]; simp [mY0, mset]
  have v19 : mFst (mY0 M n) 4 154 19 = 0 := by rw [v]; simp [mY0, mset]
  have v159 : mFst (mY0 M n) 4 159 = M 159 := funext fun j => o _ _ (by omega) (by omega)
  have v157 : mFst (mY0 M n) 4 157 = r0F (M 157) := by
    funext j
    show (if 157 = 157 ∧ j < 4 then (if j = 0 then (0 : Int) else -1) else mY0 M n 157 j) = if j < 4 then (if j = 0 then 0 else -1) else M 157 j
    refine if_cg (by omega) rfl ?_
    simp [mY0, mset]
  have F0 : FrP ydP M (mFst (mY0 M n) 4) := fun b j z => (fM b j (fun q => z (Or.inl (Or.inr (Or.inr (Or.inl q.1)))))).trans (mY0_fr b j z)
  have LF := layFirst_ok (M := mY0 M n)
  have ST := Model_stepOn_ok (M := mFst (mY0 M n) 4) (E := n) (b := 0) v10 hn9 (by omega) (by rw [g161]; exact hp') v9
  rw [g161] at ST
  have ta9 := tkA_le (g := M 161) hn9 (show (0 : Nat) ≤ 900 by omega)
  have eA : ydA M n = ydS (M 161) n 901 (tkA (M 161) n 0) (M 159) (r0F (M 157)) 0 0 := rfl
  generalize tkA (M 161) n 0 = a at *
  generalize ydA M n = S at *
  have c0 := eq_false (show ¬ (n : Int) < 0 by omega)
  have c1 := eq_true (show (n : Int) ≤ (L : Int) by omega)
  refine callP_of (by decide) (by decide) (Nat.le_of_ble_eq_true rfl) (wpm_of (cuts := [69]) (by decide) 60 _ _ _ _ ?_)
  rw [show lM m_Model_yard = 2 from rfl]
  simp (maxSteps := 2000000) only [↓reduceIte, wp_eq, wpd_eq, kont_eq, STP1, STP2, STP3, STP4, STP5, konM_eq, AMK, CZ, Option.map, List.getElem?_cons_zero, List.getElem?_cons_succ, List.mem_cons, List.not_mem_nil, if_false, if_true, Nat.reduceAdd, Nat.reduceLT, Nat.reduceLeDiff, Nat.reduceEqDiff, true_and, and_true, List.length_nil, List.length_cons, or_true, true_or, or_false, false_or, Option.some.injEq, Sum.inl.injEq, Sum.inr.injEq, exists_eq_left', exists_eq_left, Int.reduceLE, Int.reduceLT, Int.reduceNeg, Int.reduceAdd, Int.reduceMul, Int.reduceSub, Int.reduceToNat, inR, Nat.zero_ne_one, false_and, Nat.succ_ne_zero, reduceCtorEq, false_implies, true_implies, not_false_eq_true, not_true_eq_false, Int.reduceEq, KRE, C_Model_yard, FM, z8, c0, c1]
  repeat (first | refine ⟨by omega, ?_⟩ | refine ⟨fun _ _ => okt_nn (by omega), ?_⟩)
  try (first | (show _ ≤ _; omega) | (show _ < _; omega))
  refine LF.eq ?_
  try simp (maxSteps := 2000000) only [↓reduceIte, wp_eq, wpd_eq, kont_eq, STP1, STP2, STP3, STP4, STP5, konM_eq, AMK, CZ, Option.map, List.getElem?_cons_zero, List.getElem?_cons_succ, List.mem_cons, List.not_mem_nil, if_false, if_true, Nat.reduceAdd, Nat.reduceLT, Nat.reduceLeDiff, Nat.reduceEqDiff, true_and, and_true, List.length_nil, List.length_cons, or_true, true_or, or_false, false_or, Option.some.injEq, Sum.inl.injEq, Sum.inr.injEq, exists_eq_left', exists_eq_left, Int.reduceLE, Int.reduceLT, Int.reduceNeg, Int.reduceAdd, Int.reduceMul, Int.reduceSub, Int.reduceToNat, inR, Nat.zero_ne_one, false_and, Nat.succ_ne_zero, reduceCtorEq, false_implies, true_implies, not_false_eq_true, not_true_eq_false, Int.reduceEq, KRE, C_Model_yard, FM]
  repeat (first | refine ⟨by omega, ?_⟩ | refine ⟨fun _ _ => okt_nn (by omega), ?_⟩)
  try (first | (show _ ≤ _; omega) | (show _ < _; omega))
  refine ST.mono (fun M1 w => ?_)
  obtain ⟨w1, w2, w3, w4, w5, w6⟩ := w
  try simp (maxSteps := 2000000) only [↓reduceIte, wp_eq, wpd_eq, kont_eq, STP1, STP2, STP3, STP4, STP5, konM_eq, AMK, CZ, Option.map, List.getElem?_cons_zero, List.getElem?_cons_succ, List.mem_cons, List.not_mem_nil, if_false, if_true, Nat.reduceAdd, Nat.reduceLT, Nat.reduceLeDiff, Nat.reduceEqDiff, true_and, and_true, List.length_nil, List.length_cons, or_true, true_or, or_false, false_or, Option.some.injEq, Sum.inl.injEq, Sum.inr.injEq, exists_eq_left', exists_eq_left, Int.reduceLE, Int.reduceLT, Int.reduceNeg, Int.reduceAdd, Int.reduceMul, Int.reduceSub, Int.reduceToNat, inR, Nat.zero_ne_one, false_and, Nat.succ_ne_zero, reduceCtorEq, false_implies, true_implies, not_false_eq_true, not_true_eq_false, Int.reduceEq, KRE, C_Model_yard, FM]
  repeat (first | refine ⟨by omega, ?_⟩ | refine ⟨fun _ _ => okt_nn (by omega), ?_⟩)
  try (first | (show _ ≤ _; omega) | (show _ < _; omega))
  have T1 : rdM M1 (M 161) n a (M 159) (r0F (M 157)) 0 0 := by
    refine ⟨⟨(funext fun j => w1 161 j (by unfold stP; omega)).trans g161, (w1 _ _ (by unfold stP; omega)).trans v10, w2, w3, w4, w5, w6⟩, (w1 _ _ (by unfold stP; omega)).trans v15, (funext fun j => w1 159 j (by unfold stP; omega)).trans v159, (funext fun j => w1 157 j (by unfold stP; omega)).trans v157, (w1 _ _ (by unfold stP; omega)).trans v18, (w1 _ _ (by unfold stP; omega)).trans v19⟩
  refine Myard_loop hp' hn9 901 a _ _ _ _ M1 (by omega) ta9 T1 ⟨⟨by simp [r0F], by simp [r0F]⟩, fun j j1 j2 => ?_, ⟨by omega, by omega⟩, ⟨by omega, by omega⟩⟩ (fun M2 w => ?_)
  · unfold r0F
    rw [if_pos (by omega), if_neg (by omega)]
    omega
  · rw [← eA] at w
    exact Myard_90 yin.1 (F0.tr (w1.wd (fun b j z => Or.inl (Or.inl z)))) ⟨(w1 _ _ (by unfold stP; omega)).trans v1, (w1 _ _ (by unfold stP; omega)).trans v8, (w1 _ _ (by unfold stP; omega)).trans v17⟩ w
set_option maxHeartbeats 600000 in
set_option maxRecDepth 20000 in
theorem Model_yard_x {M : Mm} {n : Int} {L : Nat} (hL : M 154 8 = L) (hL9 : L ≤ 900) (hr : inR n) (hn : n < 0 ∨ (L : Int) < n) : CallI m_Model_yard [.inr 154, .inl n] M (fun _ M' => rsM M 1 M') := by
  have F := (Model_fail_ok (k := 1) (M := mset M 154 1 0)).eq (G := fun x M' => rsM M 1 M') (rsM_fail rsM_0)
  have z8 : mset M 154 1 0 154 8 = L := by rw [← hL]; simp [mset]
  obtain ⟨r1, r2⟩ := hr
  by_cases c : n < 0
  · have c0 := eq_true c
    refine callP_of (by decide) (by decide) (Nat.le_of_ble_eq_true rfl) (wpm_of (cuts := [69]) (by decide) 60 _ _ _ _ ?_)
    rw [show lM m_Model_yard = 2 from rfl]
    simp (maxSteps := 2000000) only [↓reduceIte, wp_eq, wpd_eq, kont_eq, STP1, STP2, STP3, STP4, STP5, konM_eq, AMK, CZ, Option.map, List.getElem?_cons_zero, List.getElem?_cons_succ, List.mem_cons, List.not_mem_nil, if_false, if_true, Nat.reduceAdd, Nat.reduceLT, Nat.reduceLeDiff, Nat.reduceEqDiff, true_and, and_true, List.length_nil, List.length_cons, or_true, true_or, or_false, false_or, Option.some.injEq, Sum.inl.injEq, Sum.inr.injEq, exists_eq_left', exists_eq_left, Int.reduceLE, Int.reduceLT, Int.reduceNeg, Int.reduceAdd, Int.reduceMul, Int.reduceSub, Int.reduceToNat, inR, Nat.zero_ne_one, false_and, Nat.succ_ne_zero, reduceCtorEq, false_implies, true_implies, not_false_eq_true, not_true_eq_false, Int.reduceEq, KRE, C_Model_yard, FM, c0]
    repeat (first | refine ⟨by omega, ?_⟩ | refine ⟨fun _ _ => okt_nn (by omega), ?_⟩)
    try (first | (show _ ≤ _; omega) | (show _ < _; omega))
    refine F.mono (fun x M' z => ?_)
    try simp (maxSteps := 2000000) only [↓reduceIte, wp_eq, wpd_eq, kont_eq, STP1, STP2, STP3, STP4, STP5, konM_eq, AMK, CZ, Option.map, List.getElem?_cons_zero, List.getElem?_cons_succ, List.mem_cons, List.not_mem_nil, if_false, if_true, Nat.reduceAdd, Nat.reduceLT, Nat.reduceLeDiff, Nat.reduceEqDiff, true_and, and_true, List.length_nil, List.length_cons, or_true, true_or, or_false, false_or, Option.some.injEq, Sum.inl.injEq, Sum.inr.injEq, exists_eq_left', exists_eq_left, Int.reduceLE, Int.reduceLT, Int.reduceNeg, Int.reduceAdd, Int.reduceMul, Int.reduceSub, Int.reduceToNat, inR, Nat.zero_ne_one, false_and, Nat.succ_ne_zero, reduceCtorEq, false_implies, true_implies, not_false_eq_true, not_true_eq_false, Int.reduceEq, KRE, C_Model_yard, FM]
    repeat (first | refine ⟨by omega, ?_⟩ | refine ⟨fun _ _ => okt_nn (by omega), ?_⟩)
    try (first | (show _ ≤ _; omega) | (show _ < _; omega))
    all_goals first | exact z | exact ⟨_, rfl, z⟩
  · have c0 := eq_false c
    have c1 := eq_false (show ¬ n ≤ (L : Int) by omega)
    refine callP_of (by decide) (by decide) (Nat.le_of_ble_eq_true rfl) (wpm_of (cuts := [69]) (by decide) 60 _ _ _ _ ?_)
    rw [show lM m_Model_yard = 2 from rfl]
    simp (maxSteps := 2000000) only [↓reduceIte, wp_eq, wpd_eq, kont_eq, STP1, STP2, STP3, STP4, STP5, konM_eq, AMK, CZ, Option.map, List.getElem?_cons_zero, List.getElem?_cons_succ, List.mem_cons, List.not_mem_nil, if_false, if_true, Nat.reduceAdd, Nat.reduceLT, Nat.reduceLeDiff, Nat.reduceEqDiff, true_and, and_true, List.length_nil, List.length_cons, or_true, true_or, or_false, false_or, Option.some.injEq, Sum.inl.injEq, Sum.inr.injEq, exists_eq_left', exists_eq_left, Int.reduceLE, Int.reduceLT, Int.reduceNeg, Int.reduceAdd, Int.reduceMul, Int.reduceSub, Int.reduceToNat, inR, Nat.zero_ne_one, false_and, Nat.succ_ne_zero, reduceCtorEq, false_implies, true_implies, not_false_eq_true, not_true_eq_false, Int.reduceEq, KRE, C_Model_yard, FM, z8, c0, c1]
    repeat (first | refine ⟨by omega, ?_⟩ | refine ⟨fun _ _ => okt_nn (by omega), ?_⟩)
    try (first | (show _ ≤ _; omega) | (show _ < _; omega))
    refine F.mono (fun x M' z => ?_)
    try simp (maxSteps := 2000000) only [↓reduceIte, wp_eq, wpd_eq, kont_eq, STP1, STP2, STP3, STP4, STP5, konM_eq, AMK, CZ, Option.map, List.getElem?_cons_zero, List.getElem?_cons_succ, List.mem_cons, List.not_mem_nil, if_false, if_true, Nat.reduceAdd, Nat.reduceLT, Nat.reduceLeDiff, Nat.reduceEqDiff, true_and, and_true, List.length_nil, List.length_cons, or_true, true_or, or_false, false_or, Option.some.injEq, Sum.inl.injEq, Sum.inr.injEq, exists_eq_left', exists_eq_left, Int.reduceLE, Int.reduceLT, Int.reduceNeg, Int.reduceAdd, Int.reduceMul, Int.reduceSub, Int.reduceToNat, inR, Nat.zero_ne_one, false_and, Nat.succ_ne_zero, reduceCtorEq, false_implies, true_implies, not_false_eq_true, not_true_eq_false, Int.reduceEq, KRE, C_Model_yard, FM]
    repeat (first | refine ⟨by omega, ?_⟩ | refine ⟨fun _ _ => okt_nn (by omega), ?_⟩)
    try (first | (show _ ≤ _; omega) | (show _ < _; omega))
    all_goals first | exact z | exact ⟨_, rfl, z⟩
