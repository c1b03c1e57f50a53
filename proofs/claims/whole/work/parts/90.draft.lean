/-! THE REFERENCE READS, 7: a whole text. -/
/-- clauses from the token at a on -/
def ydS (g : Nat → Int) (E : Nat) : Nat → Nat → (Nat → Int) → (Nat → Int) → Int → Int → CS
  | 0, a, f, r, kb, hb => (0, a, f, r, kb, hb)
  | d + 1, a, f, r, kb, hb => if E ≤ a then (0, a, f, r, kb, hb) else if (clS g E a f r kb hb).1 ≠ 0 then clS g E a f r kb hb else ydS g E d (clS g E a f r kb hb).2.1 (clS g E a f r kb hb).2.2.1 (clS g E a f r kb hb).2.2.2.1 (clS g E a f r kb hb).2.2.2.2.1 (clS g E a f r kb hb).2.2.2.2.2
theorem nxT_gt {g : Nat → Int} {E a : Nat} (h : a < E) : a < nxT g E a := by
  have s : a < tmS g E a := by
    unfold tmS
    rw [if_neg (by omega)]
    by_cases c1 : isLet (g a)
    · rw [if_pos c1]
      unfold tkW runL
      rw [if_pos ⟨h, by simpa using c1⟩]
      omega
    · rw [if_neg c1]
      by_cases c2 : isDig (g a)
      · rw [if_pos c2]
        unfold tkD runL
        rw [if_pos ⟨h, by simpa using c2⟩]
        omega
      · rw [if_neg c2]
        omega
  unfold nxT tkA
  omega
theorem nxT_ge {g : Nat → Int} {E a : Nat} : a ≤ nxT g E a := by
  by_cases h : a < E
  · exact Nat.le_of_lt (nxT_gt h)
  · unfold nxT tkA tmS
    rw [if_pos (by omega)]
    omega
theorem enS_pl {g f r : Nat → Int} {E p : Nat} {kb hb : Int} (hE : E ≤ 900) (hp : p ≤ 900) : ((enS g E p f r kb hb).2.1 ≤ 900 ∧ p ≤ (enS g E p f r kb hb).2.1) ∧ inR (enS g E p f r kb hb).1 ∧ 0 ≤ (enS g E p f r kb hb).1 ∧ (enS g E p f r kb hb).1 ≤ 5 := by
  unfold enS
  split
  · exact ⟨⟨nxT_le hE hp, nxT_ge⟩, ⟨by show (-2147483648 : Int) ≤ 0; omega, by show (0 : Int) ≤ 2147483647; omega⟩, by show (0 : Int) ≤ 0; omega, by show (0 : Int) ≤ 5; omega⟩
  · exact ⟨⟨hp, Nat.le_refl _⟩, ⟨by show (-2147483648 : Int) ≤ 1; omega, by show (1 : Int) ≤ 2147483647; omega⟩, by show (0 : Int) ≤ 1; omega, by show (1 : Int) ≤ 5; omega⟩
/-- a good end: what stands there -/
theorem enS_0 {g f r : Nat → Int} {E p : Nat} {kb hb : Int} (h : (enS g E p f r kb hb).1 = 0) : (tmK g E p = 3 ∧ g p = 59) ∧ enS g E p f r kb hb = (0, nxT g E p, f, r, kb, hb) := by
  unfold enS at *
  by_cases c : tmK g E p = 3 ∧ g p = 59
  · rw [if_pos c]; exact ⟨c, rfl⟩
  · rw [if_neg c] at h
    exact absurd h (show ¬ (1 : Int) = 0 by omega)
theorem rgS_ge {g : Nat → Int} {E n : Nat} : ∀ (d k a : Nat) (f : Nat → Int), a ≤ (rgS g E n d k a f).2.1
  | 0, k, a, f => Nat.le_refl _
  | d + 1, k, a, f => by
    have b := nxT_ge (g := g) (E := E) (a := a)
    have c := nxT_ge (g := g) (E := E) (a := nxT g E a)
    unfold rgS
    repeat' split
    all_goals first | exact Nat.le_refl _ | exact Nat.le_trans (Nat.le_trans b c) (rgS_ge d _ _ _) | exact Nat.le_trans b (rgS_ge d _ _ _)
theorem rtS_ge {g f : Nat → Int} {E n a : Nat} (h : (rtS g E n a f).1 = 0) (hn : n ≠ 8) : nxT g E (nxT g E (nxT g E a)) ≤ (rtS g E n a f).2.1 := by
  unfold rtS at *
  rw [if_neg hn] at *
  split at h
  · rename_i c; exact absurd h c
  · rename_i c
    rw [if_neg c]
    split at h
    · rename_i c2; exact absurd h c2
    · rename_i c2
      rw [if_neg c2]
      split at h
      · exact absurd h (show ¬ (5 : Int) = 0 by omega)
      · rename_i c3
        rw [if_neg c3]
        exact rgS_ge _ _ _ _
theorem nmF_lt {g : Nat → Int} {E a : Nat} {lo hi : Int} (h : nmF g E a lo hi = 0) : a < E := by
  unfold nmF at h
  by_cases c : tmK g E a ≠ 2
  · rw [if_pos c] at h; omega
  · unfold tmK at c
    by_cases z : E ≤ a
    · rw [if_pos z] at c; omega
    · omega
/-- a clause's answer: its place, its fault; a good one's place is farther on -/
theorem clS_pl {g f r : Nat → Int} {E a : Nat} {kb hb : Int} (hE : E ≤ 900) (ha : a ≤ 900) (haE : a < E) : (clS g E a f r kb hb).2.1 ≤ 900 ∧ (0 ≤ (clS g E a f r kb hb).1 ∧ (clS g E a f r kb hb).1 ≤ 5) ∧ ((clS g E a f r kb hb).1 = 0 → a < (clS g E a f r kb hb).2.1) := by
  have b9 := nxT_le (g := g) hE ha
  have c9 := nxT_le (g := g) hE b9
  have d9 := nxT_le (g := g) hE c9
  have b := nxT_gt (g := g) haE
  have c := nxT_ge (g := g) (E := E) (a := nxT g E a)
  have d := nxT_ge (g := g) (E := E) (a := nxT g E (nxT g E a))
  unfold clS
  generalize wdW g E a = w
  unfold clW
  split
  · exact ⟨ha, ⟨by show (0 : Int) ≤ 1; omega, by show (1 : Int) ≤ 5; omega⟩, fun z => absurd z (show ¬ (1 : Int) = 0 by omega)⟩
  · split
    · have R := rtS_pl (g := g) (f := f) (n := (r 0).toNat) hE ha
      split
      · rename_i q; exact ⟨R.1, R.2, fun z => absurd z q⟩
      · rename_i q
        have q' : (rtS g E (r 0).toNat a f).1 = 0 := by omega
        have P := enS_pl (g := g) (f := (rtS g E (r 0).toNat a f).2.2) (r := updI r 0 (r 0 + 1)) (kb := kb) (hb := hb) hE R.1
        refine ⟨P.1.1, P.2.2, fun _ => ?_⟩
        have n8 : (r 0).toNat ≠ 8 := fun z => by
          unfold rtS at q'
          rw [if_pos z] at q'
          exact absurd q' (show ¬ (2 : Int) = 0 by omega)
        have := rtS_ge q' n8
        omega
    · split
      · split
        · exact ⟨ha, ⟨by show (0 : Int) ≤ 4; omega, by show (4 : Int) ≤ 5; omega⟩, fun z => absurd z (show ¬ (4 : Int) = 0 by omega)⟩
        · have i := nmF_in g E (nxT g E a) (stLo w) (stHi w)
          split
          · rename_i q; exact ⟨b9, ⟨i.1, by show nmF g E (nxT g E a) (stLo w) (stHi w) ≤ 5; omega⟩, fun z => absurd z q⟩
          · have P := enS_pl (g := g) (f := f) (r := updI r w.toNat (nmN g E (nxT g E a))) (kb := kb) (hb := hb) hE c9
            exact ⟨P.1.1, P.2.2, fun _ => by omega⟩
      · have i := tnF_in g E (nxT g E a) (r 0) (if w = 4 then kb else hb)
        by_cases c4 : tnF g E (nxT g E a) (r 0) (if w = 4 then kb else hb) ≠ 0
        · rw [if_pos c4]
          exact ⟨b9, ⟨i.1, Int.le_trans i.2 (by omega)⟩, fun z => absurd z c4⟩
        · rw [if_neg c4]
          have i2 := nmF_in g E (nxT g E (nxT g E a)) 0 (if w = 4 then 900 else 3)
          by_cases c5 : nmF g E (nxT g E (nxT g E a)) 0 (if w = 4 then 900 else 3) ≠ 0
          · rw [if_pos c5]
            exact ⟨c9, ⟨i2.1, Int.le_trans i2.2 (by omega)⟩, fun z => absurd z c5⟩
          · rw [if_neg c5]
            have P := enS_pl (g := g) (f := updI f (30 * (nmN g E (nxT g E a)).toNat + (if w = 4 then 4 else 3)) (nmN g E (nxT g E (nxT g E a)))) (r := r) (kb := if w = 4 then bOr kb (bShl 1 (nmN g E (nxT g E a))) else kb) (hb := if w = 4 then hb else bOr hb (bShl 1 (nmN g E (nxT g E a)))) hE d9
            exact ⟨P.1.1, P.2.2, fun _ => by have := P.1.2; omega⟩
theorem rdI_0 {r : Nat → Int} {kb hb : Int} (h : rdI r kb hb) {f : Nat → Int} {g : Nat → Int} {E a : Nat} (hz : (clS g E a f r kb hb).1 = 0) : rdI (clS g E a f r kb hb).2.2.2.1 (clS g E a f r kb hb).2.2.2.2.1 (clS g E a f r kb hb).2.2.2.2.2 := by
  obtain ⟨⟨h1, h2⟩, h3, h4, h5⟩ := h
  unfold clS at *
  have w7 := wdW_in g E a
  generalize wdW g E a = w at *
  unfold clW at *
  by_cases c1 : w = -1
  · rw [if_pos c1] at hz
    exact absurd hz (show ¬ (1 : Int) = 0 by omega)
  · rw [if_neg c1] at hz ⊢
    by_cases c2 : w = 0
    · rw [if_pos c2] at hz ⊢
      by_cases c3 : (rtS g E (r 0).toNat a f).1 ≠ 0
      · rw [if_pos c3] at hz
        exact absurd hz c3
      · rw [if_neg c3] at hz ⊢
        rw [(enS_0 hz).2]
        have n8 : r 0 ≠ 8 := fun z => by
          refine c3 ?_
          unfold rtS
          rw [if_pos (by omega)]
          show (2 : Int) ≠ 0
          omega
        refine ⟨?_, fun j j1 j2 => ?_, h4, h5⟩
        · show 0 ≤ updI r 0 (r 0 + 1) 0 ∧ updI r 0 (r 0 + 1) 0 ≤ 8
          simp only [updI, if_true]
          omega
        · show -1 ≤ updI r 0 (r 0 + 1) j ∧ updI r 0 (r 0 + 1) j ≤ 100
          simp only [updI]
          rw [if_neg (by omega)]
          exact h3 j j1 j2
    · rw [if_neg c2] at hz ⊢
      by_cases c3 : w ≤ 3
      · rw [if_pos c3] at hz ⊢
        by_cases c4 : r w.toNat ≠ -1
        · rw [if_pos c4] at hz
          exact absurd hz (show ¬ (4 : Int) = 0 by omega)
        · rw [if_neg c4] at hz ⊢
          by_cases c5 : nmF g E (nxT g E a) (stLo w) (stHi w) ≠ 0
          · rw [if_pos c5] at hz
            exact absurd hz c5
          · rw [if_neg c5] at hz ⊢
            rw [(enS_0 hz).2]
            have i := nmN_in (show nmF g E (nxT g E a) (stLo w) (stHi w) = 0 by omega)
            have lo : 0 ≤ stLo w ∧ stHi w ≤ 100 := by
              unfold stLo stHi
              repeat' split
              all_goals omega
            refine ⟨?_, fun j j1 j2 => ?_, h4, h5⟩
            · show 0 ≤ updI r w.toNat (nmN g E (nxT g E a)) 0 ∧ updI r w.toNat (nmN g E (nxT g E a)) 0 ≤ 8
              simp only [updI]
              rw [if_neg (by omega)]
              omega
            · show -1 ≤ updI r w.toNat (nmN g E (nxT g E a)) j ∧ updI r w.toNat (nmN g E (nxT g E a)) j ≤ 100
              simp only [updI]
              split
              · omega
              · exact h3 j j1 j2
      · rw [if_neg c3] at hz ⊢
        by_cases c4 : tnF g E (nxT g E a) (r 0) (if w = 4 then kb else hb) ≠ 0
        · rw [if_pos c4] at hz
          exact absurd hz c4
        · rw [if_neg c4] at hz ⊢
          by_cases c5 : nmF g E (nxT g E (nxT g E a)) 0 (if w = 4 then 900 else 3) ≠ 0
          · rw [if_pos c5] at hz
            exact absurd hz c5
          · rw [if_neg c5] at hz ⊢
            rw [(enS_0 hz).2]
            refine ⟨⟨h1, h2⟩, h3, ?_, ?_⟩
            · show inR (if w = 4 then bOr kb (bShl 1 (nmN g E (nxT g E a))) else kb)
              split
              · exact bOr_in _ _
              · exact h4
            · show inR (if w = 4 then hb else bOr hb (bShl 1 (nmN g E (nxT g E a))))
              split
              · exact h5
              · exact bOr_in _ _
theorem rcQ_tr {M0 M1 M2 : Mm} {g : Nat → Int} {E : Nat} {S : CS} (F : FrP rcP M0 M1) (h : rcQ M1 g E S M2) : rcQ M0 g E S M2 := ⟨F.tr h.1, h.2⟩
set_option maxHeartbeats 600000 in
set_option maxRecDepth 20000 in
theorem Myard_loop {g : Nat → Int} {E : Nat} {Qc : Option AV → Mm → Prop} {x1 : Option AV} (hp : oct g E) (hE : E ≤ 900) : ∀ (d a : Nat) (f r : Nat → Int) (kb hb : Int) (M : Mm), E ≤ a + d → a ≤ 900 → rdM M g E a f r kb hb → rdI r kb hb →
    (∀ M', rcQ M g E (ydS g E d a f r kb hb) M' → WPm m_Model_yard Qc 90 [some (.inr 154), x1] [] M') → WPm m_Model_yard Qc 69 [some (.inr 154), x1] [] M
  | 0, a, f, r, kb, hb, M, hd, ha, hm, hi, K => by
    have b0 := hm.2.1
    have t0 : M 154 11 = 0 := by
      rw [hm.1.2.2.2.2.2.1]
      exact if_pos (by omega)
    have R := K M ⟨FrP.rf, fun z => absurd rfl z, fun _ => hm⟩
    refine wpm_of (cuts := [69, 90]) (by decide) 60 _ _ _ _ ?_
    simp (maxSteps := 2000000) only [↓reduceIte, wp_eq, wpd_eq, kont_eq, STP1, STP2, STP3, STP4, STP5, konM_eq, AMK, CZ, Option.map, List.getElem?_cons_zero, List.getElem?_cons_succ, List.mem_cons, List.not_mem_nil, if_false, if_true, Nat.reduceAdd, Nat.reduceLT, Nat.reduceLeDiff, Nat.reduceEqDiff, true_and, and_true, List.length_nil, List.length_cons, or_true, true_or, or_false, false_or, Option.some.injEq, Sum.inl.injEq, Sum.inr.injEq, exists_eq_left', exists_eq_left, Int.reduceLE, Int.reduceLT, Int.reduceNeg, Int.reduceAdd, Int.reduceMul, Int.reduceSub, Int.reduceToNat, inR, Nat.zero_ne_one, false_and, Nat.succ_ne_zero, reduceCtorEq, false_implies, true_implies, not_false_eq_true, not_true_eq_false, Int.reduceEq, KRE, C_Model_yard, FM, b0, t0]
    repeat (first | refine ⟨by omega, ?_⟩ | refine ⟨fun _ _ => okt_nn (by omega), ?_⟩)
    try (first | (show _ ≤ _; omega) | (show _ < _; omega))
    exact R
  | d + 1, a, f, r, kb, hb, M, hd, ha, hm, hi, K => by
    have b0 := hm.2.1
    by_cases c : E ≤ a
    · have t0 : M 154 11 = 0 := by
        rw [hm.1.2.2.2.2.2.1]
        exact if_pos (by omega)
      unfold ydS at K
      rw [if_pos c] at K
      have R := K M ⟨FrP.rf, fun z => absurd rfl z, fun _ => hm⟩
      refine wpm_of (cuts := [69, 90]) (by decide) 60 _ _ _ _ ?_
      simp (maxSteps := 2000000) only [↓reduceIte, wp_eq, wpd_eq, kont_eq, STP1, STP2, STP3, STP4, STP5, konM_eq, AMK, CZ, Option.map, List.getElem?_cons_zero, List.getElem?_cons_succ, List.mem_cons, List.not_mem_nil, if_false, if_true, Nat.reduceAdd, Nat.reduceLT, Nat.reduceLeDiff, Nat.reduceEqDiff, true_and, and_true, List.length_nil, List.length_cons, or_true, true_or, or_false, false_or, Option.some.injEq, Sum.inl.injEq, Sum.inr.injEq, exists_eq_left', exists_eq_left, Int.reduceLE, Int.reduceLT, Int.reduceNeg, Int.reduceAdd, Int.reduceMul, Int.reduceSub, Int.reduceToNat, inR, Nat.zero_ne_one, false_and, Nat.succ_ne_zero, reduceCtorEq, false_implies, true_implies, not_false_eq_true, not_true_eq_false, Int.reduceEq, KRE, C_Model_yard, FM, b0, t0]
      repeat (first | refine ⟨by omega, ?_⟩ | refine ⟨fun _ _ => okt_nn (by omega), ?_⟩)
      try (first | (show _ ≤ _; omega) | (show _ < _; omega))
      exact R
    · have k4 := tmK_in g E a
      have k0 : tmK g E a ≠ 0 := by
        unfold tmK
        rw [if_neg c]
        repeat' split
        all_goals omega
      have t0 := eq_false (show ¬ M 154 11 = 0 by rw [hm.1.2.2.2.2.2.1]; exact k0)
      have t1 : M 154 11 = tmK g E a := hm.1.2.2.2.2.2.1
      have P := clS_pl (g := g) (f := f) (r := r) (kb := kb) (hb := hb) hE ha (by omega)
      have I0 := rdI_0 (f := f) (g := g) (E := E) (a := a) hi
      unfold ydS at K
      rw [if_neg c] at K
      refine wpm_of (cuts := [69, 90]) (by decide) 60 _ _ _ _ ?_
      simp (maxSteps := 2000000) only [↓reduceIte, wp_eq, wpd_eq, kont_eq, STP1, STP2, STP3, STP4, STP5, konM_eq, AMK, CZ, Option.map, List.getElem?_cons_zero, List.getElem?_cons_succ, List.mem_cons, List.not_mem_nil, if_false, if_true, Nat.reduceAdd, Nat.reduceLT, Nat.reduceLeDiff, Nat.reduceEqDiff, true_and, and_true, List.length_nil, List.length_cons, or_true, true_or, or_false, false_or, Option.some.injEq, Sum.inl.injEq, Sum.inr.injEq, exists_eq_left', exists_eq_left, Int.reduceLE, Int.reduceLT, Int.reduceNeg, Int.reduceAdd, Int.reduceMul, Int.reduceSub, Int.reduceToNat, inR, Nat.zero_ne_one, false_and, Nat.succ_ne_zero, reduceCtorEq, false_implies, true_implies, not_false_eq_true, not_true_eq_false, Int.reduceEq, KRE, C_Model_yard, FM, b0, t0]
      repeat (first | refine ⟨by omega, ?_⟩ | refine ⟨fun _ _ => okt_nn (by omega), ?_⟩)
      try (first | (show _ ≤ _; omega) | (show _ < _; omega))
      refine (readClause_ok hp hE ha hm hi).mono (fun M1 w => ?_)
      try simp (maxSteps := 2000000) only [↓reduceIte, wp_eq, wpd_eq, kont_eq, STP1, STP2, STP3, STP4, STP5, konM_eq, AMK, CZ, Option.map, List.getElem?_cons_zero, List.getElem?_cons_succ, List.mem_cons, List.not_mem_nil, if_false, if_true, Nat.reduceAdd, Nat.reduceLT, Nat.reduceLeDiff, Nat.reduceEqDiff, true_and, and_true, List.length_nil, List.length_cons, or_true, true_or, or_false, false_or, Option.some.injEq, Sum.inl.injEq, Sum.inr.injEq, exists_eq_left', exists_eq_left, Int.reduceLE, Int.reduceLT, Int.reduceNeg, Int.reduceAdd, Int.reduceMul, Int.reduceSub, Int.reduceToNat, inR, Nat.zero_ne_one, false_and, Nat.succ_ne_zero, reduceCtorEq, false_implies, true_implies, not_false_eq_true, not_true_eq_false, Int.reduceEq, KRE, C_Model_yard, FM]
      repeat (first | refine ⟨by omega, ?_⟩ | refine ⟨fun _ _ => okt_nn (by omega), ?_⟩)
      try (first | (show _ ≤ _; omega) | (show _ < _; omega))
      by_cases cz : (clS g E a f r kb hb).1 = 0
      · rw [if_neg (fun z => z cz)] at K
        exact Myard_loop hp hE d _ _ _ _ _ M1 (by have := P.2.2 cz; omega) P.1 (w.2.2 cz) (I0 cz) (fun M' z => K M' (rcQ_tr w.1 z))
      · rw [if_pos cz] at K
        have R := K M1 w
        have e15 := (w.2.1 cz).1
        have q := eq_false cz
        generalize (clS g E a f r kb hb).1 = cc at *
        refine wpm_of (cuts := [69, 90]) (by decide) 60 _ _ _ _ ?_
        simp (maxSteps := 2000000) only [↓reduceIte, wp_eq, wpd_eq, kont_eq, STP1, STP2, STP3, STP4, STP5, konM_eq, AMK, CZ, Option.map, List.getElem?_cons_zero, List.getElem?_cons_succ, List.mem_cons, List.not_mem_nil, if_false, if_true, Nat.reduceAdd, Nat.reduceLT, Nat.reduceLeDiff, Nat.reduceEqDiff, true_and, and_true, List.length_nil, List.length_cons, or_true, true_or, or_false, false_or, Option.some.injEq, Sum.inl.injEq, Sum.inr.injEq, exists_eq_left', exists_eq_left, Int.reduceLE, Int.reduceLT, Int.reduceNeg, Int.reduceAdd, Int.reduceMul, Int.reduceSub, Int.reduceToNat, inR, Nat.zero_ne_one, false_and, Nat.succ_ne_zero, reduceCtorEq, false_implies, true_implies, not_false_eq_true, not_true_eq_false, Int.reduceEq, KRE, C_Model_yard, FM, e15, q]
        repeat (first | refine ⟨by omega, ?_⟩ | refine ⟨fun _ _ => okt_nn (by omega), ?_⟩)
        try (first | (show _ ≤ _; omega) | (show _ < _; omega))
        exact R
def r0F (r : Nat → Int) : Nat → Int := fun j => if j < 4 then (if j = 0 then 0 else -1) else r j
/-- the whole text of n bytes -/
def ydA (M : Mm) (n : Nat) : CS := ydS (M 161) n 901 (tkA (M 161) n 0) (M 159) (r0F (M 157)) 0 0
def mY0 (M : Mm) (n : Nat) : Mm := mset (mset (mset (mset (mset (mset (mset (mset M 154 1 0) 154 8 0) 154 10 (n : Int)) 154 9 0) 154 15 0) 154 17 (-1)) 154 18 0) 154 19 0
def ydP : Nat → Nat → Prop := fun b j => rcP b j ∨ b = 154 ∧ (j = 1 ∨ j = 8 ∨ j = 10 ∨ j = 17)
theorem mY0_fr {M : Mm} {n : Nat} : FrP ydP M (mY0 M n) := by
  unfold mY0
  exact (((((((FrP.rf.st (by unfold ydP; omega)).st (by unfold ydP; omega)).st (by unfold ydP; omega)).st (by unfold ydP rcP stP; omega)).st (by unfold ydP rcP; omega)).st (by unfold ydP; omega)).st (by unfold ydP rcP; omega)).st (by unfold ydP rcP; omega)
def mYd (M M' : Mm) (S : CS) : Prop := M' 154 1 = 0 ∧ M' 154 8 = 0 ∧
  (S.1 ≠ 0 → M' 154 17 = (S.2.1 : Int) ∧ M' 160 0 = M 160 0 + 1 ∧ FrP (fun b j => ydP b j ∨ b = 160 ∧ j = 0) M M') ∧
  (S.1 = 0 → M' 154 17 = -1 ∧ (∀ j, j < 240 → M' 158 j = S.2.2.1 j) ∧ (∀ j, j < 4 → M' 156 j = S.2.2.2.1 j) ∧ M' 154 58 = 0 ∧ M' 154 60 = 0 ∧ M' 154 69 = 0 ∧ FrP (fun b j => ydP b j ∨ b = 156 ∨ b = 158 ∨ b = 154 ∧ (j = 58 ∨ j = 60 ∨ j = 69)) M M')
set_option maxHeartbeats 600000 in
set_option maxRecDepth 20000 in
theorem Myard_90 {M0 M1 M : Mm} {g : Nat → Int} {E : Nat} {S : CS} {x1 : Option AV} (hS : 0 ≤ S.1 ∧ S.1 ≤ 5) (F : FrP ydP M0 M1) (e1 : M1 154 1 = 0 ∧ M1 154 8 = 0 ∧ M1 154 17 = -1) (w : rcQ M1 g E S M) : WPm m_Model_yard (fun v M' => ∃ x, v = some (.inl x) ∧ x = S.1 ∧ mYd M0 M' S) 90 [some (.inr 154), x1] [] M := by
  obtain ⟨w1, w2, w3⟩ := w
  obtain ⟨u1, u8, u17⟩ := e1
  have F' : FrP ydP M0 M := F.tr (w1.wd (fun b j z => Or.inl z))
  have v1 : M 154 1 = 0 := (w1 _ _ (by unfold rcP stP; omega)).trans u1
  have v8 : M 154 8 = 0 := (w1 _ _ (by unfold rcP stP; omega)).trans u8
  have v17 : M 154 17 = -1 := (w1 _ _ (by unfold rcP stP; omega)).trans u17
  by_cases c : S.1 = 0
  · obtain ⟨y1, y2, y3, y4, y5, y6⟩ := w3 c
    have C1 := Model_copyTo_ok (a := 156) (f := 157) (n := 4) (M := M) (by simp only [FM]) (by simp only [FM]) (by omega) (by omega)
    have C2 := Model_copyTo_ok (a := 158) (f := 159) (n := 240) (M := mCpR M 156 157 4) (by simp only [FM]) (by simp only [FM]) (by omega) (by omega)
    have o : ∀ b j, b ≠ 156 → b ≠ 158 → mCpR (mCpR M 156 157 4) 158 159 240 b j = M b j := fun b j h1 h2 => by simp [mCpR, h1, h2]
    have R : mYd M0 (mset (mset (mset (mCpR (mCpR M 156 157 4) 158 159 240) 154 58 0) 154 60 0) 154 69 0) S := by
      have G : FrP (fun b j => ydP b j ∨ b = 156 ∨ b = 158 ∨ b = 154 ∧ (j = 58 ∨ j = 60 ∨ j = 69)) M0 (mCpR (mCpR M 156 157 4) 158 159 240) := fun b j z => by
        rw [o b j (fun q => z (by omega)) (fun q => z (by omega))]
        exact F' b j (fun q => z (Or.inl q))
      refine ⟨?_, ?_, fun q => absurd c q, fun _ => ⟨?_, fun j hj => ?_, fun j hj => ?_, by simp [mset], by simp [mset], by simp [mset], ((G.st (by omega)).st (by omega)).st (by omega)⟩⟩
      · rw [← v1]; simp [mset, mCpR]
      · rw [← v8]; simp [mset, mCpR]
      · rw [← v17]; simp [mset, mCpR]
      · rw [← y3]; simp [mset, mCpR, hj]
      · rw [← y4]; simp [mset, mCpR, hj]
    rw [c]
    refine wpm_of (cuts := []) (by decide) 60 _ _ _ _ ?_
    simp (maxSteps := 2000000) only [↓reduceIte, wp_eq, wpd_eq, kont_eq, STP1, STP2, STP3, STP4, STP5, konM_eq, AMK, CZ, Option.map, List.getElem?_cons_zero, List.getElem?_cons_succ, List.mem_cons, List.not_mem_nil, if_false, if_true, Nat.reduceAdd, Nat.reduceLT, Nat.reduceLeDiff, Nat.reduceEqDiff, true_and, and_true, List.length_nil, List.length_cons, or_true, true_or, or_false, false_or, Option.some.injEq, Sum.inl.injEq, Sum.inr.injEq, exists_eq_left', exists_eq_left, Int.reduceLE, Int.reduceLT, Int.reduceNeg, Int.reduceAdd, Int.reduceMul, Int.reduceSub, Int.reduceToNat, inR, Nat.zero_ne_one, false_and, Nat.succ_ne_zero, reduceCtorEq, false_implies, true_implies, not_false_eq_true, not_true_eq_false, Int.reduceEq, KRE, C_Model_yard, FM, y2]
    repeat (first | refine ⟨by omega, ?_⟩ | refine ⟨fun _ _ => okt_nn (by omega), ?_⟩)
    try (first | (show _ ≤ _; omega) | (show _ < _; omega))
    refine C1.eq ?_
    try simp (maxSteps := 2000000) only [↓reduceIte, wp_eq, wpd_eq, kont_eq, STP1, STP2, STP3, STP4, STP5, konM_eq, AMK, CZ, Option.map, List.getElem?_cons_zero, List.getElem?_cons_succ, List.mem_cons, List.not_mem_nil, if_false, if_true, Nat.reduceAdd, Nat.reduceLT, Nat.reduceLeDiff, Nat.reduceEqDiff, true_and, and_true, List.length_nil, List.length_cons, or_true, true_or, or_false, false_or, Option.some.injEq, Sum.inl.injEq, Sum.inr.injEq, exists_eq_left', exists_eq_left, Int.reduceLE, Int.reduceLT, Int.reduceNeg, Int.reduceAdd, Int.reduceMul, Int.reduceSub, Int.reduceToNat, inR, Nat.zero_ne_one, false_and, Nat.succ_ne_zero, reduceCtorEq, false_implies, true_implies, not_false_eq_true, not_true_eq_false, Int.reduceEq, KRE, C_Model_yard, FM]
    repeat (first | refine ⟨by omega, ?_⟩ | refine ⟨fun _ _ => okt_nn (by omega), ?_⟩)
    try (first | (show _ ≤ _; omega) | (show _ < _; omega))
    refine C2.eq ?_
    try simp (maxSteps := 2000000) only [↓reduceIte, wp_eq, wpd_eq, kont_eq, STP1, STP2, STP3, STP4, STP5, konM_eq, AMK, CZ, Option.map, List.getElem?_cons_zero, List.getElem?_cons_succ, List.mem_cons, List.not_mem_nil, if_false, if_true, Nat.reduceAdd, Nat.reduceLT, Nat.reduceLeDiff, Nat.reduceEqDiff, true_and, and_true, List.length_nil, List.length_cons, or_true, true_or, or_false, false_or, Option.some.injEq, Sum.inl.injEq, Sum.inr.injEq, exists_eq_left', exists_eq_left, Int.reduceLE, Int.reduceLT, Int.reduceNeg, Int.reduceAdd, Int.reduceMul, Int.reduceSub, Int.reduceToNat, inR, Nat.zero_ne_one, false_and, Nat.succ_ne_zero, reduceCtorEq, false_implies, true_implies, not_false_eq_true, not_true_eq_false, Int.reduceEq, KRE, C_Model_yard, FM]
    repeat (first | refine ⟨by omega, ?_⟩ | refine ⟨fun _ _ => okt_nn (by omega), ?_⟩)
    try (first | (show _ ≤ _; omega) | (show _ < _; omega))
    all_goals first | exact R | exact ⟨rfl, R⟩ | exact ⟨_, rfl, rfl, R⟩
  · obtain ⟨y1, y2⟩ := w2 c
    have e160 : mset M 154 17 (S.2.1 : Int) 160 0 = M0 160 0 := by
      rw [← F' 160 0 (by unfold ydP rcP stP; omega)]
      simp [mset]
    have R : mYd M0 (mset (mset M 154 17 (S.2.1 : Int)) 160 0 (M0 160 0 + 1)) S := by
      have G : FrP (fun b j => ydP b j ∨ b = 160 ∧ j = 0) M0 M := F'.wd (fun b j z => Or.inl z)
      refine ⟨?_, ?_, fun _ => ⟨by simp [mset], by simp [mset], (G.st (Or.inl (by unfold ydP; omega))).st (by omega)⟩, fun q => absurd q c⟩
      · rw [← v1]; simp [mset]
      · rw [← v8]; simp [mset]
    have e15 : mset (mset M 154 17 (S.2.1 : Int)) 160 0 (M0 160 0 + 1) 154 15 = S.1 := by rw [← y1]; simp [mset]
    have q := eq_false c
    generalize hX : mYd M0 = X at *
    generalize eC : S.1 = cc at *
    refine wpm_of (cuts := []) (by decide) 60 _ _ _ _ ?_
    simp (maxSteps := 2000000) only [↓reduceIte, wp_eq, wpd_eq, kont_eq, STP1, STP2, STP3, STP4, STP5, konM_eq, AMK, CZ, Option.map, List.getElem?_cons_zero, List.getElem?_cons_succ, List.mem_cons, List.not_mem_nil, if_false, if_true, Nat.reduceAdd, Nat.reduceLT, Nat.reduceLeDiff, Nat.reduceEqDiff, true_and, and_true, List.length_nil, List.length_cons, or_true, true_or, or_false, false_or, Option.some.injEq, Sum.inl.injEq, Sum.inr.injEq, exists_eq_left', exists_eq_left, Int.reduceLE, Int.reduceLT, Int.reduceNeg, Int.reduceAdd, Int.reduceMul, Int.reduceSub, Int.reduceToNat, inR, Nat.zero_ne_one, false_and, Nat.succ_ne_zero, reduceCtorEq, false_implies, true_implies, not_false_eq_true, not_true_eq_false, Int.reduceEq, KRE, C_Model_yard, FM, y1, y2, q, e160, e15]
    repeat (first | refine ⟨by omega, ?_⟩ | refine ⟨fun _ _ => okt_nn (by omega), ?_⟩)
    try (first | (show _ ≤ _; omega) | (show _ < _; omega))
    all_goals first | exact R | exact ⟨rfl, R⟩ | exact ⟨_, rfl, rfl, R⟩
theorem ydS_in {g : Nat → Int} {E : Nat} (hE : E ≤ 900) : ∀ (d a : Nat) (f r : Nat → Int) (kb hb : Int), a ≤ 900 → (0 ≤ (ydS g E d a f r kb hb).1 ∧ (ydS g E d a f r kb hb).1 ≤ 5) ∧ (ydS g E d a f r kb hb).2.1 ≤ 900
  | 0, a, f, r, kb, hb, ha => ⟨⟨by show (0 : Int) ≤ 0; omega, by show (0 : Int) ≤ 5; omega⟩, ha⟩
  | d + 1, a, f, r, kb, hb, ha => by
    unfold ydS
    by_cases c : E ≤ a
    · rw [if_pos c]
      exact ⟨⟨by show (0 : Int) ≤ 0; omega, by show (0 : Int) ≤ 5; omega⟩, ha⟩
    · rw [if_neg c]
      have P := clS_pl (g := g) (f := f) (r := r) (kb := kb) (hb := hb) hE ha (by omega)
      split
      · exact ⟨P.2.1, P.1⟩
      · exact ydS_in hE d _ _ _ _ _ P.1
theorem ydA_in {M : Mm} {n : Nat} (hn : n ≤ 900) : (0 ≤ (ydA M n).1 ∧ (ydA M n).1 ≤ 5) ∧ (ydA M n).2.1 ≤ 900 := ydS_in hn _ _ _ _ _ _ (tkA_le hn (by omega))
set_option maxHeartbeats 600000 in
set_option maxRecDepth 20000 in
theorem Model_yard_ok {M : Mm} {n L : Nat} (hL : M 154 8 = L) (hn : n ≤ L) (hL9 : L ≤ 900) (hp : oct (M 161) L) : CallI m_Model_yard [.inr 154, .inl (n : Int)] M (fun x M' => x = (ydA M n).1 ∧ mYd M M' (ydA M n)) := by
  have hn9 : n ≤ 900 := by omega
  have hp' : oct (M 161) n := fun j hj => hp j (by omega)
  have yin := ydA_in (M := M) hn9
  have fM : ∀ b j, ¬ (b = 157 ∧ j < 4) → mFst (mY0 M n) 4 b j = mY0 M n b j := fun b j h => if_neg h
  have o : ∀ b j, b ≠ 154 → b ≠ 157 → mFst (mY0 M n) 4 b j = M b j := fun b j h1 h2 => (fM b j (fun z => h2 z.1)).trans (by simp [mY0, mset, h1])
  have g161 : mFst (mY0 M n) 4 161 = M 161 := funext fun j => o _ _ (by omega) (by omega)
  have z8 : mset M 154 1 0 154 8 = L := by rw [← hL]; simp [mset]
  have v : ∀ j, mFst (mY0 M n) 4 154 j = mY0 M n 154 j := fun j => fM _ _ (by omega)
  have v1 : mFst (mY0 M n) 4 154 1 = 0 := by rw [v]; simp [mY0, mset]
  have v8 : mFst (mY0 M n) 4 154 8 = 0 := by rw [v]; simp [mY0, mset]
  have v9 : mFst (mY0 M n) 4 154 9 = ((0 : Nat) : Int) := by rw [v]; simp [mY0, mset]
  have v10 : mFst (mY0 M n) 4 154 10 = n := by rw [v]; simp [mY0, mset]
  have v15 : mFst (mY0 M n) 4 154 15 = 0 := by rw [v]; simp [mY0, mset]
  have v17 : mFst (mY0 M n) 4 154 17 = -1 := by rw [v]; simp [mY0, mset]
  have v18 : mFst (mY0 M n) 4 154 18 = 0 := by rw [v]; simp [mY0, mset]
  have v19 : mFst (mY0 M n) 4 154 19 = 0 := by rw [v]; simp [mY0, mset]
  have v159 : mFst (mY0 M n) 4 159 = M 159 := funext fun j => o _ _ (by omega) (by omega)
  have v157 : mFst (mY0 M n) 4 157 = r0F (M 157) := by
    funext j
    show (if 157 = 157 ∧ j < 4 then (if j = 0 then (0 : Int) else -1) else mY0 M n 157 j) = if j < 4 then (if j = 0 then 0 else -1) else M 157 j
    refine if_cg (by omega) rfl ?_
    simp [mY0, mset]
  have F0 : FrP ydP M (mFst (mY0 M n) 4) := fun b j z => (fM b j (fun q => z (Or.inl (Or.inr (Or.inr (Or.inl q.1)))))).trans (mY0_fr b j z)
  have LF := layFirst_ok (M := mY0 M n)
  have ST := Model_stepOn_ok (M := mFst (mY0 M n) 4) (E := n) (b := 0) v10 hn9 (by omega) (by rw [g161]; exact hp') v9
  rw [g161] at ST
  have ta9 := tkA_le (g := M 161) hn9 (show (0 : Nat) ≤ 900 by omega)
  have eA : ydA M n = ydS (M 161) n 901 (tkA (M 161) n 0) (M 159) (r0F (M 157)) 0 0 := rfl
  generalize tkA (M 161) n 0 = a at *
  generalize ydA M n = S at *
  have c0 := eq_false (show ¬ (n : Int) < 0 by omega)
  have c1 := eq_true (show (n : Int) ≤ (L : Int) by omega)
  refine callP_of (by decide) (by decide) (Nat.le_of_ble_eq_true rfl) (wpm_of (cuts := [69]) (by decide) 60 _ _ _ _ ?_)
  rw [show lM m_Model_yard = 2 from rfl]
  simp (maxSteps := 2000000) only [↓reduceIte, wp_eq, wpd_eq, kont_eq, STP1, STP2, STP3, STP4, STP5, konM_eq, AMK, CZ, Option.map, List.getElem?_cons_zero, List.getElem?_cons_succ, List.mem_cons, List.not_mem_nil, if_false, if_true, Nat.reduceAdd, Nat.reduceLT, Nat.reduceLeDiff, Nat.reduceEqDiff, true_and, and_true, List.length_nil, List.length_cons, or_true, true_or, or_false, false_or, Option.some.injEq, Sum.inl.injEq, Sum.inr.injEq, exists_eq_left', exists_eq_left, Int.reduceLE, Int.reduceLT, Int.reduceNeg, Int.reduceAdd, Int.reduceMul, Int.reduceSub, Int.reduceToNat, inR, Nat.zero_ne_one, false_and, Nat.succ_ne_zero, reduceCtorEq, false_implies, true_implies, not_false_eq_true, not_true_eq_false, Int.reduceEq, KRE, C_Model_yard, FM, z8, c0, c1]
  repeat (first | refine ⟨by omega, ?_⟩ | refine ⟨fun _ _ => okt_nn (by omega), ?_⟩)
  try (first | (show _ ≤ _; omega) | (show _ < _; omega))
  refine LF.eq ?_
  try simp (maxSteps := 2000000) only [↓reduceIte, wp_eq, wpd_eq, kont_eq, STP1, STP2, STP3, STP4, STP5, konM_eq, AMK, CZ, Option.map, List.getElem?_cons_zero, List.getElem?_cons_succ, List.mem_cons, List.not_mem_nil, if_false, if_true, Nat.reduceAdd, Nat.reduceLT, Nat.reduceLeDiff, Nat.reduceEqDiff, true_and, and_true, List.length_nil, List.length_cons, or_true, true_or, or_false, false_or, Option.some.injEq, Sum.inl.injEq, Sum.inr.injEq, exists_eq_left', exists_eq_left, Int.reduceLE, Int.reduceLT, Int.reduceNeg, Int.reduceAdd, Int.reduceMul, Int.reduceSub, Int.reduceToNat, inR, Nat.zero_ne_one, false_and, Nat.succ_ne_zero, reduceCtorEq, false_implies, true_implies, not_false_eq_true, not_true_eq_false, Int.reduceEq, KRE, C_Model_yard, FM]
  repeat (first | refine ⟨by omega, ?_⟩ | refine ⟨fun _ _ => okt_nn (by omega), ?_⟩)
  try (first | (show _ ≤ _; omega) | (show _ < _; omega))
  refine ST.mono (fun M1 w => ?_)
  obtain ⟨w1, w2, w3, w4, w5, w6⟩ := w
  try simp (maxSteps := 2000000) only [↓reduceIte, wp_eq, wpd_eq, kont_eq, STP1, STP2, STP3, STP4, STP5, konM_eq, AMK, CZ, Option.map, List.getElem?_cons_zero, List.getElem?_cons_succ, List.mem_cons, List.not_mem_nil, if_false, if_true, Nat.reduceAdd, Nat.reduceLT, Nat.reduceLeDiff, Nat.reduceEqDiff, true_and, and_true, List.length_nil, List.length_cons, or_true, true_or, or_false, false_or, Option.some.injEq, Sum.inl.injEq, Sum.inr.injEq, exists_eq_left', exists_eq_left, Int.reduceLE, Int.reduceLT, Int.reduceNeg, Int.reduceAdd, Int.reduceMul, Int.reduceSub, Int.reduceToNat, inR, Nat.zero_ne_one, false_and, Nat.succ_ne_zero, reduceCtorEq, false_implies, true_implies, not_false_eq_true, not_true_eq_false, Int.reduceEq, KRE, C_Model_yard, FM]
  repeat (first | refine ⟨by omega, ?_⟩ | refine ⟨fun _ _ => okt_nn (by omega), ?_⟩)
  try (first | (show _ ≤ _; omega) | (show _ < _; omega))
  have T1 : rdM M1 (M 161) n a (M 159) (r0F (M 157)) 0 0 := by
    refine ⟨⟨(funext fun j => w1 161 j (by unfold stP; omega)).trans g161, (w1 _ _ (by unfold stP; omega)).trans v10, w2, w3, w4, w5, w6⟩, (w1 _ _ (by unfold stP; omega)).trans v15, (funext fun j => w1 159 j (by unfold stP; omega)).trans v159, (funext fun j => w1 157 j (by unfold stP; omega)).trans v157, (w1 _ _ (by unfold stP; omega)).trans v18, (w1 _ _ (by unfold stP; omega)).trans v19⟩
  refine Myard_loop hp' hn9 901 a _ _ _ _ M1 (by omega) ta9 T1 ⟨⟨by simp [r0F], by simp [r0F]⟩, fun j j1 j2 => ?_, ⟨by omega, by omega⟩, ⟨by omega, by omega⟩⟩ (fun M2 w => ?_)
  · unfold r0F
    rw [if_pos (by omega), if_neg (by omega)]
    omega
  · rw [← eA] at w
    exact Myard_90 yin.1 (F0.tr (w1.wd (fun b j z => Or.inl (Or.inl z)))) ⟨(w1 _ _ (by unfold stP; omega)).trans v1, (w1 _ _ (by unfold stP; omega)).trans v8, (w1 _ _ (by unfold stP; omega)).trans v17⟩ w
set_option maxHeartbeats 600000 in
set_option maxRecDepth 20000 in
theorem Model_yard_x {M : Mm} {n : Int} {L : Nat} (hL : M 154 8 = L) (hL9 : L ≤ 900) (hr : inR n) (hn : n < 0 ∨ (L : Int) < n) : CallI m_Model_yard [.inr 154, .inl n] M (fun _ M' => rsM M 1 M') := by
  have F := (Model_fail_ok (k := 1) (M := mset M 154 1 0)).eq (G := fun x M' => rsM M 1 M') (rsM_fail rsM_0)
  have z8 : mset M 154 1 0 154 8 = L := by rw [← hL]; simp [mset]
  obtain ⟨r1, r2⟩ := hr
  by_cases c : n < 0
  · have c0 := eq_true c
    refine callP_of (by decide) (by decide) (Nat.le_of_ble_eq_true rfl) (wpm_of (cuts := [69]) (by decide) 60 _ _ _ _ ?_)
    rw [show lM m_Model_yard = 2 from rfl]
    simp (maxSteps := 2000000) only [↓reduceIte, wp_eq, wpd_eq, kont_eq, STP1, STP2, STP3, STP4, STP5, konM_eq, AMK, CZ, Option.map, List.getElem?_cons_zero, List.getElem?_cons_succ, List.mem_cons, List.not_mem_nil, if_false, if_true, Nat.reduceAdd, Nat.reduceLT, Nat.reduceLeDiff, Nat.reduceEqDiff, true_and, and_true, List.length_nil, List.length_cons, or_true, true_or, or_false, false_or, Option.some.injEq, Sum.inl.injEq, Sum.inr.injEq, exists_eq_left', exists_eq_left, Int.reduceLE, Int.reduceLT, Int.reduceNeg, Int.reduceAdd, Int.reduceMul, Int.reduceSub, Int.reduceToNat, inR, Nat.zero_ne_one, false_and, Nat.succ_ne_zero, reduceCtorEq, false_implies, true_implies, not_false_eq_true, not_true_eq_false, Int.reduceEq, KRE, C_Model_yard, FM, c0]
    repeat (first | refine ⟨by omega, ?_⟩ | refine ⟨fun _ _ => okt_nn (by omega), ?_⟩)
    try (first | (show _ ≤ _; omega) | (show _ < _; omega))
    refine F.mono (fun x M' z => ?_)
    try simp (maxSteps := 2000000) only [↓reduceIte, wp_eq, wpd_eq, kont_eq, STP1, STP2, STP3, STP4, STP5, konM_eq, AMK, CZ, Option.map, List.getElem?_cons_zero, List.getElem?_cons_succ, List.mem_cons, List.not_mem_nil, if_false, if_true, Nat.reduceAdd, Nat.reduceLT, Nat.reduceLeDiff, Nat.reduceEqDiff, true_and, and_true, List.length_nil, List.length_cons, or_true, true_or, or_false, false_or, Option.some.injEq, Sum.inl.injEq, Sum.inr.injEq, exists_eq_left', exists_eq_left, Int.reduceLE, Int.reduceLT, Int.reduceNeg, Int.reduceAdd, Int.reduceMul, Int.reduceSub, Int.reduceToNat, inR, Nat.zero_ne_one, false_and, Nat.succ_ne_zero, reduceCtorEq, false_implies, true_implies, not_false_eq_true, not_true_eq_false, Int.reduceEq, KRE, C_Model_yard, FM]
    repeat (first | refine ⟨by omega, ?_⟩ | refine ⟨fun _ _ => okt_nn (by omega), ?_⟩)
    try (first | (show _ ≤ _; omega) | (show _ < _; omega))
    all_goals first | exact z | exact ⟨_, rfl, z⟩
  · have c0 := eq_false c
    have c1 := eq_false (show ¬ n ≤ (L : Int) by omega)
    refine callP_of (by decide) (by decide) (Nat.le_of_ble_eq_true rfl) (wpm_of (cuts := [69]) (by decide) 60 _ _ _ _ ?_)
    rw [show lM m_Model_yard = 2 from rfl]
    simp (maxSteps := 2000000) only [↓reduceIte, wp_eq, wpd_eq, kont_eq, STP1, STP2, STP3, STP4, STP5, konM_eq, AMK, CZ, Option.map, List.getElem?_cons_zero, List.getElem?_cons_succ, List.mem_cons, List.not_mem_nil, if_false, if_true, Nat.reduceAdd, Nat.reduceLT, Nat.reduceLeDiff, Nat.reduceEqDiff, true_and, and_true, List.length_nil, List.length_cons, or_true, true_or, or_false, false_or, Option.some.injEq, Sum.inl.injEq, Sum.inr.injEq, exists_eq_left', exists_eq_left, Int.reduceLE, Int.reduceLT, Int.reduceNeg, Int.reduceAdd, Int.reduceMul, Int.reduceSub, Int.reduceToNat, inR, Nat.zero_ne_one, false_and, Nat.succ_ne_zero, reduceCtorEq, false_implies, true_implies, not_false_eq_true, not_true_eq_false, Int.reduceEq, KRE, C_Model_yard, FM, z8, c0, c1]
    repeat (first | refine ⟨by omega, ?_⟩ | refine ⟨fun _ _ => okt_nn (by omega), ?_⟩)
    try (first | (show _ ≤ _; omega) | (show _ < _; omega))
    refine F.mono (fun x M' z => ?_)
    try simp (maxSteps := 2000000) only [↓reduceIte, wp_eq, wpd_eq, kont_eq, STP1, STP2, STP3, STP4, STP5, konM_eq, AMK, CZ, Option.map, List.getElem?_cons_zero, List.getElem?_cons_succ, List.mem_cons, List.not_mem_nil, if_false, if_true, Nat.reduceAdd, Nat.reduceLT, Nat.reduceLeDiff, Nat.reduceEqDiff, true_and, and_true, List.length_nil, List.length_cons, or_true, true_or, or_false, false_or, Option.some.injEq, Sum.inl.injEq, Sum.inr.injEq, exists_eq_left', exists_eq_left, Int.reduceLE, Int.reduceLT, Int.reduceNeg, Int.reduceAdd, Int.reduceMul, Int.reduceSub, Int.reduceToNat, inR, Nat.zero_ne_one, false_and, Nat.succ_ne_zero, reduceCtorEq, false_implies, true_implies, not_false_eq_true, not_true_eq_false, Int.reduceEq, KRE, C_Model_yard, FM]
    repeat (first | refine ⟨by omega, ?_⟩ | refine ⟨fun _ _ => okt_nn (by omega), ?_⟩)
    try (first | (show _ ≤ _; omega) | (show _ < _; omega))
    all_goals first | exact z | exact ⟨_, rfl, z⟩

/-! THE CLASS READS, in the reference's words, 1: tokens. -/
def kdC (g : Nat → Int) (E a : Nat) : Int := if E ≤ a then 0 else if isLet (g a) then 1 else if isDig (g a) then 2 else if g a = 59 then 3 else if g a = 63 then 4 else 5
theorem kdm_E {g : Nat → Int} {E a : Nat} (c : E ≤ a) : kdC g E a = 0 ∧ tmK g E a = 0 := ⟨if_pos c, if_pos c⟩
theorem kdm_N {g : Nat → Int} {E a : Nat} (c : ¬ E ≤ a) : kdC g E a = (if isLet (g a) then 1 else if isDig (g a) then 2 else if g a = 59 then 3 else if g a = 63 then 4 else 5) ∧ tmK g E a = if isLet (g a) then 1 else if isDig (g a) then 2 else if g a = 59 ∨ g a = 63 then 3 else 4 := ⟨if_neg c, if_neg c⟩
theorem kd_all (g : Nat → Int) (E a : Nat) : (kdC g E a = 1 ↔ tmK g E a = 1) ∧ (kdC g E a = 2 ↔ tmK g E a = 2) ∧ (kdC g E a = 3 ↔ tmK g E a = 3 ∧ g a = 59) ∧ (kdC g E a = 4 ↔ tmK g E a = 3 ∧ g a = 63) ∧ (kdC g E a = 0 ↔ E ≤ a) ∧ 0 ≤ kdC g E a ∧ kdC g E a ≤ 5 := by
  by_cases c : E ≤ a
  · obtain ⟨e1, e2⟩ := kdm_E (g := g) c
    rw [e1, e2]
    omega
  · obtain ⟨e1, e2⟩ := kdm_N (g := g) c
    rw [e1, e2]
    by_cases c1 : isLet (g a)
    · rw [if_pos c1, if_pos c1]
      omega
    · rw [if_neg c1, if_neg c1]
      by_cases c2 : isDig (g a)
      · rw [if_pos c2, if_pos c2]
        omega
      · rw [if_neg c2, if_neg c2]
        by_cases c3 : g a = 59
        · rw [if_pos c3, if_pos (Or.inl c3)]
          omega
        · rw [if_neg c3]
          by_cases c4 : g a = 63
          · rw [if_pos c4, if_pos (Or.inr c4)]
            omega
          · rw [if_neg c4, if_neg (by omega)]
            omega
def tsC (M : Mm) (g : Nat → Int) (E a : Nat) : Prop := (∀ j, j < E → M 2 j = g j) ∧ (∀ j, 0 ≤ M 2 j ∧ M 2 j ≤ 255) ∧ M 1 4 = E ∧ M 1 5 = a ∧ M 1 6 = tmS g E a ∧ M 1 7 = kdC g E a ∧ (kdC g E a = 2 → M 1 8 = nmN g E a ∧ 0 ≤ M 1 8 ∧ M 1 8 ≤ 999)
def stC : Nat → Nat → Prop := fun b j => b = 1 ∧ 5 ≤ j ∧ j ≤ 8
theorem tsC_mv {M M2 : Mm} {g : Nat → Int} {E a : Nat} (h : tsC M g E a) (e : ∀ b j, (b = 2 ∨ b = 1 ∧ 4 ≤ j ∧ j ≤ 8) → M2 b j = M b j) : tsC M2 g E a := by
  obtain ⟨h1, h2, h3, h4, h5, h6, h7⟩ := h
  refine ⟨fun j hj => (e _ _ (by omega)).trans (h1 j hj), fun j => by rw [e 2 j (by omega)]; exact h2 j, (e _ _ (by omega)).trans h3, (e _ _ (by omega)).trans h4, (e _ _ (by omega)).trans h5, (e _ _ (by omega)).trans h6, ?_⟩
  rw [e 1 8 (by omega)]
  exact h7
theorem runL_cg {p q : Nat → Bool} {E : Nat} (h : ∀ j, j < E → p j = q j) : ∀ f a, runL p E f a = runL q E f a
  | 0, a => rfl
  | f + 1, a => by
    unfold runL
    by_cases c : a < E
    · rw [h a c, runL_cg h f (a + 1)]
    · rw [if_neg (fun z => c z.1), if_neg (fun z => c z.1)]
section CG
variable {g g1 : Nat → Int} {E : Nat}
theorem tkA_cg (h : ∀ j, j < E → g1 j = g j) (a : Nat) : tkA g1 E a = tkA g E a := by
  unfold tkA
  rw [runL_cg (fun j hj => by rw [h j hj])]
theorem tkW_cg (h : ∀ j, j < E → g1 j = g j) (a : Nat) : tkW g1 E a = tkW g E a := by
  unfold tkW
  rw [runL_cg (fun j hj => by rw [h j hj])]
theorem tkD_cg (h : ∀ j, j < E → g1 j = g j) (a : Nat) : tkD g1 E a = tkD g E a := by
  unfold tkD
  rw [runL_cg (fun j hj => by rw [h j hj])]
theorem tmS_cg (h : ∀ j, j < E → g1 j = g j) (a : Nat) : tmS g1 E a = tmS g E a := by
  unfold tmS
  by_cases c : E ≤ a
  · rw [if_pos c, if_pos c]
  · rw [if_neg c, if_neg c, h a (by omega), tkW_cg h, tkD_cg h]
theorem kdC_cg (h : ∀ j, j < E → g1 j = g j) (a : Nat) : kdC g1 E a = kdC g E a := by
  unfold kdC
  by_cases c : E ≤ a
  · rw [if_pos c, if_pos c]
  · rw [if_neg c, if_neg c, h a (by omega)]
theorem nmV_cg (a : Nat) : ∀ k, (∀ j, j < k → g1 (a + j) = g (a + j)) → nmV g1 a k = nmV g a k
  | 0, _ => rfl
  | k + 1, h => by
    unfold nmV
    rw [nmV_cg a k (fun j hj => h j (by omega)), h k (by omega)]
theorem nmN_cg (h : ∀ j, j < E → g1 j = g j) (a : Nat) : nmN g1 E a = nmN g E a := by
  unfold nmN
  rw [tkD_cg h]
  refine nmV_cg a _ (fun j hj => ?_)
  have := (runL_ok (p := fun j => decide (isDig (g j))) (E := E) 901 a)
  by_cases c : E ≤ a + 901
  · exact h _ ((this c).1 j hj).1
  · exact h _ (by
      have hl : ∀ f b, b + runL (fun j => decide (isDig (g j))) E f b ≤ b + f := by
        intro f
        induction f with
        | zero => intro b; exact Nat.le_refl _
        | succ f IH =>
          intro b
          unfold runL
          split
          · have := IH (b + 1); omega
          · omega
      have := hl 901 a
      have e : j < runL (fun j => decide (isDig (g j))) E 901 a := hj
      omega)
end CG
theorem tkM_6e {M : Mm} {E a : Nat} : tkM M E a 1 6 = tmS (M 2) E a := by
  unfold tkM tmS
  by_cases c : E ≤ a
  · rw [if_pos c, if_pos c]
    simp [mset]
  · rw [if_neg c, if_neg c]
    by_cases c1 : isLet (M 2 a)
    · have l0 : tkW (M 2) E a ≠ 0 := by
        unfold tkW runL
        rw [if_pos ⟨by omega, by simpa using c1⟩]
        omega
      rw [if_pos c1, if_pos c1]
      unfold mWd
      rw [if_neg l0]
      simp [mset]
    · rw [if_neg c1, if_neg c1]
      by_cases c2 : isDig (M 2 a)
      · have l0 : tkD (M 2) E a ≠ 0 := by
          unfold tkD runL
          rw [if_pos ⟨by omega, by simpa using c2⟩]
          omega
        rw [if_pos c2, if_pos c2]
        unfold mNm
        rw [if_neg (by omega), if_pos ⟨rfl, rfl, by omega⟩]
      · rw [if_neg c2, if_neg c2]
        simp [mset]
theorem tsC_tkM {M : Mm} {g : Nat → Int} {E a : Nat} (h1 : ∀ j, j < E → M 2 j = g j) (h2 : ∀ j, 0 ≤ M 2 j ∧ M 2 j ≤ 255) (h4 : M 1 4 = E) (hE : E ≤ 900) (ha : a ≤ 900) : FrP stC M (tkM M E a) ∧ tsC (tkM M E a) g E a := by
  have o2 : ∀ j, tkM M E a 2 j = M 2 j := fun j => tkM_o (by omega)
  refine ⟨fun b j z => tkM_o (by unfold stC at z; omega), fun j hj => (o2 j).trans (h1 j hj), fun j => by rw [o2]; exact h2 j, (tkM_o (by omega)).trans h4, tkM_5, by rw [tkM_6e, tmS_cg h1], ?_, fun z => ?_⟩
  · rw [tkM_7]
    exact kdC_cg h1 a
  · have k7 : tkM M E a 1 7 = 2 := by
      rw [tkM_7]
      exact (kdC_cg h1 a).trans z
    have k8 := tkM_8 hE ha k7
    refine ⟨k8.1.trans ?_, k8.2⟩
    exact nmN_cg h1 a
theorem advC_ok {M : Mm} {g : Nat → Int} {E a : Nat} (h : tsC M g E a) (hE : E ≤ 900) (ha : a ≤ 900) : CallV m_Reader_advance [.inr 1] M (fun M' => FrP stC M M' ∧ tsC M' g E (nxT g E a)) := by
  obtain ⟨h1, h2, h3, h4, h5, h6, h7⟩ := h
  refine (Reader_advance_ok (b := tmS g E a) h5 h3 hE (tmS_le hE ha).2 (fun j => ⟨by have := h2 j; omega, by have := h2 j; omega⟩) (fun j => (h2 j).1)).mono (fun M' z => ?_)
  rw [z, tkA_cg h1]
  exact tsC_tkM h1 h2 h3 hE (nxT_le hE ha)
theorem nmO_F {M : Mm} {g : Nat → Int} {E a : Nat} {lo hi : Int} (h : tsC M g E a) : nmO M lo hi = nmF g E a lo hi := by
  obtain ⟨h1, h2, h3, h4, h5, h6, h7⟩ := h
  obtain ⟨-, k2, -, -, -, -, -⟩ := kd_all g E a
  unfold nmO nmF
  rw [h6]
  by_cases c : kdC g E a = 2
  · have D := tmS_D (k2.mp c)
    rw [if_neg (show ¬ (kdC g E a ≠ 2) from fun z => z c), if_neg (show ¬ (tmK g E a ≠ 2) from fun z => z (k2.mp c))]
    obtain ⟨h7, -⟩ := h7 c
    unfold nmN at h7
    rw [h7]
    exact if_cg (by omega) rfl rfl
  · rw [if_pos c, if_pos (fun z => c (k2.mpr z))]
theorem numC_ok {M : Mm} {g : Nat → Int} {E a : Nat} {lo hi : Int} (h : tsC M g E a) (hE : E ≤ 900) (ha : a ≤ 900) (hlo : inR lo) (hhi : inR hi) : CallI m_Reader_readNumber [.inr 1, .inl lo, .inl hi] M (fun x M' => x = nmF g E (nxT g E a) lo hi ∧ FrP stC M M' ∧ tsC M' g E (nxT g E a)) := by
  obtain ⟨h1, h2, h3, h4, h5, h6, h7⟩ := h
  refine (Reader_readNumber_ok (b := tmS g E a) h5 h3 hE (tmS_le hE ha).2 (fun j => ⟨by have := h2 j; omega, by have := h2 j; omega⟩) (fun j => (h2 j).1) hlo hhi).mono (fun x M' z => ?_)
  obtain ⟨z1, z2⟩ := z
  rw [tkA_cg h1] at z1 z2
  have T := tsC_tkM h1 h2 h3 hE (nxT_le (g := g) hE ha)
  rw [show tkA g E (tmS g E a) = nxT g E a from rfl] at z1 z2
  rw [z1, z2]
  exact ⟨nmO_F T.2, T⟩
theorem endC_ok {M : Mm} {g : Nat → Int} {E a : Nat} (h : tsC M g E a) (hE : E ≤ 900) (ha : a ≤ 900) : CallI m_Reader_readClauseEnd [.inr 1] M (fun x M' => FrP stC M M' ∧ ((tmK g E (nxT g E a) = 3 ∧ g (nxT g E a) = 59) → x = 0 ∧ tsC M' g E (nxT g E (nxT g E a))) ∧ (¬ (tmK g E (nxT g E a) = 3 ∧ g (nxT g E a) = 59) → x = 1 ∧ M' 1 5 = (nxT g E a : Nat))) := by
  obtain ⟨h1, h2, h3, h4, h5, h6, h7⟩ := h
  have p9 := nxT_le (g := g) hE ha
  obtain ⟨F, T⟩ := tsC_tkM (a := nxT g E a) h1 h2 h3 hE p9
  have e0 : tkM M E (nxT g E a) = tkM M E (tkA (M 2) E (tmS g E a)) := by rw [tkA_cg h1]; rfl
  refine (Reader_readClauseEnd_ok (b := tmS g E a) h5 h3 hE (tmS_le hE ha).2 (fun j => ⟨by have := h2 j; omega, by have := h2 j; omega⟩) (fun j => (h2 j).1) e0).mono (fun x M' z => ?_)
  obtain ⟨z1, z2⟩ := z
  rw [tkA_cg h1, tkA_cg h1, show tkA g E (tmS g E a) = nxT g E a from rfl] at z2
  obtain ⟨-, -, k3, -, -, -, -⟩ := kd_all g E (nxT g E a)
  have t7 := T.2.2.2.2.2.1
  by_cases c : kdC g E (nxT g E a) = 3
  · have cc := k3.mp c
    rw [if_pos (t7.trans c)] at z1 z2
    obtain ⟨u1, u2, u3, u4, u5, u6, u7⟩ := T
    have s1 : tmS g E (nxT g E a) = nxT g E a + 1 := by
      have q := cc.1
      unfold tmK at q
      unfold tmS
      by_cases d : E ≤ nxT g E a
      · rw [if_pos d] at q; omega
      · by_cases d1 : isLet (g (nxT g E a))
        · rw [if_neg d, if_pos d1] at q; omega
        · by_cases d2 : isDig (g (nxT g E a))
          · rw [if_neg d, if_neg d1, if_pos d2] at q; omega
          · rw [if_neg d, if_neg d1, if_neg d2]
    rw [← s1, show tkA g E (tmS g E (nxT g E a)) = nxT g E (nxT g E a) from rfl] at z2
    obtain ⟨F2, T2⟩ := tsC_tkM (a := nxT g E (nxT g E a)) u1 u2 u3 hE (nxT_le hE p9)
    rw [z2]
    exact ⟨F.tr F2, fun _ => ⟨z1, T2⟩, fun w => absurd cc w⟩
  · have cc : ¬ (tmK g E (nxT g E a) = 3 ∧ g (nxT g E a) = 59) := fun w => c (k3.mpr w)
    have c7 : ¬ tkM M E (nxT g E a) 1 7 = 3 := fun w => c (t7.symm.trans w)
    rw [if_neg c7] at z1 z2
    rw [z2]
    exact ⟨F, fun w => absurd w cc, fun _ => ⟨z1, T.2.2.2.1⟩⟩
set_option maxHeartbeats 600000 in
set_option maxRecDepth 20000 in
theorem isWordC_ok {M : Mm} {g : Nat → Int} {E a i : Nat} (h : tsC M g E a) (k1 : kdC g E a = 1) (hE : E ≤ 900) (ha : a ≤ 900) (hp : oct g E) (hi : i < 7) : CallI m_Reader_isWord [.inr 1, .inr (NN + i)] M (fun x M' => x = (if wdB g E a i = true then 1 else 0) ∧ M' = M) := by
  obtain ⟨h1, h2, h3, h4, h5, h6, h7⟩ := h
  have m1 := (kd_all g E a).1.mp k1
  have SL := String_length_ok (i := i) hi (M := M)
  have hr := rcS hi
  have SC := fun k hk => String_charAt_ok (i := i) (k := k) hi hk (M := M)
  have T := wdB_iff (g := g) (E := E) (a := a) (i := i)
  have l7 := len_tab i hi
  have cB := fun k hk => (ch_tab i hi k hk).2
  obtain ⟨eS, aE⟩ := tmS_W m1
  have hs := tmS_le (g := g) hE ha
  have esub : M 1 6 - M 1 5 = (tkW g E a : Int) := by omega
  generalize strLen.getD i 0 = L at *
  by_cases c2 : tkW g E a = L
  · rw [c2] at esub
    have wL : ∀ k, k < L → a + k < E := fun k hk => by
      have := (runL_ok (p := fun j => decide (isLet (g j))) (E := E) 901 a (by omega)).1 k (by
        show k < tkW g E a
        omega)
      exact this.1
    refine callP_of (by decide) (by decide) (Nat.le_of_ble_eq_true rfl) (wpm_of (cuts := [20]) (by decide) 80 _ _ _ _ ?_)
    rw [show lM m_Reader_isWord = 3 from rfl]
    simp (maxSteps := 2000000) only [↓reduceIte, wp_eq, wpd_eq, kont_eq, STP1, STP2, STP3, STP4, STP5, konM_eq, AMK, CZ, Option.map, List.getElem?_cons_zero, List.getElem?_cons_succ, List.mem_cons, List.not_mem_nil, if_false, if_true, Nat.reduceAdd, Nat.reduceLT, Nat.reduceLeDiff, Nat.reduceEqDiff, true_and, and_true, List.length_nil, List.length_cons, or_true, true_or, or_false, false_or, Option.some.injEq, Sum.inl.injEq, Sum.inr.injEq, exists_eq_left', exists_eq_left, Int.reduceLE, Int.reduceLT, Int.reduceNeg, Int.reduceAdd, Int.reduceMul, Int.reduceSub, Int.reduceToNat, inR, Nat.zero_ne_one, false_and, Nat.succ_ne_zero, reduceCtorEq, false_implies, true_implies, not_false_eq_true, not_true_eq_false, Int.reduceEq, KRE, C_Reader_isWord, FD, esub, hr]
    repeat (first | refine And.intro (by omega) ?_ | refine And.intro (fun _ _ => okt_nn (by omega)) ?_)
    refine SL.eq ?_
    try simp (maxSteps := 2000000) only [↓reduceIte, wp_eq, wpd_eq, kont_eq, STP1, STP2, STP3, STP4, STP5, konM_eq, AMK, CZ, Option.map, List.getElem?_cons_zero, List.getElem?_cons_succ, List.mem_cons, List.not_mem_nil, if_false, if_true, Nat.reduceAdd, Nat.reduceLT, Nat.reduceLeDiff, Nat.reduceEqDiff, true_and, and_true, List.length_nil, List.length_cons, or_true, true_or, or_false, false_or, Option.some.injEq, Sum.inl.injEq, Sum.inr.injEq, exists_eq_left', exists_eq_left, Int.reduceLE, Int.reduceLT, Int.reduceNeg, Int.reduceAdd, Int.reduceMul, Int.reduceSub, Int.reduceToNat, inR, Nat.zero_ne_one, false_and, Nat.succ_ne_zero, reduceCtorEq, false_implies, true_implies, not_false_eq_true, not_true_eq_false, Int.reduceEq, KRE, C_Reader_isWord, FD]
    repeat (first | refine And.intro (by omega) ?_ | refine And.intro (fun _ _ => okt_nn (by omega)) ?_)
    refine loopQ L (fun k ls M1 => M1 = M ∧ (∀ j, j < k → g (a + j) = strCh i j) ∧ ls = [some (.inr 1), some (.inr (NN + i)), some (.inl (k : Int))]) ?_ _ _ ⟨rfl, fun j hj => absurd hj (Nat.not_lt_zero _), rfl⟩
    rintro k ls M1 hk ⟨e1, hall, e2⟩ K
    rw [e1, e2]
    by_cases ck : k = L
    · subst ck
      rw [if_pos (T.mpr ⟨m1, c2, hall⟩)]
      have q := eq_true (show ((k : Nat) : Int) ≤ (k : Nat) by omega)
      refine wpm_of (cuts := [20]) (by decide) 80 _ _ _ _ ?_
      simp (maxSteps := 2000000) only [↓reduceIte, wp_eq, wpd_eq, kont_eq, STP1, STP2, STP3, STP4, STP5, konM_eq, AMK, CZ, Option.map, List.getElem?_cons_zero, List.getElem?_cons_succ, List.mem_cons, List.not_mem_nil, if_false, if_true, Nat.reduceAdd, Nat.reduceLT, Nat.reduceLeDiff, Nat.reduceEqDiff, true_and, and_true, List.length_nil, List.length_cons, or_true, true_or, or_false, false_or, Option.some.injEq, Sum.inl.injEq, Sum.inr.injEq, exists_eq_left', exists_eq_left, Int.reduceLE, Int.reduceLT, Int.reduceNeg, Int.reduceAdd, Int.reduceMul, Int.reduceSub, Int.reduceToNat, inR, Nat.zero_ne_one, false_and, Nat.succ_ne_zero, reduceCtorEq, false_implies, true_implies, not_false_eq_true, not_true_eq_false, Int.reduceEq, KRE, C_Reader_isWord, FD, hr]
      repeat (first | refine And.intro (by omega) ?_ | refine And.intro (fun _ _ => okt_nn (by omega)) ?_)
      refine SL.eq ?_
      try simp (maxSteps := 2000000) only [↓reduceIte, wp_eq, wpd_eq, kont_eq, STP1, STP2, STP3, STP4, STP5, konM_eq, AMK, CZ, Option.map, List.getElem?_cons_zero, List.getElem?_cons_succ, List.mem_cons, List.not_mem_nil, if_false, if_true, Nat.reduceAdd, Nat.reduceLT, Nat.reduceLeDiff, Nat.reduceEqDiff, true_and, and_true, List.length_nil, List.length_cons, or_true, true_or, or_false, false_or, Option.some.injEq, Sum.inl.injEq, Sum.inr.injEq, exists_eq_left', exists_eq_left, Int.reduceLE, Int.reduceLT, Int.reduceNeg, Int.reduceAdd, Int.reduceMul, Int.reduceSub, Int.reduceToNat, inR, Nat.zero_ne_one, false_and, Nat.succ_ne_zero, reduceCtorEq, false_implies, true_implies, not_false_eq_true, not_true_eq_false, Int.reduceEq, KRE, C_Reader_isWord, FD, q]
      repeat (first | refine And.intro (by omega) ?_ | refine And.intro (fun _ _ => okt_nn (by omega)) ?_)
      try (first | omega | exact ⟨rfl, rfl⟩)
    · have lt : k < L := by omega
      have q := eq_false (show ¬ ((L : Nat) : Int) ≤ (k : Nat) by omega)
      have aE2 := wL k lt
      have ix : M 1 5 + (k : Int) = ((a + k : Nat) : Int) := by omega
      have ge := hp (a + k) aE2
      have ce := cB k lt
      have BY := Reader_byteAt_ok (k := ((a + k : Nat) : Int)) (M := M) ⟨by omega, by omega⟩ (by rw [h3]; exact ⟨by omega, by omega⟩)
      rw [show byA M ((a + k : Nat) : Int) = g (a + k) from by
        unfold byA
        rw [h3, if_pos (by omega)]
        exact h1 _ aE2] at BY
      by_cases cE : g (a + k) = strCh i k
      · have K' := K lt _ _ ⟨rfl, fun j hj => by
          by_cases z : j = k
          · rw [z]; exact cE
          · exact hall j (by omega), rfl⟩
        rw [show ((k + 1 : Nat) : Int) = (k : Int) + 1 by omega] at K'
        have q2 := eq_true cE
        refine wpm_of (cuts := [20]) (by decide) 80 _ _ _ _ ?_
        simp (maxSteps := 2000000) only [↓reduceIte, wp_eq, wpd_eq, kont_eq, STP1, STP2, STP3, STP4, STP5, konM_eq, AMK, CZ, Option.map, List.getElem?_cons_zero, List.getElem?_cons_succ, List.mem_cons, List.not_mem_nil, if_false, if_true, Nat.reduceAdd, Nat.reduceLT, Nat.reduceLeDiff, Nat.reduceEqDiff, true_and, and_true, List.length_nil, List.length_cons, or_true, true_or, or_false, false_or, Option.some.injEq, Sum.inl.injEq, Sum.inr.injEq, exists_eq_left', exists_eq_left, Int.reduceLE, Int.reduceLT, Int.reduceNeg, Int.reduceAdd, Int.reduceMul, Int.reduceSub, Int.reduceToNat, inR, Nat.zero_ne_one, false_and, Nat.succ_ne_zero, reduceCtorEq, false_implies, true_implies, not_false_eq_true, not_true_eq_false, Int.reduceEq, KRE, C_Reader_isWord, FD, hr]
        repeat (first | refine And.intro (by omega) ?_ | refine And.intro (fun _ _ => okt_nn (by omega)) ?_)
        refine SL.eq ?_
        try simp (maxSteps := 2000000) only [↓reduceIte, wp_eq, wpd_eq, kont_eq, STP1, STP2, STP3, STP4, STP5, konM_eq, AMK, CZ, Option.map, List.getElem?_cons_zero, List.getElem?_cons_succ, List.mem_cons, List.not_mem_nil, if_false, if_true, Nat.reduceAdd, Nat.reduceLT, Nat.reduceLeDiff, Nat.reduceEqDiff, true_and, and_true, List.length_nil, List.length_cons, or_true, true_or, or_false, false_or, Option.some.injEq, Sum.inl.injEq, Sum.inr.injEq, exists_eq_left', exists_eq_left, Int.reduceLE, Int.reduceLT, Int.reduceNeg, Int.reduceAdd, Int.reduceMul, Int.reduceSub, Int.reduceToNat, inR, Nat.zero_ne_one, false_and, Nat.succ_ne_zero, reduceCtorEq, false_implies, true_implies, not_false_eq_true, not_true_eq_false, Int.reduceEq, KRE, C_Reader_isWord, FD, q, ix]
        repeat (first | refine And.intro (by omega) ?_ | refine And.intro (fun _ _ => okt_nn (by omega)) ?_)
        refine BY.eq ?_
        try simp (maxSteps := 2000000) only [↓reduceIte, wp_eq, wpd_eq, kont_eq, STP1, STP2, STP3, STP4, STP5, konM_eq, AMK, CZ, Option.map, List.getElem?_cons_zero, List.getElem?_cons_succ, List.mem_cons, List.not_mem_nil, if_false, if_true, Nat.reduceAdd, Nat.reduceLT, Nat.reduceLeDiff, Nat.reduceEqDiff, true_and, and_true, List.length_nil, List.length_cons, or_true, true_or, or_false, false_or, Option.some.injEq, Sum.inl.injEq, Sum.inr.injEq, exists_eq_left', exists_eq_left, Int.reduceLE, Int.reduceLT, Int.reduceNeg, Int.reduceAdd, Int.reduceMul, Int.reduceSub, Int.reduceToNat, inR, Nat.zero_ne_one, false_and, Nat.succ_ne_zero, reduceCtorEq, false_implies, true_implies, not_false_eq_true, not_true_eq_false, Int.reduceEq, KRE, C_Reader_isWord, FD, hr]
        repeat (first | refine And.intro (by omega) ?_ | refine And.intro (fun _ _ => okt_nn (by omega)) ?_)
        refine (SC k lt).eq ?_
        try simp (maxSteps := 2000000) only [↓reduceIte, wp_eq, wpd_eq, kont_eq, STP1, STP2, STP3, STP4, STP5, konM_eq, AMK, CZ, Option.map, List.getElem?_cons_zero, List.getElem?_cons_succ, List.mem_cons, List.not_mem_nil, if_false, if_true, Nat.reduceAdd, Nat.reduceLT, Nat.reduceLeDiff, Nat.reduceEqDiff, true_and, and_true, List.length_nil, List.length_cons, or_true, true_or, or_false, false_or, Option.some.injEq, Sum.inl.injEq, Sum.inr.injEq, exists_eq_left', exists_eq_left, Int.reduceLE, Int.reduceLT, Int.reduceNeg, Int.reduceAdd, Int.reduceMul, Int.reduceSub, Int.reduceToNat, inR, Nat.zero_ne_one, false_and, Nat.succ_ne_zero, reduceCtorEq, false_implies, true_implies, not_false_eq_true, not_true_eq_false, Int.reduceEq, KRE, C_Reader_isWord, FD, q2]
        repeat (first | refine And.intro (by omega) ?_ | refine And.intro (fun _ _ => okt_nn (by omega)) ?_)
        exact K'
      · rw [if_neg (fun z => cE ((T.mp z).2.2 k lt))]
        have q2 := eq_false cE
        refine wpm_of (cuts := [20]) (by decide) 80 _ _ _ _ ?_
        simp (maxSteps := 2000000) only [↓reduceIte, wp_eq, wpd_eq, kont_eq, STP1, STP2, STP3, STP4, STP5, konM_eq, AMK, CZ, Option.map, List.getElem?_cons_zero, List.getElem?_cons_succ, List.mem_cons, List.not_mem_nil, if_false, if_true, Nat.reduceAdd, Nat.reduceLT, Nat.reduceLeDiff, Nat.reduceEqDiff, true_and, and_true, List.length_nil, List.length_cons, or_true, true_or, or_false, false_or, Option.some.injEq, Sum.inl.injEq, Sum.inr.injEq, exists_eq_left', exists_eq_left, Int.reduceLE, Int.reduceLT, Int.reduceNeg, Int.reduceAdd, Int.reduceMul, Int.reduceSub, Int.reduceToNat, inR, Nat.zero_ne_one, false_and, Nat.succ_ne_zero, reduceCtorEq, false_implies, true_implies, not_false_eq_true, not_true_eq_false, Int.reduceEq, KRE, C_Reader_isWord, FD, hr]
        repeat (first | refine And.intro (by omega) ?_ | refine And.intro (fun _ _ => okt_nn (by omega)) ?_)
        refine SL.eq ?_
        try simp (maxSteps := 2000000) only [↓reduceIte, wp_eq, wpd_eq, kont_eq, STP1, STP2, STP3, STP4, STP5, konM_eq, AMK, CZ, Option.map, List.getElem?_cons_zero, List.getElem?_cons_succ, List.mem_cons, List.not_mem_nil, if_false, if_true, Nat.reduceAdd, Nat.reduceLT, Nat.reduceLeDiff, Nat.reduceEqDiff, true_and, and_true, List.length_nil, List.length_cons, or_true, true_or, or_false, false_or, Option.some.injEq, Sum.inl.injEq, Sum.inr.injEq, exists_eq_left', exists_eq_left, Int.reduceLE, Int.reduceLT, Int.reduceNeg, Int.reduceAdd, Int.reduceMul, Int.reduceSub, Int.reduceToNat, inR, Nat.zero_ne_one, false_and, Nat.succ_ne_zero, reduceCtorEq, false_implies, true_implies, not_false_eq_true, not_true_eq_false, Int.reduceEq, KRE, C_Reader_isWord, FD, q, ix]
        repeat (first | refine And.intro (by omega) ?_ | refine And.intro (fun _ _ => okt_nn (by omega)) ?_)
        refine BY.eq ?_
        try simp (maxSteps := 2000000) only [↓reduceIte, wp_eq, wpd_eq, kont_eq, STP1, STP2, STP3, STP4, STP5, konM_eq, AMK, CZ, Option.map, List.getElem?_cons_zero, List.getElem?_cons_succ, List.mem_cons, List.not_mem_nil, if_false, if_true, Nat.reduceAdd, Nat.reduceLT, Nat.reduceLeDiff, Nat.reduceEqDiff, true_and, and_true, List.length_nil, List.length_cons, or_true, true_or, or_false, false_or, Option.some.injEq, Sum.inl.injEq, Sum.inr.injEq, exists_eq_left', exists_eq_left, Int.reduceLE, Int.reduceLT, Int.reduceNeg, Int.reduceAdd, Int.reduceMul, Int.reduceSub, Int.reduceToNat, inR, Nat.zero_ne_one, false_and, Nat.succ_ne_zero, reduceCtorEq, false_implies, true_implies, not_false_eq_true, not_true_eq_false, Int.reduceEq, KRE, C_Reader_isWord, FD, hr]
        repeat (first | refine And.intro (by omega) ?_ | refine And.intro (fun _ _ => okt_nn (by omega)) ?_)
        refine (SC k lt).eq ?_
        try simp (maxSteps := 2000000) only [↓reduceIte, wp_eq, wpd_eq, kont_eq, STP1, STP2, STP3, STP4, STP5, konM_eq, AMK, CZ, Option.map, List.getElem?_cons_zero, List.getElem?_cons_succ, List.mem_cons, List.not_mem_nil, if_false, if_true, Nat.reduceAdd, Nat.reduceLT, Nat.reduceLeDiff, Nat.reduceEqDiff, true_and, and_true, List.length_nil, List.length_cons, or_true, true_or, or_false, false_or, Option.some.injEq, Sum.inl.injEq, Sum.inr.injEq, exists_eq_left', exists_eq_left, Int.reduceLE, Int.reduceLT, Int.reduceNeg, Int.reduceAdd, Int.reduceMul, Int.reduceSub, Int.reduceToNat, inR, Nat.zero_ne_one, false_and, Nat.succ_ne_zero, reduceCtorEq, false_implies, true_implies, not_false_eq_true, not_true_eq_false, Int.reduceEq, KRE, C_Reader_isWord, FD, q2]
        repeat (first | refine And.intro (by omega) ?_ | refine And.intro (fun _ _ => okt_nn (by omega)) ?_)
        try (first | omega | exact ⟨rfl, rfl⟩)
  · rw [if_neg (fun z => c2 (T.mp z).2.1)]
    have q := eq_false (show ¬ (tkW g E a : Int) = ((L : Nat) : Int) by omega)
    refine callP_of (by decide) (by decide) (Nat.le_of_ble_eq_true rfl) (wpm_of (cuts := [20]) (by decide) 80 _ _ _ _ ?_)
    rw [show lM m_Reader_isWord = 3 from rfl]
    simp (maxSteps := 2000000) only [↓reduceIte, wp_eq, wpd_eq, kont_eq, STP1, STP2, STP3, STP4, STP5, konM_eq, AMK, CZ, Option.map, List.getElem?_cons_zero, List.getElem?_cons_succ, List.mem_cons, List.not_mem_nil, if_false, if_true, Nat.reduceAdd, Nat.reduceLT, Nat.reduceLeDiff, Nat.reduceEqDiff, true_and, and_true, List.length_nil, List.length_cons, or_true, true_or, or_false, false_or, Option.some.injEq, Sum.inl.injEq, Sum.inr.injEq, exists_eq_left', exists_eq_left, Int.reduceLE, Int.reduceLT, Int.reduceNeg, Int.reduceAdd, Int.reduceMul, Int.reduceSub, Int.reduceToNat, inR, Nat.zero_ne_one, false_and, Nat.succ_ne_zero, reduceCtorEq, false_implies, true_implies, not_false_eq_true, not_true_eq_false, Int.reduceEq, KRE, C_Reader_isWord, FD, esub, hr]
    repeat (first | refine And.intro (by omega) ?_ | refine And.intro (fun _ _ => okt_nn (by omega)) ?_)
    refine SL.eq ?_
    try simp (maxSteps := 2000000) only [↓reduceIte, wp_eq, wpd_eq, kont_eq, STP1, STP2, STP3, STP4, STP5, konM_eq, AMK, CZ, Option.map, List.getElem?_cons_zero, List.getElem?_cons_succ, List.mem_cons, List.not_mem_nil, if_false, if_true, Nat.reduceAdd, Nat.reduceLT, Nat.reduceLeDiff, Nat.reduceEqDiff, true_and, and_true, List.length_nil, List.length_cons, or_true, true_or, or_false, false_or, Option.some.injEq, Sum.inl.injEq, Sum.inr.injEq, exists_eq_left', exists_eq_left, Int.reduceLE, Int.reduceLT, Int.reduceNeg, Int.reduceAdd, Int.reduceMul, Int.reduceSub, Int.reduceToNat, inR, Nat.zero_ne_one, false_and, Nat.succ_ne_zero, reduceCtorEq, false_implies, true_implies, not_false_eq_true, not_true_eq_false, Int.reduceEq, KRE, C_Reader_isWord, FD, q]
    repeat (first | refine And.intro (by omega) ?_ | refine And.intro (fun _ _ => okt_nn (by omega)) ?_)
    try (first | omega | exact ⟨rfl, rfl⟩)

