/-! THE CLASS READS, in the reference's words, 1: tokens. -/
def kdC (g : Nat → Int) (E a : Nat) : Int := if E ≤ a then 0 else if isLet (g a) then 1 else if isDig (g a) then 2 else if g a = 59 then 3 else if g a = 63 then 4 else 5
theorem kdm_E {g : Nat → Int} {E a : Nat} (c : E ≤ a) : kdC g E a = 0 ∧ tmK g E a = 0 := ⟨if_pos c, if_pos c⟩
theorem kdm_N {g : Nat → Int} {E a : Nat} (c : ¬ E ≤ a) : kdC g E a = (if isLet (g a) then 1 else if isDig (g a) then 2 else if g a = 59 then 3 else if g a = 63 then 4 else 5) ∧ tmK g E a = if isLet (g a) then 1 else if isDig (g a) then 2 else if g a = 59 ∨ g a = 63 then 3 else 4 := ⟨if_neg c, if_neg c⟩
theorem kd_all (g : Nat → Int) (E a : Nat) : (kdC g E a = 1 ↔ tmK g E a = 1) ∧ (kdC g E a = 2 ↔ tmK g E a = 2) ∧ (kdC g E a = 3 ↔ tmK g E a = 3 ∧ g a = 59) ∧ (kdC g E a = 4 ↔ tmK g E a = 3 ∧ g a = 63) ∧ (kdC g E a = 0 ↔ E ≤ a) ∧ 0 ≤ kdC g E a ∧ kdC g E a ≤ 5 := by
  by_cases c : E ≤ a
  · obtain ⟨e1, e2⟩ := kdm_E (g := g) c
    rw [e1, e2]
    omega
  · obtain ⟨e1, e2⟩ := kdm_N (g := g) c
    rw [e1, e2]
    by_cases c1 : isLet (g a)
    · rw [if_pos c1, if_pos c1]
      omega
    · rw [if_neg c1, if_neg c1]
      by_cases c2 : isDig (g a)
      · rw [if_pos c2, if_pos c2]
        omega
      · rw [if_neg c2, if_neg c2]
        by_cases c3 : g a = 59
        · rw [if_pos c3, if_pos (Or.inl c3)]
          omega
        · rw [if_neg c3]
          by_cases c4 : g a = 63
          · rw [if_pos c4, if_pos (Or.inr c4)]
            omega
          · rw [if_neg c4, if_neg (by omega)]
            omega
def tsC (M : Mm) (g : Nat → Int) (E a : Nat) : Prop := (∀ j, j < E → M 2 j = g j) ∧ (∀ j, 0 ≤ M 2 j ∧ M 2 j ≤ 255) ∧ M 1 4 = E ∧ M 1 5 = a ∧ M 1 6 = tmS g E a ∧ M 1 7 = kdC g E a ∧ (kdC g E a = 2 → M 1 8 = nmN g E a ∧ 0 ≤ M 1 8 ∧ M 1 8 ≤ 999)
def stC : Nat → Nat → Prop := fun b j => b = 1 ∧ 5 ≤ j ∧ j ≤ 8
theorem tsC_mv {M M2 : Mm} {g : Nat → Int} {E a : Nat} (h : tsC M g E a) (e : ∀ b j, (b = 2 ∨ b = 1 ∧ 4 ≤ j ∧ j ≤ 8) → M2 b j = M b j) : tsC M2 g E a := by
  obtain ⟨h1, h2, h3, h4, h5, h6, h7⟩ := h
  refine ⟨fun j hj => (e _ _ (by omega)).trans (h1 j hj), fun j => by rw [e 2 j (by omega)]; exact h2 j, (e _ _ (by omega)).trans h3, (e _ _ (by omega)).trans h4, (e _ _ (by omega)).trans h5, (e _ _ (by omega)).trans h6, ?_⟩
  rw [e 1 8 (by omega)]
  exact h7
theorem runL_cg {p q : Nat → Bool} {E : Nat} (h : ∀ j, j < E → p j = q j) : ∀ f a, runL p E f a = runL q E f a
  | 0, a => rfl
  | f + 1, a => by
    unfold runL
    by_cases c : a < E
    · rw [h a c, runL_cg h f (a + 1)]
    · rw [if_neg (fun z => c z.1), if_neg (fun z => c z.1)]
section CG
variable {g g1 : Nat → Int} {E : Nat}
theorem tkA_cg (h : ∀ j, j < E → g1 j = g j) (a : Nat) : tkA g1 E a = tkA g E a := by
  unfold tkA
  rw [runL_cg (fun j hj => by rw [h j hj])]
theorem tkW_cg (h : ∀ j, j < E → g1 j = g j) (a : Nat) : tkW g1 E a = tkW g E a := by
  unfold tkW
  rw [runL_cg (fun j hj => by rw [h j hj])]
theorem tkD_cg (h : ∀ j, j < E → g1 j = g j) (a : Nat) : tkD g1 E a = tkD g E a := by
  unfold tkD
  rw [runL_cg (fun j hj => by rw [h j hj])]
theorem tmS_cg (h : ∀ j, j < E → g1 j = g j) (a : Nat) : tmS g1 E a = tmS g E a := by
  unfold tmS
  by_cases c : E ≤ a
  · rw [if_pos c, if_pos c]
  · rw [if_neg c, if_neg c, h a (by omega), tkW_cg h, tkD_cg h]
theorem kdC_cg (h : ∀ j, j < E → g1 j = g j) (a : Nat) : kdC g1 E a = kdC g E a := by
  unfold kdC
  by_cases c : E ≤ a
  · rw [if_pos c, if_pos c]
  · rw [if_neg c, if_neg c, h a (by omega)]
theorem nmV_cg (a : Nat) : ∀ k, (∀ j, j < k → g1 (a + j) = g (a + j)) → nmV g1 a k = nmV g a k
  | 0, _ => rfl
  | k + 1, h => by
    unfold nmV
    rw [nmV_cg a k (fun j hj => h j (by omega)), h k (by omega)]
theorem nmN_cg (h : ∀ j, j < E → g1 j = g j) (a : Nat) : nmN g1 E a = nmN g E a := by
  unfold nmN
  rw [tkD_cg h]
  refine nmV_cg a _ (fun j hj => ?_)
  have := (runL_ok (p := fun j => decide (isDig (g j))) (E := E) 901 a)
  by_cases c : E ≤ a + 901
  · exact h _ ((this c).1 j hj).1
  · exact h _ (by
      have hl : ∀ f b, b + runL (fun j => decide (isDig (g j))) E f b ≤ b + f := by
        intro f
        induction f with
        | zero => intro b; exact Nat.le_refl _
        | succ f IH =>
          intro b
          unfold runL
          split
          · have := IH (b + 1); omega
          · omega
      have := hl 901 a
      have e : j < runL (fun j => decide (isDig (g j))) E 901 a := hj
      omega)
end CG
theorem tkM_6e {M : Mm} {E a : Nat} : tkM M E a 1 6 = tmS (M 2) E a := by
  unfold tkM tmS
  by_cases c : E ≤ a
  · rw [if_pos c, if_pos c]
    simp [mset]
  · rw [if_neg c, if_neg c]
    by_cases c1 : isLet (M 2 a)
    · have l0 : tkW (M 2) E a ≠ 0 := by
        unfold tkW runL
        rw [if_pos ⟨by omega, by simpa using c1⟩]
        omega
      rw [if_pos c1, if_pos c1]
      unfold mWd
      rw [if_neg l0]
      simp [mset]
    · rw [if_neg c1, if_neg c1]
      by_cases c2 : isDig (M 2 a)
      · have l0 : tkD (M 2) E a ≠ 0 := by
          unfold tkD runL
          rw [if_pos ⟨by omega, by simpa using c2⟩]
          omega
        rw [if_pos c2, if_pos c2]
        unfold mNm
        rw [if_neg (by omega), if_pos ⟨rfl, rfl, by omega⟩]
      · rw [if_neg c2, if_neg c2]
        simp [mset]
theorem tsC_tkM {M : Mm} {g : Nat → Int} {E a : Nat} (h1 : ∀ j, j < E → M 2 j = g j) (h2 : ∀ j, 0 ≤ M 2 j ∧ M 2 j ≤ 255) (h4 : M 1 4 = E) (hE : E ≤ 900) (ha : a ≤ 900) : FrP stC M (tkM M E a) ∧ tsC (tkM M E a) g E a := by
  have o2 : ∀ j, tkM M E a 2 j = M 2 j := fun j => tkM_o (by omega)
  refine ⟨fun b j z => tkM_o (by unfold stC at z; omega), fun j hj => (o2 j).trans (h1 j hj), fun j => by rw [o2]; exact h2 j, (tkM_o (by omega)).trans h4, tkM_5, by rw [tkM_6e, tmS_cg h1], ?_, fun z => ?_⟩
  · rw [tkM_7]
    exact kdC_cg h1 a
  · have k7 : tkM M E a 1 7 = 2 := by
      rw [tkM_7]
      exact (kdC_cg h1 a).trans z
    have k8 := tkM_8 hE ha k7
    refine ⟨k8.1.trans ?_, k8.2⟩
    exact nmN_cg h1 a
theorem advC_ok {M : Mm} {g : Nat → Int} {E a : Nat} (h : tsC M g E a) (hE : E ≤ 900) (ha : a ≤ 900) : CallV m_Reader_advance [.inr 1] M (fun M' => FrP stC M M' ∧ tsC M' g E (nxT g E a)) := by
  obtain ⟨h1, h2, h3, h4, h5, h6, h7⟩ := h
  refine (Reader_advance_ok (b := tmS g E a) h5 h3 hE (tmS_le hE ha).2 (fun j => ⟨by have := h2 j; omega, by have := h2 j; omega⟩) (fun j => (h2 j).1)).mono (fun M' z => ?_)
  rw [z, tkA_cg h1]
  exact tsC_tkM h1 h2 h3 hE (nxT_le hE ha)
theorem nmO_F {M : Mm} {g : Nat → Int} {E a : Nat} {lo hi : Int} (h : tsC M g E a) : nmO M lo hi = nmF g E a lo hi := by
  obtain ⟨h1, h2, h3, h4, h5, h6, h7⟩ := h
  obtain ⟨-, k2, -, -, -, -, -⟩ := kd_all g E a
  unfold nmO nmF
  rw [h6]
  by_cases c : kdC g E a = 2
  · have D := tmS_D (k2.mp c)
    rw [if_neg (show ¬ (kdC g E a ≠ 2) from fun z => z c), if_neg (show ¬ (tmK g E a ≠ 2) from fun z => z (k2.mp c))]
    obtain ⟨h7, -⟩ := h7 c
    unfold nmN at h7
    rw [h7]
    exact if_cg (by omega) rfl rfl
  · rw [if_pos c, if_pos (fun z => c (k2.mpr z))]
theorem numC_ok {M : Mm} {g : Nat → Int} {E a : Nat} {lo hi : Int} (h : tsC M g E a) (hE : E ≤ 900) (ha : a ≤ 900) (hlo : inR lo) (hhi : inR hi) : CallI m_Reader_readNumber [.inr 1, .inl lo, .inl hi] M (fun x M' => x = nmF g E (nxT g E a) lo hi ∧ FrP stC M M' ∧ tsC M' g E (nxT g E a)) := by
  obtain ⟨h1, h2, h3, h4, h5, h6, h7⟩ := h
  refine (Reader_readNumber_ok (b := tmS g E a) h5 h3 hE (tmS_le hE ha).2 (fun j => ⟨by have := h2 j; omega, by have := h2 j; omega⟩) (fun j => (h2 j).1) hlo hhi).mono (fun x M' z => ?_)
  obtain ⟨z1, z2⟩ := z
  rw [tkA_cg h1] at z1 z2
  have T := tsC_tkM h1 h2 h3 hE (nxT_le (g := g) hE ha)
  rw [show tkA g E (tmS g E a) = nxT g E a from rfl] at z1 z2
  rw [z1, z2]
  exact ⟨nmO_F T.2, T⟩
theorem endC_ok {M : Mm} {g : Nat → Int} {E a : Nat} (h : tsC M g E a) (hE : E ≤ 900) (ha : a ≤ 900) : CallI m_Reader_readClauseEnd [.inr 1] M (fun x M' => FrP stC M M' ∧ ((tmK g E (nxT g E a) = 3 ∧ g (nxT g E a) = 59) → x = 0 ∧ tsC M' g E (nxT g E (nxT g E a))) ∧ (¬ (tmK g E (nxT g E a) = 3 ∧ g (nxT g E a) = 59) → x = 1 ∧ M' 1 5 = (nxT g E a : Nat))) := by
  obtain ⟨h1, h2, h3, h4, h5, h6, h7⟩ := h
  have p9 := nxT_le (g := g) hE ha
  obtain ⟨F, T⟩ := tsC_tkM (a := nxT g E a) h1 h2 h3 hE p9
  have e0 : tkM M E (nxT g E a) = tkM M E (tkA (M 2) E (tmS g E a)) := by rw [tkA_cg h1]; rfl
  refine (Reader_readClauseEnd_ok (b := tmS g E a) h5 h3 hE (tmS_le hE ha).2 (fun j => ⟨by have := h2 j; omega, by have := h2 j; omega⟩) (fun j => (h2 j).1) e0).mono (fun x M' z => ?_)
  obtain ⟨z1, z2⟩ := z
  rw [tkA_cg h1, tkA_cg h1, show tkA g E (tmS g E a) = nxT g E a from rfl] at z2
  obtain ⟨-, -, k3, -, -, -, -⟩ := kd_all g E (nxT g E a)
  have t7 := T.2.2.2.2.2.1
  by_cases c : kdC g E (nxT g E a) = 3
  · have cc := k3.mp c
    rw [if_pos (t7.trans c)] at z1 z2
    obtain ⟨u1, u2, u3, u4, u5, u6, u7⟩ := T
    have s1 : tmS g E (nxT g E a) = nxT g E a + 1 := by
      have q := cc.1
      unfold tmK at q
      unfold tmS
      by_cases d : E ≤ nxT g E a
      · rw [if_pos d] at q; omega
      · by_cases d1 : isLet (g (nxT g E a))
        · rw [if_neg d, if_pos d1] at q; omega
        · by_cases d2 : isDig (g (nxT g E a))
          · rw [if_neg d, if_neg d1, if_pos d2] at q; omega
          · rw [if_neg d, if_neg d1, if_neg d2]
    rw [← s1, show tkA g E (tmS g E (nxT g E a)) = nxT g E (nxT g E a) from rfl] at z2
    obtain ⟨F2, T2⟩ := tsC_tkM (a := nxT g E (nxT g E a)) u1 u2 u3 hE (nxT_le hE p9)
    rw [z2]
    exact ⟨F.tr F2, fun _ => ⟨z1, T2⟩, fun w => absurd cc w⟩
  · have cc : ¬ (tmK g E (nxT g E a) = 3 ∧ g (nxT g E a) = 59) := fun w => c (k3.mpr w)
    have c7 : ¬ tkM M E (nxT g E a) 1 7 = 3 := fun w => c (t7.symm.trans w)
    rw [if_neg c7] at z1 z2
    rw [z2]
    exact ⟨F, fun w => absurd w cc, fun _ => ⟨z1, T.2.2.2.1⟩⟩
set_option maxHeartbeats 600000 in
set_option maxRecDepth 20000 in
theorem isWordC_ok {M : Mm} {g : Nat → Int} {E a i : Nat} (h : tsC M g E a) (k1 : kdC g E a = 1) (hE : E ≤ 900) (ha : a ≤ 900) (hp : oct g E) (hi : i < 7) : CallI m_Reader_isWord [.inr 1, .inr (NN + i)] M (fun x M' => x = (if wdB g E a i = true then 1 else 0) ∧ M' = M) := by
  obtain ⟨h1, h2, h3, h4, h5, h6, h7⟩ := h
  have m1 := (kd_all g E a).1.mp k1
  have SL := String_length_ok (i := i) hi (M := M)
  have hr := rcS hi
  have SC := fun k hk => String_charAt_ok (i := i) (k := k) hi hk (M := M)
  have T := wdB_iff (g := g) (E := E) (a := a) (i := i)
  have l7 := len_tab i hi
  have cB := fun k hk => (ch_tab i hi k hk).2
  obtain ⟨eS, aE⟩ := tmS_W m1
  have hs := tmS_le (g := g) hE ha
  have esub : M 1 6 - M 1 5 = (tkW g E a : Int) := by omega
  generalize strLen.getD i 0 = L at *
  by_cases c2 : tkW g E a = L
  · rw [c2] at esub
    have wL : ∀ k, k < L → a + k < E := fun k hk => by
      have := (runL_ok (p := fun j => decide (isLet (g j))) (E := E) 901 a (by omega)).1 k (by
        show k < tkW g E a
        omega)
      exact this.1
    refine callP_of (by decide) (by decide) (Nat.le_of_ble_eq_true rfl) (wpm_of (cuts := [20]) (by decide) 80 _ _ _ _ ?_)
    rw [show lM m_Reader_isWord = 3 from rfl]
    simp (maxSteps := 2000000) only [↓reduceIte, wp_eq, wpd_eq, kont_eq, STP1, STP2, STP3, STP4, STP5, konM_eq, AMK, CZ, Option.map, List.getElem?_cons_zero, List.getElem?_cons_succ, List.mem_cons, List.not_mem_nil, if_false, if_true, Nat.reduceAdd, Nat.reduceLT, Nat.reduceLeDiff, Nat.reduceEqDiff, true_and, and_true, List.length_nil, List.length_cons, or_true, true_or, or_false, false_or, Option.some.injEq, Sum.inl.injEq, Sum.inr.injEq, exists_eq_left', exists_eq_left, Int.reduceLE, Int.reduceLT, Int.reduceNeg, Int.reduceAdd, Int.reduceMul, Int.reduceSub, Int.reduceToNat, inR, Nat.zero_ne_one, false_and, Nat.succ_ne_zero, reduceCtorEq, false_implies, true_implies, not_false_eq_true, not_true_eq_false, Int.reduceEq, KRE, C_Reader_isWord, FD, esub, hr]
    repeat (first | refine And.intro (by omega) ?_ | refine And.intro (fun _ _ => okt_nn (by omega)) ?_)
    refine SL.eq ?_
    try simp (maxSteps := 2000000) only [↓reduceIte, wp_eq, wpd_eq, kont_eq, STP1, STP2, STP3, STP4, STP5, konM_eq, AMK, CZ, Option.map, List.getElem?_cons_zero, List.getElem?_cons_succ, List.mem_cons, List.not_mem_nil, if_false, if_true, Nat.reduceAdd, Nat.reduceLT, Nat.reduceLeDiff, Nat.reduceEqDiff, true_and, and_true, List.length_nil, List.length_cons, or_true, true_or, or_false, false_or, Option.some.injEq, Sum.inl.injEq, Sum.inr.injEq, exists_eq_left', exists_eq_left, Int.reduceLE, Int.reduceLT, Int.reduceNeg, Int.reduceAdd, Int.reduceMul, Int.reduceSub, Int.reduceToNat, inR, Nat.zero_ne_one, false_and, Nat.succ_ne_zero, reduceCtorEq, false_implies, true_implies, not_false_eq_true, not_true_eq_false, Int.reduceEq, KRE, C_Reader_isWord, FD]
    repeat (first | refine And.intro (by omega) ?_ | refine And.intro (fun _ _ => okt_nn (by omega)) ?_)
    refine loopQ L (fun k ls M1 => M1 = M ∧ (∀ j, j < k → g (a + j) = strCh i j) ∧ ls = [some (.inr 1), some (.inr (NN + i)), some (.inl (k : Int))]) ?_ _ _ ⟨rfl, fun j hj => absurd hj (Nat.not_lt_zero _), rfl⟩
    rintro k ls M1 hk ⟨e1, hall, e2⟩ K
    rw [e1, e2]
    by_cases ck : k = L
    · subst ck
      rw [if_pos (T.mpr ⟨m1, c2, hall⟩)]
      have q := eq_true (show ((k : Nat) : Int) ≤ (k : Nat) by omega)
      refine wpm_of (cuts := [20]) (by decide) 80 _ _ _ _ ?_
      simp (maxSteps := 2000000) only [↓reduceIte, wp_eq, wpd_eq, kont_eq, STP1, STP2, STP3, STP4, STP5, konM_eq, AMK, CZ, Option.map, List.getElem?_cons_zero, List.getElem?_cons_succ, List.mem_cons, List.not_mem_nil, if_false, if_true, Nat.reduceAdd, Nat.reduceLT, Nat.reduceLeDiff, Nat.reduceEqDiff, true_and, and_true, List.length_nil, List.length_cons, or_true, true_or, or_false, false_or, Option.some.injEq, Sum.inl.injEq, Sum.inr.injEq, exists_eq_left', exists_eq_left, Int.reduceLE, Int.reduceLT, Int.reduceNeg, Int.reduceAdd, Int.reduceMul, Int.reduceSub, Int.reduceToNat, inR, Nat.zero_ne_one, false_and, Nat.succ_ne_zero, reduceCtorEq, false_implies, true_implies, not_false_eq_true, not_true_eq_false, Int.reduceEq, KRE, C_Reader_isWord, FD, hr]
      repeat (first | refine And.intro (by omega) ?_ | refine And.intro (fun _ _ => okt_nn (by omega)) ?_)
      refine SL.eq ?_
      try simp (maxSteps := 2000000) only [↓reduceIte, wp_eq, wpd_eq, kont_eq, STP1, STP2, STP3, STP4, STP5, konM_eq, AMK, CZ, Option.map, List.getElem?_cons_zero, List.getElem?_cons_succ, List.mem_cons, List.not_mem_nil, if_false, if_true, Nat.reduceAdd, Nat.reduceLT, Nat.reduceLeDiff, Nat.reduceEqDiff, true_and, and_true, List.length_nil, List.length_cons, or_true, true_or, or_false, false_or, Option.some.injEq, Sum.inl.injEq, Sum.inr.injEq, exists_eq_left', exists_eq_left, Int.reduceLE, Int.reduceLT, Int.reduceNeg, Int.reduceAdd, Int.reduceMul, Int.reduceSub, Int.reduceToNat, inR, Nat.zero_ne_one, false_and, Nat.succ_ne_zero, reduceCtorEq, false_implies, true_implies, not_false_eq_true, not_true_eq_false, Int.reduceEq, KRE, C_Reader_isWord, FD, q]
      repeat (first | refine And.intro (by omega) ?_ | refine And.intro (fun _ _ => okt_nn (by omega)) ?_)
      try (first | omega | exact ⟨rfl, rfl⟩)
    · have lt : k < L := by omega
      have q := eq_false (show ¬ ((L : Nat) : Int) ≤ (k : Nat) by omega)
      have aE2 := wL k lt
      have ix : M 1 5 + (k : Int) = ((a + k : Nat) : Int) := by omega
      have ge := hp (a + k) aE2
      have ce := cB k lt
      have BY := Reader_byteAt_ok (k := ((a + k : Nat) : Int)) (M := M) ⟨by omega, by omega⟩ (by rw [h3]; exact ⟨by omega, by omega⟩)
      rw [show byA M ((a + k : Nat) : Int) = g (a + k) from by
        unfold byA
        rw [h3, if_pos (by omega)]
        exact h1 _ aE2] at BY
      by_cases cE : g (a + k) = strCh i k
      · have K' := K lt _ _ ⟨rfl, fun j hj => by
          by_cases z : j = k
          · rw [z]; exact cE
          · exact hall j (by omega), rfl⟩
        rw [show ((k + 1 : Nat) : Int) = (k : Int) + 1 by omega] at K'
        have q2 := eq_true cE
        refine wpm_of (cuts := [20]) (by decide) 80 _ _ _ _ ?_
        simp (maxSteps := 2000000) only [↓reduceIte, wp_eq, wpd_eq, kont_eq, STP1, STP2, STP3, STP4, STP5, konM_eq, AMK, CZ, Option.map, List.getElem?_cons_zero, List.getElem?_cons_succ, List.mem_cons, List.not_mem_nil, if_false, if_true, Nat.reduceAdd, Nat.reduceLT, Nat.reduceLeDiff, Nat.reduceEqDiff, true_and, and_true, List.length_nil, List.length_cons, or_true, true_or, or_false, false_or, Option.some.injEq, Sum.inl.injEq, Sum.inr.injEq, exists_eq_left', exists_eq_left, Int.reduceLE, Int.reduceLT, Int.reduceNeg, Int.reduceAdd, Int.reduceMul, Int.reduceSub, Int.reduceToNat, inR, Nat.zero_ne_one, false_and, Nat.succ_ne_zero, reduceCtorEq, false_implies, true_implies, not_false_eq_true, not_true_eq_false, Int.reduceEq, KRE, C_Reader_isWord, FD, hr]
        repeat (first | refine And.intro (by omega) ?_ | refine And.intro (fun _ _ => okt_nn (by omega)) ?_)
        refine SL.eq ?_
        try simp (maxSteps := 2000000) only [↓reduceIte, wp_eq, wpd_eq, kont_eq, STP1, STP2, STP3, STP4, STP5, konM_eq, AMK, CZ, Option.map, List.getElem?_cons_zero, List.getElem?_cons_succ, List.mem_cons, List.not_mem_nil, if_false, if_true, Nat.reduceAdd, Nat.reduceLT, Nat.reduceLeDiff, Nat.reduceEqDiff, true_and, and_true, List.length_nil, List.length_cons, or_true, true_or, or_false, false_or, Option.some.injEq, Sum.inl.injEq, Sum.inr.injEq, exists_eq_left', exists_eq_left, Int.reduceLE, Int.reduceLT, Int.reduceNeg, Int.reduceAdd, Int.reduceMul, Int.reduceSub, Int.reduceToNat, inR, Nat.zero_ne_one, false_and, Nat.succ_ne_zero, reduceCtorEq, false_implies, true_implies, not_false_eq_true, not_true_eq_false, Int.reduceEq, KRE, C_Reader_isWord, FD, q, ix]
        repeat (first | refine And.intro (by omega) ?_ | refine And.intro (fun _ _ => okt_nn (by omega)) ?_)
        refine BY.eq ?_
        try simp (maxSteps := 2000000) only [↓reduceIte, wp_eq, wpd_eq, kont_eq, STP1, STP2, STP3, STP4, STP5, konM_eq, AMK, CZ, Option.map, List.getElem?_cons_zero, List.getElem?_cons_succ, List.mem_cons, List.not_mem_nil, if_false, if_true, Nat.reduceAdd, Nat.reduceLT, Nat.reduceLeDiff, Nat.reduceEqDiff, true_and, and_true, List.length_nil, List.length_cons, or_true, true_or, or_false, false_or, Option.some.injEq, Sum.inl.injEq, Sum.inr.injEq, exists_eq_left', exists_eq_left, Int.reduceLE, Int.reduceLT, Int.reduceNeg, Int.reduceAdd, Int.reduceMul, Int.reduceSub, Int.reduceToNat, inR, Nat.zero_ne_one, false_and, Nat.succ_ne_zero, reduceCtorEq, false_implies, true_implies, not_false_eq_true, not_true_eq_false, Int.reduceEq, KRE, C_Reader_isWord, FD, hr]
        repeat (first | refine And.intro (by omega) ?_ | refine And.intro (fun _ _ => okt_nn (by omega)) ?_)
        refine (SC k lt).eq ?_
        try simp (maxSteps := 2000000) only [↓reduceIte, wp_eq, wpd_eq, kont_eq, STP1, STP2, STP3, STP4, STP5, konM_eq, AMK, CZ, Option.map, List.getElem?_cons_zero, List.getElem?_cons_succ, List.mem_cons, List.not_mem_nil, if_false, if_true, Nat.reduceAdd, Nat.reduceLT, Nat.reduceLeDiff, Nat.reduceEqDiff, true_and, and_true, List.length_nil, List.length_cons, or_true, true_or, or_false, false_or, Option.some.injEq, Sum.inl.injEq, Sum.inr.injEq, exists_eq_left', exists_eq_left, Int.reduceLE, Int.reduceLT, Int.reduceNeg, Int.reduceAdd, Int.reduceMul, Int.reduceSub, Int.reduceToNat, inR, Nat.zero_ne_one, false_and, Nat.succ_ne_zero, reduceCtorEq, false_implies, true_implies, not_false_eq_true, not_true_eq_false, Int.reduceEq, KRE, C_Reader_isWord, FD, q2]
        repeat (first | refine And.intro (by omega) ?_ | refine And.intro (fun _ _ => okt_nn (by omega)) ?_)
        exact K'
      · rw [if_neg (fun z => cE ((T.mp z).2.2 k lt))]
        have q2 := eq_false cE
        refine wpm_of (cuts := [20]) (by decide) 80 _ _ _ _ ?_
        simp (maxSteps := 2000000) only [↓reduceIte, wp_eq, wpd_eq, kont_eq, STP1, STP2, STP3, STP4, STP5, konM_eq, AMK, CZ, Option.map, List.getElem?_cons_zero, List.getElem?_cons_succ, List.mem_cons, List.not_mem_nil, if_false, if_true, Nat.reduceAdd, Nat.reduceLT, Nat.reduceLeDiff, Nat.reduceEqDiff, true_and, and_true, List.length_nil, List.length_cons, or_true, true_or, or_false, false_or, Option.some.injEq, Sum.inl.injEq, Sum.inr.injEq, exists_eq_left', exists_eq_left, Int.reduceLE, Int.reduceLT, Int.reduceNeg, Int.reduceAdd, Int.reduceMul, Int.reduceSub, Int.reduceToNat, inR, Nat.zero_ne_one, false_and, Nat.succ_ne_zero, reduceCtorEq, false_implies, true_implies, not_false_eq_true, not_true_eq_false, Int.reduceEq, KRE, C_Reader_isWord, FD, hr]
        repeat (first | refine And.intro (by omega) ?_ | refine And.intro (fun _ _ => okt_nn (by omega)) ?_)
        refine SL.eq ?_
        try simp (maxSteps := 2000000) only [↓reduceIte, wp_eq, wpd_eq, kont_eq, STP1, STP2, STP3, STP4, STP5, konM_eq, AMK, CZ, Option.map, List.getElem?_cons_zero, List.getElem?_cons_succ, List.mem_cons, List.not_mem_nil, if_false, if_true, Nat.reduceAdd, Nat.reduceLT, Nat.reduceLeDiff, Nat.reduceEqDiff, true_and, and_true, List.length_nil, List.length_cons, or_true, true_or, or_false, false_or, Option.some.injEq, Sum.inl.injEq, Sum.inr.injEq, exists_eq_left', exists_eq_left, Int.reduceLE, Int.reduceLT, Int.reduceNeg, Int.reduceAdd, Int.reduceMul, Int.reduceSub, Int.reduceToNat, inR, Nat.zero_ne_one, false_and, Nat.succ_ne_zero, reduceCtorEq, false_implies, true_implies, not_false_eq_true, not_true_eq_false, Int.reduceEq, KRE, C_Reader_isWord, FD, q, ix]
        repeat (first | refine And.intro (by omega) ?_ | refine And.intro (fun _ _ => okt_nn (by omega)) ?_)
        refine BY.eq ?_
        try simp (maxSteps := 2000000) only [↓reduceIte, wp_eq, wpd_eq, kont_eq, STP1, STP2, STP3, STP4, STP5, konM_eq, AMK, CZ, Option.map, List.getElem?_cons_zero, List.getElem?_cons_succ, List.mem_cons, List.not_mem_nil, if_false, if_true, Nat.reduceAdd, Nat.reduceLT, Nat.reduceLeDiff, Nat.reduceEqDiff, true_and, and_true, List.length_nil, List.length_cons, or_true, true_or, or_false, false_or, Option.some.injEq, Sum.inl.injEq, Sum.inr.injEq, exists_eq_left', exists_eq_left, Int.reduceLE, Int.reduceLT, Int.reduceNeg, Int.reduceAdd, Int.reduceMul, Int.reduceSub, Int.reduceToNat, inR, Nat.zero_ne_one, false_and, Nat.succ_ne_zero, reduceCtorEq, false_implies, true_implies, not_false_eq_true, not_true_eq_false, Int.reduceEq, KRE, C_Reader_isWord, FD, hr]
        repeat (first | refine And.intro (by omega) ?_ | refine And.intro (fun _ _ => okt_nn (by omega)) ?_)
        refine (SC k lt).eq ?_
        try simp (maxSteps := 2000000) only [↓reduceIte, wp_eq, wpd_eq, kont_eq, STP1, STP2, STP3, STP4, STP5, konM_eq, AMK, CZ, Option.map, List.getElem?_cons_zero, List.getElem?_cons_succ, List.mem_cons, List.not_mem_nil, if_false, if_true, Nat.reduceAdd, Nat.reduceLT, Nat.reduceLeDiff, Nat.reduceEqDiff, true_and, and_true, List.length_nil, List.length_cons, or_true, true_or, or_false, false_or, Option.some.injEq, Sum.inl.injEq, Sum.inr.injEq, exists_eq_left', exists_eq_left, Int.reduceLE, Int.reduceLT, Int.reduceNeg, Int.reduceAdd, Int.reduceMul, Int.reduceSub, Int.reduceToNat, inR, Nat.zero_ne_one, false_and, Nat.succ_ne_zero, reduceCtorEq, false_implies, true_implies, not_false_eq_true, not_true_eq_false, Int.reduceEq, KRE, C_Reader_isWord, FD, q2]
        repeat (first | refine And.intro (by omega) ?_ | refine And.intro (fun _ _ => okt_nn (by omega)) ?_)
        try (first | omega | exact ⟨rfl, rfl⟩)
  · rw [if_neg (fun z => c2 (T.mp z).2.1)]
    have q := eq_false (show ¬ (tkW g E a : Int) = ((L : Nat) : Int) by omega)
    refine callP_of (by decide) (by decide) (Nat.le_of_ble_eq_true rfl) (wpm_of (cuts := [20]) (by decide) 80 _ _ _ _ ?_)
    rw [show lM m_Reader_isWord = 3 from rfl]
    simp (maxSteps := 2000000) only [↓reduceIte, wp_eq, wpd_eq, kont_eq, STP1, STP2, STP3, STP4, STP5, konM_eq, AMK, CZ, Option.map, List.getElem?_cons_zero, List.getElem?_cons_succ, List.mem_cons, List.not_mem_nil, if_false, if_true, Nat.reduceAdd, Nat.reduceLT, Nat.reduceLeDiff, Nat.reduceEqDiff, true_and, and_true, List.length_nil, List.length_cons, or_true, true_or, or_false, false_or, Option.some.injEq, Sum.inl.injEq, Sum.inr.injEq, exists_eq_left', exists_eq_left, Int.reduceLE, Int.reduceLT, Int.reduceNeg, Int.reduceAdd, Int.reduceMul, Int.reduceSub, Int.reduceToNat, inR, Nat.zero_ne_one, false_and, Nat.succ_ne_zero, reduceCtorEq, false_implies, true_implies, not_false_eq_true, not_true_eq_false, Int.reduceEq, KRE, C_Reader_isWord, FD, esub, hr]
    repeat (first | refine And.intro (by omega) ?_ | refine And.intro (fun _ _ => okt_nn (by omega)) ?_)
    refine SL.eq ?_
    try simp (maxSteps := 2000000) only [↓reduceIte, wp_eq, wpd_eq, kont_eq, STP1, STP2, STP3, STP4, STP5, konM_eq, AMK, CZ, Option.map, List.getElem?_cons_zero, List.getElem?_cons_succ, List.mem_cons, List.not_mem_nil, if_false, if_true, Nat.reduceAdd, Nat.reduceLT, Nat.reduceLeDiff, Nat.reduceEqDiff, true_and, and_true, List.length_nil, List.length_cons, or_true, true_or, or_false, false_or, Option.some.injEq, Sum.inl.injEq, Sum.inr.injEq, exists_eq_left', exists_eq_left, Int.reduceLE, Int.reduceLT, Int.reduceNeg, Int.reduceAdd, Int.reduceMul, Int.reduceSub, Int.reduceToNat, inR, Nat.zero_ne_one, false_and, Nat.succ_ne_zero, reduceCtorEq, false_implies, true_implies, not_false_eq_true, not_true_eq_false, Int.reduceEq, KRE, C_Reader_isWord, FD, q]
    repeat (first | refine And.intro (by omega) ?_ | refine And.intro (fun _ _ => okt_nn (by omega)) ?_)
    try (first | omega | exact ⟨rfl, rfl⟩)
