/-! THE CLASS READS, 2: the draft; a timber's rings. -/
def stb (b0 b1 b2 : Bool) : Int := (if b0 then 1 else 0) + (if b1 then 2 else 0) + (if b2 then 4 else 0)
theorem stb_ok : ∀ b0 b1 b2 : Bool, (bAnd (bShr (stb b0 b1 b2) 0) 1 = (if b0 then 1 else 0) ∧ bOr (stb b0 b1 b2) (bShl 1 0) = stb true b1 b2) ∧ (bAnd (bShr (stb b0 b1 b2) 1) 1 = (if b1 then 1 else 0) ∧ bOr (stb b0 b1 b2) (bShl 1 1) = stb b0 true b2) ∧ bAnd (bShr (stb b0 b1 b2) 2) 1 = (if b2 then 1 else 0) ∧ bOr (stb b0 b1 b2) (bShl 1 2) = stb b0 b1 true := by decide +kernel
def drC (M : Mm) (f r : Nat → Int) (kb hb : Int) : Prop := wfS M 3 ∧ (M 3 3 = r 0 ∧ M 3 4 = (if r 1 = -1 then 70 else r 1) ∧ M 3 5 = (if r 2 = -1 then 6 else r 2) ∧ M 3 6 = (if r 3 = -1 then 5 else r 3)) ∧ (M 1 9 = stb (decide (r 1 ≠ -1)) (decide (r 2 ≠ -1)) (decide (r 3 ≠ -1)) ∧ M 1 10 = kb ∧ M 1 11 = hb) ∧ rowR M 3 f (r 0).toNat ∧ rowW f (r 0).toNat ∧ ∀ t, (r 0).toNat ≤ t → t < 8 → M 8 t = -1
def clP : Nat → Nat → Prop := fun b j => 3 ≤ b ∧ b < 33 ∨ b = 1 ∧ 5 ≤ j
theorem clP_st {M0 M M1 : Mm} (F : FrP clP M0 M) (G : FrP stC M M1) : FrP clP M0 M1 := F.tr (G.wd (fun b j z => by unfold stC at z; unfold clP; omega))
theorem wfS_st {M M1 : Mm} (h : wfS M 3) (F : FrP stC M M1) : wfS M1 3 := wfS_cells (fun b p1 p2 j => F _ _ (by unfold stC; omega)) h
theorem drC_st {M M1 : Mm} {f r : Nat → Int} {kb hb : Int} (hr : 0 ≤ r 0 ∧ r 0 ≤ 8) (h : drC M f r kb hb) (F : FrP stC M M1) : drC M1 f r kb hb := by
  obtain ⟨h1, h2, h3, h4, h5, h6⟩ := h
  have e : ∀ b j, b ≠ 1 → M1 b j = M b j := fun b j z => F _ _ (by unfold stC; omega)
  have e1 : ∀ j, 9 ≤ j → M1 1 j = M 1 j := fun j z => F _ _ (by unfold stC; omega)
  refine ⟨wfS_st h1 F, ?_, ?_, rowR_fr (by omega) (fun b p1 p2 j => e _ _ (by omega)) h4, h5, fun t t1 t2 => (e _ _ (by omega)).trans (h6 t t1 t2)⟩
  · rw [e _ _ (by omega), e _ _ (by omega), e _ _ (by omega), e _ _ (by omega)]; exact h2
  · rw [e1 _ (by omega), e1 _ (by omega), e1 _ (by omega)]; exact h3
/-- the class's answer to a clause -/
def clQ (M0 : Mm) (g : Nat → Int) (E : Nat) (S : CS) (x : Int) (M' : Mm) : Prop := x = S.1 ∧ FrP clP M0 M' ∧ wfS M' 3 ∧ (S.1 ≠ 0 → M' 1 5 = (S.2.1 : Int)) ∧ (S.1 = 0 → tsC M' g E S.2.1 ∧ drC M' S.2.2.1 S.2.2.2.1 S.2.2.2.2.1 S.2.2.2.2.2)
theorem clQ_bad {M0 M : Mm} {g : Nat → Int} {E : Nat} {S : CS} (F : FrP clP M0 M) (w : wfS M 3) (hc : S.1 ≠ 0) (h5 : M 1 5 = (S.2.1 : Int)) : clQ M0 g E S S.1 M := ⟨rfl, F, w, fun _ => h5, fun z => absurd z hc⟩
theorem endQ {M0 M : Mm} {g f r : Nat → Int} {E b : Nat} {kb hb : Int} (hE : E ≤ 900) (hb9 : b ≤ 900) (hr : 0 ≤ r 0 ∧ r 0 ≤ 8) (h : tsC M g E b) (D : drC M f r kb hb) (F : FrP clP M0 M) : CallI m_Reader_readClauseEnd [.inr 1] M (fun x M' => clQ M0 g E (enS g E (nxT g E b) f r kb hb) x M') := by
  refine (endC_ok h hE hb9).mono (fun x M' z => ?_)
  obtain ⟨z1, z2, z3⟩ := z
  have D1 := drC_st hr D z1
  by_cases c : tmK g E (nxT g E b) = 3 ∧ g (nxT g E b) = 59
  · rw [show enS g E (nxT g E b) f r kb hb = (0, nxT g E (nxT g E b), f, r, kb, hb) from if_pos c]
    obtain ⟨rfl, T⟩ := z2 c
    exact ⟨rfl, clP_st F z1, D1.1, fun w => absurd rfl w, fun _ => ⟨T, D1⟩⟩
  · rw [show enS g E (nxT g E b) f r kb hb = (1, nxT g E b, f, r, kb, hb) from if_neg c]
    obtain ⟨rfl, T⟩ := z3 c
    exact clQ_bad (S := (1, nxT g E b, f, r, kb, hb)) (clP_st F z1) D1.1 (by show (1 : Int) ≠ 0; omega) T
theorem isT {n : Nat} (h : n < 8) : isTim (9 + 3 * n) := isStk_3.2.2.2.2 n h
theorem wfS_T {M : Mm} {n : Nat} (w : wfS M 3) (h : n < 8) : wfT M (9 + 3 * n) := w.2.2.2.2.1 n h
theorem wfS_one {M M1 : Mm} {n : Nat} (w : wfS M 3) (hn : n < 8) (e : ∀ b, 3 ≤ b → b < 33 → ¬ (9 + 3 * n ≤ b ∧ b < 12 + 3 * n) → ∀ j, M1 b j = M b j) (h : wfT M1 (9 + 3 * n)) : wfS M1 3 := by
  obtain ⟨w0, w1, w2, w3, w4, w5, w6⟩ := w
  have e3 := e 3 (by omega) (by omega) (by omega)
  have e8 := e 8 (by omega) (by omega) (by omega)
  refine ⟨by rw [e3]; exact w0, by rw [e3]; exact w1, by rw [e3]; exact w2, by rw [e3]; exact w3, fun t ht => ?_, wfT_cells (fun b p1 p2 j => e b (by omega) (by omega) (by omega) j) w5, fun t ht => by rw [show (3 + 5 : Nat) = 8 from rfl, e8]; exact w6 t ht⟩
  by_cases c : t = n
  · subst c; exact h
  · exact wfT_cells (fun b p1 p2 j => e b (by omega) (by omega) (by omega) j) (w4 t ht)
theorem btI_set (x : Int) {k : Nat} (hk : k < 32) (i : Nat) : btI (bOr x (bShl 1 k)) i = (btI x i || decide (i = k)) := by
  rw [btI_or]
  by_cases h : i < 32
  · rw [btI_shl hk _ h, btI_1 (by omega)]
    by_cases c : i = k
    · subst c
      simp
    · by_cases c2 : k ≤ i
      · simp [c, c2, show ¬ i - k = 0 by omega]
      · simp [c, c2]
  · rw [btI_big (by omega : 32 ≤ i), btI_big (by omega : 32 ≤ i)]
    simp [show ¬ i = k by omega]
/-- while the rings of timber n are read: k of them so far -/
def rgC (M : Mm) (f0 f : Nat → Int) (n k : Nat) : Prop := wfS M 3 ∧ M (9 + 3 * n) 2 = k ∧ (∀ j, j < k → (M (10 + 3 * n) j = f (30 * n + 6 + j) ∧ 1 ≤ f (30 * n + 6 + j) ∧ f (30 * n + 6 + j) ≤ 99) ∧ M (11 + 3 * n) j = if btI (f (30 * n + 5)) j = true then 1 else 0) ∧ inR (f (30 * n + 5)) ∧ (∀ i, k ≤ i → btI (f (30 * n + 5)) i = false) ∧ ∀ j, ¬ (30 * n + 5 ≤ j ∧ j < 30 * n + 30) → f j = f0 j
def rgCP (n : Nat) : Nat → Nat → Prop := fun b j => stC b j ∨ b = 9 + 3 * n ∧ j = 2 ∨ b = 10 + 3 * n ∨ b = 11 + 3 * n
theorem rgC_st {M M1 : Mm} {f0 f : Nat → Int} {n k : Nat} (h : rgC M f0 f n k) (F : FrP stC M M1) : rgC M1 f0 f n k := by
  obtain ⟨h1, h2, h3, h4⟩ := h
  have e : ∀ b j, b ≠ 1 → M1 b j = M b j := fun b j z => F _ _ (by unfold stC; omega)
  refine ⟨wfS_st h1 F, (e _ _ (by omega)).trans h2, fun j hj => ?_, h4⟩
  rw [e _ _ (by omega), e _ _ (by omega)]
  exact h3 j hj
def mRg (M : Mm) (n k : Nat) (w y : Int) : Mm := mset (mset (mset M (10 + 3 * n) k w) (11 + 3 * n) k y) (9 + 3 * n) 2 ((k : Int) + 1)
theorem mRg_ok {M : Mm} {f0 f : Nat → Int} {n k : Nat} {w y : Int} (hn : n < 8) (hk : k < 24) (h : rgC M f0 f n k) (hw : 1 ≤ w ∧ w ≤ 99) (hy : y = 0 ∨ y = 1) (q : Bool) (hq : y = if q then 1 else 0) (f' : Nat → Int) (hf : f' = if q then updI (updI f (30 * n + 6 + k) w) (30 * n + 5) (bOr (f (30 * n + 5)) (bShl 1 k)) else updI f (30 * n + 6 + k) w) :
    FrP (rgCP n) M (mRg M n k w y) ∧ rgC (mRg M n k w y) f0 f' n (k + 1) := by
  obtain ⟨h1, h2, h3, h4, h5, h6⟩ := h
  have F : FrP (rgCP n) M (mRg M n k w y) := ((FrP.rf.st (by unfold rgCP; omega)).st (by unfold rgCP; omega)).st (by unfold rgCP; omega)
  have a2 : mRg M n k w y (9 + 3 * n) 2 = ((k + 1 : Nat) : Int) := by
    unfold mRg
    simp [mset]
  have a9 : ∀ j, j ≠ 2 → mRg M n k w y (9 + 3 * n) j = M (9 + 3 * n) j := fun j z => F _ _ (by unfold rgCP stC; omega)
  have a10 : ∀ j, mRg M n k w y (10 + 3 * n) j = if j = k then w else M (10 + 3 * n) j := fun j => by
    show (if 10 + 3 * n = 9 + 3 * n ∧ j = 2 then ((k : Int) + 1) else if 10 + 3 * n = 11 + 3 * n ∧ j = k then y else if 10 + 3 * n = 10 + 3 * n ∧ j = k then w else M (10 + 3 * n) j) = if j = k then w else M (10 + 3 * n) j
    rw [if_neg (by omega), if_neg (by omega)]
    exact if_cg (by omega) rfl rfl
  have a11 : ∀ j, mRg M n k w y (11 + 3 * n) j = if j = k then y else M (11 + 3 * n) j := fun j => by
    show (if 11 + 3 * n = 9 + 3 * n ∧ j = 2 then ((k : Int) + 1) else if 11 + 3 * n = 11 + 3 * n ∧ j = k then y else if 11 + 3 * n = 10 + 3 * n ∧ j = k then w else M (11 + 3 * n) j) = if j = k then y else M (11 + 3 * n) j
    rw [if_neg (by omega)]
    refine if_cg (by omega) rfl ?_
    rw [if_neg (by omega)]
  have wT := wfS_T h1 hn
  have w' : wfT (mRg M n k w y) (9 + 3 * n) := by
    obtain ⟨w0, w1, w2, w3, w4, w5⟩ := wT
    refine ⟨by rw [a2]; omega, fun j hj => ?_, fun j hj => ?_, by rw [a9 _ (by omega)]; exact w3, by rw [a9 _ (by omega)]; exact w4, by rw [a9 _ (by omega)]; exact w5⟩
    · rw [show 9 + 3 * n + 1 = 10 + 3 * n by omega, a10]
      have := w1 j hj
      rw [show 9 + 3 * n + 1 = 10 + 3 * n by omega] at this
      split <;> omega
    · rw [show 9 + 3 * n + 2 = 11 + 3 * n by omega, a11]
      have := w2 j hj
      rw [show 9 + 3 * n + 2 = 11 + 3 * n by omega] at this
      split <;> omega
  have f5 : f' (30 * n + 5) = if q then bOr (f (30 * n + 5)) (bShl 1 k) else f (30 * n + 5) := by
    rw [hf]
    cases q
    · exact if_neg (by omega)
    · exact if_pos rfl
  have f6 : ∀ j, f' (30 * n + 6 + j) = if j = k then w else f (30 * n + 6 + j) := fun j => by
    rw [hf]
    cases q
    · exact if_cg (by omega) rfl rfl
    · show (if 30 * n + 6 + j = 30 * n + 5 then _ else _) = _
      rw [if_neg (by omega)]
      exact if_cg (by omega) rfl rfl
  refine ⟨F, wfS_one h1 hn (fun b p1 p2 p3 j => F _ _ (by unfold rgCP stC; omega)) w', a2, fun j hj => ?_, ?_, fun i hi => ?_, fun j hj => ?_⟩
  · rw [a10, a11, f6, f5]
    by_cases c : j = k
    · subst c
      rw [if_pos rfl, if_pos rfl, if_pos rfl]
      refine ⟨⟨rfl, hw⟩, ?_⟩
      rw [hq]
      cases q
      · simp [h5 j (Nat.le_refl _)]
      · simp only [if_true]
        rw [btI_set _ (by omega)]
        simp
    · rw [if_neg c, if_neg c, if_neg c]
      obtain ⟨p1, p2⟩ := h3 j (by omega)
      refine ⟨p1, ?_⟩
      rw [p2]
      cases q
      · rfl
      · simp only [if_true]
        rw [btI_set _ (by omega)]
        simp [c]
  · rw [f5]
    cases q
    · exact h4
    · exact bOr_in _ _
  · rw [f5]
    cases q
    · exact h5 i (by omega)
    · simp only [if_true]
      rw [btI_set _ (by omega), h5 i (by omega)]
      simp
      omega
  · rw [← h6 j hj, hf]
    cases q
    · exact if_neg (by omega)
    · show (if j = 30 * n + 5 then _ else _) = _
      rw [if_neg (by omega)]
      exact if_neg (by omega)
set_option maxHeartbeats 600000 in
set_option maxRecDepth 20000 in
theorem ringsC {g f0 : Nat → Int} {E n : Nat} {Qc : Option AV → Mm → Prop} (hp : oct g E) (hE : E ≤ 900) (hn : n < 8) : ∀ (d k a : Nat) (f : Nat → Int) (M : Mm) (x3 : Option AV), k + d = 25 → k ≤ 24 → a ≤ 900 → tsC M g E a → rgC M f0 f n k →
    ((rgS g E n d k a f).1 = 0 → ∀ x M', FrP (rgCP n) M M' → rgC M' f0 (rgS g E n d k a f).2.2.2 n (rgS g E n d k a f).2.2.1 → 3 ≤ (rgS g E n d k a f).2.2.1 → (rgS g E n d k a f).2.2.1 ≤ 24 → ((tmK g E (rgS g E n d k a f).2.1 = 3 ∧ g (rgS g E n d k a f).2.1 = 59) → x = 0 ∧ tsC M' g E (nxT g E (rgS g E n d k a f).2.1)) → (¬ (tmK g E (rgS g E n d k a f).2.1 = 3 ∧ g (rgS g E n d k a f).2.1 = 59) → x = 1 ∧ M' 1 5 = ((rgS g E n d k a f).2.1 : Int)) → Qc (some (.inl x)) M') →
    ((rgS g E n d k a f).1 ≠ 0 → ∀ M', FrP (rgCP n) M M' → wfS M' 3 → M' 1 5 = ((rgS g E n d k a f).2.1 : Int) → Qc (some (.inl (rgS g E n d k a f).1)) M') →
    WPm m_Reader_readRings Qc 6 [some (.inr 1), some (.inr (9 + 3 * n)), some (.inl (k : Int)), x3] [] M
  | 0, k, a, f, M, x3, hk, hk4, ha, ht, hc, K0, K1 => by
    omega
  | d + 1, k, a, f, M, x3, hk, hk4, ha, ht, hc, K0, K1 => by
    have IH := fun k a f M x3 => ringsC (f0 := f0) (Qc := Qc) hp hE hn d k a f M x3
    obtain ⟨h1, h2, h3, h4, h5, h6, h7⟩ := id ht
    obtain ⟨kd1, kd2, kd3, kd4, kd0, kdA, kdB⟩ := kd_all g E a
    have k4 := tmK_in g E a
    have b9 := nxT_le (g := g) hE ha
    have AD := advC_ok ht hE ha
    have q24 := eq_false (show ¬ (24 : Int) < (k : Int) by omega)
    unfold rgS at K0 K1
    by_cases cA : 3 ≤ k ∧ tmK g E a ≠ 2
    · rw [if_pos cA] at K0 K1
      have q1 := eq_false (show ¬ (k : Int) < 3 by omega)
      have K := K0 rfl
      by_cases cS : tmK g E a = 3 ∧ g a = 59
      · have q7 := eq_true (show M 1 7 = 3 by rw [h6]; exact kd3.mpr cS)
        refine wpm_of (cuts := [6]) (by decide) 80 _ _ _ _ ?_
        simp (maxSteps := 2000000) only [↓reduceIte, wp_eq, wpd_eq, kont_eq, STP1, STP2, STP3, STP4, STP5, konM_eq, AMK, CZ, Option.map, List.getElem?_cons_zero, List.getElem?_cons_succ, List.mem_cons, List.not_mem_nil, if_false, if_true, Nat.reduceAdd, Nat.reduceLT, Nat.reduceLeDiff, Nat.reduceEqDiff, true_and, and_true, List.length_nil, List.length_cons, or_true, true_or, or_false, false_or, Option.some.injEq, Sum.inl.injEq, Sum.inr.injEq, exists_eq_left', exists_eq_left, Int.reduceLE, Int.reduceLT, Int.reduceNeg, Int.reduceAdd, Int.reduceMul, Int.reduceSub, Int.reduceToNat, inR, Nat.zero_ne_one, false_and, Nat.succ_ne_zero, reduceCtorEq, false_implies, true_implies, not_false_eq_true, not_true_eq_false, Int.reduceEq, KRE, C_Reader_readRings, FD, q24, q1, q7]
        repeat (first | refine And.intro (by omega) ?_ | refine And.intro (fun _ _ => okt_nn (by omega)) ?_)
        refine AD.mono (fun M1 z => ?_)
        obtain ⟨z1, z2⟩ := z
        have R := K 0 M1 (z1.wd (fun b j z => Or.inl z)) (rgC_st hc z1) cA.1 hk4 (fun _ => ⟨rfl, z2⟩) (fun w => absurd cS w)
        try simp (maxSteps := 2000000) only [↓reduceIte, wp_eq, wpd_eq, kont_eq, STP1, STP2, STP3, STP4, STP5, konM_eq, AMK, CZ, Option.map, List.getElem?_cons_zero, List.getElem?_cons_succ, List.mem_cons, List.not_mem_nil, if_false, if_true, Nat.reduceAdd, Nat.reduceLT, Nat.reduceLeDiff, Nat.reduceEqDiff, true_and, and_true, List.length_nil, List.length_cons, or_true, true_or, or_false, false_or, Option.some.injEq, Sum.inl.injEq, Sum.inr.injEq, exists_eq_left', exists_eq_left, Int.reduceLE, Int.reduceLT, Int.reduceNeg, Int.reduceAdd, Int.reduceMul, Int.reduceSub, Int.reduceToNat, inR, Nat.zero_ne_one, false_and, Nat.succ_ne_zero, reduceCtorEq, false_implies, true_implies, not_false_eq_true, not_true_eq_false, Int.reduceEq, KRE, C_Reader_readRings, FD]
        repeat (first | refine And.intro (by omega) ?_ | refine And.intro (fun _ _ => okt_nn (by omega)) ?_)
        all_goals first | exact R | exact ⟨by omega, R⟩
      · have q7 := eq_false (show ¬ M 1 7 = 3 by rw [h6]; exact fun z => cS (kd3.mp z))
        have q72 := eq_false (show ¬ M 1 7 = 2 by rw [h6]; exact fun z => cA.2 (kd2.mp z))
        have R := K 1 M FrP.rf hc cA.1 hk4 (fun w => absurd w cS) (fun _ => ⟨rfl, h4⟩)
        refine wpm_of (cuts := [6]) (by decide) 80 _ _ _ _ ?_
        simp (maxSteps := 2000000) only [↓reduceIte, wp_eq, wpd_eq, kont_eq, STP1, STP2, STP3, STP4, STP5, konM_eq, AMK, CZ, Option.map, List.getElem?_cons_zero, List.getElem?_cons_succ, List.mem_cons, List.not_mem_nil, if_false, if_true, Nat.reduceAdd, Nat.reduceLT, Nat.reduceLeDiff, Nat.reduceEqDiff, true_and, and_true, List.length_nil, List.length_cons, or_true, true_or, or_false, false_or, Option.some.injEq, Sum.inl.injEq, Sum.inr.injEq, exists_eq_left', exists_eq_left, Int.reduceLE, Int.reduceLT, Int.reduceNeg, Int.reduceAdd, Int.reduceMul, Int.reduceSub, Int.reduceToNat, inR, Nat.zero_ne_one, false_and, Nat.succ_ne_zero, reduceCtorEq, false_implies, true_implies, not_false_eq_true, not_true_eq_false, Int.reduceEq, KRE, C_Reader_readRings, FD, q24, q1, q7, q72]
        repeat (first | refine And.intro (by omega) ?_ | refine And.intro (fun _ _ => okt_nn (by omega)) ?_)
        all_goals first | exact R | exact ⟨by omega, R⟩
    · rw [if_neg cA] at K0 K1
      have go : WPm m_Reader_readRings Qc 31 [some (.inr 1), some (.inr (9 + 3 * n)), some (.inl (k : Int)), x3] [] M := by
        by_cases cN : tmK g E a = 2
        · have kc2 := kd2.mpr cN
          have q72 := eq_true (show M 1 7 = 2 by rw [h6]; exact kc2)
          by_cases cB : k = 24
          · rw [if_pos cB] at K0 K1
            have R := K1 (by show (2 : Int) ≠ 0; omega) M FrP.rf hc.1 h4
            have q := eq_true (show (k : Int) = 24 by omega)
            refine wpm_of (cuts := [6]) (by decide) 80 _ _ _ _ ?_
            simp (maxSteps := 2000000) only [↓reduceIte, wp_eq, wpd_eq, kont_eq, STP1, STP2, STP3, STP4, STP5, konM_eq, AMK, CZ, Option.map, List.getElem?_cons_zero, List.getElem?_cons_succ, List.mem_cons, List.not_mem_nil, if_false, if_true, Nat.reduceAdd, Nat.reduceLT, Nat.reduceLeDiff, Nat.reduceEqDiff, true_and, and_true, List.length_nil, List.length_cons, or_true, true_or, or_false, false_or, Option.some.injEq, Sum.inl.injEq, Sum.inr.injEq, exists_eq_left', exists_eq_left, Int.reduceLE, Int.reduceLT, Int.reduceNeg, Int.reduceAdd, Int.reduceMul, Int.reduceSub, Int.reduceToNat, inR, Nat.zero_ne_one, false_and, Nat.succ_ne_zero, reduceCtorEq, false_implies, true_implies, not_false_eq_true, not_true_eq_false, Int.reduceEq, KRE, C_Reader_readRings, FD, q72, q]
            repeat (first | refine And.intro (by omega) ?_ | refine And.intro (fun _ _ => okt_nn (by omega)) ?_)
            all_goals first | exact R | exact ⟨by omega, R⟩
          · rw [if_neg cB] at K0 K1
            have q := eq_false (show ¬ (k : Int) = 24 by omega)
            obtain ⟨n8, n9, n10⟩ := h7 kc2
            have eD := tmS_D cN
            have hs := tmS_le (g := g) hE ha
            have es : M 1 6 - M 1 5 = (tkD g E a : Int) := by omega
            have eF : nmF g E a 1 99 = if 3 < tkD g E a ∨ nmN g E a < 1 ∨ 99 < nmN g E a then 2 else 0 := if_neg (fun z => z cN)
            by_cases cF : nmF g E a 1 99 = 0
            · rw [if_neg (fun z => z cF)] at K0 K1
              have nb : 1 ≤ nmN g E a ∧ nmN g E a ≤ 99 := nmN_in cF
              have d3 : ¬ 3 < tkD g E a := fun z => by rw [if_pos (Or.inl z)] at eF; omega
              have r1 := eq_false (show ¬ (3 : Int) < (tkD g E a : Int) by omega)
              have r2 := eq_false (show ¬ nmN g E a < 1 by omega)
              have r3 := eq_true (show nmN g E a ≤ 99 by omega)
              refine wpm_of (cuts := [6]) (by decide) 80 _ _ _ _ ?_
              simp (maxSteps := 2000000) only [↓reduceIte, wp_eq, wpd_eq, kont_eq, STP1, STP2, STP3, STP4, STP5, konM_eq, AMK, CZ, Option.map, List.getElem?_cons_zero, List.getElem?_cons_succ, List.mem_cons, List.not_mem_nil, if_false, if_true, Nat.reduceAdd, Nat.reduceLT, Nat.reduceLeDiff, Nat.reduceEqDiff, true_and, and_true, List.length_nil, List.length_cons, or_true, true_or, or_false, false_or, Option.some.injEq, Sum.inl.injEq, Sum.inr.injEq, exists_eq_left', exists_eq_left, Int.reduceLE, Int.reduceLT, Int.reduceNeg, Int.reduceAdd, Int.reduceMul, Int.reduceSub, Int.reduceToNat, inR, Nat.zero_ne_one, false_and, Nat.succ_ne_zero, reduceCtorEq, false_implies, true_implies, not_false_eq_true, not_true_eq_false, Int.reduceEq, KRE, C_Reader_readRings, FD, q72, q, es, r1, n8, r2, r3]
              repeat (first | refine And.intro (by omega) ?_ | refine And.intro (fun _ _ => okt_nn (by omega)) ?_)
              refine AD.mono (fun M1 z => ?_)
              obtain ⟨z1, z2⟩ := z
              have C1 := rgC_st hc z1
              have F1 : FrP (rgCP n) M M1 := z1.wd (fun b j z => Or.inl z)
              have o2 : M1 (9 + 3 * n) 2 = (k : Int) := C1.2.1
              have wT := wfS_T C1.1 hn
              have t7 := z2.2.2.2.2.2.1
              obtain ⟨-, -, -, e4, -, eA, eB⟩ := kd_all g E (nxT g E a)
              have AR : ∀ y, (y = 0 ∨ y = 1) → CallV m_Timber_addRing [.inr (9 + 3 * n), .inl (nmN g E a), .inl y] M1 (fun M' => M' = mRg M1 n k (nmN g E a) y) := fun y hy => by
                have A := Timber_addRing_ok (o := 9 + 3 * n) (x := nmN g E a) (y := y) (isT hn) wT hy
                rw [o2, if_pos (by omega), show 9 + 3 * n + 1 = 10 + 3 * n by omega, show 9 + 3 * n + 2 = 11 + 3 * n by omega, show ((k : Nat) : Int).toNat = k from rfl] at A
                exact A
              have kcT : kc (lay (9 + 3 * n)) 9 = True := by rw [(isT hn).1]; exact eq_true rfl
              have em : ∀ y b j, b < 9 → mRg M1 n k (nmN g E a) y b j = M1 b j := fun y b j hb => by
                unfold mRg
                simp only [mset]
                rw [if_neg (by omega), if_neg (by omega), if_neg (by omega)]
              by_cases cQ : tmK g E (nxT g E a) = 3 ∧ g (nxT g E a) = 63
              · rw [if_pos cQ] at K0 K1
                have k41 : M1 1 7 = 4 := by rw [t7]; exact e4.mpr cQ
                have p7 := eq_true k41
                have i73 := (em 1 1 7 (by omega)).trans k41
                have p73 := eq_true i73
                obtain ⟨G1, G2⟩ := mRg_ok (w := nmN g E a) (y := 1) hn (by omega) C1 nb (Or.inr rfl) true rfl _ rfl
                have T3 : tsC (mRg M1 n k (nmN g E a) 1) g E (nxT g E a) := tsC_mv z2 (fun b j z => em _ _ _ (by omega))
                try simp (maxSteps := 2000000) only [↓reduceIte, wp_eq, wpd_eq, kont_eq, STP1, STP2, STP3, STP4, STP5, konM_eq, AMK, CZ, Option.map, List.getElem?_cons_zero, List.getElem?_cons_succ, List.mem_cons, List.not_mem_nil, if_false, if_true, Nat.reduceAdd, Nat.reduceLT, Nat.reduceLeDiff, Nat.reduceEqDiff, true_and, and_true, List.length_nil, List.length_cons, or_true, true_or, or_false, false_or, Option.some.injEq, Sum.inl.injEq, Sum.inr.injEq, exists_eq_left', exists_eq_left, Int.reduceLE, Int.reduceLT, Int.reduceNeg, Int.reduceAdd, Int.reduceMul, Int.reduceSub, Int.reduceToNat, inR, Nat.zero_ne_one, false_and, Nat.succ_ne_zero, reduceCtorEq, false_implies, true_implies, not_false_eq_true, not_true_eq_false, Int.reduceEq, KRE, C_Reader_readRings, FD, p7, kcT]
                repeat (first | refine And.intro (by omega) ?_ | refine And.intro (fun _ _ => okt_nn (by omega)) ?_)
                refine (AR 1 (Or.inr rfl)).eq ?_
                try simp (maxSteps := 2000000) only [↓reduceIte, wp_eq, wpd_eq, kont_eq, STP1, STP2, STP3, STP4, STP5, konM_eq, AMK, CZ, Option.map, List.getElem?_cons_zero, List.getElem?_cons_succ, List.mem_cons, List.not_mem_nil, if_false, if_true, Nat.reduceAdd, Nat.reduceLT, Nat.reduceLeDiff, Nat.reduceEqDiff, true_and, and_true, List.length_nil, List.length_cons, or_true, true_or, or_false, false_or, Option.some.injEq, Sum.inl.injEq, Sum.inr.injEq, exists_eq_left', exists_eq_left, Int.reduceLE, Int.reduceLT, Int.reduceNeg, Int.reduceAdd, Int.reduceMul, Int.reduceSub, Int.reduceToNat, inR, Nat.zero_ne_one, false_and, Nat.succ_ne_zero, reduceCtorEq, false_implies, true_implies, not_false_eq_true, not_true_eq_false, Int.reduceEq, KRE, C_Reader_readRings, FD, p73]
                repeat (first | refine And.intro (by omega) ?_ | refine And.intro (fun _ _ => okt_nn (by omega)) ?_)
                refine (advC_ok T3 hE b9).mono (fun M4 w => ?_)
                obtain ⟨w1, w2⟩ := w
                have F4 : FrP (rgCP n) M M4 := (F1.tr G1).tr (w1.wd (fun b j z => Or.inl z))
                have R := IH (k + 1) (nxT g E (nxT g E a)) _ M4 (some (.inl (nmN g E a))) (by omega) (by omega) (nxT_le hE b9) w2 (rgC_st G2 w1) (fun w x M' y1 => K0 w x M' (F4.tr y1)) (fun w M' y1 => K1 w M' (F4.tr y1))
                rw [show ((k + 1 : Nat) : Int) = (k : Int) + 1 by omega] at R
                try simp (maxSteps := 2000000) only [↓reduceIte, wp_eq, wpd_eq, kont_eq, STP1, STP2, STP3, STP4, STP5, konM_eq, AMK, CZ, Option.map, List.getElem?_cons_zero, List.getElem?_cons_succ, List.mem_cons, List.not_mem_nil, if_false, if_true, Nat.reduceAdd, Nat.reduceLT, Nat.reduceLeDiff, Nat.reduceEqDiff, true_and, and_true, List.length_nil, List.length_cons, or_true, true_or, or_false, false_or, Option.some.injEq, Sum.inl.injEq, Sum.inr.injEq, exists_eq_left', exists_eq_left, Int.reduceLE, Int.reduceLT, Int.reduceNeg, Int.reduceAdd, Int.reduceMul, Int.reduceSub, Int.reduceToNat, inR, Nat.zero_ne_one, false_and, Nat.succ_ne_zero, reduceCtorEq, false_implies, true_implies, not_false_eq_true, not_true_eq_false, Int.reduceEq, KRE, C_Reader_readRings, FD]
                repeat (first | refine And.intro (by omega) ?_ | refine And.intro (fun _ _ => okt_nn (by omega)) ?_)
                exact R
              · rw [if_neg cQ] at K0 K1
                have k41 : ¬ M1 1 7 = 4 := by rw [t7]; exact fun z => cQ (e4.mp z)
                have p7 := eq_false k41
                have p73 := eq_false (show ¬ mRg M1 n k (nmN g E a) 0 1 7 = 4 by rw [em 0 1 7 (by omega)]; exact k41)
                have i7 : mRg M1 n k (nmN g E a) 0 1 7 = M1 1 7 := em 0 1 7 (by omega)
                obtain ⟨G1, G2⟩ := mRg_ok (w := nmN g E a) (y := 0) hn (by omega) C1 nb (Or.inl rfl) false rfl _ rfl
                have T3 : tsC (mRg M1 n k (nmN g E a) 0) g E (nxT g E a) := tsC_mv z2 (fun b j z => em _ _ _ (by omega))
                have F4 : FrP (rgCP n) M (mRg M1 n k (nmN g E a) 0) := F1.tr G1
                have R := IH (k + 1) (nxT g E a) _ _ (some (.inl (nmN g E a))) (by omega) (by omega) b9 T3 G2 (fun w x M' y1 => K0 w x M' (F4.tr y1)) (fun w M' y1 => K1 w M' (F4.tr y1))
                rw [show ((k + 1 : Nat) : Int) = (k : Int) + 1 by omega] at R
                try simp (maxSteps := 2000000) only [↓reduceIte, wp_eq, wpd_eq, kont_eq, STP1, STP2, STP3, STP4, STP5, konM_eq, AMK, CZ, Option.map, List.getElem?_cons_zero, List.getElem?_cons_succ, List.mem_cons, List.not_mem_nil, if_false, if_true, Nat.reduceAdd, Nat.reduceLT, Nat.reduceLeDiff, Nat.reduceEqDiff, true_and, and_true, List.length_nil, List.length_cons, or_true, true_or, or_false, false_or, Option.some.injEq, Sum.inl.injEq, Sum.inr.injEq, exists_eq_left', exists_eq_left, Int.reduceLE, Int.reduceLT, Int.reduceNeg, Int.reduceAdd, Int.reduceMul, Int.reduceSub, Int.reduceToNat, inR, Nat.zero_ne_one, false_and, Nat.succ_ne_zero, reduceCtorEq, false_implies, true_implies, not_false_eq_true, not_true_eq_false, Int.reduceEq, KRE, C_Reader_readRings, FD, p7, kcT]
                repeat (first | refine And.intro (by omega) ?_ | refine And.intro (fun _ _ => okt_nn (by omega)) ?_)
                refine (AR 0 (Or.inl rfl)).eq ?_
                try simp (maxSteps := 2000000) only [↓reduceIte, wp_eq, wpd_eq, kont_eq, STP1, STP2, STP3, STP4, STP5, konM_eq, AMK, CZ, Option.map, List.getElem?_cons_zero, List.getElem?_cons_succ, List.mem_cons, List.not_mem_nil, if_false, if_true, Nat.reduceAdd, Nat.reduceLT, Nat.reduceLeDiff, Nat.reduceEqDiff, true_and, and_true, List.length_nil, List.length_cons, or_true, true_or, or_false, false_or, Option.some.injEq, Sum.inl.injEq, Sum.inr.injEq, exists_eq_left', exists_eq_left, Int.reduceLE, Int.reduceLT, Int.reduceNeg, Int.reduceAdd, Int.reduceMul, Int.reduceSub, Int.reduceToNat, inR, Nat.zero_ne_one, false_and, Nat.succ_ne_zero, reduceCtorEq, false_implies, true_implies, not_false_eq_true, not_true_eq_false, Int.reduceEq, KRE, C_Reader_readRings, FD, p73]
                repeat (first | refine And.intro (by omega) ?_ | refine And.intro (fun _ _ => okt_nn (by omega)) ?_)
                exact R
            · rw [if_pos cF] at K0 K1
              have R := K1 cF M FrP.rf hc.1 h4
              have e2 : nmF g E a 1 99 = 2 := by
                rw [eF] at cF ⊢
                split at cF
                · rename_i c; exact if_pos c
                · exact absurd rfl cF
              rw [show (nmF g E a 1 99, a, k, f).1 = nmF g E a 1 99 from rfl, e2] at R
              rw [e2] at eF
              by_cases d3 : 3 < tkD g E a
              · have r1 := eq_true (show (3 : Int) < (tkD g E a : Int) by omega)
                refine wpm_of (cuts := [6]) (by decide) 80 _ _ _ _ ?_
                simp (maxSteps := 2000000) only [↓reduceIte, wp_eq, wpd_eq, kont_eq, STP1, STP2, STP3, STP4, STP5, konM_eq, AMK, CZ, Option.map, List.getElem?_cons_zero, List.getElem?_cons_succ, List.mem_cons, List.not_mem_nil, if_false, if_true, Nat.reduceAdd, Nat.reduceLT, Nat.reduceLeDiff, Nat.reduceEqDiff, true_and, and_true, List.length_nil, List.length_cons, or_true, true_or, or_false, false_or, Option.some.injEq, Sum.inl.injEq, Sum.inr.injEq, exists_eq_left', exists_eq_left, Int.reduceLE, Int.reduceLT, Int.reduceNeg, Int.reduceAdd, Int.reduceMul, Int.reduceSub, Int.reduceToNat, inR, Nat.zero_ne_one, false_and, Nat.succ_ne_zero, reduceCtorEq, false_implies, true_implies, not_false_eq_true, not_true_eq_false, Int.reduceEq, KRE, C_Reader_readRings, FD, q72, q, es, r1]
                repeat (first | refine And.intro (by omega) ?_ | refine And.intro (fun _ _ => okt_nn (by omega)) ?_)
                all_goals first | exact R | exact ⟨by omega, R⟩
              · have r1 := eq_false (show ¬ (3 : Int) < (tkD g E a : Int) by omega)
                by_cases d4 : nmN g E a < 1
                · have r2 := eq_true d4
                  refine wpm_of (cuts := [6]) (by decide) 80 _ _ _ _ ?_
                  simp (maxSteps := 2000000) only [↓reduceIte, wp_eq, wpd_eq, kont_eq, STP1, STP2, STP3, STP4, STP5, konM_eq, AMK, CZ, Option.map, List.getElem?_cons_zero, List.getElem?_cons_succ, List.mem_cons, List.not_mem_nil, if_false, if_true, Nat.reduceAdd, Nat.reduceLT, Nat.reduceLeDiff, Nat.reduceEqDiff, true_and, and_true, List.length_nil, List.length_cons, or_true, true_or, or_false, false_or, Option.some.injEq, Sum.inl.injEq, Sum.inr.injEq, exists_eq_left', exists_eq_left, Int.reduceLE, Int.reduceLT, Int.reduceNeg, Int.reduceAdd, Int.reduceMul, Int.reduceSub, Int.reduceToNat, inR, Nat.zero_ne_one, false_and, Nat.succ_ne_zero, reduceCtorEq, false_implies, true_implies, not_false_eq_true, not_true_eq_false, Int.reduceEq, KRE, C_Reader_readRings, FD, q72, q, es, r1, n8, r2]
                  repeat (first | refine And.intro (by omega) ?_ | refine And.intro (fun _ _ => okt_nn (by omega)) ?_)
                  all_goals first | exact R | exact ⟨by omega, R⟩
                · have r2 := eq_false d4
                  have r3 := eq_false (show ¬ nmN g E a ≤ 99 by
                    intro z
                    rw [if_neg (by omega)] at eF
                    omega)
                  refine wpm_of (cuts := [6]) (by decide) 80 _ _ _ _ ?_
                  simp (maxSteps := 2000000) only [↓reduceIte, wp_eq, wpd_eq, kont_eq, STP1, STP2, STP3, STP4, STP5, konM_eq, AMK, CZ, Option.map, List.getElem?_cons_zero, List.getElem?_cons_succ, List.mem_cons, List.not_mem_nil, if_false, if_true, Nat.reduceAdd, Nat.reduceLT, Nat.reduceLeDiff, Nat.reduceEqDiff, true_and, and_true, List.length_nil, List.length_cons, or_true, true_or, or_false, false_or, Option.some.injEq, Sum.inl.injEq, Sum.inr.injEq, exists_eq_left', exists_eq_left, Int.reduceLE, Int.reduceLT, Int.reduceNeg, Int.reduceAdd, Int.reduceMul, Int.reduceSub, Int.reduceToNat, inR, Nat.zero_ne_one, false_and, Nat.succ_ne_zero, reduceCtorEq, false_implies, true_implies, not_false_eq_true, not_true_eq_false, Int.reduceEq, KRE, C_Reader_readRings, FD, q72, q, es, r1, n8, r2, r3]
                  repeat (first | refine And.intro (by omega) ?_ | refine And.intro (fun _ _ => okt_nn (by omega)) ?_)
                  all_goals first | exact R | exact ⟨by omega, R⟩
        · have eF : nmF g E a 1 99 = 1 := if_pos cN
          rw [if_neg (show ¬ k = 24 by omega), if_pos (by omega)] at K0 K1
          have R := K1 (by show nmF g E a 1 99 ≠ 0; omega) M FrP.rf hc.1 h4
          rw [show (nmF g E a 1 99, a, k, f).1 = nmF g E a 1 99 from rfl, eF] at R
          have q72 := eq_false (show ¬ M 1 7 = 2 by rw [h6]; exact fun z => cN (kd2.mp z))
          refine wpm_of (cuts := [6]) (by decide) 80 _ _ _ _ ?_
          simp (maxSteps := 2000000) only [↓reduceIte, wp_eq, wpd_eq, kont_eq, STP1, STP2, STP3, STP4, STP5, konM_eq, AMK, CZ, Option.map, List.getElem?_cons_zero, List.getElem?_cons_succ, List.mem_cons, List.not_mem_nil, if_false, if_true, Nat.reduceAdd, Nat.reduceLT, Nat.reduceLeDiff, Nat.reduceEqDiff, true_and, and_true, List.length_nil, List.length_cons, or_true, true_or, or_false, false_or, Option.some.injEq, Sum.inl.injEq, Sum.inr.injEq, exists_eq_left', exists_eq_left, Int.reduceLE, Int.reduceLT, Int.reduceNeg, Int.reduceAdd, Int.reduceMul, Int.reduceSub, Int.reduceToNat, inR, Nat.zero_ne_one, false_and, Nat.succ_ne_zero, reduceCtorEq, false_implies, true_implies, not_false_eq_true, not_true_eq_false, Int.reduceEq, KRE, C_Reader_readRings, FD, q72]
          repeat (first | refine And.intro (by omega) ?_ | refine And.intro (fun _ _ => okt_nn (by omega)) ?_)
          all_goals first | exact R | exact ⟨by omega, R⟩
      by_cases c3 : (k : Int) < 3
      · refine wpm_of (cuts := [6, 31]) (by decide) 80 _ _ _ _ ?_
        simp (maxSteps := 2000000) only [↓reduceIte, wp_eq, wpd_eq, kont_eq, STP1, STP2, STP3, STP4, STP5, konM_eq, AMK, CZ, Option.map, List.getElem?_cons_zero, List.getElem?_cons_succ, List.mem_cons, List.not_mem_nil, if_false, if_true, Nat.reduceAdd, Nat.reduceLT, Nat.reduceLeDiff, Nat.reduceEqDiff, true_and, and_true, List.length_nil, List.length_cons, or_true, true_or, or_false, false_or, Option.some.injEq, Sum.inl.injEq, Sum.inr.injEq, exists_eq_left', exists_eq_left, Int.reduceLE, Int.reduceLT, Int.reduceNeg, Int.reduceAdd, Int.reduceMul, Int.reduceSub, Int.reduceToNat, inR, Nat.zero_ne_one, false_and, Nat.succ_ne_zero, reduceCtorEq, false_implies, true_implies, not_false_eq_true, not_true_eq_false, Int.reduceEq, KRE, C_Reader_readRings, FD, q24, c3]
        repeat (first | refine And.intro (by omega) ?_ | refine And.intro (fun _ _ => okt_nn (by omega)) ?_)
        exact go
      · have c3' := eq_false c3
        have q7 := eq_false (show ¬ M 1 7 = 3 by rw [h6]; intro z; have := kd3.mp z; omega)
        refine wpm_of (cuts := [6, 31]) (by decide) 80 _ _ _ _ ?_
        simp (maxSteps := 2000000) only [↓reduceIte, wp_eq, wpd_eq, kont_eq, STP1, STP2, STP3, STP4, STP5, konM_eq, AMK, CZ, Option.map, List.getElem?_cons_zero, List.getElem?_cons_succ, List.mem_cons, List.not_mem_nil, if_false, if_true, Nat.reduceAdd, Nat.reduceLT, Nat.reduceLeDiff, Nat.reduceEqDiff, true_and, and_true, List.length_nil, List.length_cons, or_true, true_or, or_false, false_or, Option.some.injEq, Sum.inl.injEq, Sum.inr.injEq, exists_eq_left', exists_eq_left, Int.reduceLE, Int.reduceLT, Int.reduceNeg, Int.reduceAdd, Int.reduceMul, Int.reduceSub, Int.reduceToNat, inR, Nat.zero_ne_one, false_and, Nat.succ_ne_zero, reduceCtorEq, false_implies, true_implies, not_false_eq_true, not_true_eq_false, Int.reduceEq, KRE, C_Reader_readRings, FD, q24, c3', q7]
        repeat (first | refine And.intro (by omega) ?_ | refine And.intro (fun _ _ => okt_nn (by omega)) ?_)
        exact go
def rgQ (M0 : Mm) (g f0 : Nat → Int) (E n : Nat) (S : Int × Nat × Nat × (Nat → Int)) (x : Int) (M' : Mm) : Prop := FrP (rgCP n) M0 M' ∧ wfS M' 3 ∧ (S.1 = 0 → (rgC M' f0 S.2.2.2 n S.2.2.1 ∧ 3 ≤ S.2.2.1 ∧ S.2.2.1 ≤ 24) ∧ ((tmK g E S.2.1 = 3 ∧ g S.2.1 = 59) → x = 0 ∧ tsC M' g E (nxT g E S.2.1)) ∧ (¬ (tmK g E S.2.1 = 3 ∧ g S.2.1 = 59) → x = 1 ∧ M' 1 5 = (S.2.1 : Int))) ∧ (S.1 ≠ 0 → x = S.1 ∧ M' 1 5 = (S.2.1 : Int))
set_option maxHeartbeats 600000 in
set_option maxRecDepth 20000 in
theorem readRingsC_ok {M : Mm} {g f0 : Nat → Int} {E n c : Nat} (hp : oct g E) (hE : E ≤ 900) (hc : c ≤ 900) (hn : n < 8) (h : tsC M g E c) (C : rgC M f0 f0 n 0) : CallI m_Reader_readRings [.inr 1, .inr (9 + 3 * n)] M (fun x M' => rgQ M g f0 E n (rgS g E n 25 0 (nxT g E c) f0) x M') := by
  have c9 := nxT_le (g := g) hE hc
  refine callP_of (by decide) (by decide) (Nat.le_of_ble_eq_true rfl) (wpm_of (cuts := [6]) (by decide) 30 _ _ _ _ ?_)
  rw [show lM m_Reader_readRings = 4 from rfl]
  simp (maxSteps := 2000000) only [↓reduceIte, wp_eq, wpd_eq, kont_eq, STP1, STP2, STP3, STP4, STP5, konM_eq, AMK, CZ, Option.map, List.getElem?_cons_zero, List.getElem?_cons_succ, List.mem_cons, List.not_mem_nil, if_false, if_true, Nat.reduceAdd, Nat.reduceLT, Nat.reduceLeDiff, Nat.reduceEqDiff, true_and, and_true, List.length_nil, List.length_cons, or_true, true_or, or_false, false_or, Option.some.injEq, Sum.inl.injEq, Sum.inr.injEq, exists_eq_left', exists_eq_left, Int.reduceLE, Int.reduceLT, Int.reduceNeg, Int.reduceAdd, Int.reduceMul, Int.reduceSub, Int.reduceToNat, inR, Nat.zero_ne_one, false_and, Nat.succ_ne_zero, reduceCtorEq, false_implies, true_implies, not_false_eq_true, not_true_eq_false, Int.reduceEq, KRE, C_Reader_readRings, FD]
  repeat (first | refine And.intro (by omega) ?_ | refine And.intro (fun _ _ => okt_nn (by omega)) ?_)
  refine (advC_ok h hE hc).mono (fun M1 w => ?_)
  obtain ⟨w1, w2⟩ := w
  have F1 : FrP (rgCP n) M M1 := w1.wd (fun b j z => Or.inl z)
  have R := ringsC (f0 := f0) (Qc := fun v M' => ∃ x, v = some (.inl x) ∧ rgQ M g f0 E n (rgS g E n 25 0 (nxT g E c) f0) x M') (x3 := none) hp hE hn 25 0 (nxT g E c) f0 M1 (by omega) (by omega) c9 w2 (rgC_st C w1)
    (fun z x M' y1 y2 y3 y4 y5 y6 => ⟨x, rfl, F1.tr y1, y2.1, fun _ => ⟨⟨y2, y3, y4⟩, y5, y6⟩, fun w => absurd z w⟩)
    (fun z M' y1 y2 y3 => ⟨_, rfl, F1.tr y1, y2, fun w => absurd w z, fun _ => ⟨rfl, y3⟩⟩)
  rw [show ((0 : Nat) : Int) = 0 from rfl] at R
  try simp (maxSteps := 2000000) only [↓reduceIte, wp_eq, wpd_eq, kont_eq, STP1, STP2, STP3, STP4, STP5, konM_eq, AMK, CZ, Option.map, List.getElem?_cons_zero, List.getElem?_cons_succ, List.mem_cons, List.not_mem_nil, if_false, if_true, Nat.reduceAdd, Nat.reduceLT, Nat.reduceLeDiff, Nat.reduceEqDiff, true_and, and_true, List.length_nil, List.length_cons, or_true, true_or, or_false, false_or, Option.some.injEq, Sum.inl.injEq, Sum.inr.injEq, exists_eq_left', exists_eq_left, Int.reduceLE, Int.reduceLT, Int.reduceNeg, Int.reduceAdd, Int.reduceMul, Int.reduceSub, Int.reduceToNat, inR, Nat.zero_ne_one, false_and, Nat.succ_ne_zero, reduceCtorEq, false_implies, true_implies, not_false_eq_true, not_true_eq_false, Int.reduceEq, KRE, C_Reader_readRings, FD]
  repeat (first | refine And.intro (by omega) ?_ | refine And.intro (fun _ _ => okt_nn (by omega)) ?_)
  exact R
/-- a timber more in the draft -/
def mAd (M : Mm) (n : Nat) (l m : Int) : Mm := mset (mset (mset (mset (mset M 3 3 ((n : Int) + 1)) (9 + 3 * n) 2 0) (9 + 3 * n) 3 l) (9 + 3 * n) 4 m) (9 + 3 * n) 5 0
theorem mAd_o {M : Mm} {n : Nat} {l m : Int} {b j : Nat} (h1 : ¬ (b = 3 ∧ j = 3)) (h2 : b ≠ 9 + 3 * n) : mAd M n l m b j = M b j := by
  unfold mAd
  simp only [mset]
  rw [if_neg (by omega), if_neg (by omega), if_neg (by omega), if_neg (by omega), if_neg h1]
theorem mAd_f {M : Mm} {n : Nat} {l m : Int} : mAd M n l m 3 3 = (n : Int) + 1 ∧ mAd M n l m (9 + 3 * n) 2 = 0 ∧ mAd M n l m (9 + 3 * n) 3 = l ∧ mAd M n l m (9 + 3 * n) 4 = m ∧ mAd M n l m (9 + 3 * n) 5 = 0 := by
  unfold mAd
  refine ⟨?_, by simp [mset], by simp [mset], by simp [mset], by simp [mset]⟩
  exact (if_neg (by omega)).trans ((if_neg (by omega)).trans ((if_neg (by omega)).trans ((if_neg (by omega)).trans (if_pos ⟨rfl, rfl⟩))))
theorem wfS_ad {M : Mm} {n : Nat} {l m : Int} (w : wfS M 3) (hn : n < 8) (hl : 0 ≤ l ∧ l ≤ 30) (hm : 0 ≤ m ∧ m ≤ 30) : wfS (mAd M n l m) 3 := by
  obtain ⟨w0, w1, w2, w3, w4, w5, w6⟩ := w
  obtain ⟨a3, a2, al, am, a5⟩ := mAd_f (M := M) (n := n) (l := l) (m := m)
  refine ⟨by rw [a3]; omega, by rw [mAd_o (by omega) (by omega)]; exact w1, by rw [mAd_o (by omega) (by omega)]; exact w2, by rw [mAd_o (by omega) (by omega)]; exact w3, fun t ht => ?_, wfT_cells (fun b p1 p2 j => mAd_o (by omega) (by omega)) w5, fun t ht => by rw [mAd_o (by omega) (by omega)]; exact w6 t ht⟩
  by_cases c : t = n
  · subst c
    obtain ⟨u0, u1, u2, u3, u4, u5⟩ := w4 t ht
    show wfT (mAd M t l m) (9 + 3 * t)
    refine ⟨by rw [a2]; omega, fun j hj => by rw [mAd_o (by omega) (by omega)]; exact u1 j hj, fun j hj => by rw [mAd_o (by omega) (by omega)]; exact u2 j hj, by rw [al]; exact hl, by rw [am]; exact hm, by rw [a5]; omega⟩
  · exact wfT_cells (fun b p1 p2 j => mAd_o (by omega) (by omega)) (w4 t ht)
/-- the row when timber n begins -/
def f0T (f : Nat → Int) (n : Nat) (l m : Int) : Nat → Int := updI (updI (updI (clrR f n 30) (30 * n + 4) (-1)) (30 * n + 1) l) (30 * n + 2) m
theorem f0T_o {f : Nat → Int} {n : Nat} {l m : Int} {j : Nat} (h : j < 30 * n) : f0T f n l m j = f j := by
  unfold f0T updI clrR
  rw [if_neg (by omega), if_neg (by omega), if_neg (by omega), if_neg (by omega)]
theorem f0T_n {f : Nat → Int} {n : Nat} {l m : Int} : f0T f n l m (30 * n + 1) = l ∧ f0T f n l m (30 * n + 2) = m ∧ f0T f n l m (30 * n + 3) = 0 ∧ f0T f n l m (30 * n + 4) = -1 ∧ f0T f n l m (30 * n + 5) = 0 := by
  unfold f0T updI clrR
  refine ⟨?_, ?_, ?_, ?_, ?_⟩
  · rw [if_neg (by omega), if_pos (by omega)]
  · rw [if_pos (by omega)]
  · rw [if_neg (by omega), if_neg (by omega), if_neg (by omega), if_pos (by omega)]
  · rw [if_neg (by omega), if_neg (by omega), if_pos (by omega)]
  · rw [if_neg (by omega), if_neg (by omega), if_neg (by omega), if_pos (by omega)]
theorem vT_cg {f f' : Nat → Int} {t : Nat} (h : ∀ k, k < 30 → f' (30 * t + k) = f (30 * t + k)) (hl : f (30 * t) ≤ 24) : vT f' t = vT f t ∧ vY f' t = vY f t ∧ vH f' t = vH f t ∧ f' (30 * t + 1) = f (30 * t + 1) ∧ f' (30 * t + 2) = f (30 * t + 2) :=
  ⟨mRw_eq (fun k hk _ => h k hk) hl, h 4 (by omega), h 3 (by omega), h 1 (by omega), h 2 (by omega)⟩
theorem vT_len {f : Nat → Int} {t : Nat} : (vT f t).2.1 = f (30 * t) := rfl
/-- the draft when timber n's rings are read -/
theorem drC_new {M M2 M' : Mm} {f f3 r : Nat → Int} {n k : Nat} {l m kb hb : Int} (hn : n < 8) (h0 : r 0 = n) (D : drC M f r kb hb) (e2 : FrP stC M M2) (F : FrP (rgCP n) (mAd M2 n l m) M') (C : rgC M' (f0T f n l m) f3 n k) (hk : 3 ≤ k ∧ k ≤ 24) (hl : 0 ≤ l ∧ l ≤ 30) (hm : 0 ≤ m ∧ m ≤ 30) : drC M' (updI f3 (30 * n) k) (updI r 0 (r 0 + 1)) kb hb := by
  obtain ⟨d1, d2, d3, d4, d5, d6⟩ := D
  obtain ⟨c1, c2, c3, c4, c5, c6⟩ := C
  obtain ⟨a3, a2, al, am, a5⟩ := mAd_f (M := M2) (n := n) (l := l) (m := m)
  obtain ⟨q1, q2, q3, q4, q5⟩ := f0T_n (f := f) (n := n) (l := l) (m := m)
  have nn : (r 0).toNat = n := by omega
  rw [nn] at d4 d5 d6
  have r0 : updI r 0 (r 0 + 1) 0 = (n : Int) + 1 := by simp only [updI, if_true]; omega
  have rj : ∀ j, j ≠ 0 → updI r 0 (r 0 + 1) j = r j := fun j hj => if_neg hj
  have nn1 : (updI r 0 (r 0 + 1) 0).toNat = n + 1 := by rw [r0]; omega
  have oM : ∀ b j, ¬ (b = 3 ∧ j = 3) → b ≠ 9 + 3 * n → b ≠ 10 + 3 * n → b ≠ 11 + 3 * n → ¬ stC b j → M' b j = M b j := fun b j z1 z2 z3 z4 z5 => (F b j (fun w => by unfold rgCP at w; rcases w with w | w | w | w; exact z5 w; exact z2 w.1; exact z3 w; exact z4 w)).trans ((mAd_o z1 z2).trans (e2 b j z5))
  have F' : ∀ j, updI f3 (30 * n) k j = if j = 30 * n then (k : Int) else f3 j := fun j => rfl
  have fo : ∀ j, j < 30 * n → updI f3 (30 * n) k j = f j := fun j hj => by
    rw [F', if_neg (by omega), c6 j (by omega), f0T_o hj]
  have fn0 : updI f3 (30 * n) k (30 * n) = k := by rw [F', if_pos rfl]
  have fnj : ∀ j, j ≠ 0 → updI f3 (30 * n) k (30 * n + j) = f3 (30 * n + j) := fun j hj => by rw [F', if_neg (by omega)]
  have f6 : ∀ j, updI f3 (30 * n) k (30 * n + 6 + j) = f3 (30 * n + 6 + j) := fun j => by rw [F', if_neg (by omega)]
  have g1 := (fnj 1 (by omega)).trans ((c6 _ (by omega)).trans q1)
  have g2 := (fnj 2 (by omega)).trans ((c6 _ (by omega)).trans q2)
  have g3 := (fnj 3 (by omega)).trans ((c6 _ (by omega)).trans q3)
  have g4 := (fnj 4 (by omega)).trans ((c6 _ (by omega)).trans q4)
  have g5 := fnj 5 (by omega)
  generalize updI f3 (30 * n) k = F3 at *
  have cg : ∀ t, t < n → vT F3 t = vT f t ∧ vY F3 t = vY f t ∧ vH F3 t = vH f t ∧ F3 (30 * t + 1) = f (30 * t + 1) ∧ F3 (30 * t + 2) = f (30 * t + 2) := fun t ht => vT_cg (fun i hi => fo _ (by omega)) (by
    have := (d5 t ht).1.1
    rw [vT_len] at this
    omega)
  have tN : tRw M' (9 + 3 * n) = vT F3 n := by
    unfold tRw vT mRw
    rw [c2, fn0, g5]
    refine Prod.ext (funext fun j => ?_) (Prod.ext rfl (funext fun j => ?_))
    · show (if (j : Int) < (k : Int) then M' (9 + 3 * n + 1) j else 0) = if (j : Int) < (k : Int) then F3 (30 * n + 6 + j) else 0
      by_cases hj : (j : Int) < (k : Int)
      · rw [if_pos hj, if_pos hj, show 9 + 3 * n + 1 = 10 + 3 * n by omega, f6]
        exact (c3 j (by omega)).1.1
      · rw [if_neg hj, if_neg hj]
    · show (if (j : Int) < (k : Int) then M' (9 + 3 * n + 2) j else 0) = if (j : Int) < (k : Int) then (if btI (f3 (30 * n + 5)) j = true then 1 else 0) else 0
      by_cases hj : (j : Int) < (k : Int)
      · rw [if_pos hj, if_pos hj, show 9 + 3 * n + 2 = 11 + 3 * n by omega]
        exact (c3 j (by omega)).2
      · rw [if_neg hj, if_neg hj]
  have o9 : ∀ j, j ≠ 2 → M' (9 + 3 * n) j = mAd M2 n l m (9 + 3 * n) j := fun j hj => F _ _ (by unfold rgCP stC; omega)
  refine ⟨c1, ⟨?_, ?_, ?_, ?_⟩, ?_, ?_, ?_, ?_⟩
  · rw [F _ _ (by unfold rgCP stC; omega), a3, r0]
  · rw [oM _ _ (by omega) (by omega) (by omega) (by omega) (by unfold stC; omega), rj 1 (by omega)]; exact d2.2.1
  · rw [oM _ _ (by omega) (by omega) (by omega) (by omega) (by unfold stC; omega), rj 2 (by omega)]; exact d2.2.2.1
  · rw [oM _ _ (by omega) (by omega) (by omega) (by omega) (by unfold stC; omega), rj 3 (by omega)]; exact d2.2.2.2
  · rw [oM 1 _ (by omega) (by omega) (by omega) (by omega) (by unfold stC; omega), oM 1 _ (by omega) (by omega) (by omega) (by omega) (by unfold stC; omega), oM 1 _ (by omega) (by omega) (by omega) (by omega) (by unfold stC; omega), rj 1 (by omega), rj 2 (by omega), rj 3 (by omega)]; exact d3
  · rw [nn1]
    intro t ht
    by_cases c : t = n
    · subst c
      refine ⟨tN, ?_, ?_, ?_, ?_⟩
      · show M' 8 t = F3 (30 * t + 4)
        rw [g4, oM _ _ (by omega) (by omega) (by omega) (by omega) (by unfold stC; omega)]
        exact d6 t (Nat.le_refl _) hn
      · show M' (9 + 3 * t) 3 = F3 (30 * t + 1)
        rw [o9 _ (by omega), al, g1]
      · show M' (9 + 3 * t) 4 = F3 (30 * t + 2)
        rw [o9 _ (by omega), am, g2]
      · show M' (9 + 3 * t) 5 = F3 (30 * t + 3)
        rw [o9 _ (by omega), a5, g3]
    · obtain ⟨p1, p2, p3, p4, p5⟩ := cg t (by omega)
      obtain ⟨y1, y2, y3, y4, y5⟩ := d4 t (by omega)
      rw [p1, p2, p3, p4, p5]
      refine ⟨?_, ?_, ?_, ?_, ?_⟩
      · rw [tRw_fr (fun q hq j => oM _ _ (by omega) (by omega) (by omega) (by omega) (by unfold stC; omega))]; exact y1
      · rw [oM _ _ (by omega) (by omega) (by omega) (by omega) (by unfold stC; omega)]; exact y2
      · rw [oM _ _ (by omega) (by omega) (by omega) (by omega) (by unfold stC; omega)]; exact y3
      · rw [oM _ _ (by omega) (by omega) (by omega) (by omega) (by unfold stC; omega)]; exact y4
      · rw [oM _ _ (by omega) (by omega) (by omega) (by omega) (by unfold stC; omega)]; exact y5
  · rw [nn1]
    intro t ht
    by_cases c : t = n
    · subst c
      refine ⟨⟨by rw [vT_len, fn0]; omega, fun j hj => ?_, fun j hj => ?_⟩, by show -1 ≤ F3 (30 * t + 4) ∧ F3 (30 * t + 4) ≤ 900; rw [g4]; omega, ?_⟩
      · rw [vT_len, fn0] at hj
        show 1 ≤ (if (j : Int) < F3 (30 * t) then F3 (30 * t + 6 + j) else 0) ∧ (if (j : Int) < F3 (30 * t) then F3 (30 * t + 6 + j) else 0) ≤ 99
        rw [fn0, if_pos hj, f6]
        exact (c3 j (by omega)).1.2
      · rw [vT_len, fn0] at hj
        show (if (j : Int) < F3 (30 * t) then (if btI (F3 (30 * t + 5)) j = true then 1 else 0) else 0) = (0 : Int) ∨ (if (j : Int) < F3 (30 * t) then (if btI (F3 (30 * t + 5)) j = true then 1 else 0) else 0) = (1 : Int)
        rw [fn0, if_pos hj]
        split
        · exact Or.inr rfl
        · exact Or.inl rfl
      · unfold wfM
        rw [g1, g2, g3, g5, fn0]
        exact ⟨hl, hm, by omega, c4, fun i hi => c5 i (by omega)⟩
    · obtain ⟨p1, p2, p3, p4, p5⟩ := cg t (by omega)
      obtain ⟨y1, y2, y3⟩ := d5 t (by omega)
      rw [p1, p2]
      refine ⟨y1, y2, ?_⟩
      exact wfM_eq (fun i hi _ => fo _ (by omega)) y3
  · rw [nn1]
    intro t t1 t2
    rw [oM _ _ (by omega) (by omega) (by omega) (by omega) (by unfold stC; omega)]
    exact d6 t (by omega) t2
theorem L3 : lay 3 = .inr (.inl (8, [some 4, some 5, some 8, none, none, none, none])) := rfl
theorem nmF_2 {g : Nat → Int} {E a : Nat} {lo hi : Int} (h : nmF g E a lo hi = 0) : tmK g E a = 2 := by
  unfold nmF at h
  by_cases c : tmK g E a ≠ 2
  · rw [if_pos c] at h; omega
  · omega
set_option maxHeartbeats 600000 in
set_option maxRecDepth 20000 in
theorem timberC_ok {M : Mm} {g f r : Nat → Int} {E a : Nat} {kb hb : Int} (hp : oct g E) (hE : E ≤ 900) (ha : a ≤ 900) (h : tsC M g E a) (D : drC M f r kb hb) (hi : rdI r kb hb) : CallI m_Reader_readTimber [.inr 1] M (fun x M' => clQ M g E (clW g E a 0 f r kb hb) x M') := by
  obtain ⟨⟨i0, i8⟩, -⟩ := id hi
  have eC : clW g E a 0 f r kb hb = if (rtS g E (r 0).toNat a f).1 ≠ 0 then ((rtS g E (r 0).toNat a f).1, (rtS g E (r 0).toNat a f).2.1, f, r, kb, hb) else enS g E (rtS g E (r 0).toNat a f).2.1 (rtS g E (r 0).toNat a f).2.2 (updI r 0 (r 0 + 1)) kb hb := clW_0
  obtain ⟨n, en⟩ : ∃ n : Nat, r 0 = n := ⟨(r 0).toNat, by omega⟩
  have nn : (r 0).toNat = n := by omega
  rw [nn] at eC
  have e33 : M 3 3 = n := D.2.1.1.trans en
  have h5 := h.2.2.2.1
  by_cases c8 : n = 8
  · have eR : rtS g E n a f = (2, a, f) := if_pos c8
    rw [eC, eR, if_pos (show ((2 : Int), a, f).1 ≠ 0 by show (2 : Int) ≠ 0; omega)]
    have R : clQ M g E (2, a, f, r, kb, hb) 2 M := clQ_bad (S := (2, a, f, r, kb, hb)) FrP.rf D.1 (by show (2 : Int) ≠ 0; omega) h5
    have q := eq_false (show ¬ (n : Int) < 8 by omega)
    generalize hX : clQ M g E (2, a, f, r, kb, hb) = X at *
    refine callP_of (by decide) (by decide) (Nat.le_of_ble_eq_true rfl) (wpm_of (cuts := []) (by decide) 60 _ _ _ _ ?_)
    rw [show lM m_Reader_readTimber = 3 from rfl]
    simp (maxSteps := 2000000) only [↓reduceIte, wp_eq, wpd_eq, kont_eq, STP1, STP2, STP3, STP4, STP5, konM_eq, AMK, CZ, Option.map, List.getElem?_cons_zero, List.getElem?_cons_succ, List.mem_cons, List.not_mem_nil, if_false, if_true, Nat.reduceAdd, Nat.reduceLT, Nat.reduceLeDiff, Nat.reduceEqDiff, true_and, and_true, List.length_nil, List.length_cons, or_true, true_or, or_false, false_or, Option.some.injEq, Sum.inl.injEq, Sum.inr.injEq, exists_eq_left', exists_eq_left, Int.reduceLE, Int.reduceLT, Int.reduceNeg, Int.reduceAdd, Int.reduceMul, Int.reduceSub, Int.reduceToNat, inR, Nat.zero_ne_one, false_and, Nat.succ_ne_zero, reduceCtorEq, false_implies, true_implies, not_false_eq_true, not_true_eq_false, Int.reduceEq, KRE, C_Reader_readTimber, FD, L3, e33, q]
    repeat (first | refine And.intro (by omega) ?_ | refine And.intro (fun _ _ => okt_nn (by omega)) ?_)
    all_goals first | exact R | exact ⟨by omega, R⟩ | exact ⟨_, rfl, R⟩
  · have hn : n < 8 := by omega
    have q := eq_true (show (n : Int) < 8 by omega)
    have b9 := nxT_le (g := g) hE ha
    have c9 := nxT_le (g := g) hE b9
    have N1 := numC_ok (lo := 0) (hi := 30) h hE ha ⟨by omega, by omega⟩ ⟨by omega, by omega⟩
    have i1 := nmF_in g E (nxT g E a) 0 30
    refine callP_of (by decide) (by decide) (Nat.le_of_ble_eq_true rfl) (wpm_of (cuts := []) (by decide) 60 _ _ _ _ ?_)
    rw [show lM m_Reader_readTimber = 3 from rfl]
    simp (maxSteps := 2000000) only [↓reduceIte, wp_eq, wpd_eq, kont_eq, STP1, STP2, STP3, STP4, STP5, konM_eq, AMK, CZ, Option.map, List.getElem?_cons_zero, List.getElem?_cons_succ, List.mem_cons, List.not_mem_nil, if_false, if_true, Nat.reduceAdd, Nat.reduceLT, Nat.reduceLeDiff, Nat.reduceEqDiff, true_and, and_true, List.length_nil, List.length_cons, or_true, true_or, or_false, false_or, Option.some.injEq, Sum.inl.injEq, Sum.inr.injEq, exists_eq_left', exists_eq_left, Int.reduceLE, Int.reduceLT, Int.reduceNeg, Int.reduceAdd, Int.reduceMul, Int.reduceSub, Int.reduceToNat, inR, Nat.zero_ne_one, false_and, Nat.succ_ne_zero, reduceCtorEq, false_implies, true_implies, not_false_eq_true, not_true_eq_false, Int.reduceEq, KRE, C_Reader_readTimber, FD, L3, e33, q]
    repeat (first | refine And.intro (by omega) ?_ | refine And.intro (fun _ _ => okt_nn (by omega)) ?_)
    refine N1.mono (fun x M1 z => ?_)
    obtain ⟨rfl, F1, T1⟩ := z
    have F1' : FrP clP M M1 := clP_st FrP.rf F1
    have w1 := wfS_st D.1 F1
    by_cases cF : nmF g E (nxT g E a) 0 30 = 0
    · have k2 := (kd_all g E (nxT g E a)).2.1.mpr (nmF_2 cF)
      obtain ⟨n1, n2, n3⟩ := T1.2.2.2.2.2.2 k2
      have nb := nmN_in cF
      have N2 := numC_ok (lo := 0) (hi := 30) T1 hE b9 ⟨by omega, by omega⟩ ⟨by omega, by omega⟩
      have i2 := nmF_in g E (nxT g E (nxT g E a)) 0 30
      try simp (maxSteps := 2000000) only [↓reduceIte, wp_eq, wpd_eq, kont_eq, STP1, STP2, STP3, STP4, STP5, konM_eq, AMK, CZ, Option.map, List.getElem?_cons_zero, List.getElem?_cons_succ, List.mem_cons, List.not_mem_nil, if_false, if_true, Nat.reduceAdd, Nat.reduceLT, Nat.reduceLeDiff, Nat.reduceEqDiff, true_and, and_true, List.length_nil, List.length_cons, or_true, true_or, or_false, false_or, Option.some.injEq, Sum.inl.injEq, Sum.inr.injEq, exists_eq_left', exists_eq_left, Int.reduceLE, Int.reduceLT, Int.reduceNeg, Int.reduceAdd, Int.reduceMul, Int.reduceSub, Int.reduceToNat, inR, Nat.zero_ne_one, false_and, Nat.succ_ne_zero, reduceCtorEq, false_implies, true_implies, not_false_eq_true, not_true_eq_false, Int.reduceEq, KRE, C_Reader_readTimber, FD, L3, cF, n1]
      repeat (first | refine And.intro (by omega) ?_ | refine And.intro (fun _ _ => okt_nn (by omega)) ?_)
      refine N2.mono (fun x M2 z => ?_)
      obtain ⟨rfl, F2, T2⟩ := z
      have F2' := clP_st F1' F2
      have w2 := wfS_st w1 F2
      by_cases cG : nmF g E (nxT g E (nxT g E a)) 0 30 = 0
      · have k22 := (kd_all g E (nxT g E (nxT g E a))).2.1.mpr (nmF_2 cG)
        obtain ⟨m1, m2, m3⟩ := T2.2.2.2.2.2.2 k22
        have mb := nmN_in cG
        by_cases cL : nmN g E (nxT g E (nxT g E a)) < nmN g E (nxT g E a)
        · have eR : rtS g E n a f = (5, nxT g E (nxT g E a), f) := by
            unfold rtS
            rw [if_neg c8, if_neg (show ¬ (nmF g E (nxT g E a) 0 30 ≠ 0) from fun z => z cF), if_neg (show ¬ (nmF g E (nxT g E (nxT g E a)) 0 30 ≠ 0) from fun z => z cG), if_pos cL]
          rw [eC, eR, if_pos (show ((5 : Int), nxT g E (nxT g E a), f).1 ≠ 0 by show (5 : Int) ≠ 0; omega)]
          have R : clQ M g E (5, nxT g E (nxT g E a), f, r, kb, hb) 5 M2 := clQ_bad (S := (5, nxT g E (nxT g E a), f, r, kb, hb)) F2' w2 (by show (5 : Int) ≠ 0; omega) T2.2.2.2.1
          have q3 := eq_false (show ¬ nmN g E (nxT g E a) ≤ nmN g E (nxT g E (nxT g E a)) by omega)
          generalize hX : clQ M g E (5, nxT g E (nxT g E a), f, r, kb, hb) = X at *
          try simp (maxSteps := 2000000) only [↓reduceIte, wp_eq, wpd_eq, kont_eq, STP1, STP2, STP3, STP4, STP5, konM_eq, AMK, CZ, Option.map, List.getElem?_cons_zero, List.getElem?_cons_succ, List.mem_cons, List.not_mem_nil, if_false, if_true, Nat.reduceAdd, Nat.reduceLT, Nat.reduceLeDiff, Nat.reduceEqDiff, true_and, and_true, List.length_nil, List.length_cons, or_true, true_or, or_false, false_or, Option.some.injEq, Sum.inl.injEq, Sum.inr.injEq, exists_eq_left', exists_eq_left, Int.reduceLE, Int.reduceLT, Int.reduceNeg, Int.reduceAdd, Int.reduceMul, Int.reduceSub, Int.reduceToNat, inR, Nat.zero_ne_one, false_and, Nat.succ_ne_zero, reduceCtorEq, false_implies, true_implies, not_false_eq_true, not_true_eq_false, Int.reduceEq, KRE, C_Reader_readTimber, FD, L3, cG, m1, q3]
          repeat (first | refine And.intro (by omega) ?_ | refine And.intro (fun _ _ => okt_nn (by omega)) ?_)
          all_goals first | exact R | exact ⟨by omega, R⟩ | exact ⟨_, rfl, R⟩
        · have q3 := eq_true (show nmN g E (nxT g E a) ≤ nmN g E (nxT g E (nxT g E a)) by omega)
          have F12 : FrP stC M M2 := F1.tr F2
          have e33b : M2 3 3 = n := (F12 _ _ (by unfold stC; omega)).trans e33
          have AT := Stock_addTimber_ok (s := 3) (M := M2) (a := nmN g E (nxT g E a)) (c := nmN g E (nxT g E (nxT g E a))) isStk_3 w2 (by omega)
          rw [show (M2 3 3).toNat = n by omega, show 3 + 6 + 3 * n = 9 + 3 * n by omega, show mset (mset (mset (mset (mset M2 3 3 (M2 3 3 + 1)) (9 + 3 * n) 2 0) (9 + 3 * n) 3 (nmN g E (nxT g E a))) (9 + 3 * n) 4 (nmN g E (nxT g E (nxT g E a)))) (9 + 3 * n) 5 0 = mAd M2 n (nmN g E (nxT g E a)) (nmN g E (nxT g E (nxT g E a))) by rw [e33b]; rfl] at AT
          have w3 := wfS_ad (M := M2) (n := n) w2 hn nb mb
          obtain ⟨a3, a2, al, am, a5⟩ := mAd_f (M := M2) (n := n) (l := nmN g E (nxT g E a)) (m := nmN g E (nxT g E (nxT g E a)))
          have q5 := (f0T_n (f := f) (n := n) (l := nmN g E (nxT g E a)) (m := nmN g E (nxT g E (nxT g E a)))).2.2.2.2
          have C0 : rgC (mAd M2 n (nmN g E (nxT g E a)) (nmN g E (nxT g E (nxT g E a)))) (f0T f n (nmN g E (nxT g E a)) (nmN g E (nxT g E (nxT g E a)))) (f0T f n (nmN g E (nxT g E a)) (nmN g E (nxT g E (nxT g E a)))) n 0 := ⟨w3, a2, fun j hj => absurd hj (Nat.not_lt_zero _), by rw [q5]; exact ⟨by omega, by omega⟩, fun i _ => by rw [q5]; exact btI_0 i, fun j _ => rfl⟩
          have T3 : tsC (mAd M2 n (nmN g E (nxT g E a)) (nmN g E (nxT g E (nxT g E a)))) g E (nxT g E (nxT g E a)) := tsC_mv T2 (fun b j z => mAd_o (by omega) (by omega))
          have RR := readRingsC_ok (n := n) hp hE c9 hn T3 C0
          have F3 : FrP clP M (mAd M2 n (nmN g E (nxT g E a)) (nmN g E (nxT g E (nxT g E a)))) := fun b j z => (mAd_o (by unfold clP at z; omega) (by unfold clP at z; omega)).trans (F2' b j z)
          have eC' : clW g E a 0 f r kb hb = if (rgS g E n 25 0 (nxT g E (nxT g E (nxT g E a))) (f0T f n (nmN g E (nxT g E a)) (nmN g E (nxT g E (nxT g E a))))).1 ≠ 0 then ((rgS g E n 25 0 (nxT g E (nxT g E (nxT g E a))) (f0T f n (nmN g E (nxT g E a)) (nmN g E (nxT g E (nxT g E a))))).1, (rgS g E n 25 0 (nxT g E (nxT g E (nxT g E a))) (f0T f n (nmN g E (nxT g E a)) (nmN g E (nxT g E (nxT g E a))))).2.1, f, r, kb, hb) else enS g E (rgS g E n 25 0 (nxT g E (nxT g E (nxT g E a))) (f0T f n (nmN g E (nxT g E a)) (nmN g E (nxT g E (nxT g E a))))).2.1 (updI (rgS g E n 25 0 (nxT g E (nxT g E (nxT g E a))) (f0T f n (nmN g E (nxT g E a)) (nmN g E (nxT g E (nxT g E a))))).2.2.2 (30 * n) (rgS g E n 25 0 (nxT g E (nxT g E (nxT g E a))) (f0T f n (nmN g E (nxT g E a)) (nmN g E (nxT g E (nxT g E a))))).2.2.1) (updI r 0 (r 0 + 1)) kb hb := by
            have eR : rtS g E n a f = ((rgS g E n 25 0 (nxT g E (nxT g E (nxT g E a))) (f0T f n (nmN g E (nxT g E a)) (nmN g E (nxT g E (nxT g E a))))).1, (rgS g E n 25 0 (nxT g E (nxT g E (nxT g E a))) (f0T f n (nmN g E (nxT g E a)) (nmN g E (nxT g E (nxT g E a))))).2.1, updI (rgS g E n 25 0 (nxT g E (nxT g E (nxT g E a))) (f0T f n (nmN g E (nxT g E a)) (nmN g E (nxT g E (nxT g E a))))).2.2.2 (30 * n) (rgS g E n 25 0 (nxT g E (nxT g E (nxT g E a))) (f0T f n (nmN g E (nxT g E a)) (nmN g E (nxT g E (nxT g E a))))).2.2.1) := by
              unfold rtS
              rw [if_neg c8, if_neg (show ¬ (nmF g E (nxT g E a) 0 30 ≠ 0) from fun z => z cF), if_neg (show ¬ (nmF g E (nxT g E (nxT g E a)) 0 30 ≠ 0) from fun z => z cG), if_neg cL]
              rfl
            rw [eC, eR]
          clear eC
          have fin : ∀ x M4, rgQ (mAd M2 n (nmN g E (nxT g E a)) (nmN g E (nxT g E (nxT g E a)))) g (f0T f n (nmN g E (nxT g E a)) (nmN g E (nxT g E (nxT g E a)))) E n (rgS g E n 25 0 (nxT g E (nxT g E (nxT g E a))) (f0T f n (nmN g E (nxT g E a)) (nmN g E (nxT g E (nxT g E a))))) x M4 → clQ M g E (clW g E a 0 f r kb hb) x M4 := by
            intro x M4 w
            rw [eC']
            generalize rgS g E n 25 0 (nxT g E (nxT g E (nxT g E a))) (f0T f n (nmN g E (nxT g E a)) (nmN g E (nxT g E (nxT g E a)))) = S at *
            obtain ⟨v1, v2, v3, v4⟩ := w
            have F4 : FrP clP M M4 := F3.tr (v1.wd (fun b j z => by unfold rgCP stC at z; unfold clP; omega))
            by_cases cS : S.1 = 0
            · rw [if_neg (fun z => z cS)]
              obtain ⟨⟨u1, u2, u3⟩, u4, u5⟩ := v3 cS
              have DD := drC_new (k := S.2.2.1) hn en D F12 v1 u1 ⟨u2, u3⟩ nb mb
              unfold enS
              by_cases cE : tmK g E S.2.1 = 3 ∧ g S.2.1 = 59
              · rw [if_pos cE]
                obtain ⟨rfl, t4⟩ := u4 cE
                exact ⟨rfl, F4, v2, fun w => absurd rfl w, fun _ => ⟨t4, DD⟩⟩
              · rw [if_neg cE]
                obtain ⟨rfl, t4⟩ := u5 cE
                exact clQ_bad (S := (1, S.2.1, updI S.2.2.2 (30 * n) S.2.2.1, updI r 0 (r 0 + 1), kb, hb)) F4 v2 (by show (1 : Int) ≠ 0; omega) t4
            · rw [if_pos cS]
              obtain ⟨rfl, t4⟩ := v4 cS
              exact clQ_bad (S := (S.1, S.2.1, f, r, kb, hb)) F4 v2 cS t4
          have RC := RR.mono fin
          clear fin eC' RR C0 q5 a3 a2 al am a5
          generalize hX : clQ M g E (clW g E a 0 f r kb hb) = X at *
          generalize mAd M2 n (nmN g E (nxT g E a)) (nmN g E (nxT g E (nxT g E a))) = M3 at *
          try simp (maxSteps := 2000000) only [↓reduceIte, wp_eq, wpd_eq, kont_eq, STP1, STP2, STP3, STP4, STP5, konM_eq, AMK, CZ, Option.map, List.getElem?_cons_zero, List.getElem?_cons_succ, List.mem_cons, List.not_mem_nil, if_false, if_true, Nat.reduceAdd, Nat.reduceLT, Nat.reduceLeDiff, Nat.reduceEqDiff, true_and, and_true, List.length_nil, List.length_cons, or_true, true_or, or_false, false_or, Option.some.injEq, Sum.inl.injEq, Sum.inr.injEq, exists_eq_left', exists_eq_left, Int.reduceLE, Int.reduceLT, Int.reduceNeg, Int.reduceAdd, Int.reduceMul, Int.reduceSub, Int.reduceToNat, inR, Nat.zero_ne_one, false_and, Nat.succ_ne_zero, reduceCtorEq, false_implies, true_implies, not_false_eq_true, not_true_eq_false, Int.reduceEq, KRE, C_Reader_readTimber, FD, L3, cG, m1, q3]
          repeat (first | refine And.intro (by omega) ?_ | refine And.intro (fun _ _ => okt_nn (by omega)) ?_)
          refine AT.eq ?_
          try simp (maxSteps := 2000000) only [↓reduceIte, wp_eq, wpd_eq, kont_eq, STP1, STP2, STP3, STP4, STP5, konM_eq, AMK, CZ, Option.map, List.getElem?_cons_zero, List.getElem?_cons_succ, List.mem_cons, List.not_mem_nil, if_false, if_true, Nat.reduceAdd, Nat.reduceLT, Nat.reduceLeDiff, Nat.reduceEqDiff, true_and, and_true, List.length_nil, List.length_cons, or_true, true_or, or_false, false_or, Option.some.injEq, Sum.inl.injEq, Sum.inr.injEq, exists_eq_left', exists_eq_left, Int.reduceLE, Int.reduceLT, Int.reduceNeg, Int.reduceAdd, Int.reduceMul, Int.reduceSub, Int.reduceToNat, inR, Nat.zero_ne_one, false_and, Nat.succ_ne_zero, reduceCtorEq, false_implies, true_implies, not_false_eq_true, not_true_eq_false, Int.reduceEq, KRE, C_Reader_readTimber, FD, L3]
          repeat (first | refine And.intro (by omega) ?_ | refine And.intro (fun _ _ => okt_nn (by omega)) ?_)
          refine RC.mono (fun x M' w => ?_)
          try simp (maxSteps := 2000000) only [↓reduceIte, wp_eq, wpd_eq, kont_eq, STP1, STP2, STP3, STP4, STP5, konM_eq, AMK, CZ, Option.map, List.getElem?_cons_zero, List.getElem?_cons_succ, List.mem_cons, List.not_mem_nil, if_false, if_true, Nat.reduceAdd, Nat.reduceLT, Nat.reduceLeDiff, Nat.reduceEqDiff, true_and, and_true, List.length_nil, List.length_cons, or_true, true_or, or_false, false_or, Option.some.injEq, Sum.inl.injEq, Sum.inr.injEq, exists_eq_left', exists_eq_left, Int.reduceLE, Int.reduceLT, Int.reduceNeg, Int.reduceAdd, Int.reduceMul, Int.reduceSub, Int.reduceToNat, inR, Nat.zero_ne_one, false_and, Nat.succ_ne_zero, reduceCtorEq, false_implies, true_implies, not_false_eq_true, not_true_eq_false, Int.reduceEq, KRE, C_Reader_readTimber, FD, L3]
          repeat (first | refine And.intro (by omega) ?_ | refine And.intro (fun _ _ => okt_nn (by omega)) ?_)
          all_goals first | exact w | exact ⟨by omega, w⟩ | exact ⟨_, rfl, w⟩
      · have eR : rtS g E n a f = (nmF g E (nxT g E (nxT g E a)) 0 30, nxT g E (nxT g E a), f) := by
          unfold rtS
          rw [if_neg c8, if_neg (show ¬ (nmF g E (nxT g E a) 0 30 ≠ 0) from fun z => z cF), if_pos cG]
        rw [eC, eR, if_pos (show (nmF g E (nxT g E (nxT g E a)) 0 30, nxT g E (nxT g E a), f).1 ≠ 0 from cG)]
        have R : clQ M g E (nmF g E (nxT g E (nxT g E a)) 0 30, nxT g E (nxT g E a), f, r, kb, hb) (nmF g E (nxT g E (nxT g E a)) 0 30) M2 := clQ_bad (S := (nmF g E (nxT g E (nxT g E a)) 0 30, nxT g E (nxT g E a), f, r, kb, hb)) F2' w2 cG T2.2.2.2.1
        have q3 := eq_false cG
        generalize hX : clQ M g E (nmF g E (nxT g E (nxT g E a)) 0 30, nxT g E (nxT g E a), f, r, kb, hb) = X at *
        generalize nmF g E (nxT g E (nxT g E a)) 0 30 = cc at *
        try simp (maxSteps := 2000000) only [↓reduceIte, wp_eq, wpd_eq, kont_eq, STP1, STP2, STP3, STP4, STP5, konM_eq, AMK, CZ, Option.map, List.getElem?_cons_zero, List.getElem?_cons_succ, List.mem_cons, List.not_mem_nil, if_false, if_true, Nat.reduceAdd, Nat.reduceLT, Nat.reduceLeDiff, Nat.reduceEqDiff, true_and, and_true, List.length_nil, List.length_cons, or_true, true_or, or_false, false_or, Option.some.injEq, Sum.inl.injEq, Sum.inr.injEq, exists_eq_left', exists_eq_left, Int.reduceLE, Int.reduceLT, Int.reduceNeg, Int.reduceAdd, Int.reduceMul, Int.reduceSub, Int.reduceToNat, inR, Nat.zero_ne_one, false_and, Nat.succ_ne_zero, reduceCtorEq, false_implies, true_implies, not_false_eq_true, not_true_eq_false, Int.reduceEq, KRE, C_Reader_readTimber, FD, L3, q3]
        repeat (first | refine And.intro (by omega) ?_ | refine And.intro (fun _ _ => okt_nn (by omega)) ?_)
        all_goals first | exact R | exact ⟨by omega, R⟩ | exact ⟨_, rfl, R⟩
    · have eR : rtS g E n a f = (nmF g E (nxT g E a) 0 30, nxT g E a, f) := by
        unfold rtS
        rw [if_neg c8, if_pos cF]
      rw [eC, eR, if_pos (show (nmF g E (nxT g E a) 0 30, nxT g E a, f).1 ≠ 0 from cF)]
      have R : clQ M g E (nmF g E (nxT g E a) 0 30, nxT g E a, f, r, kb, hb) (nmF g E (nxT g E a) 0 30) M1 := clQ_bad (S := (nmF g E (nxT g E a) 0 30, nxT g E a, f, r, kb, hb)) F1' w1 cF T1.2.2.2.1
      have q3 := eq_false cF
      generalize hX : clQ M g E (nmF g E (nxT g E a) 0 30, nxT g E a, f, r, kb, hb) = X at *
      generalize nmF g E (nxT g E a) 0 30 = cc at *
      try simp (maxSteps := 2000000) only [↓reduceIte, wp_eq, wpd_eq, kont_eq, STP1, STP2, STP3, STP4, STP5, konM_eq, AMK, CZ, Option.map, List.getElem?_cons_zero, List.getElem?_cons_succ, List.mem_cons, List.not_mem_nil, if_false, if_true, Nat.reduceAdd, Nat.reduceLT, Nat.reduceLeDiff, Nat.reduceEqDiff, true_and, and_true, List.length_nil, List.length_cons, or_true, true_or, or_false, false_or, Option.some.injEq, Sum.inl.injEq, Sum.inr.injEq, exists_eq_left', exists_eq_left, Int.reduceLE, Int.reduceLT, Int.reduceNeg, Int.reduceAdd, Int.reduceMul, Int.reduceSub, Int.reduceToNat, inR, Nat.zero_ne_one, false_and, Nat.succ_ne_zero, reduceCtorEq, false_implies, true_implies, not_false_eq_true, not_true_eq_false, Int.reduceEq, KRE, C_Reader_readTimber, FD, L3, q3]
      repeat (first | refine And.intro (by omega) ?_ | refine And.intro (fun _ _ => okt_nn (by omega)) ?_)
      all_goals first | exact R | exact ⟨by omega, R⟩ | exact ⟨_, rfl, R⟩
