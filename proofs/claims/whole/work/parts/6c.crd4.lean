/-! THE CLASS READS, 4: a whole text; yard. -/
theorem clQ_tr {M0 M1 M2 : Mm} {g : Nat → Int} {E : Nat} {S : CS} {x : Int} (F : FrP clP M0 M1) (h : clQ M1 g E S x M2) : clQ M0 g E S x M2 := ⟨h.1, F.tr h.2.1, h.2.2⟩
theorem ydS_end {g f r : Nat → Int} {E d a : Nat} {kb hb : Int} (h : E ≤ a) : ydS g E d a f r kb hb = (0, a, f, r, kb, hb) := by
  cases d with
  | zero => rfl
  | succ d =>
    unfold ydS
    rw [if_pos h]
set_option maxHeartbeats 600000 in
set_option maxRecDepth 20000 in
theorem textC_loop {g : Nat → Int} {E : Nat} {Qc : Option AV → Mm → Prop} {x1 : Option AV} (hp : oct g E) (hE : E ≤ 900) : ∀ (d a c : Nat) (f r : Nat → Int) (kb hb : Int) (M : Mm), E ≤ a + d → c ≤ a → c ≤ 900 → a ≤ 900 → tsC M g E a → drC M f r kb hb → rdI r kb hb →
    (∀ x M' x3, clQ M g E (ydS g E d a f r kb hb) x M' → WPm m_Reader_readText Qc 76 [some (.inr 1), x1, some (.inl x), x3] [] M') → WPm m_Reader_readText Qc 47 [some (.inr 1), x1, some (.inl 0), some (.inl (c : Int))] [] M
  | d, a, c, f, r, kb, hb, M, hd, hca, hc9, ha, ht, D, hi, K => by
    obtain ⟨-, -, -, -, kE, kA, kB⟩ := kd_all g E a
    have h7 := ht.2.2.2.2.2.1
    by_cases cE : E ≤ a
    · have R := K 0 M (some (.inl (c : Int))) (by rw [ydS_end cE]; exact ⟨rfl, FrP.rf, D.1, fun z => absurd rfl z, fun _ => ⟨ht, D⟩⟩)
      have q0 : M 1 7 = 0 := h7.trans (kE.mpr cE)
      by_cases c9 : c = 900
      · have q := eq_true (show (900 : Int) ≤ (c : Int) by omega)
        refine wpm_of (cuts := [47, 76]) (by decide) 60 _ _ _ _ ?_
        simp (maxSteps := 2000000) only [↓reduceIte, wp_eq, wpd_eq, kont_eq, STP1, STP2, STP3, STP4, STP5, konM_eq, AMK, CZ, Option.map, List.getElem?_cons_zero, List.getElem?_cons_succ, List.mem_cons, List.not_mem_nil, if_false, if_true, Nat.reduceAdd, Nat.reduceLT, Nat.reduceLeDiff, Nat.reduceEqDiff, true_and, and_true, List.length_nil, List.length_cons, or_true, true_or, or_false, false_or, Option.some.injEq, Sum.inl.injEq, Sum.inr.injEq, exists_eq_left', exists_eq_left, Int.reduceLE, Int.reduceLT, Int.reduceNeg, Int.reduceAdd, Int.reduceMul, Int.reduceSub, Int.reduceToNat, inR, Nat.zero_ne_one, false_and, Nat.succ_ne_zero, reduceCtorEq, false_implies, true_implies, not_false_eq_true, not_true_eq_false, Int.reduceEq, KRE, C_Reader_readText, FD, q]
        repeat (first | refine And.intro (by omega) ?_ | refine And.intro (fun _ _ => okt_nn (by omega)) ?_)
        exact R
      · have q := eq_false (show ¬ (900 : Int) ≤ (c : Int) by omega)
        refine wpm_of (cuts := [47, 76]) (by decide) 60 _ _ _ _ ?_
        simp (maxSteps := 2000000) only [↓reduceIte, wp_eq, wpd_eq, kont_eq, STP1, STP2, STP3, STP4, STP5, konM_eq, AMK, CZ, Option.map, List.getElem?_cons_zero, List.getElem?_cons_succ, List.mem_cons, List.not_mem_nil, if_false, if_true, Nat.reduceAdd, Nat.reduceLT, Nat.reduceLeDiff, Nat.reduceEqDiff, true_and, and_true, List.length_nil, List.length_cons, or_true, true_or, or_false, false_or, Option.some.injEq, Sum.inl.injEq, Sum.inr.injEq, exists_eq_left', exists_eq_left, Int.reduceLE, Int.reduceLT, Int.reduceNeg, Int.reduceAdd, Int.reduceMul, Int.reduceSub, Int.reduceToNat, inR, Nat.zero_ne_one, false_and, Nat.succ_ne_zero, reduceCtorEq, false_implies, true_implies, not_false_eq_true, not_true_eq_false, Int.reduceEq, KRE, C_Reader_readText, FD, q, q0]
        repeat (first | refine And.intro (by omega) ?_ | refine And.intro (fun _ _ => okt_nn (by omega)) ?_)
        exact R
    · match d, hd, K with
      | 0, hd, K => exact absurd (by omega : E ≤ a) cE
      | d + 1, hd, K =>
        have q := eq_false (show ¬ (900 : Int) ≤ (c : Int) by omega)
        have q0 := eq_false (show ¬ M 1 7 = 0 by rw [h7]; exact fun z => cE (kE.mp z))
        have P := clS_pl (g := g) (f := f) (r := r) (kb := kb) (hb := hb) hE ha (by omega)
        have I0 := rdI_0 (f := f) (g := g) (E := E) (a := a) hi
        unfold ydS at K
        rw [if_neg cE] at K
        have CL := clauseC_ok hp hE ha ht D hi
        refine wpm_of (cuts := [47, 76]) (by decide) 60 _ _ _ _ ?_
        simp (maxSteps := 2000000) only [↓reduceIte, wp_eq, wpd_eq, kont_eq, STP1, STP2, STP3, STP4, STP5, konM_eq, AMK, CZ, Option.map, List.getElem?_cons_zero, List.getElem?_cons_succ, List.mem_cons, List.not_mem_nil, if_false, if_true, Nat.reduceAdd, Nat.reduceLT, Nat.reduceLeDiff, Nat.reduceEqDiff, true_and, and_true, List.length_nil, List.length_cons, or_true, true_or, or_false, false_or, Option.some.injEq, Sum.inl.injEq, Sum.inr.injEq, exists_eq_left', exists_eq_left, Int.reduceLE, Int.reduceLT, Int.reduceNeg, Int.reduceAdd, Int.reduceMul, Int.reduceSub, Int.reduceToNat, inR, Nat.zero_ne_one, false_and, Nat.succ_ne_zero, reduceCtorEq, false_implies, true_implies, not_false_eq_true, not_true_eq_false, Int.reduceEq, KRE, C_Reader_readText, FD, q, q0]
        repeat (first | refine And.intro (by omega) ?_ | refine And.intro (fun _ _ => okt_nn (by omega)) ?_)
        refine CL.mono (fun x M1 w => ?_)
        try simp (maxSteps := 2000000) only [↓reduceIte, wp_eq, wpd_eq, kont_eq, STP1, STP2, STP3, STP4, STP5, konM_eq, AMK, CZ, Option.map, List.getElem?_cons_zero, List.getElem?_cons_succ, List.mem_cons, List.not_mem_nil, if_false, if_true, Nat.reduceAdd, Nat.reduceLT, Nat.reduceLeDiff, Nat.reduceEqDiff, true_and, and_true, List.length_nil, List.length_cons, or_true, true_or, or_false, false_or, Option.some.injEq, Sum.inl.injEq, Sum.inr.injEq, exists_eq_left', exists_eq_left, Int.reduceLE, Int.reduceLT, Int.reduceNeg, Int.reduceAdd, Int.reduceMul, Int.reduceSub, Int.reduceToNat, inR, Nat.zero_ne_one, false_and, Nat.succ_ne_zero, reduceCtorEq, false_implies, true_implies, not_false_eq_true, not_true_eq_false, Int.reduceEq, KRE, C_Reader_readText, FD]
        by_cases cz : (clS g E a f r kb hb).1 = 0
        · rw [if_neg (fun z => z cz)] at K
          have R := textC_loop (x1 := x1) (Qc := Qc) hp hE d _ (c + 1) _ _ _ _ M1 (by have := P.2.2 cz; omega) (by have := P.2.2 cz; omega) (by omega) P.1 (w.2.2.2.2 cz).1 (w.2.2.2.2 cz).2 (I0 cz) (fun x M' x3 z => K x M' x3 (clQ_tr w.2.1 z))
          have x0 : x = 0 := w.1.trans cz
          subst x0
          rw [show ((c + 1 : Nat) : Int) = (c : Int) + 1 by omega] at R
          exact R
        · rw [if_pos cz] at K
          have R := K x M1 (some (.inl ((c : Int) + 1))) w
          have hx := w.1
          have x0 := eq_false (show ¬ x = 0 by rw [hx]; exact cz)
          generalize (clS g E a f r kb hb).1 = cc at *
          by_cases c9 : c + 1 = 900
          · have q := eq_true (show (900 : Int) ≤ (c : Int) + 1 by omega)
            refine wpm_of (cuts := [47, 76]) (by decide) 60 _ _ _ _ ?_
            simp (maxSteps := 2000000) only [↓reduceIte, wp_eq, wpd_eq, kont_eq, STP1, STP2, STP3, STP4, STP5, konM_eq, AMK, CZ, Option.map, List.getElem?_cons_zero, List.getElem?_cons_succ, List.mem_cons, List.not_mem_nil, if_false, if_true, Nat.reduceAdd, Nat.reduceLT, Nat.reduceLeDiff, Nat.reduceEqDiff, true_and, and_true, List.length_nil, List.length_cons, or_true, true_or, or_false, false_or, Option.some.injEq, Sum.inl.injEq, Sum.inr.injEq, exists_eq_left', exists_eq_left, Int.reduceLE, Int.reduceLT, Int.reduceNeg, Int.reduceAdd, Int.reduceMul, Int.reduceSub, Int.reduceToNat, inR, Nat.zero_ne_one, false_and, Nat.succ_ne_zero, reduceCtorEq, false_implies, true_implies, not_false_eq_true, not_true_eq_false, Int.reduceEq, KRE, C_Reader_readText, FD, q, x0]
            repeat (first | refine And.intro (by omega) ?_ | refine And.intro (fun _ _ => okt_nn (by omega)) ?_)
            exact R
          · have q := eq_false (show ¬ (900 : Int) ≤ (c : Int) + 1 by omega)
            refine wpm_of (cuts := [47, 76]) (by decide) 60 _ _ _ _ ?_
            simp (maxSteps := 2000000) only [↓reduceIte, wp_eq, wpd_eq, kont_eq, STP1, STP2, STP3, STP4, STP5, konM_eq, AMK, CZ, Option.map, List.getElem?_cons_zero, List.getElem?_cons_succ, List.mem_cons, List.not_mem_nil, if_false, if_true, Nat.reduceAdd, Nat.reduceLT, Nat.reduceLeDiff, Nat.reduceEqDiff, true_and, and_true, List.length_nil, List.length_cons, or_true, true_or, or_false, false_or, Option.some.injEq, Sum.inl.injEq, Sum.inr.injEq, exists_eq_left', exists_eq_left, Int.reduceLE, Int.reduceLT, Int.reduceNeg, Int.reduceAdd, Int.reduceMul, Int.reduceSub, Int.reduceToNat, inR, Nat.zero_ne_one, false_and, Nat.succ_ne_zero, reduceCtorEq, false_implies, true_implies, not_false_eq_true, not_true_eq_false, Int.reduceEq, KRE, C_Reader_readText, FD, q, x0]
            repeat (first | refine And.intro (by omega) ?_ | refine And.intro (fun _ _ => okt_nn (by omega)) ?_)
            exact R
termination_by d => d
/-- the reader before the first token -/
def mTx (M : Mm) (n : Nat) : Mm := mset (mset (mset (mset (mset (mset (mset (mWip (mset (mset M 1 4 (n : Int)) 1 6 0) 3 8) 3 3 0) 3 4 70) 3 5 6) 3 6 5) 1 9 0) 1 10 0) 1 11 0
theorem mTx_o {M : Mm} {n b j : Nat} (h1 : ¬ (b = 1 ∧ (j = 4 ∨ j = 6 ∨ 9 ≤ j))) (h2 : ¬ (b = 3)) (h3 : ¬ (b = 8 ∧ j < 8)) : mTx M n b j = M b j := by
  unfold mTx
  have e : ∀ M2 : Mm, mWip M2 3 8 b j = M2 b j := fun M2 => if_neg (by omega)
  rw [show ∀ (X : Mm) a k v, mset X a k v b j = if b = a ∧ j = k then v else X b j from fun _ _ _ _ => rfl]
  rw [if_neg (by omega)]
  refine (if_neg (by omega)).trans ((if_neg (by omega)).trans ((if_neg (by omega)).trans ((if_neg (by omega)).trans ((if_neg (by omega)).trans ((if_neg (by omega)).trans ((e _).trans ((if_neg (by omega)).trans (if_neg (by omega)))))))))
def tcP : Nat → Nat → Prop := fun b j => 3 ≤ b ∧ b < 33 ∨ b = 1 ∧ 2 ≤ j
def txQ (M0 : Mm) (S : CS) (x : Int) (M' : Mm) : Prop := x = S.1 ∧ FrP tcP M0 M' ∧ wfS M' 3 ∧ M' 1 2 = 0 ∧ (S.1 ≠ 0 → M' 1 3 = (S.2.1 : Int)) ∧ (S.1 = 0 → M' 1 3 = -1 ∧ drC M' S.2.2.1 S.2.2.2.1 S.2.2.2.2.1 S.2.2.2.2.2)
theorem clP_tc {M0 M : Mm} (h : FrP clP M0 M) : FrP tcP M0 M := h.wd (fun b j z => by unfold clP at z; unfold tcP; omega)
theorem drC_up {M : Mm} {f r : Nat → Int} {kb hb a b : Int} (D : drC M f r kb hb) (hr : 0 ≤ r 0 ∧ r 0 ≤ 8) : drC (mset (mset M 1 3 a) 1 2 b) f r kb hb := by
  obtain ⟨h1, h2, h3, h4, h5, h6⟩ := D
  have e : ∀ q j, ¬ (q = 1 ∧ (j = 2 ∨ j = 3)) → mset (mset M 1 3 a) 1 2 b q j = M q j := fun q j z => (if_neg (by omega)).trans (if_neg (by omega))
  refine ⟨wfS_cells (fun q p1 p2 j => e _ _ (by omega)) h1, ?_, ?_, rowR_fr (by omega) (fun q p1 p2 j => e _ _ (by omega)) h4, h5, fun t t1 t2 => (e _ _ (by omega)).trans (h6 t t1 t2)⟩
  · rw [e _ _ (by omega), e _ _ (by omega), e _ _ (by omega), e _ _ (by omega)]; exact h2
  · rw [e _ _ (by omega), e _ _ (by omega), e _ _ (by omega)]; exact h3
set_option maxHeartbeats 600000 in
set_option maxRecDepth 20000 in
theorem textC_76 {M00 M0 M : Mm} {g : Nat → Int} {E : Nat} {S : CS} {x : Int} {x1 x3 : Option AV} (F0 : FrP tcP M00 M0) (hS : 0 ≤ S.1 ∧ S.1 ≤ 5) (hr : S.1 = 0 → 0 ≤ S.2.2.2.1 0 ∧ S.2.2.2.1 0 ≤ 8) (w : clQ M0 g E S x M) : WPm m_Reader_readText (fun v M' => ∃ x, v = some (.inl x) ∧ txQ M00 S x M') 76 [some (.inr 1), x1, some (.inl x), x3] [] M := by
  obtain ⟨w1, w2, w3, w4, w5⟩ := w
  have fw : ∀ a : Int, wfS (mset (mset M 1 3 a) 1 2 0) 3 := fun a => wfS_cells (fun q p1 p2 j => (if_neg (by omega)).trans (if_neg (by omega))) w3
  have fF : ∀ a : Int, FrP tcP M00 (mset (mset M 1 3 a) 1 2 0) := fun a => ((F0.tr (clP_tc w2)).st (by unfold tcP; omega)).st (by unfold tcP; omega)
  by_cases c : S.1 = 0
  · have x0 := w1.trans c
    have R : txQ M00 S 0 (mset (mset M 1 3 (-1)) 1 2 0) := ⟨c.symm, fF _, fw _, by simp [mset], fun z => absurd c z, fun _ => ⟨by simp [mset], drC_up (w5 c).2 (hr c)⟩⟩
    subst x0
    generalize hX : txQ M00 S = X at *
    refine wpm_of (cuts := []) (by decide) 60 _ _ _ _ ?_
    simp (maxSteps := 2000000) only [↓reduceIte, wp_eq, wpd_eq, kont_eq, STP1, STP2, STP3, STP4, STP5, konM_eq, AMK, CZ, Option.map, List.getElem?_cons_zero, List.getElem?_cons_succ, List.mem_cons, List.not_mem_nil, if_false, if_true, Nat.reduceAdd, Nat.reduceLT, Nat.reduceLeDiff, Nat.reduceEqDiff, true_and, and_true, List.length_nil, List.length_cons, or_true, true_or, or_false, false_or, Option.some.injEq, Sum.inl.injEq, Sum.inr.injEq, exists_eq_left', exists_eq_left, Int.reduceLE, Int.reduceLT, Int.reduceNeg, Int.reduceAdd, Int.reduceMul, Int.reduceSub, Int.reduceToNat, inR, Nat.zero_ne_one, false_and, Nat.succ_ne_zero, reduceCtorEq, false_implies, true_implies, not_false_eq_true, not_true_eq_false, Int.reduceEq, KRE, C_Reader_readText, FD]
    repeat (first | refine And.intro (by omega) ?_ | refine And.intro (fun _ _ => okt_nn (by omega)) ?_)
    all_goals first | exact R | exact ⟨by omega, R⟩ | exact ⟨_, rfl, R⟩
  · have R : txQ M00 S x (mset (mset M 1 3 (S.2.1 : Int)) 1 2 0) := ⟨w1, fF _, fw _, by simp [mset], fun _ => by simp [mset], fun z => absurd z c⟩
    have x0 := eq_false (show ¬ x = 0 by rw [w1]; exact c)
    have h5 := w4 c
    have xr : -2147483648 ≤ x ∧ x ≤ 2147483647 := ⟨by omega, by omega⟩
    generalize hX : txQ M00 S = X at *
    refine wpm_of (cuts := []) (by decide) 60 _ _ _ _ ?_
    simp (maxSteps := 2000000) only [↓reduceIte, wp_eq, wpd_eq, kont_eq, STP1, STP2, STP3, STP4, STP5, konM_eq, AMK, CZ, Option.map, List.getElem?_cons_zero, List.getElem?_cons_succ, List.mem_cons, List.not_mem_nil, if_false, if_true, Nat.reduceAdd, Nat.reduceLT, Nat.reduceLeDiff, Nat.reduceEqDiff, true_and, and_true, List.length_nil, List.length_cons, or_true, true_or, or_false, false_or, Option.some.injEq, Sum.inl.injEq, Sum.inr.injEq, exists_eq_left', exists_eq_left, Int.reduceLE, Int.reduceLT, Int.reduceNeg, Int.reduceAdd, Int.reduceMul, Int.reduceSub, Int.reduceToNat, inR, Nat.zero_ne_one, false_and, Nat.succ_ne_zero, reduceCtorEq, false_implies, true_implies, not_false_eq_true, not_true_eq_false, Int.reduceEq, KRE, C_Reader_readText, FD, x0, h5]
    repeat (first | refine And.intro (by omega) ?_ | refine And.intro (fun _ _ => okt_nn (by omega)) ?_)
    all_goals first | exact R | exact ⟨by omega, R⟩ | exact ⟨_, rfl, R⟩
theorem ydS_r {g : Nat → Int} {E : Nat} (hE : E ≤ 900) : ∀ (d a : Nat) (f r : Nat → Int) (kb hb : Int), a ≤ 900 → rdI r kb hb → (ydS g E d a f r kb hb).1 = 0 → rdI (ydS g E d a f r kb hb).2.2.2.1 (ydS g E d a f r kb hb).2.2.2.2.1 (ydS g E d a f r kb hb).2.2.2.2.2
  | 0, a, f, r, kb, hb, ha, hi, hz => hi
  | d + 1, a, f, r, kb, hb, ha, hi, hz => by
    unfold ydS at *
    by_cases c : E ≤ a
    · rw [if_pos c]
      exact hi
    · rw [if_neg c] at hz ⊢
      have P := clS_pl (g := g) (f := f) (r := r) (kb := kb) (hb := hb) hE ha (by omega)
      by_cases cz : (clS g E a f r kb hb).1 = 0
      · rw [if_neg (fun z => z cz)] at hz ⊢
        exact ydS_r hE d _ _ _ _ _ P.1 (rdI_0 hi cz) hz
      · rw [if_pos cz] at hz
        exact absurd hz cz
theorem rdI_r0 (r : Nat → Int) : rdI (r0F r) 0 0 := ⟨⟨by simp [r0F], by simp [r0F]⟩, fun j j1 j2 => by
  unfold r0F
  rw [if_pos (by omega), if_neg (by omega)]
  omega, ⟨by omega, by omega⟩, ⟨by omega, by omega⟩⟩
set_option maxHeartbeats 600000 in
set_option maxRecDepth 20000 in
theorem textC_ok {M : Mm} {g f r : Nat → Int} {n L : Nat} (hL : M 1 2 = L) (hn : n ≤ L) (hL9 : L ≤ 900) (hp : oct g n) (h2 : ∀ j, 0 ≤ M 2 j ∧ M 2 j ≤ 255) (hg : ∀ j, j < n → M 2 j = g j) (hT : ∀ t, t < 8 → wfT M (9 + 3 * t)) (h5 : wfT M 5) : CallI m_Reader_readText [.inr 1, .inl (n : Int)] M (fun x M' => txQ M (ydS g n 901 (tkA g n 0) f (r0F r) 0 0) x M') := by
  have hn9 : n ≤ 900 := by omega
  have ta9 := tkA_le (g := g) hn9 (show (0 : Nat) ≤ 900 by omega)
  have yin := ydS_in (g := g) hn9 901 (tkA g n 0) f (r0F r) 0 0 ta9
  have yr := ydS_r (g := g) hn9 901 (tkA g n 0) f (r0F r) 0 0 ta9 (rdI_r0 r)
  have o := fun b j h1 h2 h3 => mTx_o (M := M) (n := n) (b := b) (j := j) h1 h2 h3
  have v4 : mTx M n 1 4 = n := by simp [mTx, mset, mWip]
  have v6 : mTx M n 1 6 = ((0 : Nat) : Int) := by simp [mTx, mset, mWip]
  have v9 : mTx M n 1 9 = 0 ∧ mTx M n 1 10 = 0 ∧ mTx M n 1 11 = 0 := by simp [mTx, mset, mWip]
  have v3 : mTx M n 3 3 = 0 ∧ mTx M n 3 4 = 70 ∧ mTx M n 3 5 = 6 ∧ mTx M n 3 6 = 5 := by simp [mTx, mset, mWip]
  have v8 : ∀ t, t < 8 → mTx M n 8 t = -1 := fun t ht => by
    simp [mTx, mset, mWip]
    intro z
    omega
  have e2 : ∀ j, mTx M n 2 j = M 2 j := fun j => o _ _ (by omega) (by omega) (by omega)
  have w3 : wfS (mTx M n) 3 := by
    refine ⟨by rw [v3.1]; omega, by rw [v3.2.1]; omega, by rw [v3.2.2.1]; omega, by rw [v3.2.2.2]; omega, fun t ht => ?_, wfT_cells (fun b p1 p2 j => o _ _ (by omega) (by omega) (by omega)) h5, fun t ht => ?_⟩
    · exact wfT_cells (fun b p1 p2 j => o _ _ (by omega) (by omega) (by omega)) (hT t ht)
    · rw [show (3 + 5 : Nat) = 8 from rfl, v8 t ht]; omega
  have rz : ∀ j, 1 ≤ j → j ≤ 3 → r0F r j = -1 := fun j j1 j2 => by
    unfold r0F
    rw [if_pos (by omega), if_neg (by omega)]
  have r00 : r0F r 0 = 0 := by simp [r0F]
  have D0 : drC (mTx M n) f (r0F r) 0 0 := by
    refine ⟨w3, ⟨?_, ?_, ?_, ?_⟩, ⟨?_, v9.2.1, v9.2.2⟩, fun t ht => ?_, fun t ht => ?_, fun t h1 h2 => v8 t h2⟩
    · rw [v3.1, r00]
    · rw [v3.2.1, rz 1 (by omega) (by omega)]; rfl
    · rw [v3.2.2.1, rz 2 (by omega) (by omega)]; rfl
    · rw [v3.2.2.2, rz 3 (by omega) (by omega)]; rfl
    · rw [v9.1, rz 1 (by omega) (by omega), rz 2 (by omega) (by omega), rz 3 (by omega) (by omega)]; rfl
    · rw [r00] at ht; exact absurd ht (Nat.not_lt_zero _)
    · rw [r00] at ht; exact absurd ht (Nat.not_lt_zero _)
  have F0 : FrP clP (mTx M n) (mTx M n) := FrP.rf
  have Ft : FrP tcP M (mTx M n) := fun b j z => o _ _ (by unfold tcP at z; omega) (by unfold tcP at z; omega) (by unfold tcP at z; omega)
  have AD := Reader_advance_ok (M := mTx M n) (b := 0) (E := n) v6 v4 hn9 (by omega) (fun j => by rw [e2]; exact ⟨by have := h2 j; omega, by have := h2 j; omega⟩) (fun j => by rw [e2]; exact (h2 j).1)
  have hg' : ∀ j, j < n → mTx M n 2 j = g j := fun j hj => by rw [e2]; exact hg j hj
  rw [tkA_cg hg'] at AD
  obtain ⟨G1, T1⟩ := tsC_tkM (a := tkA g n 0) hg' (fun j => by rw [e2]; exact h2 j) v4 hn9 ta9
  have D1 := drC_st (r := r0F r) ⟨by omega, by omega⟩ D0 G1
  have L1 := textC_loop (x1 := some (.inl (n : Int))) (Qc := fun v M' => ∃ x, v = some (.inl x) ∧ txQ M (ydS g n 901 (tkA g n 0) f (r0F r) 0 0) x M') hp hn9 901 (tkA g n 0) 0 f (r0F r) 0 0 (tkM (mTx M n) n (tkA g n 0)) (by omega) (by omega) (by omega) ta9 T1 D1 (rdI_r0 r) (fun x M' x3 z => by
    exact textC_76 (Ft.tr (G1.wd (fun b j w => by unfold stC at w; unfold tcP; omega))) yin.1 (fun w => (yr w).1) z)
  rw [show ((0 : Nat) : Int) = 0 from rfl] at L1
  have mn : min (n : Int) (L : Int) = n := by omega
  have WI := Stock_wipe_ok (s := 3) (M := mset (mset M 1 4 (n : Int)) 1 6 0) isStk_3
  have AD' : CallV m_Reader_advance [.inr 1] (mset (mset (mset (mset (mset (mset (mset (mWip (mset (mset M 1 4 (n : Int)) 1 6 0) 3 8) 3 3 0) 3 4 70) 3 5 6) 3 6 5) 1 9 0) 1 10 0) 1 11 0) (fun M' => M' = tkM (mTx M n) n (tkA g n 0)) := AD
  clear AD
  generalize tkM (mTx M n) n (tkA g n 0) = M1 at *
  generalize hX : txQ M = X at *
  refine callP_of (by decide) (by decide) (Nat.le_of_ble_eq_true rfl) (wpm_of (cuts := [47]) (by decide) 60 _ _ _ _ ?_)
  rw [show lM m_Reader_readText = 4 from rfl]
  simp (maxSteps := 2000000) only [↓reduceIte, wp_eq, wpd_eq, kont_eq, STP1, STP2, STP3, STP4, STP5, konM_eq, AMK, CZ, Option.map, List.getElem?_cons_zero, List.getElem?_cons_succ, List.mem_cons, List.not_mem_nil, if_false, if_true, Nat.reduceAdd, Nat.reduceLT, Nat.reduceLeDiff, Nat.reduceEqDiff, true_and, and_true, List.length_nil, List.length_cons, or_true, true_or, or_false, false_or, Option.some.injEq, Sum.inl.injEq, Sum.inr.injEq, exists_eq_left', exists_eq_left, Int.reduceLE, Int.reduceLT, Int.reduceNeg, Int.reduceAdd, Int.reduceMul, Int.reduceSub, Int.reduceToNat, inR, Nat.zero_ne_one, false_and, Nat.succ_ne_zero, reduceCtorEq, false_implies, true_implies, not_false_eq_true, not_true_eq_false, Int.reduceEq, KRE, C_Reader_readText, FD, L3, hL, mn]
  repeat (first | refine And.intro (by omega) ?_ | refine And.intro (fun _ _ => okt_nn (by omega)) ?_)
  refine WI.eq ?_
  try simp (maxSteps := 2000000) only [↓reduceIte, wp_eq, wpd_eq, kont_eq, STP1, STP2, STP3, STP4, STP5, konM_eq, AMK, CZ, Option.map, List.getElem?_cons_zero, List.getElem?_cons_succ, List.mem_cons, List.not_mem_nil, if_false, if_true, Nat.reduceAdd, Nat.reduceLT, Nat.reduceLeDiff, Nat.reduceEqDiff, true_and, and_true, List.length_nil, List.length_cons, or_true, true_or, or_false, false_or, Option.some.injEq, Sum.inl.injEq, Sum.inr.injEq, exists_eq_left', exists_eq_left, Int.reduceLE, Int.reduceLT, Int.reduceNeg, Int.reduceAdd, Int.reduceMul, Int.reduceSub, Int.reduceToNat, inR, Nat.zero_ne_one, false_and, Nat.succ_ne_zero, reduceCtorEq, false_implies, true_implies, not_false_eq_true, not_true_eq_false, Int.reduceEq, KRE, C_Reader_readText, FD, L3]
  repeat (first | refine And.intro (by omega) ?_ | refine And.intro (fun _ _ => okt_nn (by omega)) ?_)
  refine AD'.eq ?_
  try simp (maxSteps := 2000000) only [↓reduceIte, wp_eq, wpd_eq, kont_eq, STP1, STP2, STP3, STP4, STP5, konM_eq, AMK, CZ, Option.map, List.getElem?_cons_zero, List.getElem?_cons_succ, List.mem_cons, List.not_mem_nil, if_false, if_true, Nat.reduceAdd, Nat.reduceLT, Nat.reduceLeDiff, Nat.reduceEqDiff, true_and, and_true, List.length_nil, List.length_cons, or_true, true_or, or_false, false_or, Option.some.injEq, Sum.inl.injEq, Sum.inr.injEq, exists_eq_left', exists_eq_left, Int.reduceLE, Int.reduceLT, Int.reduceNeg, Int.reduceAdd, Int.reduceMul, Int.reduceSub, Int.reduceToNat, inR, Nat.zero_ne_one, false_and, Nat.succ_ne_zero, reduceCtorEq, false_implies, true_implies, not_false_eq_true, not_true_eq_false, Int.reduceEq, KRE, C_Reader_readText, FD, L3]
  repeat (first | refine And.intro (by omega) ?_ | refine And.intro (fun _ _ => okt_nn (by omega)) ?_)
  exact L1
