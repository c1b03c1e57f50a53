/-! GROWTH. -/
abbrev Pk : Type := Int × Int × Int
def pkS (T : Nat → Rw) (A : Rw) (f : Int) (Y : Nat → Int) (lap bnd mrg : Int) (t : Nat) (x : Pk) : Pk := if Y t = -1 ∧ why (best A (T t) lap) bnd mrg = 0 ∧ (0 ≤ f + (best A (T t) lap).2.1 ∧ f + (best A (T t) lap).2.1 ≤ 900) ∧ (x.1 = -1 ∨ x.2.2 < (best A (T t) lap).2.2.1) then ((t : Int), f + (best A (T t) lap).2.1, (best A (T t) lap).2.2.1) else x
def pk (T : Nat → Rw) (Y : Nat → Int) (lap bnd mrg : Int) (n : Nat) : Pk := foldN (pkS T (chr T Y (-1) n) (cSpan T Y (-1) n).1 Y lap bnd mrg) (-1, 0, -1) n
def pkR (Y : Nat → Int) (n : Nat) (bnd : Int) (x : Pk) : Prop := x = (-1, 0, -1) ∨ ((0 ≤ x.1 ∧ x.1 < n) ∧ Y x.1.toNat = -1 ∧ (0 ≤ x.2.1 ∧ x.2.1 ≤ 900) ∧ (0 ≤ x.2.2 ∧ x.2.2 ≤ 100) ∧ bnd ≤ x.2.2)
theorem pk_R {T : Nat → Rw} {A : Rw} {f : Int} {Y : Nat → Int} {lap bnd mrg : Int} (hA : 0 ≤ A.2.1 ∧ A.2.1 ≤ 924) : ∀ {m : Nat}, (∀ t, t < m → okT (T t)) → pkR Y m bnd (foldN (pkS T A f Y lap bnd mrg) (-1, 0, -1) m)
  | 0, _ => Or.inl rfl
  | m + 1, h => by
    have i := pk_R (f := f) (Y := Y) (lap := lap) (bnd := bnd) (mrg := mrg) hA (m := m) (fun t ht => h t (by omega))
    rw [foldN]
    generalize foldN (pkS T A f Y lap bnd mrg) (-1, 0, -1) m = x at *
    have ob := okB_best (A := A) (B := T m) (lap := lap) hA (by have := (h m (by omega)).1; omega)
    unfold pkS
    split
    · rename_i c
      obtain ⟨w1, w2, w3, w4⟩ := why_0 ob c.2.1
      right
      refine ⟨⟨by show 0 ≤ (m : Int); omega, by show (m : Int) < ((m + 1 : Nat) : Int); omega⟩, c.1, c.2.2.1, w3, w4⟩
    · rcases i with i | i
      · exact Or.inl i
      · right
        exact ⟨⟨i.1.1, by have := i.1.2; omega⟩, i.2⟩
theorem pk_congr {T T' : Nat → Rw} {Y Y' : Nat → Int} {lap bnd mrg : Int} {n : Nat} (h : ∀ t, t < n → T t = T' t ∧ Y t = Y' t) : pk T Y lap bnd mrg n = pk T' Y' lap bnd mrg n := by
  unfold pk
  rw [chr_congr h, cSpan_congr h]
  refine foldN_congr (fun t ht x => ?_)
  unfold pkS
  rw [(h t ht).1, (h t ht).2]
def updI (Y : Nat → Int) (t : Nat) (v : Int) : Nat → Int := fun k => if k = t then v else Y k
def gwY (T : Nat → Rw) (lap bnd mrg : Int) (n : Nat) (Y : Nat → Int) : Nat → Nat → Int
  | 0 => Y
  | r + 1 => if (pk T (gwY T lap bnd mrg n Y r) lap bnd mrg n).1 = -1 then gwY T lap bnd mrg n Y r else updI (gwY T lap bnd mrg n Y r) (pk T (gwY T lap bnd mrg n Y r) lap bnd mrg n).1.toNat (pk T (gwY T lap bnd mrg n Y r) lap bnd mrg n).2.1
def gwP (T : Nat → Rw) (lap bnd mrg : Int) (n : Nat) (Y : Nat → Int) (r : Nat) : Pk := pk T (gwY T lap bnd mrg n Y r) lap bnd mrg n
/-- c timbers grow -/
def gwC (T : Nat → Rw) (lap bnd mrg : Int) (n : Nat) (Y : Nat → Int) (c : Nat) : Prop := (∀ i, i < c → (gwP T lap bnd mrg n Y i).1 ≠ -1) ∧ (gwP T lap bnd mrg n Y c).1 = -1
theorem gwC_u {T : Nat → Rw} {lap bnd mrg : Int} {n : Nat} {Y : Nat → Int} {c d : Nat} (h : gwC T lap bnd mrg n Y c) (g : gwC T lap bnd mrg n Y d) : c = d := by
  rcases Nat.lt_trichotomy c d with l | l | l
  · exact absurd h.2 (g.1 c l)
  · exact l
  · exact absurd g.2 (h.1 d l)
theorem gwY_ok {T : Nat → Rw} {lap bnd mrg : Int} {n : Nat} {Y : Nat → Int} (h : okC T Y n) : ∀ r, okC T (gwY T lap bnd mrg n Y r) n ∧ pkR (gwY T lap bnd mrg n Y r) n bnd (gwP T lap bnd mrg n Y r)
  | 0 => ⟨h, pk_R (chr_R h).2 (fun t ht => (h.2 t ht).1)⟩
  | r + 1 => by
    obtain ⟨i1, i2⟩ := gwY_ok h r
    have key : okC T (gwY T lap bnd mrg n Y (r + 1)) n := by
      refine ⟨h.1, fun t ht => ⟨(h.2 t ht).1, ?_⟩⟩
      have := (i1.2 t ht).2
      rw [gwY]
      split
      · exact this
      · rename_i c
        rcases i2 with i2 | i2
        · exact absurd (congrArg Prod.fst i2) c
        · unfold updI
          split
          · have := i2.2.2.1
            unfold gwP at this
            omega
          · exact this
    exact ⟨key, pk_R (chr_R key).2 (fun t ht => (h.2 t ht).1)⟩
def undN (Y : Nat → Int) (n : Nat) : Int := sumN (fun t => if Y t = -1 then 1 else 0) n
theorem und_in (Y : Nat → Int) (n : Nat) : 0 ≤ undN Y n ∧ undN Y n ≤ n := by
  have := sumN_in (f := fun t => if Y t = -1 then 1 else 0) (a := 0) (b := 1) (n := n) (fun j hj => by split <;> omega)
  unfold undN
  omega
theorem und_upd {Y : Nat → Int} {n t : Nat} {v : Int} (ht : t < n) (h : Y t = -1) (hv : v ≠ -1) : undN (updI Y t v) n + 1 = undN Y n := by
  have e := sumN_add (fun k => if updI Y t v k = -1 then 1 else 0) (fun k => if k = t then 1 else 0) n
  rw [sumN_ind, if_pos ht] at e
  have e2 : undN Y n = sumN (fun k => (if updI Y t v k = -1 then 1 else 0) + (if k = t then 1 else 0)) n := by
    refine sumN_congr (fun k hk => ?_)
    unfold updI
    by_cases c : k = t
    · subst c
      simp [h, hv]
    · rw [if_neg c, if_neg c]
      exact (Int.add_zero _).symm
  unfold undN at *
  omega
theorem gw_und {T : Nat → Rw} {lap bnd mrg : Int} {n : Nat} {Y : Nat → Int} (h : okC T Y n) : ∀ r, (∀ i, i < r → (gwP T lap bnd mrg n Y i).1 ≠ -1) → undN (gwY T lap bnd mrg n Y r) n + r ≤ n
  | 0, _ => by
    have := (und_in Y n).2
    show undN Y n + 0 ≤ n
    omega
  | r + 1, hr => by
    have i := gw_und h r (fun i hi => hr i (by omega))
    have p := (gwY_ok (lap := lap) (bnd := bnd) (mrg := mrg) h r).2
    have c := hr r (by omega)
    rcases p with p | p
    · exact absurd (congrArg Prod.fst p) c
    · have e : gwY T lap bnd mrg n Y (r + 1) = updI (gwY T lap bnd mrg n Y r) (gwP T lap bnd mrg n Y r).1.toNat (gwP T lap bnd mrg n Y r).2.1 := by
        rw [gwY]
        exact if_neg c
      have u := und_upd (n := n) (t := (gwP T lap bnd mrg n Y r).1.toNat) (v := (gwP T lap bnd mrg n Y r).2.1) (by omega) p.2.1 (by omega)
      rw [e]
      omega
/-- at most n grow -/
theorem gwC_n {T : Nat → Rw} {lap bnd mrg : Int} {n : Nat} {Y : Nat → Int} {c : Nat} (h : okC T Y n) (hc : ∀ i, i < c → (gwP T lap bnd mrg n Y i).1 ≠ -1) : c ≤ n ∧ (c = n → (gwP T lap bnd mrg n Y c).1 = -1) := by
  have u := gw_und h c hc
  have u0 := (und_in (gwY T lap bnd mrg n Y c) n).1
  refine ⟨by omega, fun e => ?_⟩
  rcases (gwY_ok (lap := lap) (bnd := bnd) (mrg := mrg) h c).2 with p | p
  · exact congrArg Prod.fst p
  · exfalso
    have u2 := und_upd (n := n) (t := (gwP T lap bnd mrg n Y c).1.toNat) (v := 0) (by omega) p.2.1 (by omega)
    have u3 := (und_in (updI (gwY T lap bnd mrg n Y c) (gwP T lap bnd mrg n Y c).1.toNat 0) n).1
    omega
set_option maxHeartbeats 4000000 in
set_option maxRecDepth 20000 in
theorem RingDater_isYear_ok {y : Int} {M : Mm} (hy : inR y) : CallI m_RingDater_isYear [.inl y] M (fun x M' => x = (if 0 ≤ y ∧ y ≤ 900 then 1 else 0) ∧ M' = M) := by
  simp only [inR] at hy
  refine callP_of (by decide) (by decide) (Nat.le_of_ble_eq_true rfl) (wpm_of (cuts := []) (by decide) 50 _ _ _ _ ?_)
  rw [show lM m_RingDater_isYear = 1 from rfl]
  simp (maxSteps := 2000000) only [↓reduceIte, wp_eq, wpd_eq, kont_eq, STP1, STP2, STP3, STP4, STP5, konM_eq, AMK, CZ, Option.map, List.getElem?_cons_zero, List.getElem?_cons_succ, List.mem_cons, List.not_mem_nil, if_false, if_true, Nat.reduceAdd, Nat.reduceLT, Nat.reduceLeDiff, Nat.reduceEqDiff, true_and, and_true, List.length_nil, List.length_cons, or_true, true_or, or_false, false_or, Option.some.injEq, Sum.inl.injEq, Sum.inr.injEq, exists_eq_left', exists_eq_left, Int.reduceLE, Int.reduceLT, Int.reduceNeg, Int.reduceAdd, Int.reduceMul, Int.reduceSub, Int.reduceToNat, inR, Nat.zero_ne_one, false_and, Nat.succ_ne_zero, reduceCtorEq, false_implies, true_implies, not_false_eq_true, not_true_eq_false, Int.reduceEq, KRE, C_RingDater_isYear]
  grind
def mCpR (M : Mm) (a f : Nat) (i : Nat) : Mm := fun b j => if b = a ∧ j < i then M f j else M b j
set_option maxHeartbeats 4000000 in
set_option maxRecDepth 20000 in
theorem RingDater_copyRow_ok {a f n : Nat} {M : Mm} (la : lay a = .inl (0, n)) (lf : lay f = .inl (0, n)) (hn : n ≤ 1000) (hne : a ≠ f) : CallV m_RingDater_copyRow [.inr f, .inr a] M (fun M' => M' = mCpR M a f n) := by
  refine callP_of (by decide) (by decide) (Nat.le_of_ble_eq_true rfl) (wpm_of (cuts := [2]) (by decide) 50 _ _ _ _ ?_)
  rw [show lM m_RingDater_copyRow = 3 from rfl]
  simp (maxSteps := 2000000) only [↓reduceIte, wp_eq, wpd_eq, kont_eq, STP1, STP2, STP3, STP4, STP5, konM_eq, AMK, CZ, Option.map, List.getElem?_cons_zero, List.getElem?_cons_succ, List.mem_cons, List.not_mem_nil, if_false, if_true, Nat.reduceAdd, Nat.reduceLT, Nat.reduceLeDiff, Nat.reduceEqDiff, true_and, and_true, List.length_nil, List.length_cons, or_true, true_or, or_false, false_or, Option.some.injEq, Sum.inl.injEq, Sum.inr.injEq, exists_eq_left', exists_eq_left, Int.reduceLE, Int.reduceLT, Int.reduceNeg, Int.reduceAdd, Int.reduceMul, Int.reduceSub, Int.reduceToNat, inR, Nat.zero_ne_one, false_and, Nat.succ_ne_zero, reduceCtorEq, false_implies, true_implies, not_false_eq_true, not_true_eq_false, Int.reduceEq, KRE, C_RingDater_copyRow, la, lf]
  refine loopQ n (fun k ls M1 => M1 = mCpR M a f k ∧ ls = [some (.inr f), some (.inr a), some (.inl k)]) ?_ _ _ ⟨?_, rfl⟩
  · rintro k _ _ hk ⟨rfl, rfl⟩ K
    by_cases hz : (n : Int) ≤ k
    · refine wpm_of (cuts := [2]) (by decide) 100 _ _ _ _ ?_
      simp (maxSteps := 2000000) only [↓reduceIte, wp_eq, wpd_eq, kont_eq, STP1, STP2, STP3, STP4, STP5, konM_eq, AMK, CZ, Option.map, List.getElem?_cons_zero, List.getElem?_cons_succ, List.mem_cons, List.not_mem_nil, if_false, if_true, Nat.reduceAdd, Nat.reduceLT, Nat.reduceLeDiff, Nat.reduceEqDiff, true_and, and_true, List.length_nil, List.length_cons, or_true, true_or, or_false, false_or, Option.some.injEq, Sum.inl.injEq, Sum.inr.injEq, exists_eq_left', exists_eq_left, Int.reduceLE, Int.reduceLT, Int.reduceNeg, Int.reduceAdd, Int.reduceMul, Int.reduceSub, Int.reduceToNat, inR, Nat.zero_ne_one, false_and, Nat.succ_ne_zero, reduceCtorEq, false_implies, true_implies, not_false_eq_true, not_true_eq_false, Int.reduceEq, KRE, C_RingDater_copyRow, la, lf, hz]
      repeat (refine ⟨by omega, ?_⟩)
      try (first | (show _ ≤ _; omega) | (show _ < _; omega))
      rw [show k = n by omega]
    · have hz2 : (k : Int) < n := by omega
      refine wpm_of (cuts := [2]) (by decide) 100 _ _ _ _ ?_
      simp (maxSteps := 2000000) only [↓reduceIte, wp_eq, wpd_eq, kont_eq, STP1, STP2, STP3, STP4, STP5, konM_eq, AMK, CZ, Option.map, List.getElem?_cons_zero, List.getElem?_cons_succ, List.mem_cons, List.not_mem_nil, if_false, if_true, Nat.reduceAdd, Nat.reduceLT, Nat.reduceLeDiff, Nat.reduceEqDiff, true_and, and_true, List.length_nil, List.length_cons, or_true, true_or, or_false, false_or, Option.some.injEq, Sum.inl.injEq, Sum.inr.injEq, exists_eq_left', exists_eq_left, Int.reduceLE, Int.reduceLT, Int.reduceNeg, Int.reduceAdd, Int.reduceMul, Int.reduceSub, Int.reduceToNat, inR, Nat.zero_ne_one, false_and, Nat.succ_ne_zero, reduceCtorEq, false_implies, true_implies, not_false_eq_true, not_true_eq_false, Int.reduceEq, KRE, C_RingDater_copyRow, la, lf, hz, hz2, natT]
      repeat (refine ⟨by omega, ?_⟩)
      try (first | (show _ ≤ _; omega) | (show _ < _; omega))
      refine WPm.eqM (K (by omega) _ _ ⟨rfl, rfl⟩) ?_
      have e : mCpR M a f k f k = M f k := if_neg (fun z => hne z.1.symm)
      rw [e]
      funext b j
      simp only [mset, mCpR]
      by_cases hj : j = k
      · subst hj
        grind
      · grind
  · funext b j
    simp only [mCpR]
    grind
set_option maxHeartbeats 4000000 in
set_option maxRecDepth 20000 in
theorem Growth_pick_ok {n : Nat} {T : Nat → Rw} {Y : Nat → Int} {A : Rw} {f lap bnd mrg : Int} {M : Mm} (hw : wfS M 76) (hb : benOK M) (hn : n = (M 76 3).toNat) (hT : ∀ t, t < 8 → stT M 76 t = T t) (hY : ∀ t, t < 8 → M 72 t = Y t) (hc : okC T Y n) (hA : finR M 48 924 A) (hf : M 33 7 = f) (hf2 : -1 ≤ f ∧ f ≤ 900) (h5 : M 76 5 = lap) (h6 : M 76 6 = mrg) (hbd : 0 ≤ bnd ∧ bnd ≤ 1000) :
    CallI m_Growth_pick [.inr 68, .inr 76, .inr 33, .inl bnd] M (fun x M' => x = (foldN (pkS T A f Y lap bnd mrg) (-1, 0, -1) n).1 ∧ (x ≠ -1 → M' 68 4 = (foldN (pkS T A f Y lap bnd mrg) (-1, 0, -1) n).2.1 ∧ M' 68 5 = (foldN (pkS T A f Y lap bnd mrg) (-1, 0, -1) n).2.2) ∧ benOK M' ∧ FrP (fun b j => 41 ≤ b ∧ b < 48 ∨ 58 ≤ b ∧ b < 60 ∨ b = 68 ∧ (j = 4 ∨ j = 5)) M M') := by
  obtain ⟨l0, l1, l2, l3, l4⟩ := isStk_76
  have w0 := hw.1
  have w2 := hw.2.2.1
  have w3 := hw.2.2.2.1
  have n8 := hc.1
  have f1 : lay 58 = .inr (.inl (1, [some (58 + 1), none, none, none, none, none])) := isFnd_58.1
  have hA2 : 0 ≤ A.2.1 ∧ A.2.1 ≤ 924 := hA.2.1
  refine callP_of (by decide) (by decide) (Nat.le_of_ble_eq_true rfl) (wpm_of (cuts := [6]) (by decide) 50 _ _ _ _ ?_)
  rw [show lM m_Growth_pick = 9 from rfl]
  simp (maxSteps := 2000000) only [↓reduceIte, wp_eq, wpd_eq, kont_eq, STP1, STP2, STP3, STP4, STP5, konM_eq, AMK, CZ, Option.map, List.getElem?_cons_zero, List.getElem?_cons_succ, List.mem_cons, List.not_mem_nil, if_false, if_true, Nat.reduceAdd, Nat.reduceLT, Nat.reduceLeDiff, Nat.reduceEqDiff, true_and, and_true, List.length_nil, List.length_cons, or_true, true_or, or_false, false_or, Option.some.injEq, Sum.inl.injEq, Sum.inr.injEq, exists_eq_left', exists_eq_left, Int.reduceLE, Int.reduceLT, Int.reduceNeg, Int.reduceAdd, Int.reduceMul, Int.reduceSub, Int.reduceToNat, inR, Nat.zero_ne_one, false_and, Nat.succ_ne_zero, reduceCtorEq, false_implies, true_implies, not_false_eq_true, not_true_eq_false, Int.reduceEq, KRE, C_Growth_pick, FG, FB, l0]
  refine loopQ n (fun k ls M1 => (∃ x, x = foldN (pkS T A f Y lap bnd mrg) (-1, 0, -1) k ∧ (x.1 ≠ -1 → M1 68 4 = x.2.1 ∧ M1 68 5 = x.2.2) ∧ benOK M1 ∧ FrP (fun b j => 41 ≤ b ∧ b < 48 ∨ 58 ≤ b ∧ b < 60 ∨ b = 68 ∧ (j = 4 ∨ j = 5)) M M1 ∧ ∃ a6 a7 a8, ls = [some (.inr 68), some (.inr 76), some (.inr 33), some (.inl bnd), some (.inl x.1), some (.inl k), a6, a7, a8])) ?_ _ _ ⟨_, rfl, fun z => absurd rfl z, hb, FrP.rf, none, none, none, rfl⟩
  rintro k _ M1 hk ⟨x, hx, i1, i2, i3, a6, a7, a8, rfl⟩ K
  have z3 : M1 76 3 = n := by rw [i3 76 3 (by omega)]; omega
  by_cases hz : (n : Int) ≤ k
  · refine wpm_of (cuts := [6]) (by decide) 100 _ _ _ _ ?_
    simp (maxSteps := 2000000) only [↓reduceIte, wp_eq, wpd_eq, kont_eq, STP1, STP2, STP3, STP4, STP5, konM_eq, AMK, CZ, Option.map, List.getElem?_cons_zero, List.getElem?_cons_succ, List.mem_cons, List.not_mem_nil, if_false, if_true, Nat.reduceAdd, Nat.reduceLT, Nat.reduceLeDiff, Nat.reduceEqDiff, true_and, and_true, List.length_nil, List.length_cons, or_true, true_or, or_false, false_or, Option.some.injEq, Sum.inl.injEq, Sum.inr.injEq, exists_eq_left', exists_eq_left, Int.reduceLE, Int.reduceLT, Int.reduceNeg, Int.reduceAdd, Int.reduceMul, Int.reduceSub, Int.reduceToNat, inR, Nat.zero_ne_one, false_and, Nat.succ_ne_zero, reduceCtorEq, false_implies, true_implies, not_false_eq_true, not_true_eq_false, Int.reduceEq, KRE, C_Growth_pick, FG, FB, l0, z3, hz]
    repeat (refine ⟨by omega, ?_⟩)
    try (first | (show _ ≤ _; omega) | (show _ < _; omega))
    rw [show n = k by omega, ← hx]
    exact ⟨rfl, i1, i2, i3⟩
  · have hz2 : ¬ (8 : Int) ≤ k := by omega
    have y1 : M1 72 k = Y k := by rw [i3 72 k (by omega)]; exact hY k (by omega)
    have yk := (hc.2 k (by omega)).2
    have eF : foldN (pkS T A f Y lap bnd mrg) (-1, 0, -1) (k + 1) = pkS T A f Y lap bnd mrg k x := by rw [foldN, ← hx]
    have xr : pkR Y k bnd x := by rw [hx]; exact pk_R hA2 (fun t ht => (hc.2 t (by omega)).1)
    by_cases cy : Y k = -1
    · have K' := fun M' m1 m2 m3 a6 a7 a8 => K (by omega) _ M' ⟨_, rfl, m1, m2, m3, a6, a7, a8, rfl⟩
      rw [eF] at K'
      unfold pkS at K'
      have cy' := eq_true cy
      refine wpm_of (cuts := [6]) (by decide) 100 _ _ _ _ ?_
      simp (maxSteps := 2000000) only [↓reduceIte, wp_eq, wpd_eq, kont_eq, STP1, STP2, STP3, STP4, STP5, konM_eq, AMK, CZ, Option.map, List.getElem?_cons_zero, List.getElem?_cons_succ, List.mem_cons, List.not_mem_nil, if_false, if_true, Nat.reduceAdd, Nat.reduceLT, Nat.reduceLeDiff, Nat.reduceEqDiff, true_and, and_true, List.length_nil, List.length_cons, or_true, true_or, or_false, false_or, Option.some.injEq, Sum.inl.injEq, Sum.inr.injEq, exists_eq_left', exists_eq_left, Int.reduceLE, Int.reduceLT, Int.reduceNeg, Int.reduceAdd, Int.reduceMul, Int.reduceSub, Int.reduceToNat, inR, Nat.zero_ne_one, false_and, Nat.succ_ne_zero, reduceCtorEq, false_implies, true_implies, not_false_eq_true, not_true_eq_false, Int.reduceEq, KRE, C_Growth_pick, FG, FB, l0, z3, hz, hz2, natT, y1, cy']
      repeat (refine ⟨by omega, ?_⟩)
      try (first | (show _ ≤ _; omega) | (show _ < _; omega))
      have e76 : ∀ b, 76 ≤ b → b < 76 + 30 → ∀ j, M1 b j = M b j := fun b p1 p2 j => i3 b j (by omega)
      refine (Stock_timberAt_ok (t := (k : Int)) isStk_76 ⟨by omega, by omega⟩ (wfS_cells e76 hw)).eq ?_
      rw [tmA_k (k := k) (by omega)]
      have tk := l4 k (by omega)
      have eT : tRw M1 (76 + 6 + 3 * k) = T k := (stT_cells (t := k) e76 (by omega)).trans (hT k (by omega))
      have v5 : M1 76 5 = lap := (i3 76 5 (by omega)).trans h5
      simp (maxSteps := 2000000) only [↓reduceIte, wp_eq, wpd_eq, kont_eq, STP1, STP2, STP3, STP4, STP5, konM_eq, AMK, CZ, Option.map, List.getElem?_cons_zero, List.getElem?_cons_succ, List.mem_cons, List.not_mem_nil, if_false, if_true, Nat.reduceAdd, Nat.reduceLT, Nat.reduceLeDiff, Nat.reduceEqDiff, true_and, and_true, List.length_nil, List.length_cons, or_true, true_or, or_false, false_or, Option.some.injEq, Sum.inl.injEq, Sum.inr.injEq, exists_eq_left', exists_eq_left, Int.reduceLE, Int.reduceLT, Int.reduceNeg, Int.reduceAdd, Int.reduceMul, Int.reduceSub, Int.reduceToNat, inR, Nat.zero_ne_one, false_and, Nat.succ_ne_zero, reduceCtorEq, false_implies, true_implies, not_false_eq_true, not_true_eq_false, Int.reduceEq, KRE, C_Growth_pick, FG, FB, l0, v5]
      refine (Bench_seekOnChronology_ok (o := 76 + 6 + 3 * k) (A := A) tk i2 (finR_cells (fun b p1 p2 j => i3 b j (by omega)) hA) ((wfS_cells e76 hw).2.2.2.2.1 k (by omega)) (by rw [eT]; exact (hc.2 k (by omega)).1) (by omega) (by omega)).mono (fun y M3 z => ?_)
      obtain ⟨rfl, z1, z2, z4⟩ := z
      rw [eT] at z1
      have u6 : M3 76 6 = mrg := ((z4 76 6 (by omega)).trans (i3 76 6 (by omega))).trans h6
      have u7 : M3 33 7 = f := ((z4 33 7 (by omega)).trans (i3 33 7 (by omega))).trans hf
      have ob := okB_best (A := A) (B := T k) (lap := lap) hA2 (by have := (hc.2 k (by omega)).1.1; omega)
      have fr3 : FrP (fun b j => 41 ≤ b ∧ b < 48 ∨ 58 ≤ b ∧ b < 60 ∨ b = 68 ∧ (j = 4 ∨ j = 5)) M M3 := i3.tr (z4.wd (fun b j q => by omega))
      have hp4 : M3 68 4 = M1 68 4 := z4 68 4 (by omega)
      have hp5 : M3 68 5 = M1 68 5 := z4 68 5 (by omega)
      simp (maxSteps := 2000000) only [↓reduceIte, wp_eq, wpd_eq, kont_eq, STP1, STP2, STP3, STP4, STP5, konM_eq, AMK, CZ, Option.map, List.getElem?_cons_zero, List.getElem?_cons_succ, List.mem_cons, List.not_mem_nil, if_false, if_true, Nat.reduceAdd, Nat.reduceLT, Nat.reduceLeDiff, Nat.reduceEqDiff, true_and, and_true, List.length_nil, List.length_cons, or_true, true_or, or_false, false_or, Option.some.injEq, Sum.inl.injEq, Sum.inr.injEq, exists_eq_left', exists_eq_left, Int.reduceLE, Int.reduceLT, Int.reduceNeg, Int.reduceAdd, Int.reduceMul, Int.reduceSub, Int.reduceToNat, inR, Nat.zero_ne_one, false_and, Nat.succ_ne_zero, reduceCtorEq, false_implies, true_implies, not_false_eq_true, not_true_eq_false, Int.reduceEq, KRE, C_Growth_pick, FG, FB, l0, f1, u6, u7]
      refine (Finding_whyNotSure_ok (b := bnd) (m := mrg) isFnd_58 ob z1 hbd (by omega)).eq ?_
      have hwy : -1000 ≤ why (best A (T k) lap) bnd mrg ∧ why (best A (T k) lap) bnd mrg ≤ 1000 := by
        unfold why
        split
        · omega
        · split
          · omega
          · split <;> omega
      by_cases cw : why (best A (T k) lap) bnd mrg = 0
      · obtain ⟨g1, g2, g3, g4⟩ := why_0 ob cw
        obtain ⟨e2, e3, e4⟩ := z1.2.2 g1
        have cw' := eq_true cw
        simp (maxSteps := 2000000) only [↓reduceIte, wp_eq, wpd_eq, kont_eq, STP1, STP2, STP3, STP4, STP5, konM_eq, AMK, CZ, Option.map, List.getElem?_cons_zero, List.getElem?_cons_succ, List.mem_cons, List.not_mem_nil, if_false, if_true, Nat.reduceAdd, Nat.reduceLT, Nat.reduceLeDiff, Nat.reduceEqDiff, true_and, and_true, List.length_nil, List.length_cons, or_true, true_or, or_false, false_or, Option.some.injEq, Sum.inl.injEq, Sum.inr.injEq, exists_eq_left', exists_eq_left, Int.reduceLE, Int.reduceLT, Int.reduceNeg, Int.reduceAdd, Int.reduceMul, Int.reduceSub, Int.reduceToNat, inR, Nat.zero_ne_one, false_and, Nat.succ_ne_zero, reduceCtorEq, false_implies, true_implies, not_false_eq_true, not_true_eq_false, Int.reduceEq, KRE, C_Growth_pick, FG, FB, f1, u7, cw', e2, e3]
        repeat (refine ⟨by omega, ?_⟩)
        try (first | (show _ ≤ _; omega) | (show _ < _; omega))
        generalize (best A (T k) lap).2.1 = S at *
        generalize (best A (T k) lap).2.2.1 = C at *
        refine (RingDater_isYear_ok (y := f + S) ⟨by omega, by omega⟩).eq ?_
        by_cases cY : 0 ≤ f + S ∧ f + S ≤ 900
        · rw [if_pos cY]
          have b45 : ∀ v w, (mset (mset M3 68 4 v) 68 5 w 68 4 = v ∧ mset (mset M3 68 4 v) 68 5 w 68 5 = w) ∧ benOK (mset (mset M3 68 4 v) 68 5 w) ∧ FrP (fun b j => 41 ≤ b ∧ b < 48 ∨ 58 ≤ b ∧ b < 60 ∨ b = 68 ∧ (j = 4 ∨ j = 5)) M (mset (mset M3 68 4 v) 68 5 w) := by
            intro v w
            refine ⟨⟨by simp [mset], by simp [mset]⟩, ⟨rowOK_cells (fun b p1 p2 j => ?_) z2.1, rowOK_cells (fun b p1 p2 j => ?_) z2.2.1, rowOK_cells (fun b p1 p2 j => ?_) z2.2.2⟩, (fr3.st (by omega)).st (by omega)⟩
            all_goals rw [mset_ne _ (by omega), mset_ne _ (by omega)]
          by_cases c1 : x.1 = -1
          · have K2 := K' (mset (mset M3 68 4 (f + S)) 68 5 C)
            rw [if_pos ⟨cy, cw, cY, Or.inl c1⟩] at K2
            have c1' := eq_true c1
            simp (maxSteps := 2000000) only [↓reduceIte, wp_eq, wpd_eq, kont_eq, STP1, STP2, STP3, STP4, STP5, konM_eq, AMK, CZ, Option.map, List.getElem?_cons_zero, List.getElem?_cons_succ, List.mem_cons, List.not_mem_nil, if_false, if_true, Nat.reduceAdd, Nat.reduceLT, Nat.reduceLeDiff, Nat.reduceEqDiff, true_and, and_true, List.length_nil, List.length_cons, or_true, true_or, or_false, false_or, Option.some.injEq, Sum.inl.injEq, Sum.inr.injEq, exists_eq_left', exists_eq_left, Int.reduceLE, Int.reduceLT, Int.reduceNeg, Int.reduceAdd, Int.reduceMul, Int.reduceSub, Int.reduceToNat, inR, Nat.zero_ne_one, false_and, Nat.succ_ne_zero, reduceCtorEq, false_implies, true_implies, not_false_eq_true, not_true_eq_false, Int.reduceEq, KRE, C_Growth_pick, FG, FB, f1, e3, MSE, c1']
            repeat (refine ⟨by omega, ?_⟩)
            try (first | (show _ ≤ _; omega) | (show _ < _; omega))
            exact K2 (fun _ => (b45 _ _).1) (b45 _ _).2.1 (b45 _ _).2.2 _ _ _
          · have c1' := eq_false c1
            have q5 : M3 68 5 = x.2.2 := hp5.trans (i1 c1).2
            have xr2 := xr.resolve_left (fun z => c1 (congrArg Prod.fst z))
            by_cases c2 : x.2.2 < C
            · have K2 := K' (mset (mset M3 68 4 (f + S)) 68 5 C)
              rw [if_pos ⟨cy, cw, cY, Or.inr c2⟩] at K2
              have c2' : ¬ C ≤ x.2.2 := by omega
              simp (maxSteps := 2000000) only [↓reduceIte, wp_eq, wpd_eq, kont_eq, STP1, STP2, STP3, STP4, STP5, konM_eq, AMK, CZ, Option.map, List.getElem?_cons_zero, List.getElem?_cons_succ, List.mem_cons, List.not_mem_nil, if_false, if_true, Nat.reduceAdd, Nat.reduceLT, Nat.reduceLeDiff, Nat.reduceEqDiff, true_and, and_true, List.length_nil, List.length_cons, or_true, true_or, or_false, false_or, Option.some.injEq, Sum.inl.injEq, Sum.inr.injEq, exists_eq_left', exists_eq_left, Int.reduceLE, Int.reduceLT, Int.reduceNeg, Int.reduceAdd, Int.reduceMul, Int.reduceSub, Int.reduceToNat, inR, Nat.zero_ne_one, false_and, Nat.succ_ne_zero, reduceCtorEq, false_implies, true_implies, not_false_eq_true, not_true_eq_false, Int.reduceEq, KRE, C_Growth_pick, FG, FB, f1, e3, MSE, c1', q5, c2']
              repeat (refine ⟨by omega, ?_⟩)
              try (first | (show _ ≤ _; omega) | (show _ < _; omega))
              exact K2 (fun _ => (b45 _ _).1) (b45 _ _).2.1 (b45 _ _).2.2 _ _ _
            · have K2 := K' M3
              rw [if_neg (fun z => by rcases z.2.2.2 with z | z <;> omega)] at K2
              have c2' : C ≤ x.2.2 := by omega
              simp (maxSteps := 2000000) only [↓reduceIte, wp_eq, wpd_eq, kont_eq, STP1, STP2, STP3, STP4, STP5, konM_eq, AMK, CZ, Option.map, List.getElem?_cons_zero, List.getElem?_cons_succ, List.mem_cons, List.not_mem_nil, if_false, if_true, Nat.reduceAdd, Nat.reduceLT, Nat.reduceLeDiff, Nat.reduceEqDiff, true_and, and_true, List.length_nil, List.length_cons, or_true, true_or, or_false, false_or, Option.some.injEq, Sum.inl.injEq, Sum.inr.injEq, exists_eq_left', exists_eq_left, Int.reduceLE, Int.reduceLT, Int.reduceNeg, Int.reduceAdd, Int.reduceMul, Int.reduceSub, Int.reduceToNat, inR, Nat.zero_ne_one, false_and, Nat.succ_ne_zero, reduceCtorEq, false_implies, true_implies, not_false_eq_true, not_true_eq_false, Int.reduceEq, KRE, C_Growth_pick, FG, FB, f1, e3, MSE, c1', q5, c2']
              repeat (refine ⟨by omega, ?_⟩)
              try (first | (show _ ≤ _; omega) | (show _ < _; omega))
              exact K2 (fun q => by rw [hp4, hp5]; exact i1 q) z2 fr3 _ _ _
        · rw [if_neg cY]
          have K2 := K' M3
          rw [if_neg (fun z => cY z.2.2.1)] at K2
          simp (maxSteps := 2000000) only [↓reduceIte, wp_eq, wpd_eq, kont_eq, STP1, STP2, STP3, STP4, STP5, konM_eq, AMK, CZ, Option.map, List.getElem?_cons_zero, List.getElem?_cons_succ, List.mem_cons, List.not_mem_nil, if_false, if_true, Nat.reduceAdd, Nat.reduceLT, Nat.reduceLeDiff, Nat.reduceEqDiff, true_and, and_true, List.length_nil, List.length_cons, or_true, true_or, or_false, false_or, Option.some.injEq, Sum.inl.injEq, Sum.inr.injEq, exists_eq_left', exists_eq_left, Int.reduceLE, Int.reduceLT, Int.reduceNeg, Int.reduceAdd, Int.reduceMul, Int.reduceSub, Int.reduceToNat, inR, Nat.zero_ne_one, false_and, Nat.succ_ne_zero, reduceCtorEq, false_implies, true_implies, not_false_eq_true, not_true_eq_false, Int.reduceEq, KRE, C_Growth_pick, FG, FB]
          repeat (refine ⟨by omega, ?_⟩)
          try (first | (show _ ≤ _; omega) | (show _ < _; omega))
          exact K2 (fun q => by rw [hp4, hp5]; exact i1 q) z2 fr3 _ _ _
      · have K2 := K' M3
        rw [if_neg (fun z => cw z.2.1)] at K2
        have cw' := eq_false cw
        simp (maxSteps := 2000000) only [↓reduceIte, wp_eq, wpd_eq, kont_eq, STP1, STP2, STP3, STP4, STP5, konM_eq, AMK, CZ, Option.map, List.getElem?_cons_zero, List.getElem?_cons_succ, List.mem_cons, List.not_mem_nil, if_false, if_true, Nat.reduceAdd, Nat.reduceLT, Nat.reduceLeDiff, Nat.reduceEqDiff, true_and, and_true, List.length_nil, List.length_cons, or_true, true_or, or_false, false_or, Option.some.injEq, Sum.inl.injEq, Sum.inr.injEq, exists_eq_left', exists_eq_left, Int.reduceLE, Int.reduceLT, Int.reduceNeg, Int.reduceAdd, Int.reduceMul, Int.reduceSub, Int.reduceToNat, inR, Nat.zero_ne_one, false_and, Nat.succ_ne_zero, reduceCtorEq, false_implies, true_implies, not_false_eq_true, not_true_eq_false, Int.reduceEq, KRE, C_Growth_pick, FG, FB, f1, u7, cw']
        repeat (refine ⟨by omega, ?_⟩)
        try (first | (show _ ≤ _; omega) | (show _ < _; omega))
        exact K2 (fun q => by rw [hp4, hp5]; exact i1 q) z2 fr3 _ _ _
    · have cy' := eq_false cy
      refine wpm_of (cuts := [6]) (by decide) 100 _ _ _ _ ?_
      simp (maxSteps := 2000000) only [↓reduceIte, wp_eq, wpd_eq, kont_eq, STP1, STP2, STP3, STP4, STP5, konM_eq, AMK, CZ, Option.map, List.getElem?_cons_zero, List.getElem?_cons_succ, List.mem_cons, List.not_mem_nil, if_false, if_true, Nat.reduceAdd, Nat.reduceLT, Nat.reduceLeDiff, Nat.reduceEqDiff, true_and, and_true, List.length_nil, List.length_cons, or_true, true_or, or_false, false_or, Option.some.injEq, Sum.inl.injEq, Sum.inr.injEq, exists_eq_left', exists_eq_left, Int.reduceLE, Int.reduceLT, Int.reduceNeg, Int.reduceAdd, Int.reduceMul, Int.reduceSub, Int.reduceToNat, inR, Nat.zero_ne_one, false_and, Nat.succ_ne_zero, reduceCtorEq, false_implies, true_implies, not_false_eq_true, not_true_eq_false, Int.reduceEq, KRE, C_Growth_pick, FG, FB, l0, z3, hz, hz2, natT, y1, cy']
      repeat (refine ⟨by omega, ?_⟩)
      try (first | (show _ ≤ _; omega) | (show _ < _; omega))
      have eK : pkS T A f Y lap bnd mrg k x = x := if_neg (fun z => cy z.1)
      exact K (by omega) _ _ ⟨x, by rw [eF, eK], i1, i2, i3, _, _, _, rfl⟩
/-- what a growth's cells hold behind run() -/
def gwIs (M : Mm) (T : Nat → Rw) (lap bnd mrg : Int) (n : Nat) (Y : Nat → Int) (c : Nat) : Prop := c ≤ 8 ∧ M 68 6 = c ∧ ∀ i, i < c → (M 69 i = (gwP T lap bnd mrg n Y i).1 ∧ M 70 i = (gwP T lap bnd mrg n Y i).2.1 ∧ M 71 i = (gwP T lap bnd mrg n Y i).2.2)
set_option maxHeartbeats 4000000 in
set_option maxRecDepth 20000 in
theorem Growth_run_ok {n : Nat} {T : Nat → Rw} {Y : Nat → Int} {lap bnd mrg : Int} {M : Mm} (hs : stOK M) (hb : benOK M) (hn : n = (M 76 3).toNat) (hT : ∀ t, t < 8 → stT M 76 t = T t) (hY : ∀ t, t < 8 → M 81 t = Y t) (h5 : M 76 5 = lap) (h6 : M 76 6 = mrg) (hbd : 0 ≤ bnd ∧ bnd ≤ 1000) :
    CallI m_Growth_run [.inr 68, .inr 76, .inr 33, .inl bnd] M (fun x M' => ∃ c : Nat, x = c ∧ c ≤ n ∧ gwC T lap bnd mrg n Y c ∧ gwIs M' T lap bnd mrg n Y c ∧ benOK M' ∧ FrP (fun b _ => b = 33 ∨ 41 ≤ b ∧ b < 57 ∨ 58 ≤ b ∧ b < 60 ∨ 68 ≤ b ∧ b < 73) M M') := by
  obtain ⟨l0, l1, l2, l3, l4⟩ := isStk_76
  obtain ⟨hw, hc0⟩ := id hs
  have n8 := hc0.1
  rw [← hn] at n8
  have hc : okC T Y n := ⟨n8, fun t ht => by
    rw [← hY t (by omega), ← hT t (by omega)]
    exact hc0.2 t (by omega)⟩
  have k33 : kc (lay 33) 0 = True := FB.1
  have k68 : kc (lay 68) 2 = True := FG.1
  refine callP_of (by decide) (by decide) (Nat.le_of_ble_eq_true rfl) (wpm_of (cuts := [19]) (by decide) 50 _ _ _ _ ?_)
  rw [show lM m_Growth_run = 6 from rfl]
  simp (maxSteps := 2000000) only [↓reduceIte, wp_eq, wpd_eq, kont_eq, STP1, STP2, STP3, STP4, STP5, konM_eq, AMK, CZ, Option.map, List.getElem?_cons_zero, List.getElem?_cons_succ, List.mem_cons, List.not_mem_nil, if_false, if_true, Nat.reduceAdd, Nat.reduceLT, Nat.reduceLeDiff, Nat.reduceEqDiff, true_and, and_true, List.length_nil, List.length_cons, or_true, true_or, or_false, false_or, Option.some.injEq, Sum.inl.injEq, Sum.inr.injEq, exists_eq_left', exists_eq_left, Int.reduceLE, Int.reduceLT, Int.reduceNeg, Int.reduceAdd, Int.reduceMul, Int.reduceSub, Int.reduceToNat, inR, Nat.zero_ne_one, false_and, Nat.succ_ne_zero, reduceCtorEq, false_implies, true_implies, not_false_eq_true, not_true_eq_false, Int.reduceEq, KRE, C_Growth_run, FG, FB, l0]
  refine (RingDater_copyRow_ok (a := 72) (f := 81) (n := 8) rfl rfl (by omega) (by omega)).eq ?_
  refine loopQ n (fun r ls M1 => ((∀ i, i < r → (gwP T lap bnd mrg n Y i).1 ≠ -1) ∧ (∀ t, t < 8 → M1 72 t = gwY T lap bnd mrg n Y r t) ∧ gwIs M1 T lap bnd mrg n Y r ∧ benOK M1 ∧ FrP (fun b _ => b = 33 ∨ 41 ≤ b ∧ b < 57 ∨ 58 ≤ b ∧ b < 60 ∨ 68 ≤ b ∧ b < 73) M M1) ∧ ∃ a5, ls = [some (.inr 68), some (.inr 76), some (.inr 33), some (.inl bnd), some (.inl r), a5]) ?_ _ _ ⟨⟨fun i hi => absurd hi (by omega), fun t ht => ?_, ⟨by omega, ?_, fun i hi => absurd hi (by omega)⟩, ⟨rowOK_cells (fun b p1 p2 j => ?_) hb.1, rowOK_cells (fun b p1 p2 j => ?_) hb.2.1, rowOK_cells (fun b p1 p2 j => ?_) hb.2.2⟩, fun b j hbj => ?_⟩, none, rfl⟩
  · rintro r _ M1 hr ⟨⟨i1, i2, i3, i4, i5⟩, a5, rfl⟩ K
    obtain ⟨g1, g2⟩ := gwC_n hc i1
    obtain ⟨y1, y2⟩ := gwY_ok (lap := lap) (bnd := bnd) (mrg := mrg) hc r
    obtain ⟨j1, j2, j3⟩ := i3
    by_cases hz : (8 : Int) ≤ r
    · refine wpm_of (cuts := [19]) (by decide) 100 _ _ _ _ ?_
      simp (maxSteps := 2000000) only [↓reduceIte, wp_eq, wpd_eq, kont_eq, STP1, STP2, STP3, STP4, STP5, konM_eq, AMK, CZ, Option.map, List.getElem?_cons_zero, List.getElem?_cons_succ, List.mem_cons, List.not_mem_nil, if_false, if_true, Nat.reduceAdd, Nat.reduceLT, Nat.reduceLeDiff, Nat.reduceEqDiff, true_and, and_true, List.length_nil, List.length_cons, or_true, true_or, or_false, false_or, Option.some.injEq, Sum.inl.injEq, Sum.inr.injEq, exists_eq_left', exists_eq_left, Int.reduceLE, Int.reduceLT, Int.reduceNeg, Int.reduceAdd, Int.reduceMul, Int.reduceSub, Int.reduceToNat, inR, Nat.zero_ne_one, false_and, Nat.succ_ne_zero, reduceCtorEq, false_implies, true_implies, not_false_eq_true, not_true_eq_false, Int.reduceEq, KRE, C_Growth_run, FG, hz, j2]
      repeat (refine ⟨by omega, ?_⟩)
      try (first | (show _ ≤ _; omega) | (show _ < _; omega))
      exact ⟨⟨i1, g2 (by omega)⟩, ⟨j1, j2, j3⟩, i4, i5⟩
    · have e76 : ∀ b, 76 ≤ b → b < 106 → ∀ j, M1 b j = M b j := fun b p1 p2 j => i5 b j (by omega)
      obtain ⟨s1, s2, s3, s4⟩ := stOK_cells e76 hs
      have n1 : (M1 76 3).toNat = n := by rw [s4 3]; omega
      have T1 : ∀ t, t < n → stT M1 76 t = T t ∧ M1 72 t = gwY T lap bnd mrg n Y r t := fun t ht => ⟨(s2 t (by omega)).trans (hT t (by omega)), i2 t (by omega)⟩
      have hc1 : okC (stT M1 76) (M1 72) (M1 76 3).toNat := by
        rw [n1]
        exact ⟨n8, fun t ht => by rw [(T1 t ht).1, (T1 t ht).2]; exact y1.2 t ht⟩
      refine wpm_of (cuts := [19]) (by decide) 100 _ _ _ _ ?_
      simp (maxSteps := 2000000) only [↓reduceIte, wp_eq, wpd_eq, kont_eq, STP1, STP2, STP3, STP4, STP5, konM_eq, AMK, CZ, Option.map, List.getElem?_cons_zero, List.getElem?_cons_succ, List.mem_cons, List.not_mem_nil, if_false, if_true, Nat.reduceAdd, Nat.reduceLT, Nat.reduceLeDiff, Nat.reduceEqDiff, true_and, and_true, List.length_nil, List.length_cons, or_true, true_or, or_false, false_or, Option.some.injEq, Sum.inl.injEq, Sum.inr.injEq, exists_eq_left', exists_eq_left, Int.reduceLE, Int.reduceLT, Int.reduceNeg, Int.reduceAdd, Int.reduceMul, Int.reduceSub, Int.reduceToNat, inR, Nat.zero_ne_one, false_and, Nat.succ_ne_zero, reduceCtorEq, false_implies, true_implies, not_false_eq_true, not_true_eq_false, Int.reduceEq, KRE, C_Growth_run, FG, hz, k33, k68]
      repeat (refine ⟨by omega, ?_⟩)
      try (first | (show _ ≤ _; omega) | (show _ < _; omega))
      refine (Bench_layChronology_ok (ya := 72) (wo := -1) rfl (by omega) s1.1 hc1 i4 ⟨by omega, by omega⟩).mono (fun M2 z => ?_)
      obtain ⟨z1, z2, z3, z4, z5⟩ := z
      rw [n1] at z1 z3 z4
      rw [chr_congr T1] at z1
      rw [cSpan_congr T1] at z3 z4
      have sp := (cSpan_in (wo := -1) y1).1
      have e76' : ∀ b, 76 ≤ b → b < 106 → ∀ j, M2 b j = M b j := fun b p1 p2 j => (z5 b j (by omega)).trans (e76 b p1 p2 j)
      obtain ⟨t1, t2, t3, t4⟩ := stOK_cells e76' hs
      have b2 : benOK M2 := ⟨rowOK_cells (fun b p1 p2 j => z5 b j (by omega)) i4.1, rowOK_cells (fun b p1 p2 j => z5 b j (by omega)) i4.2.1, z2⟩
      refine (Growth_pick_ok (n := n) (T := T) (Y := gwY T lap bnd mrg n Y r) (bnd := bnd) t1.1 b2 (by rw [t4 3]; exact hn) (fun t ht => (t2 t ht).trans (hT t ht)) (fun t ht => by rw [z5 72 t (by omega)]; exact i2 t ht) y1 z1 z3 (by omega) ((t4 5).trans h5) ((t4 6).trans h6) hbd).mono (fun x M3 q => ?_)
      · obtain ⟨q1, q2, q3, q4⟩ := q
        have fr3 : FrP (fun b _ => b = 33 ∨ 41 ≤ b ∧ b < 57 ∨ 58 ≤ b ∧ b < 60 ∨ 68 ≤ b ∧ b < 73) M M3 := (i5.tr (z5.wd (fun b j q => by omega))).tr (q4.wd (fun b j q => by omega))
        have o3 : ∀ b j, 68 ≤ b → b < 73 → ¬ (b = 68 ∧ (j = 4 ∨ j = 5)) → M3 b j = M1 b j := fun b j p1 p2 p3 => (q4 b j (by omega)).trans (z5 b j (by omega))
        have gI : gwIs M3 T lap bnd mrg n Y r := ⟨j1, (o3 68 6 (by omega) (by omega) (by omega)).trans j2, fun i hi => ⟨(o3 69 i (by omega) (by omega) (by omega)).trans (j3 i hi).1, (o3 70 i (by omega) (by omega) (by omega)).trans (j3 i hi).2.1, (o3 71 i (by omega) (by omega) (by omega)).trans (j3 i hi).2.2⟩⟩
        have eP : foldN (pkS T (chr T (gwY T lap bnd mrg n Y r) (-1) n) (cSpan T (gwY T lap bnd mrg n Y r) (-1) n).1 (gwY T lap bnd mrg n Y r) lap bnd mrg) (-1, 0, -1) n = gwP T lap bnd mrg n Y r := rfl
        rw [eP] at q1 q2
        subst q1
        rcases y2 with y2 | y2
        · have e1 : (gwP T lap bnd mrg n Y r).1 = -1 := congrArg Prod.fst y2
          rw [e1]
          simp (maxSteps := 2000000) only [↓reduceIte, wp_eq, wpd_eq, kont_eq, STP1, STP2, STP3, STP4, STP5, konM_eq, AMK, CZ, Option.map, List.getElem?_cons_zero, List.getElem?_cons_succ, List.mem_cons, List.not_mem_nil, if_false, if_true, Nat.reduceAdd, Nat.reduceLT, Nat.reduceLeDiff, Nat.reduceEqDiff, true_and, and_true, List.length_nil, List.length_cons, or_true, true_or, or_false, false_or, Option.some.injEq, Sum.inl.injEq, Sum.inr.injEq, exists_eq_left', exists_eq_left, Int.reduceLE, Int.reduceLT, Int.reduceNeg, Int.reduceAdd, Int.reduceMul, Int.reduceSub, Int.reduceToNat, inR, Nat.zero_ne_one, false_and, Nat.succ_ne_zero, reduceCtorEq, false_implies, true_implies, not_false_eq_true, not_true_eq_false, Int.reduceEq, KRE, C_Growth_run, FG]
          rw [gI.2.1]
          repeat (refine ⟨by omega, ?_⟩)
          try (first | (show _ ≤ _; omega) | (show _ < _; omega))
          exact ⟨⟨i1, e1⟩, gI, q3, fr3⟩
        · have c1 : (gwP T lap bnd mrg n Y r).1 ≠ -1 := by omega
          obtain ⟨p4, p5⟩ := q2 c1
          have n0 : ¬ (gwP T lap bnd mrg n Y r).1 < 0 := by omega
          have n1 : (gwP T lap bnd mrg n Y r).1 < 8 := by omega
          have g36 := gI.2.1
          simp (maxSteps := 2000000) only [↓reduceIte, wp_eq, wpd_eq, kont_eq, STP1, STP2, STP3, STP4, STP5, konM_eq, AMK, CZ, Option.map, List.getElem?_cons_zero, List.getElem?_cons_succ, List.mem_cons, List.not_mem_nil, if_false, if_true, Nat.reduceAdd, Nat.reduceLT, Nat.reduceLeDiff, Nat.reduceEqDiff, true_and, and_true, List.length_nil, List.length_cons, or_true, true_or, or_false, false_or, Option.some.injEq, Sum.inl.injEq, Sum.inr.injEq, exists_eq_left', exists_eq_left, Int.reduceLE, Int.reduceLT, Int.reduceNeg, Int.reduceAdd, Int.reduceMul, Int.reduceSub, Int.reduceToNat, inR, Nat.zero_ne_one, false_and, Nat.succ_ne_zero, reduceCtorEq, false_implies, true_implies, not_false_eq_true, not_true_eq_false, Int.reduceEq, KRE, C_Growth_run, FG, n0, n1, p4, p5, MSE, g36]
          repeat (refine ⟨by omega, ?_⟩)
          try (first | (show _ ≤ _; omega) | (show _ < _; omega))
          refine K (by omega) _ _ ⟨⟨fun i hi => ?_, fun t ht => ?_, ⟨by omega, by simp [mset], fun i hi => ?_⟩, ⟨rowOK_cells (fun b p1 p2 j => ?_) q3.1, rowOK_cells (fun b p1 p2 j => ?_) q3.2.1, rowOK_cells (fun b p1 p2 j => ?_) q3.2.2⟩, ((((fr3.st (by omega)).st (by omega)).st (by omega)).st (by omega)).st (by omega)⟩, _, rfl⟩
          · by_cases e : i = r
            · rw [e]; exact c1
            · exact i1 i (by omega)
          · have eY : gwY T lap bnd mrg n Y (r + 1) = updI (gwY T lap bnd mrg n Y r) (gwP T lap bnd mrg n Y r).1.toNat (gwP T lap bnd mrg n Y r).2.1 := by
              rw [gwY]
              exact if_neg c1
            have e72 : M3 72 t = gwY T lap bnd mrg n Y r t := (o3 72 t (by omega) (by omega) (by omega)).trans (i2 t ht)
            rw [eY]
            simp [mset, updI, e72]
          · by_cases e : i = r
            · subst e
              simp [mset]
            · obtain ⟨v1, v2, v3⟩ := gI.2.2 i (by omega)
              simp [mset, e, v1, v2, v3]
          · rw [mset_ne _ (by omega), mset_ne _ (by omega), mset_ne _ (by omega), mset_ne _ (by omega), mset_ne _ (by omega)]
          · rw [mset_ne _ (by omega), mset_ne _ (by omega), mset_ne _ (by omega), mset_ne _ (by omega), mset_ne _ (by omega)]
          · rw [mset_ne _ (by omega), mset_ne _ (by omega), mset_ne _ (by omega), mset_ne _ (by omega), mset_ne _ (by omega)]
  · have := hY t ht
    simp only [mCpR, ht, mset, gwY]
    simpa using this
  · simp [mCpR, mset]
  · exact (if_neg (by omega)).trans (mset_ne _ (by omega) _)
  · exact (if_neg (by omega)).trans (mset_ne _ (by omega) _)
  · exact (if_neg (by omega)).trans (mset_ne _ (by omega) _)
  · exact (if_neg (by omega)).trans (mset_ne _ (by omega) _)
set_option maxHeartbeats 4000000 in
set_option maxRecDepth 20000 in
theorem Growth_tell_ok {i w c : Int} {M : Mm} (hc : M 68 6 = c) (h8 : c ≤ 8) (hi : 0 ≤ i ∧ i < c) (hw : 0 ≤ w ∧ w ≤ 2) : CallI m_Growth_tell [.inr 68, .inl i, .inl w] M (fun y M' => y = M (69 + w.toNat) i.toNat ∧ M' = M) := by
  have h1 : ¬ i < 0 := by omega
  have h2 : ¬ c ≤ i := by omega
  have h3 : i < 8 := by omega
  rcases (show w = 0 ∨ w = 1 ∨ w = 2 by omega) with rfl | rfl | rfl
  · refine callP_of (by decide) (by decide) (Nat.le_of_ble_eq_true rfl) (wpm_of (cuts := []) (by decide) 60 _ _ _ _ ?_)
    rw [show lM m_Growth_tell = 3 from rfl]
    simp (maxSteps := 2000000) only [↓reduceIte, wp_eq, wpd_eq, kont_eq, STP1, STP2, STP3, STP4, STP5, konM_eq, AMK, CZ, Option.map, List.getElem?_cons_zero, List.getElem?_cons_succ, List.mem_cons, List.not_mem_nil, if_false, if_true, Nat.reduceAdd, Nat.reduceLT, Nat.reduceLeDiff, Nat.reduceEqDiff, true_and, and_true, List.length_nil, List.length_cons, or_true, true_or, or_false, false_or, Option.some.injEq, Sum.inl.injEq, Sum.inr.injEq, exists_eq_left', exists_eq_left, Int.reduceLE, Int.reduceLT, Int.reduceNeg, Int.reduceAdd, Int.reduceMul, Int.reduceSub, Int.reduceToNat, inR, Nat.zero_ne_one, false_and, Nat.succ_ne_zero, reduceCtorEq, false_implies, true_implies, not_false_eq_true, not_true_eq_false, Int.reduceEq, KRE, C_Growth_tell, FG, hc, h1, h2, h3]
    repeat' (first | with_reducible apply And.intro | with_reducible intro _)
    all_goals first | exact rfl | omega
  · refine callP_of (by decide) (by decide) (Nat.le_of_ble_eq_true rfl) (wpm_of (cuts := []) (by decide) 60 _ _ _ _ ?_)
    rw [show lM m_Growth_tell = 3 from rfl]
    simp (maxSteps := 2000000) only [↓reduceIte, wp_eq, wpd_eq, kont_eq, STP1, STP2, STP3, STP4, STP5, konM_eq, AMK, CZ, Option.map, List.getElem?_cons_zero, List.getElem?_cons_succ, List.mem_cons, List.not_mem_nil, if_false, if_true, Nat.reduceAdd, Nat.reduceLT, Nat.reduceLeDiff, Nat.reduceEqDiff, true_and, and_true, List.length_nil, List.length_cons, or_true, true_or, or_false, false_or, Option.some.injEq, Sum.inl.injEq, Sum.inr.injEq, exists_eq_left', exists_eq_left, Int.reduceLE, Int.reduceLT, Int.reduceNeg, Int.reduceAdd, Int.reduceMul, Int.reduceSub, Int.reduceToNat, inR, Nat.zero_ne_one, false_and, Nat.succ_ne_zero, reduceCtorEq, false_implies, true_implies, not_false_eq_true, not_true_eq_false, Int.reduceEq, KRE, C_Growth_tell, FG, hc, h1, h2, h3]
    repeat' (first | with_reducible apply And.intro | with_reducible intro _)
    all_goals first | exact rfl | omega
  · refine callP_of (by decide) (by decide) (Nat.le_of_ble_eq_true rfl) (wpm_of (cuts := []) (by decide) 60 _ _ _ _ ?_)
    rw [show lM m_Growth_tell = 3 from rfl]
    simp (maxSteps := 2000000) only [↓reduceIte, wp_eq, wpd_eq, kont_eq, STP1, STP2, STP3, STP4, STP5, konM_eq, AMK, CZ, Option.map, List.getElem?_cons_zero, List.getElem?_cons_succ, List.mem_cons, List.not_mem_nil, if_false, if_true, Nat.reduceAdd, Nat.reduceLT, Nat.reduceLeDiff, Nat.reduceEqDiff, true_and, and_true, List.length_nil, List.length_cons, or_true, true_or, or_false, false_or, Option.some.injEq, Sum.inl.injEq, Sum.inr.injEq, exists_eq_left', exists_eq_left, Int.reduceLE, Int.reduceLT, Int.reduceNeg, Int.reduceAdd, Int.reduceMul, Int.reduceSub, Int.reduceToNat, inR, Nat.zero_ne_one, false_and, Nat.succ_ne_zero, reduceCtorEq, false_implies, true_implies, not_false_eq_true, not_true_eq_false, Int.reduceEq, KRE, C_Growth_tell, FG, hc, h1, h2, h3]
    repeat' (first | with_reducible apply And.intro | with_reducible intro _)
    all_goals first | exact rfl | omega
def gwB (W : Nat → Int) (c : Nat) : Int := foldN (fun i b => bOr b (bShl 1 (W i))) 0 c
set_option maxHeartbeats 4000000 in
set_option maxRecDepth 20000 in
theorem Growth_bits_ok {c : Nat} {M : Mm} (hc : M 68 6 = c) (h8 : c ≤ 8) : CallI m_Growth_bits [.inr 68] M (fun y M' => y = gwB (M 69) c ∧ M' = M) := by
  refine callP_of (by decide) (by decide) (Nat.le_of_ble_eq_true rfl) (wpm_of (cuts := [4]) (by decide) 50 _ _ _ _ ?_)
  rw [show lM m_Growth_bits = 3 from rfl]
  simp (maxSteps := 2000000) only [↓reduceIte, wp_eq, wpd_eq, kont_eq, STP1, STP2, STP3, STP4, STP5, konM_eq, AMK, CZ, Option.map, List.getElem?_cons_zero, List.getElem?_cons_succ, List.mem_cons, List.not_mem_nil, if_false, if_true, Nat.reduceAdd, Nat.reduceLT, Nat.reduceLeDiff, Nat.reduceEqDiff, true_and, and_true, List.length_nil, List.length_cons, or_true, true_or, or_false, false_or, Option.some.injEq, Sum.inl.injEq, Sum.inr.injEq, exists_eq_left', exists_eq_left, Int.reduceLE, Int.reduceLT, Int.reduceNeg, Int.reduceAdd, Int.reduceMul, Int.reduceSub, Int.reduceToNat, inR, Nat.zero_ne_one, false_and, Nat.succ_ne_zero, reduceCtorEq, false_implies, true_implies, not_false_eq_true, not_true_eq_false, Int.reduceEq, KRE, C_Growth_bits, FG]
  refine loopQ c (fun k ls M1 => M = M1 ∧ ls = [some (.inr 68), some (.inl (gwB (M 69) k)), some (.inl k)]) ?_ _ _ ⟨rfl, rfl⟩
  rintro k _ _ hk ⟨rfl, rfl⟩ K
  by_cases hz : (c : Int) ≤ k
  · refine wpm_of (cuts := [4]) (by decide) 100 _ _ _ _ ?_
    simp (maxSteps := 2000000) only [↓reduceIte, wp_eq, wpd_eq, kont_eq, STP1, STP2, STP3, STP4, STP5, konM_eq, AMK, CZ, Option.map, List.getElem?_cons_zero, List.getElem?_cons_succ, List.mem_cons, List.not_mem_nil, if_false, if_true, Nat.reduceAdd, Nat.reduceLT, Nat.reduceLeDiff, Nat.reduceEqDiff, true_and, and_true, List.length_nil, List.length_cons, or_true, true_or, or_false, false_or, Option.some.injEq, Sum.inl.injEq, Sum.inr.injEq, exists_eq_left', exists_eq_left, Int.reduceLE, Int.reduceLT, Int.reduceNeg, Int.reduceAdd, Int.reduceMul, Int.reduceSub, Int.reduceToNat, inR, Nat.zero_ne_one, false_and, Nat.succ_ne_zero, reduceCtorEq, false_implies, true_implies, not_false_eq_true, not_true_eq_false, Int.reduceEq, KRE, C_Growth_bits, FG, hc, hz]
    repeat (refine ⟨by omega, ?_⟩)
    try (first | (show _ ≤ _; omega) | (show _ < _; omega))
    rw [show k = c by omega]
  · refine wpm_of (cuts := [4]) (by decide) 100 _ _ _ _ ?_
    simp (maxSteps := 2000000) only [↓reduceIte, wp_eq, wpd_eq, kont_eq, STP1, STP2, STP3, STP4, STP5, konM_eq, AMK, CZ, Option.map, List.getElem?_cons_zero, List.getElem?_cons_succ, List.mem_cons, List.not_mem_nil, if_false, if_true, Nat.reduceAdd, Nat.reduceLT, Nat.reduceLeDiff, Nat.reduceEqDiff, true_and, and_true, List.length_nil, List.length_cons, or_true, true_or, or_false, false_or, Option.some.injEq, Sum.inl.injEq, Sum.inr.injEq, exists_eq_left', exists_eq_left, Int.reduceLE, Int.reduceLT, Int.reduceNeg, Int.reduceAdd, Int.reduceMul, Int.reduceSub, Int.reduceToNat, inR, Nat.zero_ne_one, false_and, Nat.succ_ne_zero, reduceCtorEq, false_implies, true_implies, not_false_eq_true, not_true_eq_false, Int.reduceEq, KRE, C_Growth_bits, FG, hc, hz]
    repeat (refine ⟨by omega, ?_⟩)
    try (first | (show _ ≤ _; omega) | (show _ < _; omega))
    refine (Growth_tell_ok (i := (k : Int)) (w := 0) hc (by omega) (by omega) (by omega)).eq ?_
    exact K (by omega) _ _ ⟨rfl, rfl⟩
/-- a timber's year, were all grown by a bound, out of what has grown by a less one -/
def ybR (W Z S : Nat → Int) (t bnd : Int) : Nat → Nat → Int
  | 0, _ => -1
  | d + 1, i => if S i < bnd then -1 else if W i = t then Z i else ybR W Z S t bnd d (i + 1)
def yb (M : Mm) (c : Nat) (t bnd : Int) : Int := if yrA M 76 t ≠ -1 then yrA M 76 t else ybR (M 69) (M 70) (M 71) t bnd c 0
set_option maxHeartbeats 4000000 in
set_option maxRecDepth 20000 in
theorem Growth_yearBy_ok {c : Nat} {t bnd : Int} {M : Mm} (hw : wfS M 76) (hc : M 68 6 = c) (h8 : c ≤ 8) (hS : ∀ i, i < c → (0 ≤ M 71 i ∧ M 71 i ≤ 100) ∧ (0 ≤ M 69 i ∧ M 69 i ≤ 7)) (ht : inR t) (hb : inR bnd) : CallI m_Growth_yearBy [.inr 68, .inr 76, .inl t, .inl bnd] M (fun y M' => y = yb M c t bnd ∧ M' = M) := by
  obtain ⟨l0, l1, l2, l3, l4⟩ := isStk_76
  simp only [inR] at hb ht
  refine callP_of (by decide) (by decide) (Nat.le_of_ble_eq_true rfl) (wpm_of (cuts := [17]) (by decide) 50 _ _ _ _ ?_)
  rw [show lM m_Growth_yearBy = 5 from rfl]
  simp (maxSteps := 2000000) only [↓reduceIte, wp_eq, wpd_eq, kont_eq, STP1, STP2, STP3, STP4, STP5, konM_eq, AMK, CZ, Option.map, List.getElem?_cons_zero, List.getElem?_cons_succ, List.mem_cons, List.not_mem_nil, if_false, if_true, Nat.reduceAdd, Nat.reduceLT, Nat.reduceLeDiff, Nat.reduceEqDiff, true_and, and_true, List.length_nil, List.length_cons, or_true, true_or, or_false, false_or, Option.some.injEq, Sum.inl.injEq, Sum.inr.injEq, exists_eq_left', exists_eq_left, Int.reduceLE, Int.reduceLT, Int.reduceNeg, Int.reduceAdd, Int.reduceMul, Int.reduceSub, Int.reduceToNat, inR, Nat.zero_ne_one, false_and, Nat.succ_ne_zero, reduceCtorEq, false_implies, true_implies, not_false_eq_true, not_true_eq_false, Int.reduceEq, KRE, C_Growth_yearBy, FG, l0]
  refine (Stock_isDated_ok isStk_76 ht hw).eq ?_
  unfold yb
  by_cases cy : yrA M 76 t = -1
  · rw [if_neg (fun z => z cy), if_neg (fun z => z cy)]
    simp (maxSteps := 2000000) only [↓reduceIte, wp_eq, wpd_eq, kont_eq, STP1, STP2, STP3, STP4, STP5, konM_eq, AMK, CZ, Option.map, List.getElem?_cons_zero, List.getElem?_cons_succ, List.mem_cons, List.not_mem_nil, if_false, if_true, Nat.reduceAdd, Nat.reduceLT, Nat.reduceLeDiff, Nat.reduceEqDiff, true_and, and_true, List.length_nil, List.length_cons, or_true, true_or, or_false, false_or, Option.some.injEq, Sum.inl.injEq, Sum.inr.injEq, exists_eq_left', exists_eq_left, Int.reduceLE, Int.reduceLT, Int.reduceNeg, Int.reduceAdd, Int.reduceMul, Int.reduceSub, Int.reduceToNat, inR, Nat.zero_ne_one, false_and, Nat.succ_ne_zero, reduceCtorEq, false_implies, true_implies, not_false_eq_true, not_true_eq_false, Int.reduceEq, KRE, C_Growth_yearBy, FG]
    refine loopQ c (fun k ls M1 => M = M1 ∧ ybR (M 69) (M 70) (M 71) t bnd c 0 = ybR (M 69) (M 70) (M 71) t bnd (c - k) k ∧ ls = [some (.inr 68), some (.inr 76), some (.inl t), some (.inl bnd), some (.inl k)]) ?_ _ _ ⟨rfl, rfl, rfl⟩
    rintro k _ _ hk ⟨rfl, e, rfl⟩ K
    by_cases hz : (c : Int) ≤ k
    · refine wpm_of (cuts := [17]) (by decide) 100 _ _ _ _ ?_
      simp (maxSteps := 2000000) only [↓reduceIte, wp_eq, wpd_eq, kont_eq, STP1, STP2, STP3, STP4, STP5, konM_eq, AMK, CZ, Option.map, List.getElem?_cons_zero, List.getElem?_cons_succ, List.mem_cons, List.not_mem_nil, if_false, if_true, Nat.reduceAdd, Nat.reduceLT, Nat.reduceLeDiff, Nat.reduceEqDiff, true_and, and_true, List.length_nil, List.length_cons, or_true, true_or, or_false, false_or, Option.some.injEq, Sum.inl.injEq, Sum.inr.injEq, exists_eq_left', exists_eq_left, Int.reduceLE, Int.reduceLT, Int.reduceNeg, Int.reduceAdd, Int.reduceMul, Int.reduceSub, Int.reduceToNat, inR, Nat.zero_ne_one, false_and, Nat.succ_ne_zero, reduceCtorEq, false_implies, true_implies, not_false_eq_true, not_true_eq_false, Int.reduceEq, KRE, C_Growth_yearBy, FG, hc, hz]
      rw [e, show c - k = 0 by omega]
      repeat (refine ⟨by omega, ?_⟩)
      try (first | (show _ ≤ _; omega) | (show _ < _; omega))
      rfl
    · obtain ⟨d, hd⟩ : ∃ d, c - k = d + 1 := ⟨c - k - 1, by omega⟩
      have sk := hS k (by omega)
      rw [hd, ybR] at e
      refine wpm_of (cuts := [17]) (by decide) 100 _ _ _ _ ?_
      simp (maxSteps := 2000000) only [↓reduceIte, wp_eq, wpd_eq, kont_eq, STP1, STP2, STP3, STP4, STP5, konM_eq, AMK, CZ, Option.map, List.getElem?_cons_zero, List.getElem?_cons_succ, List.mem_cons, List.not_mem_nil, if_false, if_true, Nat.reduceAdd, Nat.reduceLT, Nat.reduceLeDiff, Nat.reduceEqDiff, true_and, and_true, List.length_nil, List.length_cons, or_true, true_or, or_false, false_or, Option.some.injEq, Sum.inl.injEq, Sum.inr.injEq, exists_eq_left', exists_eq_left, Int.reduceLE, Int.reduceLT, Int.reduceNeg, Int.reduceAdd, Int.reduceMul, Int.reduceSub, Int.reduceToNat, inR, Nat.zero_ne_one, false_and, Nat.succ_ne_zero, reduceCtorEq, false_implies, true_implies, not_false_eq_true, not_true_eq_false, Int.reduceEq, KRE, C_Growth_yearBy, FG, hc, hz]
      repeat (refine ⟨by omega, ?_⟩)
      try (first | (show _ ≤ _; omega) | (show _ < _; omega))
      refine (Growth_tell_ok (i := (k : Int)) (w := 2) hc (by omega) (by omega) (by omega)).eq ?_
      rw [natT, show 69 + Int.toNat 2 = 71 from rfl]
      by_cases c1 : M 71 k < bnd
      · rw [if_pos c1] at e
        simp (maxSteps := 2000000) only [↓reduceIte, wp_eq, wpd_eq, kont_eq, STP1, STP2, STP3, STP4, STP5, konM_eq, AMK, CZ, Option.map, List.getElem?_cons_zero, List.getElem?_cons_succ, List.mem_cons, List.not_mem_nil, if_false, if_true, Nat.reduceAdd, Nat.reduceLT, Nat.reduceLeDiff, Nat.reduceEqDiff, true_and, and_true, List.length_nil, List.length_cons, or_true, true_or, or_false, false_or, Option.some.injEq, Sum.inl.injEq, Sum.inr.injEq, exists_eq_left', exists_eq_left, Int.reduceLE, Int.reduceLT, Int.reduceNeg, Int.reduceAdd, Int.reduceMul, Int.reduceSub, Int.reduceToNat, inR, Nat.zero_ne_one, false_and, Nat.succ_ne_zero, reduceCtorEq, false_implies, true_implies, not_false_eq_true, not_true_eq_false, Int.reduceEq, KRE, C_Growth_yearBy, FG, c1]
        repeat (refine ⟨by omega, ?_⟩)
        try (first | (show _ ≤ _; omega) | (show _ < _; omega))
        rw [e]
      · rw [if_neg c1] at e
        simp (maxSteps := 2000000) only [↓reduceIte, wp_eq, wpd_eq, kont_eq, STP1, STP2, STP3, STP4, STP5, konM_eq, AMK, CZ, Option.map, List.getElem?_cons_zero, List.getElem?_cons_succ, List.mem_cons, List.not_mem_nil, if_false, if_true, Nat.reduceAdd, Nat.reduceLT, Nat.reduceLeDiff, Nat.reduceEqDiff, true_and, and_true, List.length_nil, List.length_cons, or_true, true_or, or_false, false_or, Option.some.injEq, Sum.inl.injEq, Sum.inr.injEq, exists_eq_left', exists_eq_left, Int.reduceLE, Int.reduceLT, Int.reduceNeg, Int.reduceAdd, Int.reduceMul, Int.reduceSub, Int.reduceToNat, inR, Nat.zero_ne_one, false_and, Nat.succ_ne_zero, reduceCtorEq, false_implies, true_implies, not_false_eq_true, not_true_eq_false, Int.reduceEq, KRE, C_Growth_yearBy, FG, c1]
        repeat (refine ⟨by omega, ?_⟩)
        try (first | (show _ ≤ _; omega) | (show _ < _; omega))
        refine (Growth_tell_ok (i := (k : Int)) (w := 0) hc (by omega) (by omega) (by omega)).eq ?_
        rw [natT, show 69 + Int.toNat 0 = 69 from rfl]
        by_cases c2 : M 69 k = t
        · rw [if_pos c2] at e
          have c2' := eq_true c2
          simp (maxSteps := 2000000) only [↓reduceIte, wp_eq, wpd_eq, kont_eq, STP1, STP2, STP3, STP4, STP5, konM_eq, AMK, CZ, Option.map, List.getElem?_cons_zero, List.getElem?_cons_succ, List.mem_cons, List.not_mem_nil, if_false, if_true, Nat.reduceAdd, Nat.reduceLT, Nat.reduceLeDiff, Nat.reduceEqDiff, true_and, and_true, List.length_nil, List.length_cons, or_true, true_or, or_false, false_or, Option.some.injEq, Sum.inl.injEq, Sum.inr.injEq, exists_eq_left', exists_eq_left, Int.reduceLE, Int.reduceLT, Int.reduceNeg, Int.reduceAdd, Int.reduceMul, Int.reduceSub, Int.reduceToNat, inR, Nat.zero_ne_one, false_and, Nat.succ_ne_zero, reduceCtorEq, false_implies, true_implies, not_false_eq_true, not_true_eq_false, Int.reduceEq, KRE, C_Growth_yearBy, FG, c2']
          repeat (refine ⟨by omega, ?_⟩)
          try (first | (show _ ≤ _; omega) | (show _ < _; omega))
          refine (Growth_tell_ok (i := (k : Int)) (w := 1) hc (by omega) (by omega) (by omega)).eq ?_
          rw [natT, show 69 + Int.toNat 1 = 70 from rfl, e]
          exact ⟨rfl, rfl⟩
        · rw [if_neg c2] at e
          have c2' := eq_false c2
          simp (maxSteps := 2000000) only [↓reduceIte, wp_eq, wpd_eq, kont_eq, STP1, STP2, STP3, STP4, STP5, konM_eq, AMK, CZ, Option.map, List.getElem?_cons_zero, List.getElem?_cons_succ, List.mem_cons, List.not_mem_nil, if_false, if_true, Nat.reduceAdd, Nat.reduceLT, Nat.reduceLeDiff, Nat.reduceEqDiff, true_and, and_true, List.length_nil, List.length_cons, or_true, true_or, or_false, false_or, Option.some.injEq, Sum.inl.injEq, Sum.inr.injEq, exists_eq_left', exists_eq_left, Int.reduceLE, Int.reduceLT, Int.reduceNeg, Int.reduceAdd, Int.reduceMul, Int.reduceSub, Int.reduceToNat, inR, Nat.zero_ne_one, false_and, Nat.succ_ne_zero, reduceCtorEq, false_implies, true_implies, not_false_eq_true, not_true_eq_false, Int.reduceEq, KRE, C_Growth_yearBy, FG, c2']
          repeat (refine ⟨by omega, ?_⟩)
          try (first | (show _ ≤ _; omega) | (show _ < _; omega))
          exact K (by omega) _ _ ⟨rfl, by rw [e, show c - (k + 1) = d by omega], rfl⟩
  · rw [if_pos cy, if_pos cy]
    simp (maxSteps := 2000000) only [↓reduceIte, wp_eq, wpd_eq, kont_eq, STP1, STP2, STP3, STP4, STP5, konM_eq, AMK, CZ, Option.map, List.getElem?_cons_zero, List.getElem?_cons_succ, List.mem_cons, List.not_mem_nil, if_false, if_true, Nat.reduceAdd, Nat.reduceLT, Nat.reduceLeDiff, Nat.reduceEqDiff, true_and, and_true, List.length_nil, List.length_cons, or_true, true_or, or_false, false_or, Option.some.injEq, Sum.inl.injEq, Sum.inr.injEq, exists_eq_left', exists_eq_left, Int.reduceLE, Int.reduceLT, Int.reduceNeg, Int.reduceAdd, Int.reduceMul, Int.reduceSub, Int.reduceToNat, inR, Nat.zero_ne_one, false_and, Nat.succ_ne_zero, reduceCtorEq, false_implies, true_implies, not_false_eq_true, not_true_eq_false, Int.reduceEq, KRE, C_Growth_yearBy, FG]
    repeat (refine ⟨by omega, ?_⟩)
    try (first | (show _ ≤ _; omega) | (show _ < _; omega))
    exact (Stock_yearOf_ok isStk_76 ht hw).eq ⟨rfl, rfl⟩
