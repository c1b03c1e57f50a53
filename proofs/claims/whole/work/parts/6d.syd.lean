/-! THE CALLS, 8: yard. -/
def ydQ (M0 : Mm) (S : CS) (M' : Mm) : Prop := wfS M' 3 ∧ M' 1 2 = 0 ∧
  (S.1 ≠ 0 → M' 1 3 = (S.2.1 : Int) ∧ M' 114 0 = M0 114 0 + 1 ∧ FrP (fun b j => tcP b j ∨ b = 114 ∧ j = 0) M0 M') ∧
  (S.1 = 0 → M' 1 3 = -1 ∧ (∃ M1, stEq M' 76 M1 3 ∧ drC M1 S.2.2.1 S.2.2.2.1 S.2.2.2.2.1 S.2.2.2.2.2) ∧ M' 106 4 = 0 ∧ M' 111 2 = 0 ∧ M' 0 14 = 0 ∧ FrP (fun b j => tcP b j ∨ b = 76 ∨ 81 ≤ b ∧ b < 106 ∨ b = 106 ∧ j = 4 ∨ b = 111 ∧ j = 2 ∨ b = 0 ∧ j = 14) M0 M')
set_option maxHeartbeats 600000 in
set_option maxRecDepth 20000 in
theorem RingDater_yard_ok {M : Mm} {g f r : Nat → Int} {n L : Nat} (hL : M 1 2 = L) (hn : n ≤ L) (hL9 : L ≤ 900) (hp : oct g n) (h2 : ∀ j, 0 ≤ M 2 j ∧ M 2 j ≤ 255) (hg : ∀ j, j < n → M 2 j = g j) (hT : ∀ t, t < 8 → wfT M (9 + 3 * t)) (h5 : wfT M 5) : CallI m_RingDater_yard [.inr 0, .inl (n : Int)] M (fun x M' => x = (ydS g n 901 (tkA g n 0) f (r0F r) 0 0).1 ∧ ydQ M (ydS g n 901 (tkA g n 0) f (r0F r) 0 0) M') := by
  have T := textC_ok (f := f) (r := r) hL hn hL9 hp h2 hg hT h5
  have yin := ydS_in (g := g) (by omega : n ≤ 900) 901 (tkA g n 0) f (r0F r) 0 0 (tkA_le (by omega) (by omega))
  generalize ydS g n 901 (tkA g n 0) f (r0F r) 0 0 = S at *
  obtain ⟨⟨y0, y5⟩, -⟩ := yin
  have c0 := eq_false (show ¬ (n : Int) < 0 by omega)
  have c1 := eq_true (show (n : Int) ≤ (L : Int) by omega)
  have k1 : kc (lay 1) 5 = True := FD.1
  have k106 : lay 106 = .inr (.inl (3, [some 107, some 108, some 109, some 110, none])) := rfl
  have k111 : lay 111 = .inr (.inl (4, [some 112, some 113, none])) := rfl
  have k3 : kc (lay 3) 8 = True := by rw [isStk_3.1]; exact eq_true rfl
  have k76 : kc (lay 76) 8 = True := by rw [isStk_76.1]; exact eq_true rfl
  refine callP_of (by decide) (by decide) (Nat.le_of_ble_eq_true rfl) (wpm_of (cuts := []) (by decide) 60 _ _ _ _ ?_)
  rw [show lM m_RingDater_yard = 3 from rfl]
  simp (maxSteps := 2000000) only [↓reduceIte, wp_eq, wpd_eq, kont_eq, STP1, STP2, STP3, STP4, STP5, konM_eq, AMK, CZ, Option.map, List.getElem?_cons_zero, List.getElem?_cons_succ, List.mem_cons, List.not_mem_nil, if_false, if_true, Nat.reduceAdd, Nat.reduceLT, Nat.reduceLeDiff, Nat.reduceEqDiff, true_and, and_true, List.length_nil, List.length_cons, or_true, true_or, or_false, false_or, Option.some.injEq, Sum.inl.injEq, Sum.inr.injEq, exists_eq_left', exists_eq_left, Int.reduceLE, Int.reduceLT, Int.reduceNeg, Int.reduceAdd, Int.reduceMul, Int.reduceSub, Int.reduceToNat, inR, Nat.zero_ne_one, false_and, Nat.succ_ne_zero, reduceCtorEq, false_implies, true_implies, not_false_eq_true, not_true_eq_false, Int.reduceEq, KRE, C_RingDater_yard, FR, FD, hL, c0, c1]
  repeat (first | refine And.intro (by omega) ?_ | refine And.intro (fun _ _ => okt_nn (by omega)) ?_)
  refine T.mono (fun x M1 w => ?_)
  obtain ⟨rfl, w2, w3, w4, w5, w6⟩ := w
  by_cases c : S.1 = 0
  · obtain ⟨u1, u2⟩ := w6 c
    have CF := Stock_copyFrom_ok (s := 76) (f := 3) isStk_76 isStk_3 u2.1 (by omega)
    rw [c]
    try simp (maxSteps := 2000000) only [↓reduceIte, wp_eq, wpd_eq, kont_eq, STP1, STP2, STP3, STP4, STP5, konM_eq, AMK, CZ, Option.map, List.getElem?_cons_zero, List.getElem?_cons_succ, List.mem_cons, List.not_mem_nil, if_false, if_true, Nat.reduceAdd, Nat.reduceLT, Nat.reduceLeDiff, Nat.reduceEqDiff, true_and, and_true, List.length_nil, List.length_cons, or_true, true_or, or_false, false_or, Option.some.injEq, Sum.inl.injEq, Sum.inr.injEq, exists_eq_left', exists_eq_left, Int.reduceLE, Int.reduceLT, Int.reduceNeg, Int.reduceAdd, Int.reduceMul, Int.reduceSub, Int.reduceToNat, inR, Nat.zero_ne_one, false_and, Nat.succ_ne_zero, reduceCtorEq, false_implies, true_implies, not_false_eq_true, not_true_eq_false, Int.reduceEq, KRE, C_RingDater_yard, FR, FD, k76, k106, k111]
    repeat (first | refine And.intro (by omega) ?_ | refine And.intro (fun _ _ => okt_nn (by omega)) ?_)
    refine CF.mono (fun M2 z => ?_)
    obtain ⟨z1, z2, z3⟩ := z
    have e2 : ∀ b j, ¬ (b = 76 ∨ 81 ≤ b ∧ b < 106) → M2 b j = M1 b j := fun b j w => by
      by_cases q : 77 ≤ b ∧ b < 81
      · exact z3 b (by omega) (by omega) j
      · exact z2 b (by omega) j
    have e3 : ∀ b j, ¬ (b = 106 ∧ j = 4) → ¬ (b = 111 ∧ j = 2) → ¬ (b = 0 ∧ j = 14) → mset (mset (mset M2 106 4 0) 111 2 0) 0 14 0 b j = M2 b j := fun b j w1 w2 w3 => (if_neg w3).trans ((if_neg w2).trans (if_neg w1))
    have R : ydQ M S (mset (mset (mset M2 106 4 0) 111 2 0) 0 14 0) := by
      refine ⟨wfS_cells (fun b p1 p2 j => (e3 _ _ (by omega) (by omega) (by omega)).trans (e2 _ _ (by omega))) w3, (e3 _ _ (by omega) (by omega) (by omega)).trans ((e2 _ _ (by omega)).trans w4), fun q => absurd c q, fun _ => ⟨(e3 _ _ (by omega) (by omega) (by omega)).trans ((e2 _ _ (by omega)).trans u1), ⟨M1, ?_, u2⟩, by simp [mset], by simp [mset], by simp [mset], fun b j w => ?_⟩⟩
      · obtain ⟨s1, s2, s3, s4, s5, s6⟩ := z1
        refine ⟨fun t ht => ?_, fun t ht => (e3 _ _ (by omega) (by omega) (by omega)).trans (s2 t ht), (e3 _ _ (by omega) (by omega) (by omega)).trans s3, (e3 _ _ (by omega) (by omega) (by omega)).trans s4, (e3 _ _ (by omega) (by omega) (by omega)).trans s5, (e3 _ _ (by omega) (by omega) (by omega)).trans s6⟩
        obtain ⟨t1, t2, t3, t4, t5, t6⟩ := s1 t ht
        exact ⟨fun j hj => (e3 _ _ (by omega) (by omega) (by omega)).trans (t1 j hj), fun j hj => (e3 _ _ (by omega) (by omega) (by omega)).trans (t2 j hj), (e3 _ _ (by omega) (by omega) (by omega)).trans t3, (e3 _ _ (by omega) (by omega) (by omega)).trans t4, (e3 _ _ (by omega) (by omega) (by omega)).trans t5, (e3 _ _ (by omega) (by omega) (by omega)).trans t6⟩
      · exact (e3 b j (by omega) (by omega) (by omega)).trans ((e2 b j (by omega)).trans (w2 b j (fun q => w (Or.inl q))))
    generalize hX : ydQ M S = X at *
    try simp (maxSteps := 2000000) only [↓reduceIte, wp_eq, wpd_eq, kont_eq, STP1, STP2, STP3, STP4, STP5, konM_eq, AMK, CZ, Option.map, List.getElem?_cons_zero, List.getElem?_cons_succ, List.mem_cons, List.not_mem_nil, if_false, if_true, Nat.reduceAdd, Nat.reduceLT, Nat.reduceLeDiff, Nat.reduceEqDiff, true_and, and_true, List.length_nil, List.length_cons, or_true, true_or, or_false, false_or, Option.some.injEq, Sum.inl.injEq, Sum.inr.injEq, exists_eq_left', exists_eq_left, Int.reduceLE, Int.reduceLT, Int.reduceNeg, Int.reduceAdd, Int.reduceMul, Int.reduceSub, Int.reduceToNat, inR, Nat.zero_ne_one, false_and, Nat.succ_ne_zero, reduceCtorEq, false_implies, true_implies, not_false_eq_true, not_true_eq_false, Int.reduceEq, KRE, C_RingDater_yard, FR, FD, k106, k111]
    repeat (first | refine And.intro (by omega) ?_ | refine And.intro (fun _ _ => okt_nn (by omega)) ?_)
    all_goals first | exact R | exact ⟨rfl, R⟩ | exact ⟨_, rfl, rfl, R⟩
  · have q := eq_false c
    have e0 : M1 114 0 = M 114 0 := w2 _ _ (by unfold tcP; omega)
    have R : ydQ M S (mset M1 114 0 (M 114 0 + 1)) := by
      refine ⟨wfS_cells (fun b p1 p2 j => if_neg (by omega)) w3, (if_neg (by omega)).trans w4, fun _ => ⟨(if_neg (by omega)).trans (w5 c), by simp [mset], ?_⟩, fun q => absurd q c⟩
      exact (w2.wd (fun b j z => Or.inl z)).st (Or.inr ⟨rfl, rfl⟩)
    generalize hX : ydQ M S = X at *
    generalize eC : S.1 = cc at *
    try simp (maxSteps := 2000000) only [↓reduceIte, wp_eq, wpd_eq, kont_eq, STP1, STP2, STP3, STP4, STP5, konM_eq, AMK, CZ, Option.map, List.getElem?_cons_zero, List.getElem?_cons_succ, List.mem_cons, List.not_mem_nil, if_false, if_true, Nat.reduceAdd, Nat.reduceLT, Nat.reduceLeDiff, Nat.reduceEqDiff, true_and, and_true, List.length_nil, List.length_cons, or_true, true_or, or_false, false_or, Option.some.injEq, Sum.inl.injEq, Sum.inr.injEq, exists_eq_left', exists_eq_left, Int.reduceLE, Int.reduceLT, Int.reduceNeg, Int.reduceAdd, Int.reduceMul, Int.reduceSub, Int.reduceToNat, inR, Nat.zero_ne_one, false_and, Nat.succ_ne_zero, reduceCtorEq, false_implies, true_implies, not_false_eq_true, not_true_eq_false, Int.reduceEq, KRE, C_RingDater_yard, FR, FD, q, e0]
    repeat (first | refine And.intro (by omega) ?_ | refine And.intro (fun _ _ => okt_nn (by omega)) ?_)
    all_goals first | exact R | exact ⟨rfl, R⟩ | exact ⟨_, rfl, rfl, R⟩
set_option maxHeartbeats 600000 in
set_option maxRecDepth 20000 in
theorem RingDater_yard_x {n : Int} {L : Nat} {M : Mm} (hL : M 1 2 = L) (hL9 : L ≤ 900) (hr : inR n) (hx : n < 0 ∨ (L : Int) < n) : ThrP m_RingDater_yard [.inr 0, .inl n] M (fun q M' => q = 1 ∧ M' = M) := by
  obtain ⟨r1, r2⟩ := hr
  by_cases c : n < 0
  · refine ⟨60, by omega, ?_⟩
    rw [show lM m_RingDater_yard = 3 from rfl]
    simp (maxSteps := 2000000) only [↓reduceIte, wp_eq, wpd_eq, kont_eq, STP1, STP2, STP3, STP4, STP5, konM_eq, AMK, CZ, Option.map, List.getElem?_cons_zero, List.getElem?_cons_succ, List.mem_cons, List.not_mem_nil, if_false, if_true, Nat.reduceAdd, Nat.reduceLT, Nat.reduceLeDiff, Nat.reduceEqDiff, true_and, and_true, List.length_nil, List.length_cons, or_true, true_or, or_false, false_or, Option.some.injEq, Sum.inl.injEq, Sum.inr.injEq, exists_eq_left', exists_eq_left, Int.reduceLE, Int.reduceLT, Int.reduceNeg, Int.reduceAdd, Int.reduceMul, Int.reduceSub, Int.reduceToNat, inR, Nat.zero_ne_one, false_and, Nat.succ_ne_zero, reduceCtorEq, false_implies, true_implies, not_false_eq_true, not_true_eq_false, Int.reduceEq, KRE, C_RingDater_yard, FR, FD, c]
    repeat (first | refine And.intro (by omega) ?_ | refine And.intro (fun _ _ => okt_nn (by omega)) ?_)
    try (first | omega | exact ⟨rfl, rfl⟩)
  · have c2 : ¬ n ≤ (L : Int) := by omega
    refine ⟨60, by omega, ?_⟩
    rw [show lM m_RingDater_yard = 3 from rfl]
    simp (maxSteps := 2000000) only [↓reduceIte, wp_eq, wpd_eq, kont_eq, STP1, STP2, STP3, STP4, STP5, konM_eq, AMK, CZ, Option.map, List.getElem?_cons_zero, List.getElem?_cons_succ, List.mem_cons, List.not_mem_nil, if_false, if_true, Nat.reduceAdd, Nat.reduceLT, Nat.reduceLeDiff, Nat.reduceEqDiff, true_and, and_true, List.length_nil, List.length_cons, or_true, true_or, or_false, false_or, Option.some.injEq, Sum.inl.injEq, Sum.inr.injEq, exists_eq_left', exists_eq_left, Int.reduceLE, Int.reduceLT, Int.reduceNeg, Int.reduceAdd, Int.reduceMul, Int.reduceSub, Int.reduceToNat, inR, Nat.zero_ne_one, false_and, Nat.succ_ne_zero, reduceCtorEq, false_implies, true_implies, not_false_eq_true, not_true_eq_false, Int.reduceEq, KRE, C_RingDater_yard, FR, FD, c, hL, c2]
    repeat (first | refine And.intro (by omega) ?_ | refine And.intro (fun _ _ => okt_nn (by omega)) ?_)
    try (first | omega | exact ⟨rfl, rfl⟩)
section SYD
variable {k n : Nat} {T : Nat → Rw} {Y : Nat → Int} {lap bnd mrg : Int} {M MA MB : Mm}
theorem cls_new {g : Nat → Int} {n1 : Nat} {lap1 bnd1 mrg1 : Int} (hc : cls M n T Y lap bnd mrg) (e : ∀ b j, 33 ≤ b → b < 76 → MA b j = M b j) (e3 : MA 76 3 = n1) (n8 : n1 ≤ 8) (e5 : MA 76 5 = lap1) (e4 : MA 76 4 = bnd1) (e6 : MA 76 6 = mrg1) (hw : wfS MA 76) (hr : rowR MA 76 g n1) (hg : rowW g n1) : cls MA n1 (stT MA 76) (fun t => MA 81 t) lap1 bnd1 mrg1 := by
  obtain ⟨⟨-, ⟨b1, b2, b3⟩, w7⟩, -⟩ := hc
  have oc := okC_row n8 hr hg
  obtain ⟨v0, v1, v2, v3, -⟩ := id hw
  refine ⟨⟨⟨hw, ?_⟩, ⟨rowOK_cells (fun b p1 p2 j => e b j (by omega) (by omega)) b1, rowOK_cells (fun b p1 p2 j => e b j (by omega) (by omega)) b2, rowOK_cells (fun b p1 p2 j => e b j (by omega) (by omega)) b3⟩, wfT_cells (fun b p1 p2 j => e b j (by omega) (by omega)) w7⟩, ⟨e3, n8⟩, fun t ht => ⟨rfl, rfl⟩, ⟨e5, ?_⟩, ⟨e4, ?_⟩, ⟨e6, ?_⟩, oc⟩
  · rw [e3]; exact oc
  · rw [← e5]; exact v2
  · rw [← e4]; exact v1
  · rw [← e6]; exact v3
theorem sim_yard_x {n0 : Int} {L : Nat} (hR : Rel k M) (hr : inR n0) (hL : M 1 2 = L) (hx0 : n0 < 0 ∨ (L : Int) < n0) : SimX m_RingDater_yard m_Model_yard [.inl n0] k 1 1 M := by
  obtain ⟨n, T, Y, lap, bnd, mrg, hc, hm, hx⟩ := hR
  obtain ⟨x1, x2, x3, ⟨L2, ⟨y1, y2, y3⟩, y4, y5⟩, x5, x6, x7, x8⟩ := relX_of hx
  obtain rfl : L = L2 := by omega
  exact sim_x0 hc hm hx (RingDater_yard_x y1 y3 hr hx0) (Model_yard_x y2 y3 hr hx0)
set_option maxHeartbeats 600000 in
set_option maxRecDepth 20000 in
theorem sim_yard {n0 L : Nat} (hR : Rel k M) (hL : M 1 2 = L) (hn : n0 ≤ L) : Sim m_RingDater_yard m_Model_yard [.inl (n0 : Int)] k M := by
  obtain ⟨n, T, Y, lap, bnd, mrg, hc, hm, hx⟩ := hR
  obtain ⟨x1, x2, x3, ⟨L2, ⟨y1, y2, y3⟩, y4, y5⟩, x5, x6, x7, x8⟩ := relX_of hx
  obtain rfl : L = L2 := by omega
  have n8 := hm.1.2
  have oc : oct (M 161) L := fun j hj => by rw [← y4 j hj]; exact y5 j
  have YA := RingDater_yard_ok (f := M 159) (r := M 157) (g := M 161) y1 hn y3 (fun j hj => oc j (by omega)) y5 (fun j hj => y4 j (by omega)) x7.2.2.2.1 x7.2.2.1
  have yin := ydS_in (g := M 161) (by omega : n0 ≤ 900) 901 (tkA (M 161) n0 0) (M 159) (r0F (M 157)) 0 0 (tkA_le (by omega) (by omega))
  have yr := ydS_r (g := M 161) (by omega : n0 ≤ 900) 901 (tkA (M 161) n0 0) (M 159) (r0F (M 157)) 0 0 (tkA_le (by omega) (by omega)) (rdI_r0 _)
  refine YA.mono (fun x M1 w => ?_)
  obtain ⟨rfl, w1, w2, w3, w4⟩ := w
  have F : ∀ b j, ¬ tcP b j → ¬ (b = 114 ∧ j = 0) → ¬ (b = 76 ∨ 81 ≤ b ∧ b < 106 ∨ b = 106 ∧ j = 4 ∨ b = 111 ∧ j = 2 ∨ b = 0 ∧ j = 14) → M1 b j = M b j := fun b j z1 z2 z3 => by
    by_cases c : (ydS (M 161) n0 901 (tkA (M 161) n0 0) (M 159) (r0F (M 157)) 0 0).1 = 0
    · exact (w4 c).2.2.2.2.2 b j (fun z => z.elim z1 z3)
    · exact (w3 c).2.2 b j (fun z => z.elim z1 z2)
  have e161 : M1 161 = M 161 := funext fun j => F _ _ (by unfold tcP; omega) (by omega) (by omega)
  have e159 : M1 159 = M 159 := funext fun j => F _ _ (by unfold tcP; omega) (by omega) (by omega)
  have e157 : M1 157 = M 157 := funext fun j => F _ _ (by unfold tcP; omega) (by omega) (by omega)
  have YB := Model_yard_ok (M := M1) (n := n0) ((F _ _ (by unfold tcP; omega) (by omega) (by omega)).trans y2) hn y3 (by rw [e161]; exact oc)
  have eS : ydA M1 n0 = ydS (M 161) n0 901 (tkA (M 161) n0 0) (M 159) (r0F (M 157)) 0 0 := by
    unfold ydA
    rw [e161, e159, e157]
  rw [eS] at YB
  generalize ydS (M 161) n0 901 (tkA (M 161) n0 0) (M 159) (r0F (M 157)) 0 0 = S at *
  refine ⟨⟨by omega, by omega⟩, YB.mono (fun y MB z => ?_)⟩
  obtain ⟨rfl, v1, v2, v3, v4⟩ := z
  refine ⟨rfl, v1, ?_⟩
  by_cases c : S.1 = 0
  · obtain ⟨u1, ⟨MX, u2, d1, d2, -, d4, d5, -⟩, u3, u4, u5, u6⟩ := w4 c
    obtain ⟨t1, t2, t3, t4, t5, t6, t7⟩ := v4 c
    obtain ⟨⟨i1, i2⟩, i3, -, -⟩ := yr c
    have E : ∀ b j, b < 154 → MB b j = M1 b j := fun b j w => t7 b j (by unfold ydP rcP stP; omega)
    have E2 : ∀ b j, 154 < b → b ≠ 156 → b ≠ 157 → b ≠ 158 → b ≠ 159 → MB b j = M b j := fun b j p1 p2 p3 p4 p5 => (t7 b j (by unfold ydP rcP stP; omega)).trans (F b j (by unfold tcP; omega) (by omega) (by omega))
    obtain ⟨n1, en⟩ : ∃ n1 : Nat, S.2.2.2.1 0 = n1 := ⟨(S.2.2.2.1 0).toNat, by omega⟩
    rw [en, show ((n1 : Nat) : Int).toNat = n1 from rfl] at d4 d5
    have n18 : n1 ≤ 8 := by omega
    have w78 : wfT M1 (76 + 2) := wfT_cells (fun b p1 p2 j => F b j (by unfold tcP; omega) (by omega) (by omega)) hc.1.1.1.2.2.2.2.2.1
    have w76 : wfS M1 76 := stEq_wf u2 d1 w78
    have eI : eq24 (MB 158) S.2.2.1 := t2
    have rI := rowR_st u2 d1 d4 eI n18 d5
    have hg := rowW_eq eI n18 d5
    obtain ⟨-, -, s3, s4, s5, s6⟩ := id u2
    have cA := cls_new (MA := M1) (n1 := n1) hc (fun q j p1 p2 => F q j (by unfold tcP; omega) (by omega) (by omega)) (by rw [s3, d2.1, en]) n18 s5 s4 s6 w76 rI hg
    rw [d2.2.1, d2.2.2.1, d2.2.2.2] at cA
    have oc2 := okC_row n18 rI hg
    obtain ⟨-, o1, o2, o3, -⟩ := id d1
    rw [d2.2.1] at o1
    rw [d2.2.2.1] at o2
    rw [d2.2.2.2] at o3
    refine ⟨n1, stT M1 76, fun t => M1 81 t, _, _, _, cls_out cA (fun q p1 p2 j => E _ _ (by omega)), ⟨⟨by rw [t3 0 (by omega)]; exact en, n18⟩, fun t ht => ?_, ⟨?_, ?_, ?_⟩, oc2⟩, ?_⟩
    · obtain ⟨r1, r2, -⟩ := rI t ht
      exact ⟨r1.symm, r2.symm, (hg t ht).2.2⟩
    · rw [t3 1 (by omega)]; exact ⟨rfl, o1⟩
    · rw [t3 2 (by omega)]; exact ⟨rfl, o2⟩
    · rw [t3 3 (by omega)]; exact ⟨rfl, o3⟩
    · refine relX_mk (rowR_fr n18 (fun q p1 p2 j => E _ _ (by omega)) rI) ⟨0, fun _ => 0, fun _ => 0, ⟨(E _ _ (by omega)).trans u4, by omega, fun i hi => absurd hi (Nat.not_lt_zero _)⟩, t5, by omega, fun i hi => absurd hi (Nat.not_lt_zero _)⟩ ?_ ⟨0, ⟨(E _ _ (by omega)).trans w2, v2, by omega⟩, fun j hj => absurd hj (Nat.not_lt_zero _), fun j => ?_⟩ ⟨?_, ?_⟩ ⟨0, t4, (E _ _ (by omega)).trans u3, by omega, hg, fun i hi => absurd hi (Nat.not_lt_zero _)⟩ ?_ ⟨?_, fun z => ?_⟩
      · exact ct_mv x3 (by omega) (fun b j z => by
          rcases z with rfl | rfl
          · exact (E _ _ (by omega)).trans (u6 _ _ (by unfold tcP; omega))
          · exact (t7 _ _ (by unfold ydP rcP stP; omega)).trans (u6 _ _ (by unfold tcP; omega)))
      · rw [E _ _ (by omega), F _ _ (by unfold tcP; omega) (by omega) (by omega)]; exact y5 j
      · rw [E _ _ (by omega), u1, t1]
      · rw [E _ _ (by omega), u1]; omega
      · exact ⟨Or.inl ((E _ _ (by omega)).trans u5), wfT_cells (fun b p1 p2 j => (E _ _ (by omega)).trans (F _ _ (by unfold tcP; omega) (by omega) (by omega))) x7.2.1, wfT_cells (fun b p1 p2 j => E _ _ (by omega)) w1.2.2.2.2.2.1, fun t ht => wfT_cells (fun b p1 p2 j => E _ _ (by omega)) (w1.2.2.2.2.1 t ht), fun t ht => by rw [E _ _ (by omega)]; exact w1.2.2.2.2.2.2 t ht⟩
      · rw [t6, E _ _ (by omega), u5]
      · rw [E _ _ (by omega), u5] at z
        exact absurd z (by omega)
  · obtain ⟨u1, u2, u3⟩ := w3 c
    obtain ⟨t1, t2, t3⟩ := v3 c
    have E : ∀ b j, b < 154 → MB b j = M1 b j := fun b j w => t3 b j (by unfold ydP rcP stP; omega)
    have G : ∀ b j, ¬ tcP b j → ¬ (b = 114 ∧ j = 0) → ¬ (ydP b j ∨ b = 160 ∧ j = 0) → MB b j = M b j := fun b j z1 z2 z3 => (t3 b j z3).trans (u3 b j (fun z => z.elim z1 z2))
    have G2 : ∀ b j, 33 ≤ b → b < 154 → ¬ (b = 114 ∧ j = 0) → MB b j = M b j := fun b j p1 p2 p3 => G b j (by unfold tcP; omega) p3 (by unfold ydP rcP stP; omega)
    have G3 : ∀ b j, 154 ≤ b → b ≠ 157 → b ≠ 159 → ¬ (b = 160 ∧ j = 0) → ¬ (b = 154 ∧ (j = 1 ∨ 8 ≤ j ∧ j ≤ 19)) → MB b j = M b j := fun b j p1 p2 p3 p4 p5 => G b j (by unfold tcP; omega) (by omega) (by unfold ydP rcP stP; omega)
    refine ⟨n, T, Y, lap, bnd, mrg, cls_out hc (fun b p1 p2 j => G2 _ _ (by omega) (by omega) (by omega)), mdl_fr hm (P := fun b j => ¬ (b = 156 ∨ b = 158)) (fun b j z => G3 b j (by omega) (by omega) (by omega) (by omega) (by omega)) (fun b j z => by omega), ?_⟩
    have yin2 := yin.2
    refine relX_mk (row_mv (s := 0) (s2 := 0) n8 x1 (fun b j z => by
      by_cases w : b = 158
      · exact G3 _ _ (by omega) (by omega) (by omega) (by omega) (by omega)
      · exact G2 _ _ (by omega) (by omega) (by omega))) (nt_mv x2 (fun b j z => by
      by_cases w : b < 154
      · exact G2 _ _ (by omega) (by omega) (by omega)
      · exact G3 _ _ (by omega) (by omega) (by omega) (by omega) (by omega))) (fun j hj => ?_) ⟨0, ⟨(E _ _ (by omega)).trans w2, v2, by omega⟩, fun j hj => absurd hj (Nat.not_lt_zero _), fun j => ?_⟩ ⟨?_, ?_⟩ (ld_mv x6 (fun b j z => by
      by_cases w : b < 154
      · exact G2 _ _ (by omega) (by omega) (by omega)
      · exact G3 _ _ (by omega) (by omega) (by omega) (by omega) (by omega))) ?_ (im_mv x8 n8 (by omega) (fun b j z => by
      by_cases w : b < 154
      · by_cases w2 : b = 0
        · exact G _ _ (by unfold tcP; omega) (by omega) (by unfold ydP rcP stP; omega)
        · exact G2 _ _ (by omega) (by omega) (by omega)
      · exact G3 _ _ (by omega) (by omega) (by omega) (by omega) (by omega)))
    · obtain ⟨a1, a2, a3⟩ := x3 j hj
      by_cases w : j = 0
      · subst w
        rw [E _ _ (by omega), u2, t2, F 160 0 (by unfold tcP; omega) (by omega) (by omega)]
        omega
      · rw [G2 114 j (by omega) (by omega) (by omega), G3 160 j (by omega) (by omega) (by omega) (by omega) (by omega)]
        omega
    · rw [E _ _ (by omega), F _ _ (by unfold tcP; omega) (by omega) (by omega)]; exact y5 j
    · rw [E _ _ (by omega), u1, t1]
    · rw [E _ _ (by omega), u1]; omega
    · exact ⟨by rw [G 0 14 (by unfold tcP; omega) (by omega) (by unfold ydP rcP stP; omega)]; exact x7.1, wfT_cells (fun b p1 p2 j => G2 _ _ (by omega) (by omega) (by omega)) x7.2.1, wfT_cells (fun b p1 p2 j => E _ _ (by omega)) w1.2.2.2.2.2.1, fun t ht => wfT_cells (fun b p1 p2 j => E _ _ (by omega)) (w1.2.2.2.2.1 t ht), fun t ht => by rw [E _ _ (by omega)]; exact w1.2.2.2.2.2.2 t ht⟩
end SYD
