/-! THE CLASS'S OWN HELPERS. -/
/-- mi throws, with X -/
def ThrP (mi : Nat) (as : List AV) (M : Mm) (X : Nat → Mm → Prop) : Prop := ∃ n, n ≤ 400 ∧ wp mi (fun _ _ => False) X [] (fun _ _ _ _ => False) n 0 (am_ent as (lM mi)) [] M
def scrF : Nat → Nat → Prop := fun b _ => 33 ≤ b ∧ b < 76
def clOK (M : Mm) : Prop := stOK M ∧ benOK M ∧ wfT M 73
/-- the class's timbers: n, their rows T, years Y, lap, bound, margin -/
def cls (M : Mm) (n : Nat) (T : Nat → Rw) (Y : Nat → Int) (lap bnd mrg : Int) : Prop := clOK M ∧ (M 76 3 = n ∧ n ≤ 8) ∧ (∀ t, t < 8 → stT M 76 t = T t ∧ M 81 t = Y t) ∧ (M 76 5 = lap ∧ 3 ≤ lap ∧ lap ≤ 24) ∧ (M 76 4 = bnd ∧ 50 ≤ bnd ∧ bnd ≤ 100) ∧ (M 76 6 = mrg ∧ 0 ≤ mrg ∧ mrg ≤ 50) ∧ okC T Y n
theorem isTim_73 : isTim 73 := ⟨rfl, rfl, rfl⟩
theorem cls_fr {n : Nat} {T : Nat → Rw} {Y : Nat → Int} {lap bnd mrg : Int} {P : Nat → Nat → Prop} {M M1 : Mm} (h : cls M n T Y lap bnd mrg) (f : FrP P M M1) (hP : ∀ b j, P b j → 33 ≤ b ∧ b < 76) (hb : benOK M1) (hw : wfT M1 73) : cls M1 n T Y lap bnd mrg ∧ FrP scrF M M1 := by
  obtain ⟨⟨h1, h2, h3⟩, ⟨h4, h5⟩, h6, ⟨h7, h8⟩, ⟨h9, h10⟩, ⟨h11, h12⟩, h13⟩ := h
  have e76 : ∀ b, 76 ≤ b → b < 106 → ∀ j, M1 b j = M b j := fun b p1 p2 j => f b j (fun z => by have := hP b j z; omega)
  obtain ⟨s1, s2, s3, s4⟩ := stOK_cells e76 h1
  exact ⟨⟨⟨s1, hb, hw⟩, ⟨by rw [s4]; exact h4, h5⟩, fun t ht => ⟨(s2 t ht).trans (h6 t ht).1, (s3 t).trans (h6 t ht).2⟩, ⟨by rw [s4]; exact h7, h8⟩, ⟨by rw [s4]; exact h9, h10⟩, ⟨by rw [s4]; exact h11, h12⟩, h13⟩, f.wd (fun b j z => hP b j z)⟩
theorem cls_f3 {n : Nat} {T : Nat → Rw} {Y : Nat → Int} {lap bnd mrg : Int} {P : Nat → Nat → Prop} {M M1 : Mm} (h : cls M n T Y lap bnd mrg) (f : FrP P M M1) (hP : ∀ b j, P b j → 33 ≤ b ∧ b < 73) (hb : benOK M1) : cls M1 n T Y lap bnd mrg ∧ FrP scrF M M1 :=
  cls_fr h f (fun b j z => by have := hP b j z; omega) hb (wfT_cells (fun b p1 p2 j => f b j (fun z => by have := hP b j z; omega)) h.1.2.2)
theorem cls_st {n : Nat} {T : Nat → Rw} {Y : Nat → Int} {lap bnd mrg : Int} {M : Mm} (h : cls M n T Y lap bnd mrg) : wfS M 76 ∧ okC (stT M 76) (M 81) (M 76 3).toNat ∧ (M 76 3).toNat = n ∧ ∀ t, t < n → stT M 76 t = T t ∧ M 81 t = Y t := by
  obtain ⟨⟨h1, h2, h3⟩, ⟨h4, h5⟩, h6, -⟩ := h
  exact ⟨h1.1, h1.2, by omega, fun t ht => h6 t (by omega)⟩
/-- a timber's address, by cls -/
theorem cls_tm {n t : Nat} {T : Nat → Rw} {Y : Nat → Int} {lap bnd mrg : Int} {M : Mm} (h : cls M n T Y lap bnd mrg) (ht : t < n) : tmA M 76 t = 82 + 3 * t ∧ isTim (82 + 3 * t) ∧ wfT M (82 + 3 * t) ∧ tRw M (82 + 3 * t) = T t ∧ okT (T t) ∧ yrA M 76 t = Y t ∧ (-1 ≤ Y t ∧ Y t ≤ 900) := by
  obtain ⟨⟨h1, h2, h3⟩, ⟨h4, h5⟩, h6, -, -, -, h13⟩ := h
  refine ⟨?_, ?_, ?_, (h6 t (by omega)).1, (h13.2 t ht).1, ?_, (h13.2 t ht).2⟩
  · rw [tmA_k (by omega)]
  · exact isStk_76.2.2.2.2 t (by omega)
  · exact h1.1.2.2.2.2.1 t (by omega)
  · rw [yrA_k (by omega)]
    exact (h6 t (by omega)).2
set_option maxHeartbeats 600000 in
set_option maxRecDepth 20000 in
theorem RingDater_refusedAct_ok {M : Mm} : CallI m_RingDater_refusedAct [.inr 0] M (fun x M' => x = -1 ∧ M' = mset M 114 1 (M 114 1 + 1)) := by
  refine callP_of (by decide) (by decide) (Nat.le_of_ble_eq_true rfl) (wpm_of (cuts := []) (by decide) 50 _ _ _ _ ?_)
  rw [show lM m_RingDater_refusedAct = 1 from rfl]
  simp (maxSteps := 2000000) only [↓reduceIte, wp_eq, wpd_eq, kont_eq, STP1, STP2, STP3, STP4, STP5, konM_eq, AMK, CZ, Option.map, List.getElem?_cons_zero, List.getElem?_cons_succ, List.mem_cons, List.not_mem_nil, if_false, if_true, Nat.reduceAdd, Nat.reduceLT, Nat.reduceLeDiff, Nat.reduceEqDiff, true_and, and_true, List.length_nil, List.length_cons, or_true, true_or, or_false, false_or, Option.some.injEq, Sum.inl.injEq, Sum.inr.injEq, exists_eq_left', exists_eq_left, Int.reduceLE, Int.reduceLT, Int.reduceNeg, Int.reduceAdd, Int.reduceMul, Int.reduceSub, Int.reduceToNat, inR, Nat.zero_ne_one, false_and, Nat.succ_ne_zero, reduceCtorEq, false_implies, true_implies, not_false_eq_true, not_true_eq_false, Int.reduceEq, KRE, C_RingDater_refusedAct, FR]
theorem layC_cls {n : Nat} {T : Nat → Rw} {Y : Nat → Int} {lap bnd mrg wo : Int} {M : Mm} (h : cls M n T Y lap bnd mrg) (hwo : inR wo) : CallV m_Bench_layChronology [.inr 33, .inr 76, .inr 81, .inl wo] M (fun M' => finR M' 48 924 (chr T Y wo n) ∧ M' 33 7 = (cSpan T Y wo n).1 ∧ M' 33 8 = (cSpan T Y wo n).2 ∧ cls M' n T Y lap bnd mrg ∧ FrP (fun b _ => b = 33 ∨ 48 ≤ b ∧ b < 57) M M') := by
  obtain ⟨s1, s2, s3, s4⟩ := cls_st h
  refine (Bench_layChronology_ok (ya := 81) rfl (by omega) s1 s2 h.1.2.1 hwo).mono (fun M' z => ?_)
  obtain ⟨z1, z2, z3, z4, z5⟩ := z
  rw [s3] at z1 z3 z4
  rw [chr_congr s4] at z1
  rw [cSpan_congr s4] at z3 z4
  have b2 : benOK M' := ⟨rowOK_cells (fun b p1 p2 j => z5 b j (by omega)) h.1.2.1.1, rowOK_cells (fun b p1 p2 j => z5 b j (by omega)) h.1.2.1.2.1, z2⟩
  exact ⟨z1, z3, z4, (cls_f3 h z5 (fun b j q => by omega) b2).1, z5⟩
set_option maxHeartbeats 600000 in
set_option maxRecDepth 20000 in
theorem RingDater_layChronology_ok {n : Nat} {T : Nat → Rw} {Y : Nat → Int} {lap bnd mrg : Int} {M : Mm} (h : cls M n T Y lap bnd mrg) : CallV m_RingDater_layChronology [.inr 0] M (fun M' => finR M' 48 924 (chr T Y (-1) n) ∧ M' 33 7 = (cSpan T Y (-1) n).1 ∧ M' 33 8 = (cSpan T Y (-1) n).2 ∧ cls M' n T Y lap bnd mrg ∧ FrP scrF M M') := by
  have k33 : kc (lay 33) 0 = True := FB.1
  have l0 := isStk_76.1
  refine callP_of (by decide) (by decide) (Nat.le_of_ble_eq_true rfl) (wpm_of (cuts := []) (by decide) 50 _ _ _ _ ?_)
  rw [show lM m_RingDater_layChronology = 1 from rfl]
  simp (maxSteps := 2000000) only [↓reduceIte, wp_eq, wpd_eq, kont_eq, STP1, STP2, STP3, STP4, STP5, konM_eq, AMK, CZ, Option.map, List.getElem?_cons_zero, List.getElem?_cons_succ, List.mem_cons, List.not_mem_nil, if_false, if_true, Nat.reduceAdd, Nat.reduceLT, Nat.reduceLeDiff, Nat.reduceEqDiff, true_and, and_true, List.length_nil, List.length_cons, or_true, true_or, or_false, false_or, Option.some.injEq, Sum.inl.injEq, Sum.inr.injEq, exists_eq_left', exists_eq_left, Int.reduceLE, Int.reduceLT, Int.reduceNeg, Int.reduceAdd, Int.reduceMul, Int.reduceSub, Int.reduceToNat, inR, Nat.zero_ne_one, false_and, Nat.succ_ne_zero, reduceCtorEq, false_implies, true_implies, not_false_eq_true, not_true_eq_false, Int.reduceEq, KRE, C_RingDater_layChronology, FR, k33, l0]
  refine (layC_cls h ⟨by omega, by omega⟩).mono (fun M' z => ?_)
  exact ⟨z.1, z.2.1, z.2.2.1, z.2.2.2.1, z.2.2.2.2.wd (fun b j q => by unfold scrF; omega)⟩
set_option maxHeartbeats 600000 in
set_option maxRecDepth 20000 in
theorem RingDater_spunWeb_ok {n : Nat} {T : Nat → Rw} {Y : Nat → Int} {lap bnd mrg : Int} {M : Mm} (h : cls M n T Y lap bnd mrg) : CallR m_RingDater_spunWeb [.inr 0] M (fun x M' => x = 60 ∧ webIs M' (lks T lap bnd mrg n n) ∧ cls M' n T Y lap bnd mrg ∧ FrP scrF M M') := by
  have k60 : kc (lay 60) 10 = True := FW.1
  obtain ⟨s1, s2, s3, s4⟩ := cls_st h
  refine callP_of (by decide) (by decide) (Nat.le_of_ble_eq_true rfl) (wpm_of (cuts := []) (by decide) 50 _ _ _ _ ?_)
  rw [show lM m_RingDater_spunWeb = 1 from rfl]
  simp (maxSteps := 2000000) only [↓reduceIte, wp_eq, wpd_eq, kont_eq, STP1, STP2, STP3, STP4, STP5, konM_eq, AMK, CZ, Option.map, List.getElem?_cons_zero, List.getElem?_cons_succ, List.mem_cons, List.not_mem_nil, if_false, if_true, Nat.reduceAdd, Nat.reduceLT, Nat.reduceLeDiff, Nat.reduceEqDiff, true_and, and_true, List.length_nil, List.length_cons, or_true, true_or, or_false, false_or, Option.some.injEq, Sum.inl.injEq, Sum.inr.injEq, exists_eq_left', exists_eq_left, Int.reduceLE, Int.reduceLT, Int.reduceNeg, Int.reduceAdd, Int.reduceMul, Int.reduceSub, Int.reduceToNat, inR, Nat.zero_ne_one, false_and, Nat.succ_ne_zero, reduceCtorEq, false_implies, true_implies, not_false_eq_true, not_true_eq_false, Int.reduceEq, KRE, C_RingDater_spunWeb, FR, k60]
  refine (Web_spin_ok (n := n) (T := stT M 76) (lap := lap) (bnd := bnd) (mrg := mrg) h.1.1 h.1.2.1 s3.symm rfl h.2.2.2.1.1 h.2.2.2.2.1.1 h.2.2.2.2.2.1.1).mono (fun M' z => ?_)
  rw [lks_congr (fun t ht => (s4 t ht).1)] at z
  exact ⟨z.1, cls_f3 h z.2.2 (fun b j q => by omega) z.2.1⟩
/-- BEST of a timber on the chronology of others -/
def bestO (T : Nat → Rw) (Y : Nat → Int) (lap : Int) (n t : Nat) : Bst := best (chr T Y t n) (T t) lap
theorem bestO_ok {T : Nat → Rw} {Y : Nat → Int} {lap : Int} {n t : Nat} (h : okC T Y n) (ht : t < n) : okB (bestO T Y lap n t) :=
  okB_best (chr_R h).2 (by have := (h.2 t ht).1.1; omega)
set_option maxHeartbeats 600000 in
set_option maxRecDepth 20000 in
theorem RingDater_seekAmongOthers_ok {n t : Nat} {T : Nat → Rw} {Y : Nat → Int} {lap bnd mrg : Int} {M : Mm} (h : cls M n T Y lap bnd mrg) (ht : t < n) : CallR m_RingDater_seekAmongOthers [.inr 0, .inl t] M (fun x M' => x = 58 ∧ fndIs M' 58 (bestO T Y lap n t) ∧ M' 33 7 = (cSpan T Y t n).1 ∧ cls M' n T Y lap bnd mrg ∧ FrP scrF M M') := by
  have k33 : kc (lay 33) 0 = True := FB.1
  have l0 := isStk_76.1
  have n8 := h.2.1.2
  refine callP_of (by decide) (by decide) (Nat.le_of_ble_eq_true rfl) (wpm_of (cuts := []) (by decide) 50 _ _ _ _ ?_)
  rw [show lM m_RingDater_seekAmongOthers = 2 from rfl]
  simp (maxSteps := 2000000) only [↓reduceIte, wp_eq, wpd_eq, kont_eq, STP1, STP2, STP3, STP4, STP5, konM_eq, AMK, CZ, Option.map, List.getElem?_cons_zero, List.getElem?_cons_succ, List.mem_cons, List.not_mem_nil, if_false, if_true, Nat.reduceAdd, Nat.reduceLT, Nat.reduceLeDiff, Nat.reduceEqDiff, true_and, and_true, List.length_nil, List.length_cons, or_true, true_or, or_false, false_or, Option.some.injEq, Sum.inl.injEq, Sum.inr.injEq, exists_eq_left', exists_eq_left, Int.reduceLE, Int.reduceLT, Int.reduceNeg, Int.reduceAdd, Int.reduceMul, Int.reduceSub, Int.reduceToNat, inR, Nat.zero_ne_one, false_and, Nat.succ_ne_zero, reduceCtorEq, false_implies, true_implies, not_false_eq_true, not_true_eq_false, Int.reduceEq, KRE, C_RingDater_seekAmongOthers, FR, k33, l0]
  refine (layC_cls (wo := t) h ⟨by omega, by omega⟩).mono (fun M1 z => ?_)
  obtain ⟨z1, z2, z3, h1, z5⟩ := z
  refine (Stock_timberAt_ok (t := (t : Int)) isStk_76 ⟨by omega, by omega⟩ h1.1.1.1).eq ?_
  obtain ⟨t1, t2, t3, t4, t5, -⟩ := cls_tm h1 ht
  rw [t1]
  have v5 := h1.2.2.2.1.1
  have vl := h.2.2.2.1.2
  simp (maxSteps := 2000000) only [↓reduceIte, wp_eq, wpd_eq, kont_eq, STP1, STP2, STP3, STP4, STP5, konM_eq, AMK, CZ, Option.map, List.getElem?_cons_zero, List.getElem?_cons_succ, List.mem_cons, List.not_mem_nil, if_false, if_true, Nat.reduceAdd, Nat.reduceLT, Nat.reduceLeDiff, Nat.reduceEqDiff, true_and, and_true, List.length_nil, List.length_cons, or_true, true_or, or_false, false_or, Option.some.injEq, Sum.inl.injEq, Sum.inr.injEq, exists_eq_left', exists_eq_left, Int.reduceLE, Int.reduceLT, Int.reduceNeg, Int.reduceAdd, Int.reduceMul, Int.reduceSub, Int.reduceToNat, inR, Nat.zero_ne_one, false_and, Nat.succ_ne_zero, reduceCtorEq, false_implies, true_implies, not_false_eq_true, not_true_eq_false, Int.reduceEq, KRE, C_RingDater_seekAmongOthers, FR, k33, l0, v5]
  refine (Bench_seekOnChronology_ok t2 h1.1.2.1 z1 t3 (by rw [t4]; exact t5) (by omega) (by omega)).mono (fun y M3 q => ?_)
  obtain ⟨rfl, q1, q2, q4⟩ := q
  rw [t4] at q1
  have c := cls_f3 (P := fun b _ => b = 33 ∨ 41 ≤ b ∧ b < 57 ∨ 58 ≤ b ∧ b < 60) h ((z5.wd (fun b j q => by omega)).tr (q4.wd (fun b j q => by omega))) (fun b j q => by omega) q2
  exact ⟨rfl, q1, (q4 33 7 (by omega)).trans z2, c.1, c.2⟩
/-- the score of a best place, 0 without -/
def scF (x : Bst) : Int := if x.1 = 0 then 0 else x.2.2.1
theorem scF_in {x : Bst} (h : okB x) : 0 ≤ scF x ∧ scF x ≤ 100 := by
  unfold scF
  split
  · omega
  · have := h.2.2.1 (by assumption)
    omega
set_option maxHeartbeats 600000 in
set_option maxRecDepth 20000 in
theorem RingDater_scoreHere_ok {n o : Nat} {T : Nat → Rw} {Y : Nat → Int} {lap bnd mrg : Int} {A : Rw} {M : Mm} (h : cls M n T Y lap bnd mrg) (ho : isTim o) (hw : wfT M o) (hT : okT (tRw M o)) (h60 : 60 ≤ o) (hA : finR M 48 924 A) : CallI m_RingDater_scoreHere [.inr 0, .inr o] M (fun x M' => x = scF (best A (tRw M o) lap) ∧ cls M' n T Y lap bnd mrg ∧ finR M' 48 924 A ∧ FrP (fun b _ => 41 ≤ b ∧ b < 48 ∨ 58 ≤ b ∧ b < 60) M M') := by
  have k33 : kc (lay 33) 0 = True := FB.1
  have l0 := isStk_76.1
  have f1 : lay 58 = .inr (.inl (1, [some (58 + 1), none, none, none, none, none])) := isFnd_58.1
  have v5 := h.2.2.2.1.1
  have vl := h.2.2.2.1.2
  refine callP_of (by decide) (by decide) (Nat.le_of_ble_eq_true rfl) (wpm_of (cuts := []) (by decide) 50 _ _ _ _ ?_)
  rw [show lM m_RingDater_scoreHere = 3 from rfl]
  simp (maxSteps := 2000000) only [↓reduceIte, wp_eq, wpd_eq, kont_eq, STP1, STP2, STP3, STP4, STP5, konM_eq, AMK, CZ, Option.map, List.getElem?_cons_zero, List.getElem?_cons_succ, List.mem_cons, List.not_mem_nil, if_false, if_true, Nat.reduceAdd, Nat.reduceLT, Nat.reduceLeDiff, Nat.reduceEqDiff, true_and, and_true, List.length_nil, List.length_cons, or_true, true_or, or_false, false_or, Option.some.injEq, Sum.inl.injEq, Sum.inr.injEq, exists_eq_left', exists_eq_left, Int.reduceLE, Int.reduceLT, Int.reduceNeg, Int.reduceAdd, Int.reduceMul, Int.reduceSub, Int.reduceToNat, inR, Nat.zero_ne_one, false_and, Nat.succ_ne_zero, reduceCtorEq, false_implies, true_implies, not_false_eq_true, not_true_eq_false, Int.reduceEq, KRE, C_RingDater_scoreHere, FR, k33, l0, v5]
  refine (Bench_seekOnChronology_ok ho h.1.2.1 hA hw hT h60 (by omega)).mono (fun y M3 q => ?_)
  obtain ⟨rfl, q1, q2, q4⟩ := q
  have c := cls_f3 h q4 (fun b j q => by omega) q2
  have ob := okB_best (A := A) (B := tRw M o) (lap := lap) hA.2.1 (by have := hT.1; omega)
  have hA3 := finR_cells (fun b p1 p2 j => q4 b j (by omega)) hA
  unfold scF
  generalize best A (tRw M o) lap = x at *
  by_cases e : x.1 = 0
  · have q0 := q1.1
    rw [e] at q0
    rw [if_pos e]
    simp (maxSteps := 2000000) only [↓reduceIte, wp_eq, wpd_eq, kont_eq, STP1, STP2, STP3, STP4, STP5, konM_eq, AMK, CZ, Option.map, List.getElem?_cons_zero, List.getElem?_cons_succ, List.mem_cons, List.not_mem_nil, if_false, if_true, Nat.reduceAdd, Nat.reduceLT, Nat.reduceLeDiff, Nat.reduceEqDiff, true_and, and_true, List.length_nil, List.length_cons, or_true, true_or, or_false, false_or, Option.some.injEq, Sum.inl.injEq, Sum.inr.injEq, exists_eq_left', exists_eq_left, Int.reduceLE, Int.reduceLT, Int.reduceNeg, Int.reduceAdd, Int.reduceMul, Int.reduceSub, Int.reduceToNat, inR, Nat.zero_ne_one, false_and, Nat.succ_ne_zero, reduceCtorEq, false_implies, true_implies, not_false_eq_true, not_true_eq_false, Int.reduceEq, KRE, C_RingDater_scoreHere, f1, q0]
    exact ⟨c.1, hA3, q4⟩
  · obtain ⟨q0, q5, q6⟩ := q1
    have e1 : x.1 = 1 := by have := ob.1; omega
    rw [e1] at q0
    have e3 := (q6 e).2.1
    rw [if_neg e]
    simp (maxSteps := 2000000) only [↓reduceIte, wp_eq, wpd_eq, kont_eq, STP1, STP2, STP3, STP4, STP5, konM_eq, AMK, CZ, Option.map, List.getElem?_cons_zero, List.getElem?_cons_succ, List.mem_cons, List.not_mem_nil, if_false, if_true, Nat.reduceAdd, Nat.reduceLT, Nat.reduceLeDiff, Nat.reduceEqDiff, true_and, and_true, List.length_nil, List.length_cons, or_true, true_or, or_false, false_or, Option.some.injEq, Sum.inl.injEq, Sum.inr.injEq, exists_eq_left', exists_eq_left, Int.reduceLE, Int.reduceLT, Int.reduceNeg, Int.reduceAdd, Int.reduceMul, Int.reduceSub, Int.reduceToNat, inR, Nat.zero_ne_one, false_and, Nat.succ_ne_zero, reduceCtorEq, false_implies, true_implies, not_false_eq_true, not_true_eq_false, Int.reduceEq, KRE, C_RingDater_scoreHere, f1, q0, e3]
    exact ⟨c.1, hA3, q4⟩
def whyU (T : Nat → Rw) (Y : Nat → Int) (lap bnd mrg : Int) (n t : Nat) : Int := if why (bestO T Y lap n t) bnd mrg ≠ 0 then why (bestO T Y lap n t) bnd mrg else if 0 ≤ (cSpan T Y t n).1 + (bestO T Y lap n t).2.1 ∧ (cSpan T Y t n).1 + (bestO T Y lap n t).2.1 ≤ 900 then 0 else 4
theorem why_in (x : Bst) (b m : Int) : 0 ≤ why x b m ∧ why x b m ≤ 3 := by
  unfold why
  split
  · omega
  · split
    · omega
    · split <;> omega
set_option maxHeartbeats 600000 in
set_option maxRecDepth 20000 in
theorem RingDater_whyUnsettled_ok {n t : Nat} {T : Nat → Rw} {Y : Nat → Int} {lap bnd mrg : Int} {M : Mm} (h : cls M n T Y lap bnd mrg) (ht : t < n) : CallI m_RingDater_whyUnsettled [.inr 0, .inl t] M (fun x M' => x = whyU T Y lap bnd mrg n t ∧ M' 33 7 = (cSpan T Y t n).1 ∧ cls M' n T Y lap bnd mrg ∧ FrP scrF M M') := by
  have k33 : kc (lay 33) 0 = True := FB.1
  have l0 := isStk_76.1
  have f1 : lay 58 = .inr (.inl (1, [some (58 + 1), none, none, none, none, none])) := isFnd_58.1
  have w1 := h.2.2.2.2.1.2
  have w3 := h.2.2.2.2.2.1.2
  refine callP_of (by decide) (by decide) (Nat.le_of_ble_eq_true rfl) (wpm_of (cuts := []) (by decide) 50 _ _ _ _ ?_)
  rw [show lM m_RingDater_whyUnsettled = 4 from rfl]
  simp (maxSteps := 2000000) only [↓reduceIte, wp_eq, wpd_eq, kont_eq, STP1, STP2, STP3, STP4, STP5, konM_eq, AMK, CZ, Option.map, List.getElem?_cons_zero, List.getElem?_cons_succ, List.mem_cons, List.not_mem_nil, if_false, if_true, Nat.reduceAdd, Nat.reduceLT, Nat.reduceLeDiff, Nat.reduceEqDiff, true_and, and_true, List.length_nil, List.length_cons, or_true, true_or, or_false, false_or, Option.some.injEq, Sum.inl.injEq, Sum.inr.injEq, exists_eq_left', exists_eq_left, Int.reduceLE, Int.reduceLT, Int.reduceNeg, Int.reduceAdd, Int.reduceMul, Int.reduceSub, Int.reduceToNat, inR, Nat.zero_ne_one, false_and, Nat.succ_ne_zero, reduceCtorEq, false_implies, true_implies, not_false_eq_true, not_true_eq_false, Int.reduceEq, KRE, C_RingDater_whyUnsettled, FR, k33, l0]
  refine (RingDater_seekAmongOthers_ok h ht).mono (fun x M1 z => ?_)
  obtain ⟨rfl, z1, z2, z3, z4⟩ := z
  have v4 := z3.2.2.2.2.1.1
  have v6 := z3.2.2.2.2.2.1.1
  have ob := bestO_ok (lap := lap) h.2.2.2.2.2.2 ht
  have sp := (cSpan_in (wo := t) h.2.2.2.2.2.2).1
  simp (maxSteps := 2000000) only [↓reduceIte, wp_eq, wpd_eq, kont_eq, STP1, STP2, STP3, STP4, STP5, konM_eq, AMK, CZ, Option.map, List.getElem?_cons_zero, List.getElem?_cons_succ, List.mem_cons, List.not_mem_nil, if_false, if_true, Nat.reduceAdd, Nat.reduceLT, Nat.reduceLeDiff, Nat.reduceEqDiff, true_and, and_true, List.length_nil, List.length_cons, or_true, true_or, or_false, false_or, Option.some.injEq, Sum.inl.injEq, Sum.inr.injEq, exists_eq_left', exists_eq_left, Int.reduceLE, Int.reduceLT, Int.reduceNeg, Int.reduceAdd, Int.reduceMul, Int.reduceSub, Int.reduceToNat, inR, Nat.zero_ne_one, false_and, Nat.succ_ne_zero, reduceCtorEq, false_implies, true_implies, not_false_eq_true, not_true_eq_false, Int.reduceEq, KRE, C_RingDater_whyUnsettled, FR, l0, f1, v4, v6]
  refine (Finding_whyNotSure_ok (b := bnd) (m := mrg) isFnd_58 ob z1 (by omega) (by omega)).eq ?_
  have wi := why_in (bestO T Y lap n t) bnd mrg
  unfold whyU
  generalize bestO T Y lap n t = x at *
  generalize (cSpan T Y t n).1 = f at *
  by_cases c : why x bnd mrg = 0
  · obtain ⟨g1, g2, g3, g4⟩ := why_0 ob c
    obtain ⟨q5, q6, q7⟩ := z1.2.2 g1
    rw [if_neg (fun z => z c)]
    have c' := eq_true c
    simp (maxSteps := 2000000) only [↓reduceIte, wp_eq, wpd_eq, kont_eq, STP1, STP2, STP3, STP4, STP5, konM_eq, AMK, CZ, Option.map, List.getElem?_cons_zero, List.getElem?_cons_succ, List.mem_cons, List.not_mem_nil, if_false, if_true, Nat.reduceAdd, Nat.reduceLT, Nat.reduceLeDiff, Nat.reduceEqDiff, true_and, and_true, List.length_nil, List.length_cons, or_true, true_or, or_false, false_or, Option.some.injEq, Sum.inl.injEq, Sum.inr.injEq, exists_eq_left', exists_eq_left, Int.reduceLE, Int.reduceLT, Int.reduceNeg, Int.reduceAdd, Int.reduceMul, Int.reduceSub, Int.reduceToNat, inR, Nat.zero_ne_one, false_and, Nat.succ_ne_zero, reduceCtorEq, false_implies, true_implies, not_false_eq_true, not_true_eq_false, Int.reduceEq, KRE, C_RingDater_whyUnsettled, FR, FB, f1, z2, q5, c']
    repeat (first | refine ⟨by omega, ?_⟩ | refine ⟨fun _ _ => okt_nn (by omega), ?_⟩)
    try (first | (show _ ≤ _; omega) | (show _ < _; omega))
    refine (RingDater_isYear_ok (y := f + x.2.1) ⟨by omega, by omega⟩).eq ?_
    by_cases c2 : 0 ≤ f + x.2.1 ∧ f + x.2.1 ≤ 900
    · rw [if_pos c2]
      simp (maxSteps := 2000000) only [↓reduceIte, wp_eq, wpd_eq, kont_eq, STP1, STP2, STP3, STP4, STP5, konM_eq, AMK, CZ, Option.map, List.getElem?_cons_zero, List.getElem?_cons_succ, List.mem_cons, List.not_mem_nil, if_false, if_true, Nat.reduceAdd, Nat.reduceLT, Nat.reduceLeDiff, Nat.reduceEqDiff, true_and, and_true, List.length_nil, List.length_cons, or_true, true_or, or_false, false_or, Option.some.injEq, Sum.inl.injEq, Sum.inr.injEq, exists_eq_left', exists_eq_left, Int.reduceLE, Int.reduceLT, Int.reduceNeg, Int.reduceAdd, Int.reduceMul, Int.reduceSub, Int.reduceToNat, inR, Nat.zero_ne_one, false_and, Nat.succ_ne_zero, reduceCtorEq, false_implies, true_implies, not_false_eq_true, not_true_eq_false, Int.reduceEq, KRE, C_RingDater_whyUnsettled, FR]
      exact ⟨(if_pos c2).symm, z2, z3, z4⟩
    · rw [if_neg c2]
      simp (maxSteps := 2000000) only [↓reduceIte, wp_eq, wpd_eq, kont_eq, STP1, STP2, STP3, STP4, STP5, konM_eq, AMK, CZ, Option.map, List.getElem?_cons_zero, List.getElem?_cons_succ, List.mem_cons, List.not_mem_nil, if_false, if_true, Nat.reduceAdd, Nat.reduceLT, Nat.reduceLeDiff, Nat.reduceEqDiff, true_and, and_true, List.length_nil, List.length_cons, or_true, true_or, or_false, false_or, Option.some.injEq, Sum.inl.injEq, Sum.inr.injEq, exists_eq_left', exists_eq_left, Int.reduceLE, Int.reduceLT, Int.reduceNeg, Int.reduceAdd, Int.reduceMul, Int.reduceSub, Int.reduceToNat, inR, Nat.zero_ne_one, false_and, Nat.succ_ne_zero, reduceCtorEq, false_implies, true_implies, not_false_eq_true, not_true_eq_false, Int.reduceEq, KRE, C_RingDater_whyUnsettled, FR]
      exact ⟨(if_neg c2).symm, z2, z3, z4⟩
  · rw [if_pos c]
    have c' := eq_false c
    simp (maxSteps := 2000000) only [↓reduceIte, wp_eq, wpd_eq, kont_eq, STP1, STP2, STP3, STP4, STP5, konM_eq, AMK, CZ, Option.map, List.getElem?_cons_zero, List.getElem?_cons_succ, List.mem_cons, List.not_mem_nil, if_false, if_true, Nat.reduceAdd, Nat.reduceLT, Nat.reduceLeDiff, Nat.reduceEqDiff, true_and, and_true, List.length_nil, List.length_cons, or_true, true_or, or_false, false_or, Option.some.injEq, Sum.inl.injEq, Sum.inr.injEq, exists_eq_left', exists_eq_left, Int.reduceLE, Int.reduceLT, Int.reduceNeg, Int.reduceAdd, Int.reduceMul, Int.reduceSub, Int.reduceToNat, inR, Nat.zero_ne_one, false_and, Nat.succ_ne_zero, reduceCtorEq, false_implies, true_implies, not_false_eq_true, not_true_eq_false, Int.reduceEq, KRE, C_RingDater_whyUnsettled, FR, c']
    refine ⟨by omega, ?_⟩
    exact ⟨z2, z3, z4⟩
set_option maxHeartbeats 600000 in
set_option maxRecDepth 20000 in
theorem RingDater_index_ok {n : Nat} {T : Nat → Rw} {Y : Nat → Int} {lap bnd mrg y : Int} {M : Mm} (h : cls M n T Y lap bnd mrg) (hy : inR y) : CallI m_RingDater_index [.inr 0, .inl y] M (fun x M' => x = (if (cSpan T Y (-1) n).1 = -1 ∨ y < (cSpan T Y (-1) n).1 ∨ (cSpan T Y (-1) n).2 < y ∨ sN (chr T Y (-1) n) (y - (cSpan T Y (-1) n).1) = 0 then -1 else sN (chr T Y (-1) n) (y - (cSpan T Y (-1) n).1)) ∧ cls M' n T Y lap bnd mrg ∧ FrP scrF M M') := by
  have k0 : kc (lay 0) 11 = True := FR.1
  have k33 : kc (lay 33) 0 = True := FB.1
  refine callP_of (by decide) (by decide) (Nat.le_of_ble_eq_true rfl) (wpm_of (cuts := []) (by decide) 50 _ _ _ _ ?_)
  rw [show lM m_RingDater_index = 2 from rfl]
  simp (maxSteps := 2000000) only [↓reduceIte, wp_eq, wpd_eq, kont_eq, STP1, STP2, STP3, STP4, STP5, konM_eq, AMK, CZ, Option.map, List.getElem?_cons_zero, List.getElem?_cons_succ, List.mem_cons, List.not_mem_nil, if_false, if_true, Nat.reduceAdd, Nat.reduceLT, Nat.reduceLeDiff, Nat.reduceEqDiff, true_and, and_true, List.length_nil, List.length_cons, or_true, true_or, or_false, false_or, Option.some.injEq, Sum.inl.injEq, Sum.inr.injEq, exists_eq_left', exists_eq_left, Int.reduceLE, Int.reduceLT, Int.reduceNeg, Int.reduceAdd, Int.reduceMul, Int.reduceSub, Int.reduceToNat, inR, Nat.zero_ne_one, false_and, Nat.succ_ne_zero, reduceCtorEq, false_implies, true_implies, not_false_eq_true, not_true_eq_false, Int.reduceEq, KRE, C_RingDater_index, FR, k0, k33]
  refine (RingDater_layChronology_ok h).mono (fun M1 z => ?_)
  obtain ⟨z1, z2, z3, z4, z5⟩ := z
  have sp := (cSpan_in (wo := -1) h.2.2.2.2.2.2).1
  refine (Bench_indexOf_ok (A := chr T Y (-1) n) z4.1.2.1.2.2 z1 z2 z3 hy (by omega) (by omega)).eq ?_
  exact ⟨rfl, z4, z5⟩
def dpS (T : Nat → Rw) (Y : Nat → Int) (y : Int) (n : Nat) : Int := sumN (fun t => if Y t ≠ -1 ∧ Y t ≤ y ∧ y < Y t + (T t).2.1 then 1 else 0) n
set_option maxHeartbeats 600000 in
set_option maxRecDepth 20000 in
theorem RingDater_depth_ok {n : Nat} {T : Nat → Rw} {Y : Nat → Int} {lap bnd mrg y : Int} {M : Mm} (h : cls M n T Y lap bnd mrg) (hy : inR y) : CallI m_RingDater_depth [.inr 0, .inl y] M (fun x M' => x = dpS T Y y n ∧ M' = M) := by
  have l0 := isStk_76.1
  have hn := h.2.1
  have e3 := hn.1
  refine callP_of (by decide) (by decide) (Nat.le_of_ble_eq_true rfl) (wpm_of (cuts := [4]) (by decide) 50 _ _ _ _ ?_)
  rw [show lM m_RingDater_depth = 4 from rfl]
  simp (maxSteps := 2000000) only [↓reduceIte, wp_eq, wpd_eq, kont_eq, STP1, STP2, STP3, STP4, STP5, konM_eq, AMK, CZ, Option.map, List.getElem?_cons_zero, List.getElem?_cons_succ, List.mem_cons, List.not_mem_nil, if_false, if_true, Nat.reduceAdd, Nat.reduceLT, Nat.reduceLeDiff, Nat.reduceEqDiff, true_and, and_true, List.length_nil, List.length_cons, or_true, true_or, or_false, false_or, Option.some.injEq, Sum.inl.injEq, Sum.inr.injEq, exists_eq_left', exists_eq_left, Int.reduceLE, Int.reduceLT, Int.reduceNeg, Int.reduceAdd, Int.reduceMul, Int.reduceSub, Int.reduceToNat, inR, Nat.zero_ne_one, false_and, Nat.succ_ne_zero, reduceCtorEq, false_implies, true_implies, not_false_eq_true, not_true_eq_false, Int.reduceEq, KRE, C_RingDater_depth, FR, l0]
  refine loopQ n (fun k ls M1 => M = M1 ∧ ls = [some (.inr 0), some (.inl y), some (.inl (dpS T Y y k)), some (.inl k)]) ?_ _ _ ⟨rfl, rfl⟩
  rintro k _ _ hk ⟨rfl, rfl⟩ K
  by_cases hz : (n : Int) ≤ k
  · refine wpm_of (cuts := [4]) (by decide) 100 _ _ _ _ ?_
    simp (maxSteps := 2000000) only [↓reduceIte, wp_eq, wpd_eq, kont_eq, STP1, STP2, STP3, STP4, STP5, konM_eq, AMK, CZ, Option.map, List.getElem?_cons_zero, List.getElem?_cons_succ, List.mem_cons, List.not_mem_nil, if_false, if_true, Nat.reduceAdd, Nat.reduceLT, Nat.reduceLeDiff, Nat.reduceEqDiff, true_and, and_true, List.length_nil, List.length_cons, or_true, true_or, or_false, false_or, Option.some.injEq, Sum.inl.injEq, Sum.inr.injEq, exists_eq_left', exists_eq_left, Int.reduceLE, Int.reduceLT, Int.reduceNeg, Int.reduceAdd, Int.reduceMul, Int.reduceSub, Int.reduceToNat, inR, Nat.zero_ne_one, false_and, Nat.succ_ne_zero, reduceCtorEq, false_implies, true_implies, not_false_eq_true, not_true_eq_false, Int.reduceEq, KRE, C_RingDater_depth, FR, l0, e3, hz]
    repeat (first | refine ⟨by omega, ?_⟩ | refine ⟨fun _ _ => okt_nn (by omega), ?_⟩)
    try (first | (show _ ≤ _; omega) | (show _ < _; omega))
    rw [show k = n by omega]
  · refine wpm_of (cuts := [4]) (by decide) 100 _ _ _ _ ?_
    simp (maxSteps := 2000000) only [↓reduceIte, wp_eq, wpd_eq, kont_eq, STP1, STP2, STP3, STP4, STP5, konM_eq, AMK, CZ, Option.map, List.getElem?_cons_zero, List.getElem?_cons_succ, List.mem_cons, List.not_mem_nil, if_false, if_true, Nat.reduceAdd, Nat.reduceLT, Nat.reduceLeDiff, Nat.reduceEqDiff, true_and, and_true, List.length_nil, List.length_cons, or_true, true_or, or_false, false_or, Option.some.injEq, Sum.inl.injEq, Sum.inr.injEq, exists_eq_left', exists_eq_left, Int.reduceLE, Int.reduceLT, Int.reduceNeg, Int.reduceAdd, Int.reduceMul, Int.reduceSub, Int.reduceToNat, inR, Nat.zero_ne_one, false_and, Nat.succ_ne_zero, reduceCtorEq, false_implies, true_implies, not_false_eq_true, not_true_eq_false, Int.reduceEq, KRE, C_RingDater_depth, FR, l0, e3, hz]
    repeat (first | refine ⟨by omega, ?_⟩ | refine ⟨fun _ _ => okt_nn (by omega), ?_⟩)
    try (first | (show _ ≤ _; omega) | (show _ < _; omega))
    refine (Stock_hasRingIn_ok (t := (k : Int)) (y := y) isStk_76 ⟨by omega, by omega⟩ hy h.1.1.1).eq ?_
    obtain ⟨t1, t2, t3, t4, t5, t6, t7⟩ := cls_tm h (show k < n by omega)
    have eL : M (82 + 3 * k) 2 = (T k).2.1 := by rw [← t4]; rfl
    rw [t1, t6, eL]
    have K' := K (by omega) _ _ ⟨rfl, rfl⟩
    rw [show dpS T Y y (k + 1) = dpS T Y y k + (if Y k ≠ -1 ∧ Y k ≤ y ∧ y < Y k + (T k).2.1 then 1 else 0) from rfl] at K'
    by_cases c : Y k ≠ -1 ∧ Y k ≤ y ∧ y < Y k + (T k).2.1
    · rw [if_pos c] at K' ⊢
      simp (maxSteps := 2000000) only [↓reduceIte, wp_eq, wpd_eq, kont_eq, STP1, STP2, STP3, STP4, STP5, konM_eq, AMK, CZ, Option.map, List.getElem?_cons_zero, List.getElem?_cons_succ, List.mem_cons, List.not_mem_nil, if_false, if_true, Nat.reduceAdd, Nat.reduceLT, Nat.reduceLeDiff, Nat.reduceEqDiff, true_and, and_true, List.length_nil, List.length_cons, or_true, true_or, or_false, false_or, Option.some.injEq, Sum.inl.injEq, Sum.inr.injEq, exists_eq_left', exists_eq_left, Int.reduceLE, Int.reduceLT, Int.reduceNeg, Int.reduceAdd, Int.reduceMul, Int.reduceSub, Int.reduceToNat, inR, Nat.zero_ne_one, false_and, Nat.succ_ne_zero, reduceCtorEq, false_implies, true_implies, not_false_eq_true, not_true_eq_false, Int.reduceEq, KRE, C_RingDater_depth, FR]
      exact K'
    · rw [if_neg c] at K' ⊢
      simp (maxSteps := 2000000) only [↓reduceIte, wp_eq, wpd_eq, kont_eq, STP1, STP2, STP3, STP4, STP5, konM_eq, AMK, CZ, Option.map, List.getElem?_cons_zero, List.getElem?_cons_succ, List.mem_cons, List.not_mem_nil, if_false, if_true, Nat.reduceAdd, Nat.reduceLT, Nat.reduceLeDiff, Nat.reduceEqDiff, true_and, and_true, List.length_nil, List.length_cons, or_true, true_or, or_false, false_or, Option.some.injEq, Sum.inl.injEq, Sum.inr.injEq, exists_eq_left', exists_eq_left, Int.reduceLE, Int.reduceLT, Int.reduceNeg, Int.reduceAdd, Int.reduceMul, Int.reduceSub, Int.reduceToNat, inR, Nat.zero_ne_one, false_and, Nat.succ_ne_zero, reduceCtorEq, false_implies, true_implies, not_false_eq_true, not_true_eq_false, Int.reduceEq, KRE, C_RingDater_depth, FR]
      simpa using K'
def felS (T : Nat → Rw) (Y L : Nat → Int) (t : Nat) : Int := Y t + (T t).2.1 - 1 + L t
theorem felA_cls {n t c : Nat} {T : Nat → Rw} {Y : Nat → Int} {lap bnd mrg : Int} {M : Mm} (h : cls M n T Y lap bnd mrg) (ht : t < n) : felA M 76 c t = felS T Y (fun t => M (82 + 3 * t) c) t := by
  obtain ⟨t1, t2, t3, t4, t5, t6, t7⟩ := cls_tm h ht
  unfold felA felS
  rw [t1, t6, ← t4]
  rfl
set_option maxHeartbeats 600000 in
set_option maxRecDepth 20000 in
theorem RingDater_builtFrom_ok {n : Nat} {T : Nat → Rw} {Y : Nat → Int} {lap bnd mrg : Int} {M : Mm} (h : cls M n T Y lap bnd mrg) : CallI m_RingDater_builtFrom [.inr 0] M (fun x M' => x = fMaxF (fun t => Y t ≠ -1) (felA M 76 3) n ∧ M' = M) := by
  have l0 := isStk_76.1
  have hn := h.2.1
  have e3 := hn.1
  have hw := h.1.1.1
  refine callP_of (by decide) (by decide) (Nat.le_of_ble_eq_true rfl) (wpm_of (cuts := [4]) (by decide) 50 _ _ _ _ ?_)
  rw [show lM m_RingDater_builtFrom = 3 from rfl]
  simp (maxSteps := 2000000) only [↓reduceIte, wp_eq, wpd_eq, kont_eq, STP1, STP2, STP3, STP4, STP5, konM_eq, AMK, CZ, Option.map, List.getElem?_cons_zero, List.getElem?_cons_succ, List.mem_cons, List.not_mem_nil, if_false, if_true, Nat.reduceAdd, Nat.reduceLT, Nat.reduceLeDiff, Nat.reduceEqDiff, true_and, and_true, List.length_nil, List.length_cons, or_true, true_or, or_false, false_or, Option.some.injEq, Sum.inl.injEq, Sum.inr.injEq, exists_eq_left', exists_eq_left, Int.reduceLE, Int.reduceLT, Int.reduceNeg, Int.reduceAdd, Int.reduceMul, Int.reduceSub, Int.reduceToNat, inR, Nat.zero_ne_one, false_and, Nat.succ_ne_zero, reduceCtorEq, false_implies, true_implies, not_false_eq_true, not_true_eq_false, Int.reduceEq, KRE, C_RingDater_builtFrom, FR, l0]
  refine loopQ n (fun k ls M1 => M = M1 ∧ ls = [some (.inr 0), some (.inl (fMaxF (fun t => Y t ≠ -1) (felA M 76 3) k)), some (.inl k)]) ?_ _ _ ⟨rfl, rfl⟩
  rintro k _ _ hk ⟨rfl, rfl⟩ K
  by_cases hz : (n : Int) ≤ k
  · refine wpm_of (cuts := [4]) (by decide) 100 _ _ _ _ ?_
    simp (maxSteps := 2000000) only [↓reduceIte, wp_eq, wpd_eq, kont_eq, STP1, STP2, STP3, STP4, STP5, konM_eq, AMK, CZ, Option.map, List.getElem?_cons_zero, List.getElem?_cons_succ, List.mem_cons, List.not_mem_nil, if_false, if_true, Nat.reduceAdd, Nat.reduceLT, Nat.reduceLeDiff, Nat.reduceEqDiff, true_and, and_true, List.length_nil, List.length_cons, or_true, true_or, or_false, false_or, Option.some.injEq, Sum.inl.injEq, Sum.inr.injEq, exists_eq_left', exists_eq_left, Int.reduceLE, Int.reduceLT, Int.reduceNeg, Int.reduceAdd, Int.reduceMul, Int.reduceSub, Int.reduceToNat, inR, Nat.zero_ne_one, false_and, Nat.succ_ne_zero, reduceCtorEq, false_implies, true_implies, not_false_eq_true, not_true_eq_false, Int.reduceEq, KRE, C_RingDater_builtFrom, FR, l0, e3, hz]
    repeat (first | refine ⟨by omega, ?_⟩ | refine ⟨fun _ _ => okt_nn (by omega), ?_⟩)
    try (first | (show _ ≤ _; omega) | (show _ < _; omega))
    rw [show k = n by omega]
  · refine wpm_of (cuts := [4]) (by decide) 100 _ _ _ _ ?_
    simp (maxSteps := 2000000) only [↓reduceIte, wp_eq, wpd_eq, kont_eq, STP1, STP2, STP3, STP4, STP5, konM_eq, AMK, CZ, Option.map, List.getElem?_cons_zero, List.getElem?_cons_succ, List.mem_cons, List.not_mem_nil, if_false, if_true, Nat.reduceAdd, Nat.reduceLT, Nat.reduceLeDiff, Nat.reduceEqDiff, true_and, and_true, List.length_nil, List.length_cons, or_true, true_or, or_false, false_or, Option.some.injEq, Sum.inl.injEq, Sum.inr.injEq, exists_eq_left', exists_eq_left, Int.reduceLE, Int.reduceLT, Int.reduceNeg, Int.reduceAdd, Int.reduceMul, Int.reduceSub, Int.reduceToNat, inR, Nat.zero_ne_one, false_and, Nat.succ_ne_zero, reduceCtorEq, false_implies, true_implies, not_false_eq_true, not_true_eq_false, Int.reduceEq, KRE, C_RingDater_builtFrom, FR, l0, e3, hz]
    repeat (first | refine ⟨by omega, ?_⟩ | refine ⟨fun _ _ => okt_nn (by omega), ?_⟩)
    try (first | (show _ ≤ _; omega) | (show _ < _; omega))
    refine (Stock_isDated_ok (t := (k : Int)) isStk_76 ⟨by omega, by omega⟩ hw).eq ?_
    obtain ⟨t1, t2, t3, t4, t5, t6, t7⟩ := cls_tm h (show k < n by omega)
    rw [t6]
    have b0 := fMaxF_in (p := fun t => Y t ≠ -1) (f := felA M 76 3) (c := 953) (by omega) (n := k) (fun t _ => (felA_in isStk_76 hw (Or.inl rfl)).2.1)
    have b1 := felA_in (t := k) isStk_76 hw (Or.inl rfl)
    have K' := K (by omega) _ _ ⟨rfl, rfl⟩
    rw [show fMaxF (fun t => Y t ≠ -1) (felA M 76 3) (k + 1) = if Y k ≠ -1 then max (fMaxF (fun t => Y t ≠ -1) (felA M 76 3) k) (felA M 76 3 k) else fMaxF (fun t => Y t ≠ -1) (felA M 76 3) k from rfl] at K'
    by_cases c : Y k ≠ -1
    · rw [if_pos c] at K' ⊢
      simp (maxSteps := 2000000) only [↓reduceIte, wp_eq, wpd_eq, kont_eq, STP1, STP2, STP3, STP4, STP5, konM_eq, AMK, CZ, Option.map, List.getElem?_cons_zero, List.getElem?_cons_succ, List.mem_cons, List.not_mem_nil, if_false, if_true, Nat.reduceAdd, Nat.reduceLT, Nat.reduceLeDiff, Nat.reduceEqDiff, true_and, and_true, List.length_nil, List.length_cons, or_true, true_or, or_false, false_or, Option.some.injEq, Sum.inl.injEq, Sum.inr.injEq, exists_eq_left', exists_eq_left, Int.reduceLE, Int.reduceLT, Int.reduceNeg, Int.reduceAdd, Int.reduceMul, Int.reduceSub, Int.reduceToNat, inR, Nat.zero_ne_one, false_and, Nat.succ_ne_zero, reduceCtorEq, false_implies, true_implies, not_false_eq_true, not_true_eq_false, Int.reduceEq, KRE, C_RingDater_builtFrom, FR, l0]
      repeat (first | refine ⟨by omega, ?_⟩ | refine ⟨fun _ _ => okt_nn (by omega), ?_⟩)
      try (first | (show _ ≤ _; omega) | (show _ < _; omega))
      refine (Stock_felledFrom_ok (t := (k : Int)) isStk_76 ⟨by omega, by omega⟩ hw).eq ?_
      have ef : yrA M 76 k + M (tmA M 76 k) 2 - 1 + M (tmA M 76 k) 3 = felA M 76 3 k := rfl
      rw [ef]
      exact ⟨by omega, by omega, K'⟩
    · rw [if_neg c] at K' ⊢
      simp (maxSteps := 2000000) only [↓reduceIte, wp_eq, wpd_eq, kont_eq, STP1, STP2, STP3, STP4, STP5, konM_eq, AMK, CZ, Option.map, List.getElem?_cons_zero, List.getElem?_cons_succ, List.mem_cons, List.not_mem_nil, if_false, if_true, Nat.reduceAdd, Nat.reduceLT, Nat.reduceLeDiff, Nat.reduceEqDiff, true_and, and_true, List.length_nil, List.length_cons, or_true, true_or, or_false, false_or, Option.some.injEq, Sum.inl.injEq, Sum.inr.injEq, exists_eq_left', exists_eq_left, Int.reduceLE, Int.reduceLT, Int.reduceNeg, Int.reduceAdd, Int.reduceMul, Int.reduceSub, Int.reduceToNat, inR, Nat.zero_ne_one, false_and, Nat.succ_ne_zero, reduceCtorEq, false_implies, true_implies, not_false_eq_true, not_true_eq_false, Int.reduceEq, KRE, C_RingDater_builtFrom, FR, l0]
      exact K'
set_option maxHeartbeats 600000 in
set_option maxRecDepth 20000 in
theorem RingDater_builtUntil_ok {n : Nat} {T : Nat → Rw} {Y : Nat → Int} {lap bnd mrg : Int} {M : Mm} (h : cls M n T Y lap bnd mrg) : CallI m_RingDater_builtUntil [.inr 0] M (fun x M' => x = fMinF (fun t => Y t ≠ -1) (felA M 76 4) n ∧ M' = M) := by
  have l0 := isStk_76.1
  have hn := h.2.1
  have e3 := hn.1
  have hw := h.1.1.1
  refine callP_of (by decide) (by decide) (Nat.le_of_ble_eq_true rfl) (wpm_of (cuts := [4]) (by decide) 50 _ _ _ _ ?_)
  rw [show lM m_RingDater_builtUntil = 3 from rfl]
  simp (maxSteps := 2000000) only [↓reduceIte, wp_eq, wpd_eq, kont_eq, STP1, STP2, STP3, STP4, STP5, konM_eq, AMK, CZ, Option.map, List.getElem?_cons_zero, List.getElem?_cons_succ, List.mem_cons, List.not_mem_nil, if_false, if_true, Nat.reduceAdd, Nat.reduceLT, Nat.reduceLeDiff, Nat.reduceEqDiff, true_and, and_true, List.length_nil, List.length_cons, or_true, true_or, or_false, false_or, Option.some.injEq, Sum.inl.injEq, Sum.inr.injEq, exists_eq_left', exists_eq_left, Int.reduceLE, Int.reduceLT, Int.reduceNeg, Int.reduceAdd, Int.reduceMul, Int.reduceSub, Int.reduceToNat, inR, Nat.zero_ne_one, false_and, Nat.succ_ne_zero, reduceCtorEq, false_implies, true_implies, not_false_eq_true, not_true_eq_false, Int.reduceEq, KRE, C_RingDater_builtUntil, FR, l0]
  refine loopQ n (fun k ls M1 => M = M1 ∧ ls = [some (.inr 0), some (.inl (fMinF (fun t => Y t ≠ -1) (felA M 76 4) k)), some (.inl k)]) ?_ _ _ ⟨rfl, rfl⟩
  rintro k _ _ hk ⟨rfl, rfl⟩ K
  by_cases hz : (n : Int) ≤ k
  · refine wpm_of (cuts := [4]) (by decide) 100 _ _ _ _ ?_
    simp (maxSteps := 2000000) only [↓reduceIte, wp_eq, wpd_eq, kont_eq, STP1, STP2, STP3, STP4, STP5, konM_eq, AMK, CZ, Option.map, List.getElem?_cons_zero, List.getElem?_cons_succ, List.mem_cons, List.not_mem_nil, if_false, if_true, Nat.reduceAdd, Nat.reduceLT, Nat.reduceLeDiff, Nat.reduceEqDiff, true_and, and_true, List.length_nil, List.length_cons, or_true, true_or, or_false, false_or, Option.some.injEq, Sum.inl.injEq, Sum.inr.injEq, exists_eq_left', exists_eq_left, Int.reduceLE, Int.reduceLT, Int.reduceNeg, Int.reduceAdd, Int.reduceMul, Int.reduceSub, Int.reduceToNat, inR, Nat.zero_ne_one, false_and, Nat.succ_ne_zero, reduceCtorEq, false_implies, true_implies, not_false_eq_true, not_true_eq_false, Int.reduceEq, KRE, C_RingDater_builtUntil, FR, l0, e3, hz]
    repeat (first | refine ⟨by omega, ?_⟩ | refine ⟨fun _ _ => okt_nn (by omega), ?_⟩)
    try (first | (show _ ≤ _; omega) | (show _ < _; omega))
    rw [show k = n by omega]
  · refine wpm_of (cuts := [4]) (by decide) 100 _ _ _ _ ?_
    simp (maxSteps := 2000000) only [↓reduceIte, wp_eq, wpd_eq, kont_eq, STP1, STP2, STP3, STP4, STP5, konM_eq, AMK, CZ, Option.map, List.getElem?_cons_zero, List.getElem?_cons_succ, List.mem_cons, List.not_mem_nil, if_false, if_true, Nat.reduceAdd, Nat.reduceLT, Nat.reduceLeDiff, Nat.reduceEqDiff, true_and, and_true, List.length_nil, List.length_cons, or_true, true_or, or_false, false_or, Option.some.injEq, Sum.inl.injEq, Sum.inr.injEq, exists_eq_left', exists_eq_left, Int.reduceLE, Int.reduceLT, Int.reduceNeg, Int.reduceAdd, Int.reduceMul, Int.reduceSub, Int.reduceToNat, inR, Nat.zero_ne_one, false_and, Nat.succ_ne_zero, reduceCtorEq, false_implies, true_implies, not_false_eq_true, not_true_eq_false, Int.reduceEq, KRE, C_RingDater_builtUntil, FR, l0, e3, hz]
    repeat (first | refine ⟨by omega, ?_⟩ | refine ⟨fun _ _ => okt_nn (by omega), ?_⟩)
    try (first | (show _ ≤ _; omega) | (show _ < _; omega))
    refine (Stock_isDated_ok (t := (k : Int)) isStk_76 ⟨by omega, by omega⟩ hw).eq ?_
    obtain ⟨t1, t2, t3, t4, t5, t6, t7⟩ := cls_tm h (show k < n by omega)
    rw [t6]
    have b9 : ∀ m : Nat, -2 ≤ fMinF (fun t => Y t ≠ -1) (felA M 76 4) m ∧ fMinF (fun t => Y t ≠ -1) (felA M 76 4) m ≤ 953 := by
      intro m
      induction m with
      | zero => exact ⟨show (-2 : Int) ≤ -1 by decide, show (-1 : Int) ≤ 953 by decide⟩
      | succ m ih =>
        have := felA_in (t := m) isStk_76 hw (Or.inr rfl)
        unfold fMinF at *
        rw [foldN]
        split <;> omega
    have b0 := b9 k
    have b1 := felA_in (t := k) isStk_76 hw (Or.inr rfl)
    have K' := K (by omega) _ _ ⟨rfl, rfl⟩
    rw [show fMinF (fun t => Y t ≠ -1) (felA M 76 4) (k + 1) = if Y k ≠ -1 ∧ (fMinF (fun t => Y t ≠ -1) (felA M 76 4) k = -1 ∨ felA M 76 4 k < fMinF (fun t => Y t ≠ -1) (felA M 76 4) k) then felA M 76 4 k else fMinF (fun t => Y t ≠ -1) (felA M 76 4) k from rfl] at K'
    generalize fMinF (fun t => Y t ≠ -1) (felA M 76 4) k = X at *
    have ef : yrA M 76 k + M (tmA M 76 k) 2 - 1 + M (tmA M 76 k) 4 = felA M 76 4 k := rfl
    by_cases c : Y k ≠ -1
    · rw [if_pos c]
      simp (maxSteps := 2000000) only [↓reduceIte, wp_eq, wpd_eq, kont_eq, STP1, STP2, STP3, STP4, STP5, konM_eq, AMK, CZ, Option.map, List.getElem?_cons_zero, List.getElem?_cons_succ, List.mem_cons, List.not_mem_nil, if_false, if_true, Nat.reduceAdd, Nat.reduceLT, Nat.reduceLeDiff, Nat.reduceEqDiff, true_and, and_true, List.length_nil, List.length_cons, or_true, true_or, or_false, false_or, Option.some.injEq, Sum.inl.injEq, Sum.inr.injEq, exists_eq_left', exists_eq_left, Int.reduceLE, Int.reduceLT, Int.reduceNeg, Int.reduceAdd, Int.reduceMul, Int.reduceSub, Int.reduceToNat, inR, Nat.zero_ne_one, false_and, Nat.succ_ne_zero, reduceCtorEq, false_implies, true_implies, not_false_eq_true, not_true_eq_false, Int.reduceEq, KRE, C_RingDater_builtUntil, FR, l0]
      refine ⟨⟨by omega, by omega⟩, fun e => ?_, fun e => ?_⟩
      · refine (Stock_felledUntil_ok (t := (k : Int)) isStk_76 ⟨by omega, by omega⟩ hw).eq ?_
        rw [ef]
        rw [if_pos ⟨c, Or.inl e⟩] at K'
        exact K'
      · refine (Stock_felledUntil_ok (t := (k : Int)) isStk_76 ⟨by omega, by omega⟩ hw).eq ?_
        rw [ef]
        refine ⟨by omega, by omega, fun e2 => ?_, fun e2 => ?_⟩
        · rw [if_neg (by omega)] at K'
          exact K'
        · refine (Stock_felledUntil_ok (t := (k : Int)) isStk_76 ⟨by omega, by omega⟩ hw).eq ?_
          rw [ef]
          rw [if_pos ⟨c, Or.inr (by omega)⟩] at K'
          exact K'
    · rw [if_neg c]
      rw [if_neg (fun z => c z.1)] at K'
      simp (maxSteps := 2000000) only [↓reduceIte, wp_eq, wpd_eq, kont_eq, STP1, STP2, STP3, STP4, STP5, konM_eq, AMK, CZ, Option.map, List.getElem?_cons_zero, List.getElem?_cons_succ, List.mem_cons, List.not_mem_nil, if_false, if_true, Nat.reduceAdd, Nat.reduceLT, Nat.reduceLeDiff, Nat.reduceEqDiff, true_and, and_true, List.length_nil, List.length_cons, or_true, true_or, or_false, false_or, Option.some.injEq, Sum.inl.injEq, Sum.inr.injEq, exists_eq_left', exists_eq_left, Int.reduceLE, Int.reduceLT, Int.reduceNeg, Int.reduceAdd, Int.reduceMul, Int.reduceSub, Int.reduceToNat, inR, Nat.zero_ne_one, false_and, Nat.succ_ne_zero, reduceCtorEq, false_implies, true_implies, not_false_eq_true, not_true_eq_false, Int.reduceEq, KRE, C_RingDater_builtUntil, FR, l0]
      exact K'
