/-! THE CALLS, 4: date, settle, move, doubt, mend, grow. -/
theorem wfS_yr {M MA : Mm} (hw : wfS M 76) (e : ∀ b, 76 ≤ b → b < 106 → b ≠ 81 → ∀ j, MA b j = M b j) (hy : ∀ t, t < 8 → -1 ≤ MA 81 t ∧ MA 81 t ≤ 900) : wfS MA 76 := by
  obtain ⟨w1, w2, w3, w4, w5, w6, w7⟩ := hw
  have e0 := e 76 (by omega) (by omega) (by omega)
  refine ⟨by rw [e0]; exact w1, by rw [e0]; exact w2, by rw [e0]; exact w3, by rw [e0]; exact w4, fun t ht => wfT_cells (fun b p1 p2 j => e b (by omega) (by omega) (by omega) j) (w5 t ht), wfT_cells (fun b p1 p2 j => e b (by omega) (by omega) (by omega) j) w6, hy⟩
theorem wfS_tm {M MA : Mm} {t : Nat} (hw : wfS M 76) (ht : t < 8) (e : ∀ b, 76 ≤ b → b < 106 → (b < 82 + 3 * t ∨ 85 + 3 * t ≤ b) → ∀ j, MA b j = M b j) (hy : wfT MA (82 + 3 * t)) : wfS MA 76 := by
  obtain ⟨w1, w2, w3, w4, w5, w6, w7⟩ := hw
  have e0 := e 76 (by omega) (by omega) (by omega)
  refine ⟨by rw [e0]; exact w1, by rw [e0]; exact w2, by rw [e0]; exact w3, by rw [e0]; exact w4, fun s hs => ?_, wfT_cells (fun b p1 p2 j => e b (by omega) (by omega) (by omega) j) w6, fun s hs => by rw [e (76 + 5) (by omega) (by omega) (by omega)]; exact w7 s hs⟩
  by_cases c : s = t
  · subst c; exact hy
  · exact wfT_cells (fun b p1 p2 j => e b (by omega) (by omega) (by omega) j) (w5 s hs)
section SIM4
variable {k n : Nat} {T : Nat → Rw} {Y : Nat → Int} {lap bnd mrg : Int} {M M1 M2 M3 : Mm}
theorem relX_ld (hx : relX M k n lap bnd mrg) : ldK M ∧ ldM M := by
  obtain ⟨-, -, -, -, -, ⟨a, x1, x2, x3, -⟩, -⟩ := hx
  unfold ldK ldM
  omega
theorem ldM_fr (h : ldM M) (f : FrP scrF M M1) : ldM M1 := by
  unfold ldM
  rw [f 154 58 (by unfold scrF; omega)]
  exact h
theorem row_w (hx : relX M k n lap bnd mrg) : rowW (M 158) n := by
  obtain ⟨-, -, -, -, -, ⟨a, -, -, -, x, -⟩, -⟩ := hx
  exact x
theorem mRec_lo {a b c d : Int} (q j : Nat) (h : q < 106) : mRec M 106 a b c d q j = M q j := mRec_out q j (Or.inl h)
/-- a refused act: a count of both goes up -/
theorem ref_rel {q : Nat} (hq : q < 3) (hc : cls M n T Y lap bnd mrg) (hm : mdl M n T Y lap bnd mrg) (hx : relX M k n lap bnd mrg) (h1 : cls M1 n T Y lap bnd mrg) (f : FrP scrF M M1) (r : rsM (mset M1 114 q (M1 114 q + 1)) 0 M2) : mRefM M2 q 154 1 = 0 ∧ Rel (k + 1) (mRefM M2 q) := by
  have n8 := hm.1.2
  have E : ∀ b j, ¬ scrF b j → ¬ scrM b j → ¬ (b = 114 ∧ j = q) → ¬ (b = 160 ∧ j = q) → mRefM M2 q b j = M b j := by
    intro b j z1 z2 z3 z4
    show (if b = 160 ∧ j = q then _ else M2 b j) = _
    rw [if_neg z4, r.2 b j z2]
    show (if b = 114 ∧ j = q then _ else M1 b j) = _
    rw [if_neg z3, f b j z1]
  have e114 : mRefM M2 q 114 q = M 114 q + 1 := by
    show (if 114 = 160 ∧ q = q then M2 160 q + 1 else M2 114 q) = _
    rw [if_neg (by omega), r.2 _ _ (by unfold scrM; omega), f 114 q (by unfold scrF; omega)]
    simp [mset]
  have e160 : mRefM M2 q 160 q = M 160 q + 1 := by
    have e : M2 160 q = M 160 q := by
      rw [r.2 _ _ (by unfold scrM; omega)]
      show (if 160 = 114 ∧ q = q then _ else M1 160 q) = _
      rw [if_neg (by omega), f 160 q (by unfold scrF; omega)]
    show (if 160 = 160 ∧ q = q then M2 160 q + 1 else M2 160 q) = _
    rw [if_pos ⟨rfl, rfl⟩, e]
  -- the memory with the two counts as they were
  have hX := relX_fr (M2 := mset (mset (mRefM M2 q) 114 q (M 114 q)) 160 q (M 160 q)) n8 (Nat.le_refl k) (fun b j z1 z2 => by
    show (if b = 160 ∧ j = q then M 160 q else if b = 114 ∧ j = q then M 114 q else mRefM M2 q b j) = _
    by_cases c1 : b = 160 ∧ j = q
    · rw [if_pos c1, c1.1, c1.2]
    · rw [if_neg c1]
      by_cases c2 : b = 114 ∧ j = q
      · rw [if_pos c2, c2.1, c2.2]
      · rw [if_neg c2]
        exact E b j z1 z2 c2 c1) hx
  refine ⟨?_, n, T, Y, lap, bnd, mrg, cls_out h1 (fun b p1 p2 j => ?_), mdl_fr hm (P := fun b j => scrF b j ∨ scrM b j ∨ b = 114 ∨ b = 160) (fun b j z => E b j (fun w => z (Or.inl w)) (fun w => z (Or.inr (Or.inl w))) (fun w => z (Or.inr (Or.inr (Or.inl w.1)))) (fun w => z (Or.inr (Or.inr (Or.inr w.1))))) (fun b j z => by unfold scrF scrM at z; omega), ?_⟩
  · show (if 154 = 160 ∧ 1 = q then M2 160 q + 1 else M2 154 1) = 0
    rw [if_neg (by omega)]
    exact r.1
  · show (if b = 160 ∧ j = q then _ else M2 b j) = _
    rw [if_neg (by omega), r.2 _ _ (by unfold scrM; omega)]
    show (if b = 114 ∧ j = q then _ else M1 b j) = _
    rw [if_neg (by omega)]
  · obtain ⟨y1, y2, y4, y5, y6, y7, y8, y9, y10⟩ := hX
    have G : ∀ b j, b ≠ 114 → b ≠ 160 → mset (mset (mRefM M2 q) 114 q (M 114 q)) 160 q (M 160 q) b j = mRefM M2 q b j := by
      intro b j z1 z2
      show (if b = 160 ∧ j = q then M 160 q else if b = 114 ∧ j = q then M 114 q else mRefM M2 q b j) = _
      rw [if_neg (fun w => z2 w.1), if_neg (fun w => z1 w.1)]
    generalize hMX : mset (mset (mRefM M2 q) 114 q (M 114 q)) 160 q (M 160 q) = MX at *
    have H : ∀ b j, b ≠ 114 → b ≠ 160 → mRefM M2 q b j = MX b j := fun b j z1 z2 => (G b j z1 z2).symm
    have f158 : mRefM M2 q 158 = MX 158 := funext (fun j => H _ _ (by omega) (by omega))
    have f181 : mRefM M2 q 181 = MX 181 := funext (fun j => H _ _ (by omega) (by omega))
    obtain ⟨m, N, Z, x2, x3⟩ := y2
    obtain ⟨L, x5, x6, x7⟩ := y5
    obtain ⟨a, x9, x10⟩ := y7
    have x4 := hx.2.2.1
    refine ⟨?_, ⟨m, N, Z, ?_, ?_⟩, fun j hj => ?_, ⟨L, ⟨?_, ?_, x5.2.2⟩, fun j hj => ?_, fun j => ?_⟩, ?_, ⟨a, ?_, ?_⟩, ?_, ?_, fun z => ?_⟩
    · rw [f158]; exact rowR_fr n8 (fun b p1 p2 j => H _ _ (by omega) (by omega)) y1
    · obtain ⟨q1, q2, q3⟩ := x2
      refine ⟨(H _ _ (by omega) (by omega)).trans q1, q2, fun i hi => ?_⟩
      rw [H 112 _ (by omega) (by omega), H 113 _ (by omega) (by omega)]
      exact q3 i hi
    · obtain ⟨q1, q2, q3⟩ := x3
      refine ⟨(H _ _ (by omega) (by omega)).trans q1, q2, fun i hi => ?_⟩
      rw [H 182 _ (by omega) (by omega), H 183 _ (by omega) (by omega)]
      exact q3 i hi
    · obtain ⟨q1, q2, q3⟩ := x4 j hj
      by_cases cj : j = q
      · subst cj
        rw [e114, e160]
        exact ⟨by omega, by omega, by omega⟩
      · rw [E 114 j (by unfold scrF; omega) (by unfold scrM; omega) (by omega) (by omega), E 160 j (by unfold scrF; omega) (by unfold scrM; omega) (by omega) (by omega)]
        exact ⟨q1, q2, by omega⟩
    · exact (H _ _ (by omega) (by omega)).trans x5.1
    · exact (H _ _ (by omega) (by omega)).trans x5.2.1
    · rw [H 2 _ (by omega) (by omega), H 161 _ (by omega) (by omega)]; exact x6 j hj
    · rw [H 2 _ (by omega) (by omega)]; exact x7 j
    · rw [H 1 3 (by omega) (by omega), H 154 17 (by omega) (by omega)]; exact y6
    · exact (H _ _ (by omega) (by omega)).trans x9
    · rw [f158, f181]; exact ledR_mono (fun q hq j => H _ _ (by omega) (by omega)) x10
    · exact relG_mv y8 (fun b j hb => H b j (by omega) (by omega))
    · rw [H 0 14 (by omega) (by omega), H 154 69 (by omega) (by omega)]; exact y9
    · rw [H 0 14 (by omega) (by omega)] at z
      exact imgR_fr n8 (by omega) (fun b hb j => H _ _ (by omega) (by omega)) (H _ _ (by omega) (by omega)) (H _ _ (by omega) (by omega)) (y10 z)
theorem rs_ref {q : Nat} : rsM (mset M1 114 q (M1 114 q + 1)) 0 (c0M (mset M1 114 q (M1 114 q + 1))) := rsM_0
theorem fr_ref {q : Nat} : FrP (fun b _ => b = 114) M1 (mset M1 114 q (M1 114 q + 1)) := FrP.rf.st rfl
/-- a year of the row -/
def gYr (f : Nat → Int) (t : Nat) (y : Int) : Nat → Int := fun j => if j = 30 * t + 4 then y else f j
theorem gYr_v {f : Nat → Int} {t s : Nat} {y : Int} (hw : (vT f s).2.1 ≤ 24) : vT (gYr f t y) s = vT f s ∧ (vY (gYr f t y) s = if s = t then y else vY f s) ∧ vH (gYr f t y) s = vH f s ∧ gYr f t y (30 * s + 1) = f (30 * s + 1) ∧ gYr f t y (30 * s + 2) = f (30 * s + 2) := by
  refine ⟨mRw_eq (fun k hk hk4 => ?_) hw, ?_, ?_, ?_, ?_⟩
  · unfold gYr
    rw [if_neg (by omega)]
  · unfold vY gYr
    by_cases c : s = t
    · rw [if_pos (by omega), if_pos c]
    · rw [if_neg (by omega), if_neg c]
  · unfold vH gYr
    rw [if_neg (by omega)]
  · unfold gYr
    rw [if_neg (by omega)]
  · unfold gYr
    rw [if_neg (by omega)]
theorem gYr_W {f : Nat → Int} {t : Nat} {y : Int} (hw : rowW f n) (hy : -1 ≤ y ∧ y ≤ 900) : rowW (gYr f t y) n := by
  intro s hs
  obtain ⟨h1, h2, h3⟩ := hw s hs
  obtain ⟨g1, g2, -⟩ := gYr_v (t := t) (y := y) h1.1.2
  refine ⟨by rw [g1]; exact h1, ?_, wfM_eq (fun k hk hk4 => ?_) h3⟩
  · rw [g2]
    split
    · exact hy
    · exact h2
  · unfold gYr
    rw [if_neg (by omega)]
theorem gYr_un {f : Nat → Int} {t : Nat} {y : Int} (hw : rowW f n) (ht : t < n) (hn : n ≤ 8) : unR 0 t 0 (vY f t) n (gYr f t y) f := by
  have v := fun s (hs : s < n) => gYr_v (t := t) (y := y) (hw s hs).1.1.2
  refine ⟨⟨by omega, ⟨by omega, by omega⟩, inR_0, fun _ => by omega, fun z => by omega, fun z => by omega, fun z => by omega⟩, fun s hs => ?_⟩
  obtain ⟨v1, v2, v3, v4, v5⟩ := v s hs
  refine ⟨?_, ?_, ?_, v4.symm, v5.symm⟩
  · unfold unT
    rw [if_neg (by omega), if_neg (by omega), if_neg (by omega), v1]
  · unfold unY
    rw [v2]
    by_cases c : s = t
    · rw [if_pos (by omega), c]
    · rw [if_neg (by omega), if_neg (by omega), if_neg c]
  · unfold unH
    rw [if_neg (by omega), v3]
theorem row_Y (hm : mdl M n T Y lap bnd mrg) {t : Nat} (ht : t < n) : vY (M 158) t = Y t ∧ vT (M 158) t = T t := ⟨(hm.2.1 t ht).2.1, (hm.2.1 t ht).1⟩
/-- a timber dated, or not: both -/
theorem date_rel {t : Nat} {y : Int} (hc : cls M n T Y lap bnd mrg) (hm : mdl M n T Y lap bnd mrg) (hx : relX M k n lap bnd mrg) (ht : t < n) (hy : -1 ≤ y ∧ y ≤ 900) (h3 : rsM (mset (mRec M 106 0 t 0 (Y t)) 81 t y) 0 M3) : mset (mKeep M3) 158 (30 * t + 4) y 154 1 = 0 ∧ Rel (k + 1) (mset (mKeep M3) 158 (30 * t + 4) y) := by
  have n8 := hm.1.2
  have rw' := row_w hx
  have hr := hx.1
  have v := fun s (hs : s < n) => gYr_v (t := t) (y := y) (rw' s hs).1.1.2
  have eA : ∀ b j, b < 106 → ¬ (b = 81 ∧ j = t) → mset (mRec M 106 0 t 0 (Y t)) 81 t y b j = M b j := fun b j hb z => by
    show (if b = 81 ∧ j = t then y else _) = _
    rw [if_neg z, mRec_lo _ _ hb]
  have e158 : M3 158 = M 158 := funext (fun j => by
    rw [h3.2 _ _ (by unfold scrM; omega)]
    show (if 158 = 81 ∧ j = t then y else _) = _
    rw [if_neg (by omega)]
    exact mRec_out _ _ (by omega))
  refine act_rel (kd := 0) (sb := t) (rg := 0) (bf := Y t) (g := gYr (M 158) t y) (MA := mset (mRec M 106 0 t 0 (Y t)) 81 t y) (M3 := M3) hc hm hx (fun b j p1 p2 => ?_) (fun b j z => ?_) (fun b j p1 p2 => eA b j (by omega) (by omega)) (fun j p1 p2 => eA _ _ (by omega) (by omega)) ?_ ?_ (gYr_W rw' hy) h3 (fun b j z1 z2 => ?_) ?_ ?_ ?_
  · show (if b = 81 ∧ j = t then y else _) = _
    rw [if_neg (by omega)]
  · show (if b = 81 ∧ j = t then y else _) = _
    rw [if_neg (by omega)]
    exact mRec_out _ _ (by omega)
  · refine wfS_yr hc.1.1.1 (fun b p1 p2 p3 j => eA b j p2 (by omega)) (fun s hs => ?_)
    show -1 ≤ (if 81 = 81 ∧ s = t then y else mRec M 106 0 t 0 (Y t) 81 s) ∧ (if 81 = 81 ∧ s = t then y else mRec M 106 0 t 0 (Y t) 81 s) ≤ 900
    split
    · exact hy
    · rw [mRec_lo _ _ (by omega)]
      exact hc.1.1.1.2.2.2.2.2.2 s hs
  · intro s hs
    obtain ⟨r1, r2, r3, r4, r5⟩ := hr s hs
    obtain ⟨v1, v2, v3, v4, v5⟩ := v s hs
    rw [v1, v2, v3, v4, v5]
    refine ⟨?_, ?_, ?_, ?_, ?_⟩
    · rw [tRw_fr (fun q hq j => eA _ _ (by omega) (by omega))]; exact r1
    · show (if 81 = 81 ∧ s = t then y else mRec M 106 0 t 0 (Y t) 81 s) = _
      by_cases c : s = t
      · rw [if_pos ⟨rfl, c⟩, if_pos c]
      · rw [if_neg (fun w => c w.2), if_neg c, mRec_lo _ _ (by omega)]; exact r2
    · rw [eA _ _ (by omega) (by omega)]; exact r3
    · rw [eA _ _ (by omega) (by omega)]; exact r4
    · rw [eA _ _ (by omega) (by omega)]; exact r5
  · show (if b = 158 ∧ j = 30 * t + 4 then y else mKeep M3 b j) = _
    rw [if_neg (fun w => z2 w.1)]
  · show (if 154 = 158 ∧ 1 = 30 * t + 4 then y else mKeep M3 154 1) = 0
    rw [if_neg (by omega), mKeep_o (by omega) (by omega)]
    exact h3.1
  · funext j
    show (if 158 = 158 ∧ j = 30 * t + 4 then y else mKeep M3 158 j) = if j = 30 * t + 4 then y else M 158 j
    rw [mKeep_o (by omega) (by omega), e158]
    exact if_cg (by omega) rfl rfl
  · have := gYr_un (y := y) rw' ht n8
    rw [(row_Y hm ht).1] at this
    exact this
theorem sim_date {t y : Int} (hR : Rel k M) (ht : inR t) (hy : inR y) : Sim m_RingDater_date m_Model_date [.inl t, .inl y] k M := by
  obtain ⟨n, T, Y, lap, bnd, mrg, hc, hm, hx⟩ := hR
  obtain ⟨l1, l2⟩ := relX_ld hx
  by_cases c : ¬ (0 ≤ t ∧ t < n) ∨ y < -1 ∨ 900 < y ∨ Y t.toNat = y
  · refine (RingDater_date_no hc ht hy c).eq ⟨⟨by omega, by omega⟩, ?_⟩
    have hm1 := mdl_fr hm (fr_ref (M1 := M) (q := 1)) (fun b j z => by omega)
    refine (Mdate_no hm1 ht hy c).eq ⟨rfl, ?_⟩
    exact ref_rel (by omega) hc hm hx hc FrP.rf rs_ref
  · obtain ⟨u, rfl⟩ : ∃ u : Nat, t = u := ⟨t.toNat, by omega⟩
    have hu : u < n := by omega
    rw [natT] at c
    have gy := (mdl_t hm hu).2.2.2.2.1
    refine (RingDater_date_ok hc l1 hu (by omega) (by omega)).eq ⟨⟨by omega, by omega⟩, ?_⟩
    have F : FrP (fun b j => 81 ≤ b ∧ b ≤ 110) M (mset (mRec M 106 0 u 0 (Y u)) 81 u y) := fun b j z => by
      show (if b = 81 ∧ j = u then y else _) = _
      rw [if_neg (by omega)]
      exact mRec_out _ _ (by omega)
    have hm1 := mdl_fr hm F (fun b j z => by omega)
    have l2' : ldM (mset (mRec M 106 0 u 0 (Y u)) 81 u y) := by
      unfold ldM
      rw [F _ _ (by omega)]
      exact l2
    refine (Mdate_ok hm1 l2' hu (by omega) (by omega)).eq ⟨rfl, ?_⟩
    exact date_rel hc hm hx hu (by omega) rsM_0
theorem sim_settle {t : Int} (hR : Rel k M) (ht : inR t) : Sim m_RingDater_settle m_Model_settle [.inl t] k M := by
  obtain ⟨n, T, Y, lap, bnd, mrg, hc, hm, hx⟩ := hR
  obtain ⟨l1, l2⟩ := relX_ld hx
  by_cases c : ¬ (0 ≤ t ∧ t < n) ∨ Y t.toNat ≠ -1 ∨ whyU T Y lap bnd mrg n t.toNat ≠ 0
  · refine (RingDater_settle_no hc ht c).mono (fun x M' z => ?_)
    obtain ⟨rfl, M2, z1, z2, rfl⟩ := z
    refine ⟨⟨by omega, by omega⟩, ?_⟩
    have hm1 : mdl (mRef M2) n T Y lap bnd mrg := mdl_fr (mdl_scr hm z2) (fr_ref (M1 := M2) (q := 1)) (fun b j z => by omega)
    refine (Msettle_no hm1 ht c).mono (fun y M3 w => ?_)
    obtain ⟨rfl, M4, w1, rfl⟩ := w
    exact ⟨rfl, ref_rel (by omega) hc hm hx z1 z2 w1⟩
  · obtain ⟨u, rfl⟩ : ∃ u : Nat, t = u := ⟨t.toNat, by omega⟩
    have hu : u < n := by omega
    rw [natT] at c
    have hY : Y u = -1 := by
      by_cases e : Y u = -1
      · exact e
      · exact absurd (Or.inr (Or.inl e)) c
    have hU : whyU T Y lap bnd mrg n u = 0 := by
      by_cases e : whyU T Y lap bnd mrg n u = 0
      · exact e
      · exact absurd (Or.inr (Or.inr e)) c
    have hr : 0 ≤ (cSpan T Y u n).1 + (bestO T Y lap n u).2.1 ∧ (cSpan T Y u n).1 + (bestO T Y lap n u).2.1 ≤ 900 := by
      unfold whyU at hU
      by_cases e : why (bestO T Y lap n u) bnd mrg = 0
      · rw [if_neg (fun z => z e)] at hU
        by_cases e2 : 0 ≤ (cSpan T Y u n).1 + (bestO T Y lap n u).2.1 ∧ (cSpan T Y u n).1 + (bestO T Y lap n u).2.1 ≤ 900
        · exact e2
        · rw [if_neg e2] at hU
          omega
      · rw [if_pos e] at hU
        exact absurd hU e
    refine (RingDater_settle_ok hc l1 hu hY hU).mono (fun x M' z => ?_)
    obtain ⟨rfl, M2, z1, z2, rfl⟩ := z
    refine ⟨⟨by omega, by omega⟩, ?_⟩
    have hm2 := mdl_scr hm z2
    have hx2 := relX_fr (M2 := M2) hm.1.2 (Nat.le_refl k) (fun b j w1 _ => z2 b j w1) hx
    have F : FrP (fun b j => 81 ≤ b ∧ b ≤ 110) M2 (mset (mRec M2 106 0 u 0 (-1)) 81 u ((cSpan T Y u n).1 + (bestO T Y lap n u).2.1)) := fun b j z => by
      show (if b = 81 ∧ j = u then _ else _) = _
      rw [if_neg (by omega)]
      exact mRec_out _ _ (by omega)
    have hm1 := mdl_fr hm2 F (fun b j z => by omega)
    have l2' : ldM (mset (mRec M2 106 0 u 0 (-1)) 81 u ((cSpan T Y u n).1 + (bestO T Y lap n u).2.1)) := by
      unfold ldM
      rw [F _ _ (by omega)]
      exact ldM_fr l2 z2
    refine (Msettle_ok hm1 l2' hu hY hU).mono (fun y M3 w => ?_)
    obtain ⟨rfl, M4, w1, rfl⟩ := w
    have D := date_rel (y := (cSpan T Y u n).1 + (bestO T Y lap n u).2.1) (M3 := M4) z1 hm2 hx2 hu (by omega)
    rw [hY] at D
    exact ⟨rfl, D w1⟩
end SIM4
