/-! THE CALLS, 1: what is asked (printed in part by hand). -/
section SIM
variable {k n : Nat} {T : Nat → Rw} {Y : Nat → Int} {lap bnd mrg : Int} {M M1 : Mm}
theorem fr158 (f : FrP scrF M M1) (j : Nat) : M1 158 j = M 158 j := f _ _ (by unfold scrF; omega)
theorem felA_m {c d t : Nat} (hc : cls M n T Y lap bnd mrg) (hx : relX M k n lap bnd mrg) (f : FrP scrF M M1) (ht : t < n) (hcd : c = 3 ∧ d = 1 ∨ c = 4 ∧ d = 2) : felA M 76 c t = felS T Y (fun t => M1 158 (30 * t + d)) t := by
  rw [felA_cls hc ht]
  obtain ⟨r1, r2, r3⟩ := relX_row hx ht
  unfold felS
  simp only
  rw [fr158 f]
  rcases hcd with ⟨rfl, rfl⟩ | ⟨rfl, rfl⟩
  · rw [r1]
  · rw [r2]
theorem mx_in (hm : mdl M n T Y lap bnd mrg) (p : Nat → Prop) [DecidablePred p] : -1 ≤ fMaxF p (felS T Y (fun t => M 158 (30 * t + 1))) n ∧ fMaxF p (felS T Y (fun t => M 158 (30 * t + 1))) n ≤ 953 :=
  fMaxF_in (by omega) (fun t ht => (felS_in (c := 1) hm ht (Or.inl rfl)).2)
theorem mn_in (hm : mdl M n T Y lap bnd mrg) (p : Nat → Prop) [DecidablePred p] : -1 ≤ fMinF p (felS T Y (fun t => M 158 (30 * t + 2))) n ∧ fMinF p (felS T Y (fun t => M 158 (30 * t + 2))) n ≤ 953 :=
  fMinF_in (by omega) (fun t ht => by have := felS_in (c := 2) hm ht (Or.inr rfl); omega)
theorem agF_in (X : Lks) (P : Nat → Int) (i : Nat) : 0 ≤ agF X P i ∧ agF X P i ≤ 1 := by
  unfold agF
  split <;> omega
theorem gwC_ex (h : okC T Y n) : ∃ c, c ≤ n ∧ gwC T lap bnd mrg n Y c := by
  have key : ∀ d r, r + d = n → (∀ i, i < r → (gwP T lap bnd mrg n Y i).1 ≠ -1) → ∃ c, gwC T lap bnd mrg n Y c := by
    intro d
    induction d with
    | zero =>
      intro r hr hi
      exact ⟨r, hi, (gwC_n h hi).2 (by omega)⟩
    | succ d ih =>
      intro r hr hi
      by_cases c : (gwP T lap bnd mrg n Y r).1 = -1
      · exact ⟨r, hi, c⟩
      · refine ih (r + 1) (by omega) (fun i hi2 => ?_)
        by_cases e : i = r
        · rw [e]; exact c
        · exact hi i (by omega)
  obtain ⟨c, hc⟩ := key n 0 (by omega) (fun i hi => by omega)
  exact ⟨c, (gwC_n h hc.1).1, hc⟩

theorem sim_count_0 (hc : cls M n T Y lap bnd mrg) (hm : mdl M n T Y lap bnd mrg) (hx : relX M k n lap bnd mrg) (hk : k ≤ 1000) : Sim m_RingDater_count m_Model_count [.inl 0] k M := by
  have n8 := hm.1.2
  have hb := hc.2.2.2
  have sp := (cSpan_in (wo := -1) hm.2.2.2).1
  have l28 := (lks_R (lap := lap) (bnd := bnd) (mrg := mrg) n8 (fun t ht => (hm.2.2.2.2 t ht).1) n (Nat.le_refl _)).1.1
  exact sim_q (v := (n : Int)) hm hx ⟨by omega, by omega⟩ (RingDater_count_0 hc) (fun M1 f hm1 => Mcount_0 hm1)
theorem sim_count_1 (hc : cls M n T Y lap bnd mrg) (hm : mdl M n T Y lap bnd mrg) (hx : relX M k n lap bnd mrg) (hk : k ≤ 1000) : Sim m_RingDater_count m_Model_count [.inl 1] k M := by
  have n8 := hm.1.2
  have hb := hc.2.2.2
  have sp := (cSpan_in (wo := -1) hm.2.2.2).1
  have l28 := (lks_R (lap := lap) (bnd := bnd) (mrg := mrg) n8 (fun t ht => (hm.2.2.2.2 t ht).1) n (Nat.le_refl _)).1.1
  exact sim_q (v := bnd) hm hx ⟨by omega, by omega⟩ (RingDater_count_1 hc) (fun M1 f hm1 => Mcount_1 hm1)
theorem sim_count_2 (hc : cls M n T Y lap bnd mrg) (hm : mdl M n T Y lap bnd mrg) (hx : relX M k n lap bnd mrg) (hk : k ≤ 1000) : Sim m_RingDater_count m_Model_count [.inl 2] k M := by
  have n8 := hm.1.2
  have hb := hc.2.2.2
  have sp := (cSpan_in (wo := -1) hm.2.2.2).1
  have l28 := (lks_R (lap := lap) (bnd := bnd) (mrg := mrg) n8 (fun t ht => (hm.2.2.2.2 t ht).1) n (Nat.le_refl _)).1.1
  exact sim_q (v := lap) hm hx ⟨by omega, by omega⟩ (RingDater_count_2 hc) (fun M1 f hm1 => Mcount_2 hm1)
theorem sim_count_3 (hc : cls M n T Y lap bnd mrg) (hm : mdl M n T Y lap bnd mrg) (hx : relX M k n lap bnd mrg) (hk : k ≤ 1000) : Sim m_RingDater_count m_Model_count [.inl 3] k M := by
  have n8 := hm.1.2
  have hb := hc.2.2.2
  have sp := (cSpan_in (wo := -1) hm.2.2.2).1
  have l28 := (lks_R (lap := lap) (bnd := bnd) (mrg := mrg) n8 (fun t ht => (hm.2.2.2.2 t ht).1) n (Nat.le_refl _)).1.1
  exact sim_q (v := mrg) hm hx ⟨by omega, by omega⟩ (RingDater_count_3 hc) (fun M1 f hm1 => Mcount_3 hm1)
theorem sim_count_4 (hc : cls M n T Y lap bnd mrg) (hm : mdl M n T Y lap bnd mrg) (hx : relX M k n lap bnd mrg) (hk : k ≤ 1000) : Sim m_RingDater_count m_Model_count [.inl 4] k M := by
  have n8 := hm.1.2
  have hb := hc.2.2.2
  have sp := (cSpan_in (wo := -1) hm.2.2.2).1
  have l28 := (lks_R (lap := lap) (bnd := bnd) (mrg := mrg) n8 (fun t ht => (hm.2.2.2.2 t ht).1) n (Nat.le_refl _)).1.1
  exact sim_q (v := fBit (fun t => Y t ≠ -1) n) hm hx (fBit_in _ _) (RingDater_count_4 hc) (fun M1 f hm1 => Mcount_4 hm1)
theorem sim_count_5 (hc : cls M n T Y lap bnd mrg) (hm : mdl M n T Y lap bnd mrg) (hx : relX M k n lap bnd mrg) (hk : k ≤ 1000) : Sim m_RingDater_count m_Model_count [.inl 5] k M := by
  have n8 := hm.1.2
  have hb := hc.2.2.2
  have sp := (cSpan_in (wo := -1) hm.2.2.2).1
  have l28 := (lks_R (lap := lap) (bnd := bnd) (mrg := mrg) n8 (fun t ht => (hm.2.2.2.2 t ht).1) n (Nat.le_refl _)).1.1
  exact sim_q (v := (cSpan T Y (-1) n).1) hm hx ⟨by omega, by omega⟩ (RingDater_count_5 hc) (fun M1 f hm1 => Mcount_5 hm1)
theorem sim_count_6 (hc : cls M n T Y lap bnd mrg) (hm : mdl M n T Y lap bnd mrg) (hx : relX M k n lap bnd mrg) (hk : k ≤ 1000) : Sim m_RingDater_count m_Model_count [.inl 6] k M := by
  have n8 := hm.1.2
  have hb := hc.2.2.2
  have sp := (cSpan_in (wo := -1) hm.2.2.2).1
  have l28 := (lks_R (lap := lap) (bnd := bnd) (mrg := mrg) n8 (fun t ht => (hm.2.2.2.2 t ht).1) n (Nat.le_refl _)).1.1
  exact sim_q (v := (cSpan T Y (-1) n).2) hm hx ⟨by omega, by omega⟩ (RingDater_count_6 hc) (fun M1 f hm1 => Mcount_6 hm1)
theorem sim_count_7 (hc : cls M n T Y lap bnd mrg) (hm : mdl M n T Y lap bnd mrg) (hx : relX M k n lap bnd mrg) (hk : k ≤ 1000) : Sim m_RingDater_count m_Model_count [.inl 7] k M := by
  have n8 := hm.1.2
  have hb := hc.2.2.2
  have sp := (cSpan_in (wo := -1) hm.2.2.2).1
  have l28 := (lks_R (lap := lap) (bnd := bnd) (mrg := mrg) n8 (fun t ht => (hm.2.2.2.2 t ht).1) n (Nat.le_refl _)).1.1
  exact sim_q (v := ((lks T lap bnd mrg n n).1 : Int)) hm hx ⟨by omega, by omega⟩ (RingDater_count_7 hc) (fun M1 f hm1 => Mcount_7 hm1)
theorem sim_count_8 (hc : cls M n T Y lap bnd mrg) (hm : mdl M n T Y lap bnd mrg) (hx : relX M k n lap bnd mrg) (hk : k ≤ 1000) : Sim m_RingDater_count m_Model_count [.inl 8] k M := by
  have n8 := hm.1.2
  have hb := hc.2.2.2
  have sp := (cSpan_in (wo := -1) hm.2.2.2).1
  have l28 := (lks_R (lap := lap) (bnd := bnd) (mrg := mrg) n8 (fun t ht => (hm.2.2.2.2 t ht).1) n (Nat.le_refl _)).1.1
  exact sim_q (v := sumN (fun t => if (pcN (lks T lap bnd mrg n n).2 (lks T lap bnd mrg n n).1).1 t = t then 1 else 0) n) hm hx (by have := sumN_01 (f := fun t => if (pcN (lks T lap bnd mrg n n).2 (lks T lap bnd mrg n n).1).1 t = t then 1 else 0) (fun j => by split <;> omega) n; exact ⟨by omega, by omega⟩) (RingDater_count_8 hc) (fun M1 f hm1 => Mcount_8 hm1)
theorem sim_count_9 (hc : cls M n T Y lap bnd mrg) (hm : mdl M n T Y lap bnd mrg) (hx : relX M k n lap bnd mrg) (hk : k ≤ 1000) : Sim m_RingDater_count m_Model_count [.inl 9] k M := by
  have n8 := hm.1.2
  have hb := hc.2.2.2
  have sp := (cSpan_in (wo := -1) hm.2.2.2).1
  have l28 := (lks_R (lap := lap) (bnd := bnd) (mrg := mrg) n8 (fun t ht => (hm.2.2.2.2 t ht).1) n (Nat.le_refl _)).1.1
  exact sim_q (v := sumN (agF (lks T lap bnd mrg n n) (pcN (lks T lap bnd mrg n n).2 (lks T lap bnd mrg n n).1).2) (lks T lap bnd mrg n n).1) hm hx (by have := sumN_01 (agF_in (lks T lap bnd mrg n n) (pcN (lks T lap bnd mrg n n).2 (lks T lap bnd mrg n n).1).2) (lks T lap bnd mrg n n).1; exact ⟨by omega, by omega⟩) (RingDater_count_9 hc) (fun M1 f hm1 => Mcount_9 hm1)
theorem sim_count_13 (hc : cls M n T Y lap bnd mrg) (hm : mdl M n T Y lap bnd mrg) (hx : relX M k n lap bnd mrg) (hk : k ≤ 1000) : Sim m_RingDater_count m_Model_count [.inl 13] k M := by
  have n8 := hm.1.2
  have hb := hc.2.2.2
  have sp := (cSpan_in (wo := -1) hm.2.2.2).1
  have l28 := (lks_R (lap := lap) (bnd := bnd) (mrg := mrg) n8 (fun t ht => (hm.2.2.2.2 t ht).1) n (Nat.le_refl _)).1.1
  exact sim_q (v := cntP T Y n 1000) hm hx (by have := cntP_in T Y n 1000; exact ⟨by omega, by omega⟩) (RingDater_count_13 hc) (fun M1 f hm1 => Mcount_13 hm1)
theorem sim_count_14 (hc : cls M n T Y lap bnd mrg) (hm : mdl M n T Y lap bnd mrg) (hx : relX M k n lap bnd mrg) (hk : k ≤ 1000) : Sim m_RingDater_count m_Model_count [.inl 14] k M := by
  have n8 := hm.1.2
  have hb := hc.2.2.2
  have sp := (cSpan_in (wo := -1) hm.2.2.2).1
  have l28 := (lks_R (lap := lap) (bnd := bnd) (mrg := mrg) n8 (fun t ht => (hm.2.2.2.2 t ht).1) n (Nat.le_refl _)).1.1
  exact sim_q (v := (oddS (fitS T Y n) Y n).1) hm hx (by have := oddS_in (F := fitS T Y n) (Y := Y) (fun t => fitS_in T Y n t) n; exact ⟨by omega, by omega⟩) (RingDater_count_14 hc) (fun M1 f hm1 => Mcount_14 hm1)
theorem sim_count_10 (hc : cls M n T Y lap bnd mrg) (hm : mdl M n T Y lap bnd mrg) (hx : relX M k n lap bnd mrg) (hk : k ≤ 1000) : Sim m_RingDater_count m_Model_count [.inl 10] k M := by
  have e1 : ∀ M1, FrP scrF M M1 → fMaxF (fun t => Y t ≠ -1) (felA M 76 3) n = fMaxF (fun t => Y t ≠ -1) (felS T Y (fun t => M1 158 (30 * t + 1))) n := fun M1 f => fMaxF_congr (fun t ht => Iff.rfl) (fun t ht => felA_m hc hx f ht (Or.inl ⟨rfl, rfl⟩))
  have e2 : ∀ M1, FrP scrF M M1 → fMinF (fun t => Y t ≠ -1) (felA M 76 4) n = fMinF (fun t => Y t ≠ -1) (felS T Y (fun t => M1 158 (30 * t + 2))) n := fun M1 f => fMinF_congr (fun t ht => Iff.rfl) (fun t ht => felA_m hc hx f ht (Or.inr ⟨rfl, rfl⟩))
  have b1 := mx_in hm (fun t => Y t ≠ -1)
  have b2 := mn_in hm (fun t => Y t ≠ -1)
  rw [← e1 M FrP.rf] at b1
  rw [← e2 M FrP.rf] at b2
  refine sim_q (v := (if fMaxF (fun t => Y t ≠ -1) (felA M 76 3) n ≤ fMinF (fun t => Y t ≠ -1) (felA M 76 4) n then fMaxF (fun t => Y t ≠ -1) (felA M 76 3) n else -1)) hm hx ?_ (RingDater_count_10 hc) (fun M1 f hm1 => ?_)
  · first | exact ⟨by omega, by omega⟩ | (split <;> exact ⟨by omega, by omega⟩)
  · rw [e1 M1 f]
    try rw [e2 M1 f]
    exact Mcount_10 hm1
theorem sim_count_11 (hc : cls M n T Y lap bnd mrg) (hm : mdl M n T Y lap bnd mrg) (hx : relX M k n lap bnd mrg) (hk : k ≤ 1000) : Sim m_RingDater_count m_Model_count [.inl 11] k M := by
  have e1 : ∀ M1, FrP scrF M M1 → fMaxF (fun t => Y t ≠ -1) (felA M 76 3) n = fMaxF (fun t => Y t ≠ -1) (felS T Y (fun t => M1 158 (30 * t + 1))) n := fun M1 f => fMaxF_congr (fun t ht => Iff.rfl) (fun t ht => felA_m hc hx f ht (Or.inl ⟨rfl, rfl⟩))
  have e2 : ∀ M1, FrP scrF M M1 → fMinF (fun t => Y t ≠ -1) (felA M 76 4) n = fMinF (fun t => Y t ≠ -1) (felS T Y (fun t => M1 158 (30 * t + 2))) n := fun M1 f => fMinF_congr (fun t ht => Iff.rfl) (fun t ht => felA_m hc hx f ht (Or.inr ⟨rfl, rfl⟩))
  have b1 := mx_in hm (fun t => Y t ≠ -1)
  have b2 := mn_in hm (fun t => Y t ≠ -1)
  rw [← e1 M FrP.rf] at b1
  rw [← e2 M FrP.rf] at b2
  refine sim_q (v := (if fMaxF (fun t => Y t ≠ -1) (felA M 76 3) n ≤ fMinF (fun t => Y t ≠ -1) (felA M 76 4) n then fMinF (fun t => Y t ≠ -1) (felA M 76 4) n else -1)) hm hx ?_ (RingDater_count_11 hc) (fun M1 f hm1 => ?_)
  · first | exact ⟨by omega, by omega⟩ | (split <;> exact ⟨by omega, by omega⟩)
  · rw [e1 M1 f]
    try rw [e2 M1 f]
    exact Mcount_11 hm1
theorem sim_count_12 (hc : cls M n T Y lap bnd mrg) (hm : mdl M n T Y lap bnd mrg) (hx : relX M k n lap bnd mrg) (hk : k ≤ 1000) : Sim m_RingDater_count m_Model_count [.inl 12] k M := by
  have e1 : ∀ M1, FrP scrF M M1 → fMaxF (fun t => Y t ≠ -1) (felA M 76 3) n = fMaxF (fun t => Y t ≠ -1) (felS T Y (fun t => M1 158 (30 * t + 1))) n := fun M1 f => fMaxF_congr (fun t ht => Iff.rfl) (fun t ht => felA_m hc hx f ht (Or.inl ⟨rfl, rfl⟩))
  have e2 : ∀ M1, FrP scrF M M1 → fMinF (fun t => Y t ≠ -1) (felA M 76 4) n = fMinF (fun t => Y t ≠ -1) (felS T Y (fun t => M1 158 (30 * t + 2))) n := fun M1 f => fMinF_congr (fun t ht => Iff.rfl) (fun t ht => felA_m hc hx f ht (Or.inr ⟨rfl, rfl⟩))
  have b1 := mx_in hm (fun t => Y t ≠ -1)
  have b2 := mn_in hm (fun t => Y t ≠ -1)
  rw [← e1 M FrP.rf] at b1
  rw [← e2 M FrP.rf] at b2
  refine sim_q (v := fMaxF (fun t => Y t ≠ -1) (felA M 76 3) n) hm hx ?_ (RingDater_count_12 hc) (fun M1 f hm1 => ?_)
  · first | exact ⟨by omega, by omega⟩ | (split <;> exact ⟨by omega, by omega⟩)
  · rw [e1 M1 f]
    try rw [e2 M1 f]
    exact Mcount_12 hm1
theorem sim_count_15 (hc : cls M n T Y lap bnd mrg) (hm : mdl M n T Y lap bnd mrg) (hx : relX M k n lap bnd mrg) (hk : k ≤ 1000) : Sim m_RingDater_count m_Model_count [.inl 15] k M := by
  have n8 := hm.1.2
  refine (RingDater_count_15 hc).mono (fun x M1 z => ?_)
  obtain ⟨⟨c, rfl, gc⟩, z1, z2⟩ := z
  have cn := (gwC_n hm.2.2.2 gc.1).1
  refine ⟨⟨by omega, by omega⟩, (Mcount_15 (mdl_scr hm z2) gc).mono (fun y M2 w => ?_)⟩
  exact ⟨w.1.symm, rel_q hm hx z1 z2 w.2⟩
theorem sim_count_16 (hc : cls M n T Y lap bnd mrg) (hm : mdl M n T Y lap bnd mrg) (hx : relX M k n lap bnd mrg) (hk : k ≤ 1000) : Sim m_RingDater_count m_Model_count [.inl 16] k M := by
  obtain ⟨-, ⟨m, N, Z, x1, x2⟩, x3, ⟨L, x4, -⟩, -, ⟨a, x5, x6⟩, -⟩ := id hx
  have s0 := x3 0 (by omega)
  have s1 := x3 1 (by omega)
  have s2 := x3 2 (by omega)
  have y1 := x1.1
  have y2 := x1.2.1
  have y3 := x2.1
  have y6 := x6.1
  have y7 := x6.2.1
  refine sim_q (v := M 106 4) hm hx ⟨by omega, by omega⟩ (RingDater_count_16 hc) (fun M1 f hm1 => ?_)
  have e : M1 154 58 = M 106 4 := (f _ _ (by unfold scrF; omega)).trans (by omega)
  exact (Mcount_16 hm1).mono (fun y M' z => ⟨z.1.trans e, z.2⟩)
theorem sim_count_17 (hc : cls M n T Y lap bnd mrg) (hm : mdl M n T Y lap bnd mrg) (hx : relX M k n lap bnd mrg) (hk : k ≤ 1000) : Sim m_RingDater_count m_Model_count [.inl 17] k M := by
  obtain ⟨-, ⟨m, N, Z, x1, x2⟩, x3, ⟨L, x4, -⟩, -, ⟨a, x5, x6⟩, -⟩ := id hx
  have s0 := x3 0 (by omega)
  have s1 := x3 1 (by omega)
  have s2 := x3 2 (by omega)
  have y1 := x1.1
  have y2 := x1.2.1
  have y3 := x2.1
  have y6 := x6.1
  have y7 := x6.2.1
  refine sim_q (v := M 111 2) hm hx ⟨by omega, by omega⟩ (RingDater_count_17 hc) (fun M1 f hm1 => ?_)
  have e : M1 154 60 = M 111 2 := (f _ _ (by unfold scrF; omega)).trans (by omega)
  exact (Mcount_17 hm1).mono (fun y M' z => ⟨z.1.trans e, z.2⟩)
theorem sim_count_18 (hc : cls M n T Y lap bnd mrg) (hm : mdl M n T Y lap bnd mrg) (hx : relX M k n lap bnd mrg) (hk : k ≤ 1000) : Sim m_RingDater_count m_Model_count [.inl 18] k M := by
  obtain ⟨-, ⟨m, N, Z, x1, x2⟩, x3, ⟨L, x4, -⟩, -, ⟨a, x5, x6⟩, -⟩ := id hx
  have s0 := x3 0 (by omega)
  have s1 := x3 1 (by omega)
  have s2 := x3 2 (by omega)
  have y1 := x1.1
  have y2 := x1.2.1
  have y3 := x2.1
  have y6 := x6.1
  have y7 := x6.2.1
  refine sim_q (v := M 1 2) hm hx ⟨by omega, by omega⟩ (RingDater_count_18 hc) (fun M1 f hm1 => ?_)
  have e : M1 154 8 = M 1 2 := (f _ _ (by unfold scrF; omega)).trans (by omega)
  exact (Mcount_18 hm1).mono (fun y M' z => ⟨z.1.trans e, z.2⟩)
theorem sim_count_19 (hc : cls M n T Y lap bnd mrg) (hm : mdl M n T Y lap bnd mrg) (hx : relX M k n lap bnd mrg) (hk : k ≤ 1000) : Sim m_RingDater_count m_Model_count [.inl 19] k M := by
  obtain ⟨-, ⟨m, N, Z, x1, x2⟩, x3, ⟨L, x4, -⟩, -, ⟨a, x5, x6⟩, -⟩ := id hx
  have s0 := x3 0 (by omega)
  have s1 := x3 1 (by omega)
  have s2 := x3 2 (by omega)
  have y1 := x1.1
  have y2 := x1.2.1
  have y3 := x2.1
  have y6 := x6.1
  have y7 := x6.2.1
  refine sim_q (v := M 114 0) hm hx ⟨by omega, by omega⟩ (RingDater_count_19 hc) (fun M1 f hm1 => ?_)
  have e : M1 160 0 = M 114 0 := (f _ _ (by unfold scrF; omega)).trans (by omega)
  exact (Mcount_19 hm1).mono (fun y M' z => ⟨z.1.trans e, z.2⟩)
theorem sim_count_20 (hc : cls M n T Y lap bnd mrg) (hm : mdl M n T Y lap bnd mrg) (hx : relX M k n lap bnd mrg) (hk : k ≤ 1000) : Sim m_RingDater_count m_Model_count [.inl 20] k M := by
  obtain ⟨-, ⟨m, N, Z, x1, x2⟩, x3, ⟨L, x4, -⟩, -, ⟨a, x5, x6⟩, -⟩ := id hx
  have s0 := x3 0 (by omega)
  have s1 := x3 1 (by omega)
  have s2 := x3 2 (by omega)
  have y1 := x1.1
  have y2 := x1.2.1
  have y3 := x2.1
  have y6 := x6.1
  have y7 := x6.2.1
  refine sim_q (v := M 114 1) hm hx ⟨by omega, by omega⟩ (RingDater_count_20 hc) (fun M1 f hm1 => ?_)
  have e : M1 160 1 = M 114 1 := (f _ _ (by unfold scrF; omega)).trans (by omega)
  exact (Mcount_20 hm1).mono (fun y M' z => ⟨z.1.trans e, z.2⟩)
theorem sim_count_21 (hc : cls M n T Y lap bnd mrg) (hm : mdl M n T Y lap bnd mrg) (hx : relX M k n lap bnd mrg) (hk : k ≤ 1000) : Sim m_RingDater_count m_Model_count [.inl 21] k M := by
  obtain ⟨-, ⟨m, N, Z, x1, x2⟩, x3, ⟨L, x4, -⟩, -, ⟨a, x5, x6⟩, -⟩ := id hx
  have s0 := x3 0 (by omega)
  have s1 := x3 1 (by omega)
  have s2 := x3 2 (by omega)
  have y1 := x1.1
  have y2 := x1.2.1
  have y3 := x2.1
  have y6 := x6.1
  have y7 := x6.2.1
  refine sim_q (v := M 114 2) hm hx ⟨by omega, by omega⟩ (RingDater_count_21 hc) (fun M1 f hm1 => ?_)
  have e : M1 160 2 = M 114 2 := (f _ _ (by unfold scrF; omega)).trans (by omega)
  exact (Mcount_21 hm1).mono (fun y M' z => ⟨z.1.trans e, z.2⟩)
theorem sim_count {w : Int} (hR : Rel k M) (hk : k ≤ 1000) (hw : inR w) : Sim m_RingDater_count m_Model_count [.inl w] k M ∨ SimX m_RingDater_count m_Model_count [.inl w] k 0 1 M := by
  obtain ⟨n, T, Y, lap, bnd, mrg, hc, hm, hx⟩ := hR
  by_cases c : 0 ≤ w ∧ w ≤ 21
  · left
    rcases (show w = 0 ∨ w = 1 ∨ w = 2 ∨ w = 3 ∨ w = 4 ∨ w = 5 ∨ w = 6 ∨ w = 7 ∨ w = 8 ∨ w = 9 ∨ w = 10 ∨ w = 11 ∨ w = 12 ∨ w = 13 ∨ w = 14 ∨ w = 15 ∨ w = 16 ∨ w = 17 ∨ w = 18 ∨ w = 19 ∨ w = 20 ∨ w = 21 by omega) with rfl | rfl | rfl | rfl | rfl | rfl | rfl | rfl | rfl | rfl | rfl | rfl | rfl | rfl | rfl | rfl | rfl | rfl | rfl | rfl | rfl | rfl
    · exact sim_count_0 hc hm hx hk
    · exact sim_count_1 hc hm hx hk
    · exact sim_count_2 hc hm hx hk
    · exact sim_count_3 hc hm hx hk
    · exact sim_count_4 hc hm hx hk
    · exact sim_count_5 hc hm hx hk
    · exact sim_count_6 hc hm hx hk
    · exact sim_count_7 hc hm hx hk
    · exact sim_count_8 hc hm hx hk
    · exact sim_count_9 hc hm hx hk
    · exact sim_count_10 hc hm hx hk
    · exact sim_count_11 hc hm hx hk
    · exact sim_count_12 hc hm hx hk
    · exact sim_count_13 hc hm hx hk
    · exact sim_count_14 hc hm hx hk
    · exact sim_count_15 hc hm hx hk
    · exact sim_count_16 hc hm hx hk
    · exact sim_count_17 hc hm hx hk
    · exact sim_count_18 hc hm hx hk
    · exact sim_count_19 hc hm hx hk
    · exact sim_count_20 hc hm hx hk
    · exact sim_count_21 hc hm hx hk
  · right
    exact sim_x0 hc hm hx (RingDater_count_x hw (by omega)) (Mcount_x hw (by omega))
end SIM
