/-! THE CALLS, 2: what is asked. -/
section SIM2
variable {k n : Nat} {T : Nat → Rw} {Y : Nat → Int} {lap bnd mrg : Int} {M M1 : Mm}
theorem whyU_in (T : Nat → Rw) (Y : Nat → Int) (lap bnd mrg : Int) (n t : Nat) : 0 ≤ whyU T Y lap bnd mrg n t ∧ whyU T Y lap bnd mrg n t ≤ 4 := by
  have wi := why_in (bestO T Y lap n t) bnd mrg
  unfold whyU
  split
  · omega
  · split <;> omega
theorem sim_timber_0 {t : Nat} (hc : cls M n T Y lap bnd mrg) (hm : mdl M n T Y lap bnd mrg) (hx : relX M k n lap bnd mrg) (ht : t < n) : Sim m_RingDater_timber m_Model_timber [.inl (t : Int), .inl 0] k M := by
  have n8 := hm.1.2
  have g := mdl_t hm ht
  have o1 := g.2.2.2.1.1
  have gy := g.2.2.2.2.1
  have gw := g.2.2.2.2.2.1
  obtain ⟨r1, r2, r3⟩ := relX_row hx ht
  refine sim_q (v := (T t).2.1) hm hx ⟨by omega, by omega⟩ (RingDater_timber_0 hc ht) (fun M1 f hm1 => ?_)
  exact Mtimber_0 hm1 ht
theorem sim_timber_1 {t : Nat} (hc : cls M n T Y lap bnd mrg) (hm : mdl M n T Y lap bnd mrg) (hx : relX M k n lap bnd mrg) (ht : t < n) : Sim m_RingDater_timber m_Model_timber [.inl (t : Int), .inl 1] k M := by
  have n8 := hm.1.2
  have g := mdl_t hm ht
  have o1 := g.2.2.2.1.1
  have gy := g.2.2.2.2.1
  have gw := g.2.2.2.2.2.1
  obtain ⟨r1, r2, r3⟩ := relX_row hx ht
  refine sim_q (v := M (82 + 3 * t) 3) hm hx (by have := gw.1; exact ⟨by omega, by omega⟩) (RingDater_timber_1 hc ht) (fun M1 f hm1 => ?_)
  exact (Mtimber_1 hm1 ht).mono (fun y M' z => ⟨z.1.trans ((fr158 f _).trans r1.symm), z.2⟩)
theorem sim_timber_2 {t : Nat} (hc : cls M n T Y lap bnd mrg) (hm : mdl M n T Y lap bnd mrg) (hx : relX M k n lap bnd mrg) (ht : t < n) : Sim m_RingDater_timber m_Model_timber [.inl (t : Int), .inl 2] k M := by
  have n8 := hm.1.2
  have g := mdl_t hm ht
  have o1 := g.2.2.2.1.1
  have gy := g.2.2.2.2.1
  have gw := g.2.2.2.2.2.1
  obtain ⟨r1, r2, r3⟩ := relX_row hx ht
  refine sim_q (v := M (82 + 3 * t) 4) hm hx (by have := gw.2.1; exact ⟨by omega, by omega⟩) (RingDater_timber_2 hc ht) (fun M1 f hm1 => ?_)
  exact (Mtimber_2 hm1 ht).mono (fun y M' z => ⟨z.1.trans ((fr158 f _).trans r2.symm), z.2⟩)
theorem sim_timber_11 {t : Nat} (hc : cls M n T Y lap bnd mrg) (hm : mdl M n T Y lap bnd mrg) (hx : relX M k n lap bnd mrg) (ht : t < n) : Sim m_RingDater_timber m_Model_timber [.inl (t : Int), .inl 11] k M := by
  have n8 := hm.1.2
  have g := mdl_t hm ht
  have o1 := g.2.2.2.1.1
  have gy := g.2.2.2.2.1
  have gw := g.2.2.2.2.2.1
  obtain ⟨r1, r2, r3⟩ := relX_row hx ht
  refine sim_q (v := M (82 + 3 * t) 5) hm hx (by have := gw.2.2.1; exact ⟨by omega, by omega⟩) (RingDater_timber_11 hc ht) (fun M1 f hm1 => ?_)
  exact (Mtimber_11 hm1 ht).mono (fun y M' z => ⟨z.1.trans ((fr158 f _).trans r3.symm), z.2⟩)
theorem sim_timber_3 {t : Nat} (hc : cls M n T Y lap bnd mrg) (hm : mdl M n T Y lap bnd mrg) (hx : relX M k n lap bnd mrg) (ht : t < n) : Sim m_RingDater_timber m_Model_timber [.inl (t : Int), .inl 3] k M := by
  have n8 := hm.1.2
  have g := mdl_t hm ht
  have o1 := g.2.2.2.1.1
  have gy := g.2.2.2.2.1
  have gw := g.2.2.2.2.2.1
  obtain ⟨r1, r2, r3⟩ := relX_row hx ht
  refine sim_q (v := (if Y t ≠ -1 then 1 else 0)) hm hx (by split <;> exact ⟨by omega, by omega⟩) (RingDater_timber_3 hc ht) (fun M1 f hm1 => ?_)
  exact Mtimber_3 hm1 ht
theorem sim_timber_4 {t : Nat} (hc : cls M n T Y lap bnd mrg) (hm : mdl M n T Y lap bnd mrg) (hx : relX M k n lap bnd mrg) (ht : t < n) : Sim m_RingDater_timber m_Model_timber [.inl (t : Int), .inl 4] k M := by
  have n8 := hm.1.2
  have g := mdl_t hm ht
  have o1 := g.2.2.2.1.1
  have gy := g.2.2.2.2.1
  have gw := g.2.2.2.2.2.1
  obtain ⟨r1, r2, r3⟩ := relX_row hx ht
  refine sim_q (v := Y t) hm hx ⟨by omega, by omega⟩ (RingDater_timber_4 hc ht) (fun M1 f hm1 => ?_)
  exact Mtimber_4 hm1 ht
theorem sim_timber_6 {t : Nat} (hc : cls M n T Y lap bnd mrg) (hm : mdl M n T Y lap bnd mrg) (hx : relX M k n lap bnd mrg) (ht : t < n) : Sim m_RingDater_timber m_Model_timber [.inl (t : Int), .inl 6] k M := by
  have n8 := hm.1.2
  have g := mdl_t hm ht
  have o1 := g.2.2.2.1.1
  have gy := g.2.2.2.2.1
  have gw := g.2.2.2.2.2.1
  obtain ⟨r1, r2, r3⟩ := relX_row hx ht
  have l1 := (lks_R (lap := lap) (bnd := bnd) (mrg := mrg) n8 (fun t ht => (hm.2.2.2.2 t ht).1) n (Nat.le_refl _)).1
  have pi := pcI_in (pcI_N l1 _ (Nat.le_refl _)) (t := t) (by omega)
  refine sim_q (v := (pcN (lks T lap bnd mrg n n).2 (lks T lap bnd mrg n n).1).1 t) hm hx ⟨by omega, by omega⟩ (RingDater_timber_6 hc ht) (fun M1 f hm1 => ?_)
  exact Mtimber_6 hm1 ht
theorem sim_timber_7 {t : Nat} (hc : cls M n T Y lap bnd mrg) (hm : mdl M n T Y lap bnd mrg) (hx : relX M k n lap bnd mrg) (ht : t < n) : Sim m_RingDater_timber m_Model_timber [.inl (t : Int), .inl 7] k M := by
  have n8 := hm.1.2
  have g := mdl_t hm ht
  have o1 := g.2.2.2.1.1
  have gy := g.2.2.2.2.1
  have gw := g.2.2.2.2.2.1
  obtain ⟨r1, r2, r3⟩ := relX_row hx ht
  have l1 := (lks_R (lap := lap) (bnd := bnd) (mrg := mrg) n8 (fun t ht => (hm.2.2.2.2 t ht).1) n (Nat.le_refl _)).1
  have pi := pcI_in (pcI_N l1 _ (Nat.le_refl _)) (t := t) (by omega)
  refine sim_q (v := (pcN (lks T lap bnd mrg n n).2 (lks T lap bnd mrg n n).1).2 t) hm hx ⟨by omega, by omega⟩ (RingDater_timber_7 hc ht) (fun M1 f hm1 => ?_)
  exact Mtimber_7 hm1 ht
theorem sim_timber_8 {t : Nat} (hc : cls M n T Y lap bnd mrg) (hm : mdl M n T Y lap bnd mrg) (hx : relX M k n lap bnd mrg) (ht : t < n) : Sim m_RingDater_timber m_Model_timber [.inl (t : Int), .inl 8] k M := by
  have n8 := hm.1.2
  have g := mdl_t hm ht
  have o1 := g.2.2.2.1.1
  have gy := g.2.2.2.2.1
  have gw := g.2.2.2.2.2.1
  obtain ⟨r1, r2, r3⟩ := relX_row hx ht
  refine sim_q (v := (if Y t ≠ -1 then felA M 76 3 t else -1)) hm hx (by have e := felA_m hc hx FrP.rf ht (Or.inl ⟨rfl, rfl⟩); have b := felS_in (c := 1) hm ht (Or.inl rfl); rw [← e] at b; split <;> exact ⟨by omega, by omega⟩) (RingDater_timber_8 hc ht) (fun M1 f hm1 => ?_)
  rw [felA_m hc hx f ht (Or.inl ⟨rfl, rfl⟩)]
  exact Mtimber_8 hm1 ht
theorem sim_timber_9 {t : Nat} (hc : cls M n T Y lap bnd mrg) (hm : mdl M n T Y lap bnd mrg) (hx : relX M k n lap bnd mrg) (ht : t < n) : Sim m_RingDater_timber m_Model_timber [.inl (t : Int), .inl 9] k M := by
  have n8 := hm.1.2
  have g := mdl_t hm ht
  have o1 := g.2.2.2.1.1
  have gy := g.2.2.2.2.1
  have gw := g.2.2.2.2.2.1
  obtain ⟨r1, r2, r3⟩ := relX_row hx ht
  refine sim_q (v := (if Y t ≠ -1 then felA M 76 4 t else -1)) hm hx (by have e := felA_m hc hx FrP.rf ht (Or.inr ⟨rfl, rfl⟩); have b := felS_in (c := 2) hm ht (Or.inr rfl); rw [← e] at b; split <;> exact ⟨by omega, by omega⟩) (RingDater_timber_9 hc ht) (fun M1 f hm1 => ?_)
  rw [felA_m hc hx f ht (Or.inr ⟨rfl, rfl⟩)]
  exact Mtimber_9 hm1 ht
theorem sim_timber_10 {t : Nat} (hc : cls M n T Y lap bnd mrg) (hm : mdl M n T Y lap bnd mrg) (hx : relX M k n lap bnd mrg) (ht : t < n) : Sim m_RingDater_timber m_Model_timber [.inl (t : Int), .inl 10] k M := by
  have n8 := hm.1.2
  have g := mdl_t hm ht
  have o1 := g.2.2.2.1.1
  have gy := g.2.2.2.2.1
  have gw := g.2.2.2.2.2.1
  obtain ⟨r1, r2, r3⟩ := relX_row hx ht
  refine sim_q (v := (if Y t ≠ -1 then fitS T Y n t else -1)) hm hx (by have := fitS_in T Y n t; split <;> exact ⟨by omega, by omega⟩) (RingDater_timber_10 hc ht) (fun M1 f hm1 => ?_)
  exact Mtimber_10 hm1 ht
theorem sim_timber_12 {t : Nat} (hc : cls M n T Y lap bnd mrg) (hm : mdl M n T Y lap bnd mrg) (hx : relX M k n lap bnd mrg) (ht : t < n) : Sim m_RingDater_timber m_Model_timber [.inl (t : Int), .inl 12] k M := by
  have n8 := hm.1.2
  have g := mdl_t hm ht
  have o1 := g.2.2.2.1.1
  have gy := g.2.2.2.2.1
  have gw := g.2.2.2.2.2.1
  obtain ⟨r1, r2, r3⟩ := relX_row hx ht
  refine sim_q (v := (if Y t ≠ -1 then -1 else whyU T Y lap bnd mrg n t)) hm hx (by have := whyU_in T Y lap bnd mrg n t; split <;> exact ⟨by omega, by omega⟩) (RingDater_timber_12 hc ht) (fun M1 f hm1 => ?_)
  exact Mtimber_12 hm1 ht
theorem house_p {a : Int} (hc : cls M n T Y lap bnd mrg) (hx : relX M k n lap bnd mrg) {t : Nat} (ht : t < n) : (yrA M 76 t ≠ -1 ∧ M (tmA M 76 t) 5 = a) ↔ (Y t ≠ -1 ∧ M 158 (30 * t + 3) = a) := by
  obtain ⟨e1, -, -, -, -, e2, -⟩ := cls_tm hc ht
  rw [e1, e2, (relX_row hx ht).2.2]
theorem edM_eq {a : Int} (hc : cls M n T Y lap bnd mrg) (hx : relX M k n lap bnd mrg) : fMaxF (fun t => yrA M 76 t ≠ -1 ∧ M (tmA M 76 t) 5 = a) (felA M 76 3) n = edM M T Y a n :=
  fMaxF_congr (fun t ht => house_p hc hx ht) (fun t ht => felA_m hc hx FrP.rf ht (Or.inl ⟨rfl, rfl⟩))
theorem ruM_eq {a : Int} (hc : cls M n T Y lap bnd mrg) (hx : relX M k n lap bnd mrg) : fBit (fun t => (yrA M 76 t ≠ -1 ∧ M (tmA M 76 t) 5 = a) ∧ felA M 76 4 t < fMaxF (fun t => yrA M 76 t ≠ -1 ∧ M (tmA M 76 t) 5 = a) (felA M 76 3) n) n = ruM M T Y a n := by
  rw [edM_eq hc hx]
  exact fBit_congr (fun t ht => by rw [felA_m hc hx FrP.rf ht (Or.inr ⟨rfl, rfl⟩)]; exact and_congr (house_p hc hx ht) Iff.rfl)
theorem sim_house {a w : Int} (hR : Rel k M) (ha : inR a) (hw : inR w) : Sim m_RingDater_house m_Model_house [.inl a, .inl w] k M ∨ SimX m_RingDater_house m_Model_house [.inl a, .inl w] k 0 1 M := by
  obtain ⟨n, T, Y, lap, bnd, mrg, hc, hm, hx⟩ := hR
  have n3 : (M 76 3).toNat = n := by have := hc.2.1.1; omega
  by_cases c : (0 ≤ a ∧ a ≤ 3) ∧ 0 ≤ w ∧ w ≤ 3
  · left
    obtain ⟨ca, cw⟩ := c
    rcases (show w = 0 ∨ w = 1 ∨ w = 2 ∨ w = 3 by omega) with rfl | rfl | rfl | rfl
    · have e : fBit (fun t => M (tmA M 76 t) 5 = a) n = hsM M a n := fBit_congr (fun t ht => by rw [(cls_tm hc ht).1, (relX_row hx ht).2.2])
      have A := RingDater_house_0 hc ca
      rw [n3, e] at A
      exact sim_q0 hc hm hx (fBit_in _ _) A (Mhouse_0 hm ca)
    · have A := RingDater_house_1 hc ca
      rw [n3, edM_eq hc hx] at A
      have b := mx_in hm (fun t => Y t ≠ -1 ∧ M 158 (30 * t + 3) = a)
      exact sim_q0 hc hm hx (by unfold edM; exact ⟨by omega, by omega⟩) A (Mhouse_1 hm ca)
    · have A := RingDater_house_2 hc ca
      rw [n3, ruM_eq hc hx] at A
      have e : fMinF (fun t => (yrA M 76 t ≠ -1 ∧ M (tmA M 76 t) 5 = a) ∧ btI (ruM M T Y a n) t = false) (felA M 76 4) n = fMinF (fun t => (Y t ≠ -1 ∧ M 158 (30 * t + 3) = a) ∧ btI (ruM M T Y a n) t = false) (felS T Y (fun t => M 158 (30 * t + 2))) n := fMinF_congr (fun t ht => and_congr (house_p hc hx ht) Iff.rfl) (fun t ht => felA_m hc hx FrP.rf ht (Or.inr ⟨rfl, rfl⟩))
      rw [e] at A
      have b := mn_in hm (fun t => (Y t ≠ -1 ∧ M 158 (30 * t + 3) = a) ∧ btI (ruM M T Y a n) t = false)
      exact sim_q0 hc hm hx ⟨by omega, by omega⟩ A (Mhouse_2 hm ca)
    · have A := RingDater_house_3 hc ca
      rw [n3, ruM_eq hc hx] at A
      exact sim_q0 hc hm hx (fBit_in _ _) A (Mhouse_3 hm ca)
  · right
    exact sim_x0 hc hm hx (RingDater_house_x ha hw (by omega)) (Mhouse_x ha hw (by omega))
theorem vDou_bit {t : Nat} {r : Int} (hc : cls M n T Y lap bnd mrg) (hm : mdl M n T Y lap bnd mrg) (ht : t < n) (hr : 0 ≤ r ∧ r < (T t).2.1) : vDou M (82 + 3 * t) r = bAnd (bShr (M 158 (30 * t + 5)) r) 1 := by
  obtain ⟨-, -, w, e, o, -⟩ := cls_tm hc ht
  have o1 := o.1
  have b := bit_testI (M 158 (30 * t + 5)) (k := r) (by omega) (by omega)
  have d := dbt_m hm ht (i := r.toNat) (by omega)
  rw [b]
  have e2 : M (82 + 3 * t) 2 = (T t).2.1 := by rw [← e]; rfl
  have e3 : (T t).2.2 r.toNat = M (82 + 3 * t + 2) r.toNat := by
    rw [← e]
    show (if ((r.toNat : Nat) : Int) < M (82 + 3 * t) 2 then M (82 + 3 * t + 2) r.toNat else 0) = _
    rw [if_pos (by omega)]
  have z := w.2.2.1 r.toNat (by omega)
  unfold vDou
  rw [if_pos (by omega)]
  rw [e3] at d
  by_cases q : btI (M 158 (30 * t + 5)) r.toNat = true
  · rw [if_pos q]
    have := d.mp q
    omega
  · rw [if_neg q]
    by_cases z0 : M (82 + 3 * t + 2) r.toNat = 0
    · exact z0
    · exact absurd (d.mpr z0) q
theorem sim_ring {t r w : Int} (hR : Rel k M) (ht : inR t) (hr : inR r) (hw : inR w) : Sim m_RingDater_ring m_Model_ring [.inl t, .inl r, .inl w] k M ∨ SimX m_RingDater_ring m_Model_ring [.inl t, .inl r, .inl w] k 0 1 M := by
  obtain ⟨n, T, Y, lap, bnd, mrg, hc, hm, hx⟩ := hR
  by_cases c : ¬ (0 ≤ t ∧ t < n) ∨ ¬ (0 ≤ r ∧ r < (T t.toNat).2.1) ∨ w < 0 ∨ 3 < w ∨ (w = 2 ∧ r = 0)
  · right
    exact sim_x0 hc hm hx (RingDater_ring_x hc ht hr hw c) (Mring_x hm ht hr hw c)
  · left
    obtain ⟨u, rfl⟩ : ∃ u : Nat, t = u := ⟨t.toNat, by omega⟩
    have hu : u < n := by omega
    rw [natT] at c
    have hr2 : 0 ≤ r ∧ r < (T u).2.1 := by omega
    have ok := (mdl_t hm hu).2.2.2.1
    have b1 := okT_N (r := r) ok
    rcases (show w = 0 ∨ w = 1 ∨ w = 2 ∨ w = 3 by omega) with rfl | rfl | rfl | rfl
    · exact sim_q0 hc hm hx ⟨by omega, by omega⟩ (RingDater_ring_0 hc hu hr2) (Mring_0 hm hu hr2)
    · have A := RingDater_ring_1 hc hu hr2
      rw [vDou_bit hc hm hu hr2] at A
      exact sim_q0 hc hm hx (bAnd_in _ _) A (Mring_1 hm hu hr2)
    · have vi := vCmp_in (sN (T u) r) (sN (T u) (r - 1))
      exact sim_q0 hc hm hx ⟨by omega, by omega⟩ (RingDater_ring_2 hc hu hr2 (by omega)) (Mring_2 hm hu hr2 (by omega))
    · have vi := sRank_in (T u) r
      exact sim_q hm hx ⟨by omega, by omega⟩ (RingDater_ring_3 hc hu hr2) (fun M1 f hm1 => Mring_3 hm1 hu hr2)
theorem ix_eq {y : Int} (h : okC T Y n) : (if (cSpan T Y (-1) n).1 = -1 ∨ y < (cSpan T Y (-1) n).1 ∨ (cSpan T Y (-1) n).2 < y ∨ sN (chr T Y (-1) n) (y - (cSpan T Y (-1) n).1) = 0 then -1 else sN (chr T Y (-1) n) (y - (cSpan T Y (-1) n).1)) = ixM T Y (-1) n y := by
  obtain ⟨sp, sq⟩ := cSpan_in (wo := -1) h
  have cn := cNum_in (wo := -1) (y := y) h
  have el : cLen T Y (-1) n = if (cSpan T Y (-1) n).1 = -1 then 0 else (cSpan T Y (-1) n).2 - (cSpan T Y (-1) n).1 + 1 := rfl
  by_cases c : (cSpan T Y (-1) n).1 = -1 ∨ y < (cSpan T Y (-1) n).1 ∨ (cSpan T Y (-1) n).2 < y
  · have d0 : cDep T Y (-1) n y = 0 := by
      have key : ∀ m, m ≤ n → cDep T Y (-1) m y = 0 := by
        intro m
        induction m with
        | zero => intro _; rfl
        | succ m ih =>
          intro hmn
          rw [cDep_succ, ih (by omega), if_neg]
          · rfl
          · rintro ⟨z1, z2, z3, z4⟩
            obtain ⟨q1, q2, q3⟩ := sq m (by omega) z1 z2
            rcases c with c | c | c
            · exact q1 c
            · omega
            · omega
      exact key n (Nat.le_refl _)
    have e : cNum T Y (-1) n y = 0 := cn.2.2.mpr (by omega)
    rw [if_pos (by rcases c with c | c | c; exact Or.inl c; exact Or.inr (Or.inl c); exact Or.inr (Or.inr (Or.inl c)))]
    unfold ixM
    rw [if_pos e]
  · rw [if_neg (by omega)] at el
    have e : sN (chr T Y (-1) n) (y - (cSpan T Y (-1) n).1) = cNum T Y (-1) n y := by
      rw [chr_N (by omega) (by omega)]
      congr 1
      omega
    rw [e]
    unfold ixM
    exact if_cg (by omega) rfl rfl
theorem sim_index {y : Int} (hR : Rel k M) (hy : inR y) : Sim m_RingDater_index m_Model_index [.inl y] k M := by
  obtain ⟨n, T, Y, lap, bnd, mrg, hc, hm, hx⟩ := hR
  have A := RingDater_index_ok hc hy
  rw [ix_eq hm.2.2.2] at A
  have cn := cNum_in (wo := -1) (y := y) hm.2.2.2
  exact sim_q hm hx (by unfold ixM; split <;> exact ⟨by omega, by omega⟩) A (fun M1 f hm1 => Mindex_ok hm1 hy)
theorem sim_depth {y : Int} (hR : Rel k M) (hy : inR y) : Sim m_RingDater_depth m_Model_depth [.inl y] k M := by
  obtain ⟨n, T, Y, lap, bnd, mrg, hc, hm, hx⟩ := hR
  have n8 := hm.1.2
  have b := sumN_01 (f := fun t => if Y t ≠ -1 ∧ Y t ≤ y ∧ y < Y t + (T t).2.1 then 1 else 0) (fun j => by split <;> omega) n
  exact sim_q0 hc hm hx (by show inR (sumN _ n); exact ⟨by omega, by omega⟩) (RingDater_depth_ok hc hy) (Mdepth_ok hm hy)
theorem isPy_ex (T : Nat → Rw) (Y : Nat → Int) (n : Nat) (i : Int) : ∃ y, isPy T Y n i y ∧ -1 ≤ y ∧ y ≤ 999 := by
  by_cases c : ∃ y : Nat, y < 1000 ∧ ptr T Y y n ≠ 0 ∧ cntP T Y n y = i
  · obtain ⟨y, c1, c2, c3⟩ := c
    exact ⟨y, Or.inl ⟨y, c1, c2, c3, rfl⟩, by omega, by omega⟩
  · exact ⟨-1, Or.inr ⟨rfl, fun y h1 h2 h3 => c ⟨y, h1, h2, h3⟩⟩, by omega, by omega⟩
theorem sim_pointer {i w : Int} (hR : Rel k M) (hi : inR i) (hw : inR w) : Sim m_RingDater_pointer m_Model_pointer [.inl i, .inl w] k M ∨ SimX m_RingDater_pointer m_Model_pointer [.inl i, .inl w] k 0 1 M := by
  obtain ⟨n, T, Y, lap, bnd, mrg, hc, hm, hx⟩ := hR
  obtain ⟨y, hy, hy2⟩ := isPy_ex T Y n i
  by_cases c : (w = 0 ∨ w = 1) ∧ y ≠ -1
  · left
    have pv := ptr_v T Y y n
    exact sim_q hm hx (by split <;> exact ⟨by omega, by omega⟩) (RingDater_pointer_ok hc hi c.1 hy c.2) (fun M1 f hm1 => Mpointer_ok hm1 hi c.1 hy c.2)
  · right
    have c' : w < 0 ∨ 1 < w ∨ isPy T Y n i (-1) := by
      by_cases cw : w = 0 ∨ w = 1
      · have e : y = -1 := by
          by_cases e : y = -1
          · exact e
          · exact absurd ⟨cw, e⟩ c
        rw [e] at hy
        exact Or.inr (Or.inr hy)
      · omega
    exact sim_x hm hx (RingDater_pointer_x hc hi hw c') (fun M1 f hm1 => Mpointer_x hm1 hi hw c')
theorem sldV_in {A B : Rw} (hA : 0 ≤ A.2.1 ∧ A.2.1 ≤ 924) (x w : Int) : inR (sldV A B x w) := by
  have p := slP_in (B := B) (s := x) hA
  obtain ⟨s1, s2, s3⟩ := slS_in A B x
  unfold sldV
  split
  · exact ⟨by omega, by omega⟩
  · split
    · exact ⟨by omega, by omega⟩
    · split
      · exact ⟨by omega, by omega⟩
      · split <;> exact ⟨by omega, by omega⟩
theorem sim_slid {t a x w : Int} (hR : Rel k M) (ht : inR t) (ha : inR a) (hx' : inR x) (hw : inR w) : Sim m_RingDater_slid m_Model_slid [.inl t, .inl a, .inl x, .inl w] k M ∨ SimX m_RingDater_slid m_Model_slid [.inl t, .inl a, .inl x, .inl w] k 0 1 M ∨ SimX m_RingDater_slid m_Model_slid [.inl t, .inl a, .inl x, .inl w] k 1 2 M := by
  obtain ⟨n, T, Y, lap, bnd, mrg, hc, hm, hx⟩ := hR
  by_cases c : ¬ (0 ≤ t ∧ t < n) ∨ ¬ (0 ≤ a ∧ a < n) ∨ w < 0 ∨ 3 < w
  · exact Or.inr (Or.inl (sim_x0 hc hm hx (RingDater_slid_x0 hc ht ha hw c) (Mslid_x hm ht ha hw c)))
  · obtain ⟨u, rfl⟩ : ∃ u : Nat, t = u := ⟨t.toNat, by omega⟩
    obtain ⟨b, rfl⟩ : ∃ b : Nat, a = b := ⟨a.toNat, by omega⟩
    have hu : u < n := by omega
    have hb : b < n := by omega
    by_cases e : u = b
    · subst e
      exact Or.inr (Or.inr (sim_x0 hc hm hx (RingDater_slid_x1 hc hu (by omega)) (Mslid_y hm (by omega) (by omega))))
    · have ob := (mdl_t hm hb).2.2.2.1.1
      exact Or.inl (sim_q hm hx (sldV_in (by omega) _ _) (RingDater_slid_ok hc hu hb e hx' (by omega)) (fun M1 f hm1 => Mslid_ok hm1 hu hb e hx' (by omega)))
theorem bstV_in {x : Bst} (hx : okB x) (bnd mrg w : Int) : inR (bstV x bnd mrg w) := by
  have wi := why_in x bnd mrg
  obtain ⟨o1, o2, o3, o4⟩ := hx
  unfold bstV
  split
  · exact ⟨by omega, by omega⟩
  · split
    · exact ⟨by omega, by omega⟩
    · rename_i c
      obtain ⟨p1, p2, p3, p4⟩ := o3 c
      split
      · exact ⟨by omega, by omega⟩
      · split
        · exact ⟨by omega, by omega⟩
        · split <;> exact ⟨by omega, by omega⟩
theorem sim_best {t a w : Int} (hR : Rel k M) (ht : inR t) (ha : inR a) (hw : inR w) : Sim m_RingDater_best m_Model_best [.inl t, .inl a, .inl w] k M ∨ SimX m_RingDater_best m_Model_best [.inl t, .inl a, .inl w] k 0 1 M ∨ SimX m_RingDater_best m_Model_best [.inl t, .inl a, .inl w] k 1 2 M := by
  obtain ⟨n, T, Y, lap, bnd, mrg, hc, hm, hx⟩ := hR
  by_cases c : ¬ (0 ≤ t ∧ t < n) ∨ (a ≠ -1 ∧ ¬ (0 ≤ a ∧ a < n)) ∨ w < 0 ∨ 4 < w
  · exact Or.inr (Or.inl (sim_x0 hc hm hx (RingDater_best_x0 hc ht ha hw c) (Mbest_x hm ht ha hw c)))
  · obtain ⟨u, rfl⟩ : ∃ u : Nat, t = u := ⟨t.toNat, by omega⟩
    have hu : u < n := by omega
    by_cases ea : a = -1
    · subst ea
      exact Or.inl (sim_q hm hx (bstV_in (bestO_ok hm.2.2.2 hu) _ _ _) (RingDater_best_ok hc hu (by omega)) (fun M1 f hm1 => Mbest_ok hm1 hu (by omega)))
    · obtain ⟨b, rfl⟩ : ∃ b : Nat, a = b := ⟨a.toNat, by omega⟩
      have hb : b < n := by omega
      by_cases e : u = b
      · subst e
        exact Or.inr (Or.inr (sim_x0 hc hm hx (RingDater_best_x1 hc hu (by omega)) (Mbest_y hm (by omega) (by omega))))
      · have ob := (mdl_t hm hb).2.2.2.1.1
        have ou := (mdl_t hm hu).2.2.2.1.1
        exact Or.inl (sim_q hm hx (bstV_in (okB_best (by omega) (by omega)) _ _ _) (RingDater_bestOn_ok hc hu hb e (by omega)) (fun M1 f hm1 => MbestOn_ok hm1 hu hb e (by omega)))
theorem sim_link {i w : Int} (hR : Rel k M) (hi : inR i) (hw : inR w) : Sim m_RingDater_link m_Model_link [.inl i, .inl w] k M ∨ SimX m_RingDater_link m_Model_link [.inl i, .inl w] k 0 1 M := by
  obtain ⟨n, T, Y, lap, bnd, mrg, hc, hm, hx⟩ := hR
  have lr := (lks_R (lap := lap) (bnd := bnd) (mrg := mrg) hm.1.2 (fun t ht => (hm.2.2.2.2 t ht).1) n (Nat.le_refl _)).1
  by_cases c : w < 0 ∨ 4 < w ∨ i < 0 ∨ (lks T lap bnd mrg n n).1 ≤ i
  · exact Or.inr (sim_x hm hx (RingDater_link_x hc hi hw c) (fun M1 f hm1 => Mlink_x hm1 hi hw c))
  · refine Or.inl (sim_q hm hx ?_ (RingDater_link_ok hc (by omega) (by omega)) (fun M1 f hm1 => Mlink_ok hm1 (by omega) (by omega)))
    obtain ⟨r0, r1, r2, r3⟩ := lr.2 i.toNat (by omega)
    split
    · unfold pcT
      split <;> exact ⟨by omega, by omega⟩
    · rcases (show w = 0 ∨ w = 1 ∨ w = 2 ∨ w = 3 by omega) with rfl | rfl | rfl | rfl
      · exact (⟨by omega, by omega⟩ : inR ((lks T lap bnd mrg n n).2 0 i.toNat))
      · exact (⟨by omega, by omega⟩ : inR ((lks T lap bnd mrg n n).2 1 i.toNat))
      · exact (⟨by omega, by omega⟩ : inR ((lks T lap bnd mrg n n).2 2 i.toNat))
      · exact (⟨by omega, by omega⟩ : inR ((lks T lap bnd mrg n n).2 3 i.toNat))
theorem sim_grown {i w : Int} (hR : Rel k M) (hi : inR i) (hw : inR w) : Sim m_RingDater_grown m_Model_grown [.inl i, .inl w] k M ∨ SimX m_RingDater_grown m_Model_grown [.inl i, .inl w] k 0 1 M := by
  obtain ⟨n, T, Y, lap, bnd, mrg, hc, hm, hx⟩ := hR
  have n8 := hm.1.2
  obtain ⟨c, hcn, gc⟩ := gwC_ex (lap := lap) (bnd := bnd) (mrg := mrg) hm.2.2.2
  by_cases cc : w < 0 ∨ 2 < w ∨ i < 0 ∨ c ≤ i
  · exact Or.inr (sim_x hm hx (RingDater_grown_x hc gc hi hw cc) (fun M1 f hm1 => Mgrown_x hm1 gc hi hw cc))
  · refine Or.inl (sim_q hm hx ?_ (RingDater_grown_ok hc gc (by omega) (by omega)) (fun M1 f hm1 => Mgrown_ok hm1 gc (by omega) (by omega)))
    have g := gwP_in hm.2.2.2 gc (i := i.toNat) (by omega)
    split
    · exact ⟨by omega, by omega⟩
    · split <;> exact ⟨by omega, by omega⟩
theorem sim_help {t w : Int} (hR : Rel k M) (ht : inR t) (hw : inR w) : Sim m_RingDater_help m_Model_help [.inl t, .inl w] k M ∨ SimX m_RingDater_help m_Model_help [.inl t, .inl w] k 0 1 M ∨ SimX m_RingDater_help m_Model_help [.inl t, .inl w] k 1 2 M := by
  obtain ⟨n, T, Y, lap, bnd, mrg, hc, hm, hx⟩ := hR
  by_cases c : ¬ (0 ≤ t ∧ t < n) ∨ w < 0 ∨ 1 < w
  · exact Or.inr (Or.inl (sim_x0 hc hm hx (RingDater_help_x0 hc ht hw c) (Mhelp_x hm ht hw c)))
  · obtain ⟨u, rfl⟩ : ∃ u : Nat, t = u := ⟨t.toNat, by omega⟩
    have hu : u < n := by omega
    by_cases cY : Y u = -1
    · have ok := (mdl_t hm hu).2.2.2.1
      have hi := (hlp_in (lap := lap) ok (chr_R (wo := -1) hm.2.2.2).2).2 (T u).2.1.toNat (by have := ok.1; omega)
      exact Or.inl (sim_q hm hx (by split <;> exact ⟨by omega, by omega⟩) (RingDater_help_ok hc hu cY (by omega)) (fun M1 f hm1 => Mhelp_ok hm1 hu cY (by omega)))
    · exact Or.inr (Or.inr (sim_x0 hc hm hx (RingDater_help_x1 hc hu (by omega) cY) (Mhelp_y hm hu cY (by omega))))
theorem sim_chance {t s m w : Int} (hR : Rel k M) (ht : inR t) (hmi : inR m) (hw : inR w) : Sim m_RingDater_chance m_Model_chance [.inl t, .inl s, .inl m, .inl w] k M ∨ SimX m_RingDater_chance m_Model_chance [.inl t, .inl s, .inl m, .inl w] k 0 1 M ∨ SimX m_RingDater_chance m_Model_chance [.inl t, .inl s, .inl m, .inl w] k 1 2 M := by
  obtain ⟨n, T, Y, lap, bnd, mrg, hc, hm, hx⟩ := hR
  by_cases c : ¬ (0 ≤ t ∧ t < n) ∨ w < 0 ∨ 2 < w
  · exact Or.inr (Or.inl (sim_x0 hc hm hx (RingDater_chance_x0 hc ht hw c) (Mchance_x hm ht hw c)))
  · obtain ⟨u, rfl⟩ : ∃ u : Nat, t = u := ⟨t.toNat, by omega⟩
    have hu : u < n := by omega
    by_cases cm : m < 0 ∨ 40 < m
    · exact Or.inr (Or.inr (sim_x0 hc hm hx (RingDater_chance_x1 hc hu (by omega) hmi cm) (Mchance_y hm (by omega) hmi (by omega) cm)))
    · obtain ⟨q, rfl⟩ : ∃ q : Nat, m = q := ⟨m.toNat, by omega⟩
      have ok := (mdl_t hm hu).2.2.2.1
      have hi := chc_in (own := scF (best (chr T Y (-1) n) (T u) lap)) (lap := lap) (seed := s) (chr_R (wo := -1) hm.2.2.2).2 ok.1 q
      refine Or.inl (sim_q hm hx ?_ (RingDater_chance_ok hc hu (by omega) (by omega)) (fun M1 f hm1 => Mchance_ok hm1 hu (by omega) (by omega)))
      split
      · exact ⟨by omega, by omega⟩
      · split <;> exact ⟨by omega, by omega⟩
theorem ntM_fr {m : Nat} {N Z : Nat → Int} (h : ntM M n m N Z) (f : FrP scrF M M1) : ntM M1 n m N Z := by
  obtain ⟨h1, h2, h3⟩ := h
  refine ⟨(f _ _ (by unfold scrF; omega)).trans h1, h2, fun i hi => ?_⟩
  rw [f 182 _ (by unfold scrF; omega), f 183 _ (by unfold scrF; omega)]
  exact h3 i hi
theorem sim_fits {w : Int} (hR : Rel k M) (hw : inR w) : Sim m_RingDater_fits m_Model_fits [.inl w] k M ∨ SimX m_RingDater_fits m_Model_fits [.inl w] k 0 1 M := by
  obtain ⟨n, T, Y, lap, bnd, mrg, hc, hm, hx⟩ := hR
  by_cases c : w = 0 ∨ w = 1
  · obtain ⟨-, ⟨m, N, Z, x1, x2⟩, -⟩ := id hx
    obtain ⟨d, -, gc⟩ := gwC_ex (lap := lap) (bnd := 50) (mrg := mrg) hm.2.2.2
    have hi := ftN_in (gwP T lap 50 mrg n Y) Y d m N Z 51
    exact Or.inl (sim_q hm hx (by split <;> exact ⟨by omega, by omega⟩) (RingDater_fits_ok hc x1 gc c) (fun M1 f hm1 => Mfits_ok hm1 (ntM_fr x2 f) gc c))
  · exact Or.inr (sim_x0 hc hm hx (RingDater_fits_x hw (by omega)) (Mfits_x hw (by omega)))
theorem lokN_in {V : Nat → Int} (hV : ∀ t, 0 ≤ V t ∧ V t ≤ 2) : ∀ k : Nat, (-1 ≤ (lokN V k).1 ∧ (lokN V k).1 < k) ∧ (0 ≤ (lokN V k).2 ∧ (lokN V k).2 ≤ 2)
  | 0 => ⟨⟨show (-1 : Int) ≤ -1 by omega, show (-1 : Int) < 0 by omega⟩, ⟨show (0 : Int) ≤ 0 by omega, show (0 : Int) ≤ 2 by omega⟩⟩
  | k + 1 => by
    have ih := lokN_in hV k
    have := hV k
    rw [show lokN V (k + 1) = if (lokN V k).2 < V k then ((k : Int), V k) else lokN V k from rfl]
    split
    · simp only; omega
    · omega
theorem sim_look {w : Int} (hR : Rel k M) (hw : inR w) : Sim m_RingDater_look m_Model_look [.inl w] k M ∨ SimX m_RingDater_look m_Model_look [.inl w] k 0 1 M := by
  obtain ⟨n, T, Y, lap, bnd, mrg, hc, hm, hx⟩ := hR
  have n8 := hm.1.2
  by_cases c : w = 0 ∨ w = 1
  · obtain ⟨-, ⟨m, N, Z, x1, x2⟩, -⟩ := id hx
    obtain ⟨d, -, gc⟩ := gwC_ex (lap := lap) (bnd := 50) (mrg := mrg) hm.2.2.2
    have hi := lokN_in (V := fun t => (unN (gwP T lap 50 mrg n Y) Y d m N Z t 51).1 + (unN (gwP T lap 50 mrg n Y) Y d m N Z t 51).2) (fun t => by have := unN_in (gwP T lap 50 mrg n Y) Y d m N Z t 51; omega) n
    exact Or.inl (sim_q hm hx (by split <;> exact ⟨by omega, by omega⟩) (RingDater_look_ok hc x1 gc c) (fun M1 f hm1 => Mlook_ok hm1 (ntM_fr x2 f) gc c))
  · exact Or.inr (sim_x0 hc hm hx (RingDater_look_x hw (by omega)) (Mlook_x hw (by omega)))
theorem sim_fault (hR : Rel k M) : Sim m_RingDater_fault m_Model_fault [] k M := by
  obtain ⟨n, T, Y, lap, bnd, mrg, hc, hm, hx⟩ := hR
  obtain ⟨-, -, -, -, ⟨x1, x2, x3⟩, -⟩ := id hx
  refine sim_q0 (v := M 1 3) hc hm hx ⟨by omega, by omega⟩ RingDater_fault_ok (Mfault_ok.mono (fun y M' z => ?_))
  obtain ⟨z1, rfl⟩ := z
  exact ⟨z1.trans x1.symm, rsM_0⟩
end SIM2
