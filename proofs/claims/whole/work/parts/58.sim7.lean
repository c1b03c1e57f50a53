/-! THE CALLS, 7: undo, note, forget, image, restore, feed. -/
section SIM7
variable {k n : Nat} {T : Nat → Rw} {Y : Nat → Int} {lap bnd mrg : Int} {M M1 M2 M3 : Mm}
def ntR (M : Mm) (n : Nat) : Prop := ∃ m N Z, nts M n m N Z ∧ ntM M n m N Z
theorem nt_mv (h : ntR M n) (e : ∀ b j, (111 ≤ b ∧ b ≤ 113 ∨ b = 182 ∨ b = 183 ∨ b = 154 ∧ j = 60) → M2 b j = M b j) : ntR M2 n := by
  obtain ⟨m, N, Z, ⟨q1, q2, q3⟩, r1, r2, r3⟩ := h
  refine ⟨m, N, Z, ⟨(e _ _ (by omega)).trans q1, q2, fun i hi => ?_⟩, (e _ _ (by omega)).trans r1, r2, fun i hi => ?_⟩
  · rw [e 112 _ (by omega), e 113 _ (by omega)]; exact q3 i hi
  · rw [e 182 _ (by omega), e 183 _ (by omega)]; exact r3 i hi
def ctR (M : Mm) (k : Nat) : Prop := ∀ j, j < 3 → M 114 j = M 160 j ∧ (0 ≤ M 114 j ∧ M 114 j ≤ k)
theorem ct_mv {k2 : Nat} (h : ctR M k) (hk : k ≤ k2) (e : ∀ b j, (b = 114 ∨ b = 160) → M2 b j = M b j) : ctR M2 k2 := by
  intro j hj
  rw [e 114 _ (by omega), e 160 _ (by omega)]
  obtain ⟨q1, q2, q3⟩ := h j hj
  exact ⟨q1, q2, by omega⟩
def tpR (M : Mm) : Prop := ∃ L : Nat, (M 1 2 = L ∧ M 154 8 = L ∧ L ≤ 900) ∧ (∀ j, j < L → M 2 j = M 161 j) ∧ ∀ j, 0 ≤ M 2 j ∧ M 2 j ≤ 255
theorem tp_mv (h : tpR M) (e : ∀ b j, (b = 1 ∧ j = 2 ∨ b = 154 ∧ j = 8 ∨ b = 2 ∨ b = 161) → M2 b j = M b j) : tpR M2 := by
  obtain ⟨L, ⟨h1, h2, h3⟩, h4, h5⟩ := h
  refine ⟨L, ⟨(e _ _ (by omega)).trans h1, (e _ _ (by omega)).trans h2, h3⟩, fun j hj => ?_, fun j => ?_⟩
  · rw [e 2 _ (by omega), e 161 _ (by omega)]; exact h4 j hj
  · rw [e 2 _ (by omega)]; exact h5 j
def faR (M : Mm) : Prop := M 1 3 = M 154 17 ∧ -1 ≤ M 1 3 ∧ M 1 3 ≤ 900
theorem fa_mv (h : faR M) (e : ∀ b j, (b = 1 ∧ j = 3 ∨ b = 154 ∧ j = 17) → M2 b j = M b j) : faR M2 := by
  unfold faR
  rw [e 1 3 (by omega), e 154 17 (by omega)]
  exact h
def ldR (M : Mm) (n : Nat) : Prop := ∃ a, M 154 58 = (a : Nat) ∧ ledR M 106 n a (M 181) (M 158)
theorem ld_mv (h : ldR M n) (e : ∀ b j, (106 ≤ b ∧ b ≤ 110 ∨ b = 181 ∨ b = 158 ∨ b = 154 ∧ j = 58) → M2 b j = M b j) : ldR M2 n := by
  obtain ⟨a, h1, h2⟩ := h
  have f8 : M2 158 = M 158 := funext (fun j => e _ _ (by omega))
  have f1 : M2 181 = M 181 := funext (fun j => e _ _ (by omega))
  refine ⟨a, (e _ _ (by omega)).trans h1, ?_⟩
  rw [f8, f1]
  exact ledR_mono (fun q hq j => e _ _ (by omega)) h2
def imR (M : Mm) (k n : Nat) (lap bnd mrg : Int) : Prop := M 154 69 = M 0 14 ∧ (M 0 14 = 1 → imgR M k n lap bnd mrg)
theorem im_mv {k2 : Nat} (h : imR M k n lap bnd mrg) (n8 : n ≤ 8) (hk : k ≤ k2) (e : ∀ b j, (b = 0 ∧ j = 14 ∨ b = 154 ∧ (j = 69 ∨ j = 70 ∨ j = 71) ∨ 115 ≤ b ∧ b < 154 ∨ 186 ≤ b ∧ b ≤ 190) → M2 b j = M b j) : imR M2 k2 n lap bnd mrg := by
  obtain ⟨h1, h2⟩ := h
  refine ⟨?_, fun z => ?_⟩
  · rw [e 154 69 (by omega), e 0 14 (by omega)]; exact h1
  · rw [e 0 14 (by omega)] at z
    exact imgR_fr n8 hk (fun b hb j => e b j (by omega)) (e _ _ (by omega)) (e _ _ (by omega)) (h2 z)
theorem relX_mk (h1 : rowR M 76 (M 158) n) (h2 : ntR M n) (h3 : ctR M k) (h4 : tpR M) (h5 : faR M) (h6 : ldR M n) (h7 : relG M) (h8 : imR M k n lap bnd mrg) : relX M k n lap bnd mrg := ⟨h1, h2, h3, h4, h5, h6, h7, h8⟩
theorem relX_of (h : relX M k n lap bnd mrg) : rowR M 76 (M 158) n ∧ ntR M n ∧ ctR M k ∧ tpR M ∧ faR M ∧ ldR M n ∧ relG M ∧ imR M k n lap bnd mrg := h
theorem row_mv {s s2 : Nat} (n8 : n ≤ 8) (h : rowR M 76 (M 158) n) (e : ∀ b j, (81 ≤ b ∧ b < 106 ∨ b = 158) → M2 b j = M b j) : rowR M2 76 (M2 158) n := by
  have f8 : M2 158 = M 158 := funext (fun j => e _ _ (by omega))
  rw [f8]
  exact rowR_fr n8 (fun b p1 p2 j => e b j (by omega)) h
/-- void calls -/
abbrev SimV (mA mB : Nat) (as : List AV) (k : Nat) (M : Mm) : Prop := CallV mA (.inr 0 :: as) M (fun M1 => CallV mB (.inr 154 :: as) M1 (fun M2 => M2 154 1 = 0 ∧ Rel (k + 1) M2))
theorem sim_undo (hR : Rel k M) : Sim m_RingDater_undo m_Model_undo [] k M := by
  obtain ⟨n, T, Y, lap, bnd, mrg, hc, hm, hx⟩ := hR
  obtain ⟨x1, x2, x3, x4, x5, ⟨a, x6, x6'⟩, x7, x8⟩ := relX_of hx
  have n8 := hm.1.2
  have lw := fun {i} => ledR_at x6' (i := i)
  obtain ⟨l1, l2, l3, l4⟩ := x6'
  by_cases a0 : a = 0
  · subst a0
    exact sim_q0 (v := -1) hc hm hx ⟨by omega, by omega⟩ (RingDater_undo_no (by omega)) ((Mundo_no (by omega)).mono (fun y M2 w => ⟨w.1, by rw [w.2]; exact rsM_0⟩))
  · obtain ⟨b, rfl⟩ : ∃ b, a = b + 1 := ⟨a - 1, by omega⟩
    obtain ⟨hu, hw⟩ := l4 b (by omega)
    have e1 : pAt (M 181) (M 158) (b + 1) (b + 1) = M 158 := if_pos rfl
    have e2 : pAt (M 181) (M 158) (b + 1) b = fun j => M 181 (240 * b + j) := if_neg (by omega)
    rw [e1] at hu
    rw [e2] at hu hw
    obtain ⟨⟨u1, u2, u3, -⟩, -⟩ := hu
    refine (RingDater_undo_ok (k := b) hc.1.1.1 (by omega) (by omega) rfl rfl rfl rfl u1 u2 u3).eq ⟨⟨by omega, by omega⟩, ?_⟩
    obtain ⟨hu, -⟩ := l4 b (by omega)
    rw [e1, e2] at hu
    have c0 : cls (mset M 106 4 b) n T Y lap bnd mrg := cls_out hc (fun q p1 p2 j => mset_ne _ (by omega) _)
    have r0 : rowR (mset M 106 4 b) 76 (M 158) n := rowR_fr n8 (fun q p1 p2 j => mset_ne _ (by omega) _) x1
    have E1 : ∀ q j, (q < 76 ∨ 106 ≤ q) → ¬ (q = 106 ∧ j = 4) → mTkB (mset M 106 4 b) (M 107 b) (M 108 b) (M 109 b) (M 110 b) q j = M q j := fun q j z1 z2 => (mTkB_out q j c0.1.1.1 z1).trans (if_neg z2)
    have E4 : mTkB (mset M 106 4 b) (M 107 b) (M 108 b) (M 109 b) (M 110 b) 106 4 = b := (mTkB_out 106 4 c0.1.1.1 (by omega)).trans (if_pos ⟨rfl, rfl⟩)
    have TK := fun g => tkb_row (kd := M 107 b) (sb := M 108 b) (rg := M 109 b) (bf := M 110 b) (g := g) c0 n8 r0 l3
    generalize hM1 : mTkB (mset M 106 4 b) (M 107 b) (M 108 b) (M 109 b) (M 110 b) = M1 at *
    refine (Mundo_ok (k := b) (M := M1) ((E1 _ _ (by omega) (by omega)).trans (by omega)) (by omega)).eq ⟨rfl, ?_⟩
    have E2 : ∀ q j, q ≠ 158 → ¬ (q = 154 ∧ (j = 1 ∨ j = 58)) → mUnM (c0M M1) b q j = M1 q j := fun q j z1 z2 => (mUnI_o z1).trans ((if_neg (by omega)).trans (if_neg (by omega)))
    have E58 : mUnM (c0M M1) b 154 58 = b := (mUnI_o (by omega)).trans (if_pos ⟨rfl, rfl⟩)
    have E01 : mUnM (c0M M1) b 154 1 = 0 := (mUnI_o (by omega)).trans ((if_neg (by omega)).trans (if_pos ⟨rfl, rfl⟩))
    have eg : eq24 (mUnM (c0M M1) b 158) (fun j => M 181 (240 * b + j)) := by
      intro j hj
      refine (if_pos ⟨rfl, hj⟩).trans ?_
      refine ((if_neg (by omega)).trans (if_neg (by omega))).trans ?_
      exact E1 _ _ (by omega) (by omega)
    generalize mUnM (c0M M1) b = MB at *
    have hu' := unR_eq (fun j _ => rfl) eg n8 l3 hw hu
    have hg := rowW_eq eg n8 hw
    obtain ⟨t1, t2, t3⟩ := TK (MB 158) hu' hg
    have cA := cls_of (MA := M1) hc (fun q j p1 p2 => E1 q j (by omega) (by omega)) (fun j p1 p2 => (t3 j p1 p2).trans (mset_ne _ (by omega) _)) t2 t1 hg
    have E3 : ∀ q j, ¬ (76 ≤ q ∧ q < 107) → q ≠ 158 → ¬ (q = 154 ∧ (j = 1 ∨ j = 58)) → MB q j = M q j := fun q j z1 z2 z3 => (E2 q j z2 z3).trans (E1 q j (by omega) (by omega))
    refine ⟨E01, n, stT M1 76, fun t => M1 81 t, lap, bnd, mrg, cls_out cA (fun q p1 p2 j => E2 _ _ (by omega) (by omega)), mdl_of hm (fun j => E3 _ _ (by omega) (by omega) (by omega)) rfl t1 hg, ?_⟩
    refine relX_mk (rowR_fr n8 (fun q p1 p2 j => E2 _ _ (by omega) (by omega)) t1) (nt_mv x2 (fun q j z => E3 _ _ (by omega) (by omega) (by omega))) (ct_mv x3 (by omega) (fun q j z => E3 _ _ (by omega) (by omega) (by omega))) (tp_mv x4 (fun q j z => E3 _ _ (by omega) (by omega) (by omega))) (fa_mv x5 (fun q j z => E3 _ _ (by omega) (by omega) (by omega))) ?_ (relG_mv x7 (fun q j z => E3 _ _ (by omega) (by omega) (by omega))) (im_mv x8 n8 (by omega) (fun q j z => E3 _ _ (by omega) (by omega) (by omega)))
    have f1 : MB 181 = M 181 := funext (fun j => E3 _ _ (by omega) (by omega) (by omega))
    have eq2 : ∀ i, i ≤ b → eq24 (pAt (MB 181) (MB 158) b i) (pAt (M 181) (M 158) (b + 1) i) := by
      intro i hi j hj
      show (if i = b then MB 158 else fun j => MB 181 (240 * i + j)) j = (if i = b + 1 then M 158 else fun j => M 181 (240 * i + j)) j
      rw [if_neg (show ¬ i = b + 1 by omega)]
      by_cases ci : i = b
      · rw [if_pos ci, ci]
        exact eg j hj
      · rw [if_neg ci, f1]
    refine ⟨b, E58, (E2 _ _ (by omega) (by omega)).trans E4, by omega, hg, fun i hi => ?_⟩
    obtain ⟨o1, o2⟩ := l4 i (by omega)
    rw [E3 (106 + 1) _ (by omega) (by omega) (by omega), E3 (106 + 2) _ (by omega) (by omega) (by omega), E3 (106 + 3) _ (by omega) (by omega) (by omega), E3 (106 + 4) _ (by omega) (by omega) (by omega)]
    exact ⟨unR_eq (eq2 (i + 1) (by omega)) (eq2 i (by omega)) n8 (lw (by omega)) o2 o1, rowW_eq (eq2 i (by omega)) n8 o2⟩
theorem sim_note {t y : Int} (hR : Rel k M) (ht : inR t) (hy : inR y) : Sim m_RingDater_note m_Model_note [.inl t, .inl y] k M := by
  obtain ⟨n, T, Y, lap, bnd, mrg, hc, hm, hx⟩ := hR
  obtain ⟨x1, ⟨m, N, Z, ⟨q1, q2, q3⟩, r1, r2, r3⟩, x3, x4, x5, x6, x7, x8⟩ := relX_of hx
  have n8 := hm.1.2
  by_cases c : m = 8 ∨ ¬ (0 ≤ t ∧ t < n) ∨ y < -1 ∨ 900 < y
  · refine (RingDater_note_no hc ht hy q1 q2 c).eq ⟨⟨by omega, by omega⟩, ?_⟩
    have hm1 := mdl_fr hm (fr_ref (M1 := M) (q := 2)) (fun b j z => by omega)
    refine (Mnote_no hm1 ht hy ((fr_ref (M1 := M) (q := 2) _ _ (by omega)).trans r1) r2 c).eq ⟨rfl, ?_⟩
    exact ref_rel (by omega) hc hm hx hc FrP.rf rs_ref
  · obtain ⟨u, rfl⟩ : ∃ u : Nat, t = u := ⟨t.toNat, by omega⟩
    have hu : u < n := by omega
    refine (RingDater_note_ok hc hu q1 (by omega) (by omega)).eq ⟨⟨by omega, by omega⟩, ?_⟩
    have E1 : ∀ b j, (b < 111 ∨ 113 < b) → mset (mset (mset M 112 m u) 113 m y) 111 2 (m + 1) b j = M b j := fun b j z => (if_neg (by omega)).trans ((if_neg (by omega)).trans (if_neg (by omega)))
    have A1 : mset (mset (mset M 112 m u) 113 m y) 111 2 ((m : Int) + 1) 111 2 = (m : Int) + 1 := if_pos ⟨rfl, rfl⟩
    have A2 : ∀ i, mset (mset (mset M 112 m u) 113 m y) 111 2 ((m : Int) + 1) 112 i = if i = m then (u : Int) else M 112 i := fun i => by simp [mset]
    have A3 : ∀ i, mset (mset (mset M 112 m u) 113 m y) 111 2 ((m : Int) + 1) 113 i = if i = m then y else M 113 i := fun i => by simp [mset]
    generalize mset (mset (mset M 112 m u) 113 m y) 111 2 ((m : Int) + 1) = M1 at *
    have hm1 := mdl_fr hm (P := fun b j => 111 ≤ b ∧ b ≤ 113) (M1 := M1) (fun b j z => E1 b j (by omega)) (fun b j z => by omega)
    refine (Mnote_ok hm1 hu ((E1 _ _ (by omega)).trans r1) (by omega) (by omega)).eq ⟨rfl, ?_⟩
    have E2 : ∀ b j, b ≠ 182 → b ≠ 183 → ¬ (b = 154 ∧ (j = 1 ∨ j = 60)) → mset (mset (mset (c0M M1) 182 m u) 183 m y) 154 60 (m + 1) b j = M1 b j := fun b j z1 z2 z3 => (if_neg (by omega)).trans ((if_neg (by omega)).trans ((if_neg (by omega)).trans (if_neg (by omega))))
    have B0 : mset (mset (mset (c0M M1) 182 m u) 183 m y) 154 60 ((m : Int) + 1) 154 1 = 0 := by simp [mset]
    have B1 : mset (mset (mset (c0M M1) 182 m u) 183 m y) 154 60 ((m : Int) + 1) 154 60 = (m : Int) + 1 := if_pos ⟨rfl, rfl⟩
    have B2 : ∀ i, mset (mset (mset (c0M M1) 182 m u) 183 m y) 154 60 ((m : Int) + 1) 182 i = if i = m then (u : Int) else M1 182 i := fun i => by simp [mset]
    have B3 : ∀ i, mset (mset (mset (c0M M1) 182 m u) 183 m y) 154 60 ((m : Int) + 1) 183 i = if i = m then y else M1 183 i := fun i => by simp [mset]
    generalize mset (mset (mset (c0M M1) 182 m u) 183 m y) 154 60 ((m : Int) + 1) = MB at *
    have E3 : ∀ b j, ¬ (111 ≤ b ∧ b ≤ 113) → b ≠ 182 → b ≠ 183 → ¬ (b = 154 ∧ (j = 1 ∨ j = 60)) → MB b j = M b j := fun b j z1 z2 z3 z4 => (E2 b j z2 z3 z4).trans (E1 b j (by omega))
    refine ⟨B0, n, T, Y, lap, bnd, mrg, cls_out hc (fun b p1 p2 j => E3 _ _ (by omega) (by omega) (by omega) (by omega)), mdl_fr hm (P := fun b j => 111 ≤ b ∧ b ≤ 113 ∨ b = 182 ∨ b = 183 ∨ b = 154) (fun b j z => E3 b j (by omega) (by omega) (by omega) (by omega)) (fun b j z => by omega), ?_⟩
    refine relX_mk (row_mv (s := 0) (s2 := 0) n8 x1 (fun b j z => E3 _ _ (by omega) (by omega) (by omega) (by omega))) ?_ (ct_mv x3 (by omega) (fun q j z => E3 _ _ (by omega) (by omega) (by omega) (by omega))) (tp_mv x4 (fun q j z => E3 _ _ (by omega) (by omega) (by omega) (by omega))) (fa_mv x5 (fun q j z => E3 _ _ (by omega) (by omega) (by omega) (by omega))) (ld_mv x6 (fun q j z => E3 _ _ (by omega) (by omega) (by omega) (by omega))) (relG_mv x7 (fun q j z => E3 _ _ (by omega) (by omega) (by omega) (by omega))) (im_mv x8 n8 (by omega) (fun q j z => E3 _ _ (by omega) (by omega) (by omega) (by omega)))
    refine ⟨m + 1, fun i => if i = m then (u : Int) else N i, fun i => if i = m then y else Z i, ⟨(E2 _ _ (by omega) (by omega) (by omega)).trans (A1.trans (by omega)), by omega, fun i hi => ?_⟩, B1.trans (by omega), by omega, fun i hi => ?_⟩
    · rw [E2 112 _ (by omega) (by omega) (by omega), E2 113 _ (by omega) (by omega) (by omega), A2, A3]
      by_cases ci : i = m
      · simp only [ci, if_true]
        refine ⟨⟨?_, ?_⟩, ?_, ?_⟩ <;> first | trivial | rfl | omega
      · simp only [ci, if_false]
        exact q3 i (by omega)
    · rw [B2, B3, E1 182 _ (by omega), E1 183 _ (by omega)]
      by_cases ci : i = m
      · simp only [ci, if_true]
        refine ⟨⟨?_, ?_⟩, ?_, ?_⟩ <;> first | trivial | rfl | omega
      · simp only [ci, if_false]
        exact r3 i (by omega)
theorem sim_forget (hR : Rel k M) : SimV m_RingDater_forget m_Model_forget [] k M := by
  obtain ⟨n, T, Y, lap, bnd, mrg, hc, hm, hx⟩ := hR
  obtain ⟨x1, ⟨m, N, Z, ⟨q1, q2, q3⟩, r1, r2, r3⟩, x3, x4, x5, x6, x7, x8⟩ := relX_of hx
  have n8 := hm.1.2
  refine RingDater_forget_ok.eq ?_
  refine Mforget_ok.eq ?_
  have E3 : ∀ b j, ¬ (b = 111 ∧ j = 2) → ¬ (b = 154 ∧ (j = 1 ∨ j = 60)) → mset (c0M (mset M 111 2 0)) 154 60 0 b j = M b j := fun b j z1 z2 => (if_neg (by omega)).trans ((if_neg (by omega)).trans (if_neg (by omega)))
  have B0 : mset (c0M (mset M 111 2 0)) 154 60 0 154 1 = 0 := by simp [mset]
  have B1 : mset (c0M (mset M 111 2 0)) 154 60 0 154 60 = 0 := by simp [mset]
  have B2 : mset (c0M (mset M 111 2 0)) 154 60 0 111 2 = 0 := by simp [mset]
  generalize mset (c0M (mset M 111 2 0)) 154 60 0 = MB at *
  refine ⟨B0, n, T, Y, lap, bnd, mrg, cls_out hc (fun b p1 p2 j => E3 _ _ (by omega) (by omega)), mdl_fr hm (P := fun b j => b = 111 ∨ b = 154) (fun b j z => E3 b j (by omega) (by omega)) (fun b j z => by omega), ?_⟩
  exact relX_mk (row_mv (s := 0) (s2 := 0) n8 x1 (fun b j z => E3 _ _ (by omega) (by omega))) ⟨0, N, Z, ⟨B2, by omega, fun i hi => absurd hi (Nat.not_lt_zero i)⟩, B1, by omega, fun i hi => absurd hi (Nat.not_lt_zero i)⟩ (ct_mv x3 (by omega) (fun q j z => E3 _ _ (by omega) (by omega))) (tp_mv x4 (fun q j z => E3 _ _ (by omega) (by omega))) (fa_mv x5 (fun q j z => E3 _ _ (by omega) (by omega))) (ld_mv x6 (fun q j z => E3 _ _ (by omega) (by omega))) (relG_mv x7 (fun q j z => E3 _ _ (by omega) (by omega))) (im_mv x8 n8 (by omega) (fun q j z => E3 _ _ (by omega) (by omega)))
theorem bAnd_255 (x : Int) : 0 ≤ bAnd x 255 ∧ bAnd x 255 ≤ 255 := by
  unfold bAnd
  have h := pk_and (iN x) (m := iN 255) 8 (by decide)
  rw [h]
  have h2 : (iN x).toBitVec.toNat % 2 ^ 8 < 2 ^ 8 := Nat.mod_lt _ (by decide)
  rw [nI_toInt (by omega)]
  omega
theorem b20_in (a b c d e : Int) (j : Nat) : 0 ≤ b20 a b c d e j ∧ b20 a b c d e j ≤ 255 := by
  unfold b20 b4N
  exact bAnd_255 _
theorem sim_feed {a b c d e : Int} (hR : Rel k M) : Sim m_RingDater_feed m_Model_feed [.inl a, .inl b, .inl c, .inl d, .inl e] k M := by
  obtain ⟨n, T, Y, lap, bnd, mrg, hc, hm, hx⟩ := hR
  obtain ⟨x1, x2, x3, ⟨L, ⟨y1, y2, y3⟩, y4, y5⟩, x5, x6, x7, x8⟩ := relX_of hx
  have n8 := hm.1.2
  by_cases h : L + 20 ≤ 900
  · refine (RingDater_feed_ok y1 h).eq ⟨⟨by omega, by omega⟩, ?_⟩
    have E1 : ∀ q j, q ≠ 2 → ¬ (q = 1 ∧ j = 2) → mFeed M L (b20 a b c d e) q j = M q j := fun q j z1 z2 => (if_neg (by omega)).trans (if_neg z2)
    have A1 : mFeed M L (b20 a b c d e) 1 2 = (L + 20 : Nat) := (if_neg (by omega)).trans (if_pos ⟨rfl, rfl⟩)
    have A2 : ∀ j, mFeed M L (b20 a b c d e) 2 j = if L ≤ j ∧ j < L + 20 then b20 a b c d e (j - L) else M 2 j := fun j => by
      show (if 2 = 2 ∧ L ≤ j ∧ j < L + 20 then b20 a b c d e (j - L) else if 2 = 1 ∧ j = 2 then ((L + 20 : Nat) : Int) else M 2 j) = _
      rw [if_neg (show ¬ (2 = 1 ∧ j = 2) by omega)]
      exact if_cg (by omega) rfl rfl
    generalize mFeed M L (b20 a b c d e) = M1 at *
    refine (Mfeed_ok ((E1 _ _ (by omega) (by omega)).trans y2) h).eq ⟨rfl, ?_⟩
    have E2 : ∀ q j, q ≠ 161 → ¬ (q = 154 ∧ (j = 1 ∨ j = 8)) → mFeedM (c0M M1) L (b20 a b c d e) 20 q j = M1 q j := fun q j z1 z2 => (if_neg (by omega)).trans ((if_neg (by omega)).trans (if_neg (by omega)))
    have B0 : mFeedM (c0M M1) L (b20 a b c d e) 20 154 1 = 0 := (if_neg (by omega)).trans ((if_neg (by omega)).trans (if_pos ⟨rfl, rfl⟩))
    have B1 : mFeedM (c0M M1) L (b20 a b c d e) 20 154 8 = (L + 20 : Nat) := (if_neg (by omega)).trans (if_pos ⟨rfl, rfl⟩)
    have B2 : ∀ j, mFeedM (c0M M1) L (b20 a b c d e) 20 161 j = if L ≤ j ∧ j < L + 20 then b20 a b c d e (j - L) else M1 161 j := fun j => by
      show (if 161 = 161 ∧ L ≤ j ∧ j < L + 20 then b20 a b c d e (j - L) else if 161 = 154 ∧ j = 8 then ((L + 20 : Nat) : Int) else c0M M1 161 j) = _
      rw [if_neg (show ¬ (161 = 154 ∧ j = 8) by omega), show c0M M1 161 j = M1 161 j from if_neg (by omega)]
      exact if_cg (by omega) rfl rfl
    generalize mFeedM (c0M M1) L (b20 a b c d e) 20 = MB at *
    have E3 : ∀ q j, q ≠ 2 → ¬ (q = 1 ∧ j = 2) → q ≠ 161 → ¬ (q = 154 ∧ (j = 1 ∨ j = 8)) → MB q j = M q j := fun q j z1 z2 z3 z4 => (E2 q j z3 z4).trans (E1 q j z1 z2)
    refine ⟨B0, n, T, Y, lap, bnd, mrg, cls_out hc (fun b p1 p2 j => E3 _ _ (by omega) (by omega) (by omega) (by omega)), mdl_fr hm (P := fun b j => b = 2 ∨ b = 1 ∨ b = 161 ∨ b = 154) (fun b j z => E3 b j (by omega) (by omega) (by omega) (by omega)) (fun b j z => by omega), ?_⟩
    refine relX_mk (row_mv (s := 0) (s2 := 0) n8 x1 (fun b j z => E3 _ _ (by omega) (by omega) (by omega) (by omega))) (nt_mv x2 (fun q j z => E3 _ _ (by omega) (by omega) (by omega) (by omega))) (ct_mv x3 (by omega) (fun q j z => E3 _ _ (by omega) (by omega) (by omega) (by omega))) ⟨L + 20, ⟨(E2 _ _ (by omega) (by omega)).trans A1, B1, by omega⟩, fun j hj => ?_, fun j => ?_⟩ (fa_mv x5 (fun q j z => E3 _ _ (by omega) (by omega) (by omega) (by omega))) (ld_mv x6 (fun q j z => E3 _ _ (by omega) (by omega) (by omega) (by omega))) (relG_mv x7 (fun q j z => E3 _ _ (by omega) (by omega) (by omega) (by omega))) (im_mv x8 n8 (by omega) (fun q j z => E3 _ _ (by omega) (by omega) (by omega) (by omega)))
    · rw [E2 2 _ (by omega) (by omega), A2, B2, E1 161 _ (by omega) (by omega)]
      split
      · rfl
      · exact y4 j (by omega)
    · rw [E2 2 _ (by omega) (by omega), A2]
      split
      · exact b20_in _ _ _ _ _ _
      · exact y5 j
  · exact sim_q0 (v := -1) hc hm hx ⟨by omega, by omega⟩ (RingDater_feed_no y1 h y3) ((Mfeed_no y2 h y3).mono (fun y M2 w => ⟨w.1, by rw [w.2]; exact rsM_0⟩))
theorem rowR_st {s f : Nat} {p q : Nat → Int} (hs : stEq M1 s M f) (hw : wfS M f) (hr : rowR M f p n) (he : eq24 q p) (n8 : n ≤ 8) (hp : rowW p n) : rowR M1 s q n := by
  obtain ⟨s1, s2, -⟩ := hs
  intro t ht
  obtain ⟨r1, r2, r3, r4, r5⟩ := hr t ht
  have te := s1 t (by omega)
  have W := hw.2.2.2.2.1 t (by omega)
  obtain ⟨-, -, -, t4, t5, t6⟩ := id te
  refine ⟨?_, ?_, ?_, ?_, ?_⟩
  · rw [tmEq_rw te W, vT_eq he (by omega) (hp t ht).1.1.2]; exact r1
  · rw [s2 t (by omega)]
    unfold vY at *
    rw [he _ (by omega)]; exact r2
  · rw [t4, he _ (by omega)]; exact r3
  · rw [t5, he _ (by omega)]; exact r4
  · rw [t6]
    unfold vH at *
    rw [he _ (by omega)]; exact r5
theorem ledR_cp {l g a : Nat} {p p' f f' : Nat → Int} (h : ledR M g n a p f) (e : ldEq M1 l M g) (n8 : n ≤ 8) (ef : eq24 f' f) (ep : ∀ j, j < 9600 → p' j = p j) : ledR M1 l n a p' f' := by
  have lw := fun {i} => ledR_at h (i := i)
  obtain ⟨h1, h2, h3, h4⟩ := h
  obtain ⟨e1, e2⟩ := e
  have eq2 : ∀ i, i ≤ a → eq24 (pAt p' f' a i) (pAt p f a i) := by
    intro i hi j hj
    unfold pAt
    by_cases c : i = a
    · rw [if_pos c, if_pos c]; exact ef j hj
    · rw [if_neg c, if_neg c]; exact ep _ (by omega)
  refine ⟨e1.trans h1, h2, rowW_eq ef n8 h3, fun i hi => ?_⟩
  obtain ⟨o1, o2⟩ := h4 i hi
  rw [e2 1 (by omega) (by omega) i (by omega), e2 2 (by omega) (by omega) i (by omega), e2 3 (by omega) (by omega) i (by omega), e2 4 (by omega) (by omega) i (by omega)]
  exact ⟨unR_eq (eq2 (i + 1) (by omega)) (eq2 i (by omega)) n8 (lw (by omega)) o2 o1, rowW_eq (eq2 i (by omega)) n8 o2⟩
theorem mImg_o {b j : Nat} (h : ¬ (186 ≤ b ∧ b ≤ 190)) (h2 : ¬ (b = 154 ∧ (j = 69 ∨ j = 70 ∨ j = 71))) : mImg M b j = M b j := by
  unfold mImg
  rw [mCpR_out (by omega), mCpR_out (by omega), mCpR_out (by omega), mCpR_out (by omega), mCpR_out (by omega)]
  exact (if_neg (by omega)).trans ((if_neg (by omega)).trans (if_neg (by omega)))
theorem mImg_f : mImg M 154 69 = 1 ∧ mImg M 154 70 = M 154 58 ∧ mImg M 154 71 = M 154 60 := by
  unfold mImg
  refine ⟨?_, ?_, ?_⟩ <;> rw [mCpR_out (by omega), mCpR_out (by omega), mCpR_out (by omega), mCpR_out (by omega), mCpR_out (by omega)] <;> simp [mset]
theorem mImg_r : eq24 (mImg M 186) (M 158) ∧ (∀ j, j < 9600 → mImg M 187 j = M 181 j) ∧ (∀ j, j < 8 → mImg M 188 j = M 182 j ∧ mImg M 189 j = M 183 j) ∧ ∀ j, j < 3 → mImg M 190 j = M 160 j := by
  have e0 : ∀ b j, b ≠ 154 → mset (mset (mset M 154 69 1) 154 70 (M 154 58)) 154 71 (M 154 60) b j = M b j := fun b j z => (if_neg (by omega)).trans ((if_neg (by omega)).trans (if_neg (by omega)))
  unfold mImg
  generalize mset (mset (mset M 154 69 1) 154 70 (M 154 58)) 154 71 (M 154 60) = X at *
  refine ⟨fun j hj => ?_, fun j hj => ?_, fun j hj => ⟨?_, ?_⟩, fun j hj => ?_⟩
  · rw [mCpR_out (by omega), mCpR_out (by omega), mCpR_out (by omega), mCpR_out (by omega), mCpR_in hj]; exact e0 _ _ (by omega)
  · rw [mCpR_out (by omega), mCpR_out (by omega), mCpR_out (by omega), mCpR_in hj, mCpR_out (by omega)]; exact e0 _ _ (by omega)
  · rw [mCpR_out (by omega), mCpR_out (by omega), mCpR_in hj, mCpR_out (by omega), mCpR_out (by omega)]; exact e0 _ _ (by omega)
  · rw [mCpR_out (by omega), mCpR_in hj, mCpR_out (by omega), mCpR_out (by omega), mCpR_out (by omega)]; exact e0 _ _ (by omega)
  · rw [mCpR_in hj, mCpR_out (by omega), mCpR_out (by omega), mCpR_out (by omega), mCpR_out (by omega)]; exact e0 _ _ (by omega)
theorem mRst_o {b j : Nat} (h : b ≠ 158 ∧ b ≠ 160 ∧ ¬ (181 ≤ b ∧ b ≤ 183)) (h2 : ¬ (b = 154 ∧ (j = 58 ∨ j = 60))) : mRst M b j = M b j := by
  unfold mRst
  rw [mCpR_out (by omega), mCpR_out (by omega), mCpR_out (by omega), mCpR_out (by omega), mCpR_out (by omega)]
  exact (if_neg (by omega)).trans (if_neg (by omega))
theorem mRst_f : mRst M 154 58 = M 154 70 ∧ mRst M 154 60 = M 154 71 := by
  unfold mRst
  refine ⟨?_, ?_⟩ <;> rw [mCpR_out (by omega), mCpR_out (by omega), mCpR_out (by omega), mCpR_out (by omega), mCpR_out (by omega)] <;> simp [mset]
theorem mRst_r : eq24 (mRst M 158) (M 186) ∧ (∀ j, j < 9600 → mRst M 181 j = M 187 j) ∧ (∀ j, j < 8 → mRst M 182 j = M 188 j ∧ mRst M 183 j = M 189 j) ∧ ∀ j, j < 3 → mRst M 160 j = M 190 j := by
  have e0 : ∀ b j, b ≠ 154 → mset (mset M 154 58 (M 154 70)) 154 60 (M 154 71) b j = M b j := fun b j z => (if_neg (by omega)).trans (if_neg (by omega))
  unfold mRst
  generalize mset (mset M 154 58 (M 154 70)) 154 60 (M 154 71) = X at *
  refine ⟨fun j hj => ?_, fun j hj => ?_, fun j hj => ⟨?_, ?_⟩, fun j hj => ?_⟩
  · rw [mCpR_out (by omega), mCpR_out (by omega), mCpR_out (by omega), mCpR_out (by omega), mCpR_in hj]; exact e0 _ _ (by omega)
  · rw [mCpR_out (by omega), mCpR_out (by omega), mCpR_out (by omega), mCpR_in hj, mCpR_out (by omega)]; exact e0 _ _ (by omega)
  · rw [mCpR_out (by omega), mCpR_out (by omega), mCpR_in hj, mCpR_out (by omega), mCpR_out (by omega)]; exact e0 _ _ (by omega)
  · rw [mCpR_out (by omega), mCpR_in hj, mCpR_out (by omega), mCpR_out (by omega), mCpR_out (by omega)]; exact e0 _ _ (by omega)
  · rw [mCpR_in hj, mCpR_out (by omega), mCpR_out (by omega), mCpR_out (by omega), mCpR_out (by omega)]; exact e0 _ _ (by omega)
theorem sim_image (hR : Rel k M) : SimV m_RingDater_image m_Model_image [] k M := by
  obtain ⟨n, T, Y, lap, bnd, mrg, hc, hm, hx⟩ := hR
  obtain ⟨x1, ⟨m, N, Z, ⟨q1, q2, q3⟩, r1, r2, r3⟩, x3, x4, x5, ⟨a, x6, x6'⟩, x7, x8⟩ := relX_of hx
  have n8 := hm.1.2
  have hw := hc.1.1.1
  obtain ⟨-, ⟨c1, -⟩, -, c4, c5, c6, -⟩ := id hc
  refine (RingDater_image_ok hw).mono (fun M1 z => ?_)
  obtain ⟨z1, z2, z3, z4, z5, z6, z7⟩ := z
  have F : ∀ b j, ¬ (115 ≤ b ∧ b < 154) → ¬ (b = 0 ∧ j = 14) → M1 b j = M b j := fun b j w1 w2 => z7 b j (by omega)
  refine Mimage_ok.eq ?_
  have P : ∀ b j, b ≠ 154 → c0M M1 b j = M1 b j := fun b j h => mset_ne _ h _
  have P1 : c0M M1 154 1 = 0 := if_pos ⟨rfl, rfl⟩
  have P2 : ∀ j, j ≠ 1 → c0M M1 154 j = M1 154 j := fun j h => if_neg (by omega)
  generalize c0M M1 = M2 at *
  have E1 : ∀ b j, ¬ (186 ≤ b ∧ b ≤ 190) → ¬ (b = 154 ∧ (j = 69 ∨ j = 70 ∨ j = 71)) → mImg M2 b j = M2 b j := fun b j w1 w2 => mImg_o w1 w2
  obtain ⟨f1, f2, f3⟩ := mImg_f (M := M2)
  obtain ⟨g1, g2, g3, g4⟩ := mImg_r (M := M2)
  generalize mImg M2 = MB at *
  have E2 : ∀ b j, b < 154 → MB b j = M1 b j := fun b j w => (E1 b j (by omega) (by omega)).trans (P b j (by omega))
  have E3 : ∀ b j, ¬ (115 ≤ b ∧ b < 154) → ¬ (b = 0 ∧ j = 14) → ¬ (186 ≤ b ∧ b ≤ 190) → ¬ (b = 154 ∧ (j = 1 ∨ j = 69 ∨ j = 70 ∨ j = 71)) → MB b j = M b j := fun b j w1 w2 w3 w4 => by
    rw [E1 b j w3 (by omega)]
    by_cases c : b = 154
    · subst c
      rw [P2 j (by omega)]; exact F _ _ (by omega) (by omega)
    · rw [P b j c]; exact F _ _ w1 w2
  have w117 : wfT M1 (115 + 2) := wfT_cells (fun b p1 p2 j => z6 b (by omega) (by omega) j) x7.2.1
  have w115 : wfS M1 115 := stEq_wf z1 hw w117
  obtain ⟨-, -, y3, y4, y5, y6⟩ := id z1
  have e158 : ∀ j, M2 158 j = M 158 j := fun j => (P _ _ (by omega)).trans (F _ _ (by omega) (by omega))
  have eI : eq24 (MB 186) (M 158) := fun j hj => (g1 j hj).trans (e158 j)
  have rI := rowR_st z1 hw x1 eI n8 (row_w hx)
  have lI : ledR M1 145 n a (MB 187) (MB 186) := ledR_cp x6' z2 n8 eI (fun j hj => by rw [g2 j hj, P _ _ (by omega)]; exact F _ _ (by omega) (by omega))
  refine ⟨(E1 _ _ (by omega) (by omega)).trans P1, n, T, Y, lap, bnd, mrg, cls_out hc (fun b p1 p2 j => E3 _ _ (by omega) (by omega) (by omega) (by omega)), mdl_fr hm (P := fun b j => ¬ (b = 156 ∨ b = 158)) (fun b j z => E3 b j (by omega) (by omega) (by omega) (by omega)) (fun b j z => by omega), ?_⟩
  refine relX_mk (row_mv (s := 0) (s2 := 0) n8 x1 (fun b j z => E3 _ _ (by omega) (by omega) (by omega) (by omega))) (nt_mv ⟨m, N, Z, ⟨q1, q2, q3⟩, r1, r2, r3⟩ (fun q j z => E3 _ _ (by omega) (by omega) (by omega) (by omega))) (ct_mv x3 (by omega) (fun q j z => E3 _ _ (by omega) (by omega) (by omega) (by omega))) (tp_mv x4 (fun q j z => E3 _ _ (by omega) (by omega) (by omega) (by omega))) (fa_mv x5 (fun q j z => E3 _ _ (by omega) (by omega) (by omega) (by omega))) (ld_mv ⟨a, x6, x6'⟩ (fun q j z => E3 _ _ (by omega) (by omega) (by omega) (by omega))) ?_ ⟨?_, fun _ => ?_⟩
  · obtain ⟨k1, k2, k3, k4, k5⟩ := x7
    have e14 : MB 0 14 = 1 := (E2 _ _ (by omega)).trans z5
    exact ⟨Or.inr e14, wfT_cells (fun b p1 p2 j => E2 b j (by omega)) w117, wfT_cells (fun b p1 p2 j => E3 b j (by omega) (by omega) (by omega) (by omega)) k3, fun t ht => wfT_cells (fun b p1 p2 j => E3 b j (by omega) (by omega) (by omega) (by omega)) (k4 t ht), fun t ht => by rw [E3 8 t (by omega) (by omega) (by omega) (by omega)]; exact k5 t ht⟩
  · rw [f1]; exact ((E2 _ _ (by omega)).trans z5).symm
  · refine ⟨wfS_cells (fun b p1 p2 j => E2 b j (by omega)) w115, ?_, rowR_fr n8 (fun b p1 p2 j => E2 b j (by omega)) rI, ⟨a, ?_, ledR_mono (fun q hq j => E2 _ _ (by omega)) lI⟩, ⟨m, ?_, ?_, q2, fun i hi => ?_⟩, fun j hj => ?_⟩
    · rw [E2 _ _ (by omega), E2 _ _ (by omega), E2 _ _ (by omega), E2 _ _ (by omega), y3, y4, y5, y6]
      exact ⟨c1, c5.1, c4.1, c6.1⟩
    · rw [f2, P2 _ (by omega), F _ _ (by omega) (by omega)]; exact x6
    · rw [E2 _ _ (by omega), z3.1]; exact q1
    · rw [f3, P2 _ (by omega), F _ _ (by omega) (by omega)]; exact r1
    · obtain ⟨⟨a1, a2⟩, a3, a4⟩ := q3 i hi
      obtain ⟨⟨b1, b2⟩, -⟩ := r3 i hi
      have o1 := z3.2 1 (by omega) (by omega) i (by omega)
      have o2 := z3.2 2 (by omega) (by omega) i (by omega)
      obtain ⟨o3, o4⟩ := g3 i (by omega)
      rw [P _ _ (by omega), F _ _ (by omega) (by omega)] at o3 o4
      rw [E2 151 _ (by omega), E2 152 _ (by omega), show M1 151 i = M 112 i from o1, show M1 152 i = M 113 i from o2, o3, o4, a1, a2, b1, b2]
      exact ⟨⟨rfl, rfl⟩, a3, a4⟩
    · obtain ⟨a1, a2, a3⟩ := x3 j hj
      rw [E2 153 _ (by omega), z4 j hj, g4 j hj, P _ _ (by omega), F _ _ (by omega) (by omega)]
      exact ⟨a1, a2, by omega⟩
theorem sim_restore (hR : Rel k M) : Sim m_RingDater_restore m_Model_restore [] k M := by
  obtain ⟨n, T, Y, lap, bnd, mrg, hc, hm, hx⟩ := hR
  obtain ⟨x1, x2, x3, x4, x5, x6, x7, x8, x9⟩ := relX_of hx
  have n8 := hm.1.2
  rcases x7.1 with h0 | h1
  · exact sim_q0 (v := 0) hc hm hx inR_0 (RingDater_restore_no h0) ((Mrestore_no (x8.trans h0)).mono (fun y M2 w => ⟨w.1, by rw [w.2]; exact rsM_0⟩))
  · obtain ⟨i1, ⟨i2, i3, i4, i5⟩, i6, ⟨a, i7, i8⟩, ⟨m, m1, m2, m3, m4⟩, i9⟩ := x9 h1
    obtain ⟨-, ⟨c1, -⟩, -, c4, c5, c6, -⟩ := id hc
    refine (RingDater_restore_ok h1 i1).mono (fun x M1 z => ?_)
    obtain ⟨rfl, z1, z2, z3, z4, z6, z7⟩ := z
    refine ⟨⟨by omega, by omega⟩, ?_⟩
    have F : ∀ b j, ¬ (76 ≤ b ∧ b < 115) → M1 b j = M b j := fun b j w1 => z7 b j w1
    refine (Mrestore_ok ((F _ _ (by omega)).trans (x8.trans h1))).eq ⟨rfl, ?_⟩
    have P : ∀ b j, b ≠ 154 → c0M M1 b j = M1 b j := fun b j h => mset_ne _ h _
    have P1 : c0M M1 154 1 = 0 := if_pos ⟨rfl, rfl⟩
    have P2 : ∀ j, j ≠ 1 → c0M M1 154 j = M1 154 j := fun j h => if_neg (by omega)
    generalize c0M M1 = M2 at *
    have E1 : ∀ b j, (b ≠ 158 ∧ b ≠ 160 ∧ ¬ (181 ≤ b ∧ b ≤ 183)) → ¬ (b = 154 ∧ (j = 58 ∨ j = 60)) → mRst M2 b j = M2 b j := fun b j w1 w2 => mRst_o w1 w2
    obtain ⟨f2, f3⟩ := mRst_f (M := M2)
    obtain ⟨g1, g2, g3, g4⟩ := mRst_r (M := M2)
    generalize mRst M2 = MB at *
    have E2 : ∀ b j, b < 154 → MB b j = M1 b j := fun b j w => (E1 b j (by omega) (by omega)).trans (P b j (by omega))
    have E3 : ∀ b j, ¬ (76 ≤ b ∧ b < 115) → b ≠ 158 → b ≠ 160 → ¬ (181 ≤ b ∧ b ≤ 183) → ¬ (b = 154 ∧ (j = 1 ∨ j = 58 ∨ j = 60)) → MB b j = M b j := fun b j w1 w2 w3 w4 w5 => by
      rw [E1 b j ⟨w2, w3, w4⟩ (by omega)]
      by_cases c : b = 154
      · subst c
        rw [P2 j (by omega)]; exact F _ _ (by omega)
      · rw [P b j c]; exact F _ _ w1
    have w78 : wfT M1 (76 + 2) := wfT_cells (fun b p1 p2 j => z6 b (by omega) (by omega) j) hc.1.1.1.2.2.2.2.2.1
    have w76 : wfS M1 76 := stEq_wf z1 i1 w78
    obtain ⟨-, -, y3, y4, y5, y6⟩ := id z1
    have e186 : ∀ j, M2 186 j = M 186 j := fun j => (P _ _ (by omega)).trans (F _ _ (by omega))
    have eI : eq24 (MB 158) (M 186) := fun j hj => (g1 j hj).trans (e186 j)
    have wI : rowW (M 186) n := i8.2.2.1
    have rI := rowR_st z1 i1 i6 eI n8 wI
    have hg := rowW_eq eI n8 wI
    have lI : ledR M1 106 n a (MB 181) (MB 158) := ledR_cp i8 z2 n8 eI (fun j hj => by rw [g2 j hj, P _ _ (by omega)]; exact F _ _ (by omega))
    have cA := cls_of (MA := M1) hc (fun q j p1 p2 => F q j (by omega)) (fun j p1 p2 => by
      rcases (show j = 3 ∨ j = 4 ∨ j = 5 ∨ j = 6 by omega) with rfl | rfl | rfl | rfl
      · rw [y3, i2, c1]
      · rw [y4, i3, c5.1]
      · rw [y5, i4, c4.1]
      · rw [y6, i5, c6.1]) w76 rI hg
    refine ⟨(E1 _ _ (by omega) (by omega)).trans P1, n, stT M1 76, fun t => M1 81 t, lap, bnd, mrg, cls_out cA (fun q p1 p2 j => E2 _ _ (by omega)), mdl_of hm (fun j => E3 _ _ (by omega) (by omega) (by omega) (by omega) (by omega)) rfl rI hg, ?_⟩
    refine relX_mk (rowR_fr n8 (fun q p1 p2 j => E2 _ _ (by omega)) rI) ?_ (fun j hj => ?_) (tp_mv x4 (fun q j z => E3 _ _ (by omega) (by omega) (by omega) (by omega) (by omega))) (fa_mv x5 (fun q j z => E3 _ _ (by omega) (by omega) (by omega) (by omega) (by omega))) ⟨a, ?_, ledR_mono (fun q hq j => E2 _ _ (by omega)) lI⟩ (relG_mv x7 (fun q j z => E3 _ _ (by omega) (by omega) (by omega) (by omega) (by omega))) (im_mv ⟨x8, x9⟩ n8 (by omega) (fun q j z => E3 _ _ (by omega) (by omega) (by omega) (by omega) (by omega)))
    · refine ⟨m, fun i => M 151 i, fun i => M 152 i, ⟨?_, m3, fun i hi => ?_⟩, ?_, m3, fun i hi => ?_⟩
      · rw [E2 _ _ (by omega), z3.1]; exact m1
      · have o1 := z3.2 1 (by omega) (by omega) i (by omega)
        have o2 := z3.2 2 (by omega) (by omega) i (by omega)
        rw [E2 112 _ (by omega), E2 113 _ (by omega)]
        exact ⟨⟨o1, o2⟩, (m4 i hi).2⟩
      · rw [f3, P2 _ (by omega), F _ _ (by omega)]; exact m2
      · obtain ⟨o3, o4⟩ := g3 i (by omega)
        rw [P _ _ (by omega), F _ _ (by omega)] at o3 o4
        obtain ⟨⟨b1, b2⟩, b3⟩ := m4 i hi
        rw [o3, o4]
        exact ⟨⟨b1.symm, b2.symm⟩, b3⟩
    · obtain ⟨a1, a2, a3⟩ := i9 j hj
      rw [E2 114 _ (by omega), z4 j hj, g4 j hj, P _ _ (by omega), F _ _ (by omega)]
      exact ⟨a1, a2, by omega⟩
    · rw [f2, P2 _ (by omega), F _ _ (by omega)]; exact i7
end SIM7
