/-! THE CALLS, 5: move, doubt, mend, grow. -/
theorem mRw_eq2 {f g : Nat → Int} {t : Nat} (h : ∀ k, k < 30 → (k = 0 ∨ 5 ≤ k) → f (30 * t + k) = g (30 * t + k)) (hl : g (30 * t) ≤ 24) : mRw f t = mRw g t := by
  have e0 := h 0 (by omega) (by omega)
  have e5 := h 5 (by omega) (by omega)
  simp only [Nat.add_zero] at e0
  unfold mRw
  rw [e0, e5]
  refine Prod.ext (funext fun j => ?_) rfl
  show (if (j : Int) < g (30 * t) then f (30 * t + 6 + j) else 0) = if (j : Int) < g (30 * t) then g (30 * t + 6 + j) else 0
  split
  · have := h (6 + j) (by omega) (by omega)
    rw [← Nat.add_assoc] at this
    exact this
  · rfl
theorem vT_can (f : Nat → Int) (t : Nat) : ∀ j : Nat, (vT f t).2.1 ≤ j → (vT f t).1 j = 0 ∧ (vT f t).2.2 j = 0 := by
  intro j hj
  have hj' : f (30 * t) ≤ j := hj
  show (if (j : Int) < f (30 * t) then _ else (0 : Int)) = 0 ∧ (if (j : Int) < f (30 * t) then _ else (0 : Int)) = 0
  rw [if_neg (by omega), if_neg (by omega)]
  exact ⟨rfl, rfl⟩
theorem rem_ins {A : Rw} {r x : Int} (hA : ∀ j : Nat, A.2.1 ≤ j → A.1 j = 0 ∧ A.2.2 j = 0) (h0 : 0 ≤ r) (h1 : r ≤ A.2.1) : rwRem (rwIns A r x) r = A := by
  obtain ⟨a, l, d⟩ := A
  simp only at hA h1
  unfold rwRem rwIns
  refine Prod.ext (funext fun j => ?_) (Prod.ext (show l + 1 - 1 = l by omega) (funext fun j => ?_))
  · have h := hA j
    show (if (j : Int) < l + 1 - 1 then (if r ≤ j then (if ((j + 1 : Nat) : Int) < l + 1 then (if ((j + 1 : Nat) : Int) = r then x else if r < ((j + 1 : Nat) : Int) then a (j + 1 - 1) else a (j + 1)) else 0) else (if (j : Int) < l + 1 then (if (j : Int) = r then x else if r < j then a (j - 1) else a j) else 0)) else 0) = a j
    by_cases c : (j : Int) < l
    · rw [if_pos (by omega)]
      by_cases c2 : r ≤ j
      · rw [if_pos c2, if_pos (by omega), if_neg (by omega), if_pos (by omega), Nat.add_sub_cancel]
      · rw [if_neg c2, if_pos (by omega), if_neg (by omega), if_neg (by omega)]
    · rw [if_neg (by omega)]
      exact (h (by omega)).1.symm
  · have h := hA j
    show (if (j : Int) < l + 1 - 1 then (if r ≤ j then (if ((j + 1 : Nat) : Int) < l + 1 then (if ((j + 1 : Nat) : Int) = r then 1 else if r < ((j + 1 : Nat) : Int) then d (j + 1 - 1) else d (j + 1)) else 0) else (if (j : Int) < l + 1 then (if (j : Int) = r then 1 else if r < j then d (j - 1) else d j) else 0)) else 0) = d j
    by_cases c : (j : Int) < l
    · rw [if_pos (by omega)]
      by_cases c2 : r ≤ j
      · rw [if_pos c2, if_pos (by omega), if_neg (by omega), if_pos (by omega), Nat.add_sub_cancel]
      · rw [if_neg c2, if_pos (by omega), if_neg (by omega), if_neg (by omega)]
    · rw [if_neg (by omega)]
      exact (h (by omega)).2.symm
theorem ins_rem {A : Rw} {r : Int} (hA : ∀ j : Nat, A.2.1 ≤ j → A.1 j = 0 ∧ A.2.2 j = 0) (h0 : 0 ≤ r) (h1 : r < A.2.1) (hd : A.2.2 r.toNat = 1) : rwIns (rwRem A r) r (sN A r) = A := by
  have es : sN A r = A.1 r.toNat := if_pos ⟨h0, h1⟩
  rw [es]
  obtain ⟨a, l, d⟩ := A
  simp only at hA h1 hd
  unfold rwRem rwIns
  refine Prod.ext (funext fun j => ?_) (Prod.ext (show l - 1 + 1 = l by omega) (funext fun j => ?_))
  · have h := hA j
    show (if (j : Int) < l - 1 + 1 then (if (j : Int) = r then a r.toNat else if r < j then (if ((j - 1 : Nat) : Int) < l - 1 then (if r ≤ ((j - 1 : Nat) : Int) then a (j - 1 + 1) else a (j - 1)) else 0) else (if (j : Int) < l - 1 then (if r ≤ (j : Int) then a (j + 1) else a j) else 0)) else 0) = a j
    by_cases c : (j : Int) < l
    · rw [if_pos (by omega)]
      by_cases c2 : (j : Int) = r
      · rw [if_pos c2, ← c2, natT]
      · rw [if_neg c2]
        by_cases c3 : r < j
        · rw [if_pos c3, if_pos (by omega), if_pos (by omega), show j - 1 + 1 = j by omega]
        · rw [if_neg c3, if_pos (by omega), if_neg (by omega)]
    · rw [if_neg (by omega)]
      exact (h (by omega)).1.symm
  · have h := hA j
    show (if (j : Int) < l - 1 + 1 then (if (j : Int) = r then 1 else if r < j then (if ((j - 1 : Nat) : Int) < l - 1 then (if r ≤ ((j - 1 : Nat) : Int) then d (j - 1 + 1) else d (j - 1)) else 0) else (if (j : Int) < l - 1 then (if r ≤ (j : Int) then d (j + 1) else d j) else 0)) else 0) = d j
    by_cases c : (j : Int) < l
    · rw [if_pos (by omega)]
      by_cases c2 : (j : Int) = r
      · rw [if_pos c2, ← hd, ← c2, natT]
      · rw [if_neg c2]
        by_cases c3 : r < j
        · rw [if_pos c3, if_pos (by omega), if_pos (by omega), show j - 1 + 1 = j by omega]
        · rw [if_neg c3, if_pos (by omega), if_neg (by omega)]
    · rw [if_neg (by omega)]
      exact (h (by omega)).2.symm
theorem tog_tog (A : Rw) (r : Int) : rwTog (rwTog A r) r = A := by
  obtain ⟨a, l, d⟩ := A
  refine Prod.ext rfl (Prod.ext rfl (funext fun j => ?_))
  show (if (j : Int) = r ∧ (j : Int) < l then 1 - (if (j : Int) = r ∧ (j : Int) < l then 1 - d j else d j) else (if (j : Int) = r ∧ (j : Int) < l then 1 - d j else d j)) = d j
  by_cases c : (j : Int) = r ∧ (j : Int) < l
  · rw [if_pos c, if_pos c]; omega
  · rw [if_neg c, if_neg c]
section SIM5
variable {k n : Nat} {T : Nat → Rw} {Y : Nat → Int} {lap bnd mrg : Int} {M M1 M2 M3 : Mm}
/-- one timber of the row changed -/
theorem one_rel {t : Nat} {kd rg bf : Int} {MA MB : Mm} {g : Nat → Int} (hc : cls M n T Y lap bnd mrg) (hm : mdl M n T Y lap bnd mrg) (hx : relX M k n lap bnd mrg) (ht : t < n)
    (a1 : ∀ b j, 106 ≤ b → b ≤ 110 → MA b j = mRec M 106 kd t rg bf b j) (a2 : ∀ b j, ¬ (82 + 3 * t ≤ b ∧ b < 85 + 3 * t) → ¬ (106 ≤ b ∧ b ≤ 110) → MA b j = M b j) (aw : wfT MA (82 + 3 * t))
    (g1 : ∀ j, j < 30 * t ∨ 30 * t + 30 ≤ j → g j = M 158 j) (g2 : tRw MA (82 + 3 * t) = vT g t) (g3 : g (30 * t + 4) = M 158 (30 * t + 4)) (g4 : MA (82 + 3 * t) 3 = g (30 * t + 1)) (g5 : MA (82 + 3 * t) 4 = g (30 * t + 2)) (g6 : MA (82 + 3 * t) 5 = g (30 * t + 3)) (gw : okT (vT g t) ∧ wfM g t)
    (h3 : rsM MA 0 M3) (b1 : ∀ b j, b ≠ 158 → MB b j = mKeep M3 b j) (b3 : ∀ j, MB 158 j = g j) (hu : unOK kd t rg bf n (vT g) ∧ vT (M 158) t = unT kd t rg bf (vT g) t ∧ vY (M 158) t = unY kd t bf (vY g) t ∧ vH (M 158) t = unH kd t bf (vH g) t ∧ M 158 (30 * t + 1) = g (30 * t + 1) ∧ M 158 (30 * t + 2) = g (30 * t + 2)) (hkd : kd ≠ 1) : MB 154 1 = 0 ∧ Rel (k + 1) MB := by
  have n8 := hm.1.2
  have rw' := row_w hx
  have hr := hx.1
  have go : ∀ s, s < n → s ≠ t → vT g s = vT (M 158) s ∧ vY g s = vY (M 158) s ∧ vH g s = vH (M 158) s ∧ g (30 * s + 1) = M 158 (30 * s + 1) ∧ g (30 * s + 2) = M 158 (30 * s + 2) ∧ ∀ q, q < 30 → g (30 * s + q) = M 158 (30 * s + q) := by
    intro s hs hst
    have e : ∀ q, q < 30 → g (30 * s + q) = M 158 (30 * s + q) := fun q hq => g1 _ (by omega)
    exact ⟨mRw_eq (fun q hq _ => e q hq) (rw' s hs).1.1.2, e 4 (by omega), e 3 (by omega), e 1 (by omega), e 2 (by omega), e⟩
  have yt : vY g t = vY (M 158) t := g3
  have gW : rowW g n := by
    intro s hs
    by_cases c : s = t
    · subst c
      exact ⟨gw.1, by rw [yt]; exact (rw' s hs).2.1, gw.2⟩
    · obtain ⟨v1, v2, -, -, -, v6⟩ := go s hs c
      obtain ⟨w1, w2, w3⟩ := rw' s hs
      exact ⟨by rw [v1]; exact w1, by rw [v2]; exact w2, wfM_eq (fun q hq _ => v6 q hq) w3⟩
  refine act_rel (kd := kd) (sb := t) (rg := rg) (bf := bf) (g := g) (MA := MA) (M3 := M3) hc hm hx a1 (fun b j z => a2 b j (by omega) (by omega)) (fun b j p1 p2 => a2 b j (by omega) (by omega)) (fun j p1 p2 => a2 _ _ (by omega) (by omega)) (wfS_tm hc.1.1.1 (show t < 8 by omega) (fun b p1 p2 p3 j => a2 b j (by omega) (by omega)) aw) ?_ gW h3 (fun b j _ z2 => b1 b j z2) ?_ (funext b3) ⟨hu.1, fun s hs => ?_⟩
  · intro s hs
    obtain ⟨r1, r2, r3, r4, r5⟩ := hr s hs
    by_cases c : s = t
    · subst c
      refine ⟨g2, ?_, g4, g5, g6⟩
      rw [a2 _ _ (by omega) (by omega), r2, yt]
    · obtain ⟨v1, v2, v3, v4, v5, -⟩ := go s hs c
      rw [v1, v2, v3, v4, v5]
      refine ⟨?_, ?_, ?_, ?_, ?_⟩
      · rw [tRw_fr (fun q hq j => a2 _ _ (by omega) (by omega))]; exact r1
      · rw [a2 _ _ (by omega) (by omega)]; exact r2
      · rw [a2 _ _ (by omega) (by omega)]; exact r3
      · rw [a2 _ _ (by omega) (by omega)]; exact r4
      · rw [a2 _ _ (by omega) (by omega)]; exact r5
  · rw [b1 _ _ (by omega), mKeep_o (by omega) (by omega)]
    exact h3.1
  · by_cases c : s = t
    · subst c
      exact hu.2
    · obtain ⟨v1, v2, v3, v4, v5, -⟩ := go s hs c
      refine ⟨?_, ?_, ?_, v4.symm, v5.symm⟩
      · unfold unT
        rw [if_neg (by omega), if_neg (by omega), if_neg (by omega), v1]
      · unfold unY
        rw [if_neg (by omega), if_neg (fun w => hkd w.1), v2]
      · unfold unH
        rw [if_neg (by omega), v3]
theorem mRec_fr {kd sb rg bf : Int} : FrP (fun b _ => 106 ≤ b ∧ b ≤ 110) M (mRec M 106 kd sb rg bf) := fun b j z => mRec_out b j (by omega)
theorem rec_158 {MA : Mm} (f : ∀ j, MA 158 j = M 158 j) (h3 : rsM MA 0 M3) : M3 158 = M 158 := funext (fun j => (h3.2 _ _ (by unfold scrM; omega)).trans (f j))
theorem sim_move {t a : Int} (hR : Rel k M) (ht : inR t) (ha : inR a) : Sim m_RingDater_move m_Model_move [.inl t, .inl a] k M := by
  obtain ⟨n, T, Y, lap, bnd, mrg, hc, hm, hx⟩ := hR
  obtain ⟨l1, l2⟩ := relX_ld hx
  have n8 := hm.1.2
  by_cases c : ¬ (0 ≤ t ∧ t < n) ∨ a < 0 ∨ 3 < a ∨ M (82 + 3 * t.toNat) 5 = a
  · refine (RingDater_move_no hc ht ha c).eq ⟨⟨by omega, by omega⟩, ?_⟩
    have hm1 := mdl_fr hm (fr_ref (M1 := M) (q := 1)) (fun b j z => by omega)
    have c' : ¬ (0 ≤ t ∧ t < n) ∨ a < 0 ∨ 3 < a ∨ mset M 114 1 (M 114 1 + 1) 158 (30 * t.toNat + 3) = a := by
      by_cases c1 : 0 ≤ t ∧ t < n
      · have r := (relX_row hx (t := t.toNat) (by omega)).2.2
        have e : mset M 114 1 (M 114 1 + 1) 158 (30 * t.toNat + 3) = M 158 (30 * t.toNat + 3) := by simp [mset]
        rw [e, ← r]
        exact c
      · exact Or.inl c1
    refine (Mmove_no hm1 ht ha c').eq ⟨rfl, ?_⟩
    exact ref_rel (by omega) hc hm hx hc FrP.rf rs_ref
  · obtain ⟨u, rfl⟩ : ∃ u : Nat, t = u := ⟨t.toNat, by omega⟩
    have hu : u < n := by omega
    rw [natT] at c
    obtain ⟨r1, r2, r3⟩ := relX_row hx hu
    have g := mdl_t hm hu
    have gw := g.2.2.2.2.2.1
    have rw' := row_w hx
    refine (RingDater_move_ok hc l1 hu (by omega) (by omega)).eq ⟨by rw [r3]; exact ⟨by have := gw.2.2.1; omega, by have := gw.2.2.1; omega⟩, ?_⟩
    have F : ∀ b j, ¬ (b = 82 + 3 * u ∧ j = 5) → ¬ (106 ≤ b ∧ b ≤ 110) → mset (mRec M 106 5 u 0 (M (82 + 3 * u) 5)) (82 + 3 * u) 5 a b j = M b j := fun b j z1 z2 => by
      show (if b = 82 + 3 * u ∧ j = 5 then a else _) = _
      rw [if_neg z1]
      exact mRec_out _ _ (by omega)
    have hm1 := mdl_fr hm (P := fun b j => b = 82 + 3 * u ∧ j = 5 ∨ 106 ≤ b ∧ b ≤ 110) (M1 := mset (mRec M 106 5 u 0 (M (82 + 3 * u) 5)) (82 + 3 * u) 5 a) (fun b j z => F b j (fun w => z (Or.inl w)) (fun w => z (Or.inr w))) (fun b j z => by omega)
    have l2' : ldM (mset (mRec M 106 5 u 0 (M (82 + 3 * u) 5)) (82 + 3 * u) 5 a) := by
      unfold ldM
      rw [F _ _ (by omega) (by omega)]
      exact l2
    have e3 : mset (mRec M 106 5 u 0 (M (82 + 3 * u) 5)) (82 + 3 * u) 5 a 158 (30 * u + 3) = M 158 (30 * u + 3) := F _ _ (by omega) (by omega)
    have B := Mmove_ok (a := a) hm1 l2' hu (by omega) (by rw [e3, ← r3]; omega)
    rw [e3] at B
    have e58 := rec_158 (M := M) (MA := mset (mRec M 106 5 u 0 (M (82 + 3 * u) 5)) (82 + 3 * u) 5 a) (fun j => F _ _ (by omega) (by omega)) rsM_0
    refine B.eq ⟨r3, ?_⟩
    have gv : ∀ j, (fun j => if j = 30 * u + 3 then a else M 158 j) j = if j = 30 * u + 3 then a else M 158 j := fun j => rfl
    have gp : (fun j => if j = 30 * u + 3 then a else M 158 j) (30 * u + 3) = a := if_pos rfl
    have o : ∀ q, q ≠ 30 * u + 3 → (fun j => if j = 30 * u + 3 then a else M 158 j) q = M 158 q := fun q hq => if_neg hq
    generalize (fun j => if j = 30 * u + 3 then a else M 158 j) = g' at *
    have eT : vT g' u = vT (M 158) u := mRw_eq2 (fun q hq h3 => o _ (by omega)) (rw' u hu).1.1.2
    have eY : vY g' u = vY (M 158) u := o _ (by omega)
    have eH : vH g' u = a := gp
    have ok := rw' u hu
    have W := (cls_tm hc hu).2.2.1
    refine one_rel (t := u) (kd := 5) (rg := 0) (bf := M (82 + 3 * u) 5) (g := g') (MA := mset (mRec M 106 5 u 0 (M (82 + 3 * u) 5)) (82 + 3 * u) 5 a) (M3 := c0M (mset (mRec M 106 5 u 0 (M (82 + 3 * u) 5)) (82 + 3 * u) 5 a)) hc hm hx hu (fun b j p1 p2 => ?_) (fun b j z1 z2 => F b j (by omega) z2) ?_ (fun j hj => o j (by omega)) ?_ eY ?_ ?_ ?_ ⟨by rw [eT]; exact ok.1, ?_⟩ rsM_0 (fun b j hb => ?_) (fun j => ?_) ⟨⟨by omega, ⟨by omega, by omega⟩, inR_0, fun _ => by omega, fun z => by omega, fun z => by omega, fun z => by omega⟩, ?_, ?_, ?_, (o _ (by omega)).symm, (o _ (by omega)).symm⟩ (by omega)
    · show (if b = 82 + 3 * u ∧ j = 5 then a else _) = _
      rw [if_neg (by omega)]
    · obtain ⟨w1, w2, w3, w4, w5, w6⟩ := W
      refine ⟨?_, fun j hj => ?_, fun j hj => ?_, ?_, ?_, ?_⟩
      · rw [F _ _ (by omega) (by omega)]; exact w1
      · rw [F _ _ (by omega) (by omega)]; exact w2 j hj
      · rw [F _ _ (by omega) (by omega)]; exact w3 j hj
      · rw [F _ _ (by omega) (by omega)]; exact w4
      · rw [F _ _ (by omega) (by omega)]; exact w5
      · have e : mset (mRec M 106 5 u 0 (M (82 + 3 * u) 5)) (82 + 3 * u) 5 a (82 + 3 * u) 5 = a := if_pos ⟨rfl, rfl⟩
        rw [e]
        omega
    · rw [eT, ← (hx.1 u hu).1]
      have e2 : mset (mRec M 106 5 u 0 (M (82 + 3 * u) 5)) (82 + 3 * u) 5 a (82 + 3 * u) 2 = M (82 + 3 * u) 2 := F _ _ (by omega) (by omega)
      unfold tRw
      rw [e2]
      have f1 : mset (mRec M 106 5 u 0 (M (82 + 3 * u) 5)) (82 + 3 * u) 5 a (82 + 3 * u + 1) = M (82 + 3 * u + 1) := funext (fun j => F _ _ (by omega) (by omega))
      have f2 : mset (mRec M 106 5 u 0 (M (82 + 3 * u) 5)) (82 + 3 * u) 5 a (82 + 3 * u + 2) = M (82 + 3 * u + 2) := funext (fun j => F _ _ (by omega) (by omega))
      rw [f1, f2]
    · rw [F _ _ (by omega) (by omega), o _ (by omega)]; exact r1
    · rw [F _ _ (by omega) (by omega), o _ (by omega)]; exact r2
    · have e : mset (mRec M 106 5 u 0 (M (82 + 3 * u) 5)) (82 + 3 * u) 5 a (82 + 3 * u) 5 = a := if_pos ⟨rfl, rfl⟩
      rw [e, gp]
    · obtain ⟨w1, w2, w3, w4, w5⟩ := ok.2.2
      have e0 := o (30 * u) (by omega)
      unfold wfM
      rw [e0, o (30 * u + 1) (by omega), o (30 * u + 2) (by omega), gp, o (30 * u + 5) (by omega)]
      exact ⟨w1, w2, by omega, w4, w5⟩
    · show (if b = 158 ∧ j = 30 * u + 3 then a else _) = _
      rw [if_neg (fun w => hb w.1)]
    · show (if 158 = 158 ∧ j = 30 * u + 3 then a else mKeep (c0M (mset (mRec M 106 5 u 0 (M (82 + 3 * u) 5)) (82 + 3 * u) 5 a)) 158 j) = _
      rw [mKeep_o (by omega) (by omega), show c0M (mset (mRec M 106 5 u 0 (M (82 + 3 * u) 5)) (82 + 3 * u) 5 a) 158 j = M 158 j from congrFun e58 j]
      by_cases cj : j = 30 * u + 3
      · rw [if_pos ⟨rfl, cj⟩, cj, gp]
      · rw [if_neg (fun w => cj w.2), o j cj]
    · unfold unT
      rw [if_neg (by omega), if_neg (by omega), if_neg (by omega), eT]
    · unfold unY
      rw [if_neg (by omega), if_neg (by omega), eY]
    · unfold unH
      rw [if_pos ⟨rfl, rfl⟩]
      exact r3.symm
theorem dbit {t r : Nat} (hc : cls M n T Y lap bnd mrg) (hm : mdl M n T Y lap bnd mrg) (ht : t < n) (hr : (r : Int) < (T t).2.1) : M (82 + 3 * t + 2) r = if btI (M 158 (30 * t + 5)) r = true then 1 else 0 := by
  obtain ⟨-, -, w, e, o, -⟩ := cls_tm hc ht
  have o1 := o.1
  have v := vDou_bit (r := (r : Int)) hc hm ht ⟨by omega, hr⟩
  rw [bit_test _ (by omega)] at v
  have e2 : M (82 + 3 * t) 2 = (T t).2.1 := by rw [← e]; rfl
  unfold vDou at v
  rw [if_pos (by omega), natT] at v
  exact v
theorem sim_doubt {t r : Int} (hR : Rel k M) (ht : inR t) (hr : inR r) : Sim m_RingDater_doubt m_Model_doubt [.inl t, .inl r] k M := by
  obtain ⟨n, T, Y, lap, bnd, mrg, hc, hm, hx⟩ := hR
  obtain ⟨l1, l2⟩ := relX_ld hx
  have n8 := hm.1.2
  by_cases c : ¬ (0 ≤ t ∧ t < n) ∨ ¬ (0 ≤ r ∧ r < (T t.toNat).2.1)
  · refine (RingDater_doubt_no hc ht hr c).eq ⟨⟨by omega, by omega⟩, ?_⟩
    have hm1 := mdl_fr hm (fr_ref (M1 := M) (q := 1)) (fun b j z => by omega)
    refine (Mdoubt_no hm1 ht hr c).eq ⟨rfl, ?_⟩
    exact ref_rel (by omega) hc hm hx hc FrP.rf rs_ref
  · obtain ⟨u, rfl⟩ : ∃ u : Nat, t = u := ⟨t.toNat, by omega⟩
    have hu : u < n := by omega
    rw [natT] at c
    obtain ⟨q, rfl⟩ : ∃ q : Nat, r = q := ⟨r.toNat, by omega⟩
    have hq : (q : Int) < (T u).2.1 := by omega
    obtain ⟨r1, r2, r3⟩ := relX_row hx hu
    have rw' := row_w hx
    have ok := rw' u hu
    have W := (cls_tm hc hu).2.2.1
    have o24 := (mdl_t hm hu).2.2.2.1.1
    have el : vT (M 158) u = T u := (row_Y hm hu).2
    have em : M 158 (30 * u) = (T u).2.1 := (mdl_t hm hu).1.2
    have db := fun {j} hj => dbit (r := j) hc hm hu hj
    have d0 := db hq
    have A := RingDater_doubt_ok hc l1 hu (r := (q : Int)) ⟨by omega, hq⟩
    rw [natT] at A
    have F : ∀ b j, ¬ (b = 82 + 3 * u + 2 ∧ j = q) → ¬ (106 ≤ b ∧ b ≤ 110) → mset (mRec M 106 4 u q 0) (82 + 3 * u + 2) q (1 - M (82 + 3 * u + 2) q) b j = M b j := fun b j z1 z2 => by
      show (if b = 82 + 3 * u + 2 ∧ j = q then _ else _) = _
      rw [if_neg z1]
      exact mRec_out _ _ (by omega)
    have Fp : mset (mRec M 106 4 u q 0) (82 + 3 * u + 2) q (1 - M (82 + 3 * u + 2) q) (82 + 3 * u + 2) q = 1 - M (82 + 3 * u + 2) q := if_pos ⟨rfl, rfl⟩
    have Fr : ∀ b j, 106 ≤ b → b ≤ 110 → mset (mRec M 106 4 u q 0) (82 + 3 * u + 2) q (1 - M (82 + 3 * u + 2) q) b j = mRec M 106 4 u q 0 b j := fun b j p1 p2 => if_neg (by omega)
    refine A.eq ⟨by rw [d0]; split <;> exact ⟨by omega, by omega⟩, ?_⟩
    generalize mset (mRec M 106 4 u q 0) (82 + 3 * u + 2) q (1 - M (82 + 3 * u + 2) q) = MA at *
    have hm1 := mdl_fr hm (P := fun b j => b = 82 + 3 * u + 2 ∧ j = q ∨ 106 ≤ b ∧ b ≤ 110) (M1 := MA) (fun b j z => F b j (fun w => z (Or.inl w)) (fun w => z (Or.inr w))) (fun b j z => by omega)
    have l2' : ldM MA := by
      unfold ldM
      rw [F _ _ (by omega) (by omega)]
      exact l2
    have B := Mdoubt_ok hm1 l2' hu hq
    have e5 : MA 158 (30 * u + 5) = M 158 (30 * u + 5) := F _ _ (by omega) (by omega)
    rw [e5] at B
    have e58 := rec_158 (M := M) (MA := MA) (fun j => F _ _ (by omega) (by omega)) rsM_0
    have bx : ∀ j, j < 32 → btI (bXor (M 158 (30 * u + 5)) (bShl 1 q)) j = if j = q then !(btI (M 158 (30 * u + 5)) j) else btI (M 158 (30 * u + 5)) j := by
      intro j hj
      rw [btI_xor, btI_shl (by omega) _ hj, btI_1 (by omega)]
      by_cases cj : j = q
      · subst cj
        simp
      · rw [if_neg cj]
        by_cases c2 : q ≤ j
        · have : ¬ j - q = 0 := by omega
          simp [c2, this]
        · simp [c2]
    refine B.eq ⟨?_, ?_⟩
    · rw [bit_test _ (by omega), bx q (by omega), if_pos rfl, d0]
      cases btI (M 158 (30 * u + 5)) q <;> simp
    have gp : (fun j => if j = 30 * u + 5 then bXor (M 158 (30 * u + 5)) (bShl 1 q) else M 158 j) (30 * u + 5) = bXor (M 158 (30 * u + 5)) (bShl 1 q) := if_pos rfl
    have o : ∀ q', q' ≠ 30 * u + 5 → (fun j => if j = 30 * u + 5 then bXor (M 158 (30 * u + 5)) (bShl 1 q) else M 158 j) q' = M 158 q' := fun q' hq' => if_neg hq'
    generalize (fun j => if j = 30 * u + 5 then bXor (M 158 (30 * u + 5)) (bShl 1 q) else M 158 j) = g' at *
    have e0 := o (30 * u) (by omega)
    have eT : vT g' u = rwTog (vT (M 158) u) q := by
      show (((fun j : Nat => if (j : Int) < g' (30 * u) then g' (30 * u + 6 + j) else 0), g' (30 * u), fun j : Nat => if (j : Int) < g' (30 * u) then (if btI (g' (30 * u + 5)) j = true then (1 : Int) else 0) else 0) : Rw) = _
      rw [e0, gp]
      refine Prod.ext (funext fun j => ?_) (Prod.ext rfl (funext fun j => ?_))
      · show (if (j : Int) < M 158 (30 * u) then g' (30 * u + 6 + j) else 0) = if (j : Int) < M 158 (30 * u) then M 158 (30 * u + 6 + j) else 0
        split
        · rw [o _ (by omega)]
        · rfl
      · show (if (j : Int) < M 158 (30 * u) then (if btI (bXor (M 158 (30 * u + 5)) (bShl 1 q)) j = true then (1 : Int) else 0) else 0) = if (j : Int) = q ∧ (j : Int) < M 158 (30 * u) then 1 - (if (j : Int) < M 158 (30 * u) then (if btI (M 158 (30 * u + 5)) j = true then (1 : Int) else 0) else 0) else (if (j : Int) < M 158 (30 * u) then (if btI (M 158 (30 * u + 5)) j = true then (1 : Int) else 0) else 0)
        by_cases cl : (j : Int) < M 158 (30 * u)
        · rw [if_pos cl, if_pos cl, bx j (by omega)]
          by_cases cj : j = q
          · subst cj
            cases hb : btI (M 158 (30 * u + 5)) j <;> simp [cl]
          · have cj2 : ¬ (j : Int) = q := by omega
            simp [cj, cj2]
        · rw [if_neg cl, if_neg cl, if_neg (fun w => cl w.2)]
    have eY : vY g' u = vY (M 158) u := o _ (by omega)
    have eH : vH g' u = vH (M 158) u := o _ (by omega)
    have okT' : okT (vT g' u) := by
      rw [eT]
      obtain ⟨p1, p2, p3⟩ := ok.1
      refine ⟨p1, p2, fun j hj => ?_⟩
      have := p3 j hj
      show (if (j : Int) = q ∧ (j : Int) < (vT (M 158) u).2.1 then 1 - (vT (M 158) u).2.2 j else (vT (M 158) u).2.2 j) = 0 ∨ (if (j : Int) = q ∧ (j : Int) < (vT (M 158) u).2.1 then 1 - (vT (M 158) u).2.2 j else (vT (M 158) u).2.2 j) = 1
      split <;> omega
    have elg : (vT g' u).2.1 = (T u).2.1 := by rw [eT, ← el]; rfl
    refine one_rel (t := u) (kd := 4) (rg := q) (bf := 0) (g := g') (MA := MA) (M3 := c0M MA) hc hm hx hu Fr (fun b j z1 z2 => F b j (by omega) z2) ?_ (fun j hj => o j (by omega)) ?_ eY ?_ ?_ ?_ ⟨okT', ?_⟩ rsM_0 (fun b j hb => ?_) (fun j => ?_) ⟨⟨by omega, ⟨by omega, by omega⟩, ⟨by omega, by omega⟩, fun _ => by omega, fun z => by omega, fun z => by omega, fun z => by rw [natT, elg]; omega⟩, ?_, ?_, ?_, (o _ (by omega)).symm, (o _ (by omega)).symm⟩ (by omega)
    · obtain ⟨w1, w2, w3, w4, w5, w6⟩ := W
      refine ⟨?_, fun j hj => ?_, fun j hj => ?_, ?_, ?_, ?_⟩
      · rw [F _ _ (by omega) (by omega)]; exact w1
      · rw [F _ _ (by omega) (by omega)]; exact w2 j hj
      · have := w3 j hj
        by_cases cj : j = q
        · subst cj; rw [Fp]; omega
        · rw [F _ _ (by omega) (by omega)]; exact this
      · rw [F _ _ (by omega) (by omega)]; exact w4
      · rw [F _ _ (by omega) (by omega)]; exact w5
      · rw [F _ _ (by omega) (by omega)]; exact w6
    · rw [eT, ← (hx.1 u hu).1]
      have e2 : MA (82 + 3 * u) 2 = M (82 + 3 * u) 2 := F _ _ (by omega) (by omega)
      have f1 : MA (82 + 3 * u + 1) = M (82 + 3 * u + 1) := funext (fun j => F _ _ (by omega) (by omega))
      have em2 : M (82 + 3 * u) 2 = (T u).2.1 := by rw [← (cls_tm hc hu).2.2.2.1]; rfl
      unfold tRw
      rw [e2, f1]
      refine Prod.ext rfl (Prod.ext rfl (funext fun j => ?_))
      show (if (j : Int) < M (82 + 3 * u) 2 then MA (82 + 3 * u + 2) j else 0) = if (j : Int) = q ∧ (j : Int) < M (82 + 3 * u) 2 then 1 - (if (j : Int) < M (82 + 3 * u) 2 then M (82 + 3 * u + 2) j else 0) else (if (j : Int) < M (82 + 3 * u) 2 then M (82 + 3 * u + 2) j else 0)
      by_cases cl : (j : Int) < M (82 + 3 * u) 2
      · rw [if_pos cl, if_pos cl]
        by_cases cj : j = q
        · subst cj
          rw [if_pos ⟨rfl, cl⟩, Fp]
        · rw [if_neg (fun w => cj (by omega)), F _ _ (by omega) (by omega)]
      · rw [if_neg cl, if_neg cl, if_neg (fun w => cl w.2)]
    · rw [F _ _ (by omega) (by omega), o _ (by omega)]; exact r1
    · rw [F _ _ (by omega) (by omega), o _ (by omega)]; exact r2
    · rw [F _ _ (by omega) (by omega), o _ (by omega)]; exact r3
    · obtain ⟨w1, w2, w3, w4, w5⟩ := ok.2.2
      unfold wfM
      rw [e0, o (30 * u + 1) (by omega), o (30 * u + 2) (by omega), o (30 * u + 3) (by omega), gp]
      refine ⟨w1, w2, w3, bXor_in _ _, fun i hi => ?_⟩
      by_cases c32 : i < 32
      · rw [bx i c32, if_neg (by omega)]
        exact w5 i hi
      · exact btI_big (by omega)
    · show (if b = 158 ∧ j = 30 * u + 5 then _ else _) = _
      rw [if_neg (fun w => hb w.1)]
    · show (if 158 = 158 ∧ j = 30 * u + 5 then bXor (M 158 (30 * u + 5)) (bShl 1 q) else mKeep (c0M MA) 158 j) = _
      rw [mKeep_o (by omega) (by omega), show c0M MA 158 j = M 158 j from congrFun e58 j]
      by_cases cj : j = 30 * u + 5
      · rw [if_pos ⟨rfl, cj⟩, cj, gp]
      · rw [if_neg (fun w => cj w.2), o j cj]
    · unfold unT
      rw [if_neg (by omega), if_neg (by omega), if_pos ⟨rfl, rfl⟩, eT, tog_tog]
    · unfold unY
      rw [if_neg (by omega), if_neg (by omega), eY]
    · unfold unH
      rw [if_neg (by omega), eH]
theorem row_can {t : Nat} (hm : mdl M n T Y lap bnd mrg) (ht : t < n) : ∀ j : Nat, (T t).2.1 ≤ j → (T t).1 j = 0 ∧ (T t).2.2 j = 0 := by
  rw [← (row_Y hm ht).2]
  exact vT_can _ _
theorem sim_mend {t r b : Int} (hR : Rel k M) (ht : inR t) (hr : inR r) (hb : b = 0 ∨ b = 1) : Sim m_RingDater_mend m_Model_mend [.inl t, .inl r, .inl b] k M := by
  obtain ⟨n, T, Y, lap, bnd, mrg, hc, hm, hx⟩ := hR
  obtain ⟨l1, l2⟩ := relX_ld hx
  have n8 := hm.1.2
  by_cases c : ¬ (0 ≤ t ∧ t < n) ∨ Y t.toNat ≠ -1 ∨ ¬ (if b = 1 then canG (T t.toNat) r else canL (T t.toNat) r)
  · refine (RingDater_mend_no hc ht hr hb c).eq ⟨⟨by omega, by omega⟩, ?_⟩
    have hm1 := mdl_fr hm (fr_ref (M1 := M) (q := 1)) (fun b j z => by omega)
    refine (Mmend_no hm1 ht hr hb c).eq ⟨rfl, ?_⟩
    exact ref_rel (by omega) hc hm hx hc FrP.rf rs_ref
  · obtain ⟨u, rfl⟩ : ∃ u : Nat, t = u := ⟨t.toNat, by omega⟩
    have hu : u < n := by omega
    rw [natT] at c
    have hY : Y u = -1 := by
      by_cases e : Y u = -1
      · exact e
      · exact absurd (Or.inr (Or.inl e)) c
    have hg : if b = 1 then canG (T u) r else canL (T u) r := by
      by_cases e : (if b = 1 then canG (T u) r else canL (T u) r)
      · exact e
      · exact absurd (Or.inr (Or.inr e)) c
    clear c
    obtain ⟨r1, r2, r3⟩ := relX_row hx hu
    have rw' := row_w hx
    have ok := rw' u hu
    obtain ⟨ct, -, W, eC, oC, -⟩ := cls_tm hc hu
    have o1 := oC.1
    have el : vT (M 158) u = T u := (row_Y hm hu).2
    have em : M 158 (30 * u) = (T u).2.1 := (mdl_t hm hu).1.2
    have em2 : M (82 + 3 * u) 2 = (T u).2.1 := by rw [← eC]; rfl
    have can := row_can hm hu
    rcases hb with rfl | rfl
    · rw [if_neg (by omega)] at hg
      have hg' := hg
      obtain ⟨q1, q2, q3, q4⟩ := hg'
      obtain ⟨q, rfl⟩ : ∃ q : Nat, r = q := ⟨r.toNat, by omega⟩
      rw [natT] at q4
      have dv := oC.2.2 q (by omega)
      have wv := okT_N (r := (q : Int)) oC
      have A := RingDater_mend_out hc l1 hu hY hr hg
      have F : ∀ b j, ¬ (82 + 3 * u ≤ b ∧ b < 85 + 3 * u) → ¬ (106 ≤ b ∧ b ≤ 110) → mRem (mRec M 106 3 u q (sN (T u) q)) (82 + 3 * u) q b j = M b j := fun b j z1 z2 => by
        simp only [mRem]
        rw [if_neg (by omega), if_neg (by omega), if_neg (by omega)]
        exact mRec_out _ _ (by omega)
      have Fr : ∀ b j, 106 ≤ b → b ≤ 110 → mRem (mRec M 106 3 u q (sN (T u) q)) (82 + 3 * u) q b j = mRec M 106 3 u q (sN (T u) q) b j := fun b j p1 p2 => by
        simp only [mRem]
        rw [if_neg (by omega), if_neg (by omega), if_neg (by omega)]
      have mr : ∀ p, p < 3 → ∀ j, mRec M 106 3 u q (sN (T u) q) (82 + 3 * u + p) j = M (82 + 3 * u + p) j := fun p hp j => mRec_lo _ _ (by omega)
      have m0 : mRec M 106 3 u q (sN (T u) q) (82 + 3 * u) 2 = (T u).2.1 := (mRec_lo _ _ (by omega)).trans em2
      have tr : tRw (mRem (mRec M 106 3 u q (sN (T u) q)) (82 + 3 * u) q) (82 + 3 * u) = rwRem (T u) q := by
        rw [tRw_rem q2 (by rw [m0]; exact q3), tRw_fr mr, eC]
      have wf : wfT (mRem (mRec M 106 3 u q (sN (T u) q)) (82 + 3 * u) q) (82 + 3 * u) := mRem_wf (wfT_cells (fun b p1 p2 j => mRec_lo _ _ (by omega)) W) q2 (by rw [m0]; exact q3)
      have eo : ∀ j, 3 ≤ j → mRem (mRec M 106 3 u q (sN (T u) q)) (82 + 3 * u) q (82 + 3 * u) j = M (82 + 3 * u) j := fun j hj => by
        simp only [mRem]
        rw [if_neg (by omega), if_neg (by omega), if_neg (by omega)]
        exact mRec_lo _ _ (by omega)
      refine A.eq ⟨⟨by omega, by omega⟩, ?_⟩
      generalize mRem (mRec M 106 3 u q (sN (T u) q)) (82 + 3 * u) q = MA at *
      have hm1 := mdl_fr hm (P := fun b j => 82 + 3 * u ≤ b ∧ b < 85 + 3 * u ∨ 106 ≤ b ∧ b ≤ 110) (M1 := MA) (fun b j z => F b j (fun w => z (Or.inl w)) (fun w => z (Or.inr w))) (fun b j z => by omega)
      have l2' : ldM MA := by
        unfold ldM
        rw [F _ _ (by omega) (by omega)]
        exact l2
      have B := Mmend_L (i := q) hm1 l2' hu hY hg
      have e58 := rec_158 (M := M) (MA := MA) (fun j => F _ _ (by omega) (by omega)) rsM_0
      have e8 : ∀ j, mKeep (c0M MA) 158 j = M 158 j := fun j => by rw [mKeep_o (by omega) (by omega)]; exact congrFun e58 j
      refine B.eq ⟨rfl, ?_⟩
      have hn : mKeep (c0M MA) 158 (30 * u) = ((T u).2.1.toNat : Nat) := by rw [e8, em]; omega
      have f158 : mKeep (c0M MA) 158 = M 158 := funext e8
      have vt : vT (mMdL (mKeep (c0M MA)) u (T u).2.1.toNat q 158) u = rwRem (T u) q := by
        unfold vT
        rw [mRw_L hn (by omega) (by omega) (by omega), f158]
        exact congrArg (fun z => rwRem z q) el
      have wm := wfM_L (i := q) hn (by omega) (by omega) (by omega) (by rw [f158]; exact ok.2.2)
      have go : ∀ j, (j < 30 * u ∨ 30 * u + 30 ≤ j ∨ (30 * u < j ∧ j < 30 * u + 5)) → mMdL (mKeep (c0M MA)) u (T u).2.1.toNat q 158 j = M 158 j := fun j hj => by
        simp only [mMdL]
        rw [if_neg (by omega), if_neg (by omega), if_neg (by omega), if_neg (by omega)]
        exact e8 j
      have bo : ∀ b j, b ≠ 158 → mMdL (mKeep (c0M MA)) u (T u).2.1.toNat q b j = mKeep (c0M MA) b j := fun b j hb => by
        simp only [mMdL]
        rw [if_neg (fun w => hb w.1), if_neg (fun w => hb w.1), if_neg (fun w => hb w.1), if_neg (fun w => hb w.1)]
      generalize mMdL (mKeep (c0M MA)) u (T u).2.1.toNat q = MB at *
      refine one_rel (t := u) (kd := 3) (rg := q) (bf := sN (T u) q) (g := MB 158) (MA := MA) (M3 := c0M MA) hc hm hx hu Fr F wf (fun j hj => go j (by omega)) ?_ (go _ (by omega)) ?_ ?_ ?_ ⟨by rw [vt]; exact okT_rem oC q1 q2 q3, wm⟩ rsM_0 bo (fun j => rfl) ⟨⟨by omega, ⟨by omega, by omega⟩, hr, fun _ => by omega, fun z => by omega, fun z => by rw [natT, vt]; show (0 ≤ (q : Int) ∧ (q : Int) ≤ (T u).2.1 - 1) ∧ (T u).2.1 - 1 < 24; omega, fun z => by omega⟩, ?_, ?_, ?_, (go _ (by omega)).symm, (go _ (by omega)).symm⟩ (by omega)
      · rw [tr, vt]
      · rw [eo _ (by omega), go _ (by omega)]; exact r1
      · rw [eo _ (by omega), go _ (by omega)]; exact r2
      · rw [eo _ (by omega), go _ (by omega)]; exact r3
      · unfold unT
        rw [if_neg (by omega), if_pos ⟨rfl, rfl⟩, vt, el, ins_rem can q2 q3 (by rw [natT]; omega)]
      · unfold unY
        rw [if_neg (by omega), if_neg (by omega)]
        exact (go _ (by omega)).symm
      · unfold unH
        rw [if_neg (by omega)]
        exact (go _ (by omega)).symm
    · rw [if_pos rfl] at hg
      have hg' := hg
      obtain ⟨q1, q2, q3⟩ := hg'
      obtain ⟨q, rfl⟩ : ∃ q : Nat, r = q := ⟨r.toNat, by omega⟩
      have A := RingDater_mend_in hc l1 hu hY hr hg
      have F : ∀ b j, ¬ (82 + 3 * u ≤ b ∧ b < 85 + 3 * u) → ¬ (106 ≤ b ∧ b ≤ 110) → mIns (mRec M 106 2 u q 0) (82 + 3 * u) q 1 b j = M b j := fun b j z1 z2 => by
        simp only [mIns]
        rw [if_neg (by omega), if_neg (by omega), if_neg (by omega), if_neg (by omega), if_neg (by omega)]
        exact mRec_out _ _ (by omega)
      have Fr : ∀ b j, 106 ≤ b → b ≤ 110 → mIns (mRec M 106 2 u q 0) (82 + 3 * u) q 1 b j = mRec M 106 2 u q 0 b j := fun b j p1 p2 => by
        simp only [mIns]
        rw [if_neg (by omega), if_neg (by omega), if_neg (by omega), if_neg (by omega), if_neg (by omega)]
      have mr : ∀ p, p < 3 → ∀ j, mRec M 106 2 u q 0 (82 + 3 * u + p) j = M (82 + 3 * u + p) j := fun p hp j => mRec_lo _ _ (by omega)
      have m0 : mRec M 106 2 u q 0 (82 + 3 * u) 2 = (T u).2.1 := (mRec_lo _ _ (by omega)).trans em2
      have tr : tRw (mIns (mRec M 106 2 u q 0) (82 + 3 * u) q 1) (82 + 3 * u) = rwIns (T u) q 1 := by
        rw [tRw_ins (by omega) (by rw [m0]; omega), tRw_fr mr, eC]
      have wf : wfT (mIns (mRec M 106 2 u q 0) (82 + 3 * u) q 1) (82 + 3 * u) := mIns_wf (wfT_cells (fun b p1 p2 j => mRec_lo _ _ (by omega)) W) (by rw [m0]; exact q1) (by omega)
      have eo : ∀ j, 3 ≤ j → mIns (mRec M 106 2 u q 0) (82 + 3 * u) q 1 (82 + 3 * u) j = M (82 + 3 * u) j := fun j hj => by
        simp only [mIns]
        rw [if_neg (by omega), if_neg (by omega), if_neg (by omega), if_neg (by omega), if_neg (by omega)]
        exact mRec_lo _ _ (by omega)
      refine A.eq ⟨⟨by omega, by omega⟩, ?_⟩
      generalize mIns (mRec M 106 2 u q 0) (82 + 3 * u) q 1 = MA at *
      have hm1 := mdl_fr hm (P := fun b j => 82 + 3 * u ≤ b ∧ b < 85 + 3 * u ∨ 106 ≤ b ∧ b ≤ 110) (M1 := MA) (fun b j z => F b j (fun w => z (Or.inl w)) (fun w => z (Or.inr w))) (fun b j z => by omega)
      have l2' : ldM MA := by
        unfold ldM
        rw [F _ _ (by omega) (by omega)]
        exact l2
      have B := Mmend_G (i := q) hm1 l2' hu hY hg
      have e58 := rec_158 (M := M) (MA := MA) (fun j => F _ _ (by omega) (by omega)) rsM_0
      have e8 : ∀ j, mKeep (c0M MA) 158 j = M 158 j := fun j => by rw [mKeep_o (by omega) (by omega)]; exact congrFun e58 j
      refine B.eq ⟨rfl, ?_⟩
      have hn : mKeep (c0M MA) 158 (30 * u) = ((T u).2.1.toNat : Nat) := by rw [e8, em]; omega
      have f158 : mKeep (c0M MA) 158 = M 158 := funext e8
      have vt : vT (mMdG (mKeep (c0M MA)) u (T u).2.1.toNat q 158) u = rwIns (T u) q 1 := by
        unfold vT
        rw [mRw_G hn (by omega) (by omega), f158]
        exact congrArg (fun z => rwIns z q 1) el
      have wm := wfM_G (i := q) hn (by omega) (by omega) (by rw [f158]; exact ok.2.2)
      have go : ∀ j, (j < 30 * u ∨ 30 * u + 30 ≤ j ∨ (30 * u < j ∧ j < 30 * u + 5)) → mMdG (mKeep (c0M MA)) u (T u).2.1.toNat q 158 j = M 158 j := fun j hj => by
        simp only [mMdG]
        rw [if_neg (by omega), if_neg (by omega), if_neg (by omega), if_neg (by omega)]
        exact e8 j
      have bo : ∀ b j, b ≠ 158 → mMdG (mKeep (c0M MA)) u (T u).2.1.toNat q b j = mKeep (c0M MA) b j := fun b j hb => by
        simp only [mMdG]
        rw [if_neg (fun w => hb w.1), if_neg (fun w => hb w.1), if_neg (fun w => hb w.1), if_neg (fun w => hb w.1)]
      generalize mMdG (mKeep (c0M MA)) u (T u).2.1.toNat q = MB at *
      refine one_rel (t := u) (kd := 2) (rg := q) (bf := 0) (g := MB 158) (MA := MA) (M3 := c0M MA) hc hm hx hu Fr F wf (fun j hj => go j (by omega)) ?_ (go _ (by omega)) ?_ ?_ ?_ ⟨by rw [vt]; exact okT_ins oC q1 (by omega) (by omega) (by omega), wm⟩ rsM_0 bo (fun j => rfl) ⟨⟨by omega, ⟨by omega, by omega⟩, hr, fun _ => by omega, fun z => by rw [natT, vt]; show 0 ≤ (q : Int) ∧ (q : Int) < (T u).2.1 + 1; omega, fun z => by omega, fun z => by omega⟩, ?_, ?_, ?_, (go _ (by omega)).symm, (go _ (by omega)).symm⟩ (by omega)
      · rw [tr, vt]
      · rw [eo _ (by omega), go _ (by omega)]; exact r1
      · rw [eo _ (by omega), go _ (by omega)]; exact r2
      · rw [eo _ (by omega), go _ (by omega)]; exact r3
      · unfold unT
        rw [if_pos ⟨rfl, rfl⟩, vt, el, rem_ins can (by omega) (by omega)]
      · unfold unY
        rw [if_neg (by omega), if_neg (by omega)]
        exact (go _ (by omega)).symm
      · unfold unH
        rw [if_neg (by omega)]
        exact (go _ (by omega)).symm
theorem gwB_in (W : Nat → Int) : ∀ c, inR (gwB W c)
  | 0 => inR_0
  | c + 1 => bOr_in _ _
theorem gwB_bt {W : Nat → Int} {t : Nat} (ht : t < 8) : ∀ {c : Nat}, (∀ i, i < c → 0 ≤ W i ∧ W i ≤ 7) → (btI (gwB W c) t = true ↔ ∃ i, i < c ∧ W i = t)
  | 0, _ => by
    rw [show gwB W 0 = 0 from rfl, btI_0]
    exact ⟨fun z => Bool.noConfusion z, fun ⟨i, hi, _⟩ => absurd hi (by omega)⟩
  | c + 1, h => by
    have ih := gwB_bt (W := W) ht (c := c) (fun i hi => h i (by omega))
    have hc := h c (by omega)
    obtain ⟨w, ew⟩ : ∃ w : Nat, W c = w := ⟨(W c).toNat, by omega⟩
    rw [show gwB W (c + 1) = bOr (gwB W c) (bShl 1 (W c)) from rfl, btI_or, ew, btI_shl (by omega) _ (by omega), btI_1 (by omega)]
    constructor
    · intro z
      rcases (Bool.or_eq_true _ _).mp z with z | z
      · obtain ⟨i, hi, e⟩ := ih.mp z
        exact ⟨i, by omega, e⟩
      · have z2 := (Bool.and_eq_true _ _).mp z
        have z3 := of_decide_eq_true z2.1
        have z4 := of_decide_eq_true z2.2
        exact ⟨c, by omega, by omega⟩
    · rintro ⟨i, hi, e⟩
      refine (Bool.or_eq_true _ _).mpr ?_
      by_cases ei : i = c
      · subst ei
        right
        have : w = t := by omega
        subst this
        simp
      · left
        exact ih.mpr ⟨i, by omega, e⟩
theorem gw_dated {c t : Nat} (h : okC T Y n) (hc : gwC T lap bnd mrg n Y c) (hY : Y t ≠ -1) : ∀ r, r ≤ c → gwY T lap bnd mrg n Y r t = Y t
  | 0, _ => rfl
  | r + 1, hr => by
    have ih := gw_dated h hc hY r (by omega)
    have p := gwP_in h hc (i := r) (by omega)
    rw [gwY_succ (hc.1 r (by omega))]
    unfold updI
    by_cases e : t = (gwP T lap bnd mrg n Y r).1.toNat
    · have := p.2.1
      rw [← e, ih] at this
      exact absurd this hY
    · rw [if_neg e]
      exact ih
theorem gw_un {c t : Nat} (h : okC T Y n) (hc : gwC T lap bnd mrg n Y c) : ∀ r, r ≤ c → (gwY T lap bnd mrg n Y r t = Y t ∧ ¬ ∃ i, i < r ∧ (gwP T lap bnd mrg n Y i).1 = t) ∨ (Y t = -1 ∧ ∃ i, i < r ∧ (gwP T lap bnd mrg n Y i).1 = t)
  | 0, _ => Or.inl ⟨rfl, fun ⟨i, hi, _⟩ => absurd hi (by omega)⟩
  | r + 1, hr => by
    have ih := gw_un (t := t) h hc r (by omega)
    have p := gwP_in h hc (i := r) (by omega)
    rw [gwY_succ (hc.1 r (by omega))]
    rcases ih with ⟨i1, i2⟩ | ⟨i1, i, hi, e⟩
    · by_cases e : t = (gwP T lap bnd mrg n Y r).1.toNat
      · refine Or.inr ⟨?_, r, by omega, by omega⟩
        have := p.2.1
        rw [← e, i1] at this
        exact this
      · refine Or.inl ⟨?_, fun ⟨i, hi, e2⟩ => ?_⟩
        · unfold updI
          rw [if_neg e]
          exact i1
        · by_cases ei : i = r
          · subst ei
            omega
          · exact i2 ⟨i, by omega, e2⟩
    · exact Or.inr ⟨i1, i, by omega, e⟩
theorem sim_grow (hR : Rel k M) : Sim m_RingDater_grow m_Model_grow [] k M := by
  obtain ⟨n, T, Y, lap, bnd, mrg, hc, hm, hx⟩ := hR
  obtain ⟨l1, l2⟩ := relX_ld hx
  have n8 := hm.1.2
  have hoc := hm.2.2.2
  obtain ⟨c, cn, gc⟩ := gwC_ex (lap := lap) (bnd := bnd) (mrg := mrg) hoc
  by_cases c0 : c = 0
  · subst c0
    refine (RingDater_grow_no hc gc).mono (fun x M' z => ?_)
    obtain ⟨rfl, M2, z1, z2, rfl⟩ := z
    refine ⟨⟨by omega, by omega⟩, ?_⟩
    have hm1 : mdl (mRef M2) n T Y lap bnd mrg := mdl_fr (mdl_scr hm z2) (fr_ref (M1 := M2) (q := 1)) (fun b j z => by omega)
    refine (Mgrow_no hm1 gc).mono (fun y M3 w => ?_)
    obtain ⟨rfl, M4, w1, rfl⟩ := w
    exact ⟨rfl, ref_rel (by omega) hc hm hx z1 z2 w1⟩
  · refine (RingDater_grow_ok hc l1 gc (by omega)).mono (fun x M' z => ?_)
    obtain ⟨rfl, M2, z1, z2, gi, rfl⟩ := z
    refine ⟨⟨by omega, by omega⟩, ?_⟩
    have hm2 := mdl_scr hm z2
    have hx2 := relX_fr (M2 := M2) hm.1.2 (Nat.le_refl k) (fun b j w1 _ => z2 b j w1) hx
    have rw' := row_w hx2
    have hr := hx2.1
    have Fy : ∀ b j, b ≠ 81 → mYr (mRec M2 106 1 (gwB (M2 69) c) 0 (-1)) (gwY T lap bnd mrg n Y c) b j = mRec M2 106 1 (gwB (M2 69) c) 0 (-1) b j := fun b j hb => if_neg (fun w => hb w.1)
    have Fo : ∀ b j, b ≠ 81 → ¬ (106 ≤ b ∧ b ≤ 110) → mYr (mRec M2 106 1 (gwB (M2 69) c) 0 (-1)) (gwY T lap bnd mrg n Y c) b j = M2 b j := fun b j h1 h2 => (Fy b j h1).trans (mRec_out _ _ (by omega))
    have F81 : ∀ t, t < 8 → mYr (mRec M2 106 1 (gwB (M2 69) c) 0 (-1)) (gwY T lap bnd mrg n Y c) 81 t = gwY T lap bnd mrg n Y c t := fun t ht => if_pos ⟨rfl, ht⟩
    generalize mYr (mRec M2 106 1 (gwB (M2 69) c) 0 (-1)) (gwY T lap bnd mrg n Y c) = MA at *
    have hm1 := mdl_fr hm2 (P := fun b j => b = 81 ∨ 106 ≤ b ∧ b ≤ 110) (M1 := MA) (fun b j z => Fo b j (fun w => z (Or.inl w)) (fun w => z (Or.inr w))) (fun b j z => by omega)
    have l2' : ldM MA := by
      unfold ldM
      rw [Fo _ _ (by omega) (by omega)]
      exact ldM_fr l2 z2
    refine (Mgrow_ok hm1 l2' gc (by omega)).mono (fun y MB w => ?_)
    obtain ⟨rfl, M3, w1, w2⟩ := w
    refine ⟨rfl, ?_⟩
    have e58 : M3 158 = M2 158 := rec_158 (fun j => Fo _ _ (by omega) (by omega)) w1
    have e8 : ∀ j, mKeep M3 158 j = M2 158 j := fun j => by rw [mKeep_o (by omega) (by omega), e58]
    have b8 : ∀ j, MB 158 j = if j % 30 = 4 ∧ j / 30 < n then gwY T lap bnd mrg n Y c (j / 30) else M2 158 j := fun j => by
      rw [w2 _ _ (by unfold growP; omega)]
      show (if 158 = 158 ∧ j % 30 = 4 ∧ j / 30 < n then _ else mKeep M3 158 j) = _
      rw [e8]
      exact if_cg (by omega) rfl rfl
    have bo : ∀ b j, ¬ scrM b j → b ≠ 158 → MB b j = mKeep M3 b j := fun b j h1 h2 => by
      rw [w2 _ _ (by unfold scrM at h1; unfold growP; omega)]
      exact if_neg (fun w => h2 w.1)
    have gok := (gwY_ok (lap := lap) (bnd := bnd) (mrg := mrg) hoc c).1
    have gv : ∀ t, t < n → vT (MB 158) t = vT (M2 158) t ∧ vY (MB 158) t = gwY T lap bnd mrg n Y c t ∧ vH (MB 158) t = vH (M2 158) t ∧ MB 158 (30 * t + 1) = M2 158 (30 * t + 1) ∧ MB 158 (30 * t + 2) = M2 158 (30 * t + 2) := by
      intro t ht
      refine ⟨mRw_eq (fun q hq h4 => by rw [b8, if_neg (by omega)]) (rw' t ht).1.1.2, ?_, ?_, ?_, ?_⟩
      · unfold vY
        rw [b8, if_pos ⟨by omega, by omega⟩, show (30 * t + 4) / 30 = t by omega]
      · unfold vH
        rw [b8, if_neg (by omega)]
      · rw [b8, if_neg (by omega)]
      · rw [b8, if_neg (by omega)]
    refine act_rel (kd := 1) (sb := gwB (M2 69) c) (rg := 0) (bf := -1) (g := MB 158) (MA := MA) (M3 := M3) z1 hm2 hx2 (fun b j p1 p2 => Fy b j (by omega)) (fun b j z => Fo b j (by omega) (by omega)) (fun b j p1 p2 => Fo b j (by omega) (by omega)) (fun j p1 p2 => Fo _ _ (by omega) (by omega)) ?_ ?_ ?_ w1 bo ?_ rfl ?_
    · refine wfS_yr z1.1.1.1 (fun b p1 p2 p3 j => Fo b j p3 (by omega)) (fun s hs => ?_)
      rw [F81 s hs]
      exact gwY_rng hoc (fun j hj => by
        have := z1.2.2.1 j hj
        rw [← this.2]
        exact z1.1.1.1.2.2.2.2.2.2 j hj) c s hs
    · intro t ht
      obtain ⟨r1, r2, r3, r4, r5⟩ := hr t ht
      obtain ⟨v1, v2, v3, v4, v5⟩ := gv t ht
      rw [v1, v2, v3, v4, v5]
      refine ⟨?_, F81 t (by omega), ?_, ?_, ?_⟩
      · rw [tRw_fr (fun q hq j => Fo _ _ (by omega) (by omega))]; exact r1
      · rw [Fo _ _ (by omega) (by omega)]; exact r3
      · rw [Fo _ _ (by omega) (by omega)]; exact r4
      · rw [Fo _ _ (by omega) (by omega)]; exact r5
    · intro t ht
      obtain ⟨v1, v2, -⟩ := gv t ht
      obtain ⟨o1, o2, o3⟩ := rw' t ht
      refine ⟨by rw [v1]; exact o1, by rw [v2]; exact (gok.2 t ht).2, wfM_eq (fun q hq h4 => by rw [b8, if_neg (by omega)]) o3⟩
    · rw [bo 154 1 |> fun _ => w2 154 1 (by unfold growP; omega)]
      show (if 154 = 158 ∧ _ then _ else mKeep M3 154 1) = 0
      rw [if_neg (by omega), mKeep_o (by omega) (by omega)]
      exact w1.1
    · refine ⟨⟨by omega, gwB_in _ _, inR_0, fun z => absurd rfl z, fun z => by omega, fun z => by omega, fun z => by omega⟩, fun t ht => ?_⟩
      obtain ⟨v1, v2, v3, v4, v5⟩ := gv t ht
      refine ⟨?_, ?_, ?_, v4.symm, v5.symm⟩
      · unfold unT
        rw [if_neg (by omega), if_neg (by omega), if_neg (by omega), v1]
      · unfold unY
        rw [if_neg (by omega), v2, (row_Y hm2 ht).1]
        have bb := gwB_bt (W := M2 69) (t := t) (by omega) (c := c) (fun i hi => by
          have := gwP_in hoc gc hi
          rw [(gi.2.2 i hi).1]
          omega)
        have un := gw_un (t := t) hoc gc c (Nat.le_refl _)
        rcases un with ⟨u1, u2⟩ | ⟨u1, i, hi, e⟩
        · rw [if_neg (fun w => u2 (by
            obtain ⟨i, hi, e⟩ := bb.mp w.2
            exact ⟨i, hi, by rw [← (gi.2.2 i hi).1]; exact e⟩)), u1]
        · rw [if_pos ⟨rfl, bb.mpr ⟨i, hi, by rw [(gi.2.2 i hi).1]; exact e⟩⟩, u1]
      · unfold unH
        rw [if_neg (by omega), v3]
end SIM5
