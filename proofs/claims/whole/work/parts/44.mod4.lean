/-! THE REFERENCE, 4: its timbers, the rows laid out, the chronology. -/
theorem WPm.wrapL {mi : Nat} {Qc : Option AV → Mm → Prop} {pc : Nat} {ls ls1 : AL} {st : List AV} {M : Mm} (h : WPm mi Qc pc ls1 st M) (el : ls1.length = ls.length) (ev : ∀ i v, am_ld ls1 i = some v → ∃ w, am_ld ls i = some w ∧ ∀ adr, cvA adr w = cvA adr v) : WPm mi Qc pc ls st M := by
  intro p l e R s m args below meth c D tA adr adV F hr hlk H locs lsC g hl
  refine h p l e R s m args below meth c D tA adr adV F hr hlk H locs lsC g ⟨hl.1, hl.2.1, el.trans hl.2.2.1, fun i v q => ?_⟩
  obtain ⟨w, hw, e2⟩ := ev i v q
  rw [← e2 adr]
  exact hl.2.2.2 i w hw
theorem iN_wrapE (x : Int) : iN (iN x).toInt = iN x := iN_ti _
/-- a wrapped number: inside by 2^32 times something -/
theorem wrap_far {x : Int} (h : 2147483648 ≤ x) (h2 : x ≤ 2147490000) : (iN x).toInt = x - 4294967296 := by
  rw [iN, Int32.toInt_ofInt]
  have e : (Int32.size : Int) = 4294967296 := rfl
  have e2 := Int.bmod_eq_of_le (n := x - 4294967296) (m := Int32.size) (by rw [e]; omega) (by rw [e]; omega)
  rw [← e2]
  rw [Int.bmod_def, Int.bmod_def, e]
  omega
theorem wrap_neg {x : Int} (h : x < -2147483648) (h2 : -2147490000 ≤ x) : (iN x).toInt = x + 4294967296 := by
  rw [iN, Int32.toInt_ofInt]
  have e : (Int32.size : Int) = 4294967296 := rfl
  have e2 := Int.bmod_eq_of_le (n := x + 4294967296) (m := Int32.size) (by rw [e]; omega) (by rw [e]; omega)
  rw [← e2]
  rw [Int.bmod_def, Int.bmod_def, e]
  omega
/-- a timber of a row of 240 -/
def mRw (f : Nat → Int) (t : Nat) : Rw := (fun j => if (j : Int) < f (30 * t) then f (30 * t + 6 + j) else 0, f (30 * t), fun j => if (j : Int) < f (30 * t) then (if btI (f (30 * t + 5)) j = true then 1 else 0) else 0)
def wfM (f : Nat → Int) (t : Nat) : Prop := (0 ≤ f (30 * t + 1) ∧ f (30 * t + 1) ≤ 30) ∧ (0 ≤ f (30 * t + 2) ∧ f (30 * t + 2) ≤ 30) ∧ (0 ≤ f (30 * t + 3) ∧ f (30 * t + 3) ≤ 3) ∧ inR (f (30 * t + 5)) ∧ ∀ i : Nat, f (30 * t) ≤ i → btI (f (30 * t + 5)) i = false
/-- the reference's timbers: n, their rows T, years Y, lap, bound, margin -/
def mdl (M : Mm) (n : Nat) (T : Nat → Rw) (Y : Nat → Int) (lap bnd mrg : Int) : Prop := (M 156 0 = n ∧ n ≤ 8) ∧ (∀ t, t < n → mRw (M 158) t = T t ∧ M 158 (30 * t + 4) = Y t ∧ wfM (M 158) t) ∧ setM M lap bnd mrg ∧ okC T Y n
def scrM : Nat → Nat → Prop := fun b j => b = 154 ∧ (j = 1 ∨ 26 ≤ j ∧ j ≤ 57 ∨ 63 ≤ j ∧ j ≤ 68) ∨ 162 ≤ b ∧ b ≤ 180 ∨ b = 184 ∨ b = 185
theorem mdl_fr {n : Nat} {T : Nat → Rw} {Y : Nat → Int} {lap bnd mrg : Int} {P : Nat → Nat → Prop} {M M1 : Mm} (h : mdl M n T Y lap bnd mrg) (f : FrP P M M1) (hP : ∀ b j, P b j → b ≠ 156 ∧ b ≠ 158) : mdl M1 n T Y lap bnd mrg := by
  obtain ⟨h1, h2, h3, h4⟩ := h
  have e6 : ∀ j, M1 156 j = M 156 j := fun j => f _ _ (fun z => (hP _ _ z).1 rfl)
  have e8 : M1 158 = M 158 := funext (fun j => f _ _ (fun z => (hP _ _ z).2 rfl))
  exact ⟨by rw [e6]; exact h1, by rw [e8]; exact h2, setM_cells e6 h3, h4⟩
theorem scr_mdl : ∀ b j, scrM b j → b ≠ 156 ∧ b ≠ 158 := fun b j h => by unfold scrM at h; omega
theorem mdl_t {n t : Nat} {T : Nat → Rw} {Y : Nat → Int} {lap bnd mrg : Int} {M : Mm} (h : mdl M n T Y lap bnd mrg) (ht : t < n) : (n ≤ 8 ∧ M 158 (30 * t) = (T t).2.1) ∧ M 158 (30 * t + 4) = Y t ∧ (∀ j : Nat, (j : Int) < (T t).2.1 → M 158 (30 * t + 6 + j) = sN (T t) j) ∧ okT (T t) ∧ (-1 ≤ Y t ∧ Y t ≤ 900) ∧ wfM (M 158) t ∧ dbM (M 158 (30 * t + 5)) (T t) := by
  obtain ⟨h1, h2, h3, h4⟩ := h
  obtain ⟨e, e4, w⟩ := h2 t ht
  obtain ⟨o1, o2⟩ := h4.2 t ht
  have em : M 158 (30 * t) = (T t).2.1 := by rw [← e]; rfl
  refine ⟨⟨h1.2, em⟩, e4, fun j hj => ?_, o1, o2, w, w.2.2.2.1, fun k k0 k1 => ?_⟩
  · rw [← e] at hj ⊢
    unfold sN
    rw [if_pos ⟨by omega, hj⟩]
    show _ = if ((j : Int).toNat : Int) < M 158 (30 * t) then M 158 (30 * t + 6 + (j : Int).toNat) else 0
    have hj' : (j : Int) < M 158 (30 * t) := hj
    rw [natT, if_pos hj']
  · have o3 := o1.1
    have d : ∀ q : Int, 0 ≤ q → q < (T t).2.1 → (sD (T t) q ≠ 0 ↔ btI (M 158 (30 * t + 5)) q.toNat = true) := by
      intro q q0 q1
      rw [← e] at q1 ⊢
      unfold sD
      rw [if_pos ⟨q0, q1⟩]
      show (if (q.toNat : Int) < M 158 (30 * t) then (if btI (M 158 (30 * t + 5)) q.toNat = true then (1 : Int) else 0) else 0) ≠ 0 ↔ _
      have q1' : q < M 158 (30 * t) := q1
      rw [if_pos (by omega)]
      split <;> simp_all
    have d1 := d k k0 k1
    unfold sShk isD
    rw [if_cg (show (0 ≤ k ∧ k < (T t).2.1 ∧ (sD (T t) k ≠ 0 ∨ sD (T t) (k - 1) ≠ 0)) ↔ (k < 24 ∧ (btI (M 158 (30 * t + 5)) k.toNat = true ∨ 0 < k ∧ btI (M 158 (30 * t + 5)) (k - 1).toNat = true)) from ?_) rfl rfl]
    · split
      · exact ⟨fun _ => by assumption, fun _ => by omega⟩
      · exact ⟨fun z => absurd rfl z, fun z => absurd z (by assumption)⟩
    · by_cases k2 : 0 < k
      · have d2 := d (k - 1) (by omega) (by omega)
        rw [d1, d2]
        constructor
        · rintro ⟨-, -, z⟩
          repeat (first | refine ⟨by omega, ?_⟩ | refine ⟨fun _ _ => okt_nn (by omega), ?_⟩)
          try (first | (show _ ≤ _; omega) | (show _ < _; omega))
          exact z.imp_right (fun z => ⟨k2, z⟩)
        · rintro ⟨-, z⟩
          exact ⟨k0, k1, z.imp_right (fun z => z.2)⟩
      · have d3 : sD (T t) (k - 1) = 0 := if_neg (by omega)
        rw [d1, d3]
        constructor
        · rintro ⟨-, -, z | z⟩
          · repeat (first | refine ⟨by omega, ?_⟩ | refine ⟨fun _ _ => okt_nn (by omega), ?_⟩)
            try (first | (show _ ≤ _; omega) | (show _ < _; omega))
            exact Or.inl z
          · exact absurd rfl z
        · rintro ⟨-, z | z⟩
          · exact ⟨k0, k1, Or.inl z⟩
          · exact absurd z.1 k2
section OFM
variable {n t : Nat} {T : Nat → Rw} {Y : Nat → Int} {lap bnd mrg : Int} {M : Mm}
theorem of_k (ht : t < 8) (k : Nat) (hk : k < 30) {x : Int} (hx : x = k) : CallI m_Model_of [.inr 154, .inl (t : Int), .inl x] M (fun y M' => y = M 158 (30 * t + k) ∧ M' = M) := by
  subst hx
  have := Model_of_ok (t := (t : Int)) (k := (k : Int)) (M := M) ⟨by omega, by omega⟩
  rw [show (30 * (t : Int) + (k : Int)).toNat = 30 * t + k by omega] at this
  exact this
theorem of_many (h : mdl M n T Y lap bnd mrg) (ht : t < n) : CallI m_Model_of [.inr 154, .inl (t : Int), .inl 0] M (fun y M' => y = (T t).2.1 ∧ M' = M) := by
  have g := mdl_t h ht
  rw [← g.1.2]
  exact of_k (by omega) 0 (by omega) rfl
theorem of_year (h : mdl M n T Y lap bnd mrg) (ht : t < n) : CallI m_Model_of [.inr 154, .inl (t : Int), .inl 4] M (fun y M' => y = Y t ∧ M' = M) := by
  have g := mdl_t h ht
  rw [← g.2.1]
  exact of_k (by omega) 4 (by omega) rfl
theorem of_width (h : mdl M n T Y lap bnd mrg) (ht : t < n) {r : Int} (r0 : 0 ≤ r) (r1 : r < (T t).2.1) : CallI m_Model_of [.inr 154, .inl (t : Int), .inl (6 + r)] M (fun y M' => y = sN (T t) r ∧ M' = M) := by
  have g := mdl_t h ht
  have o := g.2.2.2.1.1
  have e := g.2.2.1 r.toNat (by omega)
  rw [show ((r.toNat : Nat) : Int) = r by omega] at e
  rw [← e]
  have := of_k (M := M) (t := t) (by omega) (6 + r.toNat) (by omega) (x := 6 + r) (by omega)
  rw [show 30 * t + (6 + r.toNat) = 30 * t + 6 + r.toNat by omega] at this
  exact this
theorem dated_m (h : mdl M n T Y lap bnd mrg) (ht : t < n) : CallI m_Model_isDated [.inr 154, .inl (t : Int)] M (fun y M' => y = (if Y t ≠ -1 then 1 else 0) ∧ M' = M) := by
  have g := mdl_t h ht
  have gy := g.2.2.2.2.1
  have e : (30 * (t : Int) + 4).toNat = 30 * t + 4 := by omega
  have := Model_isDated_ok (t := (t : Int)) (M := M) ⟨by omega, by omega⟩ (by rw [e, g.2.1]; exact ⟨by omega, by omega⟩)
  rw [e, g.2.1] at this
  exact this
end OFM
def mFil (M : Mm) (v : Nat) (g : Nat → Int) (i : Nat) : Mm := fun b j => if b = v ∧ j < i then g j else M b j
theorem mFil_s {M : Mm} {v : Nat} {g : Nat → Int} {i : Nat} : mset (mFil M v g i) v i (g i) = mFil M v g (i + 1) := by
  funext b j
  simp only [mset, mFil]
  grind
theorem mFil_0 {M : Mm} {v : Nat} {g : Nat → Int} : mFil M v g 0 = M := by
  funext b j
  simp [mFil]
theorem mTell_fin {M : Mm} {v : Nat} {A : Rw} (h : numM M v A) : finM (mTell M (v + 1) (v + 2) A A.2.1) v A := by
  obtain ⟨h1, h2, h3⟩ := h
  refine ⟨⟨h1, h2, fun j hj => ?_⟩, fun j hj => ⟨?_, ?_⟩⟩
  · rw [← h3 j hj]
    simp [mTell]
  · simp [mTell, hj]
  · simp [mTell, hj]
theorem mTell_fr {M : Mm} {s r : Nat} {A : Rw} {n : Int} : FrP (fun b _ => b = s ∨ b = r) M (mTell M s r A n) := by
  intro b j h
  simp only [mTell]
  grind
theorem mV_full {A : Rw} {k : Int} (h : fullR A) (h0 : 0 ≤ k) (h1 : k < A.2.1) : mV A k = sN A k := if_neg (h k h0 h1)
def layAP : Nat → Nat → Prop := fun b j => b = 154 ∧ (j = 26 ∨ j = 27 ∨ j = 30) ∨ 162 ≤ b ∧ b ≤ 164
def layBP : Nat → Nat → Prop := fun b j => b = 154 ∧ (j = 28 ∨ j = 29) ∨ 165 ≤ b ∧ b ≤ 167
set_option maxHeartbeats 600000 in
set_option maxRecDepth 20000 in
theorem Model_layA_ok {n t : Nat} {T : Nat → Rw} {Y : Nat → Int} {lap bnd mrg : Int} {M : Mm} (h : mdl M n T Y lap bnd mrg) (ht : t < n) : CallV m_Model_layA [.inr 154, .inl (t : Int)] M (fun M' => rowA M' (T t) ∧ M' 154 30 = 0 ∧ FrP layAP M M') := by
  have g := mdl_t h ht
  have o := g.2.2.2.1
  have o1 := o.1
  have f0 : FrP layAP M (mset M 154 26 (T t).2.1) := FrP.rf.st (Or.inl ⟨rfl, Or.inl rfl⟩)
  have f1 : FrP layAP M (mset (mset M 154 26 (T t).2.1) 154 27 (M 158 (30 * t + 5))) := f0.st (Or.inl ⟨rfl, Or.inr (Or.inl rfl)⟩)
  have f2 : FrP layAP M (mset (mset (mset M 154 26 (T t).2.1) 154 27 (M 158 (30 * t + 5))) 154 30 0) := f1.st (Or.inl ⟨rfl, Or.inr (Or.inr rfl)⟩)
  have sep : ∀ b j, layAP b j → b ≠ 156 ∧ b ≠ 158 := fun b j z => by unfold layAP at z; omega
  refine callP_of (by decide) (by decide) (Nat.le_of_ble_eq_true rfl) (wpm_of (cuts := [27]) (by decide) 50 _ _ _ _ ?_)
  rw [show lM m_Model_layA = 3 from rfl]
  simp (maxSteps := 2000000) only [↓reduceIte, wp_eq, wpd_eq, kont_eq, STP1, STP2, STP3, STP4, STP5, konM_eq, AMK, CZ, Option.map, List.getElem?_cons_zero, List.getElem?_cons_succ, List.mem_cons, List.not_mem_nil, if_false, if_true, Nat.reduceAdd, Nat.reduceLT, Nat.reduceLeDiff, Nat.reduceEqDiff, true_and, and_true, List.length_nil, List.length_cons, or_true, true_or, or_false, false_or, Option.some.injEq, Sum.inl.injEq, Sum.inr.injEq, exists_eq_left', exists_eq_left, Int.reduceLE, Int.reduceLT, Int.reduceNeg, Int.reduceAdd, Int.reduceMul, Int.reduceSub, Int.reduceToNat, inR, Nat.zero_ne_one, false_and, Nat.succ_ne_zero, reduceCtorEq, false_implies, true_implies, not_false_eq_true, not_true_eq_false, Int.reduceEq, KRE, C_Model_layA, FM]
  refine (of_many h ht).eq ?_
  try simp (maxSteps := 2000000) only [↓reduceIte, wp_eq, wpd_eq, kont_eq, STP1, STP2, STP3, STP4, STP5, konM_eq, AMK, CZ, Option.map, List.getElem?_cons_zero, List.getElem?_cons_succ, List.mem_cons, List.not_mem_nil, if_false, if_true, Nat.reduceAdd, Nat.reduceLT, Nat.reduceLeDiff, Nat.reduceEqDiff, true_and, and_true, List.length_nil, List.length_cons, or_true, true_or, or_false, false_or, Option.some.injEq, Sum.inl.injEq, Sum.inr.injEq, exists_eq_left', exists_eq_left, Int.reduceLE, Int.reduceLT, Int.reduceNeg, Int.reduceAdd, Int.reduceMul, Int.reduceSub, Int.reduceToNat, inR, Nat.zero_ne_one, false_and, Nat.succ_ne_zero, reduceCtorEq, false_implies, true_implies, not_false_eq_true, not_true_eq_false, Int.reduceEq, KRE, C_Model_layA, FM]
  have e5 : M 158 (30 * t + 5) = mset M 154 26 (T t).2.1 158 (30 * t + 5) := (f0 _ _ (by unfold layAP; omega)).symm
  refine (of_k (by omega) 5 (by omega) rfl).eq ?_
  rw [← e5]
  try simp (maxSteps := 2000000) only [↓reduceIte, wp_eq, wpd_eq, kont_eq, STP1, STP2, STP3, STP4, STP5, konM_eq, AMK, CZ, Option.map, List.getElem?_cons_zero, List.getElem?_cons_succ, List.mem_cons, List.not_mem_nil, if_false, if_true, Nat.reduceAdd, Nat.reduceLT, Nat.reduceLeDiff, Nat.reduceEqDiff, true_and, and_true, List.length_nil, List.length_cons, or_true, true_or, or_false, false_or, Option.some.injEq, Sum.inl.injEq, Sum.inr.injEq, exists_eq_left', exists_eq_left, Int.reduceLE, Int.reduceLT, Int.reduceNeg, Int.reduceAdd, Int.reduceMul, Int.reduceSub, Int.reduceToNat, inR, Nat.zero_ne_one, false_and, Nat.succ_ne_zero, reduceCtorEq, false_implies, true_implies, not_false_eq_true, not_true_eq_false, Int.reduceEq, KRE, C_Model_layA, FM]
  refine loopQ (T t).2.1.toNat (fun k ls M1 => M1 = mFil (mset (mset (mset M 154 26 (T t).2.1) 154 27 (M 158 (30 * t + 5))) 154 30 0) 162 (fun j => sN (T t) j) k ∧ ls = [some (.inr 154), some (.inl (t : Int)), some (.inl k)]) ?_ _ _ ⟨mFil_0.symm, rfl⟩
  rintro k _ _ hk ⟨rfl, rfl⟩ K
  have e26 : mFil (mset (mset (mset M 154 26 (T t).2.1) 154 27 (M 158 (30 * t + 5))) 154 30 0) 162 (fun j => sN (T t) j) k 154 26 = (T t).2.1 := by simp [mFil, mset]
  have f3 : FrP layAP M (mFil (mset (mset (mset M 154 26 (T t).2.1) 154 27 (M 158 (30 * t + 5))) 154 30 0) 162 (fun j => sN (T t) j) k) := by
    intro b j z
    rw [← f2 b j z]
    unfold layAP at z
    simp only [mFil]
    rw [if_neg (by omega)]
  by_cases c : (T t).2.1 ≤ k
  · have c' := eq_true c
    have hk9 : (k : Int) = (T t).2.1 := by omega
    have e27 : mFil (mset (mset (mset M 154 26 (T t).2.1) 154 27 (M 158 (30 * t + 5))) 154 30 0) 162 (fun j => sN (T t) j) k 154 27 = M 158 (30 * t + 5) := by simp [mFil, mset]
    have e30 : mFil (mset (mset (mset M 154 26 (T t).2.1) 154 27 (M 158 (30 * t + 5))) 154 30 0) 162 (fun j => sN (T t) j) k 154 30 = 0 := by simp [mFil, mset]
    have num : numM (mFil (mset (mset (mset M 154 26 (T t).2.1) 154 27 (M 158 (30 * t + 5))) 154 30 0) 162 (fun j => sN (T t) j) k) 162 (T t) := by
      refine ⟨by omega, okT_R o, fun j hj => ?_⟩
      rw [mV_full (okT_full o) (by omega) hj]
      simp only [mFil]
      rw [if_pos (by first | exact ⟨rfl, by omega⟩ | exact ⟨trivial, by omega⟩ | (simp; omega))]
    generalize mFil (mset (mset (mset M 154 26 (T t).2.1) 154 27 (M 158 (30 * t + 5))) 154 30 0) 162 (fun j => sN (T t) j) k = M1 at *
    refine wpm_of (cuts := [27]) (by decide) 50 _ _ _ _ ?_
    simp (maxSteps := 2000000) only [↓reduceIte, wp_eq, wpd_eq, kont_eq, STP1, STP2, STP3, STP4, STP5, konM_eq, AMK, CZ, Option.map, List.getElem?_cons_zero, List.getElem?_cons_succ, List.mem_cons, List.not_mem_nil, if_false, if_true, Nat.reduceAdd, Nat.reduceLT, Nat.reduceLeDiff, Nat.reduceEqDiff, true_and, and_true, List.length_nil, List.length_cons, or_true, true_or, or_false, false_or, Option.some.injEq, Sum.inl.injEq, Sum.inr.injEq, exists_eq_left', exists_eq_left, Int.reduceLE, Int.reduceLT, Int.reduceNeg, Int.reduceAdd, Int.reduceMul, Int.reduceSub, Int.reduceToNat, inR, Nat.zero_ne_one, false_and, Nat.succ_ne_zero, reduceCtorEq, false_implies, true_implies, not_false_eq_true, not_true_eq_false, Int.reduceEq, KRE, C_Model_layA, FM, e26, c']
    repeat (first | refine ⟨by omega, ?_⟩ | refine ⟨fun _ _ => okt_nn (by omega), ?_⟩)
    try (first | (show _ ≤ _; omega) | (show _ < _; omega))
    refine (Model_tellRow_ok (a := 162) (s := 163) (r := 164) (len := 1000) (by simp only [FM]) (by simp only [FM]) (by simp only [FM]) (by omega) rfl (by omega) (by omega) num).eq ?_
    have f4 := mTell_fr (M := M1) (s := 163) (r := 164) (A := T t) (n := (T t).2.1)
    refine ⟨⟨?_, by omega, mTell_fin num, ?_⟩, ?_, f3.tr (f4.wd (fun b j z => Or.inr (by omega)))⟩
    · rw [f4 _ _ (by omega), e26]
    · rw [f4 _ _ (by omega), e27]; exact g.2.2.2.2.2.2
    · rw [f4 _ _ (by omega), e30]
  · have c' := eq_false c
    have h3 := mdl_fr h f3 sep
    have K' := K (by omega) _ _ ⟨rfl, rfl⟩
    rw [← mFil_s] at K'
    refine wpm_of (cuts := [27]) (by decide) 50 _ _ _ _ ?_
    simp (maxSteps := 2000000) only [↓reduceIte, wp_eq, wpd_eq, kont_eq, STP1, STP2, STP3, STP4, STP5, konM_eq, AMK, CZ, Option.map, List.getElem?_cons_zero, List.getElem?_cons_succ, List.mem_cons, List.not_mem_nil, if_false, if_true, Nat.reduceAdd, Nat.reduceLT, Nat.reduceLeDiff, Nat.reduceEqDiff, true_and, and_true, List.length_nil, List.length_cons, or_true, true_or, or_false, false_or, Option.some.injEq, Sum.inl.injEq, Sum.inr.injEq, exists_eq_left', exists_eq_left, Int.reduceLE, Int.reduceLT, Int.reduceNeg, Int.reduceAdd, Int.reduceMul, Int.reduceSub, Int.reduceToNat, inR, Nat.zero_ne_one, false_and, Nat.succ_ne_zero, reduceCtorEq, false_implies, true_implies, not_false_eq_true, not_true_eq_false, Int.reduceEq, KRE, C_Model_layA, FM, e26, c']
    repeat (first | refine ⟨by omega, ?_⟩ | refine ⟨fun _ _ => okt_nn (by omega), ?_⟩)
    try (first | (show _ ≤ _; omega) | (show _ < _; omega))
    refine (of_width h3 ht (by omega) (by omega)).eq ?_
    try simp (maxSteps := 2000000) only [↓reduceIte, wp_eq, wpd_eq, kont_eq, STP1, STP2, STP3, STP4, STP5, konM_eq, AMK, CZ, Option.map, List.getElem?_cons_zero, List.getElem?_cons_succ, List.mem_cons, List.not_mem_nil, if_false, if_true, Nat.reduceAdd, Nat.reduceLT, Nat.reduceLeDiff, Nat.reduceEqDiff, true_and, and_true, List.length_nil, List.length_cons, or_true, true_or, or_false, false_or, Option.some.injEq, Sum.inl.injEq, Sum.inr.injEq, exists_eq_left', exists_eq_left, Int.reduceLE, Int.reduceLT, Int.reduceNeg, Int.reduceAdd, Int.reduceMul, Int.reduceSub, Int.reduceToNat, inR, Nat.zero_ne_one, false_and, Nat.succ_ne_zero, reduceCtorEq, false_implies, true_implies, not_false_eq_true, not_true_eq_false, Int.reduceEq, KRE, C_Model_layA, FM]
    repeat (first | refine ⟨by omega, ?_⟩ | refine ⟨fun _ _ => okt_nn (by omega), ?_⟩)
    try (first | (show _ ≤ _; omega) | (show _ < _; omega))
    exact K'
set_option maxHeartbeats 600000 in
set_option maxRecDepth 20000 in
theorem Model_tellB_ok {B : Rw} {M : Mm} (h1 : M 154 28 = B.2.1) (h2 : B.2.1 ≤ 24) (num : numM M 165 B) : CallV m_Model_tellB [.inr 154] M (fun M' => M' = mTell M 166 167 B B.2.1) := by
  refine callP_of (by decide) (by decide) (Nat.le_of_ble_eq_true rfl) (wpm_of (cuts := []) (by decide) 50 _ _ _ _ ?_)
  rw [show lM m_Model_tellB = 1 from rfl]
  simp (maxSteps := 2000000) only [↓reduceIte, wp_eq, wpd_eq, kont_eq, STP1, STP2, STP3, STP4, STP5, konM_eq, AMK, CZ, Option.map, List.getElem?_cons_zero, List.getElem?_cons_succ, List.mem_cons, List.not_mem_nil, if_false, if_true, Nat.reduceAdd, Nat.reduceLT, Nat.reduceLeDiff, Nat.reduceEqDiff, true_and, and_true, List.length_nil, List.length_cons, or_true, true_or, or_false, false_or, Option.some.injEq, Sum.inl.injEq, Sum.inr.injEq, exists_eq_left', exists_eq_left, Int.reduceLE, Int.reduceLT, Int.reduceNeg, Int.reduceAdd, Int.reduceMul, Int.reduceSub, Int.reduceToNat, inR, Nat.zero_ne_one, false_and, Nat.succ_ne_zero, reduceCtorEq, false_implies, true_implies, not_false_eq_true, not_true_eq_false, Int.reduceEq, KRE, C_Model_tellB, FM, h1]
  exact Model_tellRow_ok (a := 165) (s := 166) (r := 167) (len := 25) (by simp only [FM]) (by simp only [FM]) (by simp only [FM]) (by omega) rfl (by omega) (by omega) num
set_option maxHeartbeats 600000 in
set_option maxRecDepth 20000 in
theorem Model_layB_ok {n t : Nat} {T : Nat → Rw} {Y : Nat → Int} {lap bnd mrg : Int} {M : Mm} (h : mdl M n T Y lap bnd mrg) (ht : t < n) : CallV m_Model_layB [.inr 154, .inl (t : Int)] M (fun M' => rowB M' (T t) ∧ FrP layBP M M') := by
  have g := mdl_t h ht
  have o := g.2.2.2.1
  have o1 := o.1
  have f0 : FrP layBP M (mset M 154 28 (T t).2.1) := FrP.rf.st (Or.inl ⟨rfl, Or.inl rfl⟩)
  have f2 : FrP layBP M (mset (mset M 154 28 (T t).2.1) 154 29 (M 158 (30 * t + 5))) := f0.st (Or.inl ⟨rfl, Or.inr rfl⟩)
  have sep : ∀ b j, layBP b j → b ≠ 156 ∧ b ≠ 158 := fun b j z => by unfold layBP at z; omega
  refine callP_of (by decide) (by decide) (Nat.le_of_ble_eq_true rfl) (wpm_of (cuts := [22]) (by decide) 50 _ _ _ _ ?_)
  rw [show lM m_Model_layB = 3 from rfl]
  simp (maxSteps := 2000000) only [↓reduceIte, wp_eq, wpd_eq, kont_eq, STP1, STP2, STP3, STP4, STP5, konM_eq, AMK, CZ, Option.map, List.getElem?_cons_zero, List.getElem?_cons_succ, List.mem_cons, List.not_mem_nil, if_false, if_true, Nat.reduceAdd, Nat.reduceLT, Nat.reduceLeDiff, Nat.reduceEqDiff, true_and, and_true, List.length_nil, List.length_cons, or_true, true_or, or_false, false_or, Option.some.injEq, Sum.inl.injEq, Sum.inr.injEq, exists_eq_left', exists_eq_left, Int.reduceLE, Int.reduceLT, Int.reduceNeg, Int.reduceAdd, Int.reduceMul, Int.reduceSub, Int.reduceToNat, inR, Nat.zero_ne_one, false_and, Nat.succ_ne_zero, reduceCtorEq, false_implies, true_implies, not_false_eq_true, not_true_eq_false, Int.reduceEq, KRE, C_Model_layB, FM]
  refine (of_many h ht).eq ?_
  try simp (maxSteps := 2000000) only [↓reduceIte, wp_eq, wpd_eq, kont_eq, STP1, STP2, STP3, STP4, STP5, konM_eq, AMK, CZ, Option.map, List.getElem?_cons_zero, List.getElem?_cons_succ, List.mem_cons, List.not_mem_nil, if_false, if_true, Nat.reduceAdd, Nat.reduceLT, Nat.reduceLeDiff, Nat.reduceEqDiff, true_and, and_true, List.length_nil, List.length_cons, or_true, true_or, or_false, false_or, Option.some.injEq, Sum.inl.injEq, Sum.inr.injEq, exists_eq_left', exists_eq_left, Int.reduceLE, Int.reduceLT, Int.reduceNeg, Int.reduceAdd, Int.reduceMul, Int.reduceSub, Int.reduceToNat, inR, Nat.zero_ne_one, false_and, Nat.succ_ne_zero, reduceCtorEq, false_implies, true_implies, not_false_eq_true, not_true_eq_false, Int.reduceEq, KRE, C_Model_layB, FM]
  have e5 : M 158 (30 * t + 5) = mset M 154 28 (T t).2.1 158 (30 * t + 5) := (f0 _ _ (by unfold layBP; omega)).symm
  refine (of_k (by omega) 5 (by omega) rfl).eq ?_
  rw [← e5]
  try simp (maxSteps := 2000000) only [↓reduceIte, wp_eq, wpd_eq, kont_eq, STP1, STP2, STP3, STP4, STP5, konM_eq, AMK, CZ, Option.map, List.getElem?_cons_zero, List.getElem?_cons_succ, List.mem_cons, List.not_mem_nil, if_false, if_true, Nat.reduceAdd, Nat.reduceLT, Nat.reduceLeDiff, Nat.reduceEqDiff, true_and, and_true, List.length_nil, List.length_cons, or_true, true_or, or_false, false_or, Option.some.injEq, Sum.inl.injEq, Sum.inr.injEq, exists_eq_left', exists_eq_left, Int.reduceLE, Int.reduceLT, Int.reduceNeg, Int.reduceAdd, Int.reduceMul, Int.reduceSub, Int.reduceToNat, inR, Nat.zero_ne_one, false_and, Nat.succ_ne_zero, reduceCtorEq, false_implies, true_implies, not_false_eq_true, not_true_eq_false, Int.reduceEq, KRE, C_Model_layB, FM]
  refine loopQ (T t).2.1.toNat (fun k ls M1 => M1 = mFil (mset (mset M 154 28 (T t).2.1) 154 29 (M 158 (30 * t + 5))) 165 (fun j => sN (T t) j) k ∧ ls = [some (.inr 154), some (.inl (t : Int)), some (.inl k)]) ?_ _ _ ⟨mFil_0.symm, rfl⟩
  rintro k _ _ hk ⟨rfl, rfl⟩ K
  have e26 : mFil (mset (mset M 154 28 (T t).2.1) 154 29 (M 158 (30 * t + 5))) 165 (fun j => sN (T t) j) k 154 28 = (T t).2.1 := by simp [mFil, mset]
  have f3 : FrP layBP M (mFil (mset (mset M 154 28 (T t).2.1) 154 29 (M 158 (30 * t + 5))) 165 (fun j => sN (T t) j) k) := by
    intro b j z
    rw [← f2 b j z]
    unfold layBP at z
    simp only [mFil]
    rw [if_neg (by omega)]
  by_cases c : (T t).2.1 ≤ k
  · have c' := eq_true c
    have hk9 : (k : Int) = (T t).2.1 := by omega
    have e27 : mFil (mset (mset M 154 28 (T t).2.1) 154 29 (M 158 (30 * t + 5))) 165 (fun j => sN (T t) j) k 154 29 = M 158 (30 * t + 5) := by simp [mFil, mset]
    have num : numM (mFil (mset (mset M 154 28 (T t).2.1) 154 29 (M 158 (30 * t + 5))) 165 (fun j => sN (T t) j) k) 165 (T t) := by
      refine ⟨by omega, okT_R o, fun j hj => ?_⟩
      rw [mV_full (okT_full o) (by omega) hj]
      simp only [mFil]
      rw [if_pos (by first | exact ⟨rfl, by omega⟩ | exact ⟨trivial, by omega⟩ | (simp; omega))]
    generalize mFil (mset (mset M 154 28 (T t).2.1) 154 29 (M 158 (30 * t + 5))) 165 (fun j => sN (T t) j) k = M1 at *
    refine wpm_of (cuts := [22]) (by decide) 50 _ _ _ _ ?_
    simp (maxSteps := 2000000) only [↓reduceIte, wp_eq, wpd_eq, kont_eq, STP1, STP2, STP3, STP4, STP5, konM_eq, AMK, CZ, Option.map, List.getElem?_cons_zero, List.getElem?_cons_succ, List.mem_cons, List.not_mem_nil, if_false, if_true, Nat.reduceAdd, Nat.reduceLT, Nat.reduceLeDiff, Nat.reduceEqDiff, true_and, and_true, List.length_nil, List.length_cons, or_true, true_or, or_false, false_or, Option.some.injEq, Sum.inl.injEq, Sum.inr.injEq, exists_eq_left', exists_eq_left, Int.reduceLE, Int.reduceLT, Int.reduceNeg, Int.reduceAdd, Int.reduceMul, Int.reduceSub, Int.reduceToNat, inR, Nat.zero_ne_one, false_and, Nat.succ_ne_zero, reduceCtorEq, false_implies, true_implies, not_false_eq_true, not_true_eq_false, Int.reduceEq, KRE, C_Model_layB, FM, e26, c']
    repeat (first | refine ⟨by omega, ?_⟩ | refine ⟨fun _ _ => okt_nn (by omega), ?_⟩)
    try (first | (show _ ≤ _; omega) | (show _ < _; omega))
    refine (Model_tellB_ok e26 (by omega) num).eq ?_
    have f4 := mTell_fr (M := M1) (s := 166) (r := 167) (A := T t) (n := (T t).2.1)
    refine ⟨⟨?_, by omega, mTell_fin num, ?_, okT_full o⟩, f3.tr (f4.wd (fun b j z => Or.inr (by omega)))⟩
    · rw [f4 _ _ (by omega), e26]
    · rw [f4 _ _ (by omega), e27]; exact g.2.2.2.2.2.2
  · have c' := eq_false c
    have h3 := mdl_fr h f3 sep
    have K' := K (by omega) _ _ ⟨rfl, rfl⟩
    rw [← mFil_s] at K'
    refine wpm_of (cuts := [22]) (by decide) 50 _ _ _ _ ?_
    simp (maxSteps := 2000000) only [↓reduceIte, wp_eq, wpd_eq, kont_eq, STP1, STP2, STP3, STP4, STP5, konM_eq, AMK, CZ, Option.map, List.getElem?_cons_zero, List.getElem?_cons_succ, List.mem_cons, List.not_mem_nil, if_false, if_true, Nat.reduceAdd, Nat.reduceLT, Nat.reduceLeDiff, Nat.reduceEqDiff, true_and, and_true, List.length_nil, List.length_cons, or_true, true_or, or_false, false_or, Option.some.injEq, Sum.inl.injEq, Sum.inr.injEq, exists_eq_left', exists_eq_left, Int.reduceLE, Int.reduceLT, Int.reduceNeg, Int.reduceAdd, Int.reduceMul, Int.reduceSub, Int.reduceToNat, inR, Nat.zero_ne_one, false_and, Nat.succ_ne_zero, reduceCtorEq, false_implies, true_implies, not_false_eq_true, not_true_eq_false, Int.reduceEq, KRE, C_Model_layB, FM, e26, c']
    repeat (first | refine ⟨by omega, ?_⟩ | refine ⟨fun _ _ => okt_nn (by omega), ?_⟩)
    try (first | (show _ ≤ _; omega) | (show _ < _; omega))
    refine (of_width h3 ht (by omega) (by omega)).eq ?_
    try simp (maxSteps := 2000000) only [↓reduceIte, wp_eq, wpd_eq, kont_eq, STP1, STP2, STP3, STP4, STP5, konM_eq, AMK, CZ, Option.map, List.getElem?_cons_zero, List.getElem?_cons_succ, List.mem_cons, List.not_mem_nil, if_false, if_true, Nat.reduceAdd, Nat.reduceLT, Nat.reduceLeDiff, Nat.reduceEqDiff, true_and, and_true, List.length_nil, List.length_cons, or_true, true_or, or_false, false_or, Option.some.injEq, Sum.inl.injEq, Sum.inr.injEq, exists_eq_left', exists_eq_left, Int.reduceLE, Int.reduceLT, Int.reduceNeg, Int.reduceAdd, Int.reduceMul, Int.reduceSub, Int.reduceToNat, inR, Nat.zero_ne_one, false_and, Nat.succ_ne_zero, reduceCtorEq, false_implies, true_implies, not_false_eq_true, not_true_eq_false, Int.reduceEq, KRE, C_Model_layB, FM]
    repeat (first | refine ⟨by omega, ?_⟩ | refine ⟨fun _ _ => okt_nn (by omega), ?_⟩)
    try (first | (show _ ≤ _; omega) | (show _ < _; omega))
    exact K'
