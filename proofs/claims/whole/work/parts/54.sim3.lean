/-! THE CALLS, 3: acts, what both have. -/
def eq24 (f g : Nat → Int) : Prop := ∀ j, j < 240 → f j = g j
theorem vT_eq {f g : Nat → Int} (h : eq24 f g) {t : Nat} (ht : t < 8) (hl : (vT g t).2.1 ≤ 24) : vT f t = vT g t := mRw_eq (fun k hk _ => h _ (by omega)) hl
theorem rowW_eq {f g : Nat → Int} {n : Nat} (h : eq24 f g) (hn : n ≤ 8) (hw : rowW g n) : rowW f n := by
  intro t ht
  obtain ⟨h1, h2, h3⟩ := hw t ht
  refine ⟨?_, ?_, wfM_eq (fun k hk _ => h _ (by omega)) h3⟩
  · rw [vT_eq h (by omega) h1.1.2]; exact h1
  · unfold vY at *
    rw [h _ (by omega)]
    exact h2
theorem unR_eq {kd sb rg bf : Int} {f f' g g' : Nat → Int} {n : Nat} (hf : eq24 f f') (hg : eq24 g g') (hn : n ≤ 8) (wf : rowW f' n) (wg : rowW g' n) (h : unR kd sb rg bf n f' g') : unR kd sb rg bf n f g := by
  have ef : ∀ t, t < n → vT f t = vT f' t := fun t ht => vT_eq hf (by omega) (wf t ht).1.1.2
  have eg : ∀ t, t < n → vT g t = vT g' t := fun t ht => vT_eq hg (by omega) (wg t ht).1.1.2
  obtain ⟨⟨u1, u2, u3, u4, u5, u6, u7⟩, h2⟩ := h
  refine ⟨⟨u1, u2, u3, u4, fun z => ?_, fun z => ?_, fun z => ?_⟩, fun t ht => ?_⟩
  · have := u4 (by omega)
    rw [ef _ (by omega)]; exact u5 z
  · have := u4 (by omega)
    rw [ef _ (by omega)]; exact u6 z
  · have := u4 (by omega)
    rw [ef _ (by omega)]; exact u7 z
  · obtain ⟨a1, a2, a3, a4, a5⟩ := h2 t ht
    refine ⟨?_, ?_, ?_, ?_, ?_⟩
    · rw [eg t ht, a1]
      unfold unT
      rw [ef t ht]
    · have e1 : vY g t = vY g' t := hg _ (by omega)
      have e2 : vY f t = vY f' t := hf _ (by omega)
      rw [e1, a2]
      unfold unY
      rw [e2]
    · have e1 : vH g t = vH g' t := hg _ (by omega)
      have e2 : vH f t = vH f' t := hf _ (by omega)
      rw [e1, a3]
      unfold unH
      rw [e2]
    · rw [hg _ (by omega), hf _ (by omega)]; exact a4
    · rw [hg _ (by omega), hf _ (by omega)]; exact a5
theorem ledR_at {M : Mm} {l n a : Nat} {p f : Nat → Int} (h : ledR M l n a p f) {i : Nat} (hi : i ≤ a) : rowW (pAt p f a i) n := by
  obtain ⟨-, -, h3, h4⟩ := h
  by_cases c : i = a
  · unfold pAt
    rw [if_pos c]
    exact h3
  · exact (h4 i (by omega)).2
theorem mKeep_P {M : Mm} {a : Nat} (ha : M 154 58 = a) (h40 : a ≤ 40) : (mKeep M 154 58 = if a < 40 then (a : Int) + 1 else 40) ∧ ∀ i, i < 40 → ∀ j, j < 240 → mKeep M 181 (240 * i + j) = if a < 40 then (if i = a then M 158 j else M 181 (240 * i + j)) else (if i = 39 then M 158 j else M 181 (240 * (i + 1) + j)) := by
  have p := (mPs_58 (M := M) (by omega) (by omega)).2.2
  by_cases c : a < 40
  · have e : mPs M = M := by
      unfold mPs
      rw [if_neg (by omega)]
    refine ⟨?_, fun i hi j hj => ?_⟩
    · rw [if_pos c]
      unfold mKeep
      rw [e, ha]
      simp [mset]
    · rw [if_pos c]
      unfold mKeep
      rw [e, ha]
      show (if 181 = 154 ∧ 240 * i + j = 58 then _ else if 181 = 181 ∧ 240 * (a : Int).toNat ≤ 240 * i + j ∧ 240 * i + j < 240 * (a : Int).toNat + 240 then M 158 (240 * i + j - 240 * (a : Int).toNat) else M 181 (240 * i + j)) = _
      rw [if_neg (by omega), natT]
      by_cases ci : i = a
      · subst ci
        rw [if_pos (by omega), if_pos rfl]
        congr 1
        omega
      · rw [if_neg (by omega), if_neg ci]
  · have e40 : a = 40 := by omega
    have e58 : mPs M 154 58 = 39 := by rw [p, if_pos (by omega)]
    have e181 : ∀ j, j < 9360 → mPs M 181 j = M 181 (j + 240) := by
      intro j hj
      unfold mPs
      rw [if_pos (by omega)]
      show (if 181 = 154 ∧ j = 58 then (39 : Int) else if 181 = 181 ∧ j < 9360 then M 181 (j + 240) else M 181 j) = _
      rw [if_neg (by omega), if_pos ⟨rfl, hj⟩]
    refine ⟨?_, fun i hi j hj => ?_⟩
    · rw [if_neg c]
      unfold mKeep
      rw [e58]
      simp [mset]
    · rw [if_neg c]
      unfold mKeep
      rw [e58]
      show (if 181 = 154 ∧ 240 * i + j = 58 then _ else if 181 = 181 ∧ 240 * (39 : Int).toNat ≤ 240 * i + j ∧ 240 * i + j < 240 * (39 : Int).toNat + 240 then M 158 (240 * i + j - 240 * (39 : Int).toNat) else mPs M 181 (240 * i + j)) = _
      rw [if_neg (by omega), show (39 : Int).toNat = 39 from rfl]
      by_cases ci : i = 39
      · subst ci
        rw [if_pos (by omega), if_pos rfl, show 240 * 39 + j - 240 * 39 = j by omega]
      · rw [if_neg (by omega), if_neg ci, e181 _ (by omega), show 240 * i + j + 240 = 240 * (i + 1) + j by omega]
/-- what the four rows of the class's ledger hold behind a record -/
def vRec (kd sb rg bf : Int) (q : Nat) : Int := if q = 1 then kd else if q = 2 then sb else if q = 3 then rg else bf
theorem mRec_P {M : Mm} {a : Nat} {kd sb rg bf : Int} (ha : M 106 4 = a) (h40 : a ≤ 40) : (mRec M 106 kd sb rg bf 106 4 = if a < 40 then (a : Int) + 1 else 40) ∧ ∀ q, 1 ≤ q → q ≤ 4 → ∀ i, i < 40 → mRec M 106 kd sb rg bf (106 + q) i = if a < 40 then (if i = a then vRec kd sb rg bf q else M (106 + q) i) else (if i = 39 then vRec kd sb rg bf q else M (106 + q) (i + 1)) := by
  by_cases c : a < 40
  · have e : mLedR M 106 = M := by
      unfold mLedR
      rw [if_pos (by omega)]
    unfold mRec
    rw [e, ha, natT, if_pos c]
    refine ⟨by simp [mset], fun q h1 h4 i hi => ?_⟩
    rw [if_pos c]
    rcases (show q = 1 ∨ q = 2 ∨ q = 3 ∨ q = 4 by omega) with rfl | rfl | rfl | rfl <;> simp [mset, vRec]
  · have e : mLedR M 106 = mset (mDrp M 106 40) 106 4 39 := by
      unfold mLedR
      rw [if_neg (by omega)]
    have e4 : mset (mDrp M 106 40) 106 4 39 106 4 = 39 := by simp [mset]
    unfold mRec
    rw [e, e4, show (39 : Int).toNat = 39 from rfl, if_neg c]
    refine ⟨by simp [mset], fun q h1 h4 i hi => ?_⟩
    rw [if_neg c]
    have ed : ∀ b, 107 ≤ b → b ≤ 110 → i ≠ 39 → mDrp M 106 40 b i = M b (i + 1) := fun b p1 p2 p3 => if_pos (by omega)
    by_cases ci : i = 39
    · subst ci
      rcases (show q = 1 ∨ q = 2 ∨ q = 3 ∨ q = 4 by omega) with rfl | rfl | rfl | rfl <;> simp [mset, vRec]
    · rcases (show q = 1 ∨ q = 2 ∨ q = 3 ∨ q = 4 by omega) with rfl | rfl | rfl | rfl <;> simp [mset, vRec, ci, ed _ _ _ ci]
/-- the ledger and the past behind an act -/
theorem led_act {M MB : Mm} {n a : Nat} {kd sb rg bf : Int} {g : Nat → Int} (hn : n ≤ 8) (hl : ledR M 106 n a (M 181) (M 158))
    (e0 : MB 106 4 = if a < 40 then (a : Int) + 1 else 40) (e1 : ∀ q, 1 ≤ q → q ≤ 4 → ∀ i, i < 40 → MB (106 + q) i = if a < 40 then (if i = a then vRec kd sb rg bf q else M (106 + q) i) else (if i = 39 then vRec kd sb rg bf q else M (106 + q) (i + 1)))
    (e2 : MB 154 58 = if a < 40 then (a : Int) + 1 else 40) (e3 : ∀ i, i < 40 → ∀ j, j < 240 → MB 181 (240 * i + j) = if a < 40 then (if i = a then M 158 j else M 181 (240 * i + j)) else (if i = 39 then M 158 j else M 181 (240 * (i + 1) + j)))
    (hu : unR kd sb rg bf n g (M 158)) (hw : rowW g n) : ∃ a', MB 154 58 = (a' : Nat) ∧ ledR MB 106 n a' (MB 181) g := by
  have at' := fun {i} => ledR_at hl (i := i)
  obtain ⟨h1, h2, h3, h4⟩ := hl
  by_cases c : a < 40
  · rw [if_pos c] at e0 e2
    refine ⟨a + 1, by omega, by omega, by omega, hw, fun i hi => ?_⟩
    have q1 := e1 1 (by omega) (by omega) i (by omega)
    have q2 := e1 2 (by omega) (by omega) i (by omega)
    have q3 := e1 3 (by omega) (by omega) i (by omega)
    have q4 := e1 4 (by omega) (by omega) i (by omega)
    rw [if_pos c] at q1 q2 q3 q4
    rw [q1, q2, q3, q4]
    by_cases ci : i = a
    · subst ci
      have eg : eq24 (pAt (MB 181) g (i + 1) i) (M 158) := by
        intro j hj
        show (if i = i + 1 then g else fun j => MB 181 (240 * i + j)) j = _
        rw [if_neg (by omega)]
        rw [e3 i (by omega) j hj, if_pos c, if_pos rfl]
      have eg2 : pAt (MB 181) g (i + 1) (i + 1) = g := if_pos rfl
      rw [eg2]
      simp only [if_true]
      refine ⟨unR_eq (fun j _ => rfl) eg hn hw h3 ?_, rowW_eq eg hn h3⟩
      exact hu
    · have hia : i < a := by omega
      simp only [ci, if_false]
      obtain ⟨o1, o2⟩ := h4 i hia
      have eg : ∀ d, d ≤ a → eq24 (pAt (MB 181) g (a + 1) d) (pAt (M 181) (M 158) a d) := by
        intro d hd j hj
        show (if d = a + 1 then g else fun j => MB 181 (240 * d + j)) j = (if d = a then M 158 else fun j => M 181 (240 * d + j)) j
        rw [if_neg (by omega)]
        rw [e3 d (by omega) j hj, if_pos c]
        by_cases cd : d = a
        · rw [if_pos cd, if_pos cd]
        · rw [if_neg cd, if_neg cd]
      exact ⟨unR_eq (eg (i + 1) (by omega)) (eg i (by omega)) hn (at' (by omega)) (at' (by omega)) o1, rowW_eq (eg i (by omega)) hn o2⟩
  · have ea : a = 40 := by omega
    rw [if_neg c] at e0 e2
    refine ⟨40, by omega, by omega, by omega, hw, fun i hi => ?_⟩
    have q1 := e1 1 (by omega) (by omega) i (by omega)
    have q2 := e1 2 (by omega) (by omega) i (by omega)
    have q3 := e1 3 (by omega) (by omega) i (by omega)
    have q4 := e1 4 (by omega) (by omega) i (by omega)
    rw [if_neg c] at q1 q2 q3 q4
    rw [q1, q2, q3, q4]
    have eg : ∀ d, d < 39 → eq24 (pAt (MB 181) g 40 d) (pAt (M 181) (M 158) a (d + 1)) := by
      intro d hd j hj
      show (if d = 40 then g else fun j => MB 181 (240 * d + j)) j = (if d + 1 = a then M 158 else fun j => M 181 (240 * (d + 1) + j)) j
      rw [if_neg (by omega), if_neg (by omega)]
      rw [e3 d (by omega) j hj, if_neg c, if_neg (by omega)]
    have eg9 : eq24 (pAt (MB 181) g 40 39) (M 158) := by
      intro j hj
      show (if 39 = 40 then g else fun j => MB 181 (240 * 39 + j)) j = _
      rw [if_neg (by omega)]
      rw [e3 39 (by omega) j hj, if_neg c, if_pos rfl]
    by_cases ci : i = 39
    · subst ci
      have eg2 : pAt (MB 181) g 40 (39 + 1) = g := if_pos rfl
      rw [eg2]
      simp only [if_true]
      exact ⟨unR_eq (fun j _ => rfl) eg9 hn hw h3 hu, rowW_eq eg9 hn h3⟩
    · simp only [ci, if_false]
      obtain ⟨o1, o2⟩ := h4 (i + 1) (by omega)
      by_cases c38 : i = 38
      · subst c38
        have e40 : pAt (M 181) (M 158) a (38 + 1 + 1) = M 158 := if_pos (by omega)
        rw [e40] at o1
        exact ⟨unR_eq eg9 (eg 38 (by omega)) hn h3 o2 o1, rowW_eq (eg 38 (by omega)) hn o2⟩
      · exact ⟨unR_eq (eg (i + 1) (by omega)) (eg i (by omega)) hn (at' (by omega)) o2 o1, rowW_eq (eg i (by omega)) hn o2⟩
section ACT
variable {k n : Nat} {T : Nat → Rw} {Y : Nat → Int} {lap bnd mrg : Int} {M MA M3 MB : Mm}
theorem okC_row {g : Nat → Int} (hn : n ≤ 8) (hr : rowR MA 76 g n) (hg : rowW g n) : okC (stT MA 76) (fun t => MA 81 t) n := by
  refine ⟨hn, fun t ht => ?_⟩
  obtain ⟨h1, h2, -⟩ := hr t ht
  obtain ⟨g1, g2, -⟩ := hg t ht
  have e : stT MA 76 t = vT g t := h1
  have e2 : MA 81 t = vY g t := h2
  rw [e]
  show okT (vT g t) ∧ -1 ≤ MA 81 t ∧ MA 81 t ≤ 900
  rw [e2]
  exact ⟨g1, g2⟩
/-- the class's timbers behind a change of the stock -/
theorem cls_of {g : Nat → Int} (hc : cls M n T Y lap bnd mrg) (e : ∀ b j, 33 ≤ b → b < 76 → MA b j = M b j) (e2 : ∀ j, 3 ≤ j → j < 7 → MA 76 j = M 76 j) (hw : wfS MA 76) (hr : rowR MA 76 g n) (hg : rowW g n) : cls MA n (stT MA 76) (fun t => MA 81 t) lap bnd mrg := by
  obtain ⟨⟨-, ⟨b1, b2, b3⟩, w7⟩, ⟨c1, c2⟩, -, c4, c5, c6, -⟩ := hc
  have oc := okC_row c2 hr hg
  have e3 : MA 76 3 = n := (e2 3 (by omega) (by omega)).trans c1
  refine ⟨⟨⟨hw, ?_⟩, ⟨rowOK_cells (fun b p1 p2 j => e b j (by omega) (by omega)) b1, rowOK_cells (fun b p1 p2 j => e b j (by omega) (by omega)) b2, rowOK_cells (fun b p1 p2 j => e b j (by omega) (by omega)) b3⟩, wfT_cells (fun b p1 p2 j => e b j (by omega) (by omega)) w7⟩, ⟨e3, c2⟩, fun t ht => ⟨rfl, rfl⟩, ?_, ?_, ?_, oc⟩
  · rw [e3]; exact oc
  · rw [e2 5 (by omega) (by omega)]; exact c4
  · rw [e2 4 (by omega) (by omega)]; exact c5
  · rw [e2 6 (by omega) (by omega)]; exact c6
theorem mdl_of {g : Nat → Int} {MX : Mm} (hm : mdl M n T Y lap bnd mrg) (e6 : ∀ j, MB 156 j = M 156 j) (e8 : MB 158 = g) (hr : rowR MX 76 g n) (hg : rowW g n) : mdl MB n (stT MX 76) (fun t => MX 81 t) lap bnd mrg := by
  obtain ⟨h1, -, h3, h4⟩ := hm
  refine ⟨by rw [e6]; exact h1, fun t ht => ?_, setM_cells e6 h3, okC_row h1.2 hr hg⟩
  obtain ⟨r1, r2, -⟩ := hr t ht
  rw [e8]
  exact ⟨r1.symm, r2.symm, (hg t ht).2.2⟩
/-- an act of both: the class has recorded it in MA, the reference is in MB -/
theorem act_rel {kd sb rg bf : Int} {g : Nat → Int} (hc : cls M n T Y lap bnd mrg) (hm : mdl M n T Y lap bnd mrg) (hx : relX M k n lap bnd mrg)
    (a1 : ∀ b j, 106 ≤ b → b ≤ 110 → MA b j = mRec M 106 kd sb rg bf b j) (a2 : ∀ b j, ¬ (33 ≤ b ∧ b ≤ 110) → MA b j = M b j) (a3 : ∀ b j, 33 ≤ b → b < 76 → MA b j = M b j) (a4 : ∀ j, 3 ≤ j → j < 7 → MA 76 j = M 76 j) (hw : wfS MA 76) (hr : rowR MA 76 g n) (hg : rowW g n)
    (h3 : rsM MA 0 M3) (b1 : ∀ b j, ¬ scrM b j → b ≠ 158 → MB b j = mKeep M3 b j) (b2 : MB 154 1 = 0) (b3 : MB 158 = g) (hu : unR kd sb rg bf n g (M 158)) : MB 154 1 = 0 ∧ Rel (k + 1) MB := by
  have n8 := hm.1.2
  have cA := cls_of hc a3 a4 hw hr hg
  have F : ∀ b j, ¬ scrM b j → b ≠ 158 → b ≠ 181 → ¬ (b = 154 ∧ j = 58) → MB b j = MA b j := fun b j z1 z2 z4 z3 => by
    rw [b1 b j z1 z2, mKeep_o z4 z3, h3.2 b j z1]
  have G : ∀ b, b < 154 → ∀ j, MB b j = MA b j := fun b hb j => F b j (by unfold scrM; omega) (by omega) (by omega) (by omega)
  have H : ∀ b j, ¬ scrM b j → b ≠ 158 → b ≠ 181 → ¬ (b = 154 ∧ j = 58) → ¬ (33 ≤ b ∧ b ≤ 110) → MB b j = M b j := fun b j z1 z2 z3 z4 z5 => (F b j z1 z2 z3 z4).trans (a2 b j z5)
  refine ⟨b2, n, stT MA 76, fun t => MA 81 t, lap, bnd, mrg, cls_out cA (fun b p1 p2 j => G b (by omega) j), ?_, ?_⟩
  · exact mdl_of hm (fun j => H _ _ (by unfold scrM; omega) (by omega) (by omega) (by omega) (by omega)) b3 hr hg
  · obtain ⟨x1, ⟨m, N, Z, x2, x3⟩, x4, ⟨L, x5, x6, x7⟩, x8, ⟨a, x9, x10⟩, x11, x12, x13⟩ := hx
    have e58 : M3 154 58 = a := (h3.2 _ _ (by unfold scrM; omega)).trans ((a2 _ _ (by omega)).trans x9)
    have e158 : ∀ j, M3 158 j = M 158 j := fun j => (h3.2 _ _ (by unfold scrM; omega)).trans (a2 _ _ (by omega))
    have e181 : ∀ j, M3 181 j = M 181 j := fun j => (h3.2 _ _ (by unfold scrM; omega)).trans (a2 _ _ (by omega))
    have la := x10.2.1
    obtain ⟨kp1, kp2⟩ := mKeep_P e58 la
    obtain ⟨rp1, rp2⟩ := mRec_P (kd := kd) (sb := sb) (rg := rg) (bf := bf) x10.1 la
    have LA := led_act (MB := MB) (g := g) n8 x10 (by rw [G _ (by omega), a1 _ _ (by omega) (by omega)]; exact rp1) (fun q h1 h4 i hi => by rw [G _ (by omega), a1 _ _ (by omega) (by omega)]; exact rp2 q h1 h4 i hi) (by rw [b1 _ _ (by unfold scrM; omega) (by omega)]; exact kp1) (fun i hi j hj => by
      rw [b1 _ _ (by unfold scrM; omega) (by omega), kp2 i hi j hj]
      rw [e158, e181, e181]) hu hg
    refine ⟨?_, ⟨m, N, Z, ?_, ?_⟩, fun j hj => ?_, ⟨L, ⟨?_, ?_, x5.2.2⟩, fun j hj => ?_, fun j => ?_⟩, ?_, ?_, ?_, ?_, fun z => ?_⟩
    · rw [b3]
      exact rowR_fr n8 (fun b p1 p2 j => G b (by omega) j) hr
    · obtain ⟨q1, q2, q3⟩ := x2
      refine ⟨(H _ _ (by unfold scrM; omega) (by omega) (by omega) (by omega) (by omega)).trans q1, q2, fun i hi => ?_⟩
      rw [H 112 _ (by unfold scrM; omega) (by omega) (by omega) (by omega) (by omega), H 113 _ (by unfold scrM; omega) (by omega) (by omega) (by omega) (by omega)]
      exact q3 i hi
    · obtain ⟨q1, q2, q3⟩ := x3
      refine ⟨(H _ _ (by unfold scrM; omega) (by omega) (by omega) (by omega) (by omega)).trans q1, q2, fun i hi => ?_⟩
      rw [H 182 _ (by unfold scrM; omega) (by omega) (by omega) (by omega) (by omega), H 183 _ (by unfold scrM; omega) (by omega) (by omega) (by omega) (by omega)]
      exact q3 i hi
    · rw [H 114 _ (by unfold scrM; omega) (by omega) (by omega) (by omega) (by omega), H 160 _ (by unfold scrM; omega) (by omega) (by omega) (by omega) (by omega)]
      obtain ⟨q1, q2, q3⟩ := x4 j hj
      exact ⟨q1, q2, by omega⟩
    · exact (H _ _ (by unfold scrM; omega) (by omega) (by omega) (by omega) (by omega)).trans x5.1
    · exact (H _ _ (by unfold scrM; omega) (by omega) (by omega) (by omega) (by omega)).trans x5.2.1
    · rw [H 2 _ (by unfold scrM; omega) (by omega) (by omega) (by omega) (by omega), H 161 _ (by unfold scrM; omega) (by omega) (by omega) (by omega) (by omega)]
      exact x6 j hj
    · rw [H 2 _ (by unfold scrM; omega) (by omega) (by omega) (by omega) (by omega)]
      exact x7 j
    · rw [H 1 3 (by unfold scrM; omega) (by omega) (by omega) (by omega) (by omega), H 154 17 (by unfold scrM; omega) (by omega) (by omega) (by omega) (by omega)]
      exact x8
    · rw [b3]
      exact LA
    · exact relG_mv x11 (fun b j hb => H b j (by unfold scrM; omega) (by omega) (by omega) (by omega) (by omega))
    · rw [H 0 14 (by unfold scrM; omega) (by omega) (by omega) (by omega) (by omega), H 154 69 (by unfold scrM; omega) (by omega) (by omega) (by omega) (by omega)]; exact x12
    · rw [H 0 14 (by unfold scrM; omega) (by omega) (by omega) (by omega) (by omega)] at z
      exact imgR_fr n8 (by omega) (fun b hb j => H _ _ (by unfold scrM; omega) (by omega) (by omega) (by omega) (by omega)) (H _ _ (by unfold scrM; omega) (by omega) (by omega) (by omega) (by omega)) (H _ _ (by unfold scrM; omega) (by omega) (by omega) (by omega) (by omega)) (x13 z)
end ACT
