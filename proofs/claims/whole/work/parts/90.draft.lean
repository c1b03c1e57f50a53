/-! THE CALLS, 3: acts, what both have. -/
def eq24 (f g : Nat → Int) : Prop := ∀ j, j < 240 → f j = g j
theorem vT_eq {f g : Nat → Int} (h : eq24 f g) {t : Nat} (ht : t < 8) (hl : (vT g t).2.1 ≤ 24) : vT f t = vT g t := mRw_eq (fun k hk _ => h _ (by omega)) hl
theorem rowW_eq {f g : Nat → Int} {n : Nat} (h : eq24 f g) (hn : n ≤ 8) (hw : rowW g n) : rowW f n := by
  intro t ht
  obtain ⟨h1, h2, h3⟩ := hw t ht
  refine ⟨?_, ?_, wfM_eq (fun k hk _ => h _ (by omega)) h3⟩
  · rw [vT_eq h (by omega) h1.1.2]; exact h1
  · unfold vY at *
    rw [h _ (by omega)]
    exact h2
theorem unR_eq {kd sb rg bf : Int} {f f' g g' : Nat → Int} {n : Nat} (hf : eq24 f f') (hg : eq24 g g') (hn : n ≤ 8) (wf : rowW f' n) (wg : rowW g' n) (h : unR kd sb rg bf n f' g') : unR kd sb rg bf n f g := by
  have ef : ∀ t, t < n → vT f t = vT f' t := fun t ht => vT_eq hf (by omega) (wf t ht).1.1.2
  have eg : ∀ t, t < n → vT g t = vT g' t := fun t ht => vT_eq hg (by omega) (wg t ht).1.1.2
  obtain ⟨⟨u1, u2, u3, u4, u5, u6, u7⟩, h2⟩ := h
  refine ⟨⟨u1, u2, u3, u4, fun z => ?_, fun z => ?_, fun z => ?_⟩, fun t ht => ?_⟩
  · have := u4 (by omega)
    rw [ef _ (by omega)]; exact u5 z
  · have := u4 (by omega)
    rw [ef _ (by omega)]; exact u6 z
  · have := u4 (by omega)
    rw [ef _ (by omega)]; exact u7 z
  · obtain ⟨a1, a2, a3, a4, a5⟩ := h2 t ht
    refine ⟨?_, ?_, ?_, ?_, ?_⟩
    · rw [eg t ht, a1]
      unfold unT
      rw [ef t ht]
    · have e1 : vY g t = vY g' t := hg _ (by omega)
      have e2 : vY f t = vY f' t := hf _ (by omega)
      rw [e1, a2]
      unfold unY
      rw [e2]
    · have e1 : vH g t = vH g' t := hg _ (by omega)
      have e2 : vH f t = vH f' t := hf _ (by omega)
      rw [e1, a3]
      unfold unH
      rw [e2]
    · rw [hg _ (by omega), hf _ (by omega)]; exact a4
    · rw [hg _ (by omega), hf _ (by omega)]; exact a5
theorem ledR_at {M : Mm} {l n a : Nat} {p f : Nat → Int} (h : ledR M l n a p f) {i : Nat} (hi : i ≤ a) : rowW (pAt p f a i) n := by
  obtain ⟨-, -, h3, h4⟩ := h
  by_cases c : i = a
  · unfold pAt
    rw [if_pos c]
    exact h3
  · exact (h4 i (by omega)).2
theorem mKeep_P {M : Mm} {a : Nat} (ha : M 154 58 = a) (h40 : a ≤ 40) : (mKeep M 154 58 = if a < 40 then (a : Int) + 1 else 40) ∧ ∀ i, i < 40 → ∀ j, j < 240 → mKeep M 181 (240 * i + j) = if a < 40 then (if i = a then M 158 j else M 181 (240 * i + j)) else (if i = 39 then M 158 j else M 181 (240 * (i + 1) + j)) := by
  have p := (mPs_58 (M := M) (by omega) (by omega)).2.2
  by_cases c : a < 40
  · have e : mPs M = M := by
      unfold mPs
      rw [if_neg (by omega)]
    refine ⟨?_, fun i hi j hj => ?_⟩
    · rw [if_pos c]
      unfold mKeep
      rw [e, ha]
      simp [mset]
    · rw [if_pos c]
      unfold mKeep
      rw [e, ha]
      show (if 181 = 154 ∧ 240 * i + j = 58 then _ else if 181 = 181 ∧ 240 * (a : Int).toNat ≤ 240 * i + j ∧ 240 * i + j < 240 * (a : Int).toNat + 240 then M 158 (240 * i + j - 240 * (a : Int).toNat) else M 181 (240 * i + j)) = _
      rw [if_neg (by omega), natT]
      by_cases ci : i = a
      · subst ci
        rw [if_pos (by omega), if_pos rfl]
        congr 1
        omega
      · rw [if_neg (by omega), if_neg ci]
  · have e40 : a = 40 := by omega
    have e58 : mPs M 154 58 = 39 := by rw [p, if_pos (by omega)]
    have e181 : ∀ j, j < 9360 → mPs M 181 j = M 181 (j + 240) := by
      intro j hj
      unfold mPs
      rw [if_pos (by omega)]
      show (if 181 = 154 ∧ j = 58 then (39 : Int) else if 181 = 181 ∧ j < 9360 then M 181 (j + 240) else M 181 j) = _
      rw [if_neg (by omega), if_pos ⟨rfl, hj⟩]
    refine ⟨?_, fun i hi j hj => ?_⟩
    · rw [if_neg c]
      unfold mKeep
      rw [e58]
      simp [mset]
    · rw [if_neg c]
      unfold mKeep
      rw [e58]
      show (if 181 = 154 ∧ 240 * i + j = 58 then _ else if 181 = 181 ∧ 240 * (39 : Int).toNat ≤ 240 * i + j ∧ 240 * i + j < 240 * (39 : Int).toNat + 240 then M 158 (240 * i + j - 240 * (39 : Int).toNat) else mPs M 181 (240 * i + j)) = _
      rw [if_neg (by omega), show (39 : Int).toNat = 39 from rfl]
      by_cases ci : i = 39
      · subst ci
        rw [if_pos (by omega), if_pos rfl, show 240 * 39 + j - 240 * 39 = j by omega]
      · rw [if_neg (by omega), if_neg ci, e181 _ (by omega), show 240 * i + j + 240 = 240 * (i + 1) + j by omega]
/-- what the four rows of the class's ledger hold behind a record -/
def vRec (kd sb rg bf : Int) (q : Nat) : Int := if q = 1 then kd else if q = 2 then sb else if q = 3 then rg else bf
theorem mRec_P {M : Mm} {a : Nat} {kd sb rg bf : Int} (ha : M 106 4 = a) (h40 : a ≤ 40) : (mRec M 106 kd sb rg bf 106 4 = if a < 40 then (a : Int) + 1 else 40) ∧ ∀ q, 1 ≤ q → q ≤ 4 → ∀ i, i < 40 → mRec M 106 kd sb rg bf (106 + q) i = if a < 40 then (if i = a then vRec kd sb rg bf q else M (106 + q) i) else (if i = 39 then vRec kd sb rg bf q else M (106 + q) (i + 1)) := by
  by_cases c : a < 40
  · have e : mLedR M 106 = M := by
      unfold mLedR
      rw [if_pos (by omega)]
    unfold mRec
    rw [e, ha, natT, if_pos c]
    refine ⟨by simp [mset], fun q h1 h4 i hi => ?_⟩
    rw [if_pos c]
    rcases (show q = 1 ∨ q = 2 ∨ q = 3 ∨ q = 4 by omega) with rfl | rfl | rfl | rfl <;> simp [mset, vRec]
  · have e : mLedR M 106 = mset (mDrp M 106 40) 106 4 39 := by
      unfold mLedR
      rw [if_neg (by omega)]
    have e4 : mset (mDrp M 106 40) 106 4 39 106 4 = 39 := by simp [mset]
    unfold mRec
    rw [e, e4, show (39 : Int).toNat = 39 from rfl, if_neg c]
    refine ⟨by simp [mset], fun q h1 h4 i hi => ?_⟩
    rw [if_neg c]
    have ed : ∀ b, 107 ≤ b → b ≤ 110 → i ≠ 39 → mDrp M 106 40 b i = M b (i + 1) := fun b p1 p2 p3 => if_pos (by omega)
    by_cases ci : i = 39
    · subst ci
      rcases (show q = 1 ∨ q = 2 ∨ q = 3 ∨ q = 4 by omega) with rfl | rfl | rfl | rfl <;> simp [mset, vRec]
    · rcases (show q = 1 ∨ q = 2 ∨ q = 3 ∨ q = 4 by omega) with rfl | rfl | rfl | rfl <;> simp [mset, vRec, ci, ed _ _ _ ci]
/-- the ledger and the past behind an act -/
theorem led_act {M MB : Mm} {n a : Nat} {kd sb rg bf : Int} {g : Nat → Int} (hn : n ≤ 8) (hl : ledR M 106 n a (M 181) (M 158))
    (e0 : MB 106 4 = if a < 40 then (a : Int) + 1 else 40) (e1 : ∀ q, 1 ≤ q → q ≤ 4 → ∀ i, i < 40 → MB (106 + q) i = if a < 40 then (if i = a then vRec kd sb rg bf q else M (106 + q) i) else (if i = 39 then vRec kd sb rg bf q else M (106 + q) (i + 1)))
    (e2 : MB 154 58 = if a < 40 then (a : Int) + 1 else 40) (e3 : ∀ i, i < 40 → ∀ j, j < 240 → MB 181 (240 * i + j) = if a < 40 then (if i = a then M 158 j else M 181 (240 * i + j)) else (if i = 39 then M 158 j else M 181 (240 * (i + 1) + j)))
    (hu : unR kd sb rg bf n g (M 158)) (hw : rowW g n) : ∃ a', MB 154 58 = (a' : Nat) ∧ ledR MB 106 n a' (MB 181) g := by
  have at' := fun {i} => ledR_at hl (i := i)
  obtain ⟨h1, h2, h3, h4⟩ := hl
  by_cases c : a < 40
  · rw [if_pos c] at e0 e2
    refine ⟨a + 1, by omega, by omega, by omega, hw, fun i hi => ?_⟩
    have q1 := e1 1 (by omega) (by omega) i (by omega)
    have q2 := e1 2 (by omega) (by omega) i (by omega)
    have q3 := e1 3 (by omega) (by omega) i (by omega)
    have q4 := e1 4 (by omega) (by omega) i (by omega)
    rw [if_pos c] at q1 q2 q3 q4
    rw [q1, q2, q3, q4]
    by_cases ci : i = a
    · subst ci
      have eg : eq24 (pAt (MB 181) g (i + 1) i) (M 158) := by
        intro j hj
        show (if i = i + 1 then g else fun j => MB 181 (240 * i + j)) j = _
        rw [if_neg (by omega)]
        rw [e3 i (by omega) j hj, if_pos c, if_pos rfl]
      have eg2 : pAt (MB 181) g (i + 1) (i + 1) = g := if_pos rfl
      rw [eg2]
      simp only [if_true]
      refine ⟨unR_eq (fun j _ => rfl) eg hn hw h3 ?_, rowW_eq eg hn h3⟩
      exact hu
    · have hia : i < a := by omega
      simp only [ci, if_false]
      obtain ⟨o1, o2⟩ := h4 i hia
      have eg : ∀ d, d ≤ a → eq24 (pAt (MB 181) g (a + 1) d) (pAt (M 181) (M 158) a d) := by
        intro d hd j hj
        show (if d = a + 1 then g else fun j => MB 181 (240 * d + j)) j = (if d = a then M 158 else fun j => M 181 (240 * d + j)) j
        rw [if_neg (by omega)]
        rw [e3 d (by omega) j hj, if_pos c]
        by_cases cd : d = a
        · rw [if_pos cd, if_pos cd]
        · rw [if_neg cd, if_neg cd]
      exact ⟨unR_eq (eg (i + 1) (by omega)) (eg i (by omega)) hn (at' (by omega)) (at' (by omega)) o1, rowW_eq (eg i (by omega)) hn o2⟩
  · have ea : a = 40 := by omega
    rw [if_neg c] at e0 e2
    refine ⟨40, by omega, by omega, by omega, hw, fun i hi => ?_⟩
    have q1 := e1 1 (by omega) (by omega) i (by omega)
    have q2 := e1 2 (by omega) (by omega) i (by omega)
    have q3 := e1 3 (by omega) (by omega) i (by omega)
    have q4 := e1 4 (by omega) (by omega) i (by omega)
    rw [if_neg c] at q1 q2 q3 q4
    rw [q1, q2, q3, q4]
    have eg : ∀ d, d < 39 → eq24 (pAt (MB 181) g 40 d) (pAt (M 181) (M 158) a (d + 1)) := by
      intro d hd j hj
      show (if d = 40 then g else fun j => MB 181 (240 * d + j)) j = (if d + 1 = a then M 158 else fun j => M 181 (240 * (d + 1) + j)) j
      rw [if_neg (by omega), if_neg (by omega)]
      rw [e3 d (by omega) j hj, if_neg c, if_neg (by omega)]
    have eg9 : eq24 (pAt (MB 181) g 40 39) (M 158) := by
      intro j hj
      show (if 39 = 40 then g else fun j => MB 181 (240 * 39 + j)) j = _
      rw [if_neg (by omega)]
      rw [e3 39 (by omega) j hj, if_neg c, if_pos rfl]
    by_cases ci : i = 39
    · subst ci
      have eg2 : pAt (MB 181) g 40 (39 + 1) = g := if_pos rfl
      rw [eg2]
      simp only [if_true]
      exact ⟨unR_eq (fun j _ => rfl) eg9 hn hw h3 hu, rowW_eq eg9 hn h3⟩
    · simp only [ci, if_false]
      obtain ⟨o1, o2⟩ := h4 (i + 1) (by omega)
      by_cases c38 : i = 38
      · subst c38
        have e40 : pAt (M 181) (M 158) a (38 + 1 + 1) = M 158 := if_pos (by omega)
        rw [e40] at o1
        exact ⟨unR_eq eg9 (eg 38 (by omega)) hn h3 o2 o1, rowW_eq (eg 38 (by omega)) hn o2⟩
      · exact ⟨unR_eq (eg (i + 1) (by omega)) (eg i (by omega)) hn (at' (by omega)) o2 o1, rowW_eq (eg i (by omega)) hn o2⟩
section ACT
variable {k n : Nat} {T : Nat → Rw} {Y : Nat → Int} {lap bnd mrg : Int} {M MA M3 MB : Mm}
theorem okC_row {g : Nat → Int} (hn : n ≤ 8) (hr : rowR MA 76 g n) (hg : rowW g n) : okC (stT MA 76) (fun t => MA 81 t) n := by
  refine ⟨hn, fun t ht => ?_⟩
  obtain ⟨h1, h2, -⟩ := hr t ht
  obtain ⟨g1, g2, -⟩ := hg t ht
  have e : stT MA 76 t = vT g t := h1
  have e2 : MA 81 t = vY g t := h2
  rw [e]
  show okT (vT g t) ∧ -1 ≤ MA 81 t ∧ MA 81 t ≤ 900
  rw [e2]
  exact ⟨g1, g2⟩
/-- the class's timbers behind a change of the stock -/
theorem cls_of {g : Nat → Int} (hc : cls M n T Y lap bnd mrg) (e : ∀ b j, 33 ≤ b → b < 76 → MA b j = M b j) (e2 : ∀ j, 3 ≤ j → j < 7 → MA 76 j = M 76 j) (hw : wfS MA 76) (hr : rowR MA 76 g n) (hg : rowW g n) : cls MA n (stT MA 76) (fun t => MA 81 t) lap bnd mrg := by
  obtain ⟨⟨-, ⟨b1, b2, b3⟩, w7⟩, ⟨c1, c2⟩, -, c4, c5, c6, -⟩ := hc
  have oc := okC_row c2 hr hg
  have e3 : MA 76 3 = n := (e2 3 (by omega) (by omega)).trans c1
  refine ⟨⟨⟨hw, ?_⟩, ⟨rowOK_cells (fun b p1 p2 j => e b j (by omega) (by omega)) b1, rowOK_cells (fun b p1 p2 j => e b j (by omega) (by omega)) b2, rowOK_cells (fun b p1 p2 j => e b j (by omega) (by omega)) b3⟩, wfT_cells (fun b p1 p2 j => e b j (by omega) (by omega)) w7⟩, ⟨e3, c2⟩, fun t ht => ⟨rfl, rfl⟩, ?_, ?_, ?_, oc⟩
  · rw [e3]; exact oc
  · rw [e2 5 (by omega) (by omega)]; exact c4
  · rw [e2 4 (by omega) (by omega)]; exact c5
  · rw [e2 6 (by omega) (by omega)]; exact c6
theorem mdl_of {g : Nat → Int} {MX : Mm} (hm : mdl M n T Y lap bnd mrg) (e6 : ∀ j, MB 156 j = M 156 j) (e8 : MB 158 = g) (hr : rowR MX 76 g n) (hg : rowW g n) : mdl MB n (stT MX 76) (fun t => MX 81 t) lap bnd mrg := by
  obtain ⟨h1, -, h3, h4⟩ := hm
  refine ⟨by rw [e6]; exact h1, fun t ht => ?_, setM_cells e6 h3, okC_row h1.2 hr hg⟩
  obtain ⟨r1, r2, -⟩ := hr t ht
  rw [e8]
  exact ⟨r1.symm, r2.symm, (hg t ht).2.2⟩
/-- an act of both: the class has recorded it in MA, the reference is in MB -/
theorem act_rel {kd sb rg bf : Int} {g : Nat → Int} (hc : cls M n T Y lap bnd mrg) (hm : mdl M n T Y lap bnd mrg) (hx : relX M k n lap bnd mrg)
    (a1 : ∀ b j, 106 ≤ b → b ≤ 110 → MA b j = mRec M 106 kd sb rg bf b j) (a2 : ∀ b j, ¬ (33 ≤ b ∧ b ≤ 110) → MA b j = M b j) (a3 : ∀ b j, 33 ≤ b → b < 76 → MA b j = M b j) (a4 : ∀ j, 3 ≤ j → j < 7 → MA 76 j = M 76 j) (hw : wfS MA 76) (hr : rowR MA 76 g n) (hg : rowW g n)
    (h3 : rsM MA 0 M3) (b1 : ∀ b j, ¬ scrM b j → b ≠ 158 → MB b j = mKeep M3 b j) (b2 : MB 154 1 = 0) (b3 : MB 158 = g) (hu : unR kd sb rg bf n g (M 158)) : MB 154 1 = 0 ∧ Rel (k + 1) MB := by
  have n8 := hm.1.2
  have cA := cls_of hc a3 a4 hw hr hg
  have F : ∀ b j, ¬ scrM b j → b ≠ 158 → b ≠ 181 → ¬ (b = 154 ∧ j = 58) → MB b j = MA b j := fun b j z1 z2 z4 z3 => by
    rw [b1 b j z1 z2, mKeep_o z4 z3, h3.2 b j z1]
  have G : ∀ b, b < 154 → ∀ j, MB b j = MA b j := fun b hb j => F b j (by unfold scrM; omega) (by omega) (by omega) (by omega)
  have H : ∀ b j, ¬ scrM b j → b ≠ 158 → b ≠ 181 → ¬ (b = 154 ∧ j = 58) → ¬ (33 ≤ b ∧ b ≤ 110) → MB b j = M b j := fun b j z1 z2 z3 z4 z5 => (F b j z1 z2 z3 z4).trans (a2 b j z5)
  refine ⟨b2, n, stT MA 76, fun t => MA 81 t, lap, bnd, mrg, cls_out cA (fun b p1 p2 j => G b (by omega) j), ?_, ?_⟩
  · exact mdl_of hm (fun j => H _ _ (by unfold scrM; omega) (by omega) (by omega) (by omega) (by omega)) b3 hr hg
  · obtain ⟨x1, ⟨m, N, Z, x2, x3⟩, x4, ⟨L, x5, x6, x7⟩, x8, ⟨a, x9, x10⟩, x11, x12, x13⟩ := hx
    have e58 : M3 154 58 = a := (h3.2 _ _ (by unfold scrM; omega)).trans ((a2 _ _ (by omega)).trans x9)
    have e158 : ∀ j, M3 158 j = M 158 j := fun j => (h3.2 _ _ (by unfold scrM; omega)).trans (a2 _ _ (by omega))
    have e181 : ∀ j, M3 181 j = M 181 j := fun j => (h3.2 _ _ (by unfold scrM; omega)).trans (a2 _ _ (by omega))
    have la := x10.2.1
    obtain ⟨kp1, kp2⟩ := mKeep_P e58 la
    obtain ⟨rp1, rp2⟩ := mRec_P (kd := kd) (sb := sb) (rg := rg) (bf := bf) x10.1 la
    have LA := led_act (MB := MB) (g := g) n8 x10 (by rw [G _ (by omega), a1 _ _ (by omega) (by omega)]; exact rp1) (fun q h1 h4 i hi => by rw [G _ (by omega), a1 _ _ (by omega) (by omega)]; exact rp2 q h1 h4 i hi) (by rw [b1 _ _ (by unfold scrM; omega) (by omega)]; exact kp1) (fun i hi j hj => by
      rw [b1 _ _ (by unfold scrM; omega) (by omega), kp2 i hi j hj]
      rw [e158, e181, e181]) hu hg
    refine ⟨?_, ⟨m, N, Z, ?_, ?_⟩, fun j hj => ?_, ⟨L, ⟨?_, ?_, x5.2.2⟩, fun j hj => ?_, fun j => ?_⟩, ?_, ?_, ?_, ?_, fun z => ?_⟩
    · rw [b3]
      exact rowR_fr n8 (fun b p1 p2 j => G b (by omega) j) hr
    · obtain ⟨q1, q2, q3⟩ := x2
      refine ⟨(H _ _ (by unfold scrM; omega) (by omega) (by omega) (by omega) (by omega)).trans q1, q2, fun i hi => ?_⟩
      rw [H 112 _ (by unfold scrM; omega) (by omega) (by omega) (by omega) (by omega), H 113 _ (by unfold scrM; omega) (by omega) (by omega) (by omega) (by omega)]
      exact q3 i hi
    · obtain ⟨q1, q2, q3⟩ := x3
      refine ⟨(H _ _ (by unfold scrM; omega) (by omega) (by omega) (by omega) (by omega)).trans q1, q2, fun i hi => ?_⟩
      rw [H 182 _ (by unfold scrM; omega) (by omega) (by omega) (by omega) (by omega), H 183 _ (by unfold scrM; omega) (by omega) (by omega) (by omega) (by omega)]
      exact q3 i hi
    · rw [H 114 _ (by unfold scrM; omega) (by omega) (by omega) (by omega) (by omega), H 160 _ (by unfold scrM; omega) (by omega) (by omega) (by omega) (by omega)]
      obtain ⟨q1, q2, q3⟩ := x4 j hj
      exact ⟨q1, q2, by omega⟩
    · exact (H _ _ (by unfold scrM; omega) (by omega) (by omega) (by omega) (by omega)).trans x5.1
    · exact (H _ _ (by unfold scrM; omega) (by omega) (by omega) (by omega) (by omega)).trans x5.2.1
    · rw [H 2 _ (by unfold scrM; omega) (by omega) (by omega) (by omega) (by omega), H 161 _ (by unfold scrM; omega) (by omega) (by omega) (by omega) (by omega)]
      exact x6 j hj
    · rw [H 2 _ (by unfold scrM; omega) (by omega) (by omega) (by omega) (by omega)]
      exact x7 j
    · rw [H 1 3 (by unfold scrM; omega) (by omega) (by omega) (by omega) (by omega), H 154 17 (by unfold scrM; omega) (by omega) (by omega) (by omega) (by omega)]
      exact x8
    · rw [b3]
      exact LA
    · rw [H 0 14 (by unfold scrM; omega) (by omega) (by omega) (by omega) (by omega)]; exact x11
    · rw [H 0 14 (by unfold scrM; omega) (by omega) (by omega) (by omega) (by omega), H 154 69 (by unfold scrM; omega) (by omega) (by omega) (by omega) (by omega)]; exact x12
    · rw [H 0 14 (by unfold scrM; omega) (by omega) (by omega) (by omega) (by omega)] at z
      exact imgR_fr n8 (by omega) (fun b hb j => H _ _ (by unfold scrM; omega) (by omega) (by omega) (by omega) (by omega)) (H _ _ (by unfold scrM; omega) (by omega) (by omega) (by omega) (by omega)) (H _ _ (by unfold scrM; omega) (by omega) (by omega) (by omega) (by omega)) (x13 z)
end ACT

/-! THE CALLS, 4: date, settle, move, doubt, mend, grow. -/
theorem wfS_yr {M MA : Mm} (hw : wfS M 76) (e : ∀ b, 76 ≤ b → b < 106 → b ≠ 81 → ∀ j, MA b j = M b j) (hy : ∀ t, t < 8 → -1 ≤ MA 81 t ∧ MA 81 t ≤ 900) : wfS MA 76 := by
  obtain ⟨w1, w2, w3, w4, w5, w6, w7⟩ := hw
  have e0 := e 76 (by omega) (by omega) (by omega)
  refine ⟨by rw [e0]; exact w1, by rw [e0]; exact w2, by rw [e0]; exact w3, by rw [e0]; exact w4, fun t ht => wfT_cells (fun b p1 p2 j => e b (by omega) (by omega) (by omega) j) (w5 t ht), wfT_cells (fun b p1 p2 j => e b (by omega) (by omega) (by omega) j) w6, hy⟩
theorem wfS_tm {M MA : Mm} {t : Nat} (hw : wfS M 76) (ht : t < 8) (e : ∀ b, 76 ≤ b → b < 106 → (b < 82 + 3 * t ∨ 85 + 3 * t ≤ b) → ∀ j, MA b j = M b j) (hy : wfT MA (82 + 3 * t)) : wfS MA 76 := by
  obtain ⟨w1, w2, w3, w4, w5, w6, w7⟩ := hw
  have e0 := e 76 (by omega) (by omega) (by omega)
  refine ⟨by rw [e0]; exact w1, by rw [e0]; exact w2, by rw [e0]; exact w3, by rw [e0]; exact w4, fun s hs => ?_, wfT_cells (fun b p1 p2 j => e b (by omega) (by omega) (by omega) j) w6, fun s hs => by rw [e (76 + 5) (by omega) (by omega) (by omega)]; exact w7 s hs⟩
  by_cases c : s = t
  · subst c; exact hy
  · exact wfT_cells (fun b p1 p2 j => e b (by omega) (by omega) (by omega) j) (w5 s hs)
section SIM4
variable {k n : Nat} {T : Nat → Rw} {Y : Nat → Int} {lap bnd mrg : Int} {M M1 M2 M3 : Mm}
theorem relX_ld (hx : relX M k n lap bnd mrg) : ldK M ∧ ldM M := by
  obtain ⟨-, -, -, -, -, ⟨a, x1, x2, x3, -⟩, -⟩ := hx
  unfold ldK ldM
  omega
theorem ldM_fr (h : ldM M) (f : FrP scrF M M1) : ldM M1 := by
  unfold ldM
  rw [f 154 58 (by unfold scrF; omega)]
  exact h
theorem row_w (hx : relX M k n lap bnd mrg) : rowW (M 158) n := by
  obtain ⟨-, -, -, -, -, ⟨a, -, -, -, x, -⟩, -⟩ := hx
  exact x
theorem mRec_lo {a b c d : Int} (q j : Nat) (h : q < 106) : mRec M 106 a b c d q j = M q j := mRec_out q j (Or.inl h)
/-- a refused act: a count of both goes up -/
theorem ref_rel {q : Nat} (hq : q < 3) (hc : cls M n T Y lap bnd mrg) (hm : mdl M n T Y lap bnd mrg) (hx : relX M k n lap bnd mrg) (h1 : cls M1 n T Y lap bnd mrg) (f : FrP scrF M M1) (r : rsM (mset M1 114 q (M1 114 q + 1)) 0 M2) : mRefM M2 q 154 1 = 0 ∧ Rel (k + 1) (mRefM M2 q) := by
  have n8 := hm.1.2
  have E : ∀ b j, ¬ scrF b j → ¬ scrM b j → ¬ (b = 114 ∧ j = q) → ¬ (b = 160 ∧ j = q) → mRefM M2 q b j = M b j := by
    intro b j z1 z2 z3 z4
    show (if b = 160 ∧ j = q then _ else M2 b j) = _
    rw [if_neg z4, r.2 b j z2]
    show (if b = 114 ∧ j = q then _ else M1 b j) = _
    rw [if_neg z3, f b j z1]
  have e114 : mRefM M2 q 114 q = M 114 q + 1 := by
    show (if 114 = 160 ∧ q = q then M2 160 q + 1 else M2 114 q) = _
    rw [if_neg (by omega), r.2 _ _ (by unfold scrM; omega), f 114 q (by unfold scrF; omega)]
    simp [mset]
  have e160 : mRefM M2 q 160 q = M 160 q + 1 := by
    have e : M2 160 q = M 160 q := by
      rw [r.2 _ _ (by unfold scrM; omega)]
      show (if 160 = 114 ∧ q = q then _ else M1 160 q) = _
      rw [if_neg (by omega), f 160 q (by unfold scrF; omega)]
    show (if 160 = 160 ∧ q = q then M2 160 q + 1 else M2 160 q) = _
    rw [if_pos ⟨rfl, rfl⟩, e]
  -- the memory with the two counts as they were
  have hX := relX_fr (M2 := mset (mset (mRefM M2 q) 114 q (M 114 q)) 160 q (M 160 q)) n8 (Nat.le_refl k) (fun b j z1 z2 => by
    show (if b = 160 ∧ j = q then M 160 q else if b = 114 ∧ j = q then M 114 q else mRefM M2 q b j) = _
    by_cases c1 : b = 160 ∧ j = q
    · rw [if_pos c1, c1.1, c1.2]
    · rw [if_neg c1]
      by_cases c2 : b = 114 ∧ j = q
      · rw [if_pos c2, c2.1, c2.2]
      · rw [if_neg c2]
        exact E b j z1 z2 c2 c1) hx
  refine ⟨?_, n, T, Y, lap, bnd, mrg, cls_out h1 (fun b p1 p2 j => ?_), mdl_fr hm (P := fun b j => scrF b j ∨ scrM b j ∨ b = 114 ∨ b = 160) (fun b j z => E b j (fun w => z (Or.inl w)) (fun w => z (Or.inr (Or.inl w))) (fun w => z (Or.inr (Or.inr (Or.inl w.1)))) (fun w => z (Or.inr (Or.inr (Or.inr w.1))))) (fun b j z => by unfold scrF scrM at z; omega), ?_⟩
  · show (if 154 = 160 ∧ 1 = q then M2 160 q + 1 else M2 154 1) = 0
    rw [if_neg (by omega)]
    exact r.1
  · show (if b = 160 ∧ j = q then _ else M2 b j) = _
    rw [if_neg (by omega), r.2 _ _ (by unfold scrM; omega)]
    show (if b = 114 ∧ j = q then _ else M1 b j) = _
    rw [if_neg (by omega)]
  · obtain ⟨y1, y2, y4, y5, y6, y7, y8, y9, y10⟩ := hX
    have G : ∀ b j, b ≠ 114 → b ≠ 160 → mset (mset (mRefM M2 q) 114 q (M 114 q)) 160 q (M 160 q) b j = mRefM M2 q b j := by
      intro b j z1 z2
      show (if b = 160 ∧ j = q then M 160 q else if b = 114 ∧ j = q then M 114 q else mRefM M2 q b j) = _
      rw [if_neg (fun w => z2 w.1), if_neg (fun w => z1 w.1)]
    generalize hMX : mset (mset (mRefM M2 q) 114 q (M 114 q)) 160 q (M 160 q) = MX at *
    have H : ∀ b j, b ≠ 114 → b ≠ 160 → mRefM M2 q b j = MX b j := fun b j z1 z2 => (G b j z1 z2).symm
    have f158 : mRefM M2 q 158 = MX 158 := funext (fun j => H _ _ (by omega) (by omega))
    have f181 : mRefM M2 q 181 = MX 181 := funext (fun j => H _ _ (by omega) (by omega))
    obtain ⟨m, N, Z, x2, x3⟩ := y2
    obtain ⟨L, x5, x6, x7⟩ := y5
    obtain ⟨a, x9, x10⟩ := y7
    have x4 := hx.2.2.1
    refine ⟨?_, ⟨m, N, Z, ?_, ?_⟩, fun j hj => ?_, ⟨L, ⟨?_, ?_, x5.2.2⟩, fun j hj => ?_, fun j => ?_⟩, ?_, ⟨a, ?_, ?_⟩, ?_, ?_, fun z => ?_⟩
    · rw [f158]; exact rowR_fr n8 (fun b p1 p2 j => H _ _ (by omega) (by omega)) y1
    · obtain ⟨q1, q2, q3⟩ := x2
      refine ⟨(H _ _ (by omega) (by omega)).trans q1, q2, fun i hi => ?_⟩
      rw [H 112 _ (by omega) (by omega), H 113 _ (by omega) (by omega)]
      exact q3 i hi
    · obtain ⟨q1, q2, q3⟩ := x3
      refine ⟨(H _ _ (by omega) (by omega)).trans q1, q2, fun i hi => ?_⟩
      rw [H 182 _ (by omega) (by omega), H 183 _ (by omega) (by omega)]
      exact q3 i hi
    · obtain ⟨q1, q2, q3⟩ := x4 j hj
      by_cases cj : j = q
      · subst cj
        rw [e114, e160]
        exact ⟨by omega, by omega, by omega⟩
      · rw [E 114 j (by unfold scrF; omega) (by unfold scrM; omega) (by omega) (by omega), E 160 j (by unfold scrF; omega) (by unfold scrM; omega) (by omega) (by omega)]
        exact ⟨q1, q2, by omega⟩
    · exact (H _ _ (by omega) (by omega)).trans x5.1
    · exact (H _ _ (by omega) (by omega)).trans x5.2.1
    · rw [H 2 _ (by omega) (by omega), H 161 _ (by omega) (by omega)]; exact x6 j hj
    · rw [H 2 _ (by omega) (by omega)]; exact x7 j
    · rw [H 1 3 (by omega) (by omega), H 154 17 (by omega) (by omega)]; exact y6
    · exact (H _ _ (by omega) (by omega)).trans x9
    · rw [f158, f181]; exact ledR_mono (fun q hq j => H _ _ (by omega) (by omega)) x10
    · rw [H 0 14 (by omega) (by omega)]; exact y8
    · rw [H 0 14 (by omega) (by omega), H 154 69 (by omega) (by omega)]; exact y9
    · rw [H 0 14 (by omega) (by omega)] at z
      exact imgR_fr n8 (by omega) (fun b hb j => H _ _ (by omega) (by omega)) (H _ _ (by omega) (by omega)) (H _ _ (by omega) (by omega)) (y10 z)
theorem rs_ref {q : Nat} : rsM (mset M1 114 q (M1 114 q + 1)) 0 (c0M (mset M1 114 q (M1 114 q + 1))) := rsM_0
theorem fr_ref {q : Nat} : FrP (fun b _ => b = 114) M1 (mset M1 114 q (M1 114 q + 1)) := FrP.rf.st rfl
/-- a year of the row -/
def gYr (f : Nat → Int) (t : Nat) (y : Int) : Nat → Int := fun j => if j = 30 * t + 4 then y else f j
theorem gYr_v {f : Nat → Int} {t s : Nat} {y : Int} (hw : (vT f s).2.1 ≤ 24) : vT (gYr f t y) s = vT f s ∧ (vY (gYr f t y) s = if s = t then y else vY f s) ∧ vH (gYr f t y) s = vH f s ∧ gYr f t y (30 * s + 1) = f (30 * s + 1) ∧ gYr f t y (30 * s + 2) = f (30 * s + 2) := by
  refine ⟨mRw_eq (fun k hk hk4 => ?_) hw, ?_, ?_, ?_, ?_⟩
  · unfold gYr
    rw [if_neg (by omega)]
  · unfold vY gYr
    by_cases c : s = t
    · rw [if_pos (by omega), if_pos c]
    · rw [if_neg (by omega), if_neg c]
  · unfold vH gYr
    rw [if_neg (by omega)]
  · unfold gYr
    rw [if_neg (by omega)]
  · unfold gYr
    rw [if_neg (by omega)]
theorem gYr_W {f : Nat → Int} {t : Nat} {y : Int} (hw : rowW f n) (hy : -1 ≤ y ∧ y ≤ 900) : rowW (gYr f t y) n := by
  intro s hs
  obtain ⟨h1, h2, h3⟩ := hw s hs
  obtain ⟨g1, g2, -⟩ := gYr_v (t := t) (y := y) h1.1.2
  refine ⟨by rw [g1]; exact h1, ?_, wfM_eq (fun k hk hk4 => ?_) h3⟩
  · rw [g2]
    split
    · exact hy
    · exact h2
  · unfold gYr
    rw [if_neg (by omega)]
theorem gYr_un {f : Nat → Int} {t : Nat} {y : Int} (hw : rowW f n) (ht : t < n) (hn : n ≤ 8) : unR 0 t 0 (vY f t) n (gYr f t y) f := by
  have v := fun s (hs : s < n) => gYr_v (t := t) (y := y) (hw s hs).1.1.2
  refine ⟨⟨by omega, ⟨by omega, by omega⟩, inR_0, fun _ => by omega, fun z => by omega, fun z => by omega, fun z => by omega⟩, fun s hs => ?_⟩
  obtain ⟨v1, v2, v3, v4, v5⟩ := v s hs
  refine ⟨?_, ?_, ?_, v4.symm, v5.symm⟩
  · unfold unT
    rw [if_neg (by omega), if_neg (by omega), if_neg (by omega), v1]
  · unfold unY
    rw [v2]
    by_cases c : s = t
    · rw [if_pos (by omega), c]
    · rw [if_neg (by omega), if_neg (by omega), if_neg c]
  · unfold unH
    rw [if_neg (by omega), v3]
theorem row_Y (hm : mdl M n T Y lap bnd mrg) {t : Nat} (ht : t < n) : vY (M 158) t = Y t ∧ vT (M 158) t = T t := ⟨(hm.2.1 t ht).2.1, (hm.2.1 t ht).1⟩
/-- a timber dated, or not: both -/
theorem date_rel {t : Nat} {y : Int} (hc : cls M n T Y lap bnd mrg) (hm : mdl M n T Y lap bnd mrg) (hx : relX M k n lap bnd mrg) (ht : t < n) (hy : -1 ≤ y ∧ y ≤ 900) (h3 : rsM (mset (mRec M 106 0 t 0 (Y t)) 81 t y) 0 M3) : mset (mKeep M3) 158 (30 * t + 4) y 154 1 = 0 ∧ Rel (k + 1) (mset (mKeep M3) 158 (30 * t + 4) y) := by
  have n8 := hm.1.2
  have rw' := row_w hx
  have hr := hx.1
  have v := fun s (hs : s < n) => gYr_v (t := t) (y := y) (rw' s hs).1.1.2
  have eA : ∀ b j, b < 106 → ¬ (b = 81 ∧ j = t) → mset (mRec M 106 0 t 0 (Y t)) 81 t y b j = M b j := fun b j hb z => by
    show (if b = 81 ∧ j = t then y else _) = _
    rw [if_neg z, mRec_lo _ _ hb]
  have e158 : M3 158 = M 158 := funext (fun j => by
    rw [h3.2 _ _ (by unfold scrM; omega)]
    show (if 158 = 81 ∧ j = t then y else _) = _
    rw [if_neg (by omega)]
    exact mRec_out _ _ (by omega))
  refine act_rel (kd := 0) (sb := t) (rg := 0) (bf := Y t) (g := gYr (M 158) t y) (MA := mset (mRec M 106 0 t 0 (Y t)) 81 t y) (M3 := M3) hc hm hx (fun b j p1 p2 => ?_) (fun b j z => ?_) (fun b j p1 p2 => eA b j (by omega) (by omega)) (fun j p1 p2 => eA _ _ (by omega) (by omega)) ?_ ?_ (gYr_W rw' hy) h3 (fun b j z1 z2 => ?_) ?_ ?_ ?_
  · show (if b = 81 ∧ j = t then y else _) = _
    rw [if_neg (by omega)]
  · show (if b = 81 ∧ j = t then y else _) = _
    rw [if_neg (by omega)]
    exact mRec_out _ _ (by omega)
  · refine wfS_yr hc.1.1.1 (fun b p1 p2 p3 j => eA b j p2 (by omega)) (fun s hs => ?_)
    show -1 ≤ (if 81 = 81 ∧ s = t then y else mRec M 106 0 t 0 (Y t) 81 s) ∧ (if 81 = 81 ∧ s = t then y else mRec M 106 0 t 0 (Y t) 81 s) ≤ 900
    split
    · exact hy
    · rw [mRec_lo _ _ (by omega)]
      exact hc.1.1.1.2.2.2.2.2.2 s hs
  · intro s hs
    obtain ⟨r1, r2, r3, r4, r5⟩ := hr s hs
    obtain ⟨v1, v2, v3, v4, v5⟩ := v s hs
    rw [v1, v2, v3, v4, v5]
    refine ⟨?_, ?_, ?_, ?_, ?_⟩
    · rw [tRw_fr (fun q hq j => eA _ _ (by omega) (by omega))]; exact r1
    · show (if 81 = 81 ∧ s = t then y else mRec M 106 0 t 0 (Y t) 81 s) = _
      by_cases c : s = t
      · rw [if_pos ⟨rfl, c⟩, if_pos c]
      · rw [if_neg (fun w => c w.2), if_neg c, mRec_lo _ _ (by omega)]; exact r2
    · rw [eA _ _ (by omega) (by omega)]; exact r3
    · rw [eA _ _ (by omega) (by omega)]; exact r4
    · rw [eA _ _ (by omega) (by omega)]; exact r5
  · show (if b = 158 ∧ j = 30 * t + 4 then y else mKeep M3 b j) = _
    rw [if_neg (fun w => z2 w.1)]
  · show (if 154 = 158 ∧ 1 = 30 * t + 4 then y else mKeep M3 154 1) = 0
    rw [if_neg (by omega), mKeep_o (by omega) (by omega)]
    exact h3.1
  · funext j
    show (if 158 = 158 ∧ j = 30 * t + 4 then y else mKeep M3 158 j) = if j = 30 * t + 4 then y else M 158 j
    rw [mKeep_o (by omega) (by omega), e158]
    exact if_cg (by omega) rfl rfl
  · have := gYr_un (y := y) rw' ht n8
    rw [(row_Y hm ht).1] at this
    exact this
theorem sim_date {t y : Int} (hR : Rel k M) (ht : inR t) (hy : inR y) : Sim m_RingDater_date m_Model_date [.inl t, .inl y] k M := by
  obtain ⟨n, T, Y, lap, bnd, mrg, hc, hm, hx⟩ := hR
  obtain ⟨l1, l2⟩ := relX_ld hx
  by_cases c : ¬ (0 ≤ t ∧ t < n) ∨ y < -1 ∨ 900 < y ∨ Y t.toNat = y
  · refine (RingDater_date_no hc ht hy c).eq ⟨⟨by omega, by omega⟩, ?_⟩
    have hm1 := mdl_fr hm (fr_ref (M1 := M) (q := 1)) (fun b j z => by omega)
    refine (Mdate_no hm1 ht hy c).eq ⟨rfl, ?_⟩
    exact ref_rel (by omega) hc hm hx hc FrP.rf rs_ref
  · obtain ⟨u, rfl⟩ : ∃ u : Nat, t = u := ⟨t.toNat, by omega⟩
    have hu : u < n := by omega
    rw [natT] at c
    have gy := (mdl_t hm hu).2.2.2.2.1
    refine (RingDater_date_ok hc l1 hu (by omega) (by omega)).eq ⟨⟨by omega, by omega⟩, ?_⟩
    have F : FrP (fun b j => 81 ≤ b ∧ b ≤ 110) M (mset (mRec M 106 0 u 0 (Y u)) 81 u y) := fun b j z => by
      show (if b = 81 ∧ j = u then y else _) = _
      rw [if_neg (by omega)]
      exact mRec_out _ _ (by omega)
    have hm1 := mdl_fr hm F (fun b j z => by omega)
    have l2' : ldM (mset (mRec M 106 0 u 0 (Y u)) 81 u y) := by
      unfold ldM
      rw [F _ _ (by omega)]
      exact l2
    refine (Mdate_ok hm1 l2' hu (by omega) (by omega)).eq ⟨rfl, ?_⟩
    exact date_rel hc hm hx hu (by omega) rsM_0
theorem sim_settle {t : Int} (hR : Rel k M) (ht : inR t) : Sim m_RingDater_settle m_Model_settle [.inl t] k M := by
  obtain ⟨n, T, Y, lap, bnd, mrg, hc, hm, hx⟩ := hR
  obtain ⟨l1, l2⟩ := relX_ld hx
  by_cases c : ¬ (0 ≤ t ∧ t < n) ∨ Y t.toNat ≠ -1 ∨ whyU T Y lap bnd mrg n t.toNat ≠ 0
  · refine (RingDater_settle_no hc ht c).mono (fun x M' z => ?_)
    obtain ⟨rfl, M2, z1, z2, rfl⟩ := z
    refine ⟨⟨by omega, by omega⟩, ?_⟩
    have hm1 : mdl (mRef M2) n T Y lap bnd mrg := mdl_fr (mdl_scr hm z2) (fr_ref (M1 := M2) (q := 1)) (fun b j z => by omega)
    refine (Msettle_no hm1 ht c).mono (fun y M3 w => ?_)
    obtain ⟨rfl, M4, w1, rfl⟩ := w
    exact ⟨rfl, ref_rel (by omega) hc hm hx z1 z2 w1⟩
  · obtain ⟨u, rfl⟩ : ∃ u : Nat, t = u := ⟨t.toNat, by omega⟩
    have hu : u < n := by omega
    rw [natT] at c
    have hY : Y u = -1 := by
      by_cases e : Y u = -1
      · exact e
      · exact absurd (Or.inr (Or.inl e)) c
    have hU : whyU T Y lap bnd mrg n u = 0 := by
      by_cases e : whyU T Y lap bnd mrg n u = 0
      · exact e
      · exact absurd (Or.inr (Or.inr e)) c
    have hr : 0 ≤ (cSpan T Y u n).1 + (bestO T Y lap n u).2.1 ∧ (cSpan T Y u n).1 + (bestO T Y lap n u).2.1 ≤ 900 := by
      unfold whyU at hU
      by_cases e : why (bestO T Y lap n u) bnd mrg = 0
      · rw [if_neg (fun z => z e)] at hU
        by_cases e2 : 0 ≤ (cSpan T Y u n).1 + (bestO T Y lap n u).2.1 ∧ (cSpan T Y u n).1 + (bestO T Y lap n u).2.1 ≤ 900
        · exact e2
        · rw [if_neg e2] at hU
          omega
      · rw [if_pos e] at hU
        exact absurd hU e
    refine (RingDater_settle_ok hc l1 hu hY hU).mono (fun x M' z => ?_)
    obtain ⟨rfl, M2, z1, z2, rfl⟩ := z
    refine ⟨⟨by omega, by omega⟩, ?_⟩
    have hm2 := mdl_scr hm z2
    have hx2 := relX_fr (M2 := M2) hm.1.2 (Nat.le_refl k) (fun b j w1 _ => z2 b j w1) hx
    have F : FrP (fun b j => 81 ≤ b ∧ b ≤ 110) M2 (mset (mRec M2 106 0 u 0 (-1)) 81 u ((cSpan T Y u n).1 + (bestO T Y lap n u).2.1)) := fun b j z => by
      show (if b = 81 ∧ j = u then _ else _) = _
      rw [if_neg (by omega)]
      exact mRec_out _ _ (by omega)
    have hm1 := mdl_fr hm2 F (fun b j z => by omega)
    have l2' : ldM (mset (mRec M2 106 0 u 0 (-1)) 81 u ((cSpan T Y u n).1 + (bestO T Y lap n u).2.1)) := by
      unfold ldM
      rw [F _ _ (by omega)]
      exact ldM_fr l2 z2
    refine (Msettle_ok hm1 l2' hu hY hU).mono (fun y M3 w => ?_)
    obtain ⟨rfl, M4, w1, rfl⟩ := w
    have D := date_rel (y := (cSpan T Y u n).1 + (bestO T Y lap n u).2.1) (M3 := M4) z1 hm2 hx2 hu (by omega)
    rw [hY] at D
    exact ⟨rfl, D w1⟩
end SIM4

/-! THE CALLS, 5: move, doubt, mend, grow. -/
theorem mRw_eq2 {f g : Nat → Int} {t : Nat} (h : ∀ k, k < 30 → (k = 0 ∨ 5 ≤ k) → f (30 * t + k) = g (30 * t + k)) (hl : g (30 * t) ≤ 24) : mRw f t = mRw g t := by
  have e0 := h 0 (by omega) (by omega)
  have e5 := h 5 (by omega) (by omega)
  simp only [Nat.add_zero] at e0
  unfold mRw
  rw [e0, e5]
  refine Prod.ext (funext fun j => ?_) rfl
  show (if (j : Int) < g (30 * t) then f (30 * t + 6 + j) else 0) = if (j : Int) < g (30 * t) then g (30 * t + 6 + j) else 0
  split
  · have := h (6 + j) (by omega) (by omega)
    rw [← Nat.add_assoc] at this
    exact this
  · rfl
theorem vT_can (f : Nat → Int) (t : Nat) : ∀ j : Nat, (vT f t).2.1 ≤ j → (vT f t).1 j = 0 ∧ (vT f t).2.2 j = 0 := by
  intro j hj
  have hj' : f (30 * t) ≤ j := hj
  show (if (j : Int) < f (30 * t) then _ else (0 : Int)) = 0 ∧ (if (j : Int) < f (30 * t) then _ else (0 : Int)) = 0
  rw [if_neg (by omega), if_neg (by omega)]
  exact ⟨rfl, rfl⟩
theorem rem_ins {A : Rw} {r x : Int} (hA : ∀ j : Nat, A.2.1 ≤ j → A.1 j = 0 ∧ A.2.2 j = 0) (h0 : 0 ≤ r) (h1 : r ≤ A.2.1) : rwRem (rwIns A r x) r = A := by
  obtain ⟨a, l, d⟩ := A
  simp only at hA h1
  unfold rwRem rwIns
  refine Prod.ext (funext fun j => ?_) (Prod.ext (show l + 1 - 1 = l by omega) (funext fun j => ?_))
  · have h := hA j
    show (if (j : Int) < l + 1 - 1 then (if r ≤ j then (if ((j + 1 : Nat) : Int) < l + 1 then (if ((j + 1 : Nat) : Int) = r then x else if r < ((j + 1 : Nat) : Int) then a (j + 1 - 1) else a (j + 1)) else 0) else (if (j : Int) < l + 1 then (if (j : Int) = r then x else if r < j then a (j - 1) else a j) else 0)) else 0) = a j
    by_cases c : (j : Int) < l
    · rw [if_pos (by omega)]
      by_cases c2 : r ≤ j
      · rw [if_pos c2, if_pos (by omega), if_neg (by omega), if_pos (by omega), Nat.add_sub_cancel]
      · rw [if_neg c2, if_pos (by omega), if_neg (by omega), if_neg (by omega)]
    · rw [if_neg (by omega)]
      exact (h (by omega)).1.symm
  · have h := hA j
    show (if (j : Int) < l + 1 - 1 then (if r ≤ j then (if ((j + 1 : Nat) : Int) < l + 1 then (if ((j + 1 : Nat) : Int) = r then 1 else if r < ((j + 1 : Nat) : Int) then d (j + 1 - 1) else d (j + 1)) else 0) else (if (j : Int) < l + 1 then (if (j : Int) = r then 1 else if r < j then d (j - 1) else d j) else 0)) else 0) = d j
    by_cases c : (j : Int) < l
    · rw [if_pos (by omega)]
      by_cases c2 : r ≤ j
      · rw [if_pos c2, if_pos (by omega), if_neg (by omega), if_pos (by omega), Nat.add_sub_cancel]
      · rw [if_neg c2, if_pos (by omega), if_neg (by omega), if_neg (by omega)]
    · rw [if_neg (by omega)]
      exact (h (by omega)).2.symm
theorem ins_rem {A : Rw} {r : Int} (hA : ∀ j : Nat, A.2.1 ≤ j → A.1 j = 0 ∧ A.2.2 j = 0) (h0 : 0 ≤ r) (h1 : r < A.2.1) (hd : A.2.2 r.toNat = 1) : rwIns (rwRem A r) r (sN A r) = A := by
  have es : sN A r = A.1 r.toNat := if_pos ⟨h0, h1⟩
  rw [es]
  obtain ⟨a, l, d⟩ := A
  simp only at hA h1 hd
  unfold rwRem rwIns
  refine Prod.ext (funext fun j => ?_) (Prod.ext (show l - 1 + 1 = l by omega) (funext fun j => ?_))
  · have h := hA j
    show (if (j : Int) < l - 1 + 1 then (if (j : Int) = r then a r.toNat else if r < j then (if ((j - 1 : Nat) : Int) < l - 1 then (if r ≤ ((j - 1 : Nat) : Int) then a (j - 1 + 1) else a (j - 1)) else 0) else (if (j : Int) < l - 1 then (if r ≤ (j : Int) then a (j + 1) else a j) else 0)) else 0) = a j
    by_cases c : (j : Int) < l
    · rw [if_pos (by omega)]
      by_cases c2 : (j : Int) = r
      · rw [if_pos c2, ← c2, natT]
      · rw [if_neg c2]
        by_cases c3 : r < j
        · rw [if_pos c3, if_pos (by omega), if_pos (by omega), show j - 1 + 1 = j by omega]
        · rw [if_neg c3, if_pos (by omega), if_neg (by omega)]
    · rw [if_neg (by omega)]
      exact (h (by omega)).1.symm
  · have h := hA j
    show (if (j : Int) < l - 1 + 1 then (if (j : Int) = r then 1 else if r < j then (if ((j - 1 : Nat) : Int) < l - 1 then (if r ≤ ((j - 1 : Nat) : Int) then d (j - 1 + 1) else d (j - 1)) else 0) else (if (j : Int) < l - 1 then (if r ≤ (j : Int) then d (j + 1) else d j) else 0)) else 0) = d j
    by_cases c : (j : Int) < l
    · rw [if_pos (by omega)]
      by_cases c2 : (j : Int) = r
      · rw [if_pos c2, ← hd, ← c2, natT]
      · rw [if_neg c2]
        by_cases c3 : r < j
        · rw [if_pos c3, if_pos (by omega), if_pos (by omega), show j - 1 + 1 = j by omega]
        · rw [if_neg c3, if_pos (by omega), if_neg (by omega)]
    · rw [if_neg (by omega)]
      exact (h (by omega)).2.symm
theorem tog_tog (A : Rw) (r : Int) : rwTog (rwTog A r) r = A := by
  obtain ⟨a, l, d⟩ := A
  refine Prod.ext rfl (Prod.ext rfl (funext fun j => ?_))
  show (if (j : Int) = r ∧ (j : Int) < l then 1 - (if (j : Int) = r ∧ (j : Int) < l then 1 - d j else d j) else (if (j : Int) = r ∧ (j : Int) < l then 1 - d j else d j)) = d j
  by_cases c : (j : Int) = r ∧ (j : Int) < l
  · rw [if_pos c, if_pos c]; omega
  · rw [if_neg c, if_neg c]
section SIM5
variable {k n : Nat} {T : Nat → Rw} {Y : Nat → Int} {lap bnd mrg : Int} {M M1 M2 M3 : Mm}
/-- one timber of the row changed -/
theorem one_rel {t : Nat} {kd rg bf : Int} {MA MB : Mm} {g : Nat → Int} (hc : cls M n T Y lap bnd mrg) (hm : mdl M n T Y lap bnd mrg) (hx : relX M k n lap bnd mrg) (ht : t < n)
    (a1 : ∀ b j, 106 ≤ b → b ≤ 110 → MA b j = mRec M 106 kd t rg bf b j) (a2 : ∀ b j, ¬ (82 + 3 * t ≤ b ∧ b < 85 + 3 * t) → ¬ (106 ≤ b ∧ b ≤ 110) → MA b j = M b j) (aw : wfT MA (82 + 3 * t))
    (g1 : ∀ j, j < 30 * t ∨ 30 * t + 30 ≤ j → g j = M 158 j) (g2 : tRw MA (82 + 3 * t) = vT g t) (g3 : g (30 * t + 4) = M 158 (30 * t + 4)) (g4 : MA (82 + 3 * t) 3 = g (30 * t + 1)) (g5 : MA (82 + 3 * t) 4 = g (30 * t + 2)) (g6 : MA (82 + 3 * t) 5 = g (30 * t + 3)) (gw : okT (vT g t) ∧ wfM g t)
    (h3 : rsM MA 0 M3) (b1 : ∀ b j, b ≠ 158 → MB b j = mKeep M3 b j) (b3 : ∀ j, MB 158 j = g j) (hu : unOK kd t rg bf n (vT g) ∧ vT (M 158) t = unT kd t rg bf (vT g) t ∧ vY (M 158) t = unY kd t bf (vY g) t ∧ vH (M 158) t = unH kd t bf (vH g) t ∧ M 158 (30 * t + 1) = g (30 * t + 1) ∧ M 158 (30 * t + 2) = g (30 * t + 2)) (hkd : kd ≠ 1) : MB 154 1 = 0 ∧ Rel (k + 1) MB := by
  have n8 := hm.1.2
  have rw' := row_w hx
  have hr := hx.1
  have go : ∀ s, s < n → s ≠ t → vT g s = vT (M 158) s ∧ vY g s = vY (M 158) s ∧ vH g s = vH (M 158) s ∧ g (30 * s + 1) = M 158 (30 * s + 1) ∧ g (30 * s + 2) = M 158 (30 * s + 2) ∧ ∀ q, q < 30 → g (30 * s + q) = M 158 (30 * s + q) := by
    intro s hs hst
    have e : ∀ q, q < 30 → g (30 * s + q) = M 158 (30 * s + q) := fun q hq => g1 _ (by omega)
    exact ⟨mRw_eq (fun q hq _ => e q hq) (rw' s hs).1.1.2, e 4 (by omega), e 3 (by omega), e 1 (by omega), e 2 (by omega), e⟩
  have yt : vY g t = vY (M 158) t := g3
  have gW : rowW g n := by
    intro s hs
    by_cases c : s = t
    · subst c
      exact ⟨gw.1, by rw [yt]; exact (rw' s hs).2.1, gw.2⟩
    · obtain ⟨v1, v2, -, -, -, v6⟩ := go s hs c
      obtain ⟨w1, w2, w3⟩ := rw' s hs
      exact ⟨by rw [v1]; exact w1, by rw [v2]; exact w2, wfM_eq (fun q hq _ => v6 q hq) w3⟩
  refine act_rel (kd := kd) (sb := t) (rg := rg) (bf := bf) (g := g) (MA := MA) (M3 := M3) hc hm hx a1 (fun b j z => a2 b j (by omega) (by omega)) (fun b j p1 p2 => a2 b j (by omega) (by omega)) (fun j p1 p2 => a2 _ _ (by omega) (by omega)) (wfS_tm hc.1.1.1 (show t < 8 by omega) (fun b p1 p2 p3 j => a2 b j (by omega) (by omega)) aw) ?_ gW h3 (fun b j _ z2 => b1 b j z2) ?_ (funext b3) ⟨hu.1, fun s hs => ?_⟩
  · intro s hs
    obtain ⟨r1, r2, r3, r4, r5⟩ := hr s hs
    by_cases c : s = t
    · subst c
      refine ⟨g2, ?_, g4, g5, g6⟩
      rw [a2 _ _ (by omega) (by omega), r2, yt]
    · obtain ⟨v1, v2, v3, v4, v5, -⟩ := go s hs c
      rw [v1, v2, v3, v4, v5]
      refine ⟨?_, ?_, ?_, ?_, ?_⟩
      · rw [tRw_fr (fun q hq j => a2 _ _ (by omega) (by omega))]; exact r1
      · rw [a2 _ _ (by omega) (by omega)]; exact r2
      · rw [a2 _ _ (by omega) (by omega)]; exact r3
      · rw [a2 _ _ (by omega) (by omega)]; exact r4
      · rw [a2 _ _ (by omega) (by omega)]; exact r5
  · rw [b1 _ _ (by omega), mKeep_o (by omega) (by omega)]
    exact h3.1
  · by_cases c : s = t
    · subst c
      exact hu.2
    · obtain ⟨v1, v2, v3, v4, v5, -⟩ := go s hs c
      refine ⟨?_, ?_, ?_, v4.symm, v5.symm⟩
      · unfold unT
        rw [if_neg (by omega), if_neg (by omega), if_neg (by omega), v1]
      · unfold unY
        rw [if_neg (by omega), if_neg (fun w => hkd w.1), v2]
      · unfold unH
        rw [if_neg (by omega), v3]
theorem mRec_fr {kd sb rg bf : Int} : FrP (fun b _ => 106 ≤ b ∧ b ≤ 110) M (mRec M 106 kd sb rg bf) := fun b j z => mRec_out b j (by omega)
theorem rec_158 {MA : Mm} (f : ∀ j, MA 158 j = M 158 j) (h3 : rsM MA 0 M3) : M3 158 = M 158 := funext (fun j => (h3.2 _ _ (by unfold scrM; omega)).trans (f j))
theorem sim_move {t a : Int} (hR : Rel k M) (ht : inR t) (ha : inR a) : Sim m_RingDater_move m_Model_move [.inl t, .inl a] k M := by
  obtain ⟨n, T, Y, lap, bnd, mrg, hc, hm, hx⟩ := hR
  obtain ⟨l1, l2⟩ := relX_ld hx
  have n8 := hm.1.2
  by_cases c : ¬ (0 ≤ t ∧ t < n) ∨ a < 0 ∨ 3 < a ∨ M (82 + 3 * t.toNat) 5 = a
  · refine (RingDater_move_no hc ht ha c).eq ⟨⟨by omega, by omega⟩, ?_⟩
    have hm1 := mdl_fr hm (fr_ref (M1 := M) (q := 1)) (fun b j z => by omega)
    have c' : ¬ (0 ≤ t ∧ t < n) ∨ a < 0 ∨ 3 < a ∨ mset M 114 1 (M 114 1 + 1) 158 (30 * t.toNat + 3) = a := by
      by_cases c1 : 0 ≤ t ∧ t < n
      · have r := (relX_row hx (t := t.toNat) (by omega)).2.2
        have e : mset M 114 1 (M 114 1 + 1) 158 (30 * t.toNat + 3) = M 158 (30 * t.toNat + 3) := by simp [mset]
        rw [e, ← r]
        exact c
      · exact Or.inl c1
    refine (Mmove_no hm1 ht ha c').eq ⟨rfl, ?_⟩
    exact ref_rel (by omega) hc hm hx hc FrP.rf rs_ref
  · obtain ⟨u, rfl⟩ : ∃ u : Nat, t = u := ⟨t.toNat, by omega⟩
    have hu : u < n := by omega
    rw [natT] at c
    obtain ⟨r1, r2, r3⟩ := relX_row hx hu
    have g := mdl_t hm hu
    have gw := g.2.2.2.2.2.1
    have rw' := row_w hx
    refine (RingDater_move_ok hc l1 hu (by omega) (by omega)).eq ⟨by rw [r3]; exact ⟨by have := gw.2.2.1; omega, by have := gw.2.2.1; omega⟩, ?_⟩
    have F : ∀ b j, ¬ (b = 82 + 3 * u ∧ j = 5) → ¬ (106 ≤ b ∧ b ≤ 110) → mset (mRec M 106 5 u 0 (M (82 + 3 * u) 5)) (82 + 3 * u) 5 a b j = M b j := fun b j z1 z2 => by
      show (if b = 82 + 3 * u ∧ j = 5 then a else _) = _
      rw [if_neg z1]
      exact mRec_out _ _ (by omega)
    have hm1 := mdl_fr hm (P := fun b j => b = 82 + 3 * u ∧ j = 5 ∨ 106 ≤ b ∧ b ≤ 110) (M1 := mset (mRec M 106 5 u 0 (M (82 + 3 * u) 5)) (82 + 3 * u) 5 a) (fun b j z => F b j (fun w => z (Or.inl w)) (fun w => z (Or.inr w))) (fun b j z => by omega)
    have l2' : ldM (mset (mRec M 106 5 u 0 (M (82 + 3 * u) 5)) (82 + 3 * u) 5 a) := by
      unfold ldM
      rw [F _ _ (by omega) (by omega)]
      exact l2
    have e3 : mset (mRec M 106 5 u 0 (M (82 + 3 * u) 5)) (82 + 3 * u) 5 a 158 (30 * u + 3) = M 158 (30 * u + 3) := F _ _ (by omega) (by omega)
    have B := Mmove_ok (a := a) hm1 l2' hu (by omega) (by rw [e3, ← r3]; omega)
    rw [e3] at B
    have e58 := rec_158 (M := M) (MA := mset (mRec M 106 5 u 0 (M (82 + 3 * u) 5)) (82 + 3 * u) 5 a) (fun j => F _ _ (by omega) (by omega)) rsM_0
    refine B.eq ⟨r3, ?_⟩
    have gv : ∀ j, (fun j => if j = 30 * u + 3 then a else M 158 j) j = if j = 30 * u + 3 then a else M 158 j := fun j => rfl
    have gp : (fun j => if j = 30 * u + 3 then a else M 158 j) (30 * u + 3) = a := if_pos rfl
    have o : ∀ q, q ≠ 30 * u + 3 → (fun j => if j = 30 * u + 3 then a else M 158 j) q = M 158 q := fun q hq => if_neg hq
    generalize (fun j => if j = 30 * u + 3 then a else M 158 j) = g' at *
    have eT : vT g' u = vT (M 158) u := mRw_eq2 (fun q hq h3 => o _ (by omega)) (rw' u hu).1.1.2
    have eY : vY g' u = vY (M 158) u := o _ (by omega)
    have eH : vH g' u = a := gp
    have ok := rw' u hu
    have W := (cls_tm hc hu).2.2.1
    refine one_rel (t := u) (kd := 5) (rg := 0) (bf := M (82 + 3 * u) 5) (g := g') (MA := mset (mRec M 106 5 u 0 (M (82 + 3 * u) 5)) (82 + 3 * u) 5 a) (M3 := c0M (mset (mRec M 106 5 u 0 (M (82 + 3 * u) 5)) (82 + 3 * u) 5 a)) hc hm hx hu (fun b j p1 p2 => ?_) (fun b j z1 z2 => F b j (by omega) z2) ?_ (fun j hj => o j (by omega)) ?_ eY ?_ ?_ ?_ ⟨by rw [eT]; exact ok.1, ?_⟩ rsM_0 (fun b j hb => ?_) (fun j => ?_) ⟨⟨by omega, ⟨by omega, by omega⟩, inR_0, fun _ => by omega, fun z => by omega, fun z => by omega, fun z => by omega⟩, ?_, ?_, ?_, (o _ (by omega)).symm, (o _ (by omega)).symm⟩ (by omega)
    · show (if b = 82 + 3 * u ∧ j = 5 then a else _) = _
      rw [if_neg (by omega)]
    · obtain ⟨w1, w2, w3, w4, w5, w6⟩ := W
      refine ⟨?_, fun j hj => ?_, fun j hj => ?_, ?_, ?_, ?_⟩
      · rw [F _ _ (by omega) (by omega)]; exact w1
      · rw [F _ _ (by omega) (by omega)]; exact w2 j hj
      · rw [F _ _ (by omega) (by omega)]; exact w3 j hj
      · rw [F _ _ (by omega) (by omega)]; exact w4
      · rw [F _ _ (by omega) (by omega)]; exact w5
      · have e : mset (mRec M 106 5 u 0 (M (82 + 3 * u) 5)) (82 + 3 * u) 5 a (82 + 3 * u) 5 = a := if_pos ⟨rfl, rfl⟩
        rw [e]
        omega
    · rw [eT, ← (hx.1 u hu).1]
      have e2 : mset (mRec M 106 5 u 0 (M (82 + 3 * u) 5)) (82 + 3 * u) 5 a (82 + 3 * u) 2 = M (82 + 3 * u) 2 := F _ _ (by omega) (by omega)
      unfold tRw
      rw [e2]
      have f1 : mset (mRec M 106 5 u 0 (M (82 + 3 * u) 5)) (82 + 3 * u) 5 a (82 + 3 * u + 1) = M (82 + 3 * u + 1) := funext (fun j => F _ _ (by omega) (by omega))
      have f2 : mset (mRec M 106 5 u 0 (M (82 + 3 * u) 5)) (82 + 3 * u) 5 a (82 + 3 * u + 2) = M (82 + 3 * u + 2) := funext (fun j => F _ _ (by omega) (by omega))
      rw [f1, f2]
    · rw [F _ _ (by omega) (by omega), o _ (by omega)]; exact r1
    · rw [F _ _ (by omega) (by omega), o _ (by omega)]; exact r2
    · have e : mset (mRec M 106 5 u 0 (M (82 + 3 * u) 5)) (82 + 3 * u) 5 a (82 + 3 * u) 5 = a := if_pos ⟨rfl, rfl⟩
      rw [e, gp]
    · obtain ⟨w1, w2, w3, w4, w5⟩ := ok.2.2
      have e0 := o (30 * u) (by omega)
      unfold wfM
      rw [e0, o (30 * u + 1) (by omega), o (30 * u + 2) (by omega), gp, o (30 * u + 5) (by omega)]
      exact ⟨w1, w2, by omega, w4, w5⟩
    · show (if b = 158 ∧ j = 30 * u + 3 then a else _) = _
      rw [if_neg (fun w => hb w.1)]
    · show (if 158 = 158 ∧ j = 30 * u + 3 then a else mKeep (c0M (mset (mRec M 106 5 u 0 (M (82 + 3 * u) 5)) (82 + 3 * u) 5 a)) 158 j) = _
      rw [mKeep_o (by omega) (by omega), show c0M (mset (mRec M 106 5 u 0 (M (82 + 3 * u) 5)) (82 + 3 * u) 5 a) 158 j = M 158 j from congrFun e58 j]
      by_cases cj : j = 30 * u + 3
      · rw [if_pos ⟨rfl, cj⟩, cj, gp]
      · rw [if_neg (fun w => cj w.2), o j cj]
    · unfold unT
      rw [if_neg (by omega), if_neg (by omega), if_neg (by omega), eT]
    · unfold unY
      rw [if_neg (by omega), if_neg (by omega), eY]
    · unfold unH
      rw [if_pos ⟨rfl, rfl⟩]
      exact r3.symm
theorem dbit {t r : Nat} (hc : cls M n T Y lap bnd mrg) (hm : mdl M n T Y lap bnd mrg) (ht : t < n) (hr : (r : Int) < (T t).2.1) : M (82 + 3 * t + 2) r = if btI (M 158 (30 * t + 5)) r = true then 1 else 0 := by
  obtain ⟨-, -, w, e, o, -⟩ := cls_tm hc ht
  have o1 := o.1
  have v := vDou_bit (r := (r : Int)) hc hm ht ⟨by omega, hr⟩
  rw [bit_test _ (by omega)] at v
  have e2 : M (82 + 3 * t) 2 = (T t).2.1 := by rw [← e]; rfl
  unfold vDou at v
  rw [if_pos (by omega), natT] at v
  exact v
theorem sim_doubt {t r : Int} (hR : Rel k M) (ht : inR t) (hr : inR r) : Sim m_RingDater_doubt m_Model_doubt [.inl t, .inl r] k M := by
  obtain ⟨n, T, Y, lap, bnd, mrg, hc, hm, hx⟩ := hR
  obtain ⟨l1, l2⟩ := relX_ld hx
  have n8 := hm.1.2
  by_cases c : ¬ (0 ≤ t ∧ t < n) ∨ ¬ (0 ≤ r ∧ r < (T t.toNat).2.1)
  · refine (RingDater_doubt_no hc ht hr c).eq ⟨⟨by omega, by omega⟩, ?_⟩
    have hm1 := mdl_fr hm (fr_ref (M1 := M) (q := 1)) (fun b j z => by omega)
    refine (Mdoubt_no hm1 ht hr c).eq ⟨rfl, ?_⟩
    exact ref_rel (by omega) hc hm hx hc FrP.rf rs_ref
  · obtain ⟨u, rfl⟩ : ∃ u : Nat, t = u := ⟨t.toNat, by omega⟩
    have hu : u < n := by omega
    rw [natT] at c
    obtain ⟨q, rfl⟩ : ∃ q : Nat, r = q := ⟨r.toNat, by omega⟩
    have hq : (q : Int) < (T u).2.1 := by omega
    obtain ⟨r1, r2, r3⟩ := relX_row hx hu
    have rw' := row_w hx
    have ok := rw' u hu
    have W := (cls_tm hc hu).2.2.1
    have o24 := (mdl_t hm hu).2.2.2.1.1
    have el : vT (M 158) u = T u := (row_Y hm hu).2
    have em : M 158 (30 * u) = (T u).2.1 := (mdl_t hm hu).1.2
    have db := fun {j} hj => dbit (r := j) hc hm hu hj
    have d0 := db hq
    have A := RingDater_doubt_ok hc l1 hu (r := (q : Int)) ⟨by omega, hq⟩
    rw [natT] at A
    have F : ∀ b j, ¬ (b = 82 + 3 * u + 2 ∧ j = q) → ¬ (106 ≤ b ∧ b ≤ 110) → mset (mRec M 106 4 u q 0) (82 + 3 * u + 2) q (1 - M (82 + 3 * u + 2) q) b j = M b j := fun b j z1 z2 => by
      show (if b = 82 + 3 * u + 2 ∧ j = q then _ else _) = _
      rw [if_neg z1]
      exact mRec_out _ _ (by omega)
    have Fp : mset (mRec M 106 4 u q 0) (82 + 3 * u + 2) q (1 - M (82 + 3 * u + 2) q) (82 + 3 * u + 2) q = 1 - M (82 + 3 * u + 2) q := if_pos ⟨rfl, rfl⟩
    have Fr : ∀ b j, 106 ≤ b → b ≤ 110 → mset (mRec M 106 4 u q 0) (82 + 3 * u + 2) q (1 - M (82 + 3 * u + 2) q) b j = mRec M 106 4 u q 0 b j := fun b j p1 p2 => if_neg (by omega)
    refine A.eq ⟨by rw [d0]; split <;> exact ⟨by omega, by omega⟩, ?_⟩
    generalize mset (mRec M 106 4 u q 0) (82 + 3 * u + 2) q (1 - M (82 + 3 * u + 2) q) = MA at *
    have hm1 := mdl_fr hm (P := fun b j => b = 82 + 3 * u + 2 ∧ j = q ∨ 106 ≤ b ∧ b ≤ 110) (M1 := MA) (fun b j z => F b j (fun w => z (Or.inl w)) (fun w => z (Or.inr w))) (fun b j z => by omega)
    have l2' : ldM MA := by
      unfold ldM
      rw [F _ _ (by omega) (by omega)]
      exact l2
    have B := Mdoubt_ok hm1 l2' hu hq
    have e5 : MA 158 (30 * u + 5) = M 158 (30 * u + 5) := F _ _ (by omega) (by omega)
    rw [e5] at B
    have e58 := rec_158 (M := M) (MA := MA) (fun j => F _ _ (by omega) (by omega)) rsM_0
    have bx : ∀ j, j < 32 → btI (bXor (M 158 (30 * u + 5)) (bShl 1 q)) j = if j = q then !(btI (M 158 (30 * u + 5)) j) else btI (M 158 (30 * u + 5)) j := by
      intro j hj
      rw [btI_xor, btI_shl (by omega) _ hj, btI_1 (by omega)]
      by_cases cj : j = q
      · subst cj
        simp
      · rw [if_neg cj]
        by_cases c2 : q ≤ j
        · have : ¬ j - q = 0 := by omega
          simp [c2, this]
        · simp [c2]
    refine B.eq ⟨?_, ?_⟩
    · rw [bit_test _ (by omega), bx q (by omega), if_pos rfl, d0]
      cases btI (M 158 (30 * u + 5)) q <;> simp
    have gp : (fun j => if j = 30 * u + 5 then bXor (M 158 (30 * u + 5)) (bShl 1 q) else M 158 j) (30 * u + 5) = bXor (M 158 (30 * u + 5)) (bShl 1 q) := if_pos rfl
    have o : ∀ q', q' ≠ 30 * u + 5 → (fun j => if j = 30 * u + 5 then bXor (M 158 (30 * u + 5)) (bShl 1 q) else M 158 j) q' = M 158 q' := fun q' hq' => if_neg hq'
    generalize (fun j => if j = 30 * u + 5 then bXor (M 158 (30 * u + 5)) (bShl 1 q) else M 158 j) = g' at *
    have e0 := o (30 * u) (by omega)
    have eT : vT g' u = rwTog (vT (M 158) u) q := by
      show (((fun j : Nat => if (j : Int) < g' (30 * u) then g' (30 * u + 6 + j) else 0), g' (30 * u), fun j : Nat => if (j : Int) < g' (30 * u) then (if btI (g' (30 * u + 5)) j = true then (1 : Int) else 0) else 0) : Rw) = _
      rw [e0, gp]
      refine Prod.ext (funext fun j => ?_) (Prod.ext rfl (funext fun j => ?_))
      · show (if (j : Int) < M 158 (30 * u) then g' (30 * u + 6 + j) else 0) = if (j : Int) < M 158 (30 * u) then M 158 (30 * u + 6 + j) else 0
        split
        · rw [o _ (by omega)]
        · rfl
      · show (if (j : Int) < M 158 (30 * u) then (if btI (bXor (M 158 (30 * u + 5)) (bShl 1 q)) j = true then (1 : Int) else 0) else 0) = if (j : Int) = q ∧ (j : Int) < M 158 (30 * u) then 1 - (if (j : Int) < M 158 (30 * u) then (if btI (M 158 (30 * u + 5)) j = true then (1 : Int) else 0) else 0) else (if (j : Int) < M 158 (30 * u) then (if btI (M 158 (30 * u + 5)) j = true then (1 : Int) else 0) else 0)
        by_cases cl : (j : Int) < M 158 (30 * u)
        · rw [if_pos cl, if_pos cl, bx j (by omega)]
          by_cases cj : j = q
          · subst cj
            rw [if_pos ⟨rfl, cl⟩, if_pos rfl]
            cases btI (M 158 (30 * u + 5)) j <;> simp
          · rw [if_neg (fun w => cj (by omega)), if_neg cj]
        · rw [if_neg cl, if_neg cl, if_neg (fun w => cl w.2)]
    have eY : vY g' u = vY (M 158) u := o _ (by omega)
    have eH : vH g' u = vH (M 158) u := o _ (by omega)
    have okT' : okT (vT g' u) := by
      rw [eT]
      obtain ⟨p1, p2, p3⟩ := ok.1
      refine ⟨p1, p2, fun j hj => ?_⟩
      have := p3 j hj
      show (if (j : Int) = q ∧ (j : Int) < (vT (M 158) u).2.1 then 1 - (vT (M 158) u).2.2 j else (vT (M 158) u).2.2 j) = 0 ∨ (if (j : Int) = q ∧ (j : Int) < (vT (M 158) u).2.1 then 1 - (vT (M 158) u).2.2 j else (vT (M 158) u).2.2 j) = 1
      split <;> omega
    have elg : (vT g' u).2.1 = (T u).2.1 := by rw [eT, ← el]; rfl
    refine one_rel (t := u) (kd := 4) (rg := q) (bf := 0) (g := g') (MA := MA) (M3 := c0M MA) hc hm hx hu Fr (fun b j z1 z2 => F b j (by omega) z2) ?_ (fun j hj => o j (by omega)) ?_ eY ?_ ?_ ?_ ⟨okT', ?_⟩ rsM_0 (fun b j hb => ?_) (fun j => ?_) ⟨⟨by omega, ⟨by omega, by omega⟩, ⟨by omega, by omega⟩, fun _ => by omega, fun z => by omega, fun z => by omega, fun z => by rw [natT, elg]; omega⟩, ?_, ?_, ?_, (o _ (by omega)).symm, (o _ (by omega)).symm⟩ (by omega)
    · obtain ⟨w1, w2, w3, w4, w5, w6⟩ := W
      refine ⟨?_, fun j hj => ?_, fun j hj => ?_, ?_, ?_, ?_⟩
      · rw [F _ _ (by omega) (by omega)]; exact w1
      · rw [F _ _ (by omega) (by omega)]; exact w2 j hj
      · have := w3 j hj
        by_cases cj : j = q
        · subst cj; rw [Fp]; omega
        · rw [F _ _ (by omega) (by omega)]; exact this
      · rw [F _ _ (by omega) (by omega)]; exact w4
      · rw [F _ _ (by omega) (by omega)]; exact w5
      · rw [F _ _ (by omega) (by omega)]; exact w6
    · rw [eT, ← (hx.1 u hu).1]
      have e2 : MA (82 + 3 * u) 2 = M (82 + 3 * u) 2 := F _ _ (by omega) (by omega)
      have f1 : MA (82 + 3 * u + 1) = M (82 + 3 * u + 1) := funext (fun j => F _ _ (by omega) (by omega))
      have em2 : M (82 + 3 * u) 2 = (T u).2.1 := by rw [← (cls_tm hc hu).2.2.2.1]; rfl
      unfold tRw
      rw [e2, f1]
      refine Prod.ext rfl (Prod.ext rfl (funext fun j => ?_))
      show (if (j : Int) < M (82 + 3 * u) 2 then MA (82 + 3 * u + 2) j else 0) = if (j : Int) = q ∧ (j : Int) < M (82 + 3 * u) 2 then 1 - (if (j : Int) < M (82 + 3 * u) 2 then M (82 + 3 * u + 2) j else 0) else (if (j : Int) < M (82 + 3 * u) 2 then M (82 + 3 * u + 2) j else 0)
      by_cases cl : (j : Int) < M (82 + 3 * u) 2
      · rw [if_pos cl, if_pos cl]
        by_cases cj : j = q
        · subst cj
          rw [if_pos ⟨rfl, cl⟩, Fp]
        · rw [if_neg (fun w => cj (by omega)), F _ _ (by omega) (by omega)]
      · rw [if_neg cl, if_neg cl, if_neg (fun w => cl w.2)]
    · rw [F _ _ (by omega) (by omega), o _ (by omega)]; exact r1
    · rw [F _ _ (by omega) (by omega), o _ (by omega)]; exact r2
    · rw [F _ _ (by omega) (by omega), o _ (by omega)]; exact r3
    · obtain ⟨w1, w2, w3, w4, w5⟩ := ok.2.2
      unfold wfM
      rw [e0, o (30 * u + 1) (by omega), o (30 * u + 2) (by omega), o (30 * u + 3) (by omega), gp]
      refine ⟨w1, w2, w3, bXor_in _ _, fun i hi => ?_⟩
      by_cases c32 : i < 32
      · rw [bx i c32, if_neg (by omega)]
        exact w5 i hi
      · exact btI_big (by omega)
    · show (if b = 158 ∧ j = 30 * u + 5 then _ else _) = _
      rw [if_neg (fun w => hb w.1)]
    · show (if 158 = 158 ∧ j = 30 * u + 5 then bXor (M 158 (30 * u + 5)) (bShl 1 q) else mKeep (c0M MA) 158 j) = _
      rw [mKeep_o (by omega) (by omega), show c0M MA 158 j = M 158 j from congrFun e58 j]
      by_cases cj : j = 30 * u + 5
      · rw [if_pos ⟨rfl, cj⟩, cj, gp]
      · rw [if_neg (fun w => cj w.2), o j cj]
    · unfold unT
      rw [if_neg (by omega), if_neg (by omega), if_pos ⟨rfl, rfl⟩, eT, tog_tog]
    · unfold unY
      rw [if_neg (by omega), if_neg (by omega), eY]
    · unfold unH
      rw [if_neg (by omega), eH]
theorem row_can {t : Nat} (hm : mdl M n T Y lap bnd mrg) (ht : t < n) : ∀ j : Nat, (T t).2.1 ≤ j → (T t).1 j = 0 ∧ (T t).2.2 j = 0 := by
  rw [← (row_Y hm ht).2]
  exact vT_can _ _
theorem sim_mend {t r b : Int} (hR : Rel k M) (ht : inR t) (hr : inR r) (hb : b = 0 ∨ b = 1) : Sim m_RingDater_mend m_Model_mend [.inl t, .inl r, .inl b] k M := by
  obtain ⟨n, T, Y, lap, bnd, mrg, hc, hm, hx⟩ := hR
  obtain ⟨l1, l2⟩ := relX_ld hx
  have n8 := hm.1.2
  by_cases c : ¬ (0 ≤ t ∧ t < n) ∨ Y t.toNat ≠ -1 ∨ ¬ (if b = 1 then canG (T t.toNat) r else canL (T t.toNat) r)
  · refine (RingDater_mend_no hc ht hr hb c).eq ⟨⟨by omega, by omega⟩, ?_⟩
    have hm1 := mdl_fr hm (fr_ref (M1 := M) (q := 1)) (fun b j z => by omega)
    refine (Mmend_no hm1 ht hr hb c).eq ⟨rfl, ?_⟩
    exact ref_rel (by omega) hc hm hx hc FrP.rf rs_ref
  · obtain ⟨u, rfl⟩ : ∃ u : Nat, t = u := ⟨t.toNat, by omega⟩
    have hu : u < n := by omega
    rw [natT] at c
    have hY : Y u = -1 := by
      by_cases e : Y u = -1
      · exact e
      · exact absurd (Or.inr (Or.inl e)) c
    have hg : if b = 1 then canG (T u) r else canL (T u) r := by
      by_cases e : (if b = 1 then canG (T u) r else canL (T u) r)
      · exact e
      · exact absurd (Or.inr (Or.inr e)) c
    clear c
    obtain ⟨r1, r2, r3⟩ := relX_row hx hu
    have rw' := row_w hx
    have ok := rw' u hu
    obtain ⟨ct, -, W, eC, oC, -⟩ := cls_tm hc hu
    have o1 := oC.1
    have el : vT (M 158) u = T u := (row_Y hm hu).2
    have em : M 158 (30 * u) = (T u).2.1 := (mdl_t hm hu).1.2
    have em2 : M (82 + 3 * u) 2 = (T u).2.1 := by rw [← eC]; rfl
    have can := row_can hm hu
    rcases hb with rfl | rfl
    · rw [if_neg (by omega)] at hg
      have hg' := hg
      obtain ⟨q1, q2, q3, q4⟩ := hg'
      obtain ⟨q, rfl⟩ : ∃ q : Nat, r = q := ⟨r.toNat, by omega⟩
      rw [natT] at q4
      have dv := oC.2.2 q (by omega)
      have wv := okT_N (r := (q : Int)) oC
      have A := RingDater_mend_out hc l1 hu hY hr hg
      have F : ∀ b j, ¬ (82 + 3 * u ≤ b ∧ b < 85 + 3 * u) → ¬ (106 ≤ b ∧ b ≤ 110) → mRem (mRec M 106 3 u q (sN (T u) q)) (82 + 3 * u) q b j = M b j := fun b j z1 z2 => by
        simp only [mRem]
        rw [if_neg (by omega), if_neg (by omega), if_neg (by omega)]
        exact mRec_out _ _ (by omega)
      have Fr : ∀ b j, 106 ≤ b → b ≤ 110 → mRem (mRec M 106 3 u q (sN (T u) q)) (82 + 3 * u) q b j = mRec M 106 3 u q (sN (T u) q) b j := fun b j p1 p2 => by
        simp only [mRem]
        rw [if_neg (by omega), if_neg (by omega), if_neg (by omega)]
      have mr : ∀ p, p < 3 → ∀ j, mRec M 106 3 u q (sN (T u) q) (82 + 3 * u + p) j = M (82 + 3 * u + p) j := fun p hp j => mRec_lo _ _ (by omega)
      have m0 : mRec M 106 3 u q (sN (T u) q) (82 + 3 * u) 2 = (T u).2.1 := (mRec_lo _ _ (by omega)).trans em2
      have tr : tRw (mRem (mRec M 106 3 u q (sN (T u) q)) (82 + 3 * u) q) (82 + 3 * u) = rwRem (T u) q := by
        rw [tRw_rem q2 (by rw [m0]; exact q3), tRw_fr mr, eC]
      have wf : wfT (mRem (mRec M 106 3 u q (sN (T u) q)) (82 + 3 * u) q) (82 + 3 * u) := mRem_wf (wfT_cells (fun b p1 p2 j => mRec_lo _ _ (by omega)) W) q2 (by rw [m0]; exact q3)
      have eo : ∀ j, 3 ≤ j → mRem (mRec M 106 3 u q (sN (T u) q)) (82 + 3 * u) q (82 + 3 * u) j = M (82 + 3 * u) j := fun j hj => by
        simp only [mRem]
        rw [if_neg (by omega), if_neg (by omega), if_neg (by omega)]
        exact mRec_lo _ _ (by omega)
      refine A.eq ⟨⟨by omega, by omega⟩, ?_⟩
      generalize mRem (mRec M 106 3 u q (sN (T u) q)) (82 + 3 * u) q = MA at *
      have hm1 := mdl_fr hm (P := fun b j => 82 + 3 * u ≤ b ∧ b < 85 + 3 * u ∨ 106 ≤ b ∧ b ≤ 110) (M1 := MA) (fun b j z => F b j (fun w => z (Or.inl w)) (fun w => z (Or.inr w))) (fun b j z => by omega)
      have l2' : ldM MA := by
        unfold ldM
        rw [F _ _ (by omega) (by omega)]
        exact l2
      have B := Mmend_L (i := q) hm1 l2' hu hY hg
      have e58 := rec_158 (M := M) (MA := MA) (fun j => F _ _ (by omega) (by omega)) rsM_0
      have e8 : ∀ j, mKeep (c0M MA) 158 j = M 158 j := fun j => by rw [mKeep_o (by omega) (by omega)]; exact congrFun e58 j
      refine B.eq ⟨rfl, ?_⟩
      have hn : mKeep (c0M MA) 158 (30 * u) = ((T u).2.1.toNat : Nat) := by rw [e8, em]; omega
      have f158 : mKeep (c0M MA) 158 = M 158 := funext e8
      have vt : vT (mMdL (mKeep (c0M MA)) u (T u).2.1.toNat q 158) u = rwRem (T u) q := by
        unfold vT
        rw [mRw_L hn (by omega) (by omega) (by omega), f158]
        exact congrArg (fun z => rwRem z q) el
      have wm := wfM_L (i := q) hn (by omega) (by omega) (by omega) (by rw [f158]; exact ok.2.2)
      have go : ∀ j, (j < 30 * u ∨ 30 * u + 30 ≤ j ∨ (30 * u < j ∧ j < 30 * u + 5)) → mMdL (mKeep (c0M MA)) u (T u).2.1.toNat q 158 j = M 158 j := fun j hj => by
        simp only [mMdL]
        rw [if_neg (by omega), if_neg (by omega), if_neg (by omega), if_neg (by omega)]
        exact e8 j
      have bo : ∀ b j, b ≠ 158 → mMdL (mKeep (c0M MA)) u (T u).2.1.toNat q b j = mKeep (c0M MA) b j := fun b j hb => by
        simp only [mMdL]
        rw [if_neg (fun w => hb w.1), if_neg (fun w => hb w.1), if_neg (fun w => hb w.1), if_neg (fun w => hb w.1)]
      generalize mMdL (mKeep (c0M MA)) u (T u).2.1.toNat q = MB at *
      refine one_rel (t := u) (kd := 3) (rg := q) (bf := sN (T u) q) (g := MB 158) (MA := MA) (M3 := c0M MA) hc hm hx hu Fr F wf (fun j hj => go j (by omega)) ?_ (go _ (by omega)) ?_ ?_ ?_ ⟨by rw [vt]; exact okT_rem oC q1 q2 q3, wm⟩ rsM_0 bo (fun j => rfl) ⟨⟨by omega, ⟨by omega, by omega⟩, hr, fun _ => by omega, fun z => by omega, fun z => by rw [natT, vt]; show (0 ≤ (q : Int) ∧ (q : Int) ≤ (T u).2.1 - 1) ∧ (T u).2.1 - 1 < 24; omega, fun z => by omega⟩, ?_, ?_, ?_, (go _ (by omega)).symm, (go _ (by omega)).symm⟩ (by omega)
      · rw [tr, vt]
      · rw [eo _ (by omega), go _ (by omega)]; exact r1
      · rw [eo _ (by omega), go _ (by omega)]; exact r2
      · rw [eo _ (by omega), go _ (by omega)]; exact r3
      · unfold unT
        rw [if_neg (by omega), if_pos ⟨rfl, rfl⟩, vt, el, ins_rem can q2 q3 (by rw [natT]; omega)]
      · unfold unY
        rw [if_neg (by omega), if_neg (by omega)]
        exact (go _ (by omega)).symm
      · unfold unH
        rw [if_neg (by omega)]
        exact (go _ (by omega)).symm
    · rw [if_pos rfl] at hg
      have hg' := hg
      obtain ⟨q1, q2, q3⟩ := hg'
      obtain ⟨q, rfl⟩ : ∃ q : Nat, r = q := ⟨r.toNat, by omega⟩
      have A := RingDater_mend_in hc l1 hu hY hr hg
      have F : ∀ b j, ¬ (82 + 3 * u ≤ b ∧ b < 85 + 3 * u) → ¬ (106 ≤ b ∧ b ≤ 110) → mIns (mRec M 106 2 u q 0) (82 + 3 * u) q 1 b j = M b j := fun b j z1 z2 => by
        simp only [mIns]
        rw [if_neg (by omega), if_neg (by omega), if_neg (by omega), if_neg (by omega), if_neg (by omega)]
        exact mRec_out _ _ (by omega)
      have Fr : ∀ b j, 106 ≤ b → b ≤ 110 → mIns (mRec M 106 2 u q 0) (82 + 3 * u) q 1 b j = mRec M 106 2 u q 0 b j := fun b j p1 p2 => by
        simp only [mIns]
        rw [if_neg (by omega), if_neg (by omega), if_neg (by omega), if_neg (by omega), if_neg (by omega)]
      have mr : ∀ p, p < 3 → ∀ j, mRec M 106 2 u q 0 (82 + 3 * u + p) j = M (82 + 3 * u + p) j := fun p hp j => mRec_lo _ _ (by omega)
      have m0 : mRec M 106 2 u q 0 (82 + 3 * u) 2 = (T u).2.1 := (mRec_lo _ _ (by omega)).trans em2
      have tr : tRw (mIns (mRec M 106 2 u q 0) (82 + 3 * u) q 1) (82 + 3 * u) = rwIns (T u) q 1 := by
        rw [tRw_ins (by omega) (by rw [m0]; omega), tRw_fr mr, eC]
      have wf : wfT (mIns (mRec M 106 2 u q 0) (82 + 3 * u) q 1) (82 + 3 * u) := mIns_wf (wfT_cells (fun b p1 p2 j => mRec_lo _ _ (by omega)) W) (by rw [m0]; exact q1) (by omega)
      have eo : ∀ j, 3 ≤ j → mIns (mRec M 106 2 u q 0) (82 + 3 * u) q 1 (82 + 3 * u) j = M (82 + 3 * u) j := fun j hj => by
        simp only [mIns]
        rw [if_neg (by omega), if_neg (by omega), if_neg (by omega), if_neg (by omega), if_neg (by omega)]
        exact mRec_lo _ _ (by omega)
      refine A.eq ⟨⟨by omega, by omega⟩, ?_⟩
      generalize mIns (mRec M 106 2 u q 0) (82 + 3 * u) q 1 = MA at *
      have hm1 := mdl_fr hm (P := fun b j => 82 + 3 * u ≤ b ∧ b < 85 + 3 * u ∨ 106 ≤ b ∧ b ≤ 110) (M1 := MA) (fun b j z => F b j (fun w => z (Or.inl w)) (fun w => z (Or.inr w))) (fun b j z => by omega)
      have l2' : ldM MA := by
        unfold ldM
        rw [F _ _ (by omega) (by omega)]
        exact l2
      have B := Mmend_G (i := q) hm1 l2' hu hY hg
      have e58 := rec_158 (M := M) (MA := MA) (fun j => F _ _ (by omega) (by omega)) rsM_0
      have e8 : ∀ j, mKeep (c0M MA) 158 j = M 158 j := fun j => by rw [mKeep_o (by omega) (by omega)]; exact congrFun e58 j
      refine B.eq ⟨rfl, ?_⟩
      have hn : mKeep (c0M MA) 158 (30 * u) = ((T u).2.1.toNat : Nat) := by rw [e8, em]; omega
      have f158 : mKeep (c0M MA) 158 = M 158 := funext e8
      have vt : vT (mMdG (mKeep (c0M MA)) u (T u).2.1.toNat q 158) u = rwIns (T u) q 1 := by
        unfold vT
        rw [mRw_G hn (by omega) (by omega), f158]
        exact congrArg (fun z => rwIns z q 1) el
      have wm := wfM_G (i := q) hn (by omega) (by omega) (by rw [f158]; exact ok.2.2)
      have go : ∀ j, (j < 30 * u ∨ 30 * u + 30 ≤ j ∨ (30 * u < j ∧ j < 30 * u + 5)) → mMdG (mKeep (c0M MA)) u (T u).2.1.toNat q 158 j = M 158 j := fun j hj => by
        simp only [mMdG]
        rw [if_neg (by omega), if_neg (by omega), if_neg (by omega), if_neg (by omega)]
        exact e8 j
      have bo : ∀ b j, b ≠ 158 → mMdG (mKeep (c0M MA)) u (T u).2.1.toNat q b j = mKeep (c0M MA) b j := fun b j hb => by
        simp only [mMdG]
        rw [if_neg (fun w => hb w.1), if_neg (fun w => hb w.1), if_neg (fun w => hb w.1), if_neg (fun w => hb w.1)]
      generalize mMdG (mKeep (c0M MA)) u (T u).2.1.toNat q = MB at *
      refine one_rel (t := u) (kd := 2) (rg := q) (bf := 0) (g := MB 158) (MA := MA) (M3 := c0M MA) hc hm hx hu Fr F wf (fun j hj => go j (by omega)) ?_ (go _ (by omega)) ?_ ?_ ?_ ⟨by rw [vt]; exact okT_ins oC q1 (by omega) (by omega) (by omega), wm⟩ rsM_0 bo (fun j => rfl) ⟨⟨by omega, ⟨by omega, by omega⟩, hr, fun _ => by omega, fun z => by rw [natT, vt]; show 0 ≤ (q : Int) ∧ (q : Int) < (T u).2.1 + 1; omega, fun z => by omega, fun z => by omega⟩, ?_, ?_, ?_, (go _ (by omega)).symm, (go _ (by omega)).symm⟩ (by omega)
      · rw [tr, vt]
      · rw [eo _ (by omega), go _ (by omega)]; exact r1
      · rw [eo _ (by omega), go _ (by omega)]; exact r2
      · rw [eo _ (by omega), go _ (by omega)]; exact r3
      · unfold unT
        rw [if_pos ⟨rfl, rfl⟩, vt, el, rem_ins can (by omega) (by omega)]
      · unfold unY
        rw [if_neg (by omega), if_neg (by omega)]
        exact (go _ (by omega)).symm
      · unfold unH
        rw [if_neg (by omega)]
        exact (go _ (by omega)).symm
theorem gwB_in (W : Nat → Int) : ∀ c, inR (gwB W c)
  | 0 => inR_0
  | c + 1 => bOr_in _ _
theorem gwB_bt {W : Nat → Int} {t : Nat} (ht : t < 8) : ∀ {c : Nat}, (∀ i, i < c → 0 ≤ W i ∧ W i ≤ 7) → (btI (gwB W c) t = true ↔ ∃ i, i < c ∧ W i = t)
  | 0, _ => by
    rw [show gwB W 0 = 0 from rfl, btI_0]
    exact ⟨fun z => by cases z, fun ⟨i, hi, _⟩ => absurd hi (by omega)⟩
  | c + 1, h => by
    have ih := gwB_bt (W := W) ht (c := c) (fun i hi => h i (by omega))
    have hc := h c (by omega)
    obtain ⟨w, ew⟩ : ∃ w : Nat, W c = w := ⟨(W c).toNat, by omega⟩
    rw [show gwB W (c + 1) = bOr (gwB W c) (bShl 1 (W c)) from rfl, btI_or, ew, btI_shl (by omega) _ (by omega), btI_1 (by omega)]
    constructor
    · intro z
      rcases (Bool.or_eq_true _ _).mp z with z | z
      · obtain ⟨i, hi, e⟩ := ih.mp z
        exact ⟨i, by omega, e⟩
      · have z2 := (Bool.and_eq_true _ _).mp z
        have z3 := of_decide_eq_true z2.1
        have z4 := of_decide_eq_true z2.2
        exact ⟨c, by omega, by omega⟩
    · rintro ⟨i, hi, e⟩
      refine (Bool.or_eq_true _ _).mpr ?_
      by_cases ei : i = c
      · subst ei
        right
        have : w = t := by omega
        subst this
        simp
      · left
        exact ih.mpr ⟨i, by omega, e⟩
theorem gw_dated {c t : Nat} (h : okC T Y n) (hc : gwC T lap bnd mrg n Y c) (hY : Y t ≠ -1) : ∀ r, r ≤ c → gwY T lap bnd mrg n Y r t = Y t
  | 0, _ => rfl
  | r + 1, hr => by
    have ih := gw_dated h hc hY r (by omega)
    have p := gwP_in h hc (i := r) (by omega)
    rw [gwY_succ (hc.1 r (by omega))]
    unfold updI
    by_cases e : t = (gwP T lap bnd mrg n Y r).1.toNat
    · have := p.2.1
      rw [← e, ih] at this
      exact absurd this hY
    · rw [if_neg e]
      exact ih
theorem gw_un {c t : Nat} (h : okC T Y n) (hc : gwC T lap bnd mrg n Y c) : ∀ r, r ≤ c → (gwY T lap bnd mrg n Y r t = Y t ∧ ¬ ∃ i, i < r ∧ (gwP T lap bnd mrg n Y i).1 = t) ∨ (Y t = -1 ∧ ∃ i, i < r ∧ (gwP T lap bnd mrg n Y i).1 = t)
  | 0, _ => Or.inl ⟨rfl, fun ⟨i, hi, _⟩ => absurd hi (by omega)⟩
  | r + 1, hr => by
    have ih := gw_un (t := t) h hc r (by omega)
    have p := gwP_in h hc (i := r) (by omega)
    rw [gwY_succ (hc.1 r (by omega))]
    rcases ih with ⟨i1, i2⟩ | ⟨i1, i, hi, e⟩
    · by_cases e : t = (gwP T lap bnd mrg n Y r).1.toNat
      · refine Or.inr ⟨?_, r, by omega, by omega⟩
        have := p.2.1
        rw [← e, i1] at this
        exact this
      · refine Or.inl ⟨?_, fun ⟨i, hi, e2⟩ => ?_⟩
        · unfold updI
          rw [if_neg e]
          exact i1
        · by_cases ei : i = r
          · subst ei
            omega
          · exact i2 ⟨i, by omega, e2⟩
    · exact Or.inr ⟨i1, i, by omega, e⟩
theorem sim_grow (hR : Rel k M) : Sim m_RingDater_grow m_Model_grow [] k M := by
  obtain ⟨n, T, Y, lap, bnd, mrg, hc, hm, hx⟩ := hR
  obtain ⟨l1, l2⟩ := relX_ld hx
  have n8 := hm.1.2
  have hoc := hm.2.2.2
  obtain ⟨c, cn, gc⟩ := gwC_ex (lap := lap) (bnd := bnd) (mrg := mrg) hoc
  by_cases c0 : c = 0
  · subst c0
    refine (RingDater_grow_no hc gc).mono (fun x M' z => ?_)
    obtain ⟨rfl, M2, z1, z2, rfl⟩ := z
    refine ⟨⟨by omega, by omega⟩, ?_⟩
    have hm1 : mdl (mRef M2) n T Y lap bnd mrg := mdl_fr (mdl_scr hm z2) (fr_ref (M1 := M2) (q := 1)) (fun b j z => by omega)
    refine (Mgrow_no hm1 gc).mono (fun y M3 w => ?_)
    obtain ⟨rfl, M4, w1, rfl⟩ := w
    exact ⟨rfl, ref_rel (by omega) hc hm hx z1 z2 w1⟩
  · refine (RingDater_grow_ok hc l1 gc (by omega)).mono (fun x M' z => ?_)
    obtain ⟨rfl, M2, z1, z2, gi, rfl⟩ := z
    refine ⟨⟨by omega, by omega⟩, ?_⟩
    have hm2 := mdl_scr hm z2
    have hx2 := relX_fr (M2 := M2) hm.1.2 (Nat.le_refl k) (fun b j w1 _ => z2 b j w1) hx
    have rw' := row_w hx2
    have hr := hx2.1
    have Fy : ∀ b j, b ≠ 81 → mYr (mRec M2 106 1 (gwB (M2 69) c) 0 (-1)) (gwY T lap bnd mrg n Y c) b j = mRec M2 106 1 (gwB (M2 69) c) 0 (-1) b j := fun b j hb => if_neg (fun w => hb w.1)
    have Fo : ∀ b j, b ≠ 81 → ¬ (106 ≤ b ∧ b ≤ 110) → mYr (mRec M2 106 1 (gwB (M2 69) c) 0 (-1)) (gwY T lap bnd mrg n Y c) b j = M2 b j := fun b j h1 h2 => (Fy b j h1).trans (mRec_out _ _ (by omega))
    have F81 : ∀ t, t < 8 → mYr (mRec M2 106 1 (gwB (M2 69) c) 0 (-1)) (gwY T lap bnd mrg n Y c) 81 t = gwY T lap bnd mrg n Y c t := fun t ht => if_pos ⟨rfl, ht⟩
    generalize mYr (mRec M2 106 1 (gwB (M2 69) c) 0 (-1)) (gwY T lap bnd mrg n Y c) = MA at *
    have hm1 := mdl_fr hm2 (P := fun b j => b = 81 ∨ 106 ≤ b ∧ b ≤ 110) (M1 := MA) (fun b j z => Fo b j (fun w => z (Or.inl w)) (fun w => z (Or.inr w))) (fun b j z => by omega)
    have l2' : ldM MA := by
      unfold ldM
      rw [Fo _ _ (by omega) (by omega)]
      exact ldM_fr l2 z2
    refine (Mgrow_ok hm1 l2' gc (by omega)).mono (fun y MB w => ?_)
    obtain ⟨rfl, M3, w1, w2⟩ := w
    refine ⟨rfl, ?_⟩
    have e58 : M3 158 = M2 158 := rec_158 (fun j => Fo _ _ (by omega) (by omega)) w1
    have e8 : ∀ j, mKeep M3 158 j = M2 158 j := fun j => by rw [mKeep_o (by omega) (by omega), e58]
    have b8 : ∀ j, MB 158 j = if j % 30 = 4 ∧ j / 30 < n then gwY T lap bnd mrg n Y c (j / 30) else M2 158 j := fun j => by
      rw [w2 _ _ (by unfold growP; omega)]
      show (if 158 = 158 ∧ j % 30 = 4 ∧ j / 30 < n then _ else mKeep M3 158 j) = _
      rw [e8]
      exact if_cg (by omega) rfl rfl
    have bo : ∀ b j, ¬ scrM b j → b ≠ 158 → MB b j = mKeep M3 b j := fun b j h1 h2 => by
      rw [w2 _ _ (by unfold scrM at h1; unfold growP; omega)]
      exact if_neg (fun w => h2 w.1)
    have gok := (gwY_ok (lap := lap) (bnd := bnd) (mrg := mrg) hoc c).1
    have gv : ∀ t, t < n → vT (MB 158) t = vT (M2 158) t ∧ vY (MB 158) t = gwY T lap bnd mrg n Y c t ∧ vH (MB 158) t = vH (M2 158) t ∧ MB 158 (30 * t + 1) = M2 158 (30 * t + 1) ∧ MB 158 (30 * t + 2) = M2 158 (30 * t + 2) := by
      intro t ht
      refine ⟨mRw_eq (fun q hq h4 => by rw [b8, if_neg (by omega)]) (rw' t ht).1.1.2, ?_, ?_, ?_, ?_⟩
      · unfold vY
        rw [b8, if_pos ⟨by omega, by omega⟩, show (30 * t + 4) / 30 = t by omega]
      · unfold vH
        rw [b8, if_neg (by omega)]
      · rw [b8, if_neg (by omega)]
      · rw [b8, if_neg (by omega)]
    refine act_rel (kd := 1) (sb := gwB (M2 69) c) (rg := 0) (bf := -1) (g := MB 158) (MA := MA) (M3 := M3) z1 hm2 hx2 (fun b j p1 p2 => Fy b j (by omega)) (fun b j z => Fo b j (by omega) (by omega)) (fun b j p1 p2 => Fo b j (by omega) (by omega)) (fun j p1 p2 => Fo _ _ (by omega) (by omega)) ?_ ?_ ?_ w1 bo ?_ rfl ?_
    · refine wfS_yr z1.1.1.1 (fun b p1 p2 p3 j => Fo b j p3 (by omega)) (fun s hs => ?_)
      rw [F81 s hs]
      exact gwY_rng hoc (fun j hj => by
        have := z1.2.2.1 j hj
        rw [← this.2]
        exact z1.1.1.1.2.2.2.2.2.2 j hj) c s hs
    · intro t ht
      obtain ⟨r1, r2, r3, r4, r5⟩ := hr t ht
      obtain ⟨v1, v2, v3, v4, v5⟩ := gv t ht
      rw [v1, v2, v3, v4, v5]
      refine ⟨?_, F81 t (by omega), ?_, ?_, ?_⟩
      · rw [tRw_fr (fun q hq j => Fo _ _ (by omega) (by omega))]; exact r1
      · rw [Fo _ _ (by omega) (by omega)]; exact r3
      · rw [Fo _ _ (by omega) (by omega)]; exact r4
      · rw [Fo _ _ (by omega) (by omega)]; exact r5
    · intro t ht
      obtain ⟨v1, v2, -⟩ := gv t ht
      obtain ⟨o1, o2, o3⟩ := rw' t ht
      refine ⟨by rw [v1]; exact o1, by rw [v2]; exact (gok.2 t ht).2, wfM_eq (fun q hq h4 => by rw [b8, if_neg (by omega)]) o3⟩
    · rw [bo 154 1 |> fun _ => w2 154 1 (by unfold growP; omega)]
      show (if 154 = 158 ∧ _ then _ else mKeep M3 154 1) = 0
      rw [if_neg (by omega), mKeep_o (by omega) (by omega)]
      exact w1.1
    · refine ⟨⟨by omega, gwB_in _ _, inR_0, fun z => absurd rfl z, fun z => by omega, fun z => by omega, fun z => by omega⟩, fun t ht => ?_⟩
      obtain ⟨v1, v2, v3, v4, v5⟩ := gv t ht
      refine ⟨?_, ?_, ?_, v4.symm, v5.symm⟩
      · unfold unT
        rw [if_neg (by omega), if_neg (by omega), if_neg (by omega), v1]
      · unfold unY
        rw [if_neg (by omega), v2, (row_Y hm2 ht).1]
        have bb := gwB_bt (W := M2 69) (t := t) (by omega) (c := c) (fun i hi => by
          have := gwP_in hoc gc hi
          rw [(gi.2.2 i hi).1]
          omega)
        have un := gw_un (t := t) hoc gc c (Nat.le_refl _)
        rcases un with ⟨u1, u2⟩ | ⟨u1, i, hi, e⟩
        · rw [if_neg (fun w => u2 (by
            obtain ⟨i, hi, e⟩ := bb.mp w.2
            exact ⟨i, hi, by rw [← (gi.2.2 i hi).1]; exact e⟩)), u1]
        · rw [if_pos ⟨rfl, bb.mpr ⟨i, hi, by rw [(gi.2.2 i hi).1]; exact e⟩⟩, u1]
      · unfold unH
        rw [if_neg (by omega), v3]
end SIM5

