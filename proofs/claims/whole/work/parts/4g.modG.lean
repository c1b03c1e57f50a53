/-! THE REFERENCE, G: growing by another bound (pure). -/
section MODG
variable {n : Nat} {T : Nat → Rw} {Y : Nat → Int} {lap mrg : Int}
theorem why_cut {x : Bst} {b : Int} (hb : 50 ≤ b) : why x b mrg = 0 ↔ why x 50 mrg = 0 ∧ b ≤ x.2.2.1 := by
  unfold why
  by_cases c1 : x.1 = 0
  · simp [c1]
  · rw [if_neg c1, if_neg c1]
    by_cases c2 : x.2.2.1 < b
    · rw [if_pos c2]
      constructor
      · intro z; omega
      · intro z; omega
    · rw [if_neg c2, if_neg (show ¬ x.2.2.1 < 50 by omega)]
      constructor
      · intro z; exact ⟨z, by omega⟩
      · intro z; exact z.1
def cutP (b : Int) (x : Pk) : Pk := if b ≤ x.2.2 then x else (-1, 0, -1)
theorem pk_cut {A : Rw} {f b : Int} (hA : 0 ≤ A.2.1 ∧ A.2.1 ≤ 924) (hb : 50 ≤ b) : ∀ {m : Nat}, (∀ t, t < m → okT (T t)) → foldN (pkS T A f Y lap b mrg) (-1, 0, -1) m = cutP b (foldN (pkS T A f Y lap 50 mrg) (-1, 0, -1) m)
  | 0, _ => by
    show ((-1, 0, -1) : Pk) = cutP b (-1, 0, -1)
    unfold cutP
    rw [if_neg (by simp only; omega)]
  | m + 1, h => by
    have i := pk_cut (A := A) (f := f) hA hb (m := m) (fun t ht => h t (by omega))
    have hT := h m (by omega)
    have ob := okB_best (A := A) (B := T m) (lap := lap) hA (by have := hT.1; omega)
    have r0 := pk_R (T := T) (A := A) (f := f) (Y := Y) (lap := lap) (bnd := b) (mrg := mrg) hA (m := m) (fun t ht => h t (by omega))
    have r1 := pk_R (T := T) (A := A) (f := f) (Y := Y) (lap := lap) (bnd := 50) (mrg := mrg) hA (m := m) (fun t ht => h t (by omega))
    rw [foldN, foldN, pkS_m r0 ob, pkS_m r1 ob, i]
    generalize foldN (pkS T A f Y lap 50 mrg) (-1, 0, -1) m = x at *
    have wc := why_cut (x := best A (T m) lap) (mrg := mrg) hb
    have w50 := fun z => (why_0 ob (b := 50) (m := mrg) z).2.2
    have xb : x = (-1, 0, -1) ∨ 50 ≤ x.2.2 := by
      rcases r1 with r1 | r1
      · exact Or.inl r1
      · exact Or.inr r1.2.2.2.2
    by_cases c : Y m = -1 ∧ why (best A (T m) lap) 50 mrg = 0 ∧ (0 ≤ f + (best A (T m) lap).2.1 ∧ f + (best A (T m) lap).2.1 ≤ 900)
    · obtain ⟨c1, c2, c3⟩ := c
      have sc := w50 c2
      by_cases cb : b ≤ (best A (T m) lap).2.2.1
      · have cw := wc.mpr ⟨c2, cb⟩
        by_cases cx : x.2.2 < (best A (T m) lap).2.2.1
        · have e1 : (cutP b x).2.2 < (best A (T m) lap).2.2.1 := by
            unfold cutP
            split
            · exact cx
            · show (-1 : Int) < _; omega
          rw [if_pos ⟨c1, cw, c3, e1⟩, if_pos ⟨c1, c2, c3, cx⟩]
          unfold cutP
          rw [if_pos cb]
        · have e0 : cutP b x = x := by unfold cutP; rw [if_pos (by omega)]
          rw [e0, if_neg (fun z => cx z.2.2.2), if_neg (fun z => cx z.2.2.2), e0]
      · rw [if_neg (fun z => cb (wc.mp z.2.1).2)]
        by_cases cx : x.2.2 < (best A (T m) lap).2.2.1
        · rw [if_pos ⟨c1, c2, c3, cx⟩]
          unfold cutP
          rw [if_neg (by omega), if_neg (by simp only; omega)]
        · rw [if_neg (fun z => cx z.2.2.2)]
    · rw [if_neg (fun z => c ⟨z.1, (wc.mp z.2.1).1, z.2.2.1⟩), if_neg (fun z => c ⟨z.1, z.2.1, z.2.2.1⟩)]
theorem gwP_cut {b : Int} {r : Nat} (hc : okC T Y n) (hb : 50 ≤ b) (e : gwY T lap b mrg n Y r = gwY T lap 50 mrg n Y r) : gwP T lap b mrg n Y r = cutP b (gwP T lap 50 mrg n Y r) := by
  unfold gwP
  rw [e]
  have ok := (gwY_ok (lap := lap) (bnd := 50) (mrg := mrg) hc r).1
  exact pk_cut (chr_R ok).2 hb (fun t ht => (hc.2 t ht).1)
theorem gwY_cut {b : Int} (hc : okC T Y n) (hb : 50 ≤ b) : ∀ r, (∀ i, i < r → (gwP T lap 50 mrg n Y i).1 ≠ -1 ∧ b ≤ (gwP T lap 50 mrg n Y i).2.2) → gwY T lap b mrg n Y r = gwY T lap 50 mrg n Y r
  | 0, _ => rfl
  | r + 1, h => by
    have i := gwY_cut hc hb r (fun j hj => h j (by omega))
    have hr := h r (by omega)
    have p := gwP_cut hc hb i
    unfold cutP at p
    rw [if_pos hr.2] at p
    rw [gwY_succ (bnd := b) (by rw [p]; exact hr.1), gwY_succ (bnd := 50) hr.1, i, p]
/-- by bound b the first k of those that grow by 50 grow -/
theorem gwC_cut {b : Int} {c : Nat} (hc : okC T Y n) (hb : 50 ≤ b) (h : gwC T lap 50 mrg n Y c) : ∃ k, k ≤ c ∧ gwC T lap b mrg n Y k ∧ gwY T lap b mrg n Y k = gwY T lap 50 mrg n Y k ∧ (∀ i, i < k → b ≤ (gwP T lap 50 mrg n Y i).2.2) ∧ (k < c → (gwP T lap 50 mrg n Y k).2.2 < b) := by
  have key : ∃ k, k ≤ c ∧ (∀ i, i < k → b ≤ (gwP T lap 50 mrg n Y i).2.2) ∧ (k < c → (gwP T lap 50 mrg n Y k).2.2 < b) := by
    clear h
    induction c with
    | zero => exact ⟨0, Nat.le_refl _, fun i hi => by omega, fun hi => by omega⟩
    | succ c ih =>
      obtain ⟨k, k1, k2, k3⟩ := ih
      by_cases e : k < c
      · exact ⟨k, by omega, k2, fun _ => k3 e⟩
      · have ek : k = c := by omega
        subst ek
        by_cases e2 : b ≤ (gwP T lap 50 mrg n Y k).2.2
        · refine ⟨k + 1, Nat.le_refl _, fun i hi => ?_, fun hi => by omega⟩
          by_cases ei : i = k
          · rw [ei]; exact e2
          · exact k2 i (by omega)
        · exact ⟨k, by omega, k2, fun _ => by omega⟩
  obtain ⟨k, k1, k2, k3⟩ := key
  have ey := fun r (hr : r ≤ k) => gwY_cut (lap := lap) (mrg := mrg) hc hb r (fun i hi => ⟨h.1 i (by omega), k2 i (by omega)⟩)
  refine ⟨k, k1, ⟨fun i hi => ?_, ?_⟩, ey k (Nat.le_refl _), k2, k3⟩
  · rw [gwP_cut hc hb (ey i (by omega))]
    unfold cutP
    rw [if_pos (k2 i hi)]
    exact h.1 i (by omega)
  · rw [gwP_cut hc hb (ey k (Nat.le_refl _))]
    unfold cutP
    split
    · rename_i z
      by_cases e : k < c
      · have := k3 e
        omega
      · rw [show k = c by omega]
        exact h.2
    · rfl
/-- a timber's year when all is grown by b, out of what grows by 50 -/
theorem gwY_ybS {b : Int} {c k t : Nat} (hc : okC T Y n) (h : gwC T lap 50 mrg n Y c) (k1 : k ≤ c) (k2 : ∀ i, i < k → b ≤ (gwP T lap 50 mrg n Y i).2.2) (k3 : k < c → (gwP T lap 50 mrg n Y k).2.2 < b) : gwY T lap 50 mrg n Y k t = ybS (gwP T lap 50 mrg n Y) Y c t b := by
  have key : ∀ d i, i + d = k → gwY T lap 50 mrg n Y k t = if gwY T lap 50 mrg n Y i t ≠ -1 then gwY T lap 50 mrg n Y i t else ybR (fun i => (gwP T lap 50 mrg n Y i).1) (fun i => (gwP T lap 50 mrg n Y i).2.1) (fun i => (gwP T lap 50 mrg n Y i).2.2) t b (c - i) i := by
    intro d
    induction d with
    | zero =>
      intro i hi
      obtain rfl : i = k := by omega
      split
      · rfl
      · rename_i z
        rw [Decidable.not_not.mp z]
        by_cases e : i < c
        · obtain ⟨q, hq⟩ : ∃ q, c - i = q + 1 := ⟨c - i - 1, by omega⟩
          rw [hq, ybR, if_pos (k3 e)]
        · rw [show c - i = 0 by omega, ybR]
    | succ d ih =>
      intro i hi
      rw [ih (i + 1) (by omega)]
      have e1 := h.1 i (by omega)
      have e2 := k2 i (by omega)
      have p := (gwY_ok (lap := lap) (bnd := 50) (mrg := mrg) hc i).2
      obtain ⟨q, hq⟩ : ∃ q, c - i = q + 1 := ⟨c - i - 1, by omega⟩
      have yb1 : ybR (fun i => (gwP T lap 50 mrg n Y i).1) (fun i => (gwP T lap 50 mrg n Y i).2.1) (fun i => (gwP T lap 50 mrg n Y i).2.2) t b (q + 1) i = if (gwP T lap 50 mrg n Y i).1 = t then (gwP T lap 50 mrg n Y i).2.1 else ybR (fun i => (gwP T lap 50 mrg n Y i).1) (fun i => (gwP T lap 50 mrg n Y i).2.1) (fun i => (gwP T lap 50 mrg n Y i).2.2) t b q (i + 1) := by
        rw [ybR, if_neg (show ¬ (gwP T lap 50 mrg n Y i).2.2 < b by omega)]
      rw [gwY_succ e1, hq, yb1, show c - (i + 1) = q by omega]
      clear yb1
      rcases p with p | p
      · exact absurd (congrArg Prod.fst p) e1
      · obtain ⟨p1, p2, p3, p4, p5⟩ := p
        unfold updI
        by_cases et : t = (gwP T lap 50 mrg n Y i).1.toNat
        · rw [if_pos et, if_pos (by omega), if_neg (by rw [et, p2]; simp)]
          rw [if_pos (by omega)]
        · rw [if_neg et]
          split
          · rfl
          · rw [if_neg (by omega)]
  have k0 := key k 0 (by omega)
  rw [k0]
  rfl
theorem gw_yb {b : Int} {c d t : Nat} (hc : okC T Y n) (hb : 50 ≤ b) (h : gwC T lap 50 mrg n Y c) (hd : gwC T lap b mrg n Y d) : gwY T lap b mrg n Y d t = ybS (gwP T lap 50 mrg n Y) Y c t b := by
  obtain ⟨k, k1, k2, k3, k4, k5⟩ := gwC_cut hc hb h
  obtain rfl := gwC_u k2 hd
  rw [k3]
  exact gwY_ybS hc h k1 k4 k5
/-- a year by b is the year by 50, or none -/
theorem ybS_two {b : Int} {c t : Nat} (hc : okC T Y n) (h : gwC T lap 50 mrg n Y c) (hb : 50 ≤ b) : ybS (gwP T lap 50 mrg n Y) Y c t b = -1 ∨ ybS (gwP T lap 50 mrg n Y) Y c t b = ybS (gwP T lap 50 mrg n Y) Y c t 50 := by
  have key : ∀ d i, i + d = c → ybR (fun i => (gwP T lap 50 mrg n Y i).1) (fun i => (gwP T lap 50 mrg n Y i).2.1) (fun i => (gwP T lap 50 mrg n Y i).2.2) t b d i = -1 ∨ ybR (fun i => (gwP T lap 50 mrg n Y i).1) (fun i => (gwP T lap 50 mrg n Y i).2.1) (fun i => (gwP T lap 50 mrg n Y i).2.2) t b d i = ybR (fun i => (gwP T lap 50 mrg n Y i).1) (fun i => (gwP T lap 50 mrg n Y i).2.1) (fun i => (gwP T lap 50 mrg n Y i).2.2) t 50 d i := by
    intro d
    induction d with
    | zero => intro i hi; exact Or.inl rfl
    | succ d ih =>
      intro i hi
      have g := gwP_in hc h (i := i) (by omega)
      rw [ybR, ybR, if_neg (show ¬ (gwP T lap 50 mrg n Y i).2.2 < 50 by omega)]
      by_cases c1 : (gwP T lap 50 mrg n Y i).2.2 < b
      · rw [if_pos c1]; exact Or.inl rfl
      · rw [if_neg c1]
        split
        · exact Or.inr rfl
        · exact ih (i + 1) (by omega)
  unfold ybS
  split
  · exact Or.inr rfl
  · exact key c 0 (by omega)
/-- the bounds that fit, in order -/
def flB (P : Nat → Pk) (Y : Nat → Int) (c m : Nat) (N Z : Nat → Int) : Nat → Nat → Int
  | 0 => fun _ => 0
  | k + 1 => if agS P Y c m N Z (50 + k) then updI (flB P Y c m N Z k) (ftN P Y c m N Z k).1.toNat (50 + k) else flB P Y c m N Z k
theorem ftN_s (P : Nat → Pk) (Y : Nat → Int) (c m : Nat) (N Z : Nat → Int) (k : Nat) : ftN P Y c m N Z (k + 1) = if agS P Y c m N Z (50 + k) then ((ftN P Y c m N Z k).1 + 1, if (ftN P Y c m N Z k).2 = -1 then 50 + (k : Int) else (ftN P Y c m N Z k).2) else ftN P Y c m N Z k := rfl
theorem unN_s (P : Nat → Pk) (Y : Nat → Int) (c m : Nat) (N Z : Nat → Int) (t : Int) (k : Nat) : unN P Y c m N Z t (k + 1) = if agS P Y c m N Z (50 + k) then (if ybS P Y c t (50 + k) ≠ -1 then (1, (unN P Y c m N Z t k).2) else ((unN P Y c m N Z t k).1, 1)) else unN P Y c m N Z t k := rfl
theorem flB_in (P : Nat → Pk) (Y : Nat → Int) (c m : Nat) (N Z : Nat → Int) : ∀ k a : Nat, (a : Int) < (ftN P Y c m N Z k).1 → 50 ≤ flB P Y c m N Z k a
  | 0, a, h => by
    have h' : (a : Int) < 0 := h
    omega
  | k + 1, a, h => by
    have i := flB_in P Y c m N Z k a
    have fi := ftN_in P Y c m N Z k
    rw [ftN_s] at h
    rw [flB]
    split
    · rename_i z
      rw [if_pos z] at h
      simp only at h
      unfold updI
      split
      · omega
      · exact i (by omega)
    · rename_i z
      rw [if_neg z] at h
      exact i h
/-- dated by one of the first a that fit; not dated by one -/
def unD (v : Nat → Int) : Nat → Int × Int
  | 0 => (0, 0)
  | a + 1 => if v a ≠ -1 then (1, (unD v a).2) else ((unD v a).1, 1)
theorem unD_congr {v w : Nat → Int} : ∀ {a : Nat}, (∀ j, j < a → v j = w j) → unD v a = unD w a
  | 0, _ => rfl
  | a + 1, h => by rw [unD, unD, h a (by omega), unD_congr (fun j hj => h j (by omega))]
theorem unN_D (P : Nat → Pk) (Y : Nat → Int) (c m : Nat) (N Z : Nat → Int) (t : Int) : ∀ k, unN P Y c m N Z t k = unD (fun a => ybS P Y c t (flB P Y c m N Z k a)) (ftN P Y c m N Z k).1.toNat
  | 0 => rfl
  | k + 1 => by
    have i := unN_D P Y c m N Z t k
    have fi := ftN_in P Y c m N Z k
    rw [unN_s, ftN_s, flB]
    by_cases z : agS P Y c m N Z (50 + k)
    · rw [if_pos z, if_pos z, if_pos z]
      simp only
      rw [show ((ftN P Y c m N Z k).1 + 1).toNat = (ftN P Y c m N Z k).1.toNat + 1 by omega, unD]
      have e : unD (fun a => ybS P Y c t (updI (flB P Y c m N Z k) (ftN P Y c m N Z k).1.toNat (50 + (k : Int)) a)) (ftN P Y c m N Z k).1.toNat = unN P Y c m N Z t k := by
        rw [i]
        refine unD_congr (fun j hj => ?_)
        unfold updI
        rw [if_neg (by omega)]
      rw [e]
      have e2 : updI (flB P Y c m N Z k) (ftN P Y c m N Z k).1.toNat (50 + (k : Int)) (ftN P Y c m N Z k).1.toNat = 50 + (k : Int) := if_pos rfl
      rw [e2]
    · rw [if_neg z, if_neg z, if_neg z]
      exact i
/-- new ones among the first a -/
def newI (v : Nat → Int) (a : Nat) : Int := if ∀ b, b < a → v b ≠ v a then 1 else 0
theorem unD_new {v : Nat → Int} {z : Int} : ∀ {a : Nat}, (∀ j, j < a → v j = -1 ∨ v j = z) → sumN (newI v) a = (unD v a).1 + (unD v a).2 ∧ ((unD v a).1 = 1 ↔ ∃ j, j < a ∧ v j ≠ -1) ∧ ((unD v a).2 = 1 ↔ ∃ j, j < a ∧ v j = -1) ∧ ((unD v a).1 = 0 ∨ (unD v a).1 = 1) ∧ ((unD v a).2 = 0 ∨ (unD v a).2 = 1)
  | 0, _ => ⟨rfl, ⟨fun z => absurd (show (0 : Int) = 1 from z) (by omega), fun ⟨j, hj, _⟩ => absurd hj (by omega)⟩, ⟨fun z => absurd (show (0 : Int) = 1 from z) (by omega), fun ⟨j, hj, _⟩ => absurd hj (by omega)⟩, Or.inl rfl, Or.inl rfl⟩
  | a + 1, h => by
    obtain ⟨i1, i2, i3, i4, i5⟩ := unD_new (v := v) (z := z) (a := a) (fun j hj => h j (by omega))
    have ha := h a (by omega)
    rw [sumN, unD, i1]
    by_cases c : v a = -1
    · rw [if_neg (fun w => w c)]
      show (unD v a).1 + (unD v a).2 + newI v a = (unD v a).1 + 1 ∧ ((unD v a).1 = 1 ↔ _) ∧ ((1 : Int) = 1 ↔ _) ∧ ((unD v a).1 = 0 ∨ (unD v a).1 = 1) ∧ ((1 : Int) = 0 ∨ (1 : Int) = 1)
      refine ⟨?_, ⟨fun w => ?_, fun ⟨j, hj, w⟩ => ?_⟩, ⟨fun _ => ⟨a, by omega, c⟩, fun _ => rfl⟩, i4, Or.inr rfl⟩
      · unfold newI
        by_cases c2 : (unD v a).2 = 1
        · obtain ⟨j, hj, e⟩ := i3.mp c2
          rw [if_neg (fun w => w j hj (by rw [e, c]))]
          omega
        · rw [if_pos (fun b hb e => c2 (i3.mpr ⟨b, hb, by rw [e, c]⟩))]
          omega
      · obtain ⟨j, hj, e⟩ := i2.mp w
        exact ⟨j, by omega, e⟩
      · refine i2.mpr ⟨j, ?_, w⟩
        by_cases ej : j = a
        · rw [ej] at w; exact absurd c w
        · omega
    · rw [if_pos c]
      show (unD v a).1 + (unD v a).2 + newI v a = 1 + (unD v a).2 ∧ ((1 : Int) = 1 ↔ _) ∧ ((unD v a).2 = 1 ↔ _) ∧ ((1 : Int) = 0 ∨ (1 : Int) = 1) ∧ ((unD v a).2 = 0 ∨ (unD v a).2 = 1)
      refine ⟨?_, ⟨fun _ => ⟨a, by omega, c⟩, fun _ => rfl⟩, ⟨fun w => ?_, fun ⟨j, hj, w⟩ => ?_⟩, Or.inr rfl, i5⟩
      · unfold newI
        have va : v a = z := by rcases ha with q | q; exact absurd q c; exact q
        by_cases c2 : (unD v a).1 = 1
        · obtain ⟨j, hj, e⟩ := i2.mp c2
          have vj := h j (by omega)
          rw [if_neg (fun w => w j hj (by rcases vj with q | q; exact absurd q e; rw [q, va]))]
          omega
        · rw [if_pos (fun b hb e => c2 (i2.mpr ⟨b, hb, by rw [e]; exact c⟩))]
          omega
      · obtain ⟨j, hj, e⟩ := i3.mp w
        exact ⟨j, by omega, e⟩
      · refine i3.mpr ⟨j, ?_, w⟩
        by_cases ej : j = a
        · rw [ej] at w; exact absurd w c
        · omega
end MODG
