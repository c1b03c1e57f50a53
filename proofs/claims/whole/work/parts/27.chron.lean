/-! THE SPEC, 2: the chronology. T: the timbers' rows, Y: their years (-1 none), wo: without whom, n: how many. -/
def okT (A : Rw) : Prop := (3 ≤ A.2.1 ∧ A.2.1 ≤ 24) ∧ (∀ j : Nat, (j : Int) < A.2.1 → 1 ≤ A.1 j ∧ A.1 j ≤ 99) ∧ ∀ j : Nat, (j : Int) < A.2.1 → A.2.2 j = 0 ∨ A.2.2 j = 1
def sumW (A : Rw) : Int := sumI A.1 A.2.1
def ixF (A : Rw) (r : Int) : Int := (1000 * sN A r * A.2.1).tdiv (sumW A)
def cSpan (T : Nat → Rw) (Y : Nat → Int) (wo : Int) (n : Nat) : Int × Int := foldN (fun t x => if (t : Int) ≠ wo ∧ Y t ≠ -1 then (if x.1 = -1 then Y t else min x.1 (Y t), max x.2 (Y t + (T t).2.1 - 1)) else x) (-1, -1) n
def cIn (T : Nat → Rw) (Y : Nat → Int) (wo y : Int) (t : Nat) : Prop := (t : Int) ≠ wo ∧ Y t ≠ -1 ∧ Y t ≤ y ∧ y < Y t + (T t).2.1
def cSum (T : Nat → Rw) (Y : Nat → Int) (wo : Int) (n : Nat) (y : Int) : Int := sumN (fun t => if (t : Int) ≠ wo ∧ Y t ≠ -1 ∧ Y t ≤ y ∧ y < Y t + (T t).2.1 then ixF (T t) (y - Y t) else 0) n
def cDep (T : Nat → Rw) (Y : Nat → Int) (wo : Int) (n : Nat) (y : Int) : Int := sumN (fun t => if (t : Int) ≠ wo ∧ Y t ≠ -1 ∧ Y t ≤ y ∧ y < Y t + (T t).2.1 then 1 else 0) n
def cNum (T : Nat → Rw) (Y : Nat → Int) (wo : Int) (n : Nat) (y : Int) : Int := if cDep T Y wo n y < 1 then 0 else (cSum T Y wo n y).tdiv (cDep T Y wo n y)
def cLen (T : Nat → Rw) (Y : Nat → Int) (wo : Int) (n : Nat) : Int := if (cSpan T Y wo n).1 = -1 then 0 else (cSpan T Y wo n).2 - (cSpan T Y wo n).1 + 1
def chr (T : Nat → Rw) (Y : Nat → Int) (wo : Int) (n : Nat) : Rw := (fun p => if (p : Int) < cLen T Y wo n then cNum T Y wo n ((cSpan T Y wo n).1 + p) else 0, cLen T Y wo n, fun _ => 0)
/-- timbers and years in range -/
def okC (T : Nat → Rw) (Y : Nat → Int) (n : Nat) : Prop := n ≤ 8 ∧ ∀ t, t < n → okT (T t) ∧ (-1 ≤ Y t ∧ Y t ≤ 900)
theorem okT_N {A : Rw} {r : Int} (h : okT A) : 0 ≤ sN A r ∧ sN A r ≤ 99 ∧ (0 ≤ r → r < A.2.1 → 1 ≤ sN A r) := by
  unfold sN
  split
  · have := h.2.1 r.toNat (by omega)
    omega
  · omega
theorem okT_full {A : Rw} (h : okT A) : fullR A := fun j h0 h1 => by
  have := (okT_N (r := j) h).2.2 h0 h1
  omega
theorem okT_R {A : Rw} (h : okT A) : okR A := ⟨by have := h.1; omega, fun j hj => by have := h.2.1 j hj; omega⟩
theorem sumW_in {A : Rw} (h : okT A) : A.2.1 ≤ sumW A ∧ sumW A ≤ 99 * A.2.1 := by
  have h0 := h.1
  have := sumN_in (f := A.1) (a := 1) (b := 99) (n := A.2.1.toNat) (fun j hj => h.2.1 j (by omega))
  unfold sumW sumI
  omega
theorem ixF_in {A : Rw} {r : Int} (h : okT A) (h0 : 0 ≤ r) (h1 : r < A.2.1) : 1 ≤ ixF A r ∧ ixF A r ≤ 99000 := by
  obtain ⟨n0, n1, n2⟩ := okT_N (r := r) h
  have n3 := n2 h0 h1
  have w := sumW_in h
  have l := h.1
  unfold ixF
  have p1 : 1000 * A.2.1 ≤ 1000 * sN A r * A.2.1 := Int.mul_le_mul_of_nonneg_right (by omega) (by omega)
  have p2 : 1000 * sN A r * A.2.1 ≤ 99000 * A.2.1 := Int.mul_le_mul_of_nonneg_right (by omega) (by omega)
  rw [Int.tdiv_eq_ediv_of_nonneg (by omega)]
  refine ⟨?_, ?_⟩
  · exact Int.le_ediv_of_mul_le (by omega) (by omega)
  · refine Int.le_of_lt_add_one (Int.ediv_lt_of_lt_mul (by omega) ?_)
    have p3 : (99000 + 1) * A.2.1 ≤ (99000 + 1) * sumW A := Int.mul_le_mul_of_nonneg_left (by omega) (by omega)
    omega
theorem cDep_in {T : Nat → Rw} {Y : Nat → Int} {wo y : Int} {n : Nat} (h : okC T Y n) : 0 ≤ cDep T Y wo n y ∧ cDep T Y wo n y ≤ 8 := by
  have := sumN_in (f := fun t => if (t : Int) ≠ wo ∧ Y t ≠ -1 ∧ Y t ≤ y ∧ y < Y t + (T t).2.1 then 1 else 0) (a := 0) (b := 1) (n := n) (fun j hj => by split <;> omega)
  have h1 := h.1
  unfold cDep
  omega
theorem cSum_in {T : Nat → Rw} {Y : Nat → Int} {wo y : Int} {n : Nat} (h : okC T Y n) : cDep T Y wo n y ≤ cSum T Y wo n y ∧ cSum T Y wo n y ≤ 99000 * cDep T Y wo n y := by
  unfold cDep cSum
  obtain ⟨-, h⟩ := h
  induction n with
  | zero => exact ⟨Int.le_refl _, Int.le_refl _⟩
  | succ n ih =>
    have i := ih (fun t ht => h t (by omega))
    obtain ⟨h1, h2⟩ := h n (by omega)
    simp only [sumN, Int.mul_add]
    by_cases c : (n : Int) ≠ wo ∧ Y n ≠ -1 ∧ Y n ≤ y ∧ y < Y n + (T n).2.1
    · rw [if_pos c, if_pos c]
      have := ixF_in (r := y - Y n) h1 (by omega) (by omega)
      omega
    · rw [if_neg c, if_neg c]
      omega
theorem cNum_in {T : Nat → Rw} {Y : Nat → Int} {wo y : Int} {n : Nat} (h : okC T Y n) : 0 ≤ cNum T Y wo n y ∧ cNum T Y wo n y ≤ 99000 ∧ (cNum T Y wo n y = 0 ↔ cDep T Y wo n y < 1) := by
  have h1 := cSum_in (wo := wo) (y := y) h
  have h2 := cDep_in (wo := wo) (y := y) h
  unfold cNum
  split
  · omega
  · rw [Int.tdiv_eq_ediv_of_nonneg (by omega)]
    have a1 : 1 ≤ cSum T Y wo n y / cDep T Y wo n y := Int.le_ediv_of_mul_le (by omega) (by omega)
    have a2 : cSum T Y wo n y / cDep T Y wo n y < 99001 := Int.ediv_lt_of_lt_mul (by omega) (by omega)
    omega
theorem cSpan_succ {T : Nat → Rw} {Y : Nat → Int} {wo : Int} {n : Nat} : cSpan T Y wo (n + 1) = if (n : Int) ≠ wo ∧ Y n ≠ -1 then (if (cSpan T Y wo n).1 = -1 then Y n else min (cSpan T Y wo n).1 (Y n), max (cSpan T Y wo n).2 (Y n + (T n).2.1 - 1)) else cSpan T Y wo n := rfl
theorem cSpan_in {T : Nat → Rw} {Y : Nat → Int} {wo : Int} : ∀ {n : Nat}, okC T Y n → ((cSpan T Y wo n).1 = -1 ∧ (cSpan T Y wo n).2 = -1 ∨ (0 ≤ (cSpan T Y wo n).1 ∧ (cSpan T Y wo n).1 ≤ 900 ∧ (cSpan T Y wo n).1 ≤ (cSpan T Y wo n).2 ∧ (cSpan T Y wo n).2 ≤ 923)) ∧
    ∀ t, t < n → (t : Int) ≠ wo → Y t ≠ -1 → (cSpan T Y wo n).1 ≠ -1 ∧ (cSpan T Y wo n).1 ≤ Y t ∧ Y t + (T t).2.1 - 1 ≤ (cSpan T Y wo n).2
  | 0, _ => ⟨Or.inl ⟨rfl, rfl⟩, fun t ht => absurd ht (by omega)⟩
  | n + 1, h => by
    obtain ⟨i1, i2⟩ := cSpan_in (wo := wo) (n := n) ⟨by have := h.1; omega, fun t ht => h.2 t (by omega)⟩
    obtain ⟨⟨h1, -⟩, h3⟩ := h.2 n (by omega)
    rw [cSpan_succ]
    generalize cSpan T Y wo n = x at *
    obtain ⟨x1, x2⟩ := x
    simp only at i1 i2 ⊢
    by_cases c : (n : Int) ≠ wo ∧ Y n ≠ -1
    · rw [if_pos c]
      simp only
      constructor
      · right
        split <;> omega
      · intro t ht c1 c2
        by_cases e : t = n
        · subst e
          split <;> omega
        · have := i2 t (by omega) c1 c2
          split <;> omega
    · rw [if_neg c]
      refine ⟨i1, fun t ht c1 c2 => ?_⟩
      have e : t ≠ n := fun e => c (by subst e; exact ⟨c1, c2⟩)
      exact i2 t (by omega) c1 c2
theorem cLen_in {T : Nat → Rw} {Y : Nat → Int} {wo : Int} {n : Nat} (h : okC T Y n) : 0 ≤ cLen T Y wo n ∧ cLen T Y wo n ≤ 924 := by
  have := (cSpan_in (wo := wo) h).1
  unfold cLen
  split <;> omega
theorem chr_R {T : Nat → Rw} {Y : Nat → Int} {wo : Int} {n : Nat} (h : okC T Y n) : okR (chr T Y wo n) ∧ 0 ≤ (chr T Y wo n).2.1 ∧ (chr T Y wo n).2.1 ≤ 924 := by
  have := cLen_in (wo := wo) h
  refine ⟨⟨this.1, fun j hj => ?_⟩, this⟩
  have := cNum_in (wo := wo) (y := (cSpan T Y wo n).1 + j) h
  simp only [chr]
  split <;> omega
theorem chr_N {T : Nat → Rw} {Y : Nat → Int} {wo k : Int} {n : Nat} (h0 : 0 ≤ k) (h1 : k < cLen T Y wo n) : sN (chr T Y wo n) k = cNum T Y wo n ((cSpan T Y wo n).1 + k) := by
  unfold sN
  rw [if_pos ⟨h0, h1⟩]
  simp only [chr]
  rw [show ((k.toNat : Nat) : Int) = k by omega, if_pos h1]
theorem cSpan_congr {T T' : Nat → Rw} {Y Y' : Nat → Int} {wo : Int} {n : Nat} (h : ∀ t, t < n → T t = T' t ∧ Y t = Y' t) : cSpan T Y wo n = cSpan T' Y' wo n :=
  foldN_congr (fun t ht x => by rw [(h t ht).1, (h t ht).2])
theorem cNum_congr {T T' : Nat → Rw} {Y Y' : Nat → Int} {wo y : Int} {n : Nat} (h : ∀ t, t < n → T t = T' t ∧ Y t = Y' t) : cNum T Y wo n y = cNum T' Y' wo n y := by
  have e1 : cSum T Y wo n y = cSum T' Y' wo n y := sumN_congr (fun t ht => by rw [(h t ht).1, (h t ht).2])
  have e2 : cDep T Y wo n y = cDep T' Y' wo n y := sumN_congr (fun t ht => by rw [(h t ht).1, (h t ht).2])
  unfold cNum
  rw [e1, e2]
theorem chr_congr {T T' : Nat → Rw} {Y Y' : Nat → Int} {wo : Int} {n : Nat} (h : ∀ t, t < n → T t = T' t ∧ Y t = Y' t) : chr T Y wo n = chr T' Y' wo n := by
  have e1 := cSpan_congr (wo := wo) h
  have e2 : cLen T Y wo n = cLen T' Y' wo n := by unfold cLen; rw [e1]
  unfold chr
  rw [e1, e2]
  refine Prod.ext (funext fun p => ?_) rfl
  simp only [cNum_congr (wo := wo) h]
