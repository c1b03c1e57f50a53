/-! THE LAW'S START, 4: the digits' tables of java.lang.Integer. -/
abbrev dgS (n : String) : Term := Term.static "java/lang/Integer" n "[B"
theorem dg_a : ∀ n ∈ ["DigitOnes", "DigitTens"], Cond.arrayOf (dgS n) .byte ∈ stF ∧ Cond.eq (.length (dgS n)) (.int (Int32.ofNat 100)) ∈ stF := by decide +kernel
theorem dg_l : ∀ n ∈ ["DigitOnes", "DigitTens"], Cond.laysStatic "java/lang/Integer" n "[B" ∈ lw_tbl := by decide +kernel
theorem dg_i : Cond.initialized "java/lang/Integer" ∈ lw_tbl := by decide +kernel
theorem dg_e1_0 : ∀ j, j < 25 → Cond.eq (.elem (dgS "DigitOnes") (.int (Int32.ofNat (0 + j)))) (.int (iN (((0 + j) % 10 + 48 : Nat) : Int))) ∈ stF := by decide +kernel
theorem dg_e1_1 : ∀ j, j < 25 → Cond.eq (.elem (dgS "DigitOnes") (.int (Int32.ofNat (25 + j)))) (.int (iN (((25 + j) % 10 + 48 : Nat) : Int))) ∈ stF := by decide +kernel
theorem dg_e1_2 : ∀ j, j < 25 → Cond.eq (.elem (dgS "DigitOnes") (.int (Int32.ofNat (50 + j)))) (.int (iN (((50 + j) % 10 + 48 : Nat) : Int))) ∈ stF := by decide +kernel
theorem dg_e1_3 : ∀ j, j < 25 → Cond.eq (.elem (dgS "DigitOnes") (.int (Int32.ofNat (75 + j)))) (.int (iN (((75 + j) % 10 + 48 : Nat) : Int))) ∈ stF := by decide +kernel
theorem dg_e1 : ∀ j, j < 100 → Cond.eq (.elem (dgS "DigitOnes") (.int (Int32.ofNat j))) (.int (iN ((j % 10 + 48 : Nat) : Int))) ∈ stF := by
  intro j hj
  rcases (show j < 25 ∨ 25 ≤ j ∧ j < 50 ∨ 50 ≤ j ∧ j < 75 ∨ 75 ≤ j by omega) with h | h | h | h
  · have := dg_e1_0 (j - 0) (by omega)
    rw [show 0 + (j - 0) = j by omega] at this
    exact this
  · have := dg_e1_1 (j - 25) (by omega)
    rw [show 25 + (j - 25) = j by omega] at this
    exact this
  · have := dg_e1_2 (j - 50) (by omega)
    rw [show 50 + (j - 50) = j by omega] at this
    exact this
  · have := dg_e1_3 (j - 75) (by omega)
    rw [show 75 + (j - 75) = j by omega] at this
    exact this
theorem dg_e2_0 : ∀ j, j < 25 → Cond.eq (.elem (dgS "DigitTens") (.int (Int32.ofNat (0 + j)))) (.int (iN (((0 + j) / 10 + 48 : Nat) : Int))) ∈ stF := by decide +kernel
theorem dg_e2_1 : ∀ j, j < 25 → Cond.eq (.elem (dgS "DigitTens") (.int (Int32.ofNat (25 + j)))) (.int (iN (((25 + j) / 10 + 48 : Nat) : Int))) ∈ stF := by decide +kernel
theorem dg_e2_2 : ∀ j, j < 25 → Cond.eq (.elem (dgS "DigitTens") (.int (Int32.ofNat (50 + j)))) (.int (iN (((50 + j) / 10 + 48 : Nat) : Int))) ∈ stF := by decide +kernel
theorem dg_e2_3 : ∀ j, j < 25 → Cond.eq (.elem (dgS "DigitTens") (.int (Int32.ofNat (75 + j)))) (.int (iN (((75 + j) / 10 + 48 : Nat) : Int))) ∈ stF := by decide +kernel
theorem dg_e2 : ∀ j, j < 100 → Cond.eq (.elem (dgS "DigitTens") (.int (Int32.ofNat j))) (.int (iN ((j / 10 + 48 : Nat) : Int))) ∈ stF := by
  intro j hj
  rcases (show j < 25 ∨ 25 ≤ j ∧ j < 50 ∨ 50 ≤ j ∧ j < 75 ∨ 75 ≤ j by omega) with h | h | h | h
  · have := dg_e2_0 (j - 0) (by omega)
    rw [show 0 + (j - 0) = j by omega] at this
    exact this
  · have := dg_e2_1 (j - 25) (by omega)
    rw [show 25 + (j - 25) = j by omega] at this
    exact this
  · have := dg_e2_2 (j - 50) (by omega)
    rw [show 50 + (j - 50) = j by omega] at this
    exact this
  · have := dg_e2_3 (j - 75) (by omega)
    rw [show 75 + (j - 75) = j by omega] at this
    exact this
section W8
variable {s : State} {b : Nat}
theorem st_dg1 {n : String} {g : Nat → Int32} (hm : n ∈ ["DigitOnes", "DigitTens"]) (hts : ∀ w ∈ lw_tbl, w.before #[Value.ref b] s = true) (hgv : (Jvm.Cond.and given_1 narrow_1).before #[Value.ref b] s = true) (he : ∀ j, j < 100 → Cond.eq (.elem (dgS n) (.int (Int32.ofNat j))) (.int (g j)) ∈ stF) :
    ∃ d, va_Z "java/lang/Integer" n "[B" (.ref d) (fun q => s.heap.size ≤ q) s s.heap ∧ va_T .byte d 100 (fun j => .int (g j)) (fun q => s.heap.size ≤ q) s s.heap := by
  have hs := flat_of_before _ hgv
  have hA : ∀ a : Nat, a < s.heap.size → ¬ s.heap.size ≤ a := fun a ha => by omega
  obtain ⟨t, ht, hT⟩ := va_Tof (f := fun j => .int (g j)) (A := fun q => s.heap.size ≤ q) (N := 100) (by decide) (hs _ (dg_a n hm).1) (va_eqt (hs _ (dg_a n hm).2)) (fun j hj => va_eqt (hs _ (he j hj))) hA
  exact ⟨t, va_Zref (hts _ (dg_l n hm)) (hts _ dg_i) ht hA, hT⟩
theorem st_dg (hts : ∀ w ∈ lw_tbl, w.before #[Value.ref b] s = true) (hgv : (Jvm.Cond.and given_1 narrow_1).before #[Value.ref b] s = true) : DG (fun q => s.heap.size ≤ q) s s.heap := by
  obtain ⟨d1, a1, b1⟩ := st_dg1 (n := "DigitOnes") (by simp) hts hgv dg_e1
  obtain ⟨d2, a2, b2⟩ := st_dg1 (n := "DigitTens") (by simp) hts hgv dg_e2
  exact ⟨d1, d2, ⟨a1, b1⟩, a2, b2⟩
end W8
