/-! THE LAW'S START, 1: what stands still beside the world, out of the premises' words. -/
section W4
variable {s : State} {b : Nat}
def stO (i : Nat) : Nat := if i = 6 then 9 else 5
def stK (i : Nat) : Nat := ([94, 103, 109, 111, 113, 118, 64] : List Nat).getD i 0
def stT0 (i : Nat) : Term := Term.string (Rn (stO i)) (stK i)
abbrev stF : List Cond := flatC (Jvm.Cond.and given_1 narrow_1)
theorem sf_ex : ∀ i, i < 7 → Cond.exactly (stT0 i) "java/lang/String" ∈ stF := by decide +kernel
theorem sf_co : ∀ i, i < 7 → Cond.eq (.field (stT0 i) "java/lang/String" "coder" "B") (.int 0) ∈ stF := by decide +kernel
theorem sf_ar : ∀ i, i < 7 → Cond.arrayOf (.field (stT0 i) "java/lang/String" "value" "[B") .byte ∈ stF := by decide +kernel
theorem sf_le : ∀ i, i < 7 → Cond.eq (.length (.field (stT0 i) "java/lang/String" "value" "[B")) (.int (Int32.ofNat (strLen.getD i 0))) ∈ stF := by decide +kernel
theorem sf_el : ∀ i, i < 7 → ∀ j, j < strLen.getD i 0 → Cond.eq (.elem (.field (stT0 i) "java/lang/String" "value" "[B") (.int (Int32.ofNat j))) (.int ((strByt.getD i []).getD j 0)) ∈ stF := by decide +kernel
theorem sf_ne : ∀ i, i < 7 → ∀ j, j < 7 → i ≠ j → Cond.not (Cond.eq (stT0 i) (stT0 j)) ∈ stF ∨ Cond.not (Cond.eq (stT0 j) (stT0 i)) ∈ stF := by decide +kernel
theorem sf_md : ∀ r ∈ strL 12, Cond.eq (stT0 r.2.2) (Term.string (Rn 12) r.1) ∈ stF := by decide +kernel
theorem sf_ref : ∀ o, o < 14 → ∀ r ∈ strL o, Cond.stringRef (Rn o) r.1 r.2.1 ∈ lw_tbl := by decide +kernel
theorem eq_ref {args : Array Value} {t1 t2 : Term} {x : Nat} (h : (Cond.eq t1 t2).before args s = true) (h1 : t1.eval args s none [] s = some (.ref x)) : t2.eval args s none [] s = some (.ref x) := by
  simp only [Cond.before, Cond.holds, Cond.value, h1] at h
  cases h2 : t2.eval args s none [] s with
  | none => simp [h2] at h
  | some w => cases w <;> simp [h2] at h <;> rw [h]
theorem st_str (hts : ∀ w ∈ lw_tbl, w.before #[Value.ref b] s = true) (hgv : (Jvm.Cond.and given_1 narrow_1).before #[Value.ref b] s = true) : ∃ ks adV : Nat → Nat, vk_S 7 strLen strByt ks adV (fun q => s.heap.size ≤ q) s s.heap ∧ ∀ o r, r ∈ strL o → vk_R (Rn o) r.1 r.2.1 (ks r.2.2) s := by
  have hs := flat_of_before _ hgv
  obtain ⟨ks, adV, h1, h2⟩ := vk_Sof (args := #[Value.ref b]) (s := s) (N := 7) (tm := stT0) (len := strLen) (byt := strByt) (A := fun q => s.heap.size ≤ q) (by decide) (fun i hi => hs _ (sf_ex i hi)) (fun i hi => hs _ (sf_co i hi)) (fun i hi => hs _ (sf_ar i hi)) (fun i hi => hs _ (sf_le i hi)) (fun i hi j hj => hs _ (sf_el i hi j hj)) (fun i j hi hj hn => (sf_ne i hi j hj hn).imp (hs _) (hs _)) (fun a ha => by omega)
  refine ⟨ks, adV, h1, fun o r hr => ?_⟩
  rcases Nat.lt_or_ge o 14 with ho | ho
  · refine vk_R.of (hts _ (sf_ref o ho r hr)) ?_
    by_cases h12 : o = 12
    · subst h12
      refine eq_ref (hs _ (sf_md r hr)) (h2 _ ?_)
      revert r; decide
    · have e : r.2.2 < 7 ∧ Term.string (Rn o) r.1 = stT0 r.2.2 := by
        revert r; revert h12; revert o; decide
      rw [e.2]
      exact h2 _ e.1
  · obtain ⟨k, rfl⟩ : ∃ k, o = k + 14 := ⟨o - 14, by omega⟩
    exact absurd hr List.not_mem_nil
theorem excD_in : ∀ w ∈ excD, w ∈ lw_tbl := by decide +kernel
theorem st_dcl (hts : ∀ w ∈ lw_tbl, w.before #[Value.ref b] s = true) : Dcl s := fun w hw => va_tabs (excD_ot w hw) rfl (hts w (excD_in w hw))
end W4
