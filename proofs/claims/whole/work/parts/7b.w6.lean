/-! THE LAW'S START, 3: what holds of the machine's tables, together. -/
section W6
variable {s : State} {b : Nat}
theorem st_arrs (hts : ∀ w ∈ lw_tbl, w.before #[Value.ref b] s = true) : ∃ tA : Nat → ClassId, ∀ (k : Nat) (q : ClassId × FieldType), (tysA tA ++ [(tA 4, .byte), (tA 5, .long)])[k]? = some q → ArrOfT s q.1 q.2 ∧ va_RA s q.1 q.2 := by
  obtain ⟨a0, h0⟩ := prim_arr (ty := .int) (fun C h => by cases h) (hts _ (by decide +kernel))
  obtain ⟨a1, h1⟩ := prim_arr (ty := .boolean) (fun C h => by cases h) (hts _ (by decide +kernel))
  obtain ⟨a2, h2⟩ := obj_arr (C := "RingDater$Timber") (hts _ (by decide +kernel))
  obtain ⟨a3, h3⟩ := obj_arr (C := "java/lang/String") (hts _ (by decide +kernel))
  obtain ⟨a4, h4⟩ := prim_arr (ty := .byte) (fun C h => by cases h) (hts _ (by decide +kernel))
  obtain ⟨a5, h5⟩ := prim_arr (ty := .long) (fun C h => by cases h) (hts _ (by decide +kernel))
  refine ⟨fun k => match k with | 0 => a0 | 1 => a1 | 2 => a2 | 3 => a3 | 4 => a4 | _ => a5, fun k q hq => ?_⟩
  match k, hq with
  | 0, hq => cases hq; exact h0
  | 1, hq => cases hq; exact h1
  | 2, hq => cases hq; exact h2
  | 3, hq => cases hq; exact h3
  | 4, hq => cases hq; exact h4
  | 5, hq => cases hq; exact h5
  | k + 6, hq => cases hq
theorem st_K (hts : ∀ w ∈ lw_tbl, w.before #[Value.ref b] s = true) : ∃ (D : va_G) (tA : Nat → ClassId), va_K D clA (tysA tA) s ∧ va_K D clA [(tA 4, .byte), (tA 5, .long)] s := by
  obtain ⟨D, hD⟩ := st_cls hts
  obtain ⟨tA, hA⟩ := st_arrs hts
  exact ⟨D, tA, ⟨hD, fun k q hq => hA k q (by rw [List.getElem?_append_left (List.getElem?_eq_some_iff.mp hq).1]; exact hq)⟩, ⟨hD, fun k q hq => hA (4 + k) q (by rw [List.getElem?_append_right (by show (4 : Nat) ≤ 4 + k; omega)]; rw [show 4 + k - (tysA tA).length = k by show 4 + k - 4 = k; omega]; exact hq)⟩⟩
theorem st_Wc (hts : ∀ w ∈ lw_tbl, w.before #[Value.ref b] s = true) {D : va_G} {tA : Nat → ClassId} (h : va_K D clA [(tA 4, .byte), (tA 5, .long)] s) : Wc D tA s :=
  ⟨fun o x y h hm => va_Nw.of rfl (hts _ hm), va_AO.of (hts _ (by decide +kernel)), va_AO.of (hts _ (by decide +kernel)), h⟩
theorem sn_ws : ∀ o, o < 14 → ∀ r ∈ invL o, r.2.2.1 = 2 → Cond.methodLinkNest (Rn o) r.1 (yM r.2.1) "RingDater" ∈ lw_tbl := by decide +kernel
theorem st_nest (hts : ∀ w ∈ lw_tbl, w.before #[Value.ref b] s = true) : ∀ o r, r ∈ invL o → r.2.2.1 = 2 → va_Nw (.methodLinkNest (Rn o) r.1 (yM r.2.1) "RingDater") s := by
  intro o r hr h2
  rcases Nat.lt_or_ge o 14 with ho | ho
  · exact va_Nw.of rfl (hts _ (sn_ws o ho r hr h2))
  · obtain ⟨k, rfl⟩ : ∃ k, o = k + 14 := ⟨o - 14, by omega⟩
    exact absurd hr List.not_mem_nil
end W6
