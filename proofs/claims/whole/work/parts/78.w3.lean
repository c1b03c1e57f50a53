/-! THE FIRST WORLD, 4: the relation holds at birth. -/
section W3
theorem m00_z {a j : Nat} (h : a ≠ 1 ∧ a ≠ 33 ∧ a ≠ 154 ∧ a ≠ 156 ∧ a ≠ 8 ∧ a ≠ 81 ∧ a ≠ 120 ∧ a ≠ 3 ∧ a ≠ 76 ∧ a ≠ 115 ∧ a ≠ 34 ∧ a ≠ 41 ∧ a ≠ 48) : M00 a j = 0 := by
  unfold M00
  rw [if_neg (by omega), if_neg (by omega), if_neg (by omega), if_neg (by omega), if_neg (by omega), if_neg (by omega)]
theorem wfT_z {o : Nat} (h : ∀ q j, q < 3 → M00 (o + q) j = 0) : wfT M00 o := by
  have h0 := fun j => h 0 j (by omega)
  simp only [Nat.add_zero] at h0
  refine ⟨by rw [h0]; omega, fun j _ => by rw [h 1 j (by omega)]; omega, fun j _ => .inl (h 2 j (by omega)), by rw [h0]; omega, by rw [h0]; omega, by rw [h0]; omega⟩
theorem wfT_0 {o : Nat} (h : o = 5 ∨ 9 ≤ o ∧ o ≤ 30 ∨ o = 73 ∨ o = 78 ∨ 82 ≤ o ∧ o ≤ 103 ∨ o = 117) : wfT M00 o := wfT_z (fun q j hq => m00_z (by omega))
theorem m76_3 : M00 76 3 = 0 := by decide
theorem m76_4 : M00 76 4 = 70 := by decide
theorem m76_5 : M00 76 5 = 6 := by decide
theorem m76_6 : M00 76 6 = 5 := by decide
theorem yr_0 (a : Nat) (ha : a = 8 ∨ a = 81) (t : Nat) (ht : t < 8) : M00 a t = -1 := by
  unfold M00
  rw [if_pos (by omega)]
theorem wfS_0 : wfS M00 76 := by
  refine ⟨by rw [m76_3]; omega, by rw [m76_4]; omega, by rw [m76_5]; omega, by rw [m76_6]; omega, fun t ht => wfT_0 (by omega), wfT_0 (by omega), fun t ht => ?_⟩
  rw [yr_0 _ (by omega) t ht]; omega
theorem okC_0 (T : Nat → Rw) (Y : Nat → Int) : okC T Y 0 := ⟨by omega, fun t h => absurd h (by omega)⟩
theorem row_0 {r c : Nat} (h : r = 34 ∨ r = 41 ∨ r = 48) (hc : M00 r 0 = c) (hl : c ≤ 924) (h7 : M00 r 7 = 0) : rowOK M00 r c := by
  refine ⟨⟨hc, hl, by rw [h7]; omega, fun j _ => .inl (m00_z (by omega)), fun j _ => ?_⟩, fun j _ => .inl (m00_z (by omega))⟩
  rw [m00_z (a := r + 1) (by omega)]; omega
theorem ben_0 : benOK M00 := ⟨row_0 (by omega) (by decide) (by omega) (by decide), row_0 (by omega) (by decide) (by omega) (by decide), row_0 (by omega) (by decide) (by omega) (by decide)⟩
theorem cls_0 : cls M00 0 (stT M00 76) (M00 81) 6 70 5 := by
  refine ⟨⟨⟨wfS_0, ?_⟩, ben_0, wfT_0 (by omega)⟩, ⟨m76_3, by omega⟩, fun t ht => ⟨rfl, rfl⟩, ⟨m76_5, by omega⟩, ⟨m76_4, by omega⟩, ⟨m76_6, by omega⟩, okC_0 _ _⟩
  rw [m76_3]; exact okC_0 _ _
theorem mdl_0 : mdl M00 0 (stT M00 76) (M00 81) 6 70 5 := by
  refine ⟨⟨by decide, by omega⟩, fun t ht => absurd ht (by omega), ?_, okC_0 _ _⟩
  refine ⟨⟨by decide, by omega⟩, ⟨by decide, by omega⟩, by decide, by omega⟩
theorem relG_0 : relG M00 := ⟨.inl (by decide), wfT_0 (by omega), wfT_0 (by omega), fun t ht => wfT_0 (by omega), fun t ht => by rw [yr_0 _ (by omega) t ht]; omega⟩
theorem led_0 (l : Nat) (h : M00 l 4 = 0) (p f : Nat → Int) : ledR M00 l 0 0 p f := ⟨h, by omega, fun t ht => absurd ht (by omega), fun i hi => absurd hi (by omega)⟩
theorem relX_0 : relX M00 0 0 6 70 5 := by
  refine ⟨fun t ht => absurd ht (by omega), ⟨0, fun _ => 0, fun _ => 0, ⟨by decide, by omega, fun i hi => absurd hi (by omega)⟩, ⟨by decide, by omega, fun i hi => absurd hi (by omega)⟩⟩, fun j hj => ?_, ⟨0, ⟨by decide, by decide, by omega⟩, fun j hj => absurd hj (by omega), fun j => ?_⟩, ⟨by decide, by decide, by decide⟩, ⟨0, by decide, led_0 _ (by decide) _ _⟩, relG_0, by decide, fun z => ?_⟩
  · rw [m00_z (a := 114) (by omega), m00_z (a := 160) (by omega)]; omega
  · rw [m00_z (a := 2) (by omega)]; omega
  · rw [m00_z (by omega)] at z; exact absurd z (by omega)
theorem Rel_0 : Rel 0 M00 := ⟨0, _, _, 6, 70, 5, cls_0, mdl_0, relX_0⟩
end W3
