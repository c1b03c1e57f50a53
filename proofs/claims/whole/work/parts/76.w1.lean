/-! THE FIRST WORLD, 2: the reference itself. -/
section W1
variable {ks : Nat → Nat} {tA : Nat → ClassId} {b : Nat}
theorem m00_154 (j : Nat) (h : j ≠ 17) : M00 154 j = 0 := by simp [M00, h]
theorem m00_17 : M00 154 17 = -1 := by simp [M00]
theorem iN_z : iN 0 = 0 := rfl
theorem adr_hi {a : Nat} (h1 : 76 ≤ a) (h2 : a < 191) : adrF ks b a = b + 2 + a := by unfold adrF; rw [if_neg (by omega), if_pos h2]
set_option maxHeartbeats 4000000 in
set_option maxRecDepth 100000 in
theorem w0_154 : (Lf12 ks tA (b + 156))[0]? = some (cel tA (adrF ks b) M00 154) := by
  have hl : lay 154 = .inr (.inl (12, [some 155, none, some 156, some 157, some 158, some 159, some 160, some 161, none, none, none, none, none, none, none, none, none, none, none, none, some 162, some 163, some 164, some 165, some 166, some 167, none, none, none, none, none, some 168, none, none, none, none, none, none, none, none, none, none, some 169, some 170, some 171, some 172, some 173, some 174, some 175, none, some 176, some 177, some 178, some 179, some 180, none, none, none, none, some 181, none, some 182, some 183, none, none, some 184, none, some 185, none, none, none, none, some 186, some 187, some 188, some 189, some 190])) := rfl
  unfold cel
  rw [hl]
  simp only [celF, List.mapIdx_cons, List.mapIdx_nil, celV, Nat.reduceAdd, Function.comp_def]
  simp only [Lf12, List.getElem?_cons_zero, Option.some.injEq, Sum.inr.injEq, Prod.mk.injEq, true_and, List.cons.injEq, Value.ref.injEq, Value.int.injEq, and_true]
  repeat' apply And.intro
  all_goals first | (rw [adr_hi] <;> omega) | (rw [m00_17]) | (rw [m00_154 _ (by decide)]; rfl)
end W1
