/-! ROWS, canonical. -/
/-- a Timber's row, canonical: nothing behind its end -/
def tRw (M : Mm) (o : Nat) : Rw := (fun j => if (j : Int) < M o 2 then M (o + 1) j else 0, M o 2, fun j => if (j : Int) < M o 2 then M (o + 2) j else 0)
def rwEq (A B : Rw) : Prop := A.2.1 = B.2.1 ∧ ∀ j : Nat, (j : Int) < A.2.1 → A.1 j = B.1 j ∧ A.2.2 j = B.2.2 j
theorem rwEq_N {A B : Rw} (h : rwEq A B) (k : Int) : sN A k = sN B k := by
  obtain ⟨h1, h2⟩ := h
  unfold sN
  rw [h1]
  split
  · exact (h2 _ (by omega)).1
  · rfl
theorem rwEq_D {A B : Rw} (h : rwEq A B) (k : Int) : sD A k = sD B k := by
  obtain ⟨h1, h2⟩ := h
  unfold sD
  rw [h1]
  split
  · exact (h2 _ (by omega)).2
  · rfl
theorem rwEq_S {A B : Rw} (h : rwEq A B) (k : Int) : sStep A k = sStep B k := by
  unfold sStep
  rw [rwEq_N h, rwEq_N h]
theorem rwEq_K {A B : Rw} (h : rwEq A B) (k : Int) : sRank A k = sRank B k := by
  unfold sRank
  rw [rwEq_N h, rwEq_N h, rwEq_N h, rwEq_N h, rwEq_N h]
theorem rwEq_Y {A B : Rw} (h : rwEq A B) (k : Int) : sShk A k = sShk B k := by
  unfold sShk
  rw [rwEq_D h, rwEq_D h, h.1]
theorem rwEq_C {A B : Rw} (h : rwEq A B) {n : Int} (hn : n ≤ A.2.1) : sCnt A n = sCnt B n := by
  unfold sCnt sumI
  refine sumN_congr (fun j hj => ?_)
  rw [(h.2 j (by omega)).1]
theorem finR_eq {M : Mm} {r c : Nat} {A B : Rw} (h : finR M r c A) (e : rwEq A B) : finR M r c B := by
  obtain ⟨w0, w1, w2, w3, w4⟩ := h
  refine ⟨by rw [← e.1]; exact w0, by rw [← e.1]; exact w1, w2, w3, fun j hj => ?_⟩
  rw [← e.1] at hj
  obtain ⟨a1, a2, a3, a4, a5, a6⟩ := w4 j hj
  exact ⟨by rw [← (e.2 j hj).1]; exact a1, by rw [← rwEq_Y e]; exact a2, by rw [← rwEq_S e]; exact a3, by rw [← rwEq_K e]; exact a4, by rw [← rwEq_C e (by omega)]; exact a5, by rw [← rwEq_C e (by omega)]; exact a6⟩
theorem finR_cells {M M1 : Mm} {r c : Nat} {A : Rw} (e : ∀ b, r ≤ b → b < r + 7 → ∀ j, M1 b j = M b j) (h : finR M r c A) : finR M1 r c A := by
  obtain ⟨w0, w1, w2, w3, w4⟩ := h
  refine ⟨by rw [e r (by omega) (by omega)]; exact w0, w1, w2, fun j hj => by rw [e (r + 3) (by omega) (by omega)]; exact w3 j hj, fun j hj => ?_⟩
  rw [e (r + 1) (by omega) (by omega), e (r + 3) (by omega) (by omega), e (r + 4) (by omega) (by omega), e (r + 5) (by omega) (by omega), e (r + 6) (by omega) (by omega), e (r + 6) (by omega) (by omega)]
  exact w4 j hj
/-- a Row's cells are in range -/
def rowOK (M : Mm) (r c : Nat) : Prop := wfR M r c ∧ ∀ j, j < c → M (r + 3) j = 0 ∨ M (r + 3) j = 1
theorem rowOK_cells {M M1 : Mm} {r c : Nat} (e : ∀ b, r ≤ b → b < r + 7 → ∀ j, M1 b j = M b j) (h : rowOK M r c) : rowOK M1 r c := by
  obtain ⟨⟨w0, w1, w2, w3, w4⟩, w5⟩ := h
  refine ⟨⟨by rw [e r (by omega) (by omega)]; exact w0, w1, by rw [e r (by omega) (by omega)]; exact w2, fun j hj => ?_, fun j hj => ?_⟩, fun j hj => ?_⟩
  · rw [e (r + 2) (by omega) (by omega)]; exact w3 j hj
  · rw [e (r + 1) (by omega) (by omega)]; exact w4 j hj
  · rw [e (r + 3) (by omega) (by omega)]; exact w5 j hj
theorem rowOK_fin {M : Mm} {r c : Nat} (h : rowOK M r c) : rowOK (mFin M r (M r 7)) r c := by
  obtain ⟨h1, h2⟩ := h
  refine ⟨mFin_wf h1, fun j hj => ?_⟩
  have := h2 j hj
  have e : sShk (rwOf M r) j = 0 ∨ sShk (rwOf M r) j = 1 := by unfold sShk; split <;> omega
  simp only [mFin]
  grind
theorem mFin_fr (M : Mm) (r : Nat) (i : Int) : Fr r (r + 7) M (mFin M r i) := by
  intro b hb j
  simp only [mFin]
  grind
theorem wfT_cells {M M1 : Mm} {o : Nat} (e : ∀ b, o ≤ b → b < o + 3 → ∀ j, M1 b j = M b j) (h : wfT M o) : wfT M1 o := by
  obtain ⟨w0, w1, w2, w3, w4, w5⟩ := h
  have e0 := e o (by omega) (by omega)
  have e1 := e (o + 1) (by omega) (by omega)
  have e2 := e (o + 2) (by omega) (by omega)
  exact ⟨by rw [e0]; exact w0, fun j hj => by rw [e1]; exact w1 j hj, fun j hj => by rw [e2]; exact w2 j hj, by rw [e0]; exact w3, by rw [e0]; exact w4, by rw [e0]; exact w5⟩
theorem tRw_cells {M M1 : Mm} {o : Nat} (e : ∀ b, o ≤ b → b < o + 3 → ∀ j, M1 b j = M b j) : tRw M1 o = tRw M o := by
  unfold tRw
  rw [e o (by omega) (by omega), funext (e (o + 1) (by omega) (by omega)), funext (e (o + 2) (by omega) (by omega))]
