/-! THE READER: one token. -/
/-- how many places from a on, below E, are of p -/
def runL (p : Nat → Bool) (E : Nat) : Nat → Nat → Nat
  | 0, _ => 0
  | f + 1, a => if a < E ∧ p a = true then runL p E f (a + 1) + 1 else 0
theorem runL_ok {p : Nat → Bool} {E : Nat} : ∀ (f a : Nat), E ≤ a + f → (∀ j, j < runL p E f a → a + j < E ∧ p (a + j) = true) ∧ ¬ (a + runL p E f a < E ∧ p (a + runL p E f a) = true)
  | 0, a, h => ⟨fun j z => absurd z (Nat.not_lt_zero _), fun z => by have := z.1; simp only [runL] at this; omega⟩
  | f + 1, a, h => by
    obtain ⟨h1, h2⟩ := runL_ok (p := p) (E := E) f (a + 1) (by omega)
    unfold runL
    by_cases c : a < E ∧ p a = true
    · rw [if_pos c]
      refine ⟨fun j z => ?_, ?_⟩
      · cases j with
        | zero => exact c
        | succ j =>
          have := h1 j (by omega)
          rw [show a + (j + 1) = a + 1 + j by omega]
          exact this
      · rw [show a + (runL p E f (a + 1) + 1) = a + 1 + runL p E f (a + 1) by omega]
        exact h2
    · rw [if_neg c]
      exact ⟨fun j z => absurd z (Nat.not_lt_zero _), c⟩
/-- the place of the token behind b -/
def tkA (g : Nat → Int) (E b : Nat) : Nat := b + runL (fun j => decide (g j = 32 ∨ g j = 10)) E 901 b
def tkW (g : Nat → Int) (E a : Nat) : Nat := runL (fun j => decide (isLet (g j))) E 901 a
def tkD (g : Nat → Int) (E a : Nat) : Nat := runL (fun j => decide (isDig (g j))) E 901 a
/-- the reader's memory with the token at a -/
def tkM (M : Mm) (E a : Nat) : Mm :=
  if E ≤ a then mset (mset (mset (mset M 1 5 a) 1 6 ((a : Int) + 1)) 1 7 0) 1 6 a
  else if isLet (M 2 a) then mWd (mset (mset (mset M 1 5 a) 1 6 ((a : Int) + 1)) 1 7 1) a (tkW (M 2) E a)
  else if isDig (M 2 a) then mNm (mset (mset (mset M 1 5 a) 1 6 ((a : Int) + 1)) 1 7 2) a (tkD (M 2) E a)
  else mset (mset (mset M 1 5 a) 1 6 ((a : Int) + 1)) 1 7 (if M 2 a = 59 then 3 else if M 2 a = 63 then 4 else 5)
theorem tkA_le {g : Nat → Int} {E b : Nat} (hE : E ≤ 900) (hb : b ≤ 900) : tkA g E b ≤ 900 := by
  have h := (runL_ok (p := fun j => decide (g j = 32 ∨ g j = 10)) (E := E) 901 b (by omega)).1
  unfold tkA
  by_cases z : runL (fun j => decide (g j = 32 ∨ g j = 10)) E 901 b = 0
  · omega
  · have := h (runL (fun j => decide (g j = 32 ∨ g j = 10)) E 901 b - 1) (by omega)
    omega
set_option maxHeartbeats 600000 in
set_option maxRecDepth 20000 in
theorem Reader_advance_ok {b E : Nat} {M : Mm} (hB : M 1 6 = b) (hE : M 1 4 = E) (hE9 : E ≤ 900) (hb9 : b ≤ 900) (hb : ∀ j, inR (M 2 j)) (hp : ∀ j, 0 ≤ M 2 j) : CallV m_Reader_advance [.inr 1] M (fun M' => M' = tkM M E (tkA (M 2) E b)) := by
  obtain ⟨s1, s2⟩ := runL_ok (p := fun j => decide (M 2 j = 32 ∨ M 2 j = 10)) (E := E) 901 b (by omega)
  simp only [decide_eq_true_eq] at s1 s2
  have ha9 := tkA_le (g := M 2) hE9 hb9
  refine Reader_advance_of (S := runL (fun j => decide (M 2 j = 32 ∨ M 2 j = 10)) E 901 b) hB hE hE9 hb9 hb s1 s2 ?_
  rw [show b + runL (fun j => decide (M 2 j = 32 ∨ M 2 j = 10)) E 901 b = tkA (M 2) E b from rfl]
  generalize tkA (M 2) E b = a at ha9 ⊢
  have g5 : mset M 1 5 (a : Int) 1 5 = a := by simp [mset]
  have g4 : mset M 1 5 (a : Int) 1 4 = E := by simp [mset, hE]
  have g2 : ∀ j, mset M 1 5 (a : Int) 2 j = M 2 j := fun j => by simp [mset]
  have gb : ∀ j, inR (mset M 1 5 (a : Int) 2 j) := fun j => by rw [g2]; exact hb j
  by_cases c1 : E ≤ a
  · exact Reader_advance_t0 (a := a) g5 g4 hE9 ha9 gb c1 (by rw [tkM, if_pos c1])
  · by_cases c2 : isLet (M 2 a)
    · obtain ⟨l1, l2⟩ := runL_ok (p := fun j => decide (isLet (M 2 j))) (E := E) 901 a (by omega)
      simp only [decide_eq_true_eq] at l1 l2
      exact Reader_advance_tW (a := a) (L := tkW (M 2) E a) g5 g4 hE9 ha9 gb (by omega) (by rw [g2]; exact hp a) (by rw [g2]; exact c2) (fun j z => by rw [g2]; exact l1 j z) (by rw [g2]; exact l2) (by rw [tkM, if_neg c1, if_pos c2])
    · by_cases c3 : isDig (M 2 a)
      · obtain ⟨l1, l2⟩ := runL_ok (p := fun j => decide (isDig (M 2 j))) (E := E) 901 a (by omega)
        simp only [decide_eq_true_eq] at l1 l2
        exact Reader_advance_tN (a := a) (L := tkD (M 2) E a) g5 g4 hE9 ha9 gb (by omega) (by rw [g2]; exact hp a) (by rw [g2]; exact c3) (fun j z => by rw [g2]; exact l1 j z) (by rw [g2]; exact l2) (by rw [tkM, if_neg c1, if_neg c2, if_pos c3])
      · exact Reader_advance_tP (a := a) g5 g4 hE9 ha9 gb (by omega) (by rw [g2]; exact hp a) (by rw [g2]; exact c2) (by rw [g2]; exact c3) (by rw [tkM, if_neg c1, if_neg c2, if_neg c3, g2])
