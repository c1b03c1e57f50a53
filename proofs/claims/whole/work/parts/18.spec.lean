/-! THE SPEC, 1: rows, steps, ranks, slides, the best. A row: its numbers (0: none), its length, its doubts. -/
def vCmp (x y : Int) : Int := if x < y then -1 else if x = y then 0 else 1
abbrev Rw : Type := (Nat → Int) × Int × (Nat → Int)
def sN (A : Rw) (k : Int) : Int := if 0 ≤ k ∧ k < A.2.1 then A.1 k.toNat else 0
def sD (A : Rw) (k : Int) : Int := if 0 ≤ k ∧ k < A.2.1 then A.2.2 k.toNat else 0
def sStep (A : Rw) (k : Int) : Int := if sN A k ≠ 0 ∧ sN A (k - 1) ≠ 0 then vCmp (sN A k) (sN A (k - 1)) else 2
def less1 (x o : Int) : Int := if o ≠ 0 ∧ o < x then 1 else 0
def sRank (A : Rw) (k : Int) : Int := if sN A k ≠ 0 then less1 (sN A k) (sN A (k - 2)) + less1 (sN A k) (sN A (k - 1)) + less1 (sN A k) (sN A (k + 1)) + less1 (sN A k) (sN A (k + 2)) else -1
def sShk (A : Rw) (k : Int) : Int := if 0 ≤ k ∧ k < A.2.1 ∧ (sD A k ≠ 0 ∨ sD A (k - 1) ≠ 0) then 1 else 0
def one (x : Int) : Int := if x ≠ 0 then 1 else 0
/-- how many numbers stand at the places below n -/
def sCnt (A : Rw) (n : Int) : Int := sumI (fun k => one (A.1 k)) n
def sumR (f : Int → Int) (a b : Int) : Int := sumN (fun k => f (a + k)) (b - a).toNat
theorem sumR_0 (f : Int → Int) (a : Int) : sumR f a a = 0 := by
  unfold sumR
  rw [show (a - a).toNat = 0 by omega]
  rfl
theorem sumR_e {f : Int → Int} {a b : Int} (h : b ≤ a) : sumR f a b = 0 := by
  unfold sumR
  rw [show (b - a).toNat = 0 by omega]
  rfl
theorem sumR_succ (f : Int → Int) {a b : Int} (h : a ≤ b) : sumR f a (b + 1) = sumR f a b + f b := by
  unfold sumR
  rw [show (b + 1 - a).toNat = (b - a).toNat + 1 by omega]
  show _ + f (a + ((b - a).toNat : Nat)) = _
  rw [show a + (((b - a).toNat : Nat) : Int) = b by omega]
theorem sumR_in {f : Int → Int} {a b lo hi : Int} (hab : a ≤ b) (h : ∀ j, a ≤ j → j < b → lo ≤ f j ∧ f j ≤ hi) : lo * (b - a) ≤ sumR f a b ∧ sumR f a b ≤ hi * (b - a) := by
  have := sumN_in (f := fun k => f (a + k)) (a := lo) (b := hi) (n := (b - a).toNat) (fun j hj => h _ (by omega) (by omega))
  rw [show (((b - a).toNat : Nat) : Int) = b - a by omega] at this
  exact this
theorem sumR_congr {f g : Int → Int} {a b : Int} (h : ∀ j, a ≤ j → j < b → f j = g j) : sumR f a b = sumR g a b :=
  sumN_congr (fun j hj => h _ (by omega) (by omega))
theorem sumR_split (f : Int → Int) {a b c : Int} (h1 : a ≤ b) (h2 : b ≤ c) : sumR f a c = sumR f a b + sumR f b c := by
  obtain ⟨n, hn⟩ : ∃ n : Nat, c = b + n := ⟨(c - b).toNat, by omega⟩
  subst hn
  clear h2
  induction n with
  | zero => rw [show b + ((0 : Nat) : Int) = b by omega, sumR_0]; omega
  | succ n ih =>
    rw [show b + ((n + 1 : Nat) : Int) = b + n + 1 by omega, sumR_succ f (by omega), sumR_succ f (by omega), ih]
    omega
theorem sumR_zero {f : Int → Int} {a b : Int} (h : ∀ j, a ≤ j → j < b → f j = 0) : sumR f a b = 0 := by
  have := sumR_congr (f := f) (g := fun _ => 0) h
  rw [this]
  unfold sumR
  generalize (b - a).toNat = n
  induction n with
  | zero => rfl
  | succ n ih => rw [sumN, ih]; rfl
/-- like steps -/
def like (x y : Int) : Int := if x = y then 2 else if x = 0 ∨ y = 0 then 1 else 0
/-- B slid by s along A, at place j of B: a pair, how unlike the ranks are, whether both have a step, its points -/
def mP (A B : Rw) (s j : Int) : Int := if sN A (j + s) ≠ 0 ∧ sN B j ≠ 0 then 1 else 0
def mO (A B : Rw) (s j : Int) : Int := if mP A B s j = 1 then max (sRank A (j + s) - sRank B j) (-(sRank A (j + s) - sRank B j)) else 0
def mS (A B : Rw) (s j : Int) : Int := if mP A B s j = 1 ∧ sStep A (j + s) ≠ 2 ∧ sStep B j ≠ 2 then 1 else 0
def mA (A B : Rw) (s j : Int) : Int := if mS A B s j = 1 then (if sShk A (j + s) ≠ 0 ∨ sShk B j ≠ 0 then 1 else like (sStep A (j + s)) (sStep B j)) else 0
def slF (s : Int) : Int := max 0 (-s)
def slT (A B : Rw) (s : Int) : Int := min B.2.1 (A.2.1 - s)
def slPairs (A B : Rw) (s : Int) : Int := sumR (mP A B s) (slF s) (slT A B s)
def slBoth (A B : Rw) (s : Int) : Int := sumR (mS A B s) (slF s) (slT A B s)
def slSigns (A B : Rw) (s : Int) : Int := if slBoth A B s < 1 then 0 else (sumR (mA A B s) (slF s) (slT A B s) * 100).tdiv (2 * slBoth A B s)
def slRanks (A B : Rw) (s : Int) : Int := if slPairs A B s < 1 then 0 else 100 - (sumR (mO A B s) (slF s) (slT A B s) * 25).tdiv (slPairs A B s)
def slScore (A B : Rw) (s : Int) : Int := (2 * slSigns A B s + slRanks A B s).tdiv 3
/-- the best so far: found (0, 1), slide, score, pairs, the greatest other score -/
abbrev Bst : Type := Int × Int × Int × Int × Int
def bstS (A B : Rw) (lap s : Int) (x : Bst) : Bst :=
  if slPairs A B s < lap then x
  else if x.1 ≠ 0 ∧ (slScore A B s < x.2.2.1 ∨ slScore A B s = x.2.2.1 ∧ slPairs A B s ≤ x.2.2.2.1) then (x.1, x.2.1, x.2.2.1, x.2.2.2.1, max x.2.2.2.2 (slScore A B s))
  else (1, s, slScore A B s, slPairs A B s, if x.1 ≠ 0 then x.2.2.1 else -1)
def bstN (A B : Rw) (lap : Int) : Nat → Bst
  | 0 => (0, 0, 0, 0, -1)
  | n + 1 => bstS A B lap (1 - B.2.1 + n) (bstN A B lap n)
def best (A B : Rw) (lap : Int) : Bst := bstN A B lap (A.2.1 - (1 - B.2.1)).toNat
def why (x : Bst) (bound margin : Int) : Int := if x.1 = 0 then 1 else if x.2.2.1 < bound then 2 else if x.2.2.2.2 ≠ -1 ∧ x.2.2.1 - x.2.2.2.2 < margin then 3 else 0
/-- a row in range -/
def okR (A : Rw) : Prop := 0 ≤ A.2.1 ∧ ∀ j : Nat, (j : Int) < A.2.1 → 0 ≤ A.1 j ∧ A.1 j ≤ 100000000
theorem sN_in {A : Rw} {k : Int} (h : okR A) : 0 ≤ sN A k ∧ sN A k ≤ 100000000 := by
  unfold sN
  split
  · exact h.2 _ (by omega)
  · omega
theorem less1_in (x o : Int) : 0 ≤ less1 x o ∧ less1 x o ≤ 1 := by
  unfold less1
  split <;> omega
theorem sRank_in (A : Rw) (k : Int) : -1 ≤ sRank A k ∧ sRank A k ≤ 4 := by
  unfold sRank
  have h1 := less1_in (sN A k) (sN A (k - 2))
  have h2 := less1_in (sN A k) (sN A (k - 1))
  have h3 := less1_in (sN A k) (sN A (k + 1))
  have h4 := less1_in (sN A k) (sN A (k + 2))
  split <;> omega
theorem sRank_none (A : Rw) (k : Int) : sRank A k = -1 ↔ sN A k = 0 := by
  unfold sRank
  have h1 := less1_in (sN A k) (sN A (k - 2))
  have h2 := less1_in (sN A k) (sN A (k - 1))
  have h3 := less1_in (sN A k) (sN A (k + 1))
  have h4 := less1_in (sN A k) (sN A (k + 2))
  split <;> omega
theorem vCmp_in (x y : Int) : -1 ≤ vCmp x y ∧ vCmp x y ≤ 1 := by
  unfold vCmp
  split
  · omega
  · split <;> omega
theorem sStep_in (A : Rw) (k : Int) : -1 ≤ sStep A k ∧ sStep A k ≤ 2 := by
  unfold sStep
  have := vCmp_in (sN A k) (sN A (k - 1))
  split <;> omega
