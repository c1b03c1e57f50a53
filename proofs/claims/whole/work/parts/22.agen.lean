/-! GENERAL ROWS: calls with a known answer, frames. -/
theorem CallI.eq {q : Nat} {as : List AV} {M M2 : Mm} {v : Int} {G : Int → Mm → Prop} (h : CallI q as M (fun x M' => x = v ∧ M' = M2)) (g : G v M2) : CallI q as M G :=
  h.mono (fun x M' z => by rw [z.1, z.2]; exact g)
theorem CallV.eq {q : Nat} {as : List AV} {M M2 : Mm} {G : Mm → Prop} (h : CallV q as M (fun M' => M' = M2)) (g : G M2) : CallV q as M G :=
  h.mono (fun M' z => by rw [z]; exact g)
theorem CallR.eq {q : Nat} {as : List AV} {M M2 : Mm} {v : Nat} {G : Nat → Mm → Prop} (h : CallR q as M (fun x M' => x = v ∧ M' = M2)) (g : G v M2) : CallR q as M G :=
  h.mono (fun x M' z => by rw [z.1, z.2]; exact g)
/-- outside [lo, hi) nothing has changed -/
def Fr (lo hi : Nat) (M M' : Mm) : Prop := ∀ b, (b < lo ∨ hi ≤ b) → ∀ j, M' b j = M b j
theorem Fr.rf {lo hi : Nat} {M : Mm} : Fr lo hi M M := fun _ _ _ => Eq.refl _
theorem Fr.tr {lo hi : Nat} {M M1 M2 : Mm} (h : Fr lo hi M M1) (g : Fr lo hi M1 M2) : Fr lo hi M M2 := fun b hb j => (g b hb j).trans (h b hb j)
theorem Fr.wd {lo hi lo' hi' : Nat} {M M1 : Mm} (h : Fr lo hi M M1) (h1 : lo' ≤ lo) (h2 : hi ≤ hi') : Fr lo' hi' M M1 := fun b hb j => h b (by omega) j
theorem Fr.ms {lo hi a k : Nat} {v : Int} {M : Mm} (h1 : lo ≤ a) (h2 : a < hi) : Fr lo hi M (mset M a k v) := fun b hb j => mset_ne b (by omega) j
theorem Fr.st {lo hi a k : Nat} {v : Int} {M M1 : Mm} (h : Fr lo hi M M1) (h1 : lo ≤ a) (h2 : a < hi) : Fr lo hi M (mset M1 a k v) := h.tr (Fr.ms h1 h2)
theorem WPm.eqM {mi : Nat} {Qc : Option AV → Mm → Prop} {pc : Nat} {ls : AL} {st : List AV} {M M1 : Mm} (h : WPm mi Qc pc ls st M) (e : M = M1) : WPm mi Qc pc ls st M1 := e ▸ h
theorem WPm.eqL {mi : Nat} {Qc : Option AV → Mm → Prop} {pc : Nat} {ls ls1 : AL} {st st1 : List AV} {M M1 : Mm} (h : WPm mi Qc pc ls st M) (e1 : ls = ls1) (e2 : st = st1) (e : M = M1) : WPm mi Qc pc ls1 st1 M1 := e ▸ e1 ▸ e2 ▸ h
theorem mset_mset (M : Mm) (a k : Nat) (v w : Int) : mset (mset M a k v) a k w = mset M a k w := by
  funext b j
  simp only [mset]
  grind
theorem mset_same (M : Mm) (a k : Nat) : mset M a k (M a k) = M := by
  funext b j
  simp only [mset]
  grind
theorem mset_comm (M : Mm) {a k a' k' : Nat} (v w : Int) (h : ¬ (a = a' ∧ k = k')) : mset (mset M a k v) a' k' w = mset (mset M a' k' w) a k v := by
  funext b j
  simp only [mset]
  grind
theorem loopQ {mi : Nat} {Qc : Option AV → Mm → Prop} {pc : Nat} (N : Nat) (I : Nat → AL → Mm → Prop) (h : ∀ k ls M, k ≤ N → I k ls M → (k < N → ∀ ls' M', I (k + 1) ls' M' → WPm mi Qc pc ls' [] M') → WPm mi Qc pc ls [] M) :
    ∀ ls M, I 0 ls M → WPm mi Qc pc ls [] M := by
  have H : ∀ d k ls M, k + d = N → I k ls M → WPm mi Qc pc ls [] M := by
    intro d
    induction d with
    | zero => exact fun k ls M e i => h k ls M (by omega) i (fun z => absurd z (by omega))
    | succ d ih => exact fun k ls M e i => h k ls M (by omega) i (fun _ ls' M' i' => ih (k + 1) ls' M' (by omega) i')
  exact fun ls M i => H N 0 ls M (by omega) i
def foldN {α : Type} (f : Nat → α → α) (a : α) : Nat → α
  | 0 => a
  | n + 1 => f n (foldN f a n)
theorem foldN_congr {α : Type} {f g : Nat → α → α} {a : α} : ∀ {n : Nat}, (∀ t, t < n → ∀ x, f t x = g t x) → foldN f a n = foldN g a n
  | 0, _ => rfl
  | n + 1, h => by rw [foldN, foldN, foldN_congr (n := n) (fun t ht => h t (by omega)), h n (by omega)]
theorem natI (k : Nat) : ((k + 1 : Nat) : Int) = (k : Int) + 1 := rfl
theorem natT (k : Nat) : ((k : Nat) : Int).toNat = k := rfl
theorem KRE : (∀ a (r : List AV) f, kr (.inr a :: r) f = f a r) ∧ (∀ v (r : List AV) f, kv (v :: r) f = f v r) ∧ ((1 : Nat) : Int) = 1 ∧ ((2 : Nat) : Int) = 2 ∧ ((3 : Nat) : Int) = 3 ∧ ((4 : Nat) : Int) = 4 ∧ ((5 : Nat) : Int) = 5 ∧ ((6 : Nat) : Int) = 6 ∧ ((8 : Nat) : Int) = 8 ∧ ((24 : Nat) : Int) = 24 ∧ ((25 : Nat) : Int) = 25 ∧ ((28 : Nat) : Int) = 28 ∧ ((40 : Nat) : Int) = 40 ∧ ((200 : Nat) : Int) = 200 ∧ ((240 : Nat) : Int) = 240 ∧ ((408 : Nat) : Int) = 408 ∧ ((900 : Nat) : Int) = 900 ∧ ((924 : Nat) : Int) = 924 ∧ ((925 : Nat) : Int) = 925 ∧ ((1000 : Nat) : Int) = 1000 ∧ ((9600 : Nat) : Int) = 9600 :=
  ⟨fun _ _ _ => rfl, fun _ _ _ => rfl, rfl, rfl, rfl, rfl, rfl, rfl, rfl, rfl, rfl, rfl, rfl, rfl, rfl, rfl, rfl, rfl, rfl, rfl, rfl⟩
