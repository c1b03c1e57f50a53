/-! PLAIN FACTS for what follows. -/
/-- reading behind a writing, for simp (with and_false, ite_self) -/
theorem MSE : (∀ (M : Mm) (a k : Nat) (v : Int) (b j : Nat), mset M a k v b j = if b = a ∧ j = k then v else M b j) ∧ (∀ o n : Nat, (o = o + (n + 1)) = False) ∧ (∀ o n : Nat, (o + (n + 1) = o) = False) ∧ (∀ p : Prop, (p ∧ False) = False) ∧ (∀ p : Prop, (False ∧ p) = False) :=
  ⟨fun _ _ _ _ _ _ => rfl, fun o n => eq_false (by omega), fun o n => eq_false (by omega), fun _ => and_false _, fun _ => false_and _⟩
def sumN (f : Nat → Int) : Nat → Int
  | 0 => 0
  | n + 1 => sumN f n + f n
def sumI (f : Nat → Int) (i : Int) : Int := sumN f i.toNat
theorem sumI_0 (f : Nat → Int) : sumI f 0 = 0 := rfl
theorem sumI_succ (f : Nat → Int) {i : Int} (h : 0 ≤ i) : sumI f (i + 1) = sumI f i + f i.toNat := by
  unfold sumI
  rw [show (i + 1).toNat = i.toNat + 1 by omega]
  rfl
theorem sumN_in {f : Nat → Int} {a b : Int} : ∀ {n : Nat}, (∀ j, j < n → a ≤ f j ∧ f j ≤ b) → a * n ≤ sumN f n ∧ sumN f n ≤ b * n
  | 0, _ => by simp [sumN]
  | n + 1, h => by
    have h1 := sumN_in (n := n) (fun j hj => h j (by omega))
    have h2 := h n (by omega)
    simp only [sumN, Int.natCast_add, Int.mul_add]
    omega
theorem sumN_congr {f g : Nat → Int} : ∀ {n : Nat}, (∀ j, j < n → f j = g j) → sumN f n = sumN g n
  | 0, _ => rfl
  | n + 1, h => by rw [sumN, sumN, sumN_congr (n := n) (fun j hj => h j (by omega)), h n (by omega)]
def lcg (x : Int) : Int := x * 1103515245 + 12345
def lcgN : Nat → Int → Int
  | 0, x => x
  | n + 1, x => lcg (lcgN n x)
/-- the draw of 99, and 1 -/
def drw (x : Int) : Int := (bAnd (bUshr x 16) 32767).tmod 99 + 1
theorem iN_wrap (x : Int) : inR (iN x).toInt := by
  have h1 := Int32.le_toInt (iN x)
  have h2 := Int32.toInt_lt (iN x)
  exact ⟨by omega, by omega⟩
theorem bAnd_mask (x : Int) : 0 ≤ bAnd x 32767 ∧ bAnd x 32767 ≤ 32767 := by
  unfold bAnd
  have h := pk_and (iN x) (m := iN 32767) 15 (by decide)
  rw [h]
  have h2 : (iN x).toBitVec.toNat % 2 ^ 15 < 2 ^ 15 := Nat.mod_lt _ (by decide)
  rw [nI_toInt (by omega)]
  omega
theorem drw_in (x : Int) : 1 ≤ drw x ∧ drw x ≤ 99 := by
  unfold drw
  have h := bAnd_mask (bUshr x 16)
  have h1 : 0 ≤ (bAnd (bUshr x 16) 32767).tmod 99 := Int.tmod_nonneg _ h.1
  have h2 : (bAnd (bUshr x 16) 32767).tmod 99 < 99 := Int.tmod_lt_of_pos _ (by decide)
  omega
/-- >> and >>> by 16 have the same 15 lowest bits -/
theorem shr_mask (x : Int) : bAnd (bShr x 16) 32767 = bAnd (bUshr x 16) 32767 := by
  unfold bAnd bShr bUshr
  rw [iN_ti, iN_ti]
  have h1 := pk_and (iN x >>> (iN 16 &&& 31)) (m := iN 32767) 15 (by decide)
  have h2 := pk_and (((iN x).toUInt32 >>> ((iN 16).toUInt32 &&& Int32.toUInt32 31)).toInt32) (m := iN 32767) 15 (by decide)
  rw [h1, h2]
  have e2 := pk_ushr (iN x) (iN 16) 16 (by decide)
  rw [e2]
  have e1 := pk_shr (iN x) (iN 16 &&& 31) 16 (by decide)
  refine congrArg (fun z => (nI z).toInt) ?_
  rw [Int.shiftRight_eq_div_pow] at e1
  have h3 : (iN x).toInt = _ := BitVec.toInt_eq_toNat_cond (iN x).toBitVec
  have h4 : (iN x >>> (iN 16 &&& 31)).toInt = _ := BitVec.toInt_eq_toNat_cond (iN x >>> (iN 16 &&& 31)).toBitVec
  have b1 := (iN x).toBitVec.isLt
  have b2 := (iN x >>> (iN 16 &&& 31)).toBitVec.isLt
  rw [e1] at h4
  generalize (iN x >>> (iN 16 &&& 31)).toBitVec.toNat = u at *
  generalize (iN x).toBitVec.toNat = v at *
  generalize (iN x).toInt = w at *
  split at h3 <;> split at h4 <;> omega
