/-! ===== Int32 by its bits: bt x i ===== -/
def bt (x : Int32) (i : Nat) : Bool := x.toBitVec.getLsbD i
theorem b_ext {x y : Int32} (h : ∀ i, i < 32 → bt x i = bt y i) : x = y := Int32.toBitVec_inj.mp (BitVec.eq_of_getLsbD_eq (fun i hi => h i hi))
theorem b_or (x y : Int32) (i : Nat) : bt (x ||| y) i = (bt x i || bt y i) := by unfold bt; rw [Int32.toBitVec_or, BitVec.getLsbD_or]
theorem b_and (x y : Int32) (i : Nat) : bt (x &&& y) i = (bt x i && bt y i) := by unfold bt; rw [Int32.toBitVec_and, BitVec.getLsbD_and]
theorem b_xor (x y : Int32) (i : Nat) : bt (x ^^^ y) i = (bt x i ^^ bt y i) := by unfold bt; rw [Int32.toBitVec_xor, BitVec.getLsbD_xor]
theorem b_big {x : Int32} {i : Nat} (h : 32 ≤ i) : bt x i = false := BitVec.getLsbD_of_ge _ _ h
theorem b_255 (i : Nat) : bt 255 i = decide (i < 8) := by
  rcases Nat.lt_or_ge i 32 with h | h
  · exact (by decide +kernel : ∀ i, i < 32 → bt 255 i = decide (i < 8)) i h
  · rw [b_big h, decide_eq_false (by omega)]
theorem b_65535 (i : Nat) : bt 65535 i = decide (i < 16) := by
  rcases Nat.lt_or_ge i 32 with h | h
  · exact (by decide +kernel : ∀ i, i < 32 → bt 65535 i = decide (i < 16)) i h
  · rw [b_big h, decide_eq_false (by omega)]
theorem b_m1 : ∀ i, i < 32 → bt (-1) i = true := by decide +kernel
theorem b_0 (i : Nat) : bt 0 i = false := BitVec.getLsbD_zero
theorem s_l : ∀ n, n < 32 → ((nI n &&& 31).toBitVec.smod 32).toNat = n := by decide +kernel
theorem s_u : ∀ n, n < 32 → (((nI n).toUInt32 &&& Int32.toUInt32 31).toBitVec % 32).toNat = n := by decide +kernel
theorem b_shl (n : Nat) (hn : n < 32) (x : Int32) {i : Nat} (hi : i < 32) : bt (x <<< (nI n &&& 31)) i = (decide (n ≤ i) && bt x (i - n)) := by
  unfold bt
  rw [Int32.toBitVec_shiftLeft]
  show (x.toBitVec <<< ((nI n &&& 31).toBitVec.smod 32).toNat).getLsbD i = _
  rw [s_l n hn, BitVec.getLsbD_shiftLeft]
  rcases Nat.lt_or_ge i n with h | h
  · simp [h, Nat.not_le.mpr h]
  · simp [hi, h, Nat.not_lt.mpr h]
theorem b_ushr (n : Nat) (hn : n < 32) (x : Int32) (i : Nat) : bt ((x.toUInt32 >>> ((nI n).toUInt32 &&& Int32.toUInt32 31)).toInt32) i = bt x (n + i) := by
  show (x.toUInt32 >>> ((nI n).toUInt32 &&& Int32.toUInt32 31)).toBitVec.getLsbD i = x.toUInt32.toBitVec.getLsbD (n + i)
  rw [UInt32.toBitVec_shiftRight]
  show (x.toUInt32.toBitVec >>> (((nI n).toUInt32 &&& Int32.toUInt32 31).toBitVec % 32).toNat).getLsbD i = _
  rw [s_u n hn, BitVec.getLsbD_ushiftRight]
theorem b_sshr (n : Nat) (hn : n < 32) (x : Int32) {i : Nat} (hi : i < 32) : bt (x >>> (nI n &&& 31)) i = if n + i < 32 then bt x (n + i) else bt x 31 := by
  unfold bt
  rw [Int32.toBitVec_shiftRight]
  show (x.toBitVec.sshiftRight ((nI n &&& 31).toBitVec.smod 32).toNat).getLsbD i = _
  rw [s_l n hn, BitVec.getLsbD_sshiftRight, BitVec.msb_eq_getLsbD_last]
  simp [hi]
/-! ===== whole numbers by their bits ===== -/
def btI (x : Int) (i : Nat) : Bool := bt (iN x) i
theorem iN_nat (n : Nat) : iN (n : Int) = nI n := by
  apply Int32.toBitVec_inj.1
  show BitVec.ofInt 32 (n : Int) = BitVec.ofNat 32 n
  exact BitVec.ofInt_natCast 32 n
theorem btI_or (x y : Int) (i : Nat) : btI (bOr x y) i = (btI x i || btI y i) := by
  unfold btI bOr
  rw [iN_ti]
  exact b_or _ _ _
theorem btI_and (x y : Int) (i : Nat) : btI (bAnd x y) i = (btI x i && btI y i) := by
  unfold btI bAnd
  rw [iN_ti]
  exact b_and _ _ _
theorem btI_xor (x y : Int) (i : Nat) : btI (bXor x y) i = (btI x i ^^ btI y i) := by
  unfold btI bXor
  rw [iN_ti]
  exact b_xor _ _ _
theorem btI_shl {n : Nat} (hn : n < 32) (x : Int) {i : Nat} (hi : i < 32) : btI (bShl x n) i = (decide (n ≤ i) && btI x (i - n)) := by
  unfold btI bShl
  rw [iN_ti, iN_nat]
  exact b_shl n hn _ hi
theorem btI_shr {n : Nat} (hn : n < 32) (x : Int) {i : Nat} (hi : i < 32) : btI (bShr x n) i = if n + i < 32 then btI x (n + i) else btI x 31 := by
  unfold btI bShr
  rw [iN_ti, iN_nat]
  exact b_sshr n hn _ hi
theorem btI_0 (i : Nat) : btI 0 i = false := b_0 i
theorem btI_1 {i : Nat} (hi : i < 32) : btI 1 i = decide (i = 0) := (by decide +kernel : ∀ i, i < 32 → btI 1 i = decide (i = 0)) i hi
theorem btI_m1 {i : Nat} (hi : i < 32) : btI (-1) i = true := b_m1 i hi
theorem btI_big {x : Int} {i : Nat} (h : 32 ≤ i) : btI x i = false := b_big h
theorem btI_ext {x y : Int} (hx : inR x) (hy : inR y) (h : ∀ i, i < 32 → btI x i = btI y i) : x = y := by
  rw [← iN_toInt hx, ← iN_toInt hy, b_ext h]
theorem bOr_in (x y : Int) : inR (bOr x y) := by
  have := iN_wrap (bOr x y)
  unfold bOr at *
  rw [iN_ti] at this
  exact this
theorem bAnd_in (x y : Int) : inR (bAnd x y) := by
  have := iN_wrap (bAnd x y)
  unfold bAnd at *
  rw [iN_ti] at this
  exact this
theorem bXor_in (x y : Int) : inR (bXor x y) := by
  have := iN_wrap (bXor x y)
  unfold bXor at *
  rw [iN_ti] at this
  exact this
theorem bShl_in (x y : Int) : inR (bShl x y) := by
  have := iN_wrap (bShl x y)
  unfold bShl at *
  rw [iN_ti] at this
  exact this
theorem bShr_in (x y : Int) : inR (bShr x y) := by
  have := iN_wrap (bShr x y)
  unfold bShr at *
  rw [iN_ti] at this
  exact this
/-- the test of a bit -/
theorem bit_test (x : Int) {k : Nat} (hk : k < 32) : bAnd (bShr x k) 1 = if btI x k then 1 else 0 := by
  apply btI_ext (bAnd_in _ _)
  · split <;> exact ⟨by decide, by decide⟩
  · intro i hi
    rw [btI_and, btI_shr hk _ hi, btI_1 hi]
    by_cases e : i = 0
    · subst e
      cases h : btI x k <;> simp [hk, h, btI_0, btI_1]
    · cases h : btI x k <;> simp [e, h, btI_0, btI_1 hi]
theorem bit_testI (x : Int) {k : Int} (h0 : 0 ≤ k) (hk : k < 32) : bAnd (bShr x k) 1 = if btI x k.toNat then 1 else 0 := by
  have := bit_test x (k := k.toNat) (by omega)
  rwa [show ((k.toNat : Nat) : Int) = k by omega] at this
/-- a set of bits out of a condition -/
theorem fBit_in (p : Nat → Prop) [DecidablePred p] : ∀ n : Nat, inR (fBit p n)
  | 0 => inR_0
  | n + 1 => bOr_in _ _
theorem fBit_bt (p : Nat → Prop) [DecidablePred p] : ∀ {n : Nat}, n ≤ 31 → ∀ {i : Nat}, i < 32 → btI (fBit p n) i = decide (i < n ∧ p i)
  | 0, _, i, _ => by
    show btI 0 i = _
    rw [btI_0]
    simp
  | n + 1, hn, i, hi => by
    have h := fBit_bt p (n := n) (by omega) hi
    show btI (bOr (fBit p n) (if p n then bShl 1 n else 0)) i = _
    rw [btI_or, h]
    by_cases e : i = n
    · subst e
      by_cases q : p i
      · rw [if_pos q, btI_shl (by omega) _ hi, Nat.sub_self, btI_1 (by omega)]
        simp [q]
      · rw [if_neg q, btI_0]
        simp [q]
    · by_cases q : p n
      · rw [if_pos q, btI_shl (by omega) _ hi]
        by_cases l : i < n
        · have e1 : ¬ n ≤ i := by omega
          have e2 : i < n + 1 := by omega
          simp [l, e1, e2]
        · have e1 : n ≤ i := by omega
          have e2 : ¬ i < n + 1 := by omega
          rw [btI_1 (by omega)]
          have e3 : ¬ i - n = 0 := by omega
          simp [l, e2, e3]
      · rw [if_neg q, btI_0]
        have e1 : (i < n + 1) = (i < n) := propext ⟨fun z => by omega, fun z => by omega⟩
        simp [e1]
theorem fBit_congr {p q : Nat → Prop} [DecidablePred p] [DecidablePred q] {n : Nat} (h : ∀ t, t < n → (p t ↔ q t)) : fBit p n = fBit q n := by
  unfold fBit
  refine foldN_congr (fun t ht x => ?_)
  simp only [h t ht]
