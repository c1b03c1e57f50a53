/-! HOW MANY BITS: java.lang.Integer's bitCount, below 2^24. -/
theorem bAnd_nat {n m : Nat} (hn : n < 2147483648) (hm : m < 2147483648) : bAnd n m = ((n &&& m : Nat) : Int) := by
  have hl : n &&& m ≤ n := Nat.and_le_left
  unfold bAnd
  rw [iN_nat, iN_nat]
  have e : nI n &&& nI m = nI (n &&& m) := by
    apply Int32.toBitVec_inj.1
    rw [Int32.toBitVec_and]
    apply BitVec.eq_of_toNat_eq
    rw [BitVec.toNat_and]
    show (BitVec.ofNat 32 n).toNat &&& (BitVec.ofNat 32 m).toNat = (BitVec.ofNat 32 (n &&& m)).toNat
    rw [BitVec.toNat_ofNat, BitVec.toNat_ofNat, BitVec.toNat_ofNat, Nat.mod_eq_of_lt (by omega), Nat.mod_eq_of_lt (by omega), Nat.mod_eq_of_lt (by omega)]
  rw [e, nI_toInt (by omega)]
theorem bt_nI (n i : Nat) : bt (nI n) i = (decide (i < 32) && n.testBit i) := by
  show (BitVec.ofNat 32 n).getLsbD i = _
  rw [BitVec.getLsbD_ofNat]
theorem bUshr_nat {n s : Nat} (hn : n < 2147483648) (hs : s < 32) : bUshr n s = ((n / 2 ^ s : Nat) : Int) := by
  unfold bUshr
  rw [iN_nat, iN_nat]
  have hd : n / 2 ^ s ≤ n := Nat.div_le_self _ _
  have e : ((nI n).toUInt32 >>> ((nI s).toUInt32 &&& Int32.toUInt32 31)).toInt32 = nI (n / 2 ^ s) := by
    refine b_ext (fun i hi => ?_)
    rw [b_ushr s hs, bt_nI, bt_nI, ← Nat.shiftRight_eq_div_pow, Nat.testBit_shiftRight, decide_eq_true hi]
    by_cases c : s + i < 32
    · rw [decide_eq_true c]
    · have : n < 2 ^ (s + i) := Nat.lt_of_lt_of_le (show n < 2 ^ 31 by omega) (Nat.pow_le_pow_right (by decide) (by omega))
      rw [decide_eq_false c, Nat.testBit_lt_two_pow this]
      rfl
  rw [e, nI_toInt (by omega)]
theorem and_dig (v m : Nat) : v &&& m = 256 * (v / 256 &&& m / 256) + (v % 256 &&& m % 256) := by
  have h := Nat.div_add_mod (v &&& m) (2 ^ 8)
  rw [Nat.and_div_two_pow, Nat.and_mod_two_pow] at h
  exact h.symm
theorem and24 {v m : Nat} (hv : v < 16777216) (hm : m < 256) : v &&& (m * 16843009) = (v % 256 &&& m) + 256 * (v / 256 % 256 &&& m) + 65536 * (v / 65536 &&& m) := by
  have h1 := and_dig v (m * 16843009)
  have h2 := and_dig (v / 256) (m * 65793)
  have h3 := and_dig (v / 65536) (m * 257)
  rw [show m * 16843009 / 256 = m * 65793 by omega, show m * 16843009 % 256 = m by omega] at h1
  rw [show m * 65793 / 256 = m * 257 by omega, show m * 65793 % 256 = m by omega, show v / 256 / 256 = v / 65536 by omega] at h2
  rw [show m * 257 / 256 = m by omega, show m * 257 % 256 = m by omega, show v / 65536 / 256 = 0 by omega, Nat.zero_and, show v / 65536 % 256 = v / 65536 by omega] at h3
  generalize v &&& (m * 16843009) = X at *
  generalize v / 256 &&& (m * 65793) = X1 at *
  generalize v / 65536 &&& (m * 257) = X2 at *
  generalize v % 256 &&& m = Y0 at *
  generalize v / 256 % 256 &&& m = Y1 at *
  generalize v / 65536 &&& m = Y2 at *
  omega
def pb (a : Nat) : Nat := a % 2 + a / 2 % 2 + a / 4 % 2 + a / 8 % 2 + a / 16 % 2 + a / 32 % 2 + a / 64 % 2 + a / 128 % 2
def s1b (a : Nat) : Nat := a - (a / 2 &&& 85)
def s2b (a : Nat) : Nat := (a &&& 51) + (a / 4 &&& 51)
theorem by_1 : ∀ a, a < 256 → ((a / 2 + 128) &&& 85 = a / 2 &&& 85) ∧ (a / 2 &&& 85) ≤ a := by decide +kernel
theorem by_2 : ∀ a, a < 256 → ((a / 4 + 64) &&& 51 = a / 4 &&& 51) ∧ ((a / 4 + 128) &&& 51 = a / 4 &&& 51) ∧ ((a / 4 + 192) &&& 51 = a / 4 &&& 51) ∧ (a / 4 &&& 51) ≤ 51 ∧ (a &&& 51) ≤ 51 := by decide +kernel
theorem by_3 : ∀ a, a < 256 → s2b (s1b a) % 16 ≤ 4 ∧ s2b (s1b a) / 16 ≤ 4 ∧ (s2b (s1b a) + s2b (s1b a) / 16) % 16 = pb a := by decide +kernel
theorem pb_8 (a : Nat) : pb a ≤ 8 := by unfold pb; omega
theorem st_1 {a b c : Nat} (ha : a < 256) (hb : b < 256) (hc : c < 256) : (a + 256 * b + 65536 * c) - ((a + 256 * b + 65536 * c) / 2 &&& 1431655765) = s1b a + 256 * s1b b + 65536 * s1b c ∧ ((a + 256 * b + 65536 * c) / 2 &&& 1431655765) ≤ a + 256 * b + 65536 * c := by
  have h := and24 (v := (a + 256 * b + 65536 * c) / 2) (m := 85) (by omega) (by omega)
  obtain ⟨p1, p2⟩ := by_1 a ha
  obtain ⟨q1, q2⟩ := by_1 b hb
  obtain ⟨r1, r2⟩ := by_1 c hc
  have e1 : (a + 256 * b + 65536 * c) / 2 % 256 &&& 85 = a / 2 &&& 85 := by
    rcases (show b % 2 = 0 ∨ b % 2 = 1 by omega) with z | z
    · rw [show (a + 256 * b + 65536 * c) / 2 % 256 = a / 2 by omega]
    · rw [show (a + 256 * b + 65536 * c) / 2 % 256 = a / 2 + 128 by omega, p1]
  have e2 : (a + 256 * b + 65536 * c) / 2 / 256 % 256 &&& 85 = b / 2 &&& 85 := by
    rcases (show c % 2 = 0 ∨ c % 2 = 1 by omega) with z | z
    · rw [show (a + 256 * b + 65536 * c) / 2 / 256 % 256 = b / 2 by omega]
    · rw [show (a + 256 * b + 65536 * c) / 2 / 256 % 256 = b / 2 + 128 by omega, q1]
  rw [e1, e2, show (a + 256 * b + 65536 * c) / 2 / 65536 = c / 2 by omega] at h
  rw [show (1431655765 : Nat) = 85 * 16843009 from rfl, h]
  unfold s1b
  generalize a / 2 &&& 85 = A at *
  generalize b / 2 &&& 85 = B at *
  generalize c / 2 &&& 85 = C at *
  omega
theorem s1b_lt {a : Nat} (ha : a < 256) : s1b a < 256 := by unfold s1b; omega
theorem st_2 {a b c : Nat} (ha : a < 256) (hb : b < 256) (hc : c < 256) : (a + 256 * b + 65536 * c &&& 858993459) + ((a + 256 * b + 65536 * c) / 4 &&& 858993459) = s2b a + 256 * s2b b + 65536 * s2b c := by
  have h := and24 (v := (a + 256 * b + 65536 * c) / 4) (m := 51) (by omega) (by omega)
  have g := and24 (v := a + 256 * b + 65536 * c) (m := 51) (by omega) (by omega)
  obtain ⟨p1, p2, p3, -⟩ := by_2 a ha
  obtain ⟨q1, q2, q3, -⟩ := by_2 b hb
  have e1 : (a + 256 * b + 65536 * c) / 4 % 256 &&& 51 = a / 4 &&& 51 := by
    rcases (show b % 4 = 0 ∨ b % 4 = 1 ∨ b % 4 = 2 ∨ b % 4 = 3 by omega) with z | z | z | z
    · rw [show (a + 256 * b + 65536 * c) / 4 % 256 = a / 4 by omega]
    · rw [show (a + 256 * b + 65536 * c) / 4 % 256 = a / 4 + 64 by omega, p1]
    · rw [show (a + 256 * b + 65536 * c) / 4 % 256 = a / 4 + 128 by omega, p2]
    · rw [show (a + 256 * b + 65536 * c) / 4 % 256 = a / 4 + 192 by omega, p3]
  have e2 : (a + 256 * b + 65536 * c) / 4 / 256 % 256 &&& 51 = b / 4 &&& 51 := by
    rcases (show c % 4 = 0 ∨ c % 4 = 1 ∨ c % 4 = 2 ∨ c % 4 = 3 by omega) with z | z | z | z
    · rw [show (a + 256 * b + 65536 * c) / 4 / 256 % 256 = b / 4 by omega]
    · rw [show (a + 256 * b + 65536 * c) / 4 / 256 % 256 = b / 4 + 64 by omega, q1]
    · rw [show (a + 256 * b + 65536 * c) / 4 / 256 % 256 = b / 4 + 128 by omega, q2]
    · rw [show (a + 256 * b + 65536 * c) / 4 / 256 % 256 = b / 4 + 192 by omega, q3]
  rw [e1, e2, show (a + 256 * b + 65536 * c) / 4 / 65536 = c / 4 by omega] at h
  rw [show (a + 256 * b + 65536 * c) % 256 = a by omega, show (a + 256 * b + 65536 * c) / 256 % 256 = b by omega, show (a + 256 * b + 65536 * c) / 65536 = c by omega] at g
  rw [show (858993459 : Nat) = 51 * 16843009 from rfl, h, g]
  unfold s2b
  omega
theorem st_3 {a b c : Nat} (ha : a % 16 ≤ 4 ∧ a / 16 ≤ 4) (hb : b % 16 ≤ 4 ∧ b / 16 ≤ 4) (hc : c % 16 ≤ 4 ∧ c / 16 ≤ 4) : ((a + 256 * b + 65536 * c) + (a + 256 * b + 65536 * c) / 16 &&& 252645135) = (a + a / 16) % 16 + 256 * ((b + b / 16) % 16) + 65536 * ((c + c / 16) % 16) := by
  obtain ⟨a0, A, a1, a2, rfl⟩ : ∃ a0 A, a0 ≤ 4 ∧ A ≤ 4 ∧ a = a0 + 16 * A := ⟨a % 16, a / 16, ha.1, ha.2, by omega⟩
  obtain ⟨b0, B, b1, b2, rfl⟩ : ∃ b0 B, b0 ≤ 4 ∧ B ≤ 4 ∧ b = b0 + 16 * B := ⟨b % 16, b / 16, hb.1, hb.2, by omega⟩
  obtain ⟨c0, C, c1, c2, rfl⟩ : ∃ c0 C, c0 ≤ 4 ∧ C ≤ 4 ∧ c = c0 + 16 * C := ⟨c % 16, c / 16, hc.1, hc.2, by omega⟩
  clear ha hb hc
  rw [show (a0 + 16 * A + (a0 + 16 * A) / 16) % 16 = a0 + A by omega, show (b0 + 16 * B + (b0 + 16 * B) / 16) % 16 = b0 + B by omega, show (c0 + 16 * C + (c0 + 16 * C) / 16) % 16 = c0 + C by omega]
  rw [show (a0 + 16 * A + 256 * (b0 + 16 * B) + 65536 * (c0 + 16 * C)) / 16 = A + 16 * b0 + 256 * B + 4096 * c0 + 65536 * C by omega]
  obtain ⟨W, eW⟩ : ∃ W, W = a0 + 16 * A + 256 * (b0 + 16 * B) + 65536 * (c0 + 16 * C) + (A + 16 * b0 + 256 * B + 4096 * c0 + 65536 * C) := ⟨_, rfl⟩
  rw [← eW]
  have h := and24 (v := W) (m := 15) (by omega) (by omega)
  have m15 : ∀ z, z &&& 15 = z % 16 := fun z => Nat.and_two_pow_sub_one_eq_mod z 4
  have e1 : W % 256 = a0 + 17 * A + 16 * b0 := by omega
  have e2 : W / 256 % 256 = b0 + 17 * B + 16 * c0 := by omega
  have e3 : W / 65536 = c0 + 17 * C := by omega
  rw [m15, m15, m15, e1, e2, e3] at h
  rw [show (252645135 : Nat) = 15 * 16843009 from rfl, h]
  clear h e1 e2 e3 eW
  rw [show (a0 + 17 * A + 16 * b0) % 16 = a0 + A by omega, show (b0 + 17 * B + 16 * c0) % 16 = b0 + B by omega, show (c0 + 17 * C) % 16 = c0 + C by omega]
theorem st_4 {p q r u g : Nat} (hp : p ≤ 8) (hq : q ≤ 8) (hr : r ≤ 8) (hu : u = p + 256 * q + 65536 * r) (hg : g = u + u / 256) : u < 16777216 ∧ g < 16777216 ∧ (g + g / 65536) % 64 = p + q + r := by
  have e1 : u / 256 = q + 256 * r := by omega
  rw [e1, hu] at hg
  have e2 : g / 65536 = r := by omega
  rw [e2]
  refine ⟨by omega, by omega, by omega⟩
def pop24 (x : Nat) : Nat := pb (x % 256) + pb (x / 256 % 256) + pb (x / 65536)
set_option maxHeartbeats 600000 in
set_option maxRecDepth 20000 in
theorem Integer_bitCount_ok {x : Nat} {M : Mm} (hx : x < 16777216) : CallI m_Integer_bitCount [.inl (x : Int)] M (fun y M' => y = pop24 x ∧ M' = M) := by
  obtain ⟨a, b, c, ha, hb, hc, ex⟩ : ∃ a b c : Nat, a < 256 ∧ b < 256 ∧ c < 256 ∧ x = a + 256 * b + 65536 * c := ⟨x % 256, x / 256 % 256, x / 65536, by omega, by omega, by omega, by omega⟩
  have ep : pop24 x = pb a + pb b + pb c := by
    unfold pop24
    rw [show x % 256 = a by omega, show x / 256 % 256 = b by omega, show x / 65536 = c by omega]
  obtain ⟨t1, t2⟩ := st_1 ha hb hc
  rw [← ex] at t1 t2
  have U := fun {n s : Nat} (hn : n < 2147483648) (hs : s < 32) => bUshr_nat hn hs
  have E1 : (x : Int) - bAnd (bUshr (x : Int) 1) 1431655765 = ((s1b a + 256 * s1b b + 65536 * s1b c : Nat) : Int) := by
    rw [show bUshr (x : Int) 1 = ((x / 2 ^ 1 : Nat) : Int) from U (s := 1) (by omega) (by omega)]
    rw [show bAnd ((x / 2 ^ 1 : Nat) : Int) 1431655765 = ((x / 2 ^ 1 &&& 1431655765 : Nat) : Int) from bAnd_nat (m := 1431655765) (by omega) (by omega)]
    rw [show x / 2 ^ 1 = x / 2 from rfl]
    omega
  have l1 := s1b_lt ha
  have l2 := s1b_lt hb
  have l3 := s1b_lt hc
  obtain ⟨pa, ga⟩ : ∃ z, z = s1b a := ⟨_, rfl⟩
  obtain ⟨pb', gb⟩ : ∃ z, z = s1b b := ⟨_, rfl⟩
  obtain ⟨pc, gc⟩ : ∃ z, z = s1b c := ⟨_, rfl⟩
  rw [← ga, ← gb, ← gc] at E1
  rw [← ga] at l1
  rw [← gb] at l2
  rw [← gc] at l3
  have t3 := st_2 l1 l2 l3
  obtain ⟨y, ey⟩ : ∃ y, y = pa + 256 * pb' + 65536 * pc := ⟨_, rfl⟩
  rw [← ey] at E1 t3
  have E2 : bAnd (y : Int) 858993459 + bAnd (bUshr (y : Int) 2) 858993459 = ((s2b pa + 256 * s2b pb' + 65536 * s2b pc : Nat) : Int) := by
    rw [show bUshr (y : Int) 2 = ((y / 2 ^ 2 : Nat) : Int) from U (s := 2) (by omega) (by omega)]
    rw [show bAnd ((y / 2 ^ 2 : Nat) : Int) 858993459 = ((y / 2 ^ 2 &&& 858993459 : Nat) : Int) from bAnd_nat (m := 858993459) (by omega) (by omega)]
    rw [show bAnd (y : Int) 858993459 = ((y &&& 858993459 : Nat) : Int) from bAnd_nat (m := 858993459) (by omega) (by omega)]
    rw [show y / 2 ^ 2 = y / 4 from rfl]
    omega
  have a3 := by_3 a ha
  have b3 := by_3 b hb
  have c3 := by_3 c hc
  rw [← ga] at a3
  rw [← gb] at b3
  rw [← gc] at c3
  obtain ⟨a1, a2, a3⟩ := a3
  obtain ⟨b1, b2, b3⟩ := b3
  obtain ⟨c1, c2, c3⟩ := c3
  have t4 := st_3 ⟨a1, a2⟩ ⟨b1, b2⟩ ⟨c1, c2⟩
  rw [a3, b3, c3] at t4
  obtain ⟨w, ew⟩ : ∃ w, w = s2b pa + 256 * s2b pb' + 65536 * s2b pc := ⟨_, rfl⟩
  rw [← ew] at E2 t4
  have lw : w < 16777216 := by omega
  have E3 : bAnd ((w : Int) + bUshr (w : Int) 4) 252645135 = ((pb a + 256 * pb b + 65536 * pb c : Nat) : Int) := by
    rw [show bUshr (w : Int) 4 = ((w / 2 ^ 4 : Nat) : Int) from U (s := 4) (by omega) (by omega)]
    rw [show (w : Int) + ((w / 2 ^ 4 : Nat) : Int) = ((w + w / 16 : Nat) : Int) by omega]
    rw [show bAnd ((w + w / 16 : Nat) : Int) 252645135 = ((w + w / 16 &&& 252645135 : Nat) : Int) from bAnd_nat (m := 252645135) (by omega) (by omega)]
    rw [t4]
  have q1 := pb_8 a
  have q2 := pb_8 b
  have q3 := pb_8 c
  obtain ⟨u, eu⟩ : ∃ u, u = pb a + 256 * pb b + 65536 * pb c := ⟨_, rfl⟩
  rw [← eu] at E3
  have E4 : (u : Int) + bUshr (u : Int) 8 = ((u + u / 256 : Nat) : Int) := by
    rw [show bUshr (u : Int) 8 = ((u / 2 ^ 8 : Nat) : Int) from U (s := 8) (by omega) (by omega)]
    omega
  obtain ⟨g, eg⟩ : ∃ g, g = u + u / 256 := ⟨_, rfl⟩
  rw [← eg] at E4
  have E5 : (g : Int) + bUshr (g : Int) 16 = ((g + g / 65536 : Nat) : Int) := by
    rw [show bUshr (g : Int) 16 = ((g / 2 ^ 16 : Nat) : Int) from U (s := 16) (by omega) (by omega)]
    omega
  obtain ⟨w1, w2, w3⟩ := st_4 q1 q2 q3 eu eg
  have E6 : bAnd ((g + g / 65536 : Nat) : Int) 63 = (pop24 x : Int) := by
    rw [show bAnd ((g + g / 65536 : Nat) : Int) 63 = ((g + g / 65536 &&& 63 : Nat) : Int) from bAnd_nat (m := 63) (by omega) (by omega)]
    rw [show g + g / 65536 &&& 63 = (g + g / 65536) % 64 from Nat.and_two_pow_sub_one_eq_mod _ 6, ep, w3]
  refine callP_of (by decide) (by decide) (Nat.le_of_ble_eq_true rfl) (wpm_of (cuts := []) (by decide) 60 _ _ _ _ ?_)
  rw [show lM m_Integer_bitCount = 1 from rfl]
  simp (maxSteps := 2000000) only [↓reduceIte, wp_eq, wpd_eq, kont_eq, STP1, STP2, STP3, STP4, STP5, konM_eq, AMK, CZ, Option.map, List.getElem?_cons_zero, List.getElem?_cons_succ, List.mem_cons, List.not_mem_nil, if_false, if_true, Nat.reduceAdd, Nat.reduceLT, Nat.reduceLeDiff, Nat.reduceEqDiff, true_and, and_true, List.length_nil, List.length_cons, or_true, true_or, or_false, false_or, Option.some.injEq, Sum.inl.injEq, Sum.inr.injEq, exists_eq_left', exists_eq_left, Int.reduceLE, Int.reduceLT, Int.reduceNeg, Int.reduceAdd, Int.reduceMul, Int.reduceSub, Int.reduceToNat, inR, Nat.zero_ne_one, false_and, Nat.succ_ne_zero, reduceCtorEq, false_implies, true_implies, not_false_eq_true, not_true_eq_false, Int.reduceEq, KRE, C_Integer_bitCount, FM, E1, E2, E3, E4, E5, E6]
  repeat (first | refine ⟨by omega, ?_⟩ | refine ⟨fun _ _ => okt_nn (by omega), ?_⟩)
  try (first | (show _ ≤ _; omega) | (show _ < _; omega))
theorem sumN_split (f : Nat → Int) (a : Nat) : ∀ b, sumN f (a + b) = sumN f a + sumN (fun i => f (a + i)) b
  | 0 => by rw [Nat.add_zero]; show _ = _ + (0 : Int); omega
  | b + 1 => by
    show sumN f (a + b) + f (a + b) = _ + (sumN (fun i => f (a + i)) b + f (a + b))
    rw [sumN_split f a b]
    omega
theorem pb_sum (a : Nat) : (pb a : Int) = sumN (fun i => if a.testBit i = true then 1 else 0) 8 := by
  have e : (fun i => if a.testBit i = true then (1 : Int) else 0) = fun i => ((a / 2 ^ i % 2 : Nat) : Int) := funext fun i => by
    rw [Nat.testBit_eq_decide_div_mod_eq]
    rcases (show a / 2 ^ i % 2 = 0 ∨ a / 2 ^ i % 2 = 1 by omega) with z | z
    · rw [z]; simp
    · rw [z]; simp
  rw [e]
  show (pb a : Int) = 0 + ((a / 2 ^ 0 % 2 : Nat) : Int) + ((a / 2 ^ 1 % 2 : Nat) : Int) + ((a / 2 ^ 2 % 2 : Nat) : Int) + ((a / 2 ^ 3 % 2 : Nat) : Int) + ((a / 2 ^ 4 % 2 : Nat) : Int) + ((a / 2 ^ 5 % 2 : Nat) : Int) + ((a / 2 ^ 6 % 2 : Nat) : Int) + ((a / 2 ^ 7 % 2 : Nat) : Int)
  unfold pb
  rw [show a / 2 ^ 0 = a from Nat.div_one a, show a / 2 ^ 1 = a / 2 from rfl, show a / 2 ^ 2 = a / 4 from rfl, show a / 2 ^ 3 = a / 8 from rfl, show a / 2 ^ 4 = a / 16 from rfl, show a / 2 ^ 5 = a / 32 from rfl, show a / 2 ^ 6 = a / 64 from rfl, show a / 2 ^ 7 = a / 128 from rfl]
  generalize a % 2 = y0
  generalize a / 2 % 2 = y1
  generalize a / 4 % 2 = y2
  generalize a / 8 % 2 = y3
  generalize a / 16 % 2 = y4
  generalize a / 32 % 2 = y5
  generalize a / 64 % 2 = y6
  generalize a / 128 % 2 = y7
  omega
theorem pop24_sum {x : Nat} (hx : x < 16777216) : (pop24 x : Int) = sumN (fun i => if x.testBit i = true then 1 else 0) 24 := by
  have s1 := sumN_split (fun i => if x.testBit i = true then (1 : Int) else 0) 16 8
  have s2 := sumN_split (fun i => if x.testBit i = true then (1 : Int) else 0) 8 8
  have p0 := pb_sum (x % 256)
  have p1 := pb_sum (x / 256 % 256)
  have p2 := pb_sum (x / 65536)
  have e0 : sumN (fun i => if (x % 256).testBit i = true then (1 : Int) else 0) 8 = sumN (fun i => if x.testBit i = true then (1 : Int) else 0) 8 := sumN_congr (fun i hi => by
    rw [show x % 256 = x % 2 ^ 8 from rfl, Nat.testBit_mod_two_pow, decide_eq_true hi, Bool.true_and])
  have e1 : sumN (fun i => if (x / 256 % 256).testBit i = true then (1 : Int) else 0) 8 = sumN (fun i => if x.testBit (8 + i) = true then (1 : Int) else 0) 8 := sumN_congr (fun i hi => by
    rw [show x / 256 % 256 = x / 2 ^ 8 % 2 ^ 8 from rfl, Nat.testBit_mod_two_pow, decide_eq_true hi, Bool.true_and, ← Nat.shiftRight_eq_div_pow, Nat.testBit_shiftRight])
  have e2 : sumN (fun i => if (x / 65536).testBit i = true then (1 : Int) else 0) 8 = sumN (fun i => if x.testBit (16 + i) = true then (1 : Int) else 0) 8 := sumN_congr (fun i hi => by
    rw [show x / 65536 = x / 2 ^ 16 from rfl, ← Nat.shiftRight_eq_div_pow, Nat.testBit_shiftRight])
  rw [e0] at p0
  rw [e1] at p1
  rw [e2] at p2
  rw [show (16 + 8 : Nat) = 24 from rfl] at s1
  rw [show (8 + 8 : Nat) = 16 from rfl] at s2
  rw [s1, s2, ← p0, ← p1, ← p2]
  unfold pop24
  omega
theorem db_nat {D : Int} (h0 : inR D) (h : ∀ i : Nat, 24 ≤ i → btI D i = false) : ∃ x : Nat, D = x ∧ x < 16777216 ∧ ∀ i, btI D i = x.testBit i := by
  have hb : ∀ i, btI D i = (iN D).toBitVec.toNat.testBit i := fun i => rfl
  have hx : (iN D).toBitVec.toNat < 2 ^ 24 := Nat.lt_pow_two_of_testBit _ (fun i hi => by rw [← hb]; exact h i hi)
  refine ⟨(iN D).toBitVec.toNat, ?_, by omega, hb⟩
  rw [← iN_toInt h0]
  have e := BitVec.toInt_eq_toNat_of_lt (x := (iN D).toBitVec) (by omega)
  show (iN D).toBitVec.toInt = ((iN (iN D).toInt).toBitVec.toNat : Int)
  rw [iN_ti]
  exact e
theorem sumN_cut {f : Nat → Int} {c : Nat} : ∀ {m : Nat}, c ≤ m → (∀ i, c ≤ i → i < m → f i = 0) → sumN f m = sumN f c
  | 0, h, _ => by rw [show c = 0 by omega]
  | m + 1, h, h2 => by
    by_cases e : c = m + 1
    · rw [e]
    · rw [sumN, sumN_cut (m := m) (by omega) (fun i h1 h3 => h2 i h1 (by omega)), h2 m (by omega) (by omega)]
      omega
section TIM5
variable {k n : Nat} {T : Nat → Rw} {Y : Nat → Int} {lap bnd mrg : Int} {M M1 M2 M3 : Mm}
set_option maxHeartbeats 600000 in
set_option maxRecDepth 20000 in
theorem Mtimber_5 {t : Nat} (h : mdl M n T Y lap bnd mrg) (ht : t < n) : CallI m_Model_timber [.inr 154, .inl (t : Int), .inl 5] M (fun x M' => x = sumN (fun i => if btI (M 158 (30 * t + 5)) i = true then 1 else 0) 24 ∧ rsM M 0 M') := by
  have h0 : mdl (mset M 154 1 0) n T Y lap bnd mrg := mdl_fr h scr_0 scr_mdl
  obtain ⟨g1, -, -, g4, -, ⟨-, -, -, w4, w5⟩, -⟩ := mdl_t h ht
  obtain ⟨x, ex, hx, hb⟩ := db_nat w4 (fun i hi => w5 i (by have := g4.1.2; omega))
  have e5 : mset M 154 1 0 158 (30 * t + 5) = x := by rw [← ex]; simp [mset]
  have P := pop24_sum hx
  have F : CallI m_Integer_bitCount [.inl (mset M 154 1 0 158 (30 * t + 5))] (mset M 154 1 0) (fun y M' => y = pop24 x ∧ M' = mset M 154 1 0) := by
    rw [e5]
    exact Integer_bitCount_ok hx
  have n8 := g1.1
  refine callP_of (by decide) (by decide) (Nat.le_of_ble_eq_true rfl) (wpm_of (cuts := []) (by decide) 60 _ _ _ _ ?_)
  rw [show lM m_Model_timber = 3 from rfl]
  simp (maxSteps := 2000000) only [↓reduceIte, wp_eq, wpd_eq, kont_eq, STP1, STP2, STP3, STP4, STP5, konM_eq, AMK, CZ, Option.map, List.getElem?_cons_zero, List.getElem?_cons_succ, List.mem_cons, List.not_mem_nil, if_false, if_true, Nat.reduceAdd, Nat.reduceLT, Nat.reduceLeDiff, Nat.reduceEqDiff, true_and, and_true, List.length_nil, List.length_cons, or_true, true_or, or_false, false_or, Option.some.injEq, Sum.inl.injEq, Sum.inr.injEq, exists_eq_left', exists_eq_left, Int.reduceLE, Int.reduceLT, Int.reduceNeg, Int.reduceAdd, Int.reduceMul, Int.reduceSub, Int.reduceToNat, inR, Nat.zero_ne_one, false_and, Nat.succ_ne_zero, reduceCtorEq, false_implies, true_implies, not_false_eq_true, not_true_eq_false, Int.reduceEq, KRE, C_Model_timber, FM]
  refine (isTimber_y h0 ht).eq ?_
  try simp (maxSteps := 2000000) only [↓reduceIte, wp_eq, wpd_eq, kont_eq, STP1, STP2, STP3, STP4, STP5, konM_eq, AMK, CZ, Option.map, List.getElem?_cons_zero, List.getElem?_cons_succ, List.mem_cons, List.not_mem_nil, if_false, if_true, Nat.reduceAdd, Nat.reduceLT, Nat.reduceLeDiff, Nat.reduceEqDiff, true_and, and_true, List.length_nil, List.length_cons, or_true, true_or, or_false, false_or, Option.some.injEq, Sum.inl.injEq, Sum.inr.injEq, exists_eq_left', exists_eq_left, Int.reduceLE, Int.reduceLT, Int.reduceNeg, Int.reduceAdd, Int.reduceMul, Int.reduceSub, Int.reduceToNat, inR, Nat.zero_ne_one, false_and, Nat.succ_ne_zero, reduceCtorEq, false_implies, true_implies, not_false_eq_true, not_true_eq_false, Int.reduceEq, KRE, C_Model_timber, FM]
  repeat (first | refine ⟨by omega, ?_⟩ | refine ⟨fun _ _ => okt_nn (by omega), ?_⟩)
  try (first | (show _ ≤ _; omega) | (show _ < _; omega))
  refine (Model_of_ok (t := (t : Int)) (k := 5) (by omega)).eq ?_
  rw [show (30 * (t : Int) + 5).toNat = 30 * t + 5 by omega]
  try simp (maxSteps := 2000000) only [↓reduceIte, wp_eq, wpd_eq, kont_eq, STP1, STP2, STP3, STP4, STP5, konM_eq, AMK, CZ, Option.map, List.getElem?_cons_zero, List.getElem?_cons_succ, List.mem_cons, List.not_mem_nil, if_false, if_true, Nat.reduceAdd, Nat.reduceLT, Nat.reduceLeDiff, Nat.reduceEqDiff, true_and, and_true, List.length_nil, List.length_cons, or_true, true_or, or_false, false_or, Option.some.injEq, Sum.inl.injEq, Sum.inr.injEq, exists_eq_left', exists_eq_left, Int.reduceLE, Int.reduceLT, Int.reduceNeg, Int.reduceAdd, Int.reduceMul, Int.reduceSub, Int.reduceToNat, inR, Nat.zero_ne_one, false_and, Nat.succ_ne_zero, reduceCtorEq, false_implies, true_implies, not_false_eq_true, not_true_eq_false, Int.reduceEq, KRE, C_Model_timber, FM]
  repeat (first | refine ⟨by omega, ?_⟩ | refine ⟨fun _ _ => okt_nn (by omega), ?_⟩)
  try (first | (show _ ≤ _; omega) | (show _ < _; omega))
  refine F.eq ⟨?_, rsM_0⟩
  rw [P]
  exact sumN_congr (fun i _ => by rw [hb])
theorem sim_timber_5 {t : Nat} (hc : cls M n T Y lap bnd mrg) (hm : mdl M n T Y lap bnd mrg) (hx : relX M k n lap bnd mrg) (ht : t < n) : Sim m_RingDater_timber m_Model_timber [.inl (t : Int), .inl 5] k M := by
  obtain ⟨g1, -, -, g4, -, ⟨-, -, -, w4, w5⟩, -⟩ := mdl_t hm ht
  have o1 := g4.1
  have e2 : M (82 + 3 * t) 2 = (T t).2.1 := by
    obtain ⟨-, -, -, e, -⟩ := cls_tm hc ht
    rw [← e]; rfl
  have es : sumI (fun r => M (82 + 3 * t + 2) r) (M (82 + 3 * t) 2) = sumN (fun i => if btI (M 158 (30 * t + 5)) i = true then 1 else 0) 24 := by
    unfold sumI
    rw [e2, sumN_cut (f := fun i => if btI (M 158 (30 * t + 5)) i = true then (1 : Int) else 0) (c := (T t).2.1.toNat) (m := 24) (by omega) (fun i h1 h2 => by
      rw [w5 i (by omega)]; rfl)]
    exact sumN_congr (fun i hi => dbit hc hm ht (by omega))
  have r := sumN_in (f := fun i => if btI (M 158 (30 * t + 5)) i = true then (1 : Int) else 0) (a := 0) (b := 1) (n := 24) (fun j _ => by split <;> omega)
  refine sim_q (v := sumN (fun i => if btI (M 158 (30 * t + 5)) i = true then 1 else 0) 24) hm hx ⟨by omega, by omega⟩ ?_ (fun M1 f hm1 => ?_)
  · rw [← es]; exact RingDater_timber_5 hc ht
  · have G := Mtimber_5 hm1 ht
    rw [show M1 158 = M 158 from funext (fun j => f _ _ (by unfold scrF; omega))] at G
    exact G
theorem sim_timber {t w : Int} (hR : Rel k M) (ht : inR t) (hw : inR w) : Sim m_RingDater_timber m_Model_timber [.inl t, .inl w] k M ∨ SimX m_RingDater_timber m_Model_timber [.inl t, .inl w] k 0 1 M := by
  obtain ⟨n, T, Y, lap, bnd, mrg, hc, hm, hx⟩ := hR
  by_cases c : t < 0 ∨ n ≤ t ∨ w < 0 ∨ 12 < w
  · right
    exact sim_x0 hc hm hx (RingDater_timber_x hc ht hw c) (Mtimber_x hm ht hw c)
  · left
    obtain ⟨u, rfl⟩ : ∃ u : Nat, t = u := ⟨t.toNat, by omega⟩
    have hu : u < n := by omega
    rcases (show w = 0 ∨ w = 1 ∨ w = 2 ∨ w = 3 ∨ w = 4 ∨ w = 5 ∨ w = 6 ∨ w = 7 ∨ w = 8 ∨ w = 9 ∨ w = 10 ∨ w = 11 ∨ w = 12 by omega) with rfl | rfl | rfl | rfl | rfl | rfl | rfl | rfl | rfl | rfl | rfl | rfl | rfl
    · exact sim_timber_0 hc hm hx hu
    · exact sim_timber_1 hc hm hx hu
    · exact sim_timber_2 hc hm hx hu
    · exact sim_timber_3 hc hm hx hu
    · exact sim_timber_4 hc hm hx hu
    · exact sim_timber_5 hc hm hx hu
    · exact sim_timber_6 hc hm hx hu
    · exact sim_timber_7 hc hm hx hu
    · exact sim_timber_8 hc hm hx hu
    · exact sim_timber_9 hc hm hx hu
    · exact sim_timber_10 hc hm hx hu
    · exact sim_timber_11 hc hm hx hu
    · exact sim_timber_12 hc hm hx hu
end TIM5
