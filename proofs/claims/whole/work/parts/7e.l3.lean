/-! THE LAW, 3: pieces of its body. -/
section L5
variable {M : Mm}
set_option maxHeartbeats 600000 in
set_option maxRecDepth 20000 in
theorem Mthrown_ok : CallI m_Model_thrown [.inr 154] M (fun x M' => x = M 154 1 ∧ M' = M) := by
  refine callP_of (by decide) (by decide) (Nat.le_of_ble_eq_true rfl) (wpm_of (cuts := []) (by decide) 50 _ _ _ _ ?_)
  rw [show lM m_Model_thrown = 1 from rfl]
  simp (maxSteps := 2000000) only [↓reduceIte, wp_eq, wpd_eq, kont_eq, STP1, STP2, STP3, STP4, STP5, konM_eq, AMK, CZ, Option.map, List.getElem?_cons_zero, List.getElem?_cons_succ, List.mem_cons, List.not_mem_nil, if_false, if_true, Nat.reduceAdd, Nat.reduceLT, Nat.reduceLeDiff, Nat.reduceEqDiff, true_and, and_true, List.length_nil, List.length_cons, or_true, true_or, or_false, false_or, Option.some.injEq, Sum.inl.injEq, Sum.inr.injEq, exists_eq_left', exists_eq_left, Int.reduceLE, Int.reduceLT, Int.reduceNeg, Int.reduceAdd, Int.reduceMul, Int.reduceSub, Int.reduceToNat, inR, Nat.zero_ne_one, false_and, Nat.succ_ne_zero, reduceCtorEq, false_implies, true_implies, not_false_eq_true, not_true_eq_false, Int.reduceEq, KRE, C_Model_thrown, FM]
end L5
theorem simW1 {mA mB k : Nat} {as : List AV} {M : Mm} (h : Sim mA mB as k M ∨ SimX mA mB as k 0 1 M) : SimW [(0, 1)] mA mB as k M := h.elim .inl (fun h => .inr ⟨(0, 1), by simp, h⟩)
theorem simW2 {mA mB k : Nat} {as : List AV} {M : Mm} (h : Sim mA mB as k M ∨ SimX mA mB as k 0 1 M ∨ SimX mA mB as k 1 2 M) : SimW [(0, 1), (1, 2)] mA mB as k M := h.elim .inl (fun h => h.elim (fun h => .inr ⟨(0, 1), by simp, h⟩) (fun h => .inr ⟨(1, 2), by simp, h⟩))
section L6
variable {p : Program} {l : Launch} {e : Env} {s : State} {m : MethodId} {args : Array Value} {below : List Frame} {meth : Method} {c : Code} {Q : State → Prop}
variable {D : va_G} {tA : Nat → ClassId} {n0 o bs b L i : Nat} {xs : Nat → Int32} {adr adV : Nat → Nat} {M : Mm} {f : Nat → Int64} {H : Heap} {locs : List Loc} {cells slots pc : Nat} {ls : Array Slot} {rest st0 : List Value}
/-- what the law's walk stands on -/
def LCx (p : Program) (s : State) (m : MethodId) (args : Array Value) (c : Code) (D : va_G) (tA : Nat → ClassId) (n0 o bs : Nat) (adr adV : Nat → Nat) (b L : Nat) (xs : Nat → Int32) : Prop :=
  LX p s m args c 7 code ∧ LM n0 o bs adr ∧ LSt D tA n0 adr adV s s.heap ∧ va_X b L xs s s.heap ∧ (b < s.heap.size ∧ n0 = s.heap.size) ∧ L ≤ 3072
abbrev lvB (b o : Nat) (adr : Nat → Nat) (i : Nat) : List (Nat × Value) := [(0, .ref b), (1, .ref (adr 0)), (2, .ref (adr 154)), (3, .ref o), (4, .int (iN (i : Int)))]
/-- script[i + j] -/
theorem l_arg {j : Nat} (C : LCx p s m args c D tA n0 o bs adr adV b L xs) (hS : LV n0 s H locs) (hij : i + j < L) (h0 : ls[0]? = some (.val (.ref b))) (h4 : ls[4]? = some (.val (.int (iN (i : Int))))) (dA : argD pc j)
    (kk : W p l e room_1 s m args below meth c H locs cells slots Q (F0 m (pc + 6) ls (.int (iN (xs (i + j)).toInt) :: rest))) : W p l e room_1 s m args below meth c H locs cells slots Q (F0 m pc ls rest) := by
  obtain ⟨X, hL, hs, hX, ⟨hb, hn0⟩, h3⟩ := C
  obtain ⟨d0, d1, d2, d3, d4⟩ := dA
  refine lv_aload_n (i := 0) (x := b) X.1 X.2.1 d0 rfl h0 ?_
  refine lv_iload (x := iN (i : Int)) X.1 X.2.1 d1 h4 ?_
  refine lv_iconst (v := iN (j : Int)) X.1 X.2.1 d2 rfl ?_
  refine lv_iadd X.1 X.2.1 d3 ?_
  rw [iN_add]
  have e1 : (iN ((i : Int) + (j : Int))).toNatClampNeg = i + j := by rw [iN_clamp (by omega) (by omega)]; omega
  refine va_sld (i := iN ((i : Int) + (j : Int))) X.1 X.2.1 hX hb (by show ¬ n0 ≤ b; omega) hS (iN_in (by omega) (by omega) (by omega)) d4 ?_
  rw [e1]
  rw [iN_ti] at kk
  exact kk
def LK (p : Program) (l : Launch) (e : Env) (s : State) (m : MethodId) (args : Array Value) (below : List Frame) (meth : Method) (c : Code) (Q : State → Prop) (D : va_G) (tA : Nat → ClassId) (n0 o bs : Nat) (adr : Nat → Nat) (b i k cells slots : Nat) : Prop :=
  ∀ (M' : Mm) (f' : Nat → Int64) (H' : Heap) (locs' : List Loc) (ls' : Array Slot), Rel (k + 1) M' → LH D tA n0 o bs adr M' f' H' → LV n0 s H' locs' → lv_has ls' 7 (lvB b o adr i) → W p l e room_1 s m args below meth c H' locs' (cells + 100) (slots + 12000) Q (F0 m 1655 ls' [])
/-- behind both calls: the codes are the same; where nothing was thrown the numbers too -/
theorem l_tailW {T : Nat} {off r x y : Int} (C : LCx p s m args c D tA n0 o bs adr adV b L xs) (hw : LWd 77 m_Model_thrown) (hl : lv_has ls 7 ((6, .int (iN y)) :: (5, .int (iN r)) :: lvB b o adr i)) (hr : inR r) (hf : r = 0 → f 0 = (iN x).toInt64) (hxy : r = 0 → x = y) (ht : M 154 1 = r) (hh : LH D tA n0 o bs adr M f H) (hS : LV n0 s H locs) (dT : tailD T off) (hc : cells ≤ 601024 ∧ slots ≤ 7293034)
    (kk : ∀ H1 locs1, LH D tA n0 o bs adr M f H1 → LV n0 s H1 locs1 → W p l e room_1 s m args below meth c H1 locs1 cells slots Q (F0 m 1655 ls [])) : W p l e room_1 s m args below meth c H locs cells slots Q (F0 m T ls []) := by
  obtain ⟨X, hL, hs, hX, hb, h3⟩ := C
  obtain ⟨⟨d0, d1, d4, d6⟩, ⟨d11, d13, d16, d17⟩, ⟨d18, d19, d21, d22⟩, d23, d28, hg⟩ := dT
  refine lv_aload_n (i := 2) (x := adr 154) X.1 X.2.1 d0 rfl (lv_at hl 4 rfl) ?_
  refine l_call (q := m_Model_thrown) (b := 154) (As := []) (rest := []) X hw hL hs hh hS hl.1 (show (12 : Nat) = 12 from rfl) rfl ⟨by decide +kernel, by decide +kernel⟩ hc (by simp) rfl d1 Mthrown_ok (fun v M1 H1 locs1 hv hh1 hS1 => ?_)
  obtain ⟨z, rfl, rfl, rfl⟩ := hv
  show W p l e room_1 s m args below meth c H1 locs1 cells slots Q (F0 m (T + 4) ls [.int (iN (M1 154 1))])
  rw [ht]
  refine lv_iload (x := iN r) X.1 X.2.1 d4 (lv_at hl 1 rfl) ?_
  refine lv_icmp_eq (tgt := T + 11) X.1 X.2.1 d6 (by omega) (fun _ => ?_) (fun z => absurd rfl z)
  refine lv_iload (x := iN r) X.1 X.2.1 d11 (lv_at hl 1 rfl) ?_
  refine lv_if_ne (tgt := T + 28) X.1 X.2.1 d13 (by omega) (fun _ => ?_) (fun z => ?_)
  · exact lv_goto X.1 X.2.1 d28 hg (kk H1 locs1 hh1 hS1)
  · have r0 : r = 0 := (iN_eq hr inR_0).mp z
    refine lv_aload_n (i := 3) (x := o) X.1 X.2.1 d16 rfl (lv_at hl 5 rfl) ?_
    refine lv_iconst (v := 0) X.1 X.2.1 d17 (by decide) ?_
    refine l_in X hs hh1 d18 ?_
    refine lv_iload (x := iN y) X.1 X.2.1 d19 (lv_at hl 0 rfl) ?_
    refine lv_i2l X.1 X.2.1 d21 rfl ?_
    refine W.lcmp X.1 X.2.1 d22 ?_
    rw [hf r0, hxy r0]
    refine lv_if_eq (tgt := T + 28) X.1 X.2.1 d23 (by omega) (fun _ => ?_) (fun z => absurd (by simp [lg_cmp]) z)
    exact lv_goto X.1 X.2.1 d28 hg (kk H1 locs1 hh1 hS1)
/-- the words of a call of a wrapper -/
def LWw (idx : Nat) (y : MethodName) (cc : ByteArray) (nL : Nat) (hh : List (Nat × Nat × Nat × Nat)) (n : Nat) : Prop := (Cond.methodLink lwN idx y ∈ gW ∧ Cond.static y ∈ gW) ∧ (Cond.initialized y.cls ∈ gW ∧ Cond.codeWith y cc nL (some .int) hh ∈ gW) ∧ (y.cls ≠ "java/lang/invoke/MethodHandle" ∧ y.cls ≠ "java/lang/invoke/VarHandle" ∧ (parseMethodDescriptor y.desc).map (fun d => d.parameters.length) = some n) ∧ nL ≤ 10
theorem l_wcall {idx nL2 n : Nat} {y : MethodName} {cc2 : ByteArray} {hh2 : List (Nat × Nat × Nat × Nat)} {as : List AV} {Qw : Int → Int → Mm → Prop} (C : LCx p s m args c D tA n0 o bs adr adV b L xs) (hC : WrC y cc2 nL2 hh2 as M Qw) (hw : LWw idx y cc2 nL2 hh2 n) (hn : as.length + 2 = n) (hfl : l.stackTraces = false) (hh : LH D tA n0 o bs adr M f H) (hS : LV n0 s H locs) (hls : ls.size = 7) (hc : cells + 100 ≤ 601024 ∧ slots + 12000 ≤ 7293034)
    (hst : st0 = .ref o :: ((as.map (cvA adr)).reverse ++ [.ref (adr 0)])) (hdg : decode code pc = .ok (.invokestatic idx, 3))
    (kk : ∀ r x M' f' H1 locs1, Qw r x M' → (r = 0 → f' 0 = (iN x).toInt64) → LH D tA n0 o bs adr M' f' H1 → LV n0 s H1 locs1 → W p l e room_1 s m args below meth c H1 locs1 (cells + 100) (slots + 12000) Q (F0 m (pc + 3) ls [.int (iN r)])) : W p l e room_1 s m args below meth c H locs cells slots Q (F0 m pc ls st0) := by
  obtain ⟨X, hL, hs, hX, hb, h3⟩ := C
  obtain ⟨⟨w1, w2⟩, ⟨w3, w4⟩, w5, h10⟩ := hw
  have hgood : GoodIn gW (va_wsS lwN idx y (Cond.codeWith y cc2 nL2 (some .int) hh2 :: gW)) := by
    intro w hw
    simp only [va_wsS, List.mem_append, List.mem_cons, List.not_mem_nil, or_false] at hw
    have g : w ∈ gW := by
      rcases hw with (rfl | rfl | rfl) | (rfl | hw)
      · exact w1
      · exact w2
      · exact w3
      · exact w4
      · exact hw
    exact ⟨g, good_of_word (List.mem_filter.mp g).2⟩
  have hr := vx_runSW (p := p) (l := l) (e := e) (R := room_1) (s := s) (m := m) (args := args) (below := below) (meth := meth) (c := c) (H := H) (locs := locs) (cells := cells) (slots := slots) (own := lwN) (Ts := gW) (nL := 7) (As := .ref (adr 0) :: (as.map (cvA adr) ++ [.ref o])) (rest := []) (g := F0 m pc ls st0) (n := n) X (hC l hfl D tA n0 o bs adr adV hL)
    (vx_cwSW n X.2.2.2.2 hgood rfl rfl rfl w5 ⟨by show 100 + 1 ≤ 2048; omega, by show 8 + (nL2 + 11) + 12000 ≤ 84000; omega⟩) ⟨WPre.blind, fun U hU hW => ⟨rfl, hU ▸ hs.now hS hW, f, hU ▸ hh⟩⟩ rfl (by simp; omega) hls (by show st0 = _; rw [hst]; simp) (lv_room (pc := pc) (ls := ls) (rest := st0) (by simp)) hdg hc
  intro T hT XX
  obtain ⟨v, st₀, t, T', L2, h0, X', hL2, e1, e2, ⟨⟨r, x, M', f', hv, hq, hf, hh1⟩, hz, hkk⟩, st⟩ := hr T hT XX
  rw [h0] at hz hkk
  cases hv
  have K := kk r x M' f' T'.heap (locs ++ L2) hq hf (by rw [e1]; exact hh1) (vS_app hS (by rw [e1]; exact hz) (fun q h1 h2 => by rw [e1]; exact hkk q h1 h2) (fun q h => h) hL2)
  obtain ⟨t2, a1, b1⟩ := K T' rfl X'
  exact ⟨t2, st t2 a1, b1⟩
end L6
