/-! THE BUILDER, 3: the methods that write (printed by wip/whole/g7b.py). -/
section B2
variable {bs : Nat}
def yb_cp : MethodName := ⟨"java/util/Arrays", "copyOf", "([BI)[B"⟩
set_option maxRecDepth 100000 in
theorem db_cp_0 : decode prog_35_method_121_code 0 = .ok (.iload_n 1, 1) := rfl
set_option maxRecDepth 100000 in
theorem db_cp_1 : decode prog_35_method_121_code 1 = .ok (.aload_n 0, 1) := rfl
set_option maxRecDepth 100000 in
theorem db_cp_2 : decode prog_35_method_121_code 2 = .ok (.arraylength, 1) := rfl
set_option maxRecDepth 100000 in
theorem db_cp_3 : decode prog_35_method_121_code 3 = .ok (.if_icmp .ne 11, 3) := rfl
set_option maxRecDepth 100000 in
theorem db_cp_14 : decode prog_35_method_121_code 14 = .ok (.iload_n 1, 1) := rfl
set_option maxRecDepth 100000 in
theorem cp_new : Cond.arrayClass .byte ∈ gW := gW_at (i := 506) rfl rfl
set_option maxRecDepth 100000 in
theorem db_cp_15 : decode prog_35_method_121_code 15 = .ok (.newarray .byte, 2) := rfl
set_option maxRecDepth 100000 in
theorem db_cp_17 : decode prog_35_method_121_code 17 = .ok (.astore_n 2, 1) := rfl
set_option maxRecDepth 100000 in
theorem db_cp_18 : decode prog_35_method_121_code 18 = .ok (.aload_n 0, 1) := rfl
set_option maxRecDepth 100000 in
theorem db_cp_19 : decode prog_35_method_121_code 19 = .ok (.iconst 0, 1) := rfl
set_option maxRecDepth 100000 in
theorem db_cp_20 : decode prog_35_method_121_code 20 = .ok (.aload_n 2, 1) := rfl
set_option maxRecDepth 100000 in
theorem db_cp_21 : decode prog_35_method_121_code 21 = .ok (.iconst 0, 1) := rfl
set_option maxRecDepth 100000 in
theorem db_cp_22 : decode prog_35_method_121_code 22 = .ok (.aload_n 0, 1) := rfl
set_option maxRecDepth 100000 in
theorem db_cp_23 : decode prog_35_method_121_code 23 = .ok (.arraylength, 1) := rfl
set_option maxRecDepth 100000 in
theorem db_cp_24 : decode prog_35_method_121_code 24 = .ok (.iload_n 1, 1) := rfl
set_option maxRecDepth 100000 in
theorem mb_min_Arrays : Cond.methodLink "java/util/Arrays" 304 Lib.Math.min.name ∈ gW ∧ Cond.static Lib.Math.min.name ∈ gW ∧ Cond.initialized "java/lang/Math" ∈ gW ∧ Cond.code Lib.Math.min.name Lib.Math.min.code 2 (some .int) ∈ gW := ⟨gW_at (i := 1453) rfl rfl, gW_at (i := 286) rfl rfl, gW_at (i := 109) rfl rfl, gW_at (i := 287) rfl rfl⟩
set_option maxRecDepth 100000 in
theorem db_cp_25 : decode prog_35_method_121_code 25 = .ok (.invokestatic 304, 3) := rfl
set_option maxRecDepth 100000 in
theorem ac_cp : Cond.methodLink "java/util/Arrays" 150 arraycopyName ∈ gW ∧ Cond.native arraycopyName ∈ gW ∧ Cond.static arraycopyName ∈ gW ∧ Cond.initialized "java/lang/System" ∈ gW := ⟨gW_at (i := 1454) rfl rfl, gW_at (i := 1456) rfl rfl, gW_at (i := 1455) rfl rfl, gW_at (i := 132) rfl rfl⟩
set_option maxRecDepth 100000 in
theorem db_cp_28 : decode prog_35_method_121_code 28 = .ok (.invokestatic 150, 3) := rfl
set_option maxRecDepth 100000 in
theorem db_cp_31 : decode prog_35_method_121_code 31 = .ok (.aload_n 2, 1) := rfl
set_option maxRecDepth 100000 in
theorem db_cp_32 : decode prog_35_method_121_code 32 = .ok (.areturn, 1) := rfl
theorem fits_T {T : Nat → Int} (h : tOk T) (j : Nat) : fits .byte (.int (iN (T j))) = true := by
  obtain ⟨h0, h1⟩ := h j
  obtain ⟨n, hn⟩ : ∃ n : Nat, T j = n := ⟨(T j).toNat, by omega⟩
  rw [hn]
  have h2 : n < 128 := by omega
  exact (show ∀ n : Nat, n < 128 → fits .byte (.int (iN (n : Int))) = true by decide +kernel) n h2
/-- Arrays.copyOf: a new row of n bytes, the old ones ahead -/
def CpPost (D : va_G) (tA : Nat → ClassId) (sz bs : Nat) (x : BS) (n : Nat) : Array Value → State → Outcome → State → Prop := fun _ st oc t =>
  (∃ (q : Nat) (T' : Nat → Int), oc = .returned (some (.ref q)) ∧ (sz ≤ q ∧ q ≠ bs ∧ q ≠ xB x) ∧ (∀ j, j < xC x → T' j = xT x j) ∧ tOk T' ∧ va_P D clA (BW tA bs x) t.heap ∧ va_at D clA (q, bByt tA n T') t.heap) ∧ va_F (bA bs (xB x) sz) st t
set_option maxHeartbeats 4000000 in
set_option maxRecDepth 100000 in
theorem b_copyOf {l : Launch} {D : va_G} {tA : Nat → ClassId} {n0 : Nat} {adr adV : Nat → Nat} {sz n : Nat} {x : BS} (hn : xC x < n) (hn2 : n ≤ 142) : Met l yb_cp (Cond.code yb_cp prog_35_method_121_code 3 (some (.array .byte)) :: gW) { frames := 2, cells := 1, slots := 142, locals := 100 } (va_Pc [.ref (xB x), .int (iN (n : Int))] (BPre D tA n0 adr adV sz bs x)) (CpPost D tA sz bs x n) 1 142 (bA bs (xB x) sz) := by
  refine Met.ofW (cc := prog_35_method_121_code) (maxL := 3) (ret := (some (.array .byte))) (by decide) rfl ?_
  intro p e s m args below meth c s₁ B hml hv
  obtain ⟨rfl, ⟨h1, h2, h3, h4, h5⟩, h6, h7, h8⟩ := hv
  have hts := atoms_spec (ws := Cond.code yb_cp prog_35_method_121_code 3 (some (.array .byte)) :: gW) B.pre
  have hown : s.vm.findClass "java/util/Arrays" = some m.cls := findClass_of_methodNamed B.named
  rw [lg_entry_eq]
  have hl := lv_entry ([.ref (xB x), .int (iN (n : Int))] : List Value) (n := 3) (by simp [lg_sl, Value.category])
  generalize (lg_sl ([.ref (xB x), .int (iN (n : Int))] : List Value) ++ List.replicate (3 - (lg_sl ([.ref (xB x), .int (iN (n : Int))] : List Value)).length) Slot.unset).toArray = ls at hl ⊢
  have hl : lv_has ls 3 [(0, .ref (xB x)), (1, .int (iN (n : Int)))] := hl
  have X : BX p s m #[.ref (xB x), .int (iN (n : Int))] c "java/util/Arrays" 3 prog_35_method_121_code := ⟨B.exec, B.bytes, hml, hown, fun w hw => hts w (List.mem_cons_of_mem _ hw)⟩
  have hz : BZ D tA n0 adr adV sz bs (xB x) s := ⟨⟨h1, h2, h3, h4⟩, h8⟩
  have g : GB D tA sz bs (xB x) x s s.heap [] := ⟨h7, ⟨h5, .inr (.inl rfl)⟩, h6, va_S.rf⟩
  have hret := B.returns
  have hlk := B.notSynchronized
  refine lv_iload_n (i := 1) (x := iN (n : Int)) X.1 X.2.1 db_cp_0 rfl (lv_at hl 1 rfl) ?_
  refine lv_aload_n (i := 0) (x := (xB x)) X.1 X.2.1 db_cp_1 rfl (lv_at hl 0 rfl) ?_
  refine b_len X hz g db_cp_2 ?_
  refine lv_icmp_ne (tgt := 14) X.1 X.2.1 db_cp_3 (by decide) (fun _ => ?_) (fun h => absurd h (fun z => by
    have := (iN_eq (x := (n : Int)) (y := (xC x : Int)) ⟨by omega, by omega⟩ ⟨by omega, by omega⟩).mp z
    omega))
  refine lv_iload_n (i := 1) (x := iN (n : Int)) X.1 X.2.1 db_cp_14 rfl (lv_at hl 1 rfl) ?_
  have hq : s.heap.size = sz := hz.1.1
  have hbs : bs < s.heap.size := (g.1 0 _ rfl).lt
  have hbb : xB x < s.heap.size := (g.1 1 _ rfl).lt
  refine va_newaK (atype := .byte) X.1 X.2.1 (X.2.2.2.2 _ cp_new) (g := F0 m 15 ls [.int (iN (n : Int))]) rfl db_cp_15 rfl (fun z => by
    have := (iN_lt (x := (n : Int)) (y := 0) ⟨by omega, by omega⟩ inR_0).mp z
    omega) (show (iN (n : Int)).toNatClampNeg = n by rw [iN_clamp (by omega) (by omega)]; omega) (by show n * 1 ≤ _; omega) (by decide) (by show 0 + n ≤ 142; omega) rfl (fun H1 cA e1 z1 o1 _ hN => ?_)
  have hA : cA = tA 4 := Option.some.inj (hN.symm.trans (hz.2.1.2 0 _ rfl).2)
  subst hA
  generalize hH : s.heap.size = q at *
  have hP1 : va_P D clA [(bs, bObj (xB x) (xN x) (xM x)), (xB x, bByt tA (xC x) (xT x)), (q, .inl (tA 4, (n, .inl (fun _ => (0 : Int32)))))] H1 := by
    intro k y hy
    match k, hy with
    | 0, hy => exact (g.1 0 _ hy).kept (by cases hy; exact o1 _ hbs)
    | 1, hy => exact (g.1 1 _ hy).kept (by cases hy; exact o1 _ hbb)
    | 2, hy => cases hy; exact e1
  have hS1 : va_S (bA bs (xB x) sz) s.heap H1 [] := ⟨by omega, fun y h1 h2 => o1 y (by omega), fun y h => by cases h⟩
  have hb1 : bs ≠ xB x := g.2.1.1
  have hD1 : va_D (bA bs (xB x) sz) [(bs, bObj (xB x) (xN x) (xM x)), (xB x, bByt tA (xC x) (xT x)), (q, .inl (tA 4, (n, .inl (fun _ => (0 : Int32)))))] := by
    refine ⟨fun i j y z hi hj h => ?_, fun k y hy => ?_⟩
    · match i, hi, j, hj with
      | 0, hi, 0, hj => rfl
      | 1, hi, 1, hj => rfl
      | 2, hi, 2, hj => rfl
      | 0, hi, 1, hj => cases hi; cases hj; exact absurd h hb1
      | 1, hi, 0, hj => cases hi; cases hj; exact absurd h.symm hb1
      | 0, hi, 2, hj => cases hi; cases hj; have h : bs = q := h; omega
      | 2, hi, 0, hj => cases hi; cases hj; have h : q = bs := h; omega
      | 1, hi, 2, hj => cases hi; cases hj; have h : xB x = q := h; omega
      | 2, hi, 1, hj => cases hi; cases hj; have h : q = xB x := h; omega
    · match k, hy with
      | 0, hy => cases hy; exact .inl rfl
      | 1, hy => cases hy; exact .inr (.inl rfl)
      | 2, hy => cases hy; exact .inr (.inr (by show sz ≤ q; omega))
  show W p l e _ s m #[.ref (xB x), .int (iN (n : Int))] below meth c H1 [] (0 + 1) (0 + n) _ (F0 m 17 ls [.ref q])
  refine lv_astore_n (i := 2) (lv' := [(2, .ref q), (0, .ref (xB x)), (1, .int (iN (n : Int)))]) X.1 X.2.1 db_cp_17 rfl hl (by decide) rfl (fun ls1 hl1 => ?_)
  refine lv_aload_n (i := 0) (x := (xB x)) X.1 X.2.1 db_cp_18 rfl (lv_at hl1 1 rfl) ?_
  refine lv_iconst (v := iN 0) X.1 X.2.1 db_cp_19 (by decide) ?_
  refine lv_aload_n (i := 2) (x := q) X.1 X.2.1 db_cp_20 rfl (lv_at hl1 0 rfl) ?_
  refine lv_iconst (v := iN 0) X.1 X.2.1 db_cp_21 (by decide) ?_
  refine lv_aload_n (i := 0) (x := (xB x)) X.1 X.2.1 db_cp_22 rfl (lv_at hl1 1 rfl) ?_
  refine va_alen X.1 X.2.1 hz.2.1 hP1 1 0 rfl rfl (v := iN (xC x : Int)) (by show Int32.ofNat (xC x) = _; simp [iN, Int32.ofInt_eq_ofNat]) db_cp_23 ?_
  refine lv_iload_n (i := 1) (x := iN (n : Int)) X.1 X.2.1 db_cp_24 rfl (lv_at hl1 2 rfl) ?_
  refine va_mmin X.1 X.2.1 (by rw [X.2.2.1, hl1.1]) X.2.2.2.1 (X.2.2.2.2 _ mb_min_Arrays.1) (X.2.2.2.2 _ mb_min_Arrays.2.1) (X.2.2.2.2 _ mb_min_Arrays.2.2.1) (X.2.2.2.2 _ mb_min_Arrays.2.2.2) (by decide) (by simp [Value.category]; decide) (by decide) (by show 0 + n ≤ 142; omega) db_cp_25 ?_
  rw [iN_min (x := (xC x : Int)) (y := (n : Int)) ⟨by omega, by omega⟩ ⟨by omega, by omega⟩, show min (xC x : Int) (n : Int) = (xC x : Int) by omega]
  have c0 : (iN 0).toNatClampNeg = 0 := by decide
  have cC : (iN (xC x : Int)).toNatClampNeg = xC x := by rw [iN_clamp (by omega) (by omega)]; omega
  have nC : ¬ iN (xC x : Int) < 0 := fun z => by
    have := (iN_lt (x := (xC x : Int)) (y := 0) ⟨by omega, by omega⟩ inR_0).mp z
    omega
  refine va_copyi X.1 X.2.1 (by rw [X.2.2.1, hl1.1]) X.2.2.2.1 (X.2.2.2.2 _ ac_cp.1) (X.2.2.2.2 _ ac_cp.2.1) (X.2.2.2.2 _ ac_cp.2.2.1) (X.2.2.2.2 _ ac_cp.2.2.2) hz.2.1 hP1 hD1 hS1 1 2 0 0 rfl rfl rfl rfl rfl (by decide) (by decide) nC (by rw [c0, cC]; omega) (by rw [c0, cC]; omega) (fun i hi => fits_T g.2.2.1.2.2 _) (by decide) (by simp [Value.category]; decide) db_cp_28 (fun H2 lc2 hP2 hD2 hS2 => ?_)
  rw [c0, cC] at hP2
  refine lv_aload_n (i := 2) (x := q) X.1 X.2.1 db_cp_31 rfl (lv_at hl1 0 rfl) ?_
  have hT : va_cpy (fun j => iN (xT x j)) (fun _ => (0 : Int32)) 0 0 (xC x) = fun j => iN ((fun j => if j < xC x then xT x j else 0) j) := by
    funext j
    show (if 0 ≤ j ∧ j < 0 + xC x then iN (xT x (0 + (j - 0))) else (0 : Int32)) = iN (if j < xC x then xT x j else 0)
    by_cases h : j < xC x
    · rw [if_pos ⟨Nat.zero_le _, by omega⟩, if_pos h, Nat.zero_add, Nat.sub_zero]
    · rw [if_neg (by omega), if_neg h]
      rfl
  rw [hT] at hP2
  refine W.widen (by decide) (by omega) (W.aret X.1 X.2.1 hret (Or.inr ⟨_, rfl⟩) (Or.inr ⟨_, rfl⟩) (fun t ht _ => ⟨⟨q, fun j => if j < xC x then xT x j else 0, rfl, ⟨by omega, by omega, by omega⟩, fun j hj => if_pos hj, fun j => ?_, ?_, ?_⟩, va_S.F hS2 ht⟩) hS2.2.2 db_cp_32 hlk)
  · show 0 ≤ (if j < xC x then xT x j else 0) ∧ (if j < xC x then xT x j else 0) ≤ 127
    split
    · exact g.2.2.1.2.2 j
    · omega
  · rw [ht]
    intro k y hy
    match k, hy with
    | 0, hy => exact hP2 0 _ hy
    | 1, hy => exact hP2 1 _ hy
  · rw [ht]
    exact hP2 2 _ rfl
end B2
section B3
variable {p : Program} {l : Launch} {e : Env} {R : Room} {s : State} {m : MethodId} {args : Array Value} {below : List Frame} {meth : Method} {c : Code} {Q : State → Prop}
variable {D : va_G} {tA : Nat → ClassId} {n0 sz bs bb0 n : Nat} {adr adV : Nat → Nat} {x : BS} {H : Heap} {locs : List Loc} {cells slots pc : Nat} {ls : Array Slot} {rest st0 : List Value} {nL : Nat} {cc : ByteArray} {own : String}
theorem b_callCp {idx : Nat} (X : BX p s m args c own nL cc) (hz : BZ D tA n0 adr adV sz bs bb0 s) (g : GB D tA sz bs bb0 x s H locs) (hw : BWd 1 own idx yb_cp prog_35_method_121_code 3 (some (.array .byte)) own 2) (hn : xC x < n) (hn2 : n ≤ 142) (hls : ls.size = nL) (hR : 3 ≤ R.frames ∧ 139 ≤ R.locals) (hf : cells + 1 ≤ R.cells ∧ slots + 142 ≤ R.slots) (hrest : (rest.map fun v => v.category).sum ≤ 8) (hst : st0 = .int (iN (n : Int)) :: .ref (xB x) :: rest) (hdg : decode cc pc = .ok (.invokestatic idx, 3))
    (kk : ∀ q T' H1 locs1, (q ≠ bs ∧ q ≠ xB x ∧ bA bs bb0 sz q) → (∀ j, j < xC x → T' j = xT x j) → tOk T' → GB D tA sz bs bb0 x s H1 locs1 → va_at D clA (q, bByt tA n T') H1 → W p l e R s m args below meth c H1 locs1 (cells + 1) (slots + 142) Q (F0 m (pc + 3) ls (.ref q :: rest))) : W p l e R s m args below meth c H locs cells slots Q (F0 m pc ls st0) := by
  obtain ⟨⟨⟨w1, w2, w3⟩, w4, w5⟩, w6⟩ := hw
  have hts := X.2.2.2.2
  have hr := va_runS (p := p) (l := l) (e := e) (R := R) (s := s) (m := m) (args := args) (below := below) (meth := meth) (c := c) (H := H) (locs := locs) (cells := cells) (slots := slots) (g := F0 m pc ls st0) (rest := rest) (own := own) (Ts := gW) (nL := nL) (As := [.ref (xB x), .int (iN (n : Int))]) (n := 2) (bytes := prog_35_method_121_code) (maxL := 3) (ret := some (.array .byte)) X (b_copyOf (l := l) (D := D) (tA := tA) (n0 := n0) (adr := adr) (adV := adV) (sz := H.size) (bs := bs) hn hn2) ⟨callB_of 2 hts (code_good w3) rfl rfl rfl (hts _ w2) (hts _ w1) w4 ⟨hR.1, by show 8 + (3 + 11) + 100 ≤ R.locals; omega⟩, hts _ w6⟩
    ⟨BPre.blind, fun U hU hW => ⟨rfl, b_pre hz g hU hW⟩⟩ rfl rfl hls hst (lv_room (pc := pc) (ls := ls) (rest := st0) hrest) hdg hf
  intro T hT XX
  obtain ⟨v, st₀, t, T', L2, h0, X', hL2, e1, e2, ⟨⟨q, T2, hv, ⟨q1, q2, q3⟩, hT2, hok, hP, hat⟩, hsz, hkk⟩, st⟩ := hr T hT XX
  rw [h0] at hsz hkk
  cases hv
  have hH : sz ≤ H.size := by rw [← hz.1.1]; exact g.2.2.2.1
  have hsub : ∀ y, bA bs (xB x) H.size y → bA bs bb0 sz y := by
    rintro y (rfl | rfl | hy)
    · exact .inl rfl
    · exact g.2.1.2
    · exact .inr (.inr (Nat.le_trans hH hy))
  have K := kk q T2 T'.heap (locs ++ L2) ⟨q2, q3, .inr (.inr (Nat.le_trans hH q1))⟩ hT2 hok ⟨by rw [e1]; exact hP, g.2.1, g.2.2.1, vS_app g.2.2.2 (by rw [e1]; exact hsz) (fun y h1 h2 => by rw [e1]; exact hkk y h1 h2) hsub (fun y hy => hsub _ (hL2 y hy))⟩ (by rw [e1]; exact hat)
  obtain ⟨t2, a1, b1⟩ := K T' rfl X'
  exact ⟨t2, st t2 a1, b1⟩
/-- the new bytes put in -/
theorem b_putV {index q : Nat} {T' : Nat → Int} (X : BX p s m args c own nL cc) (hz : BZ D tA n0 adr adV sz bs bb0 s) (g : GB D tA sz bs bb0 x s H locs) (hq : q ≠ bs ∧ q ≠ xB x ∧ bA bs bb0 sz q) (hok : tOk T') (hC : cOk n) (hN : xN x ≤ n) (hat : va_at D clA (q, bByt tA n T') H) (hl : Cond.fieldLink own index (TJ4 0).1 (TJ4 0).2.1 (TJ4 0).2.2.1 ∈ gW) (hdg : decode cc pc = .ok (.putfield index, 3))
    (kk : ∀ H1 locs1, GB D tA sz bs bb0 (q, n, xN x, xM x, T') s H1 locs1 → W p l e R s m args below meth c H1 locs1 cells slots Q (F0 m (pc + 3) ls rest)) : W p l e R s m args below meth c H locs cells slots Q (F0 m pc ls (.ref q :: .ref bs :: rest)) := by
  obtain ⟨c1, c2⟩ := c13
  have hP : va_P D clA [(bs, bObj (xB x) (xN x) (xM x)), (q, bByt tA n T')] H := by
    intro k y hy
    match k, hy with
    | 0, hy => exact g.1 0 _ hy
    | 1, hy => cases hy; exact hat
  have hD : va_D (bA bs bb0 sz) [(bs, bObj (xB x) (xN x) (xM x)), (q, bByt tA n T')] := by
    refine ⟨fun i j y z hi hj h => ?_, fun k y hy => ?_⟩
    · match i, hi, j, hj with
      | 0, hi, 0, hj => rfl
      | 1, hi, 1, hj => rfl
      | 0, hi, 1, hj => cases hi; cases hj; exact absurd h.symm hq.1
      | 1, hi, 0, hj => cases hi; cases hj; exact absurd h hq.1
    · match k, hy with
      | 0, hy => cases hy; exact .inl rfl
      | 1, hy => cases hy; exact hq.2.2
  refine va_put (ref := (TJ4 0).1) (ty := .array .byte) X.1 X.2.1 X.2.2.2.2 c2 tyJ4 tyJ4_ok nmJ4 X.2.2.2.1 hz.2.1 hP hD g.2.2.2 0 rfl c1 0 (by decide) (X.2.2.2.2 _ hl) (fun _ h => h) rfl rfl rfl rfl (by simp) hdg (fun H1 locs1 hP1 hD1 hS1 => kk H1 locs1 ⟨hP1, ⟨fun h => hq.1 h.symm, hq.2.2⟩, ⟨hC, hN, hok⟩, hS1⟩)
end B3
section B2
variable {bs : Nat}
def yb_en : MethodName := ⟨"java/lang/AbstractStringBuilder", "ensureCapacityInternal", "(I)V"⟩
set_option maxRecDepth 100000 in
theorem db_en_0 : decode prog_16_method_9_code 0 = .ok (.aload_n 0, 1) := rfl
set_option maxRecDepth 100000 in
theorem db_en_1 : decode prog_16_method_9_code 1 = .ok (.getfield 15, 3) := rfl
set_option maxRecDepth 100000 in
theorem db_en_4 : decode prog_16_method_9_code 4 = .ok (.arraylength, 1) := rfl
set_option maxRecDepth 100000 in
theorem db_en_5 : decode prog_16_method_9_code 5 = .ok (.aload_n 0, 1) := rfl
set_option maxRecDepth 100000 in
theorem db_en_6 : decode prog_16_method_9_code 6 = .ok (.getfield 22, 3) := rfl
set_option maxRecDepth 100000 in
theorem db_en_9 : decode prog_16_method_9_code 9 = .ok (.ishr, 1) := rfl
set_option maxRecDepth 100000 in
theorem db_en_10 : decode prog_16_method_9_code 10 = .ok (.istore_n 2, 1) := rfl
set_option maxRecDepth 100000 in
theorem db_en_11 : decode prog_16_method_9_code 11 = .ok (.iload_n 1, 1) := rfl
set_option maxRecDepth 100000 in
theorem db_en_12 : decode prog_16_method_9_code 12 = .ok (.iload_n 2, 1) := rfl
set_option maxRecDepth 100000 in
theorem db_en_13 : decode prog_16_method_9_code 13 = .ok (.isub, 1) := rfl
set_option maxRecDepth 100000 in
theorem db_en_14 : decode prog_16_method_9_code 14 = .ok (.ifCond .le 24, 3) := rfl
set_option maxRecDepth 100000 in
theorem db_en_38 : decode prog_16_method_9_code 38 = .ok (.return_, 1) := rfl
set_option maxRecDepth 100000 in
theorem db_en_17 : decode prog_16_method_9_code 17 = .ok (.aload_n 0, 1) := rfl
set_option maxRecDepth 100000 in
theorem db_en_18 : decode prog_16_method_9_code 18 = .ok (.aload_n 0, 1) := rfl
set_option maxRecDepth 100000 in
theorem db_en_19 : decode prog_16_method_9_code 19 = .ok (.getfield 15, 3) := rfl
set_option maxRecDepth 100000 in
theorem db_en_22 : decode prog_16_method_9_code 22 = .ok (.aload_n 0, 1) := rfl
set_option maxRecDepth 100000 in
theorem db_en_23 : decode prog_16_method_9_code 23 = .ok (.iload_n 1, 1) := rfl
set_option maxRecDepth 100000 in
theorem wb_1 : BWd 3 "java/lang/AbstractStringBuilder" 104 yb_nc prog_16_method_10_code 6 (some .int) "java/lang/AbstractStringBuilder" 1 := ⟨⟨⟨gW_at (i := 1430) rfl rfl, gW_at (i := 114) rfl rfl, gW_at (i := 1433) rfl rfl⟩, ⟨by decide, by decide, rfl⟩, by decide⟩, gW_at (i := 1432) rfl rfl, by decide, rfl⟩
set_option maxRecDepth 100000 in
theorem db_en_24 : decode prog_16_method_9_code 24 = .ok (.invokevirtual 104, 3) := rfl
set_option maxRecDepth 100000 in
theorem db_en_27 : decode prog_16_method_9_code 27 = .ok (.aload_n 0, 1) := rfl
set_option maxRecDepth 100000 in
theorem db_en_28 : decode prog_16_method_9_code 28 = .ok (.getfield 22, 3) := rfl
set_option maxRecDepth 100000 in
theorem db_en_31 : decode prog_16_method_9_code 31 = .ok (.ishl, 1) := rfl
set_option maxRecDepth 100000 in
theorem wb_2 : BWd 1 "java/lang/AbstractStringBuilder" 108 yb_cp prog_35_method_121_code 3 (some (.array .byte)) "java/lang/AbstractStringBuilder" 2 := ⟨⟨⟨gW_at (i := 1443) rfl rfl, gW_at (i := 131) rfl rfl, gW_at (i := 1445) rfl rfl⟩, ⟨by decide, by decide, rfl⟩, by decide⟩, gW_at (i := 1444) rfl rfl⟩
set_option maxRecDepth 100000 in
theorem db_en_32 : decode prog_16_method_9_code 32 = .ok (.invokestatic 108, 3) := rfl
set_option maxRecDepth 100000 in
theorem db_en_35 : decode prog_16_method_9_code 35 = .ok (.putfield 15, 3) := rfl
set_option maxHeartbeats 4000000 in
set_option maxRecDepth 100000 in
theorem b_ensure {a : Int} (h0 : 0 ≤ a) (h1 : a ≤ 142) : BC yb_en prog_16_method_9_code 3 none 4 400 1 142 bs (fun x adr => [.ref bs, .int (iN a)]) (fun x => a ≤ (xC x : Int) + 2) (fun x v x' => v = none ∧ a ≤ (xC x' : Int) ∧ xN x' = xN x ∧ ∀ j, j < xC x → xT x' j = xT x j) := by
  refine bc_of (by decide) rfl (fun _ _ => by simp [lg_sl, Value.category]) ?_
  intro p l e s m args below meth c D tA n0 adr adV sz x ls hP X hz g hret hlk hl
  have hl : lv_has ls 3 [(0, .ref bs), (1, .int (iN a))] := hl
  have hC : xC x ≤ 142 := by rcases g.2.2.1.1 with h | h | h | h <;> omega
  refine lv_aload_n (i := 0) (x := bs) X.1 X.2.1 db_en_0 rfl (lv_at hl 0 rfl) ?_
  refine b_get (k := 0) X hz g (by decide) fb_2 rfl db_en_1 ?_
  refine b_len X hz g db_en_4 ?_
  refine lv_aload_n (i := 0) (x := bs) X.1 X.2.1 db_en_5 rfl (lv_at hl 0 rfl) ?_
  refine b_get (k := 1) X hz g (by decide) fb_0 rfl db_en_6 ?_
  refine lv_ishr X.1 X.2.1 db_en_9 ?_
  rw [sh_r0]
  refine lv_istore_n (i := 2) (lv' := [(2, .int (iN (xC x : Int))), (0, .ref bs), (1, .int (iN a))]) X.1 X.2.1 db_en_10 rfl hl (by decide) rfl (fun ls1 hl1 => ?_)
  refine lv_iload_n (i := 1) (x := iN a) X.1 X.2.1 db_en_11 rfl (lv_at hl1 2 rfl) ?_
  refine lv_iload_n (i := 2) (x := iN (xC x : Int)) X.1 X.2.1 db_en_12 rfl (lv_at hl1 0 rfl) ?_
  refine lv_isub X.1 X.2.1 db_en_13 ?_
  rw [iN_sub]
  refine lv_if_le (tgt := 38) X.1 X.2.1 db_en_14 (by decide) (fun h => ?_) (fun h => ?_)
  · have h2 : a ≤ (xC x : Int) := by
      have := (iN_le (x := a - (xC x : Int)) ⟨by omega, by omega⟩ inR_0).mp h
      omega
    exact b_vret X hret hlk g ⟨rfl, h2, rfl, fun j hj => rfl⟩ (by omega) (by omega) db_en_38
  · have h2 : (xC x : Int) < a := by
      have z : ¬ a - (xC x : Int) ≤ 0 := fun z => h ((iN_le (x := a - (xC x : Int)) ⟨by omega, by omega⟩ inR_0).mpr z)
      omega
    refine lv_aload_n (i := 0) (x := bs) X.1 X.2.1 db_en_17 rfl (lv_at hl1 1 rfl) ?_
    refine lv_aload_n (i := 0) (x := bs) X.1 X.2.1 db_en_18 rfl (lv_at hl1 1 rfl) ?_
    refine b_get (k := 0) X hz g (by decide) fb_2 rfl db_en_19 ?_
    refine lv_aload_n (i := 0) (x := bs) X.1 X.2.1 db_en_22 rfl (lv_at hl1 1 rfl) ?_
    refine lv_iload_n (i := 1) (x := iN a) X.1 X.2.1 db_en_23 rfl (lv_at hl1 2 rfl) ?_
    refine b_callP (As := [.int (iN a)]) (rest := [.ref (xB x), .ref bs]) X hz g (b_newCapacity h0 (by omega)) trivial wb_1 rfl rfl hl1.1 ⟨by decide, by decide⟩ ⟨by decide, by decide⟩ (by simp [Value.category]) rfl db_en_24 (fun v x1 H1 lc1 hv1 g1 => ?_)
    obtain ⟨rfl, rfl⟩ := hv1
    have hn : (xC x1 : Int) + max (a - (xC x1 : Int)) ((xC x1 : Int) + 2) = ((2 * xC x1 + 2 : Nat) : Int) := by omega
    rw [hn]
    refine lv_aload_n (i := 0) (x := bs) X.1 X.2.1 db_en_27 rfl (lv_at hl1 1 rfl) ?_
    refine b_get (k := 1) X hz g1 (by decide) fb_0 rfl db_en_28 ?_
    refine lv_ishl X.1 X.2.1 db_en_31 ?_
    rw [sh_l0]
    have hC2 : cOk (2 * xC x1 + 2) := by
      rcases g1.2.2.1.1 with h | h | h | h
      · rw [h]; exact .inr (.inl rfl)
      · rw [h]; exact .inr (.inr (.inl rfl))
      · rw [h]; exact .inr (.inr (.inr rfl))
      · exfalso; omega
    have hN2 := g1.2.2.1.2.1
    refine b_callCp (n := 2 * xC x1 + 2) (rest := [.ref bs]) X hz g1 wb_2 (by omega) (by rcases hC2 with h | h | h | h <;> omega) hl1.1 ⟨by decide, by decide⟩ ⟨by decide, by decide⟩ (by simp [Value.category]) rfl db_en_32 (fun q T2 H2 lc2 hq hT2 hok g2 hat => ?_)
    refine b_putV X hz g2 hq hok hC2 (by omega) hat fb_2 db_en_35 (fun H3 lc3 g3 => ?_)
    exact b_vret X hret hlk g3 ⟨rfl, by show a ≤ ((2 * xC x1 + 2 : Nat) : Int); omega, rfl, hT2⟩ (by omega) (by omega) db_en_38
def yb_sl : MethodName := ⟨"java/lang/AbstractStringBuilder", "setLength", "(I)V"⟩
set_option maxRecDepth 100000 in
theorem db_sl_0 : decode prog_16_method_13_code 0 = .ok (.iload_n 1, 1) := rfl
set_option maxRecDepth 100000 in
theorem db_sl_1 : decode prog_16_method_13_code 1 = .ok (.ifCond .ge 12, 3) := rfl
set_option maxRecDepth 100000 in
theorem db_sl_13 : decode prog_16_method_13_code 13 = .ok (.aload_n 0, 1) := rfl
set_option maxRecDepth 100000 in
theorem db_sl_14 : decode prog_16_method_13_code 14 = .ok (.iload_n 1, 1) := rfl
set_option maxRecDepth 100000 in
theorem wb_3 : BWd 3 "java/lang/AbstractStringBuilder" 100 yb_en prog_16_method_9_code 3 none "java/lang/AbstractStringBuilder" 1 := ⟨⟨⟨gW_at (i := 1426) rfl rfl, gW_at (i := 114) rfl rfl, gW_at (i := 1429) rfl rfl⟩, ⟨by decide, by decide, rfl⟩, by decide⟩, gW_at (i := 1428) rfl rfl, by decide, rfl⟩
set_option maxRecDepth 100000 in
theorem db_sl_15 : decode prog_16_method_13_code 15 = .ok (.invokevirtual 100, 3) := rfl
set_option maxRecDepth 100000 in
theorem db_sl_18 : decode prog_16_method_13_code 18 = .ok (.aload_n 0, 1) := rfl
set_option maxRecDepth 100000 in
theorem db_sl_19 : decode prog_16_method_13_code 19 = .ok (.getfield 79, 3) := rfl
set_option maxRecDepth 100000 in
theorem db_sl_22 : decode prog_16_method_13_code 22 = .ok (.iload_n 1, 1) := rfl
set_option maxRecDepth 100000 in
theorem db_sl_23 : decode prog_16_method_13_code 23 = .ok (.if_icmp .ge 40, 3) := rfl
set_option maxRecDepth 100000 in
theorem db_sl_63 : decode prog_16_method_13_code 63 = .ok (.aload_n 0, 1) := rfl
set_option maxRecDepth 100000 in
theorem db_sl_64 : decode prog_16_method_13_code 64 = .ok (.getfield 79, 3) := rfl
set_option maxRecDepth 100000 in
theorem db_sl_67 : decode prog_16_method_13_code 67 = .ok (.iload_n 1, 1) := rfl
set_option maxRecDepth 100000 in
theorem fb_3 : Cond.fieldLink "java/lang/AbstractStringBuilder" 73 (TJ4 2).1 (TJ4 2).2.1 (TJ4 2).2.2.1 ∈ gW := gW_at (i := 494) rfl rfl
set_option maxRecDepth 100000 in
theorem db_sl_68 : decode prog_16_method_13_code 68 = .ok (.if_icmp .le 8, 3) := rfl
set_option maxRecDepth 100000 in
theorem db_sl_71 : decode prog_16_method_13_code 71 = .ok (.aload_n 0, 1) := rfl
set_option maxRecDepth 100000 in
theorem db_sl_72 : decode prog_16_method_13_code 72 = .ok (.iconst 1, 1) := rfl
set_option maxRecDepth 100000 in
theorem db_sl_73 : decode prog_16_method_13_code 73 = .ok (.putfield 73, 3) := rfl
set_option maxRecDepth 100000 in
theorem db_sl_76 : decode prog_16_method_13_code 76 = .ok (.aload_n 0, 1) := rfl
set_option maxRecDepth 100000 in
theorem db_sl_77 : decode prog_16_method_13_code 77 = .ok (.iload_n 1, 1) := rfl
set_option maxRecDepth 100000 in
theorem db_sl_78 : decode prog_16_method_13_code 78 = .ok (.putfield 79, 3) := rfl
set_option maxRecDepth 100000 in
theorem db_sl_81 : decode prog_16_method_13_code 81 = .ok (.return_, 1) := rfl
set_option maxHeartbeats 4000000 in
set_option maxRecDepth 100000 in
theorem b_setLen0 : BC yb_sl prog_16_method_13_code 2 none 5 500 1 142 bs (fun x adr => [.ref bs, .int (iN 0)]) (fun x => True) (fun x v x' => v = none ∧ xN x' = 0) := by
  refine bc_of (by decide) rfl (fun _ _ => by simp [lg_sl, Value.category]) ?_
  intro p l e s m args below meth c D tA n0 adr adV sz x ls hP X hz g hret hlk hl
  have hl : lv_has ls 2 [(0, .ref bs), (1, .int (iN 0))] := hl
  refine lv_iload_n (i := 1) (x := iN 0) X.1 X.2.1 db_sl_0 rfl (lv_at hl 1 rfl) ?_
  refine lv_if_ge (tgt := 13) X.1 X.2.1 db_sl_1 (by decide) (fun _ => ?_) (fun h => absurd (by decide) h)
  refine lv_aload_n (i := 0) (x := bs) X.1 X.2.1 db_sl_13 rfl (lv_at hl 0 rfl) ?_
  refine lv_iload_n (i := 1) (x := iN 0) X.1 X.2.1 db_sl_14 rfl (lv_at hl 1 rfl) ?_
  refine b_callP (As := [.int (iN 0)]) (rest := []) X hz g (b_ensure (Int.le_refl 0) (by omega)) (by omega) wb_3 rfl rfl hl.1 ⟨by decide, by decide⟩ ⟨by decide, by decide⟩ (by simp [Value.category]) rfl db_sl_15 (fun v x1 H1 lc1 hv1 g1 => ?_)
  obtain ⟨rfl, hv2, hv3, hv4⟩ := hv1
  refine lv_aload_n (i := 0) (x := bs) X.1 X.2.1 db_sl_18 rfl (lv_at hl 0 rfl) ?_
  refine b_get (k := 3) X hz g1 (by decide) fb_1 rfl db_sl_19 ?_
  refine lv_iload_n (i := 1) (x := iN 0) X.1 X.2.1 db_sl_22 rfl (lv_at hl 1 rfl) ?_
  have hN1 : xN x1 ≤ xC x1 := g1.2.2.1.2.1
  have hC1 : xC x1 ≤ 142 := by rcases g1.2.2.1.1 with h | h | h | h <;> omega
  refine lv_icmp_ge (tgt := 63) X.1 X.2.1 db_sl_23 (by decide) (fun _ => ?_) (fun h => absurd ((iN_le inR_0 (y := (xN x1 : Int)) ⟨by omega, by omega⟩).mpr (by omega)) h)
  refine lv_aload_n (i := 0) (x := bs) X.1 X.2.1 db_sl_63 rfl (lv_at hl 0 rfl) ?_
  refine b_get (k := 3) X hz g1 (by decide) fb_1 rfl db_sl_64 ?_
  refine lv_iload_n (i := 1) (x := iN 0) X.1 X.2.1 db_sl_67 rfl (lv_at hl 1 rfl) ?_
  suffices G : ∀ (x2 : BS) H2 lc2, okX x2 → xN x2 = xN x1 → GB D tA sz bs (xB x) x2 s H2 lc2 → W p l e _ s m args below meth c H2 lc2 (0 + 1) (0 + 142) (MQ below (BPost D tA sz bs (xB x) _) args s 1 142 (bA bs (xB x) sz)) (F0 m 76 ls []) by
    refine lv_icmp_le (tgt := 76) X.1 X.2.1 db_sl_68 (by decide) (fun _ => ?_) (fun _ => ?_)
    · exact G x1 H1 lc1 g1.2.2.1 rfl g1
    · refine lv_aload_n (i := 0) (x := bs) X.1 X.2.1 db_sl_71 rfl (lv_at hl 0 rfl) ?_
      refine lv_iconst (v := iN 1) X.1 X.2.1 db_sl_72 (by decide) ?_
      exact b_put (k := 2) (ty := .boolean) (x' := (xB x1, xC x1, xN x1, iN 1, xT x1)) X hz g1 (by decide) fb_3 rfl rfl rfl rfl db_sl_73 g1.2.2.1 rfl rfl rfl (fun H2 lc2 g2 => G _ H2 lc2 g2.2.2.1 rfl g2)
  intro x2 H2 lc2 hx2 hn2 g2
  refine lv_aload_n (i := 0) (x := bs) X.1 X.2.1 db_sl_76 rfl (lv_at hl 0 rfl) ?_
  refine lv_iload_n (i := 1) (x := iN 0) X.1 X.2.1 db_sl_77 rfl (lv_at hl 1 rfl) ?_
  refine b_put (k := 3) (ty := .int) (x' := (xB x2, xC x2, 0, xM x2, xT x2)) X hz g2 (by decide) fb_1 rfl rfl (vp_nar_int _) rfl db_sl_78 ⟨hx2.1, Nat.zero_le _, hx2.2.2⟩ rfl rfl rfl (fun H3 lc3 g3 => ?_)
  exact b_vret X hret hlk g3 ⟨rfl, rfl⟩ (by omega) (by omega) db_sl_81
end B2
