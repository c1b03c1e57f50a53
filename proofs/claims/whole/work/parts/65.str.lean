/-! java.lang.String's charAt. -/
theorem Wld.blind2 {D : va_G} {tA : Nat → ClassId} {adr adV : Nat → Nat} {M : Mm} {sz : Nat} (vs : List Value) : FrameBlind (va_Pc vs (Wld D tA adr adV M sz)) := by
  intro a U g mk ⟨h, h1, h2, h3, h4, h5, h6⟩
  exact ⟨h, h1, h2, va_K.moved (u := U) (U := U.calling g mk a) (Vm.Alike.refl U.vm) h3, h4, Stc.moved (u := U) (U := U.calling g mk a) (Vm.Alike.refl U.vm) h5, Strs.same (u := U) (U := U.calling g mk a) rfl h6⟩
/-- behind a call, the frame's places kept as they are -/
theorem am_after2 {p : Program} {l : Launch} {e : Env} {R : Room} {s : State} {m : MethodId} {args : Array Value} {below : List Frame} {meth : Method} {c : Code} {Q : State → Prop} {D : va_G} {tA : Nat → ClassId} {adr : Nat → Nat} {M : Mm} {H : Heap} {locs : List Loc} {pc : Nat} {lsC : Array Slot} {st0 rest : List Value} {a : Array Value} {Qc : Option AV → Mm → Prop} (g : GD D tA adr s M H locs)
    (hr : va_Run p l e R s m args below meth c H locs 0 0 0 0 (F0 m pc lsC st0) rest (Qm D tA adr Qc (AA adr H.size) a) (AA adr H.size))
    (hk : ∀ v M' H' locs', Qc v M' → GD D tA adr s M' H' locs' → W p l e R s m args below meth c H' locs' 0 0 Q (F0 m (pc + 3) lsC ((v.map (cvA adr)).toList ++ rest))) : W p l e R s m args below meth c H locs 0 0 Q (F0 m pc lsC st0) := by
  intro T hT X
  obtain ⟨v, st₀, t, T', L, h0, X', hL, e1, e2, ⟨⟨v', M', hq, hv, hP, hD⟩, hz, hkk⟩, st⟩ := hr T hT X
  rw [h0] at hz hkk hD
  have hv' : v = v'.map (cvA adr) := by cases hv; rfl
  subst hv'
  have hS := g.2.2
  have hsub : ∀ q, AA adr H.size q → AA adr s.heap.size q := AA_mono hS.1
  have g1 : GD D tA adr s M' T'.heap (locs ++ L) := by
    refine ⟨by rw [e1]; exact hP, wsD_any _ hD, Nat.le_trans hS.1 (by rw [e1]; exact hz), fun q h1 h2 => ?_, fun q hq => ?_⟩
    · rw [e1, hkk q (Nat.lt_of_lt_of_le h1 hS.1) (fun z => h2 (hsub q z))]
      exact hS.2.1 q h1 h2
    · rcases List.mem_append.mp hq with h | h
      · exact hS.2.2 q h
      · exact hsub _ (hL q h)
  obtain ⟨t2, a1, b1⟩ := hk v' M' T'.heap (locs ++ L) hq g1 T' rfl X'
  exact ⟨t2, st t2 a1, b1⟩
theorem pcheck2_met {x n : Int} {z : Value} (hz : z.category = 1) (hx : inR x) (hn : inR n) (h0 : 0 ≤ x) (h1 : x < n) {M : Mm} {l : Launch} {D : va_G} {tA : Nat → ClassId} {adr adV : Nat → Nat} {sz : Nat} : Met l yPc wPc { frames := 0, cells := 0, slots := 0, locals := 0 } (va_Pc [.int (iN x), .int (iN n), z] (Wld D tA adr adV M sz)) (Qm D tA adr (fun v M' => v = some (.inl x) ∧ M' = M) (AA adr sz)) 0 0 (AA adr sz) := by
  refine Met.ofW (cc := prog_38_method_11_code) (maxL := 3) (ret := some .int) (by decide) rfl ?_
  intro p e s m args below meth c s₁ B hml hv
  obtain ⟨rfl, hsz, hP, hK, hD, hC, hR⟩ := hv
  subst hsz
  obtain ⟨⟨d0, d1, d4⟩, d5, d6, d16, d17⟩ := pc_c
  rw [lg_entry_eq]
  have hS : va_S (AA adr s.heap.size) s.heap s.heap [] := va_S.rf
  have n0 : ¬ iN x < 0 := fun q => by
    have := (iN_lt hx inR_0).mp q
    omega
  refine lv_iload_n (i := 0) (x := iN x) B.exec B.bytes d0 rfl ?_ ?_
  · simp [lg_sl, Value.category, hz]
  refine lv_if_lt (tgt := 9) B.exec B.bytes d1 (by decide) (fun q => absurd q n0) (fun _ => ?_)
  refine lv_iload_n (i := 0) (x := iN x) B.exec B.bytes d4 rfl ?_ ?_
  · simp [lg_sl, Value.category, hz]
  refine lv_iload_n (i := 1) (x := iN n) B.exec B.bytes d5 rfl ?_ ?_
  · simp [lg_sl, Value.category, hz]
  refine lv_icmp_lt (tgt := 16) B.exec B.bytes d6 (by decide) (fun _ => ?_) (fun q => absurd ((iN_lt hx hn).mpr h1) q)
  refine lv_iload_n (i := 0) (x := iN x) B.exec B.bytes d16 rfl ?_ ?_
  · simp [lg_sl, Value.category, hz]
  have post : ∀ t : State, t.heap = s.heap → Qm D tA adr (fun v M' => v = some (.inl x) ∧ M' = M) (AA adr s.heap.size) #[.int (iN x), .int (iN n), z] s (.returned ((some (.inl x : AV)).map (cvA adr))) t := fun t ht => ⟨⟨some (.inl x), M, ⟨rfl, rfl⟩, rfl, by rw [ht]; exact hP, hD⟩, hS.F ht⟩
  exact W.zret B.exec B.bytes (by rw [B.returns]) (vp_nar_int _) (fun t ht _ => post t ht) (fun q hq => absurd hq List.not_mem_nil) d17 B.notSynchronized
def yCi : MethodName := ⟨"java/lang/String", "checkIndex", "(II)V"⟩
def wCi : List Cond := Cond.code yCi prog_27_method_155_code 2 none :: gW
set_option maxRecDepth 100000 in
theorem ci_c : (decode prog_27_method_155_code 0 = .ok (.iload_n 0, 1) ∧ decode prog_27_method_155_code 1 = .ok (.iload_n 1, 1) ∧ decode prog_27_method_155_code 2 = .ok (.getstatic 1053, 3)) ∧ decode prog_27_method_155_code 5 = .ok (.invokestatic 1059, 3) ∧ decode prog_27_method_155_code 8 = .ok (.pop, 1) ∧ decode prog_27_method_155_code 9 = .ok (.return_, 1) := ⟨⟨rfl, rfl, rfl⟩, rfl, rfl, rfl⟩
set_option maxRecDepth 100000 in
theorem ci_w : Cond.fieldLink "java/lang/String" 1053 "jdk/internal/util/Preconditions" "SIOOBE_FORMATTER" "Ljava/util/function/BiFunction;" ∈ gW ∧ Cond.methodLink "java/lang/String" 1059 yPc ∈ gW ∧ Cond.static yPc ∈ gW ∧ Cond.initialized "jdk/internal/util/Preconditions" ∈ gW := ⟨gW_at (i := 1040) rfl rfl, gW_at (i := 1042) rfl rfl, gW_at (i := 1043) rfl rfl, gW_at (i := 126) rfl rfl⟩
set_option maxRecDepth 100000 in
theorem wPc_good : GoodIn gW wPc := by
  intro w hw
  rcases List.mem_cons.mp hw with rfl | hw
  · exact ⟨gW_at (i := 1044) rfl rfl, good_of_word rfl⟩
  · exact ⟨hw, good_of_word (List.mem_filter.mp hw).2⟩
theorem scheck_met {x n : Int} (hx : inR x) (hn : inR n) (h0 : 0 ≤ x) (h1 : x < n) {M : Mm} {l : Launch} {D : va_G} {tA : Nat → ClassId} {adr adV : Nat → Nat} {sz : Nat} : Met l yCi wCi { frames := 1, cells := 0, slots := 0, locals := 64 } (va_Pc [.int (iN x), .int (iN n)] (Wld D tA adr adV M sz)) (Qm D tA adr (fun v M' => v = none ∧ M' = M) (AA adr sz)) 0 0 (AA adr sz) := by
  refine Met.ofW (cc := prog_27_method_155_code) (maxL := 2) (ret := none) (by decide) rfl ?_
  intro p e s m args below meth c s₁ B hml hv
  obtain ⟨rfl, hsz, hP, hK, hD, hC, hR⟩ := hv
  subst hsz
  have hts := atoms_spec (ws := wCi) B.pre
  have hw : ∀ w ∈ gW, w.before #[.int (iN x), .int (iN n)] s = true := fun w h => hts w (List.mem_cons_of_mem _ h)
  have hown : s.vm.findClass "java/lang/String" = some m.cls := findClass_of_methodNamed B.named
  obtain ⟨⟨d0, d1, d2⟩, d5, d8, d9⟩ := ci_c
  obtain ⟨w1, w2, w3, w4⟩ := ci_w
  rw [lg_entry_eq]
  have hS : va_S (AA adr s.heap.size) s.heap s.heap [] := va_S.rf
  obtain ⟨z, hz, hZ⟩ : ∃ z : Value, z.category = 1 ∧ va_Z "jdk/internal/util/Preconditions" "SIOOBE_FORMATTER" "Ljava/util/function/BiFunction;" z (AA adr s.heap.size) s s.heap := by
    rcases hC.2.1.2.1 with h | ⟨t, h⟩
    · exact ⟨.null, rfl, h⟩
    · exact ⟨.ref t, rfl, h⟩
  refine lv_iload_n (i := 0) (x := iN x) B.exec B.bytes d0 rfl ?_ ?_
  · simp [lg_sl, Value.category]
  refine lv_iload_n (i := 1) (x := iN n) B.exec B.bytes d1 rfl ?_ ?_
  · simp [lg_sl, Value.category]
  refine va_gets (ref := "jdk/internal/util/Preconditions") B.exec B.bytes hZ hS hown (hw _ w1) (fun _ h => h) d2 ?_
  refine am_after2 (M := M) (rest := []) (Qc := fun v M' => v = some (.inl x) ∧ M' = M) (a := #[.int (iN x), .int (iN n), z]) ⟨hP, hD, hS⟩ ?_ ?_
  · refine va_runS (own := "java/lang/String") (Ts := gW) (nL := 2) (As := [.int (iN x), .int (iN n), z]) (n := 3) (bytes := prog_38_method_11_code) (maxL := 3) (ret := some .int) ⟨B.exec, B.bytes, hml, hown, hw⟩ (pcheck2_met hz hx hn h0 h1 (sz := s.heap.size)) ⟨callB_of 3 hw wPc_good rfl rfl rfl (hw _ w4) (hw _ w2) ⟨by decide, by decide, by decide⟩ ?_, hw _ w3⟩
      ⟨Wld.blind2 _, fun U hU hW => ⟨rfl, by rw [hU], by rw [hU]; exact hP, va_K.moved hW.alike hK, hD, by rw [hU]; exact Stc.moved hW.alike hC, hR.warm hW⟩⟩ rfl rfl ?_ rfl ?_ d5 ⟨Nat.zero_le _, Nat.zero_le _⟩
    · exact ⟨by decide, by decide⟩
    · simp [lg_sl, Value.category, F0]
    · refine lv_room (pc := 5) (ls := _) (rest := _) ?_
      simp [Value.category]
  · rintro _ M' H' locs' ⟨rfl, rfl⟩ g
    refine lv_pop (va := .int (iN x)) B.exec B.bytes d8 rfl ?_
    have post : ∀ t : State, t.heap = H' → Qm D tA adr (fun v M'' => v = none ∧ M'' = M') (AA adr s.heap.size) #[.int (iN x), .int (iN n)] s (.returned ((none : Option AV).map (cvA adr))) t := fun t ht => ⟨⟨none, M', ⟨rfl, rfl⟩, rfl, by rw [ht]; exact g.1, g.2.1⟩, g.2.2.F ht⟩
    exact W.vret B.exec B.bytes (by rw [B.returns]) (fun t ht _ => post t ht) g.2.2.2.2 d9 B.notSynchronized
def yLc : MethodName := ⟨"java/lang/StringLatin1", "charAt", "([BI)C"⟩
def wLc : List Cond := Cond.code yLc prog_29_method_2_code 2 (some .char) :: gW
set_option maxRecDepth 100000 in
theorem lc_c : (decode prog_29_method_2_code 0 = .ok (.iload_n 1, 1) ∧ decode prog_29_method_2_code 1 = .ok (.aload_n 0, 1) ∧ decode prog_29_method_2_code 2 = .ok (.arraylength, 1)) ∧ (decode prog_29_method_2_code 3 = .ok (.invokestatic 9, 3) ∧ decode prog_29_method_2_code 6 = .ok (.aload_n 0, 1) ∧ decode prog_29_method_2_code 7 = .ok (.iload_n 1, 1)) ∧ decode prog_29_method_2_code 8 = .ok (.baload, 1) ∧ decode prog_29_method_2_code 9 = .ok (.sipush 255, 3) ∧ decode prog_29_method_2_code 12 = .ok (.iand, 1) ∧ decode prog_29_method_2_code 13 = .ok (.i2c, 1) ∧ decode prog_29_method_2_code 14 = .ok (.ireturn, 1) := ⟨⟨rfl, rfl, rfl⟩, ⟨rfl, rfl, rfl⟩, rfl, rfl, rfl, rfl, rfl⟩
set_option maxRecDepth 100000 in
theorem lc_w : Cond.methodLink "java/lang/StringLatin1" 9 yCi ∈ gW ∧ Cond.static yCi ∈ gW ∧ Cond.initialized "java/lang/String" ∈ gW := ⟨gW_at (i := 1037) rfl rfl, gW_at (i := 1038) rfl rfl, gW_at (i := 116) rfl rfl⟩
set_option maxRecDepth 100000 in
theorem wCi_good : GoodIn gW wCi := by
  intro w hw
  rcases List.mem_cons.mp hw with rfl | hw
  · exact ⟨gW_at (i := 1039) rfl rfl, good_of_word rfl⟩
  · exact ⟨hw, good_of_word (List.mem_filter.mp hw).2⟩
/-- the sign k of text i -/
def strCh (i k : Nat) : Int := ((strByt.getD i []).getD k 0).toInt
theorem ch_tab : ∀ i, i < 7 → ∀ k, k < strLen.getD i 0 → (((((strByt.getD i []).getD k 0) &&& 255).toUInt32 % 65536).toInt32 = iN (strCh i k) ∧ narrow .char (.int (iN (strCh i k))) = .int (iN (strCh i k))) ∧ 97 ≤ strCh i k + (if i = 6 then 65 else 0) ∧ strCh i k ≤ 122 := by decide +kernel
theorem len_tab : ∀ i, i < 7 → strLen.getD i 0 ≤ 7 := by decide +kernel
theorem lchar_met {i k : Nat} (hi : i < 7) (hk : k < strLen.getD i 0) {M : Mm} {l : Launch} {D : va_G} {tA : Nat → ClassId} {adr adV : Nat → Nat} {sz : Nat} : Met l yLc wLc { frames := 2, cells := 0, slots := 0, locals := 128 } (va_Pc [.ref (adV i), .int (iN (k : Int))] (Wld D tA adr adV M sz)) (Qm D tA adr (fun v M' => v = some (.inl (strCh i k)) ∧ M' = M) (AA adr sz)) 0 0 (AA adr sz) := by
  refine Met.ofW (cc := prog_29_method_2_code) (maxL := 2) (ret := some .char) (by decide) rfl ?_
  intro p e s m args below meth c s₁ B hml hv
  obtain ⟨rfl, hsz, hP, hK, hD, hC, hR⟩ := hv
  subst hsz
  have hts := atoms_spec (ws := wLc) B.pre
  have hw : ∀ w ∈ gW, w.before #[.ref (adV i), .int (iN (k : Int))] s = true := fun w h => hts w (List.mem_cons_of_mem _ h)
  have hown : s.vm.findClass "java/lang/StringLatin1" = some m.cls := findClass_of_methodNamed B.named
  obtain ⟨⟨d0, d1, d2⟩, ⟨d3, d6, d7⟩, d8, d9, d12, d13, d14⟩ := lc_c
  obtain ⟨w1, w2, w3⟩ := lc_w
  obtain ⟨⟨t1, t2⟩, -⟩ := ch_tab i hi k hk
  have l7 := len_tab i hi
  rw [lg_entry_eq]
  have hS : va_S (AA adr s.heap.size) s.heap s.heap [] := va_S.rf
  refine lv_iload_n (i := 1) (x := iN (k : Int)) B.exec B.bytes d0 rfl ?_ ?_
  · simp [lg_sl, Value.category]
  refine lv_aload_n (i := 0) (x := adV i) B.exec B.bytes d1 rfl ?_ ?_
  · simp [lg_sl, Value.category]
  have e0 : Int32.ofNat (strLen.getD i 0) = iN ((strLen.getD i 0 : Nat) : Int) := Int32.toBitVec_inj.1 (BitVec.ofInt_natCast 32 (strLen.getD i 0)).symm
  refine va_tlen B.exec B.bytes (hC.1.1 i hi).2.2.2 hS e0 d2 ?_
  refine am_after2 (M := M) (rest := []) (Qc := fun v M' => v = none ∧ M' = M) (a := #[.int (iN (k : Int)), .int (iN ((strLen.getD i 0 : Nat) : Int))]) ⟨hP, hD, hS⟩ ?_ ?_
  · refine va_runS (own := "java/lang/StringLatin1") (Ts := gW) (nL := 2) (As := [.int (iN (k : Int)), .int (iN ((strLen.getD i 0 : Nat) : Int))]) (n := 2) (bytes := prog_27_method_155_code) (maxL := 2) (ret := none) ⟨B.exec, B.bytes, hml, hown, hw⟩ (scheck_met (x := (k : Int)) (n := ((strLen.getD i 0 : Nat) : Int)) ⟨by omega, by omega⟩ ⟨by omega, by omega⟩ (by omega) (by omega) (sz := s.heap.size)) ⟨callB_of 2 hw wCi_good rfl rfl rfl (hw _ w3) (hw _ w1) ⟨by decide, by decide, by decide⟩ ?_, hw _ w2⟩
      ⟨Wld.blind2 _, fun U hU hW => ⟨rfl, by rw [hU], by rw [hU]; exact hP, va_K.moved hW.alike hK, hD, by rw [hU]; exact Stc.moved hW.alike hC, hR.warm hW⟩⟩ rfl rfl ?_ rfl ?_ d3 ⟨Nat.zero_le _, Nat.zero_le _⟩
    · exact ⟨by decide, by decide⟩
    · simp [lg_sl, Value.category, F0]
    · refine lv_room (pc := 3) (ls := _) (rest := _) ?_
      simp [Value.category]
  · rintro _ M' H' locs' ⟨rfl, rfl⟩ g
    refine lv_aload_n (i := 0) (x := adV i) B.exec B.bytes d6 rfl ?_ ?_
    · simp [lg_sl, Value.category]
    refine lv_iload_n (i := 1) (x := iN (k : Int)) B.exec B.bytes d7 rfl ?_ ?_
    · simp [lg_sl, Value.category]
    refine va_tb (v := .int ((strByt.getD i []).getD k 0)) B.exec B.bytes (hC.1.1 i hi).2.2.2 g.2.2 (iN_in (by omega) (by omega) (by omega)) ?_ d8 ?_
    · rw [iN_clamp (by omega) (by omega)]
      rfl
    refine lv_sipush (v := 255) B.exec B.bytes d9 (by decide) ?_
    refine lv_iand B.exec B.bytes d12 ?_
    refine lv_i2c B.exec B.bytes d13 t1 ?_
    have post : ∀ t : State, t.heap = H' → Qm D tA adr (fun v M'' => v = some (.inl (strCh i k)) ∧ M'' = M') (AA adr s.heap.size) #[.ref (adV i), .int (iN (k : Int))] s (.returned ((some (.inl (strCh i k) : AV)).map (cvA adr))) t := fun t ht => ⟨⟨some (.inl (strCh i k)), M', ⟨rfl, rfl⟩, rfl, by rw [ht]; exact g.1, g.2.1⟩, g.2.2.F ht⟩
    exact W.zret B.exec B.bytes (by rw [B.returns]) t2 (fun t ht _ => post t ht) g.2.2.2.2 d14 B.notSynchronized
set_option maxRecDepth 100000 in
theorem ca_c : (decode (cM m_String_charAt) 0 = .ok (.aload_n 0, 1) ∧ decode (cM m_String_charAt) 1 = .ok (.invokevirtual 492, 3) ∧ decode (cM m_String_charAt) 4 = .ok (.ifCond .eq 12, 3)) ∧ (decode (cM m_String_charAt) 7 = .ok (.aload_n 0, 1) ∧ decode (cM m_String_charAt) 8 = .ok (.getfield 9, 3) ∧ decode (cM m_String_charAt) 11 = .ok (.iload_n 1, 1)) ∧ decode (cM m_String_charAt) 12 = .ok (.invokestatic 495, 3) ∧ decode (cM m_String_charAt) 15 = .ok (.ireturn, 1) := ⟨⟨rfl, rfl, rfl⟩, ⟨rfl, rfl, rfl⟩, rfl, rfl⟩
set_option maxRecDepth 100000 in
theorem ca_w : (Cond.methodLink "java/lang/String" 492 yLt ∈ gW ∧ Cond.instanceMethod yLt ∈ gW ∧ Cond.selects "java/lang/String" yLt yLt ∈ gW) ∧ Cond.methodLink "java/lang/String" 495 yLc ∈ gW ∧ Cond.static yLc ∈ gW ∧ Cond.initialized "java/lang/StringLatin1" ∈ gW := ⟨⟨gW_at (i := 1030) rfl rfl, gW_at (i := 1031) rfl rfl, gW_at (i := 1032) rfl rfl⟩, gW_at (i := 1034) rfl rfl, gW_at (i := 1035) rfl rfl, gW_at (i := 125) rfl rfl⟩
set_option maxRecDepth 100000 in
theorem wLt_good : GoodIn gW wLt := by
  intro w hw
  rcases List.mem_cons.mp hw with rfl | hw
  · exact ⟨gW_at (i := 1033) rfl rfl, good_of_word rfl⟩
  · exact ⟨hw, good_of_word (List.mem_filter.mp hw).2⟩
set_option maxRecDepth 100000 in
theorem wLc_good : GoodIn gW wLc := by
  intro w hw
  rcases List.mem_cons.mp hw with rfl | hw
  · exact ⟨gW_at (i := 1036) rfl rfl, good_of_word rfl⟩
  · exact ⟨hw, good_of_word (List.mem_filter.mp hw).2⟩
theorem String_charAt_ok {i k : Nat} (hi : i < 7) (hk : k < strLen.getD i 0) {M : Mm} : CallI m_String_charAt [.inr (NN + i), .inl (k : Int)] M (fun x M' => x = strCh i k ∧ M' = M) := by
  intro l D tA adr adV sz
  refine Met.ofW (cc := cM m_String_charAt) (maxL := 2) (ret := some .char) (by decide) rfl ?_
  intro p e s m args below meth c s₁ B hml hv
  obtain ⟨rfl, hsz, hP, hK, hD, hC, hR⟩ := hv
  subst hsz
  have hts := atoms_spec (ws := wM m_String_charAt) B.pre
  have hw : ∀ w ∈ gW, w.before (List.map (cvA adr) [.inr (NN + i), .inl (k : Int)]).toArray s = true := fun w h => hts w (List.mem_cons_of_mem _ h)
  have hown : s.vm.findClass "java/lang/String" = some m.cls := findClass_of_methodNamed B.named
  obtain ⟨⟨d0, d1, d4⟩, ⟨d7, d8, d11⟩, d12, d15⟩ := ca_c
  obtain ⟨⟨w1, w2, w3⟩, v1, v2, v3⟩ := ca_w
  obtain ⟨-, -, u3⟩ := cd_w
  obtain ⟨x1, -, -, -⟩ := ln_w
  obtain ⟨⟨-, t2⟩, -⟩ := ch_tab i hi k hk
  rw [lg_entry_eq]
  have hS : va_S (AA adr s.heap.size) s.heap s.heap [] := va_S.rf
  refine lv_aload_n (i := 0) (x := adr (NN + i)) B.exec B.bytes d0 rfl ?_ ?_
  · simp [lg_sl, cvA, Value.category]
  refine am_after2 (M := M) (rest := []) (Qc := fun v M' => v = some (.inl 1) ∧ M' = M) (a := #[cvA adr (.inr (NN + i))]) ⟨hP, hD, hS⟩ ?_ ?_
  · refine va_runV (own := "java/lang/String") (Ts := gW) (nL := 2) (As := []) (C := "java/lang/String") (n := 0) (bytes := prog_27_method_154_code) (maxL := 1) (ret := some .boolean) ⟨B.exec, B.bytes, hml, hown, hw⟩ (latin_met hi (sz := s.heap.size)) ⟨callB_of 0 hw wLt_good rfl rfl rfl (hw _ x1) (hw _ w1) ⟨by decide, by decide, by decide⟩ ?_, hw _ w2, hw _ w3⟩
      ⟨Wld.blind2 _, vk_recv (i := i) hC.1 hi hS, fun U hU hW => ⟨by simp [cvA], by rw [hU], by rw [hU]; exact hP, va_K.moved hW.alike hK, hD, by rw [hU]; exact Stc.moved hW.alike hC, hR.warm hW⟩⟩ rfl rfl ?_ rfl ?_ d1 ⟨Nat.zero_le _, Nat.zero_le _⟩
    · exact ⟨by decide, by decide⟩
    · simp [lg_sl, cvA, Value.category, F0]
    · refine lv_room (pc := 1) (ls := _) (rest := _) ?_
      simp [Value.category]
  · rintro _ M' H' locs' ⟨rfl, rfl⟩ g
    refine lv_if_eq (x := iN 1) (tgt := 16) B.exec B.bytes d4 (by decide) (fun z => absurd z (by decide)) (fun _ => ?_)
    refine lv_aload_n (i := 0) (x := adr (NN + i)) B.exec B.bytes d7 rfl ?_ ?_
    · simp [lg_sl, cvA, Value.category]
    refine vk_getf (ref := "java/lang/String") B.exec B.bytes (hC.1.1 i hi).2.2.1 g.2.2 hown (hw _ u3) (fun _ h => h) d8 ?_
    refine lv_iload_n (i := 1) (x := iN (k : Int)) B.exec B.bytes d11 rfl ?_ ?_
    · simp [lg_sl, cvA, Value.category]
    refine am_after2 (M := M') (rest := []) (Qc := fun v M'' => v = some (.inl (strCh i k)) ∧ M'' = M') (a := #[.ref (adV i), .int (iN (k : Int))]) g ?_ ?_
    · refine va_runS (own := "java/lang/String") (Ts := gW) (nL := 2) (As := [.ref (adV i), .int (iN (k : Int))]) (n := 2) (bytes := prog_29_method_2_code) (maxL := 2) (ret := some .char) ⟨B.exec, B.bytes, hml, hown, hw⟩ (lchar_met hi hk (sz := H'.size)) ⟨callB_of 2 hw wLc_good rfl rfl rfl (hw _ v3) (hw _ v1) ⟨by decide, by decide, by decide⟩ ?_, hw _ v2⟩
        ⟨Wld.blind2 _, fun U hU hW => ⟨rfl, by rw [hU], by rw [hU]; exact g.1, va_K.moved hW.alike hK, wsD_any _ g.2.1, by rw [hU]; exact Stc.moved hW.alike ((hC.kept g.2.2.2.1).narrow (AA_mono g.2.2.1)), hR.warm hW⟩⟩ rfl rfl ?_ rfl ?_ d12 ⟨Nat.zero_le _, Nat.zero_le _⟩
      · exact ⟨by decide, by decide⟩
      · simp [lg_sl, cvA, Value.category, F0]
      · refine lv_room (pc := 12) (ls := _) (rest := _) ?_
        simp [Value.category]
    · rintro _ M'' H2 locs2 ⟨rfl, rfl⟩ g2
      have post : ∀ t : State, t.heap = H2 → Qm D tA adr (fun v M' => ∃ x, v = some (.inl x) ∧ (fun x N => x = strCh i k ∧ N = M'') x M') (AA adr s.heap.size) (List.map (cvA adr) [.inr (NN + i), .inl (k : Int)]).toArray s (.returned ((some (.inl (strCh i k) : AV)).map (cvA adr))) t := fun t ht => ⟨⟨some (.inl (strCh i k)), M'', ⟨_, rfl, rfl, rfl⟩, rfl, by rw [ht]; exact g2.1, g2.2.1⟩, g2.2.2.F ht⟩
      exact W.zret B.exec B.bytes (by rw [B.returns]) t2 (fun t ht _ => post t ht) g2.2.2.2.2 d15 B.notSynchronized
