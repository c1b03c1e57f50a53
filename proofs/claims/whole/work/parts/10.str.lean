/-! java.lang.String's length. -/
def yCd : MethodName := ⟨"java/lang/String", "coder", "()B"⟩
def wCd : List Cond := Cond.code yCd prog_27_method_152_code 1 (some .byte) :: gW
set_option maxRecDepth 100000 in
theorem cd_c : (decode prog_27_method_152_code 0 = .ok (.getstatic 38, 3) ∧ decode prog_27_method_152_code 3 = .ok (.ifCond .eq 10, 3) ∧ decode prog_27_method_152_code 6 = .ok (.aload_n 0, 1)) ∧ decode prog_27_method_152_code 7 = .ok (.getfield 15, 3) ∧ decode prog_27_method_152_code 10 = .ok (.goto 4, 3) ∧ decode prog_27_method_152_code 14 = .ok (.ireturn, 1) := ⟨⟨rfl, rfl, rfl⟩, rfl, rfl, rfl⟩
set_option maxRecDepth 100000 in
theorem cd_w : Cond.fieldLink "java/lang/String" 38 "java/lang/String" "COMPACT_STRINGS" "Z" ∈ gW ∧ Cond.fieldLink "java/lang/String" 15 "java/lang/String" "coder" "B" ∈ gW ∧ Cond.fieldLink "java/lang/String" 9 "java/lang/String" "value" "[B" ∈ gW := ⟨gW_at (i := 1025) rfl rfl, gW_at (i := 1623) rfl rfl, gW_at (i := 1622) rfl rfl⟩
theorem coder_met {i : Nat} (hi : i < 7) {M : Mm} {l : Launch} {D : va_G} {tA : Nat → ClassId} {adr adV : Nat → Nat} {sz : Nat} : Met l yCd wCd { frames := 0, cells := 0, slots := 0, locals := 0 } (va_Pc [cvA adr (.inr (NN + i))] (Wld D tA adr adV M sz)) (Qm D tA adr (fun v M' => v = some (.inl 0) ∧ M' = M) (AA adr sz)) 0 0 (AA adr sz) := by
  refine Met.ofW (cc := prog_27_method_152_code) (maxL := 1) (ret := some .byte) (by decide) rfl ?_
  intro p e s m args below meth c s₁ B hml hv
  obtain ⟨rfl, hsz, hP, hK, hD, hC, hR⟩ := hv
  subst hsz
  have hts := atoms_spec (ws := wCd) B.pre
  have hw : ∀ w ∈ gW, w.before #[cvA adr (Sum.inr (NN + i))] s = true := fun w h => hts w (List.mem_cons_of_mem _ h)
  have hown : s.vm.findClass "java/lang/String" = some m.cls := findClass_of_methodNamed B.named
  obtain ⟨⟨d0, d3, d6⟩, d7, d10, d14⟩ := cd_c
  obtain ⟨w1, w2, w3⟩ := cd_w
  rw [lg_entry_eq]
  have hS : va_S (AA adr s.heap.size) s.heap s.heap [] := va_S.rf
  refine va_gets (ref := "java/lang/String") B.exec B.bytes hC.2.1.1 hS hown (hw _ w1) (fun _ h => h) d0 ?_
  refine lv_if_eq (tgt := 13) B.exec B.bytes d3 (by decide) (fun z => absurd z (by decide)) (fun _ => ?_)
  refine lv_aload_n (i := 0) (x := adr (NN + i)) B.exec B.bytes d6 rfl ?_ ?_
  · simp [lg_sl, cvA, Value.category]
  · refine vk_getf (ref := "java/lang/String") B.exec B.bytes (hC.1.1 i hi).2.1 hS hown (hw _ w2) (fun _ h => h) d7 ?_
    refine lv_goto (tgt := 14) B.exec B.bytes d10 (by decide) ?_
    have post : ∀ t : State, t.heap = s.heap → Qm D tA adr (fun v M' => v = some (.inl 0) ∧ M' = M) (AA adr s.heap.size) #[cvA adr (.inr (NN + i))] s (.returned ((some (.inl 0 : AV)).map (cvA adr))) t := fun t ht => ⟨⟨some (.inl 0), M, ⟨rfl, rfl⟩, rfl, by rw [ht]; exact hP, hD⟩, hS.F ht⟩
    exact W.zret B.exec B.bytes (by rw [B.returns]) (by rfl) (fun t ht _ => post t ht) (fun q hq => absurd hq List.not_mem_nil) d14 B.notSynchronized
set_option maxRecDepth 100000 in
theorem wCd_good : GoodIn gW wCd := by
  intro w hw
  rcases List.mem_cons.mp hw with rfl | hw
  · exact ⟨gW_at (i := 1024) rfl rfl, good_of_word rfl⟩
  · exact ⟨hw, good_of_word (List.mem_filter.mp hw).2⟩
set_option maxRecDepth 100000 in
theorem ln_w : Cond.initialized "java/lang/String" ∈ gW ∧ Cond.methodLink "java/lang/String" 335 yCd ∈ gW ∧ Cond.instanceMethod yCd ∈ gW ∧ Cond.selects "java/lang/String" yCd yCd ∈ gW := ⟨gW_at (i := 116) rfl rfl, gW_at (i := 1021) rfl rfl, gW_at (i := 1022) rfl rfl, gW_at (i := 1023) rfl rfl⟩
set_option maxRecDepth 100000 in
theorem ln_c : (decode (cM m_String_length) 0 = .ok (.aload_n 0, 1) ∧ decode (cM m_String_length) 1 = .ok (.getfield 9, 3) ∧ decode (cM m_String_length) 4 = .ok (.arraylength, 1)) ∧ decode (cM m_String_length) 5 = .ok (.aload_n 0, 1) ∧ decode (cM m_String_length) 6 = .ok (.invokevirtual 335, 3) ∧ decode (cM m_String_length) 9 = .ok (.ishr, 1) ∧ decode (cM m_String_length) 10 = .ok (.ireturn, 1) := ⟨⟨rfl, rfl, rfl⟩, rfl, rfl, rfl, rfl⟩
theorem sh0 : ∀ i, i < 7 → iN ((strLen.getD i 0 : Nat) : Int) >>> (iN 0 &&& 31) = iN ((strLen.getD i 0 : Nat) : Int) := by decide +kernel
theorem String_length_ok {i : Nat} (hi : i < 7) {M : Mm} : CallI m_String_length [.inr (NN + i)] M (fun x M' => x = (strLen.getD i 0 : Nat) ∧ M' = M) := by
  intro l D tA adr adV sz
  refine Met.ofW (cc := cM m_String_length) (maxL := 1) (ret := some .int) (by decide) rfl ?_
  intro p e s m args below meth c s₁ B hml hv
  obtain ⟨rfl, hsz, hP, hK, hD, hC, hR⟩ := hv
  subst hsz
  have hts := atoms_spec (ws := wM m_String_length) B.pre
  have hw : ∀ w ∈ gW, w.before (List.map (cvA adr) [Sum.inr (NN + i)]).toArray s = true := fun w h => hts w (List.mem_cons_of_mem _ h)
  have hown : s.vm.findClass "java/lang/String" = some m.cls := findClass_of_methodNamed B.named
  obtain ⟨⟨d0, d1, d4⟩, d5, d6, d9, d10⟩ := ln_c
  obtain ⟨w1, w2, w3⟩ := cd_w
  obtain ⟨v1, v2, v3, v4⟩ := ln_w
  rw [lg_entry_eq]
  have hS : va_S (AA adr s.heap.size) s.heap s.heap [] := va_S.rf
  have hl : LOK adr 1 ((lg_sl (([.inr (NN + i)] : List AV).map (cvA adr)) ++ List.replicate (1 - (lg_sl (([.inr (NN + i)] : List AV).map (cvA adr))).length) Slot.unset).toArray) (am_ent [.inr (NN + i)] 1) := ent_LOK (Nat.le_refl 1)
  refine lv_aload_n (i := 0) (x := adr (NN + i)) B.exec B.bytes d0 rfl ?_ ?_
  · simp [lg_sl, cvA, Value.category]
  refine vk_getf (ref := "java/lang/String") B.exec B.bytes (hC.1.1 i hi).2.2.1 hS hown (hw _ w3) (fun _ h => h) d1 ?_
  have e0 : Int32.ofNat (strLen.getD i 0) = iN ((strLen.getD i 0 : Nat) : Int) := Int32.toBitVec_inj.1 (BitVec.ofInt_natCast 32 (strLen.getD i 0)).symm
  refine va_tlen B.exec B.bytes (hC.1.1 i hi).2.2.2 hS e0 d4 ?_
  refine lv_aload_n (i := 0) (x := adr (NN + i)) B.exec B.bytes d5 rfl ?_ ?_
  · simp [lg_sl, cvA, Value.category]
  refine am_after (mi := m_String_length) (M := M) (rest := [cvA adr (.inl (strLen.getD i 0 : Nat))]) (r := [.inl (strLen.getD i 0 : Nat)]) (Qc := fun v M' => v = some (.inl 0) ∧ M' = M) (a := #[cvA adr (.inr (NN + i))]) rfl ⟨hP, hD, hS⟩ hl ?_ ?_
  · refine va_runV (own := "java/lang/String") (Ts := gW) (nL := 1) (As := []) (C := "java/lang/String") (n := 0) (bytes := prog_27_method_152_code) (maxL := 1) (ret := some .byte) ⟨B.exec, B.bytes, hml, hown, hw⟩ (coder_met hi (sz := s.heap.size)) ⟨callB_of 0 hw wCd_good rfl rfl rfl (hw _ v1) (hw _ v2) ⟨by decide, by decide, by decide⟩ ?_, hw _ v3, hw _ v4⟩
      ⟨Wld.blind [.inr (NN + i)], vk_recv (i := i) hC.1 hi hS, fun U hU hW => ⟨by simp [cvA], by rw [hU], by rw [hU]; exact hP, va_K.moved hW.alike hK, hD, by rw [hU]; exact Stc.moved hW.alike hC, hR.warm hW⟩⟩ rfl rfl hl.1 rfl ?_ d6 ⟨Nat.zero_le _, Nat.zero_le _⟩
    · exact ⟨by decide, by decide⟩
    · refine lv_room (pc := 6) (ls := _) (rest := _) ?_
      simp [cvA, Value.category]
  · rintro _ M' ⟨rfl, hM⟩
    rw [hM]
    intro H locs lsC g hl2
    refine lv_ishr B.exec B.bytes d9 ?_
    rw [sh0 i hi]
    have post : ∀ t : State, t.heap = H → Qm D tA adr (fun v M' => ∃ x, v = some (.inl x) ∧ (fun x M' => x = ((strLen.getD i 0 : Nat) : Int) ∧ M' = M) x M') (AA adr s.heap.size) (List.map (cvA adr) [Sum.inr (NN + i)]).toArray s (.returned ((some (.inl ((strLen.getD i 0 : Nat) : Int) : AV)).map (cvA adr))) t := fun t ht => ⟨⟨some (.inl ((strLen.getD i 0 : Nat) : Int)), M, ⟨_, rfl, rfl, rfl⟩, rfl, by rw [ht]; exact g.1, g.2.1⟩, g.2.2.F ht⟩
    exact W.zret B.exec B.bytes (by rw [B.returns]) (vp_nar_int _) (fun t ht _ => post t ht) g.2.2.2.2 d10 B.notSynchronized
def yLt : MethodName := ⟨"java/lang/String", "isLatin1", "()Z"⟩
def wLt : List Cond := Cond.code yLt prog_27_method_154_code 1 (some .boolean) :: gW
set_option maxRecDepth 100000 in
theorem lt_c : (decode prog_27_method_154_code 0 = .ok (.getstatic 38, 3) ∧ decode prog_27_method_154_code 3 = .ok (.ifCond .eq 14, 3) ∧ decode prog_27_method_154_code 6 = .ok (.aload_n 0, 1)) ∧ (decode prog_27_method_154_code 7 = .ok (.getfield 15, 3) ∧ decode prog_27_method_154_code 10 = .ok (.ifCond .ne 7, 3)) ∧ decode prog_27_method_154_code 13 = .ok (.iconst 1, 1) ∧ decode prog_27_method_154_code 14 = .ok (.goto 4, 3) ∧ decode prog_27_method_154_code 18 = .ok (.ireturn, 1) := ⟨⟨rfl, rfl, rfl⟩, ⟨rfl, rfl⟩, rfl, rfl, rfl⟩
theorem latin_met {i : Nat} (hi : i < 7) {M : Mm} {l : Launch} {D : va_G} {tA : Nat → ClassId} {adr adV : Nat → Nat} {sz : Nat} : Met l yLt wLt { frames := 0, cells := 0, slots := 0, locals := 0 } (va_Pc [cvA adr (.inr (NN + i))] (Wld D tA adr adV M sz)) (Qm D tA adr (fun v M' => v = some (.inl 1) ∧ M' = M) (AA adr sz)) 0 0 (AA adr sz) := by
  refine Met.ofW (cc := prog_27_method_154_code) (maxL := 1) (ret := some .boolean) (by decide) rfl ?_
  intro p e s m args below meth c s₁ B hml hv
  obtain ⟨rfl, hsz, hP, hK, hD, hC, hR⟩ := hv
  subst hsz
  have hts := atoms_spec (ws := wLt) B.pre
  have hw : ∀ w ∈ gW, w.before #[cvA adr (Sum.inr (NN + i))] s = true := fun w h => hts w (List.mem_cons_of_mem _ h)
  have hown : s.vm.findClass "java/lang/String" = some m.cls := findClass_of_methodNamed B.named
  obtain ⟨⟨d0, d3, d6⟩, ⟨d7, d10⟩, d13, d14, d18⟩ := lt_c
  obtain ⟨w1, w2, w3⟩ := cd_w
  rw [lg_entry_eq]
  have hS : va_S (AA adr s.heap.size) s.heap s.heap [] := va_S.rf
  refine va_gets (ref := "java/lang/String") B.exec B.bytes hC.2.1.1 hS hown (hw _ w1) (fun _ h => h) d0 ?_
  refine lv_if_eq (tgt := 17) B.exec B.bytes d3 (by decide) (fun z => absurd z (by decide)) (fun _ => ?_)
  refine lv_aload_n (i := 0) (x := adr (NN + i)) B.exec B.bytes d6 rfl ?_ ?_
  · simp [lg_sl, cvA, Value.category]
  refine vk_getf (ref := "java/lang/String") B.exec B.bytes (hC.1.1 i hi).2.1 hS hown (hw _ w2) (fun _ h => h) d7 ?_
  refine lv_if_ne (tgt := 17) B.exec B.bytes d10 (by decide) (fun z => absurd rfl z) (fun _ => ?_)
  refine lv_iconst (v := 1) B.exec B.bytes d13 rfl ?_
  refine lv_goto (tgt := 18) B.exec B.bytes d14 (by decide) ?_
  have post : ∀ t : State, t.heap = s.heap → Qm D tA adr (fun v M' => v = some (.inl 1) ∧ M' = M) (AA adr s.heap.size) #[cvA adr (.inr (NN + i))] s (.returned ((some (.inl 1 : AV)).map (cvA adr))) t := fun t ht => ⟨⟨some (.inl 1), M, ⟨rfl, rfl⟩, rfl, by rw [ht]; exact hP, hD⟩, hS.F ht⟩
  exact W.zret B.exec B.bytes (by rw [B.returns]) (by rfl) (fun t ht _ => post t ht) (fun q hq => absurd hq List.not_mem_nil) d18 B.notSynchronized
def yPc : MethodName := ⟨"jdk/internal/util/Preconditions", "checkIndex", "(IILjava/util/function/BiFunction;)I"⟩
def wPc : List Cond := Cond.code yPc prog_38_method_11_code 3 (some .int) :: gW
set_option maxRecDepth 100000 in
theorem pc_c : (decode prog_38_method_11_code 0 = .ok (.iload_n 0, 1) ∧ decode prog_38_method_11_code 1 = .ok (.ifCond .lt 8, 3) ∧ decode prog_38_method_11_code 4 = .ok (.iload_n 0, 1)) ∧ decode prog_38_method_11_code 5 = .ok (.iload_n 1, 1) ∧ decode prog_38_method_11_code 6 = .ok (.if_icmp .lt 10, 3) ∧ decode prog_38_method_11_code 16 = .ok (.iload_n 0, 1) ∧ decode prog_38_method_11_code 17 = .ok (.ireturn, 1) := ⟨⟨rfl, rfl, rfl⟩, rfl, rfl, rfl, rfl⟩
theorem pcheck_met {x n : Int} {z : Nat} (hx : inR x) (hn : inR n) (h0 : 0 ≤ x) (h1 : x < n) {M : Mm} {l : Launch} {D : va_G} {tA : Nat → ClassId} {adr adV : Nat → Nat} {sz : Nat} : Met l yPc wPc { frames := 0, cells := 0, slots := 0, locals := 0 } (va_Pc [.int (iN x), .int (iN n), .ref z] (Wld D tA adr adV M sz)) (Qm D tA adr (fun v M' => v = some (.inl x) ∧ M' = M) (AA adr sz)) 0 0 (AA adr sz) := by
  refine Met.ofW (cc := prog_38_method_11_code) (maxL := 3) (ret := some .int) (by decide) rfl ?_
  intro p e s m args below meth c s₁ B hml hv
  obtain ⟨rfl, hsz, hP, hK, hD, hC, hR⟩ := hv
  subst hsz
  obtain ⟨⟨d0, d1, d4⟩, d5, d6, d16, d17⟩ := pc_c
  rw [lg_entry_eq]
  have hS : va_S (AA adr s.heap.size) s.heap s.heap [] := va_S.rf
  have n0 : ¬ iN x < 0 := fun q => by
    have := (iN_lt hx inR_0).mp q
    omega
  refine lv_iload_n (i := 0) (x := iN x) B.exec B.bytes d0 rfl ?_ ?_
  · simp [lg_sl, Value.category]
  refine lv_if_lt (tgt := 9) B.exec B.bytes d1 (by decide) (fun q => absurd q n0) (fun _ => ?_)
  refine lv_iload_n (i := 0) (x := iN x) B.exec B.bytes d4 rfl ?_ ?_
  · simp [lg_sl, Value.category]
  refine lv_iload_n (i := 1) (x := iN n) B.exec B.bytes d5 rfl ?_ ?_
  · simp [lg_sl, Value.category]
  refine lv_icmp_lt (tgt := 16) B.exec B.bytes d6 (by decide) (fun _ => ?_) (fun q => absurd ((iN_lt hx hn).mpr h1) q)
  refine lv_iload_n (i := 0) (x := iN x) B.exec B.bytes d16 rfl ?_ ?_
  · simp [lg_sl, Value.category]
  have post : ∀ t : State, t.heap = s.heap → Qm D tA adr (fun v M' => v = some (.inl x) ∧ M' = M) (AA adr s.heap.size) #[.int (iN x), .int (iN n), .ref z] s (.returned ((some (.inl x : AV)).map (cvA adr))) t := fun t ht => ⟨⟨some (.inl x), M, ⟨rfl, rfl⟩, rfl, by rw [ht]; exact hP, hD⟩, hS.F ht⟩
  exact W.zret B.exec B.bytes (by rw [B.returns]) (vp_nar_int _) (fun t ht _ => post t ht) (fun q hq => absurd hq List.not_mem_nil) d17 B.notSynchronized
