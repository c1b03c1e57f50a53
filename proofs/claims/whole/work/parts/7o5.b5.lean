/-! THE BUILDER, 5: a text put behind; a sign read (printed by wip/whole/g7b.py). -/
/-- the text 'timber ' -/
def tbW : List Int := [116, 105, 109, 98, 101, 114, 32]
theorem tbW_b : ∀ j, j < 7 → (strByt.getD 6 []).getD j 0 = iN (tbW.getD j 0) := by decide +kernel
theorem tbW_in : ∀ j, 0 ≤ tbW.getD j 0 ∧ tbW.getD j 0 ≤ 127 := fun j => by
  rcases Nat.lt_or_ge j 7 with h | h
  · exact (show ∀ j, j < 7 → 0 ≤ tbW.getD j 0 ∧ tbW.getD j 0 ≤ 127 by decide +kernel) j h
  · have e : tbW.getD j 0 = 0 := by rw [List.getD_eq_getElem?_getD, List.getElem?_eq_none (by show 7 ≤ j; omega)]; rfl
    rw [e]; omega
def cpT (T : Nat → Int) (i : Nat) : Nat → Int := fun k => if i ≤ k ∧ k < i + 7 then tbW.getD (k - i) 0 else T k
theorem cpT_ok {T : Nat → Int} {i : Nat} (h : tOk T) : tOk (cpT T i) := fun k => by
  unfold cpT
  split
  · exact tbW_in _
  · exact h k
section B2
variable {bs : Nat}
def yb_sc : MethodName := ⟨"java/lang/String", "coder", "()B"⟩
set_option maxRecDepth 100000 in
theorem cs_sc : Cond.fieldLink "java/lang/String" 38 "java/lang/String" "COMPACT_STRINGS" "Z" ∈ gW := gW_at (i := 1025) rfl rfl
set_option maxRecDepth 100000 in
theorem db_sc_0 : decode prog_27_method_152_code 0 = .ok (.getstatic 38, 3) := rfl
set_option maxRecDepth 100000 in
theorem db_sc_3 : decode prog_27_method_152_code 3 = .ok (.ifCond .eq 10, 3) := rfl
set_option maxRecDepth 100000 in
theorem db_sc_6 : decode prog_27_method_152_code 6 = .ok (.aload_n 0, 1) := rfl
set_option maxRecDepth 100000 in
theorem sf_sc_coder_7 : Cond.fieldLink "java/lang/String" 15 "java/lang/String" "coder" "B" ∈ gW := gW_at (i := 1623) rfl rfl
set_option maxRecDepth 100000 in
theorem db_sc_7 : decode prog_27_method_152_code 7 = .ok (.getfield 15, 3) := rfl
set_option maxRecDepth 100000 in
theorem db_sc_10 : decode prog_27_method_152_code 10 = .ok (.goto 4, 3) := rfl
set_option maxRecDepth 100000 in
theorem db_sc_14 : decode prog_27_method_152_code 14 = .ok (.ireturn, 1) := rfl
set_option maxHeartbeats 4000000 in
set_option maxRecDepth 100000 in
theorem b_scoder : BC yb_sc prog_27_method_152_code 1 (some .byte) 0 0 0 0 bs (fun x adr => [.ref (adr (NN + 6))]) (fun x => True) (fun x v x' => v = some (.int (iN 0)) ∧ x' = x) := by
  refine bc_of (by decide) rfl (fun _ _ => by simp [lg_sl, Value.category]) ?_
  intro p l e s m args below meth c D tA n0 adr adV sz x ls hP X hz g hret hlk hl
  have hl : lv_has ls 1 [(0, .ref (adr (NN + 6)))] := hl
  refine va_gets (ref := "java/lang/String") X.1 X.2.1 hz.2.2.1.2.1.1 (hz.S g) X.2.2.2.1 (X.2.2.2.2 _ cs_sc) (fun _ h => h) db_sc_0 ?_
  refine lv_if_eq (tgt := 13) X.1 X.2.1 db_sc_3 (by decide) (fun h => absurd h (by decide)) (fun _ => ?_)
  refine lv_aload_n (i := 0) (x := (adr (NN + 6))) X.1 X.2.1 db_sc_6 rfl (lv_at hl 0 rfl) ?_
  refine vk_getf (ref := "java/lang/String") X.1 X.2.1 (hz.2.2.1.1.1 6 (by decide)).2.1 (hz.S g) X.2.2.2.1 (X.2.2.2.2 _ sf_sc_coder_7) (fun _ h => h) db_sc_7 ?_
  refine lv_goto (tgt := 14) X.1 X.2.1 db_sc_10 (by decide) ?_
  exact b_zret (v := iN 0) X hret (by first | rfl | exact vp_nar_int _) hlk g ⟨rfl, rfl⟩ (by omega) (by omega) db_sc_14
def yb_sn : MethodName := ⟨"java/lang/String", "length", "()I"⟩
set_option maxRecDepth 100000 in
theorem db_sn_0 : decode prog_27_method_54_code 0 = .ok (.aload_n 0, 1) := rfl
set_option maxRecDepth 100000 in
theorem sf_sn_value_1 : Cond.fieldLink "java/lang/String" 9 "java/lang/String" "value" "[B" ∈ gW := gW_at (i := 1622) rfl rfl
set_option maxRecDepth 100000 in
theorem db_sn_1 : decode prog_27_method_54_code 1 = .ok (.getfield 9, 3) := rfl
set_option maxRecDepth 100000 in
theorem db_sn_4 : decode prog_27_method_54_code 4 = .ok (.arraylength, 1) := rfl
set_option maxRecDepth 100000 in
theorem db_sn_5 : decode prog_27_method_54_code 5 = .ok (.aload_n 0, 1) := rfl
set_option maxRecDepth 100000 in
theorem wb_8 : BWd 0 "java/lang/String" 335 yb_sc prog_27_method_152_code 1 (some .byte) "java/lang/String" 0 := ⟨⟨⟨gW_at (i := 1021) rfl rfl, gW_at (i := 116) rfl rfl, gW_at (i := 1024) rfl rfl⟩, ⟨by decide, by decide, rfl⟩, by decide⟩, gW_at (i := 1022) rfl rfl, gW_at (i := 1023) rfl rfl⟩
set_option maxRecDepth 100000 in
theorem db_sn_6 : decode prog_27_method_54_code 6 = .ok (.invokevirtual 335, 3) := rfl
set_option maxRecDepth 100000 in
theorem db_sn_9 : decode prog_27_method_54_code 9 = .ok (.ishr, 1) := rfl
set_option maxRecDepth 100000 in
theorem db_sn_10 : decode prog_27_method_54_code 10 = .ok (.ireturn, 1) := rfl
set_option maxHeartbeats 4000000 in
set_option maxRecDepth 100000 in
theorem b_slength : BC yb_sn prog_27_method_54_code 1 (some .int) 1 40 0 0 bs (fun x adr => [.ref (adr (NN + 6))]) (fun x => True) (fun x v x' => v = some (.int (iN 7)) ∧ x' = x) := by
  refine bc_of (by decide) rfl (fun _ _ => by simp [lg_sl, Value.category]) ?_
  intro p l e s m args below meth c D tA n0 adr adV sz x ls hP X hz g hret hlk hl
  have hl : lv_has ls 1 [(0, .ref (adr (NN + 6)))] := hl
  refine lv_aload_n (i := 0) (x := (adr (NN + 6))) X.1 X.2.1 db_sn_0 rfl (lv_at hl 0 rfl) ?_
  refine vk_getf (ref := "java/lang/String") X.1 X.2.1 (hz.2.2.1.1.1 6 (by decide)).2.2.1 (hz.S g) X.2.2.2.1 (X.2.2.2.2 _ sf_sn_value_1) (fun _ h => h) db_sn_1 ?_
  refine va_tlen X.1 X.2.1 (hz.2.2.1.1.1 6 (by decide)).2.2.2 (hz.S g) (v := iN 7) (by decide) db_sn_4 ?_
  refine lv_aload_n (i := 0) (x := (adr (NN + 6))) X.1 X.2.1 db_sn_5 rfl (lv_at hl 0 rfl) ?_
  refine b_callV (As := []) (rest := [.int (iN 7)]) X hz g (b_scoder) trivial wb_8 rfl rfl (vk_recv hz.2.2.1.1 (i := 6) (by decide) (hz.S g)) hl.1 ⟨by decide, by decide⟩ ⟨by decide, by decide⟩ (by simp [Value.category]) rfl db_sn_6 (fun v x1 H1 lc1 hv1 g1 => ?_)
  obtain ⟨rfl, rfl⟩ := hv1
  refine lv_ishr X.1 X.2.1 db_sn_9 ?_
  rw [sh_r0]
  exact b_zret (v := iN 7) X hret (by first | rfl | exact vp_nar_int _) hlk g1 ⟨rfl, rfl⟩ (by omega) (by omega) db_sn_10
def yb_gb : MethodName := ⟨"java/lang/String", "getBytes", "([BIB)V"⟩
set_option maxRecDepth 100000 in
theorem db_gb_0 : decode prog_27_method_147_code 0 = .ok (.aload_n 0, 1) := rfl
set_option maxRecDepth 100000 in
theorem db_gb_1 : decode prog_27_method_147_code 1 = .ok (.invokevirtual 335, 3) := rfl
set_option maxRecDepth 100000 in
theorem db_gb_4 : decode prog_27_method_147_code 4 = .ok (.iload_n 3, 1) := rfl
set_option maxRecDepth 100000 in
theorem db_gb_5 : decode prog_27_method_147_code 5 = .ok (.if_icmp .ne 23, 3) := rfl
set_option maxRecDepth 100000 in
theorem db_gb_8 : decode prog_27_method_147_code 8 = .ok (.aload_n 0, 1) := rfl
set_option maxRecDepth 100000 in
theorem sf_gb_value_9 : Cond.fieldLink "java/lang/String" 9 "java/lang/String" "value" "[B" ∈ gW := gW_at (i := 1622) rfl rfl
set_option maxRecDepth 100000 in
theorem db_gb_9 : decode prog_27_method_147_code 9 = .ok (.getfield 9, 3) := rfl
set_option maxRecDepth 100000 in
theorem db_gb_12 : decode prog_27_method_147_code 12 = .ok (.iconst 0, 1) := rfl
set_option maxRecDepth 100000 in
theorem db_gb_13 : decode prog_27_method_147_code 13 = .ok (.aload_n 1, 1) := rfl
set_option maxRecDepth 100000 in
theorem db_gb_14 : decode prog_27_method_147_code 14 = .ok (.iload_n 2, 1) := rfl
set_option maxRecDepth 100000 in
theorem db_gb_15 : decode prog_27_method_147_code 15 = .ok (.iload_n 3, 1) := rfl
set_option maxRecDepth 100000 in
theorem db_gb_16 : decode prog_27_method_147_code 16 = .ok (.ishl, 1) := rfl
set_option maxRecDepth 100000 in
theorem db_gb_17 : decode prog_27_method_147_code 17 = .ok (.aload_n 0, 1) := rfl
set_option maxRecDepth 100000 in
theorem sf_gb_value_18 : Cond.fieldLink "java/lang/String" 9 "java/lang/String" "value" "[B" ∈ gW := gW_at (i := 1622) rfl rfl
set_option maxRecDepth 100000 in
theorem db_gb_18 : decode prog_27_method_147_code 18 = .ok (.getfield 9, 3) := rfl
set_option maxRecDepth 100000 in
theorem db_gb_21 : decode prog_27_method_147_code 21 = .ok (.arraylength, 1) := rfl
set_option maxRecDepth 100000 in
theorem ac_gb : Cond.methodLink "java/lang/String" 212 arraycopyName ∈ gW ∧ Cond.native arraycopyName ∈ gW ∧ Cond.static arraycopyName ∈ gW ∧ Cond.initialized "java/lang/System" ∈ gW := ⟨gW_at (i := 1534) rfl rfl, gW_at (i := 1456) rfl rfl, gW_at (i := 1455) rfl rfl, gW_at (i := 132) rfl rfl⟩
set_option maxRecDepth 100000 in
theorem db_gb_22 : decode prog_27_method_147_code 22 = .ok (.invokestatic 212, 3) := rfl
set_option maxRecDepth 100000 in
theorem db_gb_25 : decode prog_27_method_147_code 25 = .ok (.goto 18, 3) := rfl
set_option maxRecDepth 100000 in
theorem db_gb_43 : decode prog_27_method_147_code 43 = .ok (.return_, 1) := rfl
set_option maxHeartbeats 4000000 in
set_option maxRecDepth 100000 in
theorem b_getBytes {i : Int} : BC yb_gb prog_27_method_147_code 4 none 1 200 0 0 bs (fun x adr => [.ref (adr (NN + 6)), .ref (xB x), .int (iN i), .int (iN 0)]) (fun x => 0 ≤ i ∧ i + 7 ≤ (xC x : Int)) (fun x v x' => v = none ∧ xC x' = xC x ∧ xN x' = xN x ∧ xT x' = cpT (xT x) i.toNat) := by
  refine bc_of (by decide) rfl (fun _ _ => by simp [lg_sl, Value.category]) ?_
  intro p l e s m args below meth c D tA n0 adr adV sz x ls hP X hz g hret hlk hl
  have hl : lv_has ls 4 [(0, .ref (adr (NN + 6))), (1, .ref (xB x)), (2, .int (iN i)), (3, .int (iN 0))] := hl
  refine lv_aload_n (i := 0) (x := (adr (NN + 6))) X.1 X.2.1 db_gb_0 rfl (lv_at hl 0 rfl) ?_
  refine b_callV (As := []) (rest := []) X hz g (b_scoder) trivial wb_8 rfl rfl (vk_recv hz.2.2.1.1 (i := 6) (by decide) (hz.S g)) hl.1 ⟨by decide, by decide⟩ ⟨by decide, by decide⟩ (by simp [Value.category]) rfl db_gb_1 (fun v x1 H1 lc1 hv1 g1 => ?_)
  obtain ⟨rfl, rfl⟩ := hv1
  refine lv_iload_n (i := 3) (x := iN 0) X.1 X.2.1 db_gb_4 rfl (lv_at hl 3 rfl) ?_
  refine lv_icmp_ne (tgt := 28) X.1 X.2.1 db_gb_5 (by decide) (fun h => absurd h (fun z => z rfl)) (fun _ => ?_)
  refine lv_aload_n (i := 0) (x := (adr (NN + 6))) X.1 X.2.1 db_gb_8 rfl (lv_at hl 0 rfl) ?_
  refine vk_getf (ref := "java/lang/String") X.1 X.2.1 (hz.2.2.1.1.1 6 (by decide)).2.2.1 (hz.S g1) X.2.2.2.1 (X.2.2.2.2 _ sf_gb_value_9) (fun _ h => h) db_gb_9 ?_
  refine lv_iconst (v := iN 0) X.1 X.2.1 db_gb_12 (by decide) ?_
  refine lv_aload_n (i := 1) (x := (xB x1)) X.1 X.2.1 db_gb_13 rfl (lv_at hl 1 rfl) ?_
  refine lv_iload_n (i := 2) (x := iN i) X.1 X.2.1 db_gb_14 rfl (lv_at hl 2 rfl) ?_
  refine lv_iload_n (i := 3) (x := iN 0) X.1 X.2.1 db_gb_15 rfl (lv_at hl 3 rfl) ?_
  refine lv_ishl X.1 X.2.1 db_gb_16 ?_
  rw [sh_l0]
  refine lv_aload_n (i := 0) (x := (adr (NN + 6))) X.1 X.2.1 db_gb_17 rfl (lv_at hl 0 rfl) ?_
  refine vk_getf (ref := "java/lang/String") X.1 X.2.1 (hz.2.2.1.1.1 6 (by decide)).2.2.1 (hz.S g1) X.2.2.2.1 (X.2.2.2.2 _ sf_gb_value_18) (fun _ h => h) db_gb_18 ?_
  refine va_tlen X.1 X.2.1 (hz.2.2.1.1.1 6 (by decide)).2.2.2 (hz.S g1) (v := iN 7) (by decide) db_gb_21 ?_
  have c0 : (iN 0).toNatClampNeg = 0 := by decide
  have c7 : (iN 7).toNatClampNeg = 7 := by decide
  have hC : xC x1 ≤ 142 := by rcases g1.2.2.1.1 with h | h | h | h <;> omega
  obtain ⟨i0, i1⟩ := hP
  have cI : (iN i).toNatClampNeg = i.toNat := iN_clamp i0 (by omega)
  refine vk_copyt X.1 X.2.1 (by rw [X.2.2.1, hl.1]) X.2.2.2.1 (X.2.2.2.2 _ ac_gb.1) (X.2.2.2.2 _ ac_gb.2.1) (X.2.2.2.2 _ ac_gb.2.2.1) (X.2.2.2.2 _ ac_gb.2.2.2) hz.2.1 g1.1 g1.dd g1.2.2.2 ((hz.2.2.1.1.1 6 (by decide)).2.2.2.narrow (fun q hq => bA_n0 hz q hq)) 1 0 rfl rfl (by decide) (fun z => by
    have := (iN_lt (x := i) (y := 0) ⟨by omega, by omega⟩ inR_0).mp z
    omega) (by decide) (by rw [c0, c7]; decide) (by rw [cI, c7]; omega) (fun j hj => ?_) (by decide) (by simp [Value.category]; decide) db_gb_22 (fun H2 lc2 hP2 hD2 hS2 => ?_)
  · rw [c7] at hj
    rw [c0, Nat.zero_add, tbW_b j hj]
    exact fits_T (T := fun j => tbW.getD j 0) tbW_in j
  rw [c0, cI, c7] at hP2
  have hT : va_cpy (fun j => (strByt.getD 6 []).getD j 0) (fun j => iN (xT x1 j)) 0 i.toNat 7 = fun j => iN (cpT (xT x1) i.toNat j) := by
    funext j
    unfold va_cpy cpT
    by_cases h : i.toNat ≤ j ∧ j < i.toNat + 7
    · rw [if_pos h, if_pos h, Nat.zero_add]
      exact tbW_b _ (by omega)
    · rw [if_neg h, if_neg h]
  rw [hT] at hP2
  have g2 : GB D tA sz bs (xB x1) (xB x1, xC x1, xN x1, xM x1, cpT (xT x1) i.toNat) s H2 lc2 := ⟨hP2, g1.2.1, ⟨g1.2.2.1.1, g1.2.2.1.2.1, cpT_ok g1.2.2.1.2.2⟩, hS2⟩
  refine lv_goto (tgt := 43) X.1 X.2.1 db_gb_25 (by decide) ?_
  exact b_vret X hret hlk g2 ⟨rfl, rfl, rfl, rfl⟩ (by omega) (by omega) db_gb_43
def yb_in : MethodName := ⟨"java/lang/AbstractStringBuilder", "inflateIfNeededFor", "(Ljava/lang/String;)V"⟩
set_option maxRecDepth 100000 in
theorem cs_in : Cond.fieldLink "java/lang/AbstractStringBuilder" 18 "java/lang/String" "COMPACT_STRINGS" "Z" ∈ gW := gW_at (i := 483) rfl rfl
set_option maxRecDepth 100000 in
theorem db_in_0 : decode prog_16_method_71_code 0 = .ok (.getstatic 18, 3) := rfl
set_option maxRecDepth 100000 in
theorem db_in_3 : decode prog_16_method_71_code 3 = .ok (.ifCond .eq 18, 3) := rfl
set_option maxRecDepth 100000 in
theorem db_in_6 : decode prog_16_method_71_code 6 = .ok (.aload_n 0, 1) := rfl
set_option maxRecDepth 100000 in
theorem db_in_7 : decode prog_16_method_71_code 7 = .ok (.getfield 22, 3) := rfl
set_option maxRecDepth 100000 in
theorem db_in_10 : decode prog_16_method_71_code 10 = .ok (.aload_n 1, 1) := rfl
set_option maxRecDepth 100000 in
theorem wb_9 : BWd 0 "java/lang/AbstractStringBuilder" 40 yb_sc prog_27_method_152_code 1 (some .byte) "java/lang/String" 0 := ⟨⟨⟨gW_at (i := 1510) rfl rfl, gW_at (i := 116) rfl rfl, gW_at (i := 1024) rfl rfl⟩, ⟨by decide, by decide, rfl⟩, by decide⟩, gW_at (i := 1022) rfl rfl, gW_at (i := 1023) rfl rfl⟩
set_option maxRecDepth 100000 in
theorem db_in_11 : decode prog_16_method_71_code 11 = .ok (.invokevirtual 40, 3) := rfl
set_option maxRecDepth 100000 in
theorem db_in_14 : decode prog_16_method_71_code 14 = .ok (.if_icmp .eq 7, 3) := rfl
set_option maxRecDepth 100000 in
theorem db_in_21 : decode prog_16_method_71_code 21 = .ok (.return_, 1) := rfl
set_option maxHeartbeats 4000000 in
set_option maxRecDepth 100000 in
theorem b_inflIf : BC yb_in prog_16_method_71_code 2 none 2 80 0 0 bs (fun x adr => [.ref bs, .ref (adr (NN + 6))]) (fun x => True) (fun x v x' => v = none ∧ x' = x) := by
  refine bc_of (by decide) rfl (fun _ _ => by simp [lg_sl, Value.category]) ?_
  intro p l e s m args below meth c D tA n0 adr adV sz x ls hP X hz g hret hlk hl
  have hl : lv_has ls 2 [(0, .ref bs), (1, .ref (adr (NN + 6)))] := hl
  refine va_gets (ref := "java/lang/String") X.1 X.2.1 hz.2.2.1.2.1.1 (hz.S g) X.2.2.2.1 (X.2.2.2.2 _ cs_in) (fun _ h => h) db_in_0 ?_
  refine lv_if_eq (tgt := 21) X.1 X.2.1 db_in_3 (by decide) (fun h => absurd h (by decide)) (fun _ => ?_)
  refine lv_aload_n (i := 0) (x := bs) X.1 X.2.1 db_in_6 rfl (lv_at hl 0 rfl) ?_
  refine b_get (k := 1) X hz g (by decide) fb_0 rfl db_in_7 ?_
  refine lv_aload_n (i := 1) (x := (adr (NN + 6))) X.1 X.2.1 db_in_10 rfl (lv_at hl 1 rfl) ?_
  refine b_callV (As := []) (rest := [.int (iN 0)]) X hz g (b_scoder) trivial wb_9 rfl rfl (vk_recv hz.2.2.1.1 (i := 6) (by decide) (hz.S g)) hl.1 ⟨by decide, by decide⟩ ⟨by decide, by decide⟩ (by simp [Value.category]) rfl db_in_11 (fun v x1 H1 lc1 hv1 g1 => ?_)
  obtain ⟨rfl, rfl⟩ := hv1
  refine lv_icmp_eq (tgt := 21) X.1 X.2.1 db_in_14 (by decide) (fun _ => ?_) (fun h => absurd rfl h)
  exact b_vret X hret hlk g1 ⟨rfl, rfl⟩ (by omega) (by omega) db_in_21
def yb_ps : MethodName := ⟨"java/lang/AbstractStringBuilder", "putStringAt", "(ILjava/lang/String;)V"⟩
set_option maxRecDepth 100000 in
theorem db_ps_0 : decode prog_16_method_73_code 0 = .ok (.aload_n 0, 1) := rfl
set_option maxRecDepth 100000 in
theorem db_ps_1 : decode prog_16_method_73_code 1 = .ok (.aload_n 2, 1) := rfl
set_option maxRecDepth 100000 in
theorem wb_10 : BWd 3 "java/lang/AbstractStringBuilder" 397 yb_in prog_16_method_71_code 2 none "java/lang/AbstractStringBuilder" 1 := ⟨⟨⟨gW_at (i := 1506) rfl rfl, gW_at (i := 114) rfl rfl, gW_at (i := 1509) rfl rfl⟩, ⟨by decide, by decide, rfl⟩, by decide⟩, gW_at (i := 1508) rfl rfl, by decide, rfl⟩
set_option maxRecDepth 100000 in
theorem db_ps_2 : decode prog_16_method_73_code 2 = .ok (.invokevirtual 397, 3) := rfl
set_option maxRecDepth 100000 in
theorem db_ps_5 : decode prog_16_method_73_code 5 = .ok (.aload_n 2, 1) := rfl
set_option maxRecDepth 100000 in
theorem db_ps_6 : decode prog_16_method_73_code 6 = .ok (.aload_n 0, 1) := rfl
set_option maxRecDepth 100000 in
theorem db_ps_7 : decode prog_16_method_73_code 7 = .ok (.getfield 15, 3) := rfl
set_option maxRecDepth 100000 in
theorem db_ps_10 : decode prog_16_method_73_code 10 = .ok (.iload_n 1, 1) := rfl
set_option maxRecDepth 100000 in
theorem db_ps_11 : decode prog_16_method_73_code 11 = .ok (.aload_n 0, 1) := rfl
set_option maxRecDepth 100000 in
theorem db_ps_12 : decode prog_16_method_73_code 12 = .ok (.getfield 22, 3) := rfl
set_option maxRecDepth 100000 in
theorem wb_11 : BWd 0 "java/lang/AbstractStringBuilder" 399 yb_gb prog_27_method_147_code 4 none "java/lang/String" 3 := ⟨⟨⟨gW_at (i := 1530) rfl rfl, gW_at (i := 116) rfl rfl, gW_at (i := 1533) rfl rfl⟩, ⟨by decide, by decide, rfl⟩, by decide⟩, gW_at (i := 1531) rfl rfl, gW_at (i := 1532) rfl rfl⟩
set_option maxRecDepth 100000 in
theorem db_ps_15 : decode prog_16_method_73_code 15 = .ok (.invokevirtual 399, 3) := rfl
set_option maxRecDepth 100000 in
theorem db_ps_18 : decode prog_16_method_73_code 18 = .ok (.return_, 1) := rfl
set_option maxHeartbeats 4000000 in
set_option maxRecDepth 100000 in
theorem b_putStr {i : Int} : BC yb_ps prog_16_method_73_code 3 none 4 400 0 0 bs (fun x adr => [.ref bs, .int (iN i), .ref (adr (NN + 6))]) (fun x => 0 ≤ i ∧ i + 7 ≤ (xC x : Int)) (fun x v x' => v = none ∧ xC x' = xC x ∧ xN x' = xN x ∧ xT x' = cpT (xT x) i.toNat) := by
  refine bc_of (by decide) rfl (fun _ _ => by simp [lg_sl, Value.category]) ?_
  intro p l e s m args below meth c D tA n0 adr adV sz x ls hP X hz g hret hlk hl
  have hl : lv_has ls 3 [(0, .ref bs), (1, .int (iN i)), (2, .ref (adr (NN + 6)))] := hl
  refine lv_aload_n (i := 0) (x := bs) X.1 X.2.1 db_ps_0 rfl (lv_at hl 0 rfl) ?_
  refine lv_aload_n (i := 2) (x := (adr (NN + 6))) X.1 X.2.1 db_ps_1 rfl (lv_at hl 2 rfl) ?_
  refine b_callP (As := [.ref (adr (NN + 6))]) (rest := []) X hz g (b_inflIf) trivial wb_10 rfl rfl hl.1 ⟨by decide, by decide⟩ ⟨by decide, by decide⟩ (by simp [Value.category]) rfl db_ps_2 (fun v x1 H1 lc1 hv1 g1 => ?_)
  obtain ⟨rfl, rfl⟩ := hv1
  refine lv_aload_n (i := 2) (x := (adr (NN + 6))) X.1 X.2.1 db_ps_5 rfl (lv_at hl 2 rfl) ?_
  refine lv_aload_n (i := 0) (x := bs) X.1 X.2.1 db_ps_6 rfl (lv_at hl 0 rfl) ?_
  refine b_get (k := 0) X hz g1 (by decide) fb_2 rfl db_ps_7 ?_
  refine lv_iload_n (i := 1) (x := iN i) X.1 X.2.1 db_ps_10 rfl (lv_at hl 1 rfl) ?_
  refine lv_aload_n (i := 0) (x := bs) X.1 X.2.1 db_ps_11 rfl (lv_at hl 0 rfl) ?_
  refine b_get (k := 1) X hz g1 (by decide) fb_0 rfl db_ps_12 ?_
  refine b_callV (As := [.ref (xB x1), .int (iN i), .int (iN 0)]) (rest := []) X hz g1 (b_getBytes) hP wb_11 rfl rfl (vk_recv hz.2.2.1.1 (i := 6) (by decide) (hz.S g1)) hl.1 ⟨by decide, by decide⟩ ⟨by decide, by decide⟩ (by simp [Value.category]) rfl db_ps_15 (fun v x2 H2 lc2 hv2 g2 => ?_)
  obtain ⟨rfl, hv2⟩ := hv2
  exact b_vret X hret hlk g2 ⟨rfl, hv2⟩ (by omega) (by omega) db_ps_18
def yb_as : MethodName := ⟨"java/lang/AbstractStringBuilder", "append", "(Ljava/lang/String;)Ljava/lang/AbstractStringBuilder;"⟩
set_option maxRecDepth 100000 in
theorem db_as_0 : decode prog_16_method_22_code 0 = .ok (.aload_n 1, 1) := rfl
set_option maxRecDepth 100000 in
theorem db_as_1 : decode prog_16_method_22_code 1 = .ok (.ifnonnull 8, 3) := rfl
set_option maxRecDepth 100000 in
theorem db_as_9 : decode prog_16_method_22_code 9 = .ok (.aload_n 1, 1) := rfl
set_option maxRecDepth 100000 in
theorem wb_12 : BWd 0 "java/lang/AbstractStringBuilder" 32 yb_sn prog_27_method_54_code 1 (some .int) "java/lang/String" 0 := ⟨⟨⟨gW_at (i := 1501) rfl rfl, gW_at (i := 116) rfl rfl, gW_at (i := 1020) rfl rfl⟩, ⟨by decide, by decide, rfl⟩, by decide⟩, gW_at (i := 1018) rfl rfl, gW_at (i := 1019) rfl rfl⟩
set_option maxRecDepth 100000 in
theorem db_as_10 : decode prog_16_method_22_code 10 = .ok (.invokevirtual 32, 3) := rfl
set_option maxRecDepth 100000 in
theorem db_as_13 : decode prog_16_method_22_code 13 = .ok (.istore_n 2, 1) := rfl
set_option maxRecDepth 100000 in
theorem db_as_14 : decode prog_16_method_22_code 14 = .ok (.aload_n 0, 1) := rfl
set_option maxRecDepth 100000 in
theorem db_as_15 : decode prog_16_method_22_code 15 = .ok (.aload_n 0, 1) := rfl
set_option maxRecDepth 100000 in
theorem db_as_16 : decode prog_16_method_22_code 16 = .ok (.getfield 79, 3) := rfl
set_option maxRecDepth 100000 in
theorem db_as_19 : decode prog_16_method_22_code 19 = .ok (.iload_n 2, 1) := rfl
set_option maxRecDepth 100000 in
theorem db_as_20 : decode prog_16_method_22_code 20 = .ok (.iadd, 1) := rfl
set_option maxRecDepth 100000 in
theorem db_as_21 : decode prog_16_method_22_code 21 = .ok (.invokevirtual 100, 3) := rfl
set_option maxRecDepth 100000 in
theorem db_as_24 : decode prog_16_method_22_code 24 = .ok (.aload_n 0, 1) := rfl
set_option maxRecDepth 100000 in
theorem db_as_25 : decode prog_16_method_22_code 25 = .ok (.aload_n 0, 1) := rfl
set_option maxRecDepth 100000 in
theorem db_as_26 : decode prog_16_method_22_code 26 = .ok (.getfield 79, 3) := rfl
set_option maxRecDepth 100000 in
theorem db_as_29 : decode prog_16_method_22_code 29 = .ok (.aload_n 1, 1) := rfl
set_option maxRecDepth 100000 in
theorem wb_13 : BWd 3 "java/lang/AbstractStringBuilder" 208 yb_ps prog_16_method_73_code 3 none "java/lang/AbstractStringBuilder" 2 := ⟨⟨⟨gW_at (i := 1502) rfl rfl, gW_at (i := 114) rfl rfl, gW_at (i := 1505) rfl rfl⟩, ⟨by decide, by decide, rfl⟩, by decide⟩, gW_at (i := 1504) rfl rfl, by decide, rfl⟩
set_option maxRecDepth 100000 in
theorem db_as_30 : decode prog_16_method_22_code 30 = .ok (.invokevirtual 208, 3) := rfl
set_option maxRecDepth 100000 in
theorem db_as_33 : decode prog_16_method_22_code 33 = .ok (.aload_n 0, 1) := rfl
set_option maxRecDepth 100000 in
theorem db_as_34 : decode prog_16_method_22_code 34 = .ok (.dup, 1) := rfl
set_option maxRecDepth 100000 in
theorem db_as_35 : decode prog_16_method_22_code 35 = .ok (.getfield 79, 3) := rfl
set_option maxRecDepth 100000 in
theorem db_as_38 : decode prog_16_method_22_code 38 = .ok (.iload_n 2, 1) := rfl
set_option maxRecDepth 100000 in
theorem db_as_39 : decode prog_16_method_22_code 39 = .ok (.iadd, 1) := rfl
set_option maxRecDepth 100000 in
theorem db_as_40 : decode prog_16_method_22_code 40 = .ok (.putfield 79, 3) := rfl
set_option maxRecDepth 100000 in
theorem db_as_43 : decode prog_16_method_22_code 43 = .ok (.aload_n 0, 1) := rfl
set_option maxRecDepth 100000 in
theorem db_as_44 : decode prog_16_method_22_code 44 = .ok (.areturn, 1) := rfl
set_option maxHeartbeats 4000000 in
set_option maxRecDepth 100000 in
theorem b_appS0 : BC yb_as prog_16_method_22_code 3 (some (.object "java/lang/AbstractStringBuilder")) 6 800 1 142 bs (fun x adr => [.ref bs, .ref (adr (NN + 6))]) (fun x => xN x = 0) (fun x v x' => v = some (.ref bs) ∧ xN x' = 7 ∧ ∀ j, j < 7 → xT x' j = tbW.getD j 0) := by
  refine bc_of (by decide) rfl (fun _ _ => by simp [lg_sl, Value.category]) ?_
  intro p l e s m args below meth c D tA n0 adr adV sz x ls hP X hz g hret hlk hl
  have hl : lv_has ls 3 [(0, .ref bs), (1, .ref (adr (NN + 6)))] := hl
  have hN0 := g.2.2.1.2.1
  have hC : 16 ≤ xC x ∧ xC x ≤ 142 := by rcases g.2.2.1.1 with h | h | h | h <;> omega
  refine lv_aload_n (i := 1) (x := (adr (NN + 6))) X.1 X.2.1 db_as_0 rfl (lv_at hl 1 rfl) ?_
  refine lv_ifnonnull (tgt := 9) X.1 X.2.1 db_as_1 (by decide) ?_
  refine lv_aload_n (i := 1) (x := (adr (NN + 6))) X.1 X.2.1 db_as_9 rfl (lv_at hl 1 rfl) ?_
  refine b_callV (As := []) (rest := []) X hz g (b_slength) trivial wb_12 rfl rfl (vk_recv hz.2.2.1.1 (i := 6) (by decide) (hz.S g)) hl.1 ⟨by decide, by decide⟩ ⟨by decide, by decide⟩ (by simp [Value.category]) rfl db_as_10 (fun v x1 H1 lc1 hv1 g1 => ?_)
  obtain ⟨rfl, rfl⟩ := hv1
  refine lv_istore_n (i := 2) (lv' := [(2, .int (iN 7)), (0, .ref bs), (1, .ref (adr (NN + 6)))]) X.1 X.2.1 db_as_13 rfl hl (by decide) rfl (fun ls1 hl1 => ?_)
  refine lv_aload_n (i := 0) (x := bs) X.1 X.2.1 db_as_14 rfl (lv_at hl1 1 rfl) ?_
  refine lv_aload_n (i := 0) (x := bs) X.1 X.2.1 db_as_15 rfl (lv_at hl1 1 rfl) ?_
  refine b_get (k := 3) X hz g1 (by decide) fb_1 rfl db_as_16 ?_
  refine lv_iload_n (i := 2) (x := iN 7) X.1 X.2.1 db_as_19 rfl (lv_at hl1 0 rfl) ?_
  refine lv_iadd X.1 X.2.1 db_as_20 ?_
  rw [iN_add]
  refine b_callP (As := [.int (iN ((xN x1 : Int) + 7))]) (rest := []) X hz g1 (b_ensure (a := (xN x1 : Int) + 7) (by omega) (by omega)) (by omega) wb_3 rfl rfl hl1.1 ⟨by decide, by decide⟩ ⟨by decide, by decide⟩ (by simp [Value.category]) rfl db_as_21 (fun v x2 H2 lc2 hv2 g2 => ?_)
  obtain ⟨rfl, hv2, hv3, hv4⟩ := hv2
  refine lv_aload_n (i := 0) (x := bs) X.1 X.2.1 db_as_24 rfl (lv_at hl1 1 rfl) ?_
  refine lv_aload_n (i := 0) (x := bs) X.1 X.2.1 db_as_25 rfl (lv_at hl1 1 rfl) ?_
  refine b_get (k := 3) X hz g2 (by decide) fb_1 rfl db_as_26 ?_
  refine lv_aload_n (i := 1) (x := (adr (NN + 6))) X.1 X.2.1 db_as_29 rfl (lv_at hl1 2 rfl) ?_
  refine b_callP (As := [.int (iN (xN x2 : Int)), .ref (adr (NN + 6))]) (rest := []) X hz g2 (b_putStr (i := (xN x2 : Int))) ⟨by omega, by omega⟩ wb_13 rfl rfl hl1.1 ⟨by decide, by decide⟩ ⟨by decide, by decide⟩ (by simp [Value.category]) rfl db_as_30 (fun v x3 H3 lc3 hw3 g3 => ?_)
  obtain ⟨rfl, p1, p2, p3⟩ := hw3
  refine lv_aload_n (i := 0) (x := bs) X.1 X.2.1 db_as_33 rfl (lv_at hl1 1 rfl) ?_
  refine lv_dup X.1 X.2.1 db_as_34 rfl ?_
  refine b_get (k := 3) X hz g3 (by decide) fb_1 rfl db_as_35 ?_
  refine lv_iload_n (i := 2) (x := iN 7) X.1 X.2.1 db_as_38 rfl (lv_at hl1 0 rfl) ?_
  refine lv_iadd X.1 X.2.1 db_as_39 ?_
  rw [iN_add]
  have hT3 := g3.2.2.1
  refine b_put (k := 3) (ty := .int) (x' := (xB x3, xC x3, xN x3 + 7, xM x3, xT x3)) X hz g3 (by decide) fb_1 rfl rfl (vp_nar_int _) rfl db_as_40 ⟨hT3.1, by show xN x3 + 7 ≤ xC x3; omega, hT3.2.2⟩ rfl rfl rfl (fun H4 lc4 g4 => ?_)
  refine lv_aload_n (i := 0) (x := bs) X.1 X.2.1 db_as_43 rfl (lv_at hl1 1 rfl) ?_
  exact b_aret X hret hlk g4 ⟨rfl, by show xN x3 + 7 = _; omega, fun j hj => by
    show xT x3 j = _
    rw [p3]
    unfold cpT
    rw [if_pos (by omega), show j - ((xN x2 : Int)).toNat = j by omega]⟩ (by omega) (by omega) db_as_44
def yb_pc : MethodName := ⟨"jdk/internal/util/Preconditions", "checkIndex", "(IILjava/util/function/BiFunction;)I"⟩
set_option maxRecDepth 100000 in
theorem db_pc_0 : decode prog_38_method_11_code 0 = .ok (.iload_n 0, 1) := rfl
set_option maxRecDepth 100000 in
theorem db_pc_1 : decode prog_38_method_11_code 1 = .ok (.ifCond .lt 8, 3) := rfl
set_option maxRecDepth 100000 in
theorem db_pc_4 : decode prog_38_method_11_code 4 = .ok (.iload_n 0, 1) := rfl
set_option maxRecDepth 100000 in
theorem db_pc_5 : decode prog_38_method_11_code 5 = .ok (.iload_n 1, 1) := rfl
set_option maxRecDepth 100000 in
theorem db_pc_6 : decode prog_38_method_11_code 6 = .ok (.if_icmp .lt 10, 3) := rfl
set_option maxRecDepth 100000 in
theorem db_pc_16 : decode prog_38_method_11_code 16 = .ok (.iload_n 0, 1) := rfl
set_option maxRecDepth 100000 in
theorem db_pc_17 : decode prog_38_method_11_code 17 = .ok (.ireturn, 1) := rfl
set_option maxHeartbeats 4000000 in
set_option maxRecDepth 100000 in
theorem b_pcheck {a d : Int} {z : Value} (hzc : z = .null ∨ ∃ t, z = .ref t) (h0 : 0 ≤ a) (h1 : a < d) (h2 : d ≤ 1000) : BC yb_pc prog_38_method_11_code 3 (some .int) 0 0 0 0 bs (fun x adr => [.int (iN a), .int (iN d), z]) (fun x => True) (fun x v x' => v = some (.int (iN a)) ∧ x' = x) := by
  refine bc_of (by decide) rfl (fun _ _ => by rcases hzc with rfl | ⟨t, rfl⟩ <;> simp [lg_sl, Value.category]) ?_
  intro p l e s m args below meth c D tA n0 adr adV sz x ls hP X hz g hret hlk hl
  have hl : lv_has ls 3 [(0, .int (iN a)), (1, .int (iN d)), (2, z)] := hl
  refine lv_iload_n (i := 0) (x := iN a) X.1 X.2.1 db_pc_0 rfl (lv_at hl 0 rfl) ?_
  refine lv_if_lt (tgt := 9) X.1 X.2.1 db_pc_1 (by decide) (fun h => absurd h (fun z => by
    have := (iN_lt (x := a) (y := 0) ⟨by omega, by omega⟩ inR_0).mp z
    omega)) (fun _ => ?_)
  refine lv_iload_n (i := 0) (x := iN a) X.1 X.2.1 db_pc_4 rfl (lv_at hl 0 rfl) ?_
  refine lv_iload_n (i := 1) (x := iN d) X.1 X.2.1 db_pc_5 rfl (lv_at hl 1 rfl) ?_
  refine lv_icmp_lt (tgt := 16) X.1 X.2.1 db_pc_6 (by decide) (fun _ => ?_) (fun h => absurd ((iN_lt (x := a) (y := d) ⟨by omega, by omega⟩ ⟨by omega, by omega⟩).mpr h1) h)
  refine lv_iload_n (i := 0) (x := iN a) X.1 X.2.1 db_pc_16 rfl (lv_at hl 0 rfl) ?_
  exact b_zret (v := iN a) X hret (by first | rfl | exact vp_nar_int _) hlk g ⟨rfl, rfl⟩ (by omega) (by omega) db_pc_17
def yb_si : MethodName := ⟨"java/lang/String", "checkIndex", "(II)V"⟩
set_option maxRecDepth 100000 in
theorem db_si_0 : decode prog_27_method_155_code 0 = .ok (.iload_n 0, 1) := rfl
set_option maxRecDepth 100000 in
theorem db_si_1 : decode prog_27_method_155_code 1 = .ok (.iload_n 1, 1) := rfl
set_option maxRecDepth 100000 in
theorem db_si_2 : decode prog_27_method_155_code 2 = .ok (.getstatic 1053, 3) := rfl
set_option maxRecDepth 100000 in
theorem wb_14 : BWd 1 "java/lang/String" 1059 yb_pc prog_38_method_11_code 3 (some .int) "java/lang/String" 3 := ⟨⟨⟨gW_at (i := 1042) rfl rfl, gW_at (i := 126) rfl rfl, gW_at (i := 1044) rfl rfl⟩, ⟨by decide, by decide, rfl⟩, by decide⟩, gW_at (i := 1043) rfl rfl⟩
set_option maxRecDepth 100000 in
theorem db_si_5 : decode prog_27_method_155_code 5 = .ok (.invokestatic 1059, 3) := rfl
set_option maxRecDepth 100000 in
theorem db_si_8 : decode prog_27_method_155_code 8 = .ok (.pop, 1) := rfl
set_option maxRecDepth 100000 in
theorem db_si_9 : decode prog_27_method_155_code 9 = .ok (.return_, 1) := rfl
set_option maxHeartbeats 4000000 in
set_option maxRecDepth 100000 in
theorem b_scheck {a d : Int} (h0 : 0 ≤ a) (h1 : a < d) (h2 : d ≤ 1000) : BC yb_si prog_27_method_155_code 2 none 1 60 0 0 bs (fun x adr => [.int (iN a), .int (iN d)]) (fun x => True) (fun x v x' => v = none ∧ x' = x) := by
  refine bc_of (by decide) rfl (fun _ _ => by simp [lg_sl, Value.category]) ?_
  intro p l e s m args below meth c D tA n0 adr adV sz x ls hP X hz g hret hlk hl
  have hl : lv_has ls 2 [(0, .int (iN a)), (1, .int (iN d))] := hl
  obtain ⟨z, hzc, hZ⟩ : ∃ z : Value, (z = .null ∨ ∃ t, z = .ref t) ∧ va_Z "jdk/internal/util/Preconditions" "SIOOBE_FORMATTER" "Ljava/util/function/BiFunction;" z (fun q => n0 ≤ q) s s.heap := by
    rcases hz.2.2.1.2.1.2.1 with h | ⟨t, h⟩
    · exact ⟨.null, .inl rfl, h⟩
    · exact ⟨.ref t, .inr ⟨t, rfl⟩, h⟩
  refine lv_iload_n (i := 0) (x := iN a) X.1 X.2.1 db_si_0 rfl (lv_at hl 0 rfl) ?_
  refine lv_iload_n (i := 1) (x := iN d) X.1 X.2.1 db_si_1 rfl (lv_at hl 1 rfl) ?_
  refine va_gets (ref := "jdk/internal/util/Preconditions") X.1 X.2.1 hZ (hz.S g) X.2.2.2.1 (X.2.2.2.2 _ ci_w.1) (fun _ h => h) db_si_2 ?_
  refine b_callS (As := [.int (iN a), .int (iN d), z]) (rest := []) X hz g (b_pcheck hzc h0 h1 h2) trivial wb_14 rfl rfl hl.1 ⟨by decide, by decide⟩ ⟨by decide, by decide⟩ (by simp) rfl db_si_5 (fun v x1 H1 lc1 hv1 g1 => ?_)
  obtain ⟨rfl, rfl⟩ := hv1
  refine lv_pop X.1 X.2.1 db_si_8 rfl ?_
  exact b_vret X hret hlk g1 ⟨rfl, rfl⟩ (by omega) (by omega) db_si_9
def yb_ca : MethodName := ⟨"java/lang/AbstractStringBuilder", "charAt", "(I)C"⟩
set_option maxRecDepth 100000 in
theorem db_ca_0 : decode prog_16_method_14_code 0 = .ok (.aload_n 0, 1) := rfl
set_option maxRecDepth 100000 in
theorem db_ca_1 : decode prog_16_method_14_code 1 = .ok (.getfield 22, 3) := rfl
set_option maxRecDepth 100000 in
theorem db_ca_4 : decode prog_16_method_14_code 4 = .ok (.istore_n 2, 1) := rfl
set_option maxRecDepth 100000 in
theorem db_ca_5 : decode prog_16_method_14_code 5 = .ok (.aload_n 0, 1) := rfl
set_option maxRecDepth 100000 in
theorem db_ca_6 : decode prog_16_method_14_code 6 = .ok (.getfield 15, 3) := rfl
set_option maxRecDepth 100000 in
theorem db_ca_9 : decode prog_16_method_14_code 9 = .ok (.astore_n 3, 1) := rfl
set_option maxRecDepth 100000 in
theorem db_ca_10 : decode prog_16_method_14_code 10 = .ok (.aload_n 0, 1) := rfl
set_option maxRecDepth 100000 in
theorem db_ca_11 : decode prog_16_method_14_code 11 = .ok (.getfield 79, 3) := rfl
set_option maxRecDepth 100000 in
theorem db_ca_14 : decode prog_16_method_14_code 14 = .ok (.aload_n 3, 1) := rfl
set_option maxRecDepth 100000 in
theorem db_ca_15 : decode prog_16_method_14_code 15 = .ok (.arraylength, 1) := rfl
set_option maxRecDepth 100000 in
theorem db_ca_16 : decode prog_16_method_14_code 16 = .ok (.iload_n 2, 1) := rfl
set_option maxRecDepth 100000 in
theorem db_ca_17 : decode prog_16_method_14_code 17 = .ok (.ishr, 1) := rfl
set_option maxRecDepth 100000 in
theorem mb_min_AbstractStringBuilder : Cond.methodLink "java/lang/AbstractStringBuilder" 138 Lib.Math.min.name ∈ gW ∧ Cond.static Lib.Math.min.name ∈ gW ∧ Cond.initialized "java/lang/Math" ∈ gW ∧ Cond.code Lib.Math.min.name Lib.Math.min.code 2 (some .int) ∈ gW := ⟨gW_at (i := 1661) rfl rfl, gW_at (i := 286) rfl rfl, gW_at (i := 109) rfl rfl, gW_at (i := 287) rfl rfl⟩
set_option maxRecDepth 100000 in
theorem db_ca_18 : decode prog_16_method_14_code 18 = .ok (.invokestatic 138, 3) := rfl
set_option maxRecDepth 100000 in
theorem db_ca_21 : decode prog_16_method_14_code 21 = .ok (.istore 4, 2) := rfl
set_option maxRecDepth 100000 in
theorem db_ca_23 : decode prog_16_method_14_code 23 = .ok (.iload_n 1, 1) := rfl
set_option maxRecDepth 100000 in
theorem db_ca_24 : decode prog_16_method_14_code 24 = .ok (.iload 4, 2) := rfl
set_option maxRecDepth 100000 in
theorem wb_15 : BWd 1 "java/lang/AbstractStringBuilder" 144 yb_si prog_27_method_155_code 2 none "java/lang/AbstractStringBuilder" 2 := ⟨⟨⟨gW_at (i := 1662) rfl rfl, gW_at (i := 116) rfl rfl, gW_at (i := 1039) rfl rfl⟩, ⟨by decide, by decide, rfl⟩, by decide⟩, gW_at (i := 1038) rfl rfl⟩
set_option maxRecDepth 100000 in
theorem db_ca_26 : decode prog_16_method_14_code 26 = .ok (.invokestatic 144, 3) := rfl
set_option maxRecDepth 100000 in
theorem db_ca_29 : decode prog_16_method_14_code 29 = .ok (.iload_n 2, 1) := rfl
set_option maxRecDepth 100000 in
theorem db_ca_30 : decode prog_16_method_14_code 30 = .ok (.ifCond .ne 12, 3) := rfl
set_option maxRecDepth 100000 in
theorem db_ca_33 : decode prog_16_method_14_code 33 = .ok (.aload_n 3, 1) := rfl
set_option maxRecDepth 100000 in
theorem db_ca_34 : decode prog_16_method_14_code 34 = .ok (.iload_n 1, 1) := rfl
set_option maxRecDepth 100000 in
theorem db_ca_35 : decode prog_16_method_14_code 35 = .ok (.baload, 1) := rfl
set_option maxRecDepth 100000 in
theorem db_ca_36 : decode prog_16_method_14_code 36 = .ok (.sipush 255, 3) := rfl
set_option maxRecDepth 100000 in
theorem db_ca_39 : decode prog_16_method_14_code 39 = .ok (.iand, 1) := rfl
set_option maxRecDepth 100000 in
theorem db_ca_40 : decode prog_16_method_14_code 40 = .ok (.i2c, 1) := rfl
set_option maxRecDepth 100000 in
theorem db_ca_41 : decode prog_16_method_14_code 41 = .ok (.ireturn, 1) := rfl
theorem ch_id {a : Int} (h0 : 0 ≤ a) (h1 : a ≤ 127) : ((iN a &&& iN 255).toUInt32 % 65536).toInt32 = iN a ∧ narrow .char (.int (iN a)) = .int (iN a) := by
  obtain ⟨n, rfl⟩ : ∃ n : Nat, a = n := ⟨a.toNat, by omega⟩
  have hn : n < 128 := by omega
  exact (show ∀ n : Nat, n < 128 → ((iN (n : Int) &&& iN 255).toUInt32 % 65536).toInt32 = iN (n : Int) ∧ narrow .char (.int (iN (n : Int))) = .int (iN (n : Int)) by decide +kernel) n hn
set_option maxHeartbeats 4000000 in
set_option maxRecDepth 100000 in
theorem b_charAt0 {i : Int} : BC yb_ca prog_16_method_14_code 5 (some .char) 2 160 0 0 bs (fun x adr => [.ref bs, .int (iN i)]) (fun x => 0 ≤ i ∧ i < (xN x : Int)) (fun x v x' => v = some (.int (iN (xT x i.toNat))) ∧ x' = x) := by
  refine bc_of (by decide) rfl (fun _ _ => by simp [lg_sl, Value.category]) ?_
  intro p l e s m args below meth c D tA n0 adr adV sz x ls hP X hz g hret hlk hl
  have hl : lv_has ls 5 [(0, .ref bs), (1, .int (iN i))] := hl
  obtain ⟨i0, i1⟩ := hP
  have hC : xC x ≤ 142 := by rcases g.2.2.1.1 with h | h | h | h <;> omega
  have hN0 := g.2.2.1.2.1
  refine lv_aload_n (i := 0) (x := bs) X.1 X.2.1 db_ca_0 rfl (lv_at hl 0 rfl) ?_
  refine b_get (k := 1) X hz g (by decide) fb_0 rfl db_ca_1 ?_
  refine lv_istore_n (i := 2) (lv' := [(2, .int (iN 0)), (0, .ref bs), (1, .int (iN i))]) X.1 X.2.1 db_ca_4 rfl hl (by decide) rfl (fun ls1 hl1 => ?_)
  refine lv_aload_n (i := 0) (x := bs) X.1 X.2.1 db_ca_5 rfl (lv_at hl1 1 rfl) ?_
  refine b_get (k := 0) X hz g (by decide) fb_2 rfl db_ca_6 ?_
  refine lv_astore_n (i := 3) (lv' := [(3, .ref (xB x)), (2, .int (iN 0)), (0, .ref bs), (1, .int (iN i))]) X.1 X.2.1 db_ca_9 rfl hl1 (by decide) rfl (fun ls2 hl2 => ?_)
  refine lv_aload_n (i := 0) (x := bs) X.1 X.2.1 db_ca_10 rfl (lv_at hl2 2 rfl) ?_
  refine b_get (k := 3) X hz g (by decide) fb_1 rfl db_ca_11 ?_
  refine lv_aload_n (i := 3) (x := (xB x)) X.1 X.2.1 db_ca_14 rfl (lv_at hl2 0 rfl) ?_
  refine b_len X hz g db_ca_15 ?_
  refine lv_iload_n (i := 2) (x := iN 0) X.1 X.2.1 db_ca_16 rfl (lv_at hl2 1 rfl) ?_
  refine lv_ishr X.1 X.2.1 db_ca_17 ?_
  rw [sh_r0]
  refine va_mmin X.1 X.2.1 (by rw [X.2.2.1, hl2.1]) X.2.2.2.1 (X.2.2.2.2 _ mb_min_AbstractStringBuilder.1) (X.2.2.2.2 _ mb_min_AbstractStringBuilder.2.1) (X.2.2.2.2 _ mb_min_AbstractStringBuilder.2.2.1) (X.2.2.2.2 _ mb_min_AbstractStringBuilder.2.2.2) (by decide) (by simp [Value.category]) (by decide) (by decide) db_ca_18 ?_
  rw [iN_min (x := (xN x : Int)) (y := (xC x : Int)) ⟨by omega, by omega⟩ ⟨by omega, by omega⟩, show min (xN x : Int) (xC x : Int) = (xN x : Int) by omega]
  refine lv_istore (lv' := [(4, .int (iN (xN x : Int))), (3, .ref (xB x)), (2, .int (iN 0)), (0, .ref bs), (1, .int (iN i))]) X.1 X.2.1 db_ca_21 hl2 (by decide) rfl (fun ls3 hl3 => ?_)
  refine lv_iload_n (i := 1) (x := iN i) X.1 X.2.1 db_ca_23 rfl (lv_at hl3 4 rfl) ?_
  refine lv_iload (x := iN (xN x : Int)) X.1 X.2.1 db_ca_24 (lv_at hl3 0 rfl) ?_
  refine b_callS (As := [.int (iN i), .int (iN (xN x : Int))]) (rest := []) X hz g (b_scheck i0 (by omega) (by omega)) trivial wb_15 rfl rfl hl3.1 ⟨by decide, by decide⟩ ⟨by decide, by decide⟩ (by simp [Value.category]) rfl db_ca_26 (fun v x1 H1 lc1 hv1 g1 => ?_)
  obtain ⟨rfl, rfl⟩ := hv1
  refine lv_iload_n (i := 2) (x := iN 0) X.1 X.2.1 db_ca_29 rfl (lv_at hl3 2 rfl) ?_
  refine lv_if_ne (tgt := 42) X.1 X.2.1 db_ca_30 (by decide) (fun h => absurd h (fun z => z rfl)) (fun _ => ?_)
  refine lv_aload_n (i := 3) (x := (xB x1)) X.1 X.2.1 db_ca_33 rfl (lv_at hl3 1 rfl) ?_
  refine lv_iload_n (i := 1) (x := iN i) X.1 X.2.1 db_ca_34 rfl (lv_at hl3 4 rfl) ?_
  refine b_ald X hz g1 i0 (by omega) db_ca_35 ?_
  refine lv_sipush (v := iN 255) X.1 X.2.1 db_ca_36 (by decide) ?_
  refine lv_iand X.1 X.2.1 db_ca_39 ?_
  refine lv_i2c X.1 X.2.1 db_ca_40 (v := iN (xT x1 i.toNat)) (ch_id (g1.2.2.1.2.2 _).1 (g1.2.2.1.2.2 _).2).1 ?_
  exact b_zret (v := iN (xT x1 i.toNat)) X hret (ch_id (g1.2.2.1.2.2 _).1 (g1.2.2.1.2.2 _).2).2 hlk g1 ⟨rfl, rfl⟩ (by omega) (by omega) db_ca_41
end B2
