/-! THE BUILDER, 2: the methods that read (printed by wip/whole/g7b.py). -/
theorem sh_r0 {x : Int} : iN x >>> (iN 0 &&& 31) = iN x := by
  have h : (iN 0 &&& 31) = 0 := by decide
  rw [h]
  exact Int32.shiftRight_zero
theorem sh_l0 {x : Int} : iN x <<< (iN 0 &&& 31) = iN x := by
  have h : (iN 0 &&& 31) = 0 := by decide
  rw [h]
  exact Int32.shiftLeft_zero
theorem nn_ne {x : Int32} (h : ¬ x = x) : False := h rfl
section B2
variable {bs : Nat}
def yb_lat : MethodName := ⟨"java/lang/AbstractStringBuilder", "isLatin1", "()Z"⟩
set_option maxRecDepth 100000 in
theorem cs_lat : Cond.fieldLink "java/lang/AbstractStringBuilder" 18 "java/lang/String" "COMPACT_STRINGS" "Z" ∈ gW := gW_at (i := 483) rfl rfl
set_option maxRecDepth 100000 in
theorem db_lat_0 : decode prog_16_method_68_code 0 = .ok (.getstatic 18, 3) := rfl
set_option maxRecDepth 100000 in
theorem db_lat_3 : decode prog_16_method_68_code 3 = .ok (.ifCond .eq 14, 3) := rfl
set_option maxRecDepth 100000 in
theorem db_lat_6 : decode prog_16_method_68_code 6 = .ok (.aload_n 0, 1) := rfl
set_option maxRecDepth 100000 in
theorem fb_0 : Cond.fieldLink "java/lang/AbstractStringBuilder" 22 (TJ4 1).1 (TJ4 1).2.1 (TJ4 1).2.2.1 ∈ gW := gW_at (i := 493) rfl rfl
set_option maxRecDepth 100000 in
theorem db_lat_7 : decode prog_16_method_68_code 7 = .ok (.getfield 22, 3) := rfl
set_option maxRecDepth 100000 in
theorem db_lat_10 : decode prog_16_method_68_code 10 = .ok (.ifCond .ne 7, 3) := rfl
set_option maxRecDepth 100000 in
theorem db_lat_13 : decode prog_16_method_68_code 13 = .ok (.iconst 1, 1) := rfl
set_option maxRecDepth 100000 in
theorem db_lat_14 : decode prog_16_method_68_code 14 = .ok (.goto 4, 3) := rfl
set_option maxRecDepth 100000 in
theorem db_lat_18 : decode prog_16_method_68_code 18 = .ok (.ireturn, 1) := rfl
set_option maxHeartbeats 4000000 in
set_option maxRecDepth 100000 in
theorem b_latin : BC yb_lat prog_16_method_68_code 1 (some .boolean) 0 0 0 0 bs (fun x adr => [.ref bs]) (fun x => True) (fun x v x' => v = some (.int 1) ∧ x' = x) := by
  refine bc_of (by decide) rfl (fun _ _ => by simp [lg_sl, Value.category]) ?_
  intro p l e s m args below meth c D tA n0 adr adV sz x ls hP X hz g hret hlk hl
  have hl : lv_has ls 1 [(0, .ref bs)] := hl
  refine va_gets (ref := "java/lang/String") X.1 X.2.1 hz.2.2.1.2.1.1 (hz.S g) X.2.2.2.1 (X.2.2.2.2 _ cs_lat) (fun _ h => h) db_lat_0 ?_
  refine lv_if_eq (tgt := 17) X.1 X.2.1 db_lat_3 (by decide) (fun h => absurd h (by decide)) (fun _ => ?_)
  refine lv_aload_n (i := 0) (x := bs) X.1 X.2.1 db_lat_6 rfl (lv_at hl 0 rfl) ?_
  refine b_get (k := 1) X hz g (by decide) fb_0 rfl db_lat_7 ?_
  refine lv_if_ne (tgt := 17) X.1 X.2.1 db_lat_10 (by decide) (fun h => absurd h (fun z => z rfl)) (fun _ => ?_)
  refine lv_iconst (v := iN 1) X.1 X.2.1 db_lat_13 (by decide) ?_
  refine lv_goto (tgt := 18) X.1 X.2.1 db_lat_14 (by decide) ?_
  exact b_zret (v := iN 1) X hret (by first | rfl | exact vp_nar_int _) hlk g ⟨rfl, rfl⟩ (by omega) (by omega) db_lat_18
def yb_len : MethodName := ⟨"java/lang/AbstractStringBuilder", "length", "()I"⟩
set_option maxRecDepth 100000 in
theorem db_len_0 : decode prog_16_method_6_code 0 = .ok (.aload_n 0, 1) := rfl
set_option maxRecDepth 100000 in
theorem fb_1 : Cond.fieldLink "java/lang/AbstractStringBuilder" 79 (TJ4 3).1 (TJ4 3).2.1 (TJ4 3).2.2.1 ∈ gW := gW_at (i := 496) rfl rfl
set_option maxRecDepth 100000 in
theorem db_len_1 : decode prog_16_method_6_code 1 = .ok (.getfield 79, 3) := rfl
set_option maxRecDepth 100000 in
theorem db_len_4 : decode prog_16_method_6_code 4 = .ok (.ireturn, 1) := rfl
set_option maxHeartbeats 4000000 in
set_option maxRecDepth 100000 in
theorem b_length : BC yb_len prog_16_method_6_code 1 (some .int) 0 0 0 0 bs (fun x adr => [.ref bs]) (fun x => True) (fun x v x' => v = some (.int (iN (xN x : Int))) ∧ x' = x) := by
  refine bc_of (by decide) rfl (fun _ _ => by simp [lg_sl, Value.category]) ?_
  intro p l e s m args below meth c D tA n0 adr adV sz x ls hP X hz g hret hlk hl
  have hl : lv_has ls 1 [(0, .ref bs)] := hl
  refine lv_aload_n (i := 0) (x := bs) X.1 X.2.1 db_len_0 rfl (lv_at hl 0 rfl) ?_
  refine b_get (k := 3) X hz g (by decide) fb_1 rfl db_len_1 ?_
  exact b_zret (v := iN (xN x : Int)) X hret (by first | rfl | exact vp_nar_int _) hlk g ⟨rfl, rfl⟩ (by omega) (by omega) db_len_4
def yb_nl : MethodName := ⟨"jdk/internal/util/ArraysSupport", "newLength", "(III)I"⟩
set_option maxRecDepth 100000 in
theorem db_nl_0 : decode prog_37_method_27_code 0 = .ok (.iload_n 0, 1) := rfl
set_option maxRecDepth 100000 in
theorem db_nl_1 : decode prog_37_method_27_code 1 = .ok (.iload_n 1, 1) := rfl
set_option maxRecDepth 100000 in
theorem db_nl_2 : decode prog_37_method_27_code 2 = .ok (.iload_n 2, 1) := rfl
set_option maxRecDepth 100000 in
theorem mb_max_ArraysSupport : Cond.methodLink "jdk/internal/util/ArraysSupport" 194 Lib.Math.max.name ∈ gW ∧ Cond.static Lib.Math.max.name ∈ gW ∧ Cond.initialized "java/lang/Math" ∈ gW ∧ Cond.code Lib.Math.max.name Lib.Math.max.code 2 (some .int) ∈ gW := ⟨gW_at (i := 1437) rfl rfl, gW_at (i := 289) rfl rfl, gW_at (i := 109) rfl rfl, gW_at (i := 290) rfl rfl⟩
set_option maxRecDepth 100000 in
theorem db_nl_3 : decode prog_37_method_27_code 3 = .ok (.invokestatic 194, 3) := rfl
set_option maxRecDepth 100000 in
theorem db_nl_6 : decode prog_37_method_27_code 6 = .ok (.iadd, 1) := rfl
set_option maxRecDepth 100000 in
theorem db_nl_7 : decode prog_37_method_27_code 7 = .ok (.istore_n 3, 1) := rfl
set_option maxRecDepth 100000 in
theorem db_nl_8 : decode prog_37_method_27_code 8 = .ok (.iconst 0, 1) := rfl
set_option maxRecDepth 100000 in
theorem db_nl_9 : decode prog_37_method_27_code 9 = .ok (.iload_n 3, 1) := rfl
set_option maxRecDepth 100000 in
theorem db_nl_10 : decode prog_37_method_27_code 10 = .ok (.if_icmp .ge 11, 3) := rfl
set_option maxRecDepth 100000 in
theorem db_nl_13 : decode prog_37_method_27_code 13 = .ok (.iload_n 3, 1) := rfl
set_option maxRecDepth 100000 in
theorem kb_0 : Cond.constant "jdk/internal/util/ArraysSupport" 200 (iN 2147483639) ∈ gW := gW_at (i := 1438) rfl rfl
set_option maxRecDepth 100000 in
theorem db_nl_14 : decode prog_37_method_27_code 14 = .ok (.ldc 200, 2) := rfl
set_option maxRecDepth 100000 in
theorem db_nl_16 : decode prog_37_method_27_code 16 = .ok (.if_icmp .gt 5, 3) := rfl
set_option maxRecDepth 100000 in
theorem db_nl_19 : decode prog_37_method_27_code 19 = .ok (.iload_n 3, 1) := rfl
set_option maxRecDepth 100000 in
theorem db_nl_20 : decode prog_37_method_27_code 20 = .ok (.ireturn, 1) := rfl
set_option maxHeartbeats 4000000 in
set_option maxRecDepth 100000 in
theorem b_newLength {a b d : Int} (hb : inR b) (hd : inR d) (h0 : 0 < a + max b d) (h1 : a + max b d < 2147483600) : BC yb_nl prog_37_method_27_code 4 (some .int) 1 40 0 0 bs (fun x adr => [.int (iN a), .int (iN b), .int (iN d)]) (fun x => True) (fun x v x' => v = some (.int (iN (a + max b d))) ∧ x' = x) := by
  refine bc_of (by decide) rfl (fun _ _ => by simp [lg_sl, Value.category]) ?_
  intro p l e s m args below meth c D tA n0 adr adV sz x ls hP X hz g hret hlk hl
  have hl : lv_has ls 4 [(0, .int (iN a)), (1, .int (iN b)), (2, .int (iN d))] := hl
  have h3 : inR (a + max b d) := ⟨by omega, by omega⟩
  refine lv_iload_n (i := 0) (x := iN a) X.1 X.2.1 db_nl_0 rfl (lv_at hl 0 rfl) ?_
  refine lv_iload_n (i := 1) (x := iN b) X.1 X.2.1 db_nl_1 rfl (lv_at hl 1 rfl) ?_
  refine lv_iload_n (i := 2) (x := iN d) X.1 X.2.1 db_nl_2 rfl (lv_at hl 2 rfl) ?_
  refine va_mmax X.1 X.2.1 (by rw [X.2.2.1, hl.1]) X.2.2.2.1 (X.2.2.2.2 _ mb_max_ArraysSupport.1) (X.2.2.2.2 _ mb_max_ArraysSupport.2.1) (X.2.2.2.2 _ mb_max_ArraysSupport.2.2.1) (X.2.2.2.2 _ mb_max_ArraysSupport.2.2.2) (by decide) (by simp [Value.category]) (Nat.zero_le _) (Nat.zero_le _) db_nl_3 ?_
  rw [iN_max hb hd]
  refine lv_iadd X.1 X.2.1 db_nl_6 ?_
  rw [iN_add]
  refine lv_istore_n (i := 3) (lv' := [(3, .int (iN (a + (max b d)))), (0, .int (iN a)), (1, .int (iN b)), (2, .int (iN d))]) X.1 X.2.1 db_nl_7 rfl hl (by decide) rfl (fun ls1 hl1 => ?_)
  refine lv_iconst (v := iN 0) X.1 X.2.1 db_nl_8 (by decide) ?_
  refine lv_iload_n (i := 3) (x := iN (a + (max b d))) X.1 X.2.1 db_nl_9 rfl (lv_at hl1 0 rfl) ?_
  refine lv_icmp_ge (tgt := 21) X.1 X.2.1 db_nl_10 (by decide) (fun h => absurd h (fun z => by
    have := (iN_le h3 inR_0).mp z
    omega)) (fun _ => ?_)
  refine lv_iload_n (i := 3) (x := iN (a + (max b d))) X.1 X.2.1 db_nl_13 rfl (lv_at hl1 0 rfl) ?_
  refine lv_ldc (own := "jdk/internal/util/ArraysSupport") X.1 X.2.1 X.2.2.2.1 (X.2.2.2.2 _ kb_0) db_nl_14 ?_
  refine lv_icmp_gt (tgt := 21) X.1 X.2.1 db_nl_16 (by decide) (fun h => absurd h (fun z => by
    have := (iN_lt (x := 2147483639) ⟨by omega, by omega⟩ h3).mp z
    omega)) (fun _ => ?_)
  refine lv_iload_n (i := 3) (x := iN (a + (max b d))) X.1 X.2.1 db_nl_19 rfl (lv_at hl1 0 rfl) ?_
  exact b_zret (v := iN (a + max b d)) X hret (by first | rfl | exact vp_nar_int _) hlk g ⟨rfl, rfl⟩ (by omega) (by omega) db_nl_20
def yb_nc : MethodName := ⟨"java/lang/AbstractStringBuilder", "newCapacity", "(I)I"⟩
set_option maxRecDepth 100000 in
theorem db_nc_0 : decode prog_16_method_10_code 0 = .ok (.aload_n 0, 1) := rfl
set_option maxRecDepth 100000 in
theorem fb_2 : Cond.fieldLink "java/lang/AbstractStringBuilder" 15 (TJ4 0).1 (TJ4 0).2.1 (TJ4 0).2.2.1 ∈ gW := gW_at (i := 492) rfl rfl
set_option maxRecDepth 100000 in
theorem db_nc_1 : decode prog_16_method_10_code 1 = .ok (.getfield 15, 3) := rfl
set_option maxRecDepth 100000 in
theorem db_nc_4 : decode prog_16_method_10_code 4 = .ok (.arraylength, 1) := rfl
set_option maxRecDepth 100000 in
theorem db_nc_5 : decode prog_16_method_10_code 5 = .ok (.istore_n 2, 1) := rfl
set_option maxRecDepth 100000 in
theorem db_nc_6 : decode prog_16_method_10_code 6 = .ok (.iload_n 1, 1) := rfl
set_option maxRecDepth 100000 in
theorem db_nc_7 : decode prog_16_method_10_code 7 = .ok (.aload_n 0, 1) := rfl
set_option maxRecDepth 100000 in
theorem db_nc_8 : decode prog_16_method_10_code 8 = .ok (.getfield 22, 3) := rfl
set_option maxRecDepth 100000 in
theorem db_nc_11 : decode prog_16_method_10_code 11 = .ok (.ishl, 1) := rfl
set_option maxRecDepth 100000 in
theorem db_nc_12 : decode prog_16_method_10_code 12 = .ok (.istore_n 3, 1) := rfl
set_option maxRecDepth 100000 in
theorem db_nc_13 : decode prog_16_method_10_code 13 = .ok (.iload_n 3, 1) := rfl
set_option maxRecDepth 100000 in
theorem db_nc_14 : decode prog_16_method_10_code 14 = .ok (.iload_n 2, 1) := rfl
set_option maxRecDepth 100000 in
theorem db_nc_15 : decode prog_16_method_10_code 15 = .ok (.isub, 1) := rfl
set_option maxRecDepth 100000 in
theorem db_nc_16 : decode prog_16_method_10_code 16 = .ok (.istore 4, 2) := rfl
set_option maxRecDepth 100000 in
theorem db_nc_18 : decode prog_16_method_10_code 18 = .ok (.iload_n 2, 1) := rfl
set_option maxRecDepth 100000 in
theorem db_nc_19 : decode prog_16_method_10_code 19 = .ok (.iload 4, 2) := rfl
set_option maxRecDepth 100000 in
theorem db_nc_21 : decode prog_16_method_10_code 21 = .ok (.iload_n 2, 1) := rfl
set_option maxRecDepth 100000 in
theorem db_nc_22 : decode prog_16_method_10_code 22 = .ok (.iconst 2, 1) := rfl
set_option maxRecDepth 100000 in
theorem db_nc_23 : decode prog_16_method_10_code 23 = .ok (.aload_n 0, 1) := rfl
set_option maxRecDepth 100000 in
theorem db_nc_24 : decode prog_16_method_10_code 24 = .ok (.getfield 22, 3) := rfl
set_option maxRecDepth 100000 in
theorem db_nc_27 : decode prog_16_method_10_code 27 = .ok (.ishl, 1) := rfl
set_option maxRecDepth 100000 in
theorem db_nc_28 : decode prog_16_method_10_code 28 = .ok (.iadd, 1) := rfl
set_option maxRecDepth 100000 in
theorem wb_0 : BWd 1 "java/lang/AbstractStringBuilder" 114 yb_nl prog_37_method_27_code 4 (some .int) "java/lang/AbstractStringBuilder" 3 := ⟨⟨⟨gW_at (i := 1434) rfl rfl, gW_at (i := 130) rfl rfl, gW_at (i := 1436) rfl rfl⟩, ⟨by decide, by decide, rfl⟩, by decide⟩, gW_at (i := 1435) rfl rfl⟩
set_option maxRecDepth 100000 in
theorem db_nc_29 : decode prog_16_method_10_code 29 = .ok (.invokestatic 114, 3) := rfl
set_option maxRecDepth 100000 in
theorem db_nc_32 : decode prog_16_method_10_code 32 = .ok (.istore 5, 2) := rfl
set_option maxRecDepth 100000 in
theorem db_nc_34 : decode prog_16_method_10_code 34 = .ok (.iload 5, 2) := rfl
set_option maxRecDepth 100000 in
theorem kb_1 : Cond.constant "java/lang/AbstractStringBuilder" 39 (iN 2147483647) ∈ gW := gW_at (i := 1442) rfl rfl
set_option maxRecDepth 100000 in
theorem db_nc_36 : decode prog_16_method_10_code 36 = .ok (.ldc 39, 2) := rfl
set_option maxRecDepth 100000 in
theorem db_nc_38 : decode prog_16_method_10_code 38 = .ok (.if_icmp .ne 13, 3) := rfl
set_option maxRecDepth 100000 in
theorem db_nc_51 : decode prog_16_method_10_code 51 = .ok (.iload 5, 2) := rfl
set_option maxRecDepth 100000 in
theorem db_nc_53 : decode prog_16_method_10_code 53 = .ok (.aload_n 0, 1) := rfl
set_option maxRecDepth 100000 in
theorem db_nc_54 : decode prog_16_method_10_code 54 = .ok (.getfield 22, 3) := rfl
set_option maxRecDepth 100000 in
theorem db_nc_57 : decode prog_16_method_10_code 57 = .ok (.ishr, 1) := rfl
set_option maxRecDepth 100000 in
theorem db_nc_58 : decode prog_16_method_10_code 58 = .ok (.ireturn, 1) := rfl
set_option maxHeartbeats 4000000 in
set_option maxRecDepth 100000 in
theorem b_newCapacity {a : Int} (h0 : 0 ≤ a) (h1 : a ≤ 1000) : BC yb_nc prog_16_method_10_code 6 (some .int) 2 140 0 0 bs (fun x adr => [.ref bs, .int (iN a)]) (fun x => True) (fun x v x' => v = some (.int (iN ((xC x : Int) + max (a - (xC x : Int)) ((xC x : Int) + 2)))) ∧ x' = x) := by
  refine bc_of (by decide) rfl (fun _ _ => by simp [lg_sl, Value.category]) ?_
  intro p l e s m args below meth c D tA n0 adr adV sz x ls hP X hz g hret hlk hl
  have hl : lv_has ls 6 [(0, .ref bs), (1, .int (iN a))] := hl
  have hC : xC x ≤ 142 := by rcases g.2.2.1.1 with h | h | h | h <;> omega
  refine lv_aload_n (i := 0) (x := bs) X.1 X.2.1 db_nc_0 rfl (lv_at hl 0 rfl) ?_
  refine b_get (k := 0) X hz g (by decide) fb_2 rfl db_nc_1 ?_
  refine b_len X hz g db_nc_4 ?_
  refine lv_istore_n (i := 2) (lv' := [(2, .int (iN (xC x : Int))), (0, .ref bs), (1, .int (iN a))]) X.1 X.2.1 db_nc_5 rfl hl (by decide) rfl (fun ls1 hl1 => ?_)
  refine lv_iload_n (i := 1) (x := iN a) X.1 X.2.1 db_nc_6 rfl (lv_at hl1 2 rfl) ?_
  refine lv_aload_n (i := 0) (x := bs) X.1 X.2.1 db_nc_7 rfl (lv_at hl1 1 rfl) ?_
  refine b_get (k := 1) X hz g (by decide) fb_0 rfl db_nc_8 ?_
  refine lv_ishl X.1 X.2.1 db_nc_11 ?_
  rw [sh_l0]
  refine lv_istore_n (i := 3) (lv' := [(3, .int (iN a)), (2, .int (iN (xC x : Int))), (0, .ref bs), (1, .int (iN a))]) X.1 X.2.1 db_nc_12 rfl hl1 (by decide) rfl (fun ls2 hl2 => ?_)
  refine lv_iload_n (i := 3) (x := iN a) X.1 X.2.1 db_nc_13 rfl (lv_at hl2 0 rfl) ?_
  refine lv_iload_n (i := 2) (x := iN (xC x : Int)) X.1 X.2.1 db_nc_14 rfl (lv_at hl2 1 rfl) ?_
  refine lv_isub X.1 X.2.1 db_nc_15 ?_
  rw [iN_sub]
  refine lv_istore (lv' := [(4, .int (iN (a - (xC x : Int)))), (3, .int (iN a)), (2, .int (iN (xC x : Int))), (0, .ref bs), (1, .int (iN a))]) X.1 X.2.1 db_nc_16 hl2 (by decide) rfl (fun ls3 hl3 => ?_)
  refine lv_iload_n (i := 2) (x := iN (xC x : Int)) X.1 X.2.1 db_nc_18 rfl (lv_at hl3 2 rfl) ?_
  refine lv_iload (x := iN (a - (xC x : Int))) X.1 X.2.1 db_nc_19 (lv_at hl3 0 rfl) ?_
  refine lv_iload_n (i := 2) (x := iN (xC x : Int)) X.1 X.2.1 db_nc_21 rfl (lv_at hl3 2 rfl) ?_
  refine lv_iconst (v := iN 2) X.1 X.2.1 db_nc_22 (by decide) ?_
  refine lv_aload_n (i := 0) (x := bs) X.1 X.2.1 db_nc_23 rfl (lv_at hl3 3 rfl) ?_
  refine b_get (k := 1) X hz g (by decide) fb_0 rfl db_nc_24 ?_
  refine lv_ishl X.1 X.2.1 db_nc_27 ?_
  rw [sh_l0]
  refine lv_iadd X.1 X.2.1 db_nc_28 ?_
  rw [iN_add]
  refine b_callS (As := [.int (iN (xC x : Int)), .int (iN (a - (xC x : Int))), .int (iN ((xC x : Int) + 2))]) (rest := []) X hz g (b_newLength ⟨by omega, by omega⟩ ⟨by omega, by omega⟩ (by omega) (by omega)) trivial wb_0 rfl rfl hl3.1 ⟨by decide, by decide⟩ ⟨by decide, by decide⟩ (by simp [Value.category]) rfl db_nc_29 (fun v x1 H1 lc1 hv1 g1 => ?_)
  obtain ⟨rfl, rfl⟩ := hv1
  refine lv_istore (lv' := [(5, .int (iN ((xC x1 : Int) + max (a - (xC x1 : Int)) ((xC x1 : Int) + 2)))), (4, .int (iN (a - (xC x1 : Int)))), (3, .int (iN a)), (2, .int (iN (xC x1 : Int))), (0, .ref bs), (1, .int (iN a))]) X.1 X.2.1 db_nc_32 hl3 (by decide) rfl (fun ls4 hl4 => ?_)
  refine lv_iload (x := iN ((xC x1 : Int) + max (a - (xC x1 : Int)) ((xC x1 : Int) + 2))) X.1 X.2.1 db_nc_34 (lv_at hl4 0 rfl) ?_
  refine lv_ldc (own := "java/lang/AbstractStringBuilder") X.1 X.2.1 X.2.2.2.1 (X.2.2.2.2 _ kb_1) db_nc_36 ?_
  refine lv_icmp_ne (tgt := 51) X.1 X.2.1 db_nc_38 (by decide) (fun _ => ?_) (fun h => absurd h (fun z => by
    have := (iN_eq (y := 2147483647) ⟨by omega, by omega⟩ ⟨by omega, by omega⟩).mp z
    omega))
  refine lv_iload (x := iN ((xC x1 : Int) + max (a - (xC x1 : Int)) ((xC x1 : Int) + 2))) X.1 X.2.1 db_nc_51 (lv_at hl4 0 rfl) ?_
  refine lv_aload_n (i := 0) (x := bs) X.1 X.2.1 db_nc_53 rfl (lv_at hl4 4 rfl) ?_
  refine b_get (k := 1) X hz g1 (by decide) fb_0 rfl db_nc_54 ?_
  refine lv_ishr X.1 X.2.1 db_nc_57 ?_
  rw [sh_r0]
  exact b_zret (v := iN ((xC x1 : Int) + max (a - (xC x1 : Int)) ((xC x1 : Int) + 2))) X hret (by first | rfl | exact vp_nar_int _) hlk g1 ⟨rfl, rfl⟩ (by omega) (by omega) db_nc_58
def yb_ce : MethodName := ⟨"java/lang/StringLatin1", "canEncode", "(C)Z"⟩
set_option maxRecDepth 100000 in
theorem db_ce_0 : decode prog_29_method_3_code 0 = .ok (.iload_n 0, 1) := rfl
set_option maxRecDepth 100000 in
theorem db_ce_1 : decode prog_29_method_3_code 1 = .ok (.sipush 255, 3) := rfl
set_option maxRecDepth 100000 in
theorem db_ce_4 : decode prog_29_method_3_code 4 = .ok (.if_icmp .gt 7, 3) := rfl
set_option maxRecDepth 100000 in
theorem db_ce_7 : decode prog_29_method_3_code 7 = .ok (.iconst 1, 1) := rfl
set_option maxRecDepth 100000 in
theorem db_ce_8 : decode prog_29_method_3_code 8 = .ok (.goto 4, 3) := rfl
set_option maxRecDepth 100000 in
theorem db_ce_12 : decode prog_29_method_3_code 12 = .ok (.ireturn, 1) := rfl
set_option maxHeartbeats 4000000 in
set_option maxRecDepth 100000 in
theorem b_canEncode {a : Int} (h0 : 0 ≤ a) (h1 : a ≤ 127) : BC yb_ce prog_29_method_3_code 1 (some .boolean) 0 0 0 0 bs (fun x adr => [.int (iN a)]) (fun x => True) (fun x v x' => v = some (.int (iN 1)) ∧ x' = x) := by
  refine bc_of (by decide) rfl (fun _ _ => by simp [lg_sl, Value.category]) ?_
  intro p l e s m args below meth c D tA n0 adr adV sz x ls hP X hz g hret hlk hl
  have hl : lv_has ls 1 [(0, .int (iN a))] := hl
  refine lv_iload_n (i := 0) (x := iN a) X.1 X.2.1 db_ce_0 rfl (lv_at hl 0 rfl) ?_
  refine lv_sipush (v := iN 255) X.1 X.2.1 db_ce_1 (by decide) ?_
  refine lv_icmp_gt (tgt := 11) X.1 X.2.1 db_ce_4 (by decide) (fun h => absurd h (fun z => by
    have := (iN_lt (x := 255) ⟨by omega, by omega⟩ ⟨by omega, by omega⟩).mp z
    omega)) (fun _ => ?_)
  refine lv_iconst (v := iN 1) X.1 X.2.1 db_ce_7 (by decide) ?_
  refine lv_goto (tgt := 12) X.1 X.2.1 db_ce_8 (by decide) ?_
  exact b_zret (v := iN 1) X hret (by first | rfl | exact vp_nar_int _) hlk g ⟨rfl, rfl⟩ (by omega) (by omega) db_ce_12
end B2
