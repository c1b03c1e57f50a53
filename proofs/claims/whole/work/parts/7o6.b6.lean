/-! THE BUILDER, 6: java.lang.StringBuilder itself (printed by wip/whole/g7b.py). -/
section B2
variable {bs : Nat}
def yb_appC : MethodName := ⟨RJ4, "append", "(C)Ljava/lang/StringBuilder;"⟩
set_option maxRecDepth 100000 in
theorem db_appC_0 : decode prog_28_method_14_code 0 = .ok (.aload_n 0, 1) := rfl
set_option maxRecDepth 100000 in
theorem db_appC_1 : decode prog_28_method_14_code 1 = .ok (.iload_n 1, 1) := rfl
set_option maxRecDepth 100000 in
theorem wb_16 : BWd 2 RJ4 50 yb_ac prog_16_method_31_code 2 (some (.object "java/lang/AbstractStringBuilder")) RJ4 1 := ⟨⟨⟨gW_at (i := 1644) rfl rfl, gW_at (i := 114) rfl rfl, gW_at (i := 1646) rfl rfl⟩, ⟨by decide, by decide, rfl⟩, by decide⟩, ⟨gW_at (i := 1645) rfl rfl, gW_at (i := 2333) rfl rfl, gW_at (i := 505) rfl rfl⟩, by decide⟩
set_option maxRecDepth 100000 in
theorem db_appC_2 : decode prog_28_method_14_code 2 = .ok (.invokespecial 50, 3) := rfl
set_option maxRecDepth 100000 in
theorem db_appC_5 : decode prog_28_method_14_code 5 = .ok (.pop, 1) := rfl
set_option maxRecDepth 100000 in
theorem db_appC_6 : decode prog_28_method_14_code 6 = .ok (.aload_n 0, 1) := rfl
set_option maxRecDepth 100000 in
theorem db_appC_7 : decode prog_28_method_14_code 7 = .ok (.areturn, 1) := rfl
set_option maxHeartbeats 4000000 in
set_option maxRecDepth 100000 in
theorem b_appC {a : Int} (h0 : 0 ≤ a) (h1 : a ≤ 127) : BC yb_appC prog_28_method_14_code 2 (some (.object "java/lang/StringBuilder")) 7 700 1 142 bs (fun x adr => [.ref bs, .int (iN a)]) (fun x => xN x ≤ 141) (fun x v x' => v = some (.ref bs) ∧ xN x' = xN x + 1 ∧ (∀ j, j < xN x → xT x' j = xT x j) ∧ xT x' (xN x) = a) := by
  refine bc_of (by decide) rfl (fun _ _ => by simp [lg_sl, Value.category]) ?_
  intro p l e s m args below meth c D tA n0 adr adV sz x ls hP X hz g hret hlk hl
  have hl : lv_has ls 2 [(0, .ref bs), (1, .int (iN a))] := hl
  refine lv_aload_n (i := 0) (x := bs) X.1 X.2.1 db_appC_0 rfl (lv_at hl 0 rfl) ?_
  refine lv_iload_n (i := 1) (x := iN a) X.1 X.2.1 db_appC_1 rfl (lv_at hl 1 rfl) ?_
  refine b_callU (As := [.int (iN a)]) (rest := []) X hz g (b_appC0 h0 h1) hP wb_16 rfl rfl hl.1 ⟨by decide, by decide⟩ ⟨by decide, by decide⟩ (by simp [Value.category]) rfl db_appC_2 (fun v x1 H1 lc1 hv1 g1 => ?_)
  obtain ⟨rfl, hv1⟩ := hv1
  refine lv_pop X.1 X.2.1 db_appC_5 rfl ?_
  refine lv_aload_n (i := 0) (x := bs) X.1 X.2.1 db_appC_6 rfl (lv_at hl 0 rfl) ?_
  exact b_aret X hret hlk g1 ⟨rfl, hv1⟩ (by omega) (by omega) db_appC_7
def yb_appI : MethodName := ⟨RJ4, "append", "(I)Ljava/lang/StringBuilder;"⟩
set_option maxRecDepth 100000 in
theorem db_appI_0 : decode prog_28_method_15_code 0 = .ok (.aload_n 0, 1) := rfl
set_option maxRecDepth 100000 in
theorem db_appI_1 : decode prog_28_method_15_code 1 = .ok (.iload_n 1, 1) := rfl
set_option maxRecDepth 100000 in
theorem wb_17 : BWd 2 RJ4 53 yb_ai prog_16_method_32_code 4 (some (.object "java/lang/AbstractStringBuilder")) RJ4 1 := ⟨⟨⟨gW_at (i := 1540) rfl rfl, gW_at (i := 114) rfl rfl, gW_at (i := 1542) rfl rfl⟩, ⟨by decide, by decide, rfl⟩, by decide⟩, ⟨gW_at (i := 1541) rfl rfl, gW_at (i := 2332) rfl rfl, gW_at (i := 505) rfl rfl⟩, by decide⟩
set_option maxRecDepth 100000 in
theorem db_appI_2 : decode prog_28_method_15_code 2 = .ok (.invokespecial 53, 3) := rfl
set_option maxRecDepth 100000 in
theorem db_appI_5 : decode prog_28_method_15_code 5 = .ok (.pop, 1) := rfl
set_option maxRecDepth 100000 in
theorem db_appI_6 : decode prog_28_method_15_code 6 = .ok (.aload_n 0, 1) := rfl
set_option maxRecDepth 100000 in
theorem db_appI_7 : decode prog_28_method_15_code 7 = .ok (.areturn, 1) := rfl
set_option maxHeartbeats 4000000 in
set_option maxRecDepth 100000 in
theorem b_appI {a : Int} (h0 : 0 ≤ a) (h1 : a ≤ 99) : BC yb_appI prog_28_method_15_code 2 (some (.object "java/lang/StringBuilder")) 7 700 1 142 bs (fun x adr => [.ref bs, .int (iN a)]) (fun x => xN x ≤ 140) (fun x v x' => v = some (.ref bs) ∧ (∀ j, j < xN x → xT x' j = xT x j) ∧ if a ≤ 9 then xN x' = xN x + 1 ∧ xT x' (xN x) = 48 + a else xN x' = xN x + 2 ∧ xT x' (xN x) = 48 + a / 10 ∧ xT x' (xN x + 1) = 48 + a % 10) := by
  refine bc_of (by decide) rfl (fun _ _ => by simp [lg_sl, Value.category]) ?_
  intro p l e s m args below meth c D tA n0 adr adV sz x ls hP X hz g hret hlk hl
  have hl : lv_has ls 2 [(0, .ref bs), (1, .int (iN a))] := hl
  refine lv_aload_n (i := 0) (x := bs) X.1 X.2.1 db_appI_0 rfl (lv_at hl 0 rfl) ?_
  refine lv_iload_n (i := 1) (x := iN a) X.1 X.2.1 db_appI_1 rfl (lv_at hl 1 rfl) ?_
  refine b_callU (As := [.int (iN a)]) (rest := []) X hz g (b_appI0 h0 h1) hP wb_17 rfl rfl hl.1 ⟨by decide, by decide⟩ ⟨by decide, by decide⟩ (by simp [Value.category]) rfl db_appI_2 (fun v x1 H1 lc1 hv1 g1 => ?_)
  obtain ⟨rfl, hv1⟩ := hv1
  refine lv_pop X.1 X.2.1 db_appI_5 rfl ?_
  refine lv_aload_n (i := 0) (x := bs) X.1 X.2.1 db_appI_6 rfl (lv_at hl 0 rfl) ?_
  exact b_aret X hret hlk g1 ⟨rfl, hv1⟩ (by omega) (by omega) db_appI_7
def yb_appS : MethodName := ⟨RJ4, "append", "(Ljava/lang/String;)Ljava/lang/StringBuilder;"⟩
set_option maxRecDepth 100000 in
theorem db_appS_0 : decode prog_28_method_7_code 0 = .ok (.aload_n 0, 1) := rfl
set_option maxRecDepth 100000 in
theorem db_appS_1 : decode prog_28_method_7_code 1 = .ok (.aload_n 1, 1) := rfl
set_option maxRecDepth 100000 in
theorem wb_18 : BWd 2 RJ4 29 yb_as prog_16_method_22_code 3 (some (.object "java/lang/AbstractStringBuilder")) RJ4 1 := ⟨⟨⟨gW_at (i := 1479) rfl rfl, gW_at (i := 114) rfl rfl, gW_at (i := 1481) rfl rfl⟩, ⟨by decide, by decide, rfl⟩, by decide⟩, ⟨gW_at (i := 1480) rfl rfl, gW_at (i := 2327) rfl rfl, gW_at (i := 505) rfl rfl⟩, by decide⟩
set_option maxRecDepth 100000 in
theorem db_appS_2 : decode prog_28_method_7_code 2 = .ok (.invokespecial 29, 3) := rfl
set_option maxRecDepth 100000 in
theorem db_appS_5 : decode prog_28_method_7_code 5 = .ok (.pop, 1) := rfl
set_option maxRecDepth 100000 in
theorem db_appS_6 : decode prog_28_method_7_code 6 = .ok (.aload_n 0, 1) := rfl
set_option maxRecDepth 100000 in
theorem db_appS_7 : decode prog_28_method_7_code 7 = .ok (.areturn, 1) := rfl
set_option maxHeartbeats 4000000 in
set_option maxRecDepth 100000 in
theorem b_appS : BC yb_appS prog_28_method_7_code 2 (some (.object "java/lang/StringBuilder")) 7 900 1 142 bs (fun x adr => [.ref bs, .ref (adr (NN + 6))]) (fun x => xN x = 0) (fun x v x' => v = some (.ref bs) ∧ xN x' = 7 ∧ ∀ j, j < 7 → xT x' j = tbW.getD j 0) := by
  refine bc_of (by decide) rfl (fun _ _ => by simp [lg_sl, Value.category]) ?_
  intro p l e s m args below meth c D tA n0 adr adV sz x ls hP X hz g hret hlk hl
  have hl : lv_has ls 2 [(0, .ref bs), (1, .ref (adr (NN + 6)))] := hl
  refine lv_aload_n (i := 0) (x := bs) X.1 X.2.1 db_appS_0 rfl (lv_at hl 0 rfl) ?_
  refine lv_aload_n (i := 1) (x := (adr (NN + 6))) X.1 X.2.1 db_appS_1 rfl (lv_at hl 1 rfl) ?_
  refine b_callU (As := [.ref (adr (NN + 6))]) (rest := []) X hz g (b_appS0) hP wb_18 rfl rfl hl.1 ⟨by decide, by decide⟩ ⟨by decide, by decide⟩ (by simp [Value.category]) rfl db_appS_2 (fun v x1 H1 lc1 hv1 g1 => ?_)
  obtain ⟨rfl, hv1⟩ := hv1
  refine lv_pop X.1 X.2.1 db_appS_5 rfl ?_
  refine lv_aload_n (i := 0) (x := bs) X.1 X.2.1 db_appS_6 rfl (lv_at hl 0 rfl) ?_
  exact b_aret X hret hlk g1 ⟨rfl, hv1⟩ (by omega) (by omega) db_appS_7
def yb_setL : MethodName := ⟨RJ4, "setLength", "(I)V"⟩
set_option maxRecDepth 100000 in
theorem db_setL_0 : decode prog_28_method_89_code 0 = .ok (.aload_n 0, 1) := rfl
set_option maxRecDepth 100000 in
theorem db_setL_1 : decode prog_28_method_89_code 1 = .ok (.iload_n 1, 1) := rfl
set_option maxRecDepth 100000 in
theorem wb_19 : BWd 2 RJ4 333 yb_sl prog_16_method_13_code 2 none RJ4 1 := ⟨⟨⟨gW_at (i := 1423) rfl rfl, gW_at (i := 114) rfl rfl, gW_at (i := 1425) rfl rfl⟩, ⟨by decide, by decide, rfl⟩, by decide⟩, ⟨gW_at (i := 1424) rfl rfl, gW_at (i := 2324) rfl rfl, gW_at (i := 505) rfl rfl⟩, by decide⟩
set_option maxRecDepth 100000 in
theorem db_setL_2 : decode prog_28_method_89_code 2 = .ok (.invokespecial 333, 3) := rfl
set_option maxRecDepth 100000 in
theorem db_setL_5 : decode prog_28_method_89_code 5 = .ok (.return_, 1) := rfl
set_option maxHeartbeats 4000000 in
set_option maxRecDepth 100000 in
theorem b_setL : BC yb_setL prog_28_method_89_code 2 none 6 600 1 142 bs (fun x adr => [.ref bs, .int (iN 0)]) (fun x => True) (fun x v x' => v = none ∧ xN x' = 0) := by
  refine bc_of (by decide) rfl (fun _ _ => by simp [lg_sl, Value.category]) ?_
  intro p l e s m args below meth c D tA n0 adr adV sz x ls hP X hz g hret hlk hl
  have hl : lv_has ls 2 [(0, .ref bs), (1, .int (iN 0))] := hl
  refine lv_aload_n (i := 0) (x := bs) X.1 X.2.1 db_setL_0 rfl (lv_at hl 0 rfl) ?_
  refine lv_iload_n (i := 1) (x := iN 0) X.1 X.2.1 db_setL_1 rfl (lv_at hl 1 rfl) ?_
  refine b_callU (As := [.int (iN 0)]) (rest := []) X hz g (b_setLen0) hP wb_19 rfl rfl hl.1 ⟨by decide, by decide⟩ ⟨by decide, by decide⟩ (by simp [Value.category]) rfl db_setL_2 (fun v x1 H1 lc1 hv1 g1 => ?_)
  obtain ⟨rfl, hv1⟩ := hv1
  exact b_vret X hret hlk g1 ⟨rfl, hv1⟩ (by omega) (by omega) db_setL_5
def yb_lenS : MethodName := ⟨RJ4, "length", "()I"⟩
set_option maxRecDepth 100000 in
theorem db_lenS_0 : decode prog_28_method_93_code 0 = .ok (.aload_n 0, 1) := rfl
set_option maxRecDepth 100000 in
theorem wb_20 : BWd 2 RJ4 343 yb_len prog_16_method_6_code 1 (some .int) RJ4 0 := ⟨⟨⟨gW_at (i := 1587) rfl rfl, gW_at (i := 114) rfl rfl, gW_at (i := 1588) rfl rfl⟩, ⟨by decide, by decide, rfl⟩, by decide⟩, ⟨gW_at (i := 1582) rfl rfl, gW_at (i := 1583) rfl rfl, gW_at (i := 505) rfl rfl⟩, by decide⟩
set_option maxRecDepth 100000 in
theorem db_lenS_1 : decode prog_28_method_93_code 1 = .ok (.invokespecial 343, 3) := rfl
set_option maxRecDepth 100000 in
theorem db_lenS_4 : decode prog_28_method_93_code 4 = .ok (.ireturn, 1) := rfl
set_option maxHeartbeats 4000000 in
set_option maxRecDepth 100000 in
theorem b_lenS : BC yb_lenS prog_28_method_93_code 1 (some .int) 1 60 0 0 bs (fun x adr => [.ref bs]) (fun x => True) (fun x v x' => v = some (.int (iN (xN x : Int))) ∧ x' = x) := by
  refine bc_of (by decide) rfl (fun _ _ => by simp [lg_sl, Value.category]) ?_
  intro p l e s m args below meth c D tA n0 adr adV sz x ls hP X hz g hret hlk hl
  have hl : lv_has ls 1 [(0, .ref bs)] := hl
  refine lv_aload_n (i := 0) (x := bs) X.1 X.2.1 db_lenS_0 rfl (lv_at hl 0 rfl) ?_
  refine b_callU (As := []) (rest := []) X hz g (b_length) hP wb_20 rfl rfl hl.1 ⟨by decide, by decide⟩ ⟨by decide, by decide⟩ (by simp [Value.category]) rfl db_lenS_1 (fun v x1 H1 lc1 hv1 g1 => ?_)
  obtain ⟨rfl, rfl⟩ := hv1
  exact b_zret (v := iN (xN x1 : Int)) X hret (by first | rfl | exact vp_nar_int _) hlk g1 ⟨rfl, rfl⟩ (by omega) (by omega) db_lenS_4
def yb_charS : MethodName := ⟨RJ4, "charAt", "(I)C"⟩
set_option maxRecDepth 100000 in
theorem db_charS_0 : decode prog_28_method_88_code 0 = .ok (.aload_n 0, 1) := rfl
set_option maxRecDepth 100000 in
theorem db_charS_1 : decode prog_28_method_88_code 1 = .ok (.iload_n 1, 1) := rfl
set_option maxRecDepth 100000 in
theorem wb_21 : BWd 2 RJ4 329 yb_ca prog_16_method_14_code 5 (some .char) RJ4 1 := ⟨⟨⟨gW_at (i := 1658) rfl rfl, gW_at (i := 114) rfl rfl, gW_at (i := 1660) rfl rfl⟩, ⟨by decide, by decide, rfl⟩, by decide⟩, ⟨gW_at (i := 1659) rfl rfl, gW_at (i := 2335) rfl rfl, gW_at (i := 505) rfl rfl⟩, by decide⟩
set_option maxRecDepth 100000 in
theorem db_charS_2 : decode prog_28_method_88_code 2 = .ok (.invokespecial 329, 3) := rfl
set_option maxRecDepth 100000 in
theorem db_charS_5 : decode prog_28_method_88_code 5 = .ok (.ireturn, 1) := rfl
set_option maxHeartbeats 4000000 in
set_option maxRecDepth 100000 in
theorem b_charS {i : Int} : BC yb_charS prog_28_method_88_code 2 (some .char) 3 260 0 0 bs (fun x adr => [.ref bs, .int (iN i)]) (fun x => 0 ≤ i ∧ i < (xN x : Int)) (fun x v x' => v = some (.int (iN (xT x i.toNat))) ∧ x' = x) := by
  refine bc_of (by decide) rfl (fun _ _ => by simp [lg_sl, Value.category]) ?_
  intro p l e s m args below meth c D tA n0 adr adV sz x ls hP X hz g hret hlk hl
  have hl : lv_has ls 2 [(0, .ref bs), (1, .int (iN i))] := hl
  refine lv_aload_n (i := 0) (x := bs) X.1 X.2.1 db_charS_0 rfl (lv_at hl 0 rfl) ?_
  refine lv_iload_n (i := 1) (x := iN i) X.1 X.2.1 db_charS_1 rfl (lv_at hl 1 rfl) ?_
  refine b_callU (As := [.int (iN i)]) (rest := []) X hz g (b_charAt0) hP wb_21 rfl rfl hl.1 ⟨by decide, by decide⟩ ⟨by decide, by decide⟩ (by simp [Value.category]) rfl db_charS_2 (fun v x1 H1 lc1 hv1 g1 => ?_)
  obtain ⟨rfl, rfl⟩ := hv1
  exact b_zret (v := iN (xT x1 i.toNat)) X hret (ch_id (g1.2.2.1.2.2 _).1 (g1.2.2.1.2.2 _).2).2 hlk g1 ⟨rfl, rfl⟩ (by omega) (by omega) db_charS_5
end B2
