/-! THE LAW, 4: its words, rows, wrappers (printed by wip/whole/g7f.py). -/
set_option maxRecDepth 100000 in
theorem lk_18 : Cond.classLink lwN 18 (excN 0) ∈ gW := gW_at (i := 1123) rfl rfl
set_option maxRecDepth 100000 in
theorem lk_13 : Cond.classLink lwN 13 (excN 1) ∈ gW := gW_at (i := 912) rfl rfl
theorem ex_c0 : Cond.castable (excN 0) (excN 0) ∈ excD := by decide +kernel
theorem ex_c1 : Cond.castable (excN 1) (excN 1) ∈ excD := by decide +kernel
def yw_yard : MethodName := ⟨lwN, "yard", "(LRingDater;I[J)I"⟩
set_option maxRecDepth 100000 in
theorem ww_yard : LWw 71 yw_yard method_3_code 4 [(0, 9, 12, 13)] 3 := ⟨⟨gW_at (i := 909) rfl rfl, gW_at (i := 910) rfl rfl⟩, ⟨gW_at (i := 102) rfl rfl, gW_at (i := 911) rfl rfl⟩, ⟨by decide, by decide, rfl⟩, by decide⟩
set_option maxRecDepth 100000 in
theorem lwd_7 : LWd 7 m_RingDater_yard := ⟨⟨gW_at (i := 913) rfl rfl, gW_at (i := 914) rfl rfl⟩, ⟨gW_at (i := 915) rfl rfl, gW_at (i := 103) rfl rfl⟩, rfl, by decide⟩
theorem dw_yard_0 : decode method_3_code 0 = .ok (.aload_n 2, 1) := by decide +kernel
theorem dw_yard_1 : decode method_3_code 1 = .ok (.iconst 0, 1) := by decide +kernel
theorem dw_yard_2 : decode method_3_code 2 = .ok (.aload_n 0, 1) := by decide +kernel
theorem dw_yard_3 : decode method_3_code 3 = .ok (.iload_n 1, 1) := by decide +kernel
theorem dw_yard_12 : decode method_3_code 12 = .ok (.astore_n 3, 1) := by decide +kernel
theorem dw_yard_13 : decode method_3_code 13 = .ok (.iconst 1, 1) := by decide +kernel
theorem dw_yard_14 : decode method_3_code 14 = .ok (.ireturn, 1) := by decide +kernel
theorem dw_yard_4 : decode method_3_code 4 = .ok (.invokevirtual 7, 3) := by decide +kernel
theorem dw_yard_7 : decode method_3_code 7 = .ok (.i2l, 1) := by decide +kernel
theorem dw_yard_8 : decode method_3_code 8 = .ok (.lastore, 1) := by decide +kernel
theorem dw_yard_9 : decode method_3_code 9 = .ok (.goto 6, 3) := by decide +kernel
theorem dw_yard_15 : decode method_3_code 15 = .ok (.iconst 0, 1) := by decide +kernel
theorem dw_yard_16 : decode method_3_code 16 = .ok (.ireturn, 1) := by decide +kernel
set_option maxHeartbeats 4000000 in
set_option maxRecDepth 100000 in
theorem wr_yard {p0 : Int} {k : Nat} {M : Mm} (h : SimW [(1, 1)] m_RingDater_yard m_Model_yard [.inl p0] k M) : WrC yw_yard method_3_code 4 [(0, 9, 12, 13)] [.inl p0] M (WQ m_Model_yard [.inl p0] k) := by
  refine wr_of (by decide) rfl (fun adr o => by simp [lg_sl, cvA, Value.category]) ?_
  intro p l e s m args below meth c D tA n0 o bs adr adV f ls hfl hL X hs hh htab hret hlk hl
  have hl : lv_has ls 4 [(0, .ref (adr 0)), (1, .int (iN p0)), (2, .ref o)] := hl
  refine lv_aload_n (i := 2) (x := o) X.1 X.2.1 dw_yard_0 rfl (lv_at hl 2 rfl) ?_
  refine lv_iconst (v := 0) X.1 X.2.1 dw_yard_1 (by decide) ?_
  refine lv_aload_n (i := 0) (x := adr 0) X.1 X.2.1 dw_yard_2 rfl (lv_at hl 0 rfl) ?_
  refine lv_iload_n (i := 1) (x := iN p0) X.1 X.2.1 dw_yard_3 rfl (lv_at hl 1 rfl) ?_
  refine wr_mid (E := 15) h (fun z hz => ?_) X lwd_7 hL hs hh va_S.rf hl.1 (show (11 : Nat) = 11 from rfl) rfl (by decide +kernel) (by decide +kernel) (Nat.le_of_ble_eq_true rfl) hfl hret hlk rfl dw_yard_4 dw_yard_7 dw_yard_8 dw_yard_9 (by decide) dw_yard_15 dw_yard_16 (fun z hz H1 locs1 q9 ce h1 h2 h3 K => ?_)
  · simp only [List.mem_cons, List.not_mem_nil, or_false] at hz
    rcases hz with rfl <;> exact ⟨by decide, by decide, by decide⟩
  · simp only [List.mem_cons, List.not_mem_nil, or_false] at hz
    rcases hz with rfl
    · refine vx_catch (own := lwN) (name := excN 1) (E := excN 1) X.2.2.2.1 [] ⟨0, 9, 12, 13⟩ [] htab (fun z hz => by cases hz) (by decide) (by decide) (X.2.2.2.2 _ lk_13) (hs.2.2.2.1.at _ _ ex_c1) h1 h2 h3 ?_
      refine lv_astore_n (i := 3) X.1 X.2.1 dw_yard_12 rfl hl (by decide) rfl (fun ls2 hl2 => ?_)
      refine lv_iconst (v := iN 1) X.1 X.2.1 dw_yard_13 (by decide) ?_
      exact K _ _ dw_yard_14
def yw_count : MethodName := ⟨lwN, "count", "(LRingDater;I[J)I"⟩
set_option maxRecDepth 100000 in
theorem ww_count : LWw 85 yw_count method_4_code 4 [(0, 9, 12, 18)] 3 := ⟨⟨gW_at (i := 1120) rfl rfl, gW_at (i := 1121) rfl rfl⟩, ⟨gW_at (i := 102) rfl rfl, gW_at (i := 1122) rfl rfl⟩, ⟨by decide, by decide, rfl⟩, by decide⟩
set_option maxRecDepth 100000 in
theorem lwd_15 : LWd 15 m_RingDater_count := ⟨⟨gW_at (i := 1124) rfl rfl, gW_at (i := 1125) rfl rfl⟩, ⟨gW_at (i := 1126) rfl rfl, gW_at (i := 103) rfl rfl⟩, rfl, by decide⟩
theorem dw_count_0 : decode method_4_code 0 = .ok (.aload_n 2, 1) := by decide +kernel
theorem dw_count_1 : decode method_4_code 1 = .ok (.iconst 0, 1) := by decide +kernel
theorem dw_count_2 : decode method_4_code 2 = .ok (.aload_n 0, 1) := by decide +kernel
theorem dw_count_3 : decode method_4_code 3 = .ok (.iload_n 1, 1) := by decide +kernel
theorem dw_count_12 : decode method_4_code 12 = .ok (.astore_n 3, 1) := by decide +kernel
theorem dw_count_13 : decode method_4_code 13 = .ok (.iconst 1, 1) := by decide +kernel
theorem dw_count_14 : decode method_4_code 14 = .ok (.ireturn, 1) := by decide +kernel
theorem dw_count_4 : decode method_4_code 4 = .ok (.invokevirtual 15, 3) := by decide +kernel
theorem dw_count_7 : decode method_4_code 7 = .ok (.i2l, 1) := by decide +kernel
theorem dw_count_8 : decode method_4_code 8 = .ok (.lastore, 1) := by decide +kernel
theorem dw_count_9 : decode method_4_code 9 = .ok (.goto 6, 3) := by decide +kernel
theorem dw_count_15 : decode method_4_code 15 = .ok (.iconst 0, 1) := by decide +kernel
theorem dw_count_16 : decode method_4_code 16 = .ok (.ireturn, 1) := by decide +kernel
set_option maxHeartbeats 4000000 in
set_option maxRecDepth 100000 in
theorem wr_count {p0 : Int} {k : Nat} {M : Mm} (h : SimW [(0, 1)] m_RingDater_count m_Model_count [.inl p0] k M) : WrC yw_count method_4_code 4 [(0, 9, 12, 18)] [.inl p0] M (WQ m_Model_count [.inl p0] k) := by
  refine wr_of (by decide) rfl (fun adr o => by simp [lg_sl, cvA, Value.category]) ?_
  intro p l e s m args below meth c D tA n0 o bs adr adV f ls hfl hL X hs hh htab hret hlk hl
  have hl : lv_has ls 4 [(0, .ref (adr 0)), (1, .int (iN p0)), (2, .ref o)] := hl
  refine lv_aload_n (i := 2) (x := o) X.1 X.2.1 dw_count_0 rfl (lv_at hl 2 rfl) ?_
  refine lv_iconst (v := 0) X.1 X.2.1 dw_count_1 (by decide) ?_
  refine lv_aload_n (i := 0) (x := adr 0) X.1 X.2.1 dw_count_2 rfl (lv_at hl 0 rfl) ?_
  refine lv_iload_n (i := 1) (x := iN p0) X.1 X.2.1 dw_count_3 rfl (lv_at hl 1 rfl) ?_
  refine wr_mid (E := 15) h (fun z hz => ?_) X lwd_15 hL hs hh va_S.rf hl.1 (show (11 : Nat) = 11 from rfl) rfl (by decide +kernel) (by decide +kernel) (Nat.le_of_ble_eq_true rfl) hfl hret hlk rfl dw_count_4 dw_count_7 dw_count_8 dw_count_9 (by decide) dw_count_15 dw_count_16 (fun z hz H1 locs1 q9 ce h1 h2 h3 K => ?_)
  · simp only [List.mem_cons, List.not_mem_nil, or_false] at hz
    rcases hz with rfl <;> exact ⟨by decide, by decide, by decide⟩
  · simp only [List.mem_cons, List.not_mem_nil, or_false] at hz
    rcases hz with rfl
    · refine vx_catch (own := lwN) (name := excN 0) (E := excN 0) X.2.2.2.1 [] ⟨0, 9, 12, 18⟩ [] htab (fun z hz => by cases hz) (by decide) (by decide) (X.2.2.2.2 _ lk_18) (hs.2.2.2.1.at _ _ ex_c0) h1 h2 h3 ?_
      refine lv_astore_n (i := 3) X.1 X.2.1 dw_count_12 rfl hl (by decide) rfl (fun ls2 hl2 => ?_)
      refine lv_iconst (v := iN 1) X.1 X.2.1 dw_count_13 (by decide) ?_
      exact K _ _ dw_count_14
def yw_timber : MethodName := ⟨lwN, "timber", "(LRingDater;II[J)I"⟩
set_option maxRecDepth 100000 in
theorem ww_timber : LWw 88 yw_timber method_5_code 5 [(0, 10, 13, 18)] 4 := ⟨⟨gW_at (i := 1239) rfl rfl, gW_at (i := 1240) rfl rfl⟩, ⟨gW_at (i := 102) rfl rfl, gW_at (i := 1241) rfl rfl⟩, ⟨by decide, by decide, rfl⟩, by decide⟩
set_option maxRecDepth 100000 in
theorem lwd_20 : LWd 20 m_RingDater_timber := ⟨⟨gW_at (i := 1242) rfl rfl, gW_at (i := 1243) rfl rfl⟩, ⟨gW_at (i := 1244) rfl rfl, gW_at (i := 103) rfl rfl⟩, rfl, by decide⟩
theorem dw_timber_0 : decode method_5_code 0 = .ok (.aload_n 3, 1) := by decide +kernel
theorem dw_timber_1 : decode method_5_code 1 = .ok (.iconst 0, 1) := by decide +kernel
theorem dw_timber_2 : decode method_5_code 2 = .ok (.aload_n 0, 1) := by decide +kernel
theorem dw_timber_3 : decode method_5_code 3 = .ok (.iload_n 1, 1) := by decide +kernel
theorem dw_timber_4 : decode method_5_code 4 = .ok (.iload_n 2, 1) := by decide +kernel
theorem dw_timber_13 : decode method_5_code 13 = .ok (.astore 4, 2) := by decide +kernel
theorem dw_timber_15 : decode method_5_code 15 = .ok (.iconst 1, 1) := by decide +kernel
theorem dw_timber_16 : decode method_5_code 16 = .ok (.ireturn, 1) := by decide +kernel
theorem dw_timber_5 : decode method_5_code 5 = .ok (.invokevirtual 20, 3) := by decide +kernel
theorem dw_timber_8 : decode method_5_code 8 = .ok (.i2l, 1) := by decide +kernel
theorem dw_timber_9 : decode method_5_code 9 = .ok (.lastore, 1) := by decide +kernel
theorem dw_timber_10 : decode method_5_code 10 = .ok (.goto 7, 3) := by decide +kernel
theorem dw_timber_17 : decode method_5_code 17 = .ok (.iconst 0, 1) := by decide +kernel
theorem dw_timber_18 : decode method_5_code 18 = .ok (.ireturn, 1) := by decide +kernel
set_option maxHeartbeats 4000000 in
set_option maxRecDepth 100000 in
theorem wr_timber {p0 p1 : Int} {k : Nat} {M : Mm} (h : SimW [(0, 1)] m_RingDater_timber m_Model_timber [.inl p0, .inl p1] k M) : WrC yw_timber method_5_code 5 [(0, 10, 13, 18)] [.inl p0, .inl p1] M (WQ m_Model_timber [.inl p0, .inl p1] k) := by
  refine wr_of (by decide) rfl (fun adr o => by simp [lg_sl, cvA, Value.category]) ?_
  intro p l e s m args below meth c D tA n0 o bs adr adV f ls hfl hL X hs hh htab hret hlk hl
  have hl : lv_has ls 5 [(0, .ref (adr 0)), (1, .int (iN p0)), (2, .int (iN p1)), (3, .ref o)] := hl
  refine lv_aload_n (i := 3) (x := o) X.1 X.2.1 dw_timber_0 rfl (lv_at hl 3 rfl) ?_
  refine lv_iconst (v := 0) X.1 X.2.1 dw_timber_1 (by decide) ?_
  refine lv_aload_n (i := 0) (x := adr 0) X.1 X.2.1 dw_timber_2 rfl (lv_at hl 0 rfl) ?_
  refine lv_iload_n (i := 1) (x := iN p0) X.1 X.2.1 dw_timber_3 rfl (lv_at hl 1 rfl) ?_
  refine lv_iload_n (i := 2) (x := iN p1) X.1 X.2.1 dw_timber_4 rfl (lv_at hl 2 rfl) ?_
  refine wr_mid (E := 17) h (fun z hz => ?_) X lwd_20 hL hs hh va_S.rf hl.1 (show (11 : Nat) = 11 from rfl) rfl (by decide +kernel) (by decide +kernel) (Nat.le_of_ble_eq_true rfl) hfl hret hlk rfl dw_timber_5 dw_timber_8 dw_timber_9 dw_timber_10 (by decide) dw_timber_17 dw_timber_18 (fun z hz H1 locs1 q9 ce h1 h2 h3 K => ?_)
  · simp only [List.mem_cons, List.not_mem_nil, or_false] at hz
    rcases hz with rfl <;> exact ⟨by decide, by decide, by decide⟩
  · simp only [List.mem_cons, List.not_mem_nil, or_false] at hz
    rcases hz with rfl
    · refine vx_catch (own := lwN) (name := excN 0) (E := excN 0) X.2.2.2.1 [] ⟨0, 10, 13, 18⟩ [] htab (fun z hz => by cases hz) (by decide) (by decide) (X.2.2.2.2 _ lk_18) (hs.2.2.2.1.at _ _ ex_c0) h1 h2 h3 ?_
      refine lv_astore X.1 X.2.1 dw_timber_13 hl (by decide) rfl (fun ls2 hl2 => ?_)
      refine lv_iconst (v := iN 1) X.1 X.2.1 dw_timber_15 (by decide) ?_
      exact K _ _ dw_timber_16
def yw_house : MethodName := ⟨lwN, "house", "(LRingDater;II[J)I"⟩
set_option maxRecDepth 100000 in
theorem ww_house : LWw 92 yw_house method_6_code 5 [(0, 10, 13, 18)] 4 := ⟨⟨gW_at (i := 1252) rfl rfl, gW_at (i := 1253) rfl rfl⟩, ⟨gW_at (i := 102) rfl rfl, gW_at (i := 1254) rfl rfl⟩, ⟨by decide, by decide, rfl⟩, by decide⟩
set_option maxRecDepth 100000 in
theorem lwd_24 : LWd 24 m_RingDater_house := ⟨⟨gW_at (i := 1255) rfl rfl, gW_at (i := 1256) rfl rfl⟩, ⟨gW_at (i := 1257) rfl rfl, gW_at (i := 103) rfl rfl⟩, rfl, by decide⟩
theorem dw_house_0 : decode method_6_code 0 = .ok (.aload_n 3, 1) := by decide +kernel
theorem dw_house_1 : decode method_6_code 1 = .ok (.iconst 0, 1) := by decide +kernel
theorem dw_house_2 : decode method_6_code 2 = .ok (.aload_n 0, 1) := by decide +kernel
theorem dw_house_3 : decode method_6_code 3 = .ok (.iload_n 1, 1) := by decide +kernel
theorem dw_house_4 : decode method_6_code 4 = .ok (.iload_n 2, 1) := by decide +kernel
theorem dw_house_13 : decode method_6_code 13 = .ok (.astore 4, 2) := by decide +kernel
theorem dw_house_15 : decode method_6_code 15 = .ok (.iconst 1, 1) := by decide +kernel
theorem dw_house_16 : decode method_6_code 16 = .ok (.ireturn, 1) := by decide +kernel
theorem dw_house_5 : decode method_6_code 5 = .ok (.invokevirtual 24, 3) := by decide +kernel
theorem dw_house_8 : decode method_6_code 8 = .ok (.i2l, 1) := by decide +kernel
theorem dw_house_9 : decode method_6_code 9 = .ok (.lastore, 1) := by decide +kernel
theorem dw_house_10 : decode method_6_code 10 = .ok (.goto 7, 3) := by decide +kernel
theorem dw_house_17 : decode method_6_code 17 = .ok (.iconst 0, 1) := by decide +kernel
theorem dw_house_18 : decode method_6_code 18 = .ok (.ireturn, 1) := by decide +kernel
set_option maxHeartbeats 4000000 in
set_option maxRecDepth 100000 in
theorem wr_house {p0 p1 : Int} {k : Nat} {M : Mm} (h : SimW [(0, 1)] m_RingDater_house m_Model_house [.inl p0, .inl p1] k M) : WrC yw_house method_6_code 5 [(0, 10, 13, 18)] [.inl p0, .inl p1] M (WQ m_Model_house [.inl p0, .inl p1] k) := by
  refine wr_of (by decide) rfl (fun adr o => by simp [lg_sl, cvA, Value.category]) ?_
  intro p l e s m args below meth c D tA n0 o bs adr adV f ls hfl hL X hs hh htab hret hlk hl
  have hl : lv_has ls 5 [(0, .ref (adr 0)), (1, .int (iN p0)), (2, .int (iN p1)), (3, .ref o)] := hl
  refine lv_aload_n (i := 3) (x := o) X.1 X.2.1 dw_house_0 rfl (lv_at hl 3 rfl) ?_
  refine lv_iconst (v := 0) X.1 X.2.1 dw_house_1 (by decide) ?_
  refine lv_aload_n (i := 0) (x := adr 0) X.1 X.2.1 dw_house_2 rfl (lv_at hl 0 rfl) ?_
  refine lv_iload_n (i := 1) (x := iN p0) X.1 X.2.1 dw_house_3 rfl (lv_at hl 1 rfl) ?_
  refine lv_iload_n (i := 2) (x := iN p1) X.1 X.2.1 dw_house_4 rfl (lv_at hl 2 rfl) ?_
  refine wr_mid (E := 17) h (fun z hz => ?_) X lwd_24 hL hs hh va_S.rf hl.1 (show (11 : Nat) = 11 from rfl) rfl (by decide +kernel) (by decide +kernel) (Nat.le_of_ble_eq_true rfl) hfl hret hlk rfl dw_house_5 dw_house_8 dw_house_9 dw_house_10 (by decide) dw_house_17 dw_house_18 (fun z hz H1 locs1 q9 ce h1 h2 h3 K => ?_)
  · simp only [List.mem_cons, List.not_mem_nil, or_false] at hz
    rcases hz with rfl <;> exact ⟨by decide, by decide, by decide⟩
  · simp only [List.mem_cons, List.not_mem_nil, or_false] at hz
    rcases hz with rfl
    · refine vx_catch (own := lwN) (name := excN 0) (E := excN 0) X.2.2.2.1 [] ⟨0, 10, 13, 18⟩ [] htab (fun z hz => by cases hz) (by decide) (by decide) (X.2.2.2.2 _ lk_18) (hs.2.2.2.1.at _ _ ex_c0) h1 h2 h3 ?_
      refine lv_astore X.1 X.2.1 dw_house_13 hl (by decide) rfl (fun ls2 hl2 => ?_)
      refine lv_iconst (v := iN 1) X.1 X.2.1 dw_house_15 (by decide) ?_
      exact K _ _ dw_house_16
def yw_ring : MethodName := ⟨lwN, "ring", "(LRingDater;III[J)I"⟩
set_option maxRecDepth 100000 in
theorem ww_ring : LWw 95 yw_ring method_7_code 6 [(0, 12, 15, 18)] 5 := ⟨⟨gW_at (i := 1284) rfl rfl, gW_at (i := 1285) rfl rfl⟩, ⟨gW_at (i := 102) rfl rfl, gW_at (i := 1286) rfl rfl⟩, ⟨by decide, by decide, rfl⟩, by decide⟩
set_option maxRecDepth 100000 in
theorem lwd_27 : LWd 27 m_RingDater_ring := ⟨⟨gW_at (i := 1287) rfl rfl, gW_at (i := 1288) rfl rfl⟩, ⟨gW_at (i := 1289) rfl rfl, gW_at (i := 103) rfl rfl⟩, rfl, by decide⟩
theorem dw_ring_0 : decode method_7_code 0 = .ok (.aload 4, 2) := by decide +kernel
theorem dw_ring_2 : decode method_7_code 2 = .ok (.iconst 0, 1) := by decide +kernel
theorem dw_ring_3 : decode method_7_code 3 = .ok (.aload_n 0, 1) := by decide +kernel
theorem dw_ring_4 : decode method_7_code 4 = .ok (.iload_n 1, 1) := by decide +kernel
theorem dw_ring_5 : decode method_7_code 5 = .ok (.iload_n 2, 1) := by decide +kernel
theorem dw_ring_6 : decode method_7_code 6 = .ok (.iload_n 3, 1) := by decide +kernel
theorem dw_ring_15 : decode method_7_code 15 = .ok (.astore 5, 2) := by decide +kernel
theorem dw_ring_17 : decode method_7_code 17 = .ok (.iconst 1, 1) := by decide +kernel
theorem dw_ring_18 : decode method_7_code 18 = .ok (.ireturn, 1) := by decide +kernel
theorem dw_ring_7 : decode method_7_code 7 = .ok (.invokevirtual 27, 3) := by decide +kernel
theorem dw_ring_10 : decode method_7_code 10 = .ok (.i2l, 1) := by decide +kernel
theorem dw_ring_11 : decode method_7_code 11 = .ok (.lastore, 1) := by decide +kernel
theorem dw_ring_12 : decode method_7_code 12 = .ok (.goto 7, 3) := by decide +kernel
theorem dw_ring_19 : decode method_7_code 19 = .ok (.iconst 0, 1) := by decide +kernel
theorem dw_ring_20 : decode method_7_code 20 = .ok (.ireturn, 1) := by decide +kernel
set_option maxHeartbeats 4000000 in
set_option maxRecDepth 100000 in
theorem wr_ring {p0 p1 p2 : Int} {k : Nat} {M : Mm} (h : SimW [(0, 1)] m_RingDater_ring m_Model_ring [.inl p0, .inl p1, .inl p2] k M) : WrC yw_ring method_7_code 6 [(0, 12, 15, 18)] [.inl p0, .inl p1, .inl p2] M (WQ m_Model_ring [.inl p0, .inl p1, .inl p2] k) := by
  refine wr_of (by decide) rfl (fun adr o => by simp [lg_sl, cvA, Value.category]) ?_
  intro p l e s m args below meth c D tA n0 o bs adr adV f ls hfl hL X hs hh htab hret hlk hl
  have hl : lv_has ls 6 [(0, .ref (adr 0)), (1, .int (iN p0)), (2, .int (iN p1)), (3, .int (iN p2)), (4, .ref o)] := hl
  refine lv_aload (x := o) X.1 X.2.1 dw_ring_0 (lv_at hl 4 rfl) ?_
  refine lv_iconst (v := 0) X.1 X.2.1 dw_ring_2 (by decide) ?_
  refine lv_aload_n (i := 0) (x := adr 0) X.1 X.2.1 dw_ring_3 rfl (lv_at hl 0 rfl) ?_
  refine lv_iload_n (i := 1) (x := iN p0) X.1 X.2.1 dw_ring_4 rfl (lv_at hl 1 rfl) ?_
  refine lv_iload_n (i := 2) (x := iN p1) X.1 X.2.1 dw_ring_5 rfl (lv_at hl 2 rfl) ?_
  refine lv_iload_n (i := 3) (x := iN p2) X.1 X.2.1 dw_ring_6 rfl (lv_at hl 3 rfl) ?_
  refine wr_mid (E := 19) h (fun z hz => ?_) X lwd_27 hL hs hh va_S.rf hl.1 (show (11 : Nat) = 11 from rfl) rfl (by decide +kernel) (by decide +kernel) (Nat.le_of_ble_eq_true rfl) hfl hret hlk rfl dw_ring_7 dw_ring_10 dw_ring_11 dw_ring_12 (by decide) dw_ring_19 dw_ring_20 (fun z hz H1 locs1 q9 ce h1 h2 h3 K => ?_)
  · simp only [List.mem_cons, List.not_mem_nil, or_false] at hz
    rcases hz with rfl <;> exact ⟨by decide, by decide, by decide⟩
  · simp only [List.mem_cons, List.not_mem_nil, or_false] at hz
    rcases hz with rfl
    · refine vx_catch (own := lwN) (name := excN 0) (E := excN 0) X.2.2.2.1 [] ⟨0, 12, 15, 18⟩ [] htab (fun z hz => by cases hz) (by decide) (by decide) (X.2.2.2.2 _ lk_18) (hs.2.2.2.1.at _ _ ex_c0) h1 h2 h3 ?_
      refine lv_astore X.1 X.2.1 dw_ring_15 hl (by decide) rfl (fun ls2 hl2 => ?_)
      refine lv_iconst (v := iN 1) X.1 X.2.1 dw_ring_17 (by decide) ?_
      exact K _ _ dw_ring_18
def yw_pointer : MethodName := ⟨lwN, "pointer", "(LRingDater;II[J)I"⟩
set_option maxRecDepth 100000 in
theorem ww_pointer : LWw 107 yw_pointer method_8_code 5 [(0, 10, 13, 18)] 4 := ⟨⟨gW_at (i := 1297) rfl rfl, gW_at (i := 1298) rfl rfl⟩, ⟨gW_at (i := 102) rfl rfl, gW_at (i := 1299) rfl rfl⟩, ⟨by decide, by decide, rfl⟩, by decide⟩
set_option maxRecDepth 100000 in
theorem lwd_31 : LWd 31 m_RingDater_pointer := ⟨⟨gW_at (i := 1300) rfl rfl, gW_at (i := 1301) rfl rfl⟩, ⟨gW_at (i := 1302) rfl rfl, gW_at (i := 103) rfl rfl⟩, rfl, by decide⟩
theorem dw_pointer_0 : decode method_8_code 0 = .ok (.aload_n 3, 1) := by decide +kernel
theorem dw_pointer_1 : decode method_8_code 1 = .ok (.iconst 0, 1) := by decide +kernel
theorem dw_pointer_2 : decode method_8_code 2 = .ok (.aload_n 0, 1) := by decide +kernel
theorem dw_pointer_3 : decode method_8_code 3 = .ok (.iload_n 1, 1) := by decide +kernel
theorem dw_pointer_4 : decode method_8_code 4 = .ok (.iload_n 2, 1) := by decide +kernel
theorem dw_pointer_13 : decode method_8_code 13 = .ok (.astore 4, 2) := by decide +kernel
theorem dw_pointer_15 : decode method_8_code 15 = .ok (.iconst 1, 1) := by decide +kernel
theorem dw_pointer_16 : decode method_8_code 16 = .ok (.ireturn, 1) := by decide +kernel
theorem dw_pointer_5 : decode method_8_code 5 = .ok (.invokevirtual 31, 3) := by decide +kernel
theorem dw_pointer_8 : decode method_8_code 8 = .ok (.i2l, 1) := by decide +kernel
theorem dw_pointer_9 : decode method_8_code 9 = .ok (.lastore, 1) := by decide +kernel
theorem dw_pointer_10 : decode method_8_code 10 = .ok (.goto 7, 3) := by decide +kernel
theorem dw_pointer_17 : decode method_8_code 17 = .ok (.iconst 0, 1) := by decide +kernel
theorem dw_pointer_18 : decode method_8_code 18 = .ok (.ireturn, 1) := by decide +kernel
set_option maxHeartbeats 4000000 in
set_option maxRecDepth 100000 in
theorem wr_pointer {p0 p1 : Int} {k : Nat} {M : Mm} (h : SimW [(0, 1)] m_RingDater_pointer m_Model_pointer [.inl p0, .inl p1] k M) : WrC yw_pointer method_8_code 5 [(0, 10, 13, 18)] [.inl p0, .inl p1] M (WQ m_Model_pointer [.inl p0, .inl p1] k) := by
  refine wr_of (by decide) rfl (fun adr o => by simp [lg_sl, cvA, Value.category]) ?_
  intro p l e s m args below meth c D tA n0 o bs adr adV f ls hfl hL X hs hh htab hret hlk hl
  have hl : lv_has ls 5 [(0, .ref (adr 0)), (1, .int (iN p0)), (2, .int (iN p1)), (3, .ref o)] := hl
  refine lv_aload_n (i := 3) (x := o) X.1 X.2.1 dw_pointer_0 rfl (lv_at hl 3 rfl) ?_
  refine lv_iconst (v := 0) X.1 X.2.1 dw_pointer_1 (by decide) ?_
  refine lv_aload_n (i := 0) (x := adr 0) X.1 X.2.1 dw_pointer_2 rfl (lv_at hl 0 rfl) ?_
  refine lv_iload_n (i := 1) (x := iN p0) X.1 X.2.1 dw_pointer_3 rfl (lv_at hl 1 rfl) ?_
  refine lv_iload_n (i := 2) (x := iN p1) X.1 X.2.1 dw_pointer_4 rfl (lv_at hl 2 rfl) ?_
  refine wr_mid (E := 17) h (fun z hz => ?_) X lwd_31 hL hs hh va_S.rf hl.1 (show (11 : Nat) = 11 from rfl) rfl (by decide +kernel) (by decide +kernel) (Nat.le_of_ble_eq_true rfl) hfl hret hlk rfl dw_pointer_5 dw_pointer_8 dw_pointer_9 dw_pointer_10 (by decide) dw_pointer_17 dw_pointer_18 (fun z hz H1 locs1 q9 ce h1 h2 h3 K => ?_)
  · simp only [List.mem_cons, List.not_mem_nil, or_false] at hz
    rcases hz with rfl <;> exact ⟨by decide, by decide, by decide⟩
  · simp only [List.mem_cons, List.not_mem_nil, or_false] at hz
    rcases hz with rfl
    · refine vx_catch (own := lwN) (name := excN 0) (E := excN 0) X.2.2.2.1 [] ⟨0, 10, 13, 18⟩ [] htab (fun z hz => by cases hz) (by decide) (by decide) (X.2.2.2.2 _ lk_18) (hs.2.2.2.1.at _ _ ex_c0) h1 h2 h3 ?_
      refine lv_astore X.1 X.2.1 dw_pointer_13 hl (by decide) rfl (fun ls2 hl2 => ?_)
      refine lv_iconst (v := iN 1) X.1 X.2.1 dw_pointer_15 (by decide) ?_
      exact K _ _ dw_pointer_16
def yw_slid : MethodName := ⟨lwN, "slid", "(LRingDater;IIII[J)I"⟩
set_option maxRecDepth 100000 in
theorem ww_slid : LWw 110 yw_slid method_9_code 7 [(0, 14, 17, 18), (0, 14, 21, 13)] 6 := ⟨⟨gW_at (i := 1308) rfl rfl, gW_at (i := 1309) rfl rfl⟩, ⟨gW_at (i := 102) rfl rfl, gW_at (i := 1310) rfl rfl⟩, ⟨by decide, by decide, rfl⟩, by decide⟩
set_option maxRecDepth 100000 in
theorem lwd_34 : LWd 34 m_RingDater_slid := ⟨⟨gW_at (i := 1311) rfl rfl, gW_at (i := 1312) rfl rfl⟩, ⟨gW_at (i := 1313) rfl rfl, gW_at (i := 103) rfl rfl⟩, rfl, by decide⟩
theorem dw_slid_0 : decode method_9_code 0 = .ok (.aload 5, 2) := by decide +kernel
theorem dw_slid_2 : decode method_9_code 2 = .ok (.iconst 0, 1) := by decide +kernel
theorem dw_slid_3 : decode method_9_code 3 = .ok (.aload_n 0, 1) := by decide +kernel
theorem dw_slid_4 : decode method_9_code 4 = .ok (.iload_n 1, 1) := by decide +kernel
theorem dw_slid_5 : decode method_9_code 5 = .ok (.iload_n 2, 1) := by decide +kernel
theorem dw_slid_6 : decode method_9_code 6 = .ok (.iload_n 3, 1) := by decide +kernel
theorem dw_slid_7 : decode method_9_code 7 = .ok (.iload 4, 2) := by decide +kernel
theorem dw_slid_17 : decode method_9_code 17 = .ok (.astore 6, 2) := by decide +kernel
theorem dw_slid_19 : decode method_9_code 19 = .ok (.iconst 1, 1) := by decide +kernel
theorem dw_slid_20 : decode method_9_code 20 = .ok (.ireturn, 1) := by decide +kernel
theorem dw_slid_21 : decode method_9_code 21 = .ok (.astore 6, 2) := by decide +kernel
theorem dw_slid_23 : decode method_9_code 23 = .ok (.iconst 2, 1) := by decide +kernel
theorem dw_slid_24 : decode method_9_code 24 = .ok (.ireturn, 1) := by decide +kernel
theorem dw_slid_9 : decode method_9_code 9 = .ok (.invokevirtual 34, 3) := by decide +kernel
theorem dw_slid_12 : decode method_9_code 12 = .ok (.i2l, 1) := by decide +kernel
theorem dw_slid_13 : decode method_9_code 13 = .ok (.lastore, 1) := by decide +kernel
theorem dw_slid_14 : decode method_9_code 14 = .ok (.goto 11, 3) := by decide +kernel
theorem dw_slid_25 : decode method_9_code 25 = .ok (.iconst 0, 1) := by decide +kernel
theorem dw_slid_26 : decode method_9_code 26 = .ok (.ireturn, 1) := by decide +kernel
set_option maxHeartbeats 4000000 in
set_option maxRecDepth 100000 in
theorem wr_slid {p0 p1 p2 p3 : Int} {k : Nat} {M : Mm} (h : SimW [(0, 1), (1, 2)] m_RingDater_slid m_Model_slid [.inl p0, .inl p1, .inl p2, .inl p3] k M) : WrC yw_slid method_9_code 7 [(0, 14, 17, 18), (0, 14, 21, 13)] [.inl p0, .inl p1, .inl p2, .inl p3] M (WQ m_Model_slid [.inl p0, .inl p1, .inl p2, .inl p3] k) := by
  refine wr_of (by decide) rfl (fun adr o => by simp [lg_sl, cvA, Value.category]) ?_
  intro p l e s m args below meth c D tA n0 o bs adr adV f ls hfl hL X hs hh htab hret hlk hl
  have hl : lv_has ls 7 [(0, .ref (adr 0)), (1, .int (iN p0)), (2, .int (iN p1)), (3, .int (iN p2)), (4, .int (iN p3)), (5, .ref o)] := hl
  refine lv_aload (x := o) X.1 X.2.1 dw_slid_0 (lv_at hl 5 rfl) ?_
  refine lv_iconst (v := 0) X.1 X.2.1 dw_slid_2 (by decide) ?_
  refine lv_aload_n (i := 0) (x := adr 0) X.1 X.2.1 dw_slid_3 rfl (lv_at hl 0 rfl) ?_
  refine lv_iload_n (i := 1) (x := iN p0) X.1 X.2.1 dw_slid_4 rfl (lv_at hl 1 rfl) ?_
  refine lv_iload_n (i := 2) (x := iN p1) X.1 X.2.1 dw_slid_5 rfl (lv_at hl 2 rfl) ?_
  refine lv_iload_n (i := 3) (x := iN p2) X.1 X.2.1 dw_slid_6 rfl (lv_at hl 3 rfl) ?_
  refine lv_iload (x := iN p3) X.1 X.2.1 dw_slid_7 (lv_at hl 4 rfl) ?_
  refine wr_mid (E := 25) h (fun z hz => ?_) X lwd_34 hL hs hh va_S.rf hl.1 (show (11 : Nat) = 11 from rfl) rfl (by decide +kernel) (by decide +kernel) (Nat.le_of_ble_eq_true rfl) hfl hret hlk rfl dw_slid_9 dw_slid_12 dw_slid_13 dw_slid_14 (by decide) dw_slid_25 dw_slid_26 (fun z hz H1 locs1 q9 ce h1 h2 h3 K => ?_)
  · simp only [List.mem_cons, List.not_mem_nil, or_false] at hz
    rcases hz with rfl | rfl <;> exact ⟨by decide, by decide, by decide⟩
  · simp only [List.mem_cons, List.not_mem_nil, or_false] at hz
    rcases hz with rfl | rfl
    · refine vx_catch (own := lwN) (name := excN 0) (E := excN 0) X.2.2.2.1 [] ⟨0, 14, 17, 18⟩ [⟨0, 14, 21, 13⟩] htab (fun z hz => by cases hz) (by decide) (by decide) (X.2.2.2.2 _ lk_18) (hs.2.2.2.1.at _ _ ex_c0) h1 h2 h3 ?_
      refine lv_astore X.1 X.2.1 dw_slid_17 hl (by decide) rfl (fun ls2 hl2 => ?_)
      refine lv_iconst (v := iN 1) X.1 X.2.1 dw_slid_19 (by decide) ?_
      exact K _ _ dw_slid_20
    · refine vx_catch (own := lwN) (name := excN 1) (E := excN 1) X.2.2.2.1 [⟨0, 14, 17, 18⟩] ⟨0, 14, 21, 13⟩ [] htab (fun z hz => by
        obtain rfl := List.mem_singleton.mp hz
        exact .inr ⟨by decide, excN 0, X.2.2.2.2 _ lk_18, hs.2.2.2.2.1⟩) (by decide) (by decide) (X.2.2.2.2 _ lk_13) (hs.2.2.2.1.at _ _ ex_c1) h1 h2 h3 ?_
      refine lv_astore X.1 X.2.1 dw_slid_21 hl (by decide) rfl (fun ls2 hl2 => ?_)
      refine lv_iconst (v := iN 2) X.1 X.2.1 dw_slid_23 (by decide) ?_
      exact K _ _ dw_slid_24
def yw_best : MethodName := ⟨lwN, "best", "(LRingDater;III[J)I"⟩
set_option maxRecDepth 100000 in
theorem ww_best : LWw 114 yw_best method_10_code 6 [(0, 12, 15, 18), (0, 12, 19, 13)] 5 := ⟨⟨gW_at (i := 1319) rfl rfl, gW_at (i := 1320) rfl rfl⟩, ⟨gW_at (i := 102) rfl rfl, gW_at (i := 1321) rfl rfl⟩, ⟨by decide, by decide, rfl⟩, by decide⟩
set_option maxRecDepth 100000 in
theorem lwd_38 : LWd 38 m_RingDater_best := ⟨⟨gW_at (i := 1322) rfl rfl, gW_at (i := 1323) rfl rfl⟩, ⟨gW_at (i := 1324) rfl rfl, gW_at (i := 103) rfl rfl⟩, rfl, by decide⟩
theorem dw_best_0 : decode method_10_code 0 = .ok (.aload 4, 2) := by decide +kernel
theorem dw_best_2 : decode method_10_code 2 = .ok (.iconst 0, 1) := by decide +kernel
theorem dw_best_3 : decode method_10_code 3 = .ok (.aload_n 0, 1) := by decide +kernel
theorem dw_best_4 : decode method_10_code 4 = .ok (.iload_n 1, 1) := by decide +kernel
theorem dw_best_5 : decode method_10_code 5 = .ok (.iload_n 2, 1) := by decide +kernel
theorem dw_best_6 : decode method_10_code 6 = .ok (.iload_n 3, 1) := by decide +kernel
theorem dw_best_15 : decode method_10_code 15 = .ok (.astore 5, 2) := by decide +kernel
theorem dw_best_17 : decode method_10_code 17 = .ok (.iconst 1, 1) := by decide +kernel
theorem dw_best_18 : decode method_10_code 18 = .ok (.ireturn, 1) := by decide +kernel
theorem dw_best_19 : decode method_10_code 19 = .ok (.astore 5, 2) := by decide +kernel
theorem dw_best_21 : decode method_10_code 21 = .ok (.iconst 2, 1) := by decide +kernel
theorem dw_best_22 : decode method_10_code 22 = .ok (.ireturn, 1) := by decide +kernel
theorem dw_best_7 : decode method_10_code 7 = .ok (.invokevirtual 38, 3) := by decide +kernel
theorem dw_best_10 : decode method_10_code 10 = .ok (.i2l, 1) := by decide +kernel
theorem dw_best_11 : decode method_10_code 11 = .ok (.lastore, 1) := by decide +kernel
theorem dw_best_12 : decode method_10_code 12 = .ok (.goto 11, 3) := by decide +kernel
theorem dw_best_23 : decode method_10_code 23 = .ok (.iconst 0, 1) := by decide +kernel
theorem dw_best_24 : decode method_10_code 24 = .ok (.ireturn, 1) := by decide +kernel
set_option maxHeartbeats 4000000 in
set_option maxRecDepth 100000 in
theorem wr_best {p0 p1 p2 : Int} {k : Nat} {M : Mm} (h : SimW [(0, 1), (1, 2)] m_RingDater_best m_Model_best [.inl p0, .inl p1, .inl p2] k M) : WrC yw_best method_10_code 6 [(0, 12, 15, 18), (0, 12, 19, 13)] [.inl p0, .inl p1, .inl p2] M (WQ m_Model_best [.inl p0, .inl p1, .inl p2] k) := by
  refine wr_of (by decide) rfl (fun adr o => by simp [lg_sl, cvA, Value.category]) ?_
  intro p l e s m args below meth c D tA n0 o bs adr adV f ls hfl hL X hs hh htab hret hlk hl
  have hl : lv_has ls 6 [(0, .ref (adr 0)), (1, .int (iN p0)), (2, .int (iN p1)), (3, .int (iN p2)), (4, .ref o)] := hl
  refine lv_aload (x := o) X.1 X.2.1 dw_best_0 (lv_at hl 4 rfl) ?_
  refine lv_iconst (v := 0) X.1 X.2.1 dw_best_2 (by decide) ?_
  refine lv_aload_n (i := 0) (x := adr 0) X.1 X.2.1 dw_best_3 rfl (lv_at hl 0 rfl) ?_
  refine lv_iload_n (i := 1) (x := iN p0) X.1 X.2.1 dw_best_4 rfl (lv_at hl 1 rfl) ?_
  refine lv_iload_n (i := 2) (x := iN p1) X.1 X.2.1 dw_best_5 rfl (lv_at hl 2 rfl) ?_
  refine lv_iload_n (i := 3) (x := iN p2) X.1 X.2.1 dw_best_6 rfl (lv_at hl 3 rfl) ?_
  refine wr_mid (E := 23) h (fun z hz => ?_) X lwd_38 hL hs hh va_S.rf hl.1 (show (11 : Nat) = 11 from rfl) rfl (by decide +kernel) (by decide +kernel) (Nat.le_of_ble_eq_true rfl) hfl hret hlk rfl dw_best_7 dw_best_10 dw_best_11 dw_best_12 (by decide) dw_best_23 dw_best_24 (fun z hz H1 locs1 q9 ce h1 h2 h3 K => ?_)
  · simp only [List.mem_cons, List.not_mem_nil, or_false] at hz
    rcases hz with rfl | rfl <;> exact ⟨by decide, by decide, by decide⟩
  · simp only [List.mem_cons, List.not_mem_nil, or_false] at hz
    rcases hz with rfl | rfl
    · refine vx_catch (own := lwN) (name := excN 0) (E := excN 0) X.2.2.2.1 [] ⟨0, 12, 15, 18⟩ [⟨0, 12, 19, 13⟩] htab (fun z hz => by cases hz) (by decide) (by decide) (X.2.2.2.2 _ lk_18) (hs.2.2.2.1.at _ _ ex_c0) h1 h2 h3 ?_
      refine lv_astore X.1 X.2.1 dw_best_15 hl (by decide) rfl (fun ls2 hl2 => ?_)
      refine lv_iconst (v := iN 1) X.1 X.2.1 dw_best_17 (by decide) ?_
      exact K _ _ dw_best_18
    · refine vx_catch (own := lwN) (name := excN 1) (E := excN 1) X.2.2.2.1 [⟨0, 12, 15, 18⟩] ⟨0, 12, 19, 13⟩ [] htab (fun z hz => by
        obtain rfl := List.mem_singleton.mp hz
        exact .inr ⟨by decide, excN 0, X.2.2.2.2 _ lk_18, hs.2.2.2.2.1⟩) (by decide) (by decide) (X.2.2.2.2 _ lk_13) (hs.2.2.2.1.at _ _ ex_c1) h1 h2 h3 ?_
      refine lv_astore X.1 X.2.1 dw_best_19 hl (by decide) rfl (fun ls2 hl2 => ?_)
      refine lv_iconst (v := iN 2) X.1 X.2.1 dw_best_21 (by decide) ?_
      exact K _ _ dw_best_22
def yw_link : MethodName := ⟨lwN, "link", "(LRingDater;II[J)I"⟩
set_option maxRecDepth 100000 in
theorem ww_link : LWw 117 yw_link method_11_code 5 [(0, 10, 13, 18)] 4 := ⟨⟨gW_at (i := 1327) rfl rfl, gW_at (i := 1328) rfl rfl⟩, ⟨gW_at (i := 102) rfl rfl, gW_at (i := 1329) rfl rfl⟩, ⟨by decide, by decide, rfl⟩, by decide⟩
set_option maxRecDepth 100000 in
theorem lwd_41 : LWd 41 m_RingDater_link := ⟨⟨gW_at (i := 1330) rfl rfl, gW_at (i := 1331) rfl rfl⟩, ⟨gW_at (i := 1332) rfl rfl, gW_at (i := 103) rfl rfl⟩, rfl, by decide⟩
theorem dw_link_0 : decode method_11_code 0 = .ok (.aload_n 3, 1) := by decide +kernel
theorem dw_link_1 : decode method_11_code 1 = .ok (.iconst 0, 1) := by decide +kernel
theorem dw_link_2 : decode method_11_code 2 = .ok (.aload_n 0, 1) := by decide +kernel
theorem dw_link_3 : decode method_11_code 3 = .ok (.iload_n 1, 1) := by decide +kernel
theorem dw_link_4 : decode method_11_code 4 = .ok (.iload_n 2, 1) := by decide +kernel
theorem dw_link_13 : decode method_11_code 13 = .ok (.astore 4, 2) := by decide +kernel
theorem dw_link_15 : decode method_11_code 15 = .ok (.iconst 1, 1) := by decide +kernel
theorem dw_link_16 : decode method_11_code 16 = .ok (.ireturn, 1) := by decide +kernel
theorem dw_link_5 : decode method_11_code 5 = .ok (.invokevirtual 41, 3) := by decide +kernel
theorem dw_link_8 : decode method_11_code 8 = .ok (.i2l, 1) := by decide +kernel
theorem dw_link_9 : decode method_11_code 9 = .ok (.lastore, 1) := by decide +kernel
theorem dw_link_10 : decode method_11_code 10 = .ok (.goto 7, 3) := by decide +kernel
theorem dw_link_17 : decode method_11_code 17 = .ok (.iconst 0, 1) := by decide +kernel
theorem dw_link_18 : decode method_11_code 18 = .ok (.ireturn, 1) := by decide +kernel
set_option maxHeartbeats 4000000 in
set_option maxRecDepth 100000 in
theorem wr_link {p0 p1 : Int} {k : Nat} {M : Mm} (h : SimW [(0, 1)] m_RingDater_link m_Model_link [.inl p0, .inl p1] k M) : WrC yw_link method_11_code 5 [(0, 10, 13, 18)] [.inl p0, .inl p1] M (WQ m_Model_link [.inl p0, .inl p1] k) := by
  refine wr_of (by decide) rfl (fun adr o => by simp [lg_sl, cvA, Value.category]) ?_
  intro p l e s m args below meth c D tA n0 o bs adr adV f ls hfl hL X hs hh htab hret hlk hl
  have hl : lv_has ls 5 [(0, .ref (adr 0)), (1, .int (iN p0)), (2, .int (iN p1)), (3, .ref o)] := hl
  refine lv_aload_n (i := 3) (x := o) X.1 X.2.1 dw_link_0 rfl (lv_at hl 3 rfl) ?_
  refine lv_iconst (v := 0) X.1 X.2.1 dw_link_1 (by decide) ?_
  refine lv_aload_n (i := 0) (x := adr 0) X.1 X.2.1 dw_link_2 rfl (lv_at hl 0 rfl) ?_
  refine lv_iload_n (i := 1) (x := iN p0) X.1 X.2.1 dw_link_3 rfl (lv_at hl 1 rfl) ?_
  refine lv_iload_n (i := 2) (x := iN p1) X.1 X.2.1 dw_link_4 rfl (lv_at hl 2 rfl) ?_
  refine wr_mid (E := 17) h (fun z hz => ?_) X lwd_41 hL hs hh va_S.rf hl.1 (show (11 : Nat) = 11 from rfl) rfl (by decide +kernel) (by decide +kernel) (Nat.le_of_ble_eq_true rfl) hfl hret hlk rfl dw_link_5 dw_link_8 dw_link_9 dw_link_10 (by decide) dw_link_17 dw_link_18 (fun z hz H1 locs1 q9 ce h1 h2 h3 K => ?_)
  · simp only [List.mem_cons, List.not_mem_nil, or_false] at hz
    rcases hz with rfl <;> exact ⟨by decide, by decide, by decide⟩
  · simp only [List.mem_cons, List.not_mem_nil, or_false] at hz
    rcases hz with rfl
    · refine vx_catch (own := lwN) (name := excN 0) (E := excN 0) X.2.2.2.1 [] ⟨0, 10, 13, 18⟩ [] htab (fun z hz => by cases hz) (by decide) (by decide) (X.2.2.2.2 _ lk_18) (hs.2.2.2.1.at _ _ ex_c0) h1 h2 h3 ?_
      refine lv_astore X.1 X.2.1 dw_link_13 hl (by decide) rfl (fun ls2 hl2 => ?_)
      refine lv_iconst (v := iN 1) X.1 X.2.1 dw_link_15 (by decide) ?_
      exact K _ _ dw_link_16
def yw_grown : MethodName := ⟨lwN, "grown", "(LRingDater;II[J)I"⟩
set_option maxRecDepth 100000 in
theorem ww_grown : LWw 120 yw_grown method_12_code 5 [(0, 10, 13, 18)] 4 := ⟨⟨gW_at (i := 1338) rfl rfl, gW_at (i := 1339) rfl rfl⟩, ⟨gW_at (i := 102) rfl rfl, gW_at (i := 1340) rfl rfl⟩, ⟨by decide, by decide, rfl⟩, by decide⟩
set_option maxRecDepth 100000 in
theorem lwd_44 : LWd 44 m_RingDater_grown := ⟨⟨gW_at (i := 1341) rfl rfl, gW_at (i := 1342) rfl rfl⟩, ⟨gW_at (i := 1343) rfl rfl, gW_at (i := 103) rfl rfl⟩, rfl, by decide⟩
theorem dw_grown_0 : decode method_12_code 0 = .ok (.aload_n 3, 1) := by decide +kernel
theorem dw_grown_1 : decode method_12_code 1 = .ok (.iconst 0, 1) := by decide +kernel
theorem dw_grown_2 : decode method_12_code 2 = .ok (.aload_n 0, 1) := by decide +kernel
theorem dw_grown_3 : decode method_12_code 3 = .ok (.iload_n 1, 1) := by decide +kernel
theorem dw_grown_4 : decode method_12_code 4 = .ok (.iload_n 2, 1) := by decide +kernel
theorem dw_grown_13 : decode method_12_code 13 = .ok (.astore 4, 2) := by decide +kernel
theorem dw_grown_15 : decode method_12_code 15 = .ok (.iconst 1, 1) := by decide +kernel
theorem dw_grown_16 : decode method_12_code 16 = .ok (.ireturn, 1) := by decide +kernel
theorem dw_grown_5 : decode method_12_code 5 = .ok (.invokevirtual 44, 3) := by decide +kernel
theorem dw_grown_8 : decode method_12_code 8 = .ok (.i2l, 1) := by decide +kernel
theorem dw_grown_9 : decode method_12_code 9 = .ok (.lastore, 1) := by decide +kernel
theorem dw_grown_10 : decode method_12_code 10 = .ok (.goto 7, 3) := by decide +kernel
theorem dw_grown_17 : decode method_12_code 17 = .ok (.iconst 0, 1) := by decide +kernel
theorem dw_grown_18 : decode method_12_code 18 = .ok (.ireturn, 1) := by decide +kernel
set_option maxHeartbeats 4000000 in
set_option maxRecDepth 100000 in
theorem wr_grown {p0 p1 : Int} {k : Nat} {M : Mm} (h : SimW [(0, 1)] m_RingDater_grown m_Model_grown [.inl p0, .inl p1] k M) : WrC yw_grown method_12_code 5 [(0, 10, 13, 18)] [.inl p0, .inl p1] M (WQ m_Model_grown [.inl p0, .inl p1] k) := by
  refine wr_of (by decide) rfl (fun adr o => by simp [lg_sl, cvA, Value.category]) ?_
  intro p l e s m args below meth c D tA n0 o bs adr adV f ls hfl hL X hs hh htab hret hlk hl
  have hl : lv_has ls 5 [(0, .ref (adr 0)), (1, .int (iN p0)), (2, .int (iN p1)), (3, .ref o)] := hl
  refine lv_aload_n (i := 3) (x := o) X.1 X.2.1 dw_grown_0 rfl (lv_at hl 3 rfl) ?_
  refine lv_iconst (v := 0) X.1 X.2.1 dw_grown_1 (by decide) ?_
  refine lv_aload_n (i := 0) (x := adr 0) X.1 X.2.1 dw_grown_2 rfl (lv_at hl 0 rfl) ?_
  refine lv_iload_n (i := 1) (x := iN p0) X.1 X.2.1 dw_grown_3 rfl (lv_at hl 1 rfl) ?_
  refine lv_iload_n (i := 2) (x := iN p1) X.1 X.2.1 dw_grown_4 rfl (lv_at hl 2 rfl) ?_
  refine wr_mid (E := 17) h (fun z hz => ?_) X lwd_44 hL hs hh va_S.rf hl.1 (show (11 : Nat) = 11 from rfl) rfl (by decide +kernel) (by decide +kernel) (Nat.le_of_ble_eq_true rfl) hfl hret hlk rfl dw_grown_5 dw_grown_8 dw_grown_9 dw_grown_10 (by decide) dw_grown_17 dw_grown_18 (fun z hz H1 locs1 q9 ce h1 h2 h3 K => ?_)
  · simp only [List.mem_cons, List.not_mem_nil, or_false] at hz
    rcases hz with rfl <;> exact ⟨by decide, by decide, by decide⟩
  · simp only [List.mem_cons, List.not_mem_nil, or_false] at hz
    rcases hz with rfl
    · refine vx_catch (own := lwN) (name := excN 0) (E := excN 0) X.2.2.2.1 [] ⟨0, 10, 13, 18⟩ [] htab (fun z hz => by cases hz) (by decide) (by decide) (X.2.2.2.2 _ lk_18) (hs.2.2.2.1.at _ _ ex_c0) h1 h2 h3 ?_
      refine lv_astore X.1 X.2.1 dw_grown_13 hl (by decide) rfl (fun ls2 hl2 => ?_)
      refine lv_iconst (v := iN 1) X.1 X.2.1 dw_grown_15 (by decide) ?_
      exact K _ _ dw_grown_16
def yw_help : MethodName := ⟨lwN, "help", "(LRingDater;II[J)I"⟩
set_option maxRecDepth 100000 in
theorem ww_help : LWw 123 yw_help method_13_code 5 [(0, 10, 13, 18), (0, 10, 17, 13)] 4 := ⟨⟨gW_at (i := 1345) rfl rfl, gW_at (i := 1346) rfl rfl⟩, ⟨gW_at (i := 102) rfl rfl, gW_at (i := 1347) rfl rfl⟩, ⟨by decide, by decide, rfl⟩, by decide⟩
set_option maxRecDepth 100000 in
theorem lwd_47 : LWd 47 m_RingDater_help := ⟨⟨gW_at (i := 1348) rfl rfl, gW_at (i := 1349) rfl rfl⟩, ⟨gW_at (i := 1350) rfl rfl, gW_at (i := 103) rfl rfl⟩, rfl, by decide⟩
theorem dw_help_0 : decode method_13_code 0 = .ok (.aload_n 3, 1) := by decide +kernel
theorem dw_help_1 : decode method_13_code 1 = .ok (.iconst 0, 1) := by decide +kernel
theorem dw_help_2 : decode method_13_code 2 = .ok (.aload_n 0, 1) := by decide +kernel
theorem dw_help_3 : decode method_13_code 3 = .ok (.iload_n 1, 1) := by decide +kernel
theorem dw_help_4 : decode method_13_code 4 = .ok (.iload_n 2, 1) := by decide +kernel
theorem dw_help_13 : decode method_13_code 13 = .ok (.astore 4, 2) := by decide +kernel
theorem dw_help_15 : decode method_13_code 15 = .ok (.iconst 1, 1) := by decide +kernel
theorem dw_help_16 : decode method_13_code 16 = .ok (.ireturn, 1) := by decide +kernel
theorem dw_help_17 : decode method_13_code 17 = .ok (.astore 4, 2) := by decide +kernel
theorem dw_help_19 : decode method_13_code 19 = .ok (.iconst 2, 1) := by decide +kernel
theorem dw_help_20 : decode method_13_code 20 = .ok (.ireturn, 1) := by decide +kernel
theorem dw_help_5 : decode method_13_code 5 = .ok (.invokevirtual 47, 3) := by decide +kernel
theorem dw_help_8 : decode method_13_code 8 = .ok (.i2l, 1) := by decide +kernel
theorem dw_help_9 : decode method_13_code 9 = .ok (.lastore, 1) := by decide +kernel
theorem dw_help_10 : decode method_13_code 10 = .ok (.goto 11, 3) := by decide +kernel
theorem dw_help_21 : decode method_13_code 21 = .ok (.iconst 0, 1) := by decide +kernel
theorem dw_help_22 : decode method_13_code 22 = .ok (.ireturn, 1) := by decide +kernel
set_option maxHeartbeats 4000000 in
set_option maxRecDepth 100000 in
theorem wr_help {p0 p1 : Int} {k : Nat} {M : Mm} (h : SimW [(0, 1), (1, 2)] m_RingDater_help m_Model_help [.inl p0, .inl p1] k M) : WrC yw_help method_13_code 5 [(0, 10, 13, 18), (0, 10, 17, 13)] [.inl p0, .inl p1] M (WQ m_Model_help [.inl p0, .inl p1] k) := by
  refine wr_of (by decide) rfl (fun adr o => by simp [lg_sl, cvA, Value.category]) ?_
  intro p l e s m args below meth c D tA n0 o bs adr adV f ls hfl hL X hs hh htab hret hlk hl
  have hl : lv_has ls 5 [(0, .ref (adr 0)), (1, .int (iN p0)), (2, .int (iN p1)), (3, .ref o)] := hl
  refine lv_aload_n (i := 3) (x := o) X.1 X.2.1 dw_help_0 rfl (lv_at hl 3 rfl) ?_
  refine lv_iconst (v := 0) X.1 X.2.1 dw_help_1 (by decide) ?_
  refine lv_aload_n (i := 0) (x := adr 0) X.1 X.2.1 dw_help_2 rfl (lv_at hl 0 rfl) ?_
  refine lv_iload_n (i := 1) (x := iN p0) X.1 X.2.1 dw_help_3 rfl (lv_at hl 1 rfl) ?_
  refine lv_iload_n (i := 2) (x := iN p1) X.1 X.2.1 dw_help_4 rfl (lv_at hl 2 rfl) ?_
  refine wr_mid (E := 21) h (fun z hz => ?_) X lwd_47 hL hs hh va_S.rf hl.1 (show (11 : Nat) = 11 from rfl) rfl (by decide +kernel) (by decide +kernel) (Nat.le_of_ble_eq_true rfl) hfl hret hlk rfl dw_help_5 dw_help_8 dw_help_9 dw_help_10 (by decide) dw_help_21 dw_help_22 (fun z hz H1 locs1 q9 ce h1 h2 h3 K => ?_)
  · simp only [List.mem_cons, List.not_mem_nil, or_false] at hz
    rcases hz with rfl | rfl <;> exact ⟨by decide, by decide, by decide⟩
  · simp only [List.mem_cons, List.not_mem_nil, or_false] at hz
    rcases hz with rfl | rfl
    · refine vx_catch (own := lwN) (name := excN 0) (E := excN 0) X.2.2.2.1 [] ⟨0, 10, 13, 18⟩ [⟨0, 10, 17, 13⟩] htab (fun z hz => by cases hz) (by decide) (by decide) (X.2.2.2.2 _ lk_18) (hs.2.2.2.1.at _ _ ex_c0) h1 h2 h3 ?_
      refine lv_astore X.1 X.2.1 dw_help_13 hl (by decide) rfl (fun ls2 hl2 => ?_)
      refine lv_iconst (v := iN 1) X.1 X.2.1 dw_help_15 (by decide) ?_
      exact K _ _ dw_help_16
    · refine vx_catch (own := lwN) (name := excN 1) (E := excN 1) X.2.2.2.1 [⟨0, 10, 13, 18⟩] ⟨0, 10, 17, 13⟩ [] htab (fun z hz => by
        obtain rfl := List.mem_singleton.mp hz
        exact .inr ⟨by decide, excN 0, X.2.2.2.2 _ lk_18, hs.2.2.2.2.1⟩) (by decide) (by decide) (X.2.2.2.2 _ lk_13) (hs.2.2.2.1.at _ _ ex_c1) h1 h2 h3 ?_
      refine lv_astore X.1 X.2.1 dw_help_17 hl (by decide) rfl (fun ls2 hl2 => ?_)
      refine lv_iconst (v := iN 2) X.1 X.2.1 dw_help_19 (by decide) ?_
      exact K _ _ dw_help_20
def yw_fits : MethodName := ⟨lwN, "fits", "(LRingDater;I[J)I"⟩
set_option maxRecDepth 100000 in
theorem ww_fits : LWw 159 yw_fits method_14_code 4 [(0, 9, 12, 18)] 3 := ⟨⟨gW_at (i := 1365) rfl rfl, gW_at (i := 1366) rfl rfl⟩, ⟨gW_at (i := 102) rfl rfl, gW_at (i := 1367) rfl rfl⟩, ⟨by decide, by decide, rfl⟩, by decide⟩
set_option maxRecDepth 100000 in
theorem lwd_50 : LWd 50 m_RingDater_fits := ⟨⟨gW_at (i := 1368) rfl rfl, gW_at (i := 1369) rfl rfl⟩, ⟨gW_at (i := 1370) rfl rfl, gW_at (i := 103) rfl rfl⟩, rfl, by decide⟩
theorem dw_fits_0 : decode method_14_code 0 = .ok (.aload_n 2, 1) := by decide +kernel
theorem dw_fits_1 : decode method_14_code 1 = .ok (.iconst 0, 1) := by decide +kernel
theorem dw_fits_2 : decode method_14_code 2 = .ok (.aload_n 0, 1) := by decide +kernel
theorem dw_fits_3 : decode method_14_code 3 = .ok (.iload_n 1, 1) := by decide +kernel
theorem dw_fits_12 : decode method_14_code 12 = .ok (.astore_n 3, 1) := by decide +kernel
theorem dw_fits_13 : decode method_14_code 13 = .ok (.iconst 1, 1) := by decide +kernel
theorem dw_fits_14 : decode method_14_code 14 = .ok (.ireturn, 1) := by decide +kernel
theorem dw_fits_4 : decode method_14_code 4 = .ok (.invokevirtual 50, 3) := by decide +kernel
theorem dw_fits_7 : decode method_14_code 7 = .ok (.i2l, 1) := by decide +kernel
theorem dw_fits_8 : decode method_14_code 8 = .ok (.lastore, 1) := by decide +kernel
theorem dw_fits_9 : decode method_14_code 9 = .ok (.goto 6, 3) := by decide +kernel
theorem dw_fits_15 : decode method_14_code 15 = .ok (.iconst 0, 1) := by decide +kernel
theorem dw_fits_16 : decode method_14_code 16 = .ok (.ireturn, 1) := by decide +kernel
set_option maxHeartbeats 4000000 in
set_option maxRecDepth 100000 in
theorem wr_fits {p0 : Int} {k : Nat} {M : Mm} (h : SimW [(0, 1)] m_RingDater_fits m_Model_fits [.inl p0] k M) : WrC yw_fits method_14_code 4 [(0, 9, 12, 18)] [.inl p0] M (WQ m_Model_fits [.inl p0] k) := by
  refine wr_of (by decide) rfl (fun adr o => by simp [lg_sl, cvA, Value.category]) ?_
  intro p l e s m args below meth c D tA n0 o bs adr adV f ls hfl hL X hs hh htab hret hlk hl
  have hl : lv_has ls 4 [(0, .ref (adr 0)), (1, .int (iN p0)), (2, .ref o)] := hl
  refine lv_aload_n (i := 2) (x := o) X.1 X.2.1 dw_fits_0 rfl (lv_at hl 2 rfl) ?_
  refine lv_iconst (v := 0) X.1 X.2.1 dw_fits_1 (by decide) ?_
  refine lv_aload_n (i := 0) (x := adr 0) X.1 X.2.1 dw_fits_2 rfl (lv_at hl 0 rfl) ?_
  refine lv_iload_n (i := 1) (x := iN p0) X.1 X.2.1 dw_fits_3 rfl (lv_at hl 1 rfl) ?_
  refine wr_mid (E := 15) h (fun z hz => ?_) X lwd_50 hL hs hh va_S.rf hl.1 (show (11 : Nat) = 11 from rfl) rfl (by decide +kernel) (by decide +kernel) (Nat.le_of_ble_eq_true rfl) hfl hret hlk rfl dw_fits_4 dw_fits_7 dw_fits_8 dw_fits_9 (by decide) dw_fits_15 dw_fits_16 (fun z hz H1 locs1 q9 ce h1 h2 h3 K => ?_)
  · simp only [List.mem_cons, List.not_mem_nil, or_false] at hz
    rcases hz with rfl <;> exact ⟨by decide, by decide, by decide⟩
  · simp only [List.mem_cons, List.not_mem_nil, or_false] at hz
    rcases hz with rfl
    · refine vx_catch (own := lwN) (name := excN 0) (E := excN 0) X.2.2.2.1 [] ⟨0, 9, 12, 18⟩ [] htab (fun z hz => by cases hz) (by decide) (by decide) (X.2.2.2.2 _ lk_18) (hs.2.2.2.1.at _ _ ex_c0) h1 h2 h3 ?_
      refine lv_astore_n (i := 3) X.1 X.2.1 dw_fits_12 rfl hl (by decide) rfl (fun ls2 hl2 => ?_)
      refine lv_iconst (v := iN 1) X.1 X.2.1 dw_fits_13 (by decide) ?_
      exact K _ _ dw_fits_14
def yw_look : MethodName := ⟨lwN, "look", "(LRingDater;I[J)I"⟩
set_option maxRecDepth 100000 in
theorem ww_look : LWw 162 yw_look method_15_code 4 [(0, 9, 12, 18)] 3 := ⟨⟨gW_at (i := 1382) rfl rfl, gW_at (i := 1383) rfl rfl⟩, ⟨gW_at (i := 102) rfl rfl, gW_at (i := 1384) rfl rfl⟩, ⟨by decide, by decide, rfl⟩, by decide⟩
set_option maxRecDepth 100000 in
theorem lwd_53 : LWd 53 m_RingDater_look := ⟨⟨gW_at (i := 1385) rfl rfl, gW_at (i := 1386) rfl rfl⟩, ⟨gW_at (i := 1387) rfl rfl, gW_at (i := 103) rfl rfl⟩, rfl, by decide⟩
theorem dw_look_0 : decode method_15_code 0 = .ok (.aload_n 2, 1) := by decide +kernel
theorem dw_look_1 : decode method_15_code 1 = .ok (.iconst 0, 1) := by decide +kernel
theorem dw_look_2 : decode method_15_code 2 = .ok (.aload_n 0, 1) := by decide +kernel
theorem dw_look_3 : decode method_15_code 3 = .ok (.iload_n 1, 1) := by decide +kernel
theorem dw_look_12 : decode method_15_code 12 = .ok (.astore_n 3, 1) := by decide +kernel
theorem dw_look_13 : decode method_15_code 13 = .ok (.iconst 1, 1) := by decide +kernel
theorem dw_look_14 : decode method_15_code 14 = .ok (.ireturn, 1) := by decide +kernel
theorem dw_look_4 : decode method_15_code 4 = .ok (.invokevirtual 53, 3) := by decide +kernel
theorem dw_look_7 : decode method_15_code 7 = .ok (.i2l, 1) := by decide +kernel
theorem dw_look_8 : decode method_15_code 8 = .ok (.lastore, 1) := by decide +kernel
theorem dw_look_9 : decode method_15_code 9 = .ok (.goto 6, 3) := by decide +kernel
theorem dw_look_15 : decode method_15_code 15 = .ok (.iconst 0, 1) := by decide +kernel
theorem dw_look_16 : decode method_15_code 16 = .ok (.ireturn, 1) := by decide +kernel
set_option maxHeartbeats 4000000 in
set_option maxRecDepth 100000 in
theorem wr_look {p0 : Int} {k : Nat} {M : Mm} (h : SimW [(0, 1)] m_RingDater_look m_Model_look [.inl p0] k M) : WrC yw_look method_15_code 4 [(0, 9, 12, 18)] [.inl p0] M (WQ m_Model_look [.inl p0] k) := by
  refine wr_of (by decide) rfl (fun adr o => by simp [lg_sl, cvA, Value.category]) ?_
  intro p l e s m args below meth c D tA n0 o bs adr adV f ls hfl hL X hs hh htab hret hlk hl
  have hl : lv_has ls 4 [(0, .ref (adr 0)), (1, .int (iN p0)), (2, .ref o)] := hl
  refine lv_aload_n (i := 2) (x := o) X.1 X.2.1 dw_look_0 rfl (lv_at hl 2 rfl) ?_
  refine lv_iconst (v := 0) X.1 X.2.1 dw_look_1 (by decide) ?_
  refine lv_aload_n (i := 0) (x := adr 0) X.1 X.2.1 dw_look_2 rfl (lv_at hl 0 rfl) ?_
  refine lv_iload_n (i := 1) (x := iN p0) X.1 X.2.1 dw_look_3 rfl (lv_at hl 1 rfl) ?_
  refine wr_mid (E := 15) h (fun z hz => ?_) X lwd_53 hL hs hh va_S.rf hl.1 (show (11 : Nat) = 11 from rfl) rfl (by decide +kernel) (by decide +kernel) (Nat.le_of_ble_eq_true rfl) hfl hret hlk rfl dw_look_4 dw_look_7 dw_look_8 dw_look_9 (by decide) dw_look_15 dw_look_16 (fun z hz H1 locs1 q9 ce h1 h2 h3 K => ?_)
  · simp only [List.mem_cons, List.not_mem_nil, or_false] at hz
    rcases hz with rfl <;> exact ⟨by decide, by decide, by decide⟩
  · simp only [List.mem_cons, List.not_mem_nil, or_false] at hz
    rcases hz with rfl
    · refine vx_catch (own := lwN) (name := excN 0) (E := excN 0) X.2.2.2.1 [] ⟨0, 9, 12, 18⟩ [] htab (fun z hz => by cases hz) (by decide) (by decide) (X.2.2.2.2 _ lk_18) (hs.2.2.2.1.at _ _ ex_c0) h1 h2 h3 ?_
      refine lv_astore_n (i := 3) X.1 X.2.1 dw_look_12 rfl hl (by decide) rfl (fun ls2 hl2 => ?_)
      refine lv_iconst (v := iN 1) X.1 X.2.1 dw_look_13 (by decide) ?_
      exact K _ _ dw_look_14
def yw_chance : MethodName := ⟨lwN, "chance", "(LRingDater;IIII[J)I"⟩
set_option maxRecDepth 100000 in
theorem ww_chance : LWw 169 yw_chance method_16_code 7 [(0, 14, 17, 18), (0, 14, 21, 13)] 6 := ⟨⟨gW_at (i := 1394) rfl rfl, gW_at (i := 1395) rfl rfl⟩, ⟨gW_at (i := 102) rfl rfl, gW_at (i := 1396) rfl rfl⟩, ⟨by decide, by decide, rfl⟩, by decide⟩
set_option maxRecDepth 100000 in
theorem lwd_56 : LWd 56 m_RingDater_chance := ⟨⟨gW_at (i := 1397) rfl rfl, gW_at (i := 1398) rfl rfl⟩, ⟨gW_at (i := 1399) rfl rfl, gW_at (i := 103) rfl rfl⟩, rfl, by decide⟩
theorem dw_chance_0 : decode method_16_code 0 = .ok (.aload 5, 2) := by decide +kernel
theorem dw_chance_2 : decode method_16_code 2 = .ok (.iconst 0, 1) := by decide +kernel
theorem dw_chance_3 : decode method_16_code 3 = .ok (.aload_n 0, 1) := by decide +kernel
theorem dw_chance_4 : decode method_16_code 4 = .ok (.iload_n 1, 1) := by decide +kernel
theorem dw_chance_5 : decode method_16_code 5 = .ok (.iload_n 2, 1) := by decide +kernel
theorem dw_chance_6 : decode method_16_code 6 = .ok (.iload_n 3, 1) := by decide +kernel
theorem dw_chance_7 : decode method_16_code 7 = .ok (.iload 4, 2) := by decide +kernel
theorem dw_chance_17 : decode method_16_code 17 = .ok (.astore 6, 2) := by decide +kernel
theorem dw_chance_19 : decode method_16_code 19 = .ok (.iconst 1, 1) := by decide +kernel
theorem dw_chance_20 : decode method_16_code 20 = .ok (.ireturn, 1) := by decide +kernel
theorem dw_chance_21 : decode method_16_code 21 = .ok (.astore 6, 2) := by decide +kernel
theorem dw_chance_23 : decode method_16_code 23 = .ok (.iconst 2, 1) := by decide +kernel
theorem dw_chance_24 : decode method_16_code 24 = .ok (.ireturn, 1) := by decide +kernel
theorem dw_chance_9 : decode method_16_code 9 = .ok (.invokevirtual 56, 3) := by decide +kernel
theorem dw_chance_12 : decode method_16_code 12 = .ok (.i2l, 1) := by decide +kernel
theorem dw_chance_13 : decode method_16_code 13 = .ok (.lastore, 1) := by decide +kernel
theorem dw_chance_14 : decode method_16_code 14 = .ok (.goto 11, 3) := by decide +kernel
theorem dw_chance_25 : decode method_16_code 25 = .ok (.iconst 0, 1) := by decide +kernel
theorem dw_chance_26 : decode method_16_code 26 = .ok (.ireturn, 1) := by decide +kernel
set_option maxHeartbeats 4000000 in
set_option maxRecDepth 100000 in
theorem wr_chance {p0 p1 p2 p3 : Int} {k : Nat} {M : Mm} (h : SimW [(0, 1), (1, 2)] m_RingDater_chance m_Model_chance [.inl p0, .inl p1, .inl p2, .inl p3] k M) : WrC yw_chance method_16_code 7 [(0, 14, 17, 18), (0, 14, 21, 13)] [.inl p0, .inl p1, .inl p2, .inl p3] M (WQ m_Model_chance [.inl p0, .inl p1, .inl p2, .inl p3] k) := by
  refine wr_of (by decide) rfl (fun adr o => by simp [lg_sl, cvA, Value.category]) ?_
  intro p l e s m args below meth c D tA n0 o bs adr adV f ls hfl hL X hs hh htab hret hlk hl
  have hl : lv_has ls 7 [(0, .ref (adr 0)), (1, .int (iN p0)), (2, .int (iN p1)), (3, .int (iN p2)), (4, .int (iN p3)), (5, .ref o)] := hl
  refine lv_aload (x := o) X.1 X.2.1 dw_chance_0 (lv_at hl 5 rfl) ?_
  refine lv_iconst (v := 0) X.1 X.2.1 dw_chance_2 (by decide) ?_
  refine lv_aload_n (i := 0) (x := adr 0) X.1 X.2.1 dw_chance_3 rfl (lv_at hl 0 rfl) ?_
  refine lv_iload_n (i := 1) (x := iN p0) X.1 X.2.1 dw_chance_4 rfl (lv_at hl 1 rfl) ?_
  refine lv_iload_n (i := 2) (x := iN p1) X.1 X.2.1 dw_chance_5 rfl (lv_at hl 2 rfl) ?_
  refine lv_iload_n (i := 3) (x := iN p2) X.1 X.2.1 dw_chance_6 rfl (lv_at hl 3 rfl) ?_
  refine lv_iload (x := iN p3) X.1 X.2.1 dw_chance_7 (lv_at hl 4 rfl) ?_
  refine wr_mid (E := 25) h (fun z hz => ?_) X lwd_56 hL hs hh va_S.rf hl.1 (show (11 : Nat) = 11 from rfl) rfl (by decide +kernel) (by decide +kernel) (Nat.le_of_ble_eq_true rfl) hfl hret hlk rfl dw_chance_9 dw_chance_12 dw_chance_13 dw_chance_14 (by decide) dw_chance_25 dw_chance_26 (fun z hz H1 locs1 q9 ce h1 h2 h3 K => ?_)
  · simp only [List.mem_cons, List.not_mem_nil, or_false] at hz
    rcases hz with rfl | rfl <;> exact ⟨by decide, by decide, by decide⟩
  · simp only [List.mem_cons, List.not_mem_nil, or_false] at hz
    rcases hz with rfl | rfl
    · refine vx_catch (own := lwN) (name := excN 0) (E := excN 0) X.2.2.2.1 [] ⟨0, 14, 17, 18⟩ [⟨0, 14, 21, 13⟩] htab (fun z hz => by cases hz) (by decide) (by decide) (X.2.2.2.2 _ lk_18) (hs.2.2.2.1.at _ _ ex_c0) h1 h2 h3 ?_
      refine lv_astore X.1 X.2.1 dw_chance_17 hl (by decide) rfl (fun ls2 hl2 => ?_)
      refine lv_iconst (v := iN 1) X.1 X.2.1 dw_chance_19 (by decide) ?_
      exact K _ _ dw_chance_20
    · refine vx_catch (own := lwN) (name := excN 1) (E := excN 1) X.2.2.2.1 [⟨0, 14, 17, 18⟩] ⟨0, 14, 21, 13⟩ [] htab (fun z hz => by
        obtain rfl := List.mem_singleton.mp hz
        exact .inr ⟨by decide, excN 0, X.2.2.2.2 _ lk_18, hs.2.2.2.2.1⟩) (by decide) (by decide) (X.2.2.2.2 _ lk_13) (hs.2.2.2.1.at _ _ ex_c1) h1 h2 h3 ?_
      refine lv_astore X.1 X.2.1 dw_chance_21 hl (by decide) rfl (fun ls2 hl2 => ?_)
      refine lv_iconst (v := iN 2) X.1 X.2.1 dw_chance_23 (by decide) ?_
      exact K _ _ dw_chance_24
def yw_told : MethodName := ⟨lwN, "told", "(LRingDater;II[J)I"⟩
set_option maxRecDepth 100000 in
theorem ww_told : LWw 172 yw_told method_17_code 5 [(0, 10, 13, 18)] 4 := ⟨⟨gW_at (i := 1408) rfl rfl, gW_at (i := 1409) rfl rfl⟩, ⟨gW_at (i := 102) rfl rfl, gW_at (i := 1410) rfl rfl⟩, ⟨by decide, by decide, rfl⟩, by decide⟩
set_option maxRecDepth 100000 in
theorem lwd_59 : LWd 59 m_RingDater_told := ⟨⟨gW_at (i := 1411) rfl rfl, gW_at (i := 1412) rfl rfl⟩, ⟨gW_at (i := 1413) rfl rfl, gW_at (i := 103) rfl rfl⟩, rfl, by decide⟩
theorem dw_told_0 : decode method_17_code 0 = .ok (.aload_n 3, 1) := by decide +kernel
theorem dw_told_1 : decode method_17_code 1 = .ok (.iconst 0, 1) := by decide +kernel
theorem dw_told_2 : decode method_17_code 2 = .ok (.aload_n 0, 1) := by decide +kernel
theorem dw_told_3 : decode method_17_code 3 = .ok (.iload_n 1, 1) := by decide +kernel
theorem dw_told_4 : decode method_17_code 4 = .ok (.iload_n 2, 1) := by decide +kernel
theorem dw_told_13 : decode method_17_code 13 = .ok (.astore 4, 2) := by decide +kernel
theorem dw_told_15 : decode method_17_code 15 = .ok (.iconst 1, 1) := by decide +kernel
theorem dw_told_16 : decode method_17_code 16 = .ok (.ireturn, 1) := by decide +kernel
theorem dw_told_5 : decode method_17_code 5 = .ok (.invokevirtual 59, 3) := by decide +kernel
theorem dw_told_8 : decode method_17_code 8 = .ok (.i2l, 1) := by decide +kernel
theorem dw_told_9 : decode method_17_code 9 = .ok (.lastore, 1) := by decide +kernel
theorem dw_told_10 : decode method_17_code 10 = .ok (.goto 7, 3) := by decide +kernel
theorem dw_told_17 : decode method_17_code 17 = .ok (.iconst 0, 1) := by decide +kernel
theorem dw_told_18 : decode method_17_code 18 = .ok (.ireturn, 1) := by decide +kernel
set_option maxHeartbeats 4000000 in
set_option maxRecDepth 100000 in
theorem wr_told0 {p0 p1 : Int} {k : Nat} {M : Mm} (h : SimW [(0, 1)] m_RingDater_told m_Model_told [.inl p0, .inl p1] k M) : WrC yw_told method_17_code 5 [(0, 10, 13, 18)] [.inl p0, .inl p1] M (WQ m_Model_told [.inl p0, .inl p1] k) := by
  refine wr_of (by decide) rfl (fun adr o => by simp [lg_sl, cvA, Value.category]) ?_
  intro p l e s m args below meth c D tA n0 o bs adr adV f ls hfl hL X hs hh htab hret hlk hl
  have hl : lv_has ls 5 [(0, .ref (adr 0)), (1, .int (iN p0)), (2, .int (iN p1)), (3, .ref o)] := hl
  refine lv_aload_n (i := 3) (x := o) X.1 X.2.1 dw_told_0 rfl (lv_at hl 3 rfl) ?_
  refine lv_iconst (v := 0) X.1 X.2.1 dw_told_1 (by decide) ?_
  refine lv_aload_n (i := 0) (x := adr 0) X.1 X.2.1 dw_told_2 rfl (lv_at hl 0 rfl) ?_
  refine lv_iload_n (i := 1) (x := iN p0) X.1 X.2.1 dw_told_3 rfl (lv_at hl 1 rfl) ?_
  refine lv_iload_n (i := 2) (x := iN p1) X.1 X.2.1 dw_told_4 rfl (lv_at hl 2 rfl) ?_
  refine wr_mid (E := 17) h (fun z hz => ?_) X lwd_59 hL hs hh va_S.rf hl.1 (show (11 : Nat) = 11 from rfl) rfl (by decide +kernel) (by decide +kernel) (Nat.le_of_ble_eq_true rfl) hfl hret hlk rfl dw_told_5 dw_told_8 dw_told_9 dw_told_10 (by decide) dw_told_17 dw_told_18 (fun z hz H1 locs1 q9 ce h1 h2 h3 K => ?_)
  · simp only [List.mem_cons, List.not_mem_nil, or_false] at hz
    rcases hz with rfl <;> exact ⟨by decide, by decide, by decide⟩
  · simp only [List.mem_cons, List.not_mem_nil, or_false] at hz
    rcases hz with rfl
    · refine vx_catch (own := lwN) (name := excN 0) (E := excN 0) X.2.2.2.1 [] ⟨0, 10, 13, 18⟩ [] htab (fun z hz => by cases hz) (by decide) (by decide) (X.2.2.2.2 _ lk_18) (hs.2.2.2.1.at _ _ ex_c0) h1 h2 h3 ?_
      refine lv_astore X.1 X.2.1 dw_told_13 hl (by decide) rfl (fun ls2 hl2 => ?_)
      refine lv_iconst (v := iN 1) X.1 X.2.1 dw_told_15 (by decide) ?_
      exact K _ _ dw_told_16
set_option maxRecDepth 100000 in
theorem lwd_66 : LWd 66 m_RingDater_feed := ⟨⟨gW_at (i := 595) rfl rfl, gW_at (i := 596) rfl rfl⟩, ⟨gW_at (i := 597) rfl rfl, gW_at (i := 103) rfl rfl⟩, rfl, by decide⟩
set_option maxRecDepth 100000 in
theorem lwd_70 : LWd 70 m_Model_feed := ⟨⟨gW_at (i := 1917) rfl rfl, gW_at (i := 1918) rfl rfl⟩, ⟨gW_at (i := 1919) rfl rfl, gW_at (i := 120) rfl rfl⟩, rfl, by decide⟩
set_option maxRecDepth 100000 in
theorem lwd_76 : LWd 76 m_Model_yard := ⟨⟨gW_at (i := 1921) rfl rfl, gW_at (i := 1922) rfl rfl⟩, ⟨gW_at (i := 1923) rfl rfl, gW_at (i := 120) rfl rfl⟩, rfl, by decide⟩
set_option maxRecDepth 100000 in
theorem lwd_77 : LWd 77 m_Model_thrown := ⟨⟨gW_at (i := 1913) rfl rfl, gW_at (i := 1914) rfl rfl⟩, ⟨gW_at (i := 1915) rfl rfl, gW_at (i := 120) rfl rfl⟩, rfl, by decide⟩
set_option maxRecDepth 100000 in
theorem lwd_81 : LWd 81 m_RingDater_fault := ⟨⟨gW_at (i := 603) rfl rfl, gW_at (i := 604) rfl rfl⟩, ⟨gW_at (i := 605) rfl rfl, gW_at (i := 103) rfl rfl⟩, rfl, by decide⟩
set_option maxRecDepth 100000 in
theorem lwd_84 : LWd 84 m_Model_fault := ⟨⟨gW_at (i := 1989) rfl rfl, gW_at (i := 1990) rfl rfl⟩, ⟨gW_at (i := 1991) rfl rfl, gW_at (i := 120) rfl rfl⟩, rfl, by decide⟩
set_option maxRecDepth 100000 in
theorem lwd_87 : LWd 87 m_Model_count := ⟨⟨gW_at (i := 1993) rfl rfl, gW_at (i := 1994) rfl rfl⟩, ⟨gW_at (i := 1995) rfl rfl, gW_at (i := 120) rfl rfl⟩, rfl, by decide⟩
set_option maxRecDepth 100000 in
theorem lwd_91 : LWd 91 m_Model_timber := ⟨⟨gW_at (i := 2139) rfl rfl, gW_at (i := 2140) rfl rfl⟩, ⟨gW_at (i := 2141) rfl rfl, gW_at (i := 120) rfl rfl⟩, rfl, by decide⟩
set_option maxRecDepth 100000 in
theorem lwd_94 : LWd 94 m_Model_house := ⟨⟨gW_at (i := 2161) rfl rfl, gW_at (i := 2162) rfl rfl⟩, ⟨gW_at (i := 2163) rfl rfl, gW_at (i := 120) rfl rfl⟩, rfl, by decide⟩
set_option maxRecDepth 100000 in
theorem lwd_98 : LWd 98 m_Model_ring := ⟨⟨gW_at (i := 2173) rfl rfl, gW_at (i := 2174) rfl rfl⟩, ⟨gW_at (i := 2175) rfl rfl, gW_at (i := 120) rfl rfl⟩, rfl, by decide⟩
set_option maxRecDepth 100000 in
theorem lwd_99 : LWd 99 m_RingDater_index := ⟨⟨gW_at (i := 607) rfl rfl, gW_at (i := 608) rfl rfl⟩, ⟨gW_at (i := 609) rfl rfl, gW_at (i := 103) rfl rfl⟩, rfl, by decide⟩
set_option maxRecDepth 100000 in
theorem lwd_102 : LWd 102 m_Model_index := ⟨⟨gW_at (i := 2181) rfl rfl, gW_at (i := 2182) rfl rfl⟩, ⟨gW_at (i := 2183) rfl rfl, gW_at (i := 120) rfl rfl⟩, rfl, by decide⟩
set_option maxRecDepth 100000 in
theorem lwd_103 : LWd 103 m_RingDater_depth := ⟨⟨gW_at (i := 674) rfl rfl, gW_at (i := 675) rfl rfl⟩, ⟨gW_at (i := 676) rfl rfl, gW_at (i := 103) rfl rfl⟩, rfl, by decide⟩
set_option maxRecDepth 100000 in
theorem lwd_106 : LWd 106 m_Model_depth := ⟨⟨gW_at (i := 2185) rfl rfl, gW_at (i := 2186) rfl rfl⟩, ⟨gW_at (i := 2187) rfl rfl, gW_at (i := 120) rfl rfl⟩, rfl, by decide⟩
set_option maxRecDepth 100000 in
theorem lwd_109 : LWd 109 m_Model_pointer := ⟨⟨gW_at (i := 2189) rfl rfl, gW_at (i := 2190) rfl rfl⟩, ⟨gW_at (i := 2191) rfl rfl, gW_at (i := 120) rfl rfl⟩, rfl, by decide⟩
set_option maxRecDepth 100000 in
theorem lwd_113 : LWd 113 m_Model_slid := ⟨⟨gW_at (i := 2193) rfl rfl, gW_at (i := 2194) rfl rfl⟩, ⟨gW_at (i := 2195) rfl rfl, gW_at (i := 120) rfl rfl⟩, rfl, by decide⟩
set_option maxRecDepth 100000 in
theorem lwd_116 : LWd 116 m_Model_best := ⟨⟨gW_at (i := 2197) rfl rfl, gW_at (i := 2198) rfl rfl⟩, ⟨gW_at (i := 2199) rfl rfl, gW_at (i := 120) rfl rfl⟩, rfl, by decide⟩
set_option maxRecDepth 100000 in
theorem lwd_119 : LWd 119 m_Model_link := ⟨⟨gW_at (i := 2201) rfl rfl, gW_at (i := 2202) rfl rfl⟩, ⟨gW_at (i := 2203) rfl rfl, gW_at (i := 120) rfl rfl⟩, rfl, by decide⟩
set_option maxRecDepth 100000 in
theorem lwd_122 : LWd 122 m_Model_grown := ⟨⟨gW_at (i := 2205) rfl rfl, gW_at (i := 2206) rfl rfl⟩, ⟨gW_at (i := 2207) rfl rfl, gW_at (i := 120) rfl rfl⟩, rfl, by decide⟩
set_option maxRecDepth 100000 in
theorem lwd_125 : LWd 125 m_Model_help := ⟨⟨gW_at (i := 2209) rfl rfl, gW_at (i := 2210) rfl rfl⟩, ⟨gW_at (i := 2211) rfl rfl, gW_at (i := 120) rfl rfl⟩, rfl, by decide⟩
set_option maxRecDepth 100000 in
theorem lwd_126 : LWd 126 m_RingDater_date := ⟨⟨gW_at (i := 687) rfl rfl, gW_at (i := 688) rfl rfl⟩, ⟨gW_at (i := 689) rfl rfl, gW_at (i := 103) rfl rfl⟩, rfl, by decide⟩
set_option maxRecDepth 100000 in
theorem lwd_129 : LWd 129 m_Model_date := ⟨⟨gW_at (i := 2229) rfl rfl, gW_at (i := 2230) rfl rfl⟩, ⟨gW_at (i := 2231) rfl rfl, gW_at (i := 120) rfl rfl⟩, rfl, by decide⟩
set_option maxRecDepth 100000 in
theorem lwd_130 : LWd 130 m_RingDater_settle := ⟨⟨gW_at (i := 708) rfl rfl, gW_at (i := 709) rfl rfl⟩, ⟨gW_at (i := 710) rfl rfl, gW_at (i := 103) rfl rfl⟩, rfl, by decide⟩
set_option maxRecDepth 100000 in
theorem lwd_133 : LWd 133 m_Model_settle := ⟨⟨gW_at (i := 2241) rfl rfl, gW_at (i := 2242) rfl rfl⟩, ⟨gW_at (i := 2243) rfl rfl, gW_at (i := 120) rfl rfl⟩, rfl, by decide⟩
set_option maxRecDepth 100000 in
theorem lwd_134 : LWd 134 m_RingDater_grow := ⟨⟨gW_at (i := 785) rfl rfl, gW_at (i := 786) rfl rfl⟩, ⟨gW_at (i := 787) rfl rfl, gW_at (i := 103) rfl rfl⟩, rfl, by decide⟩
set_option maxRecDepth 100000 in
theorem lwd_137 : LWd 137 m_Model_grow := ⟨⟨gW_at (i := 2245) rfl rfl, gW_at (i := 2246) rfl rfl⟩, ⟨gW_at (i := 2247) rfl rfl, gW_at (i := 120) rfl rfl⟩, rfl, by decide⟩
set_option maxRecDepth 100000 in
theorem lwd_138 : LWd 138 m_RingDater_mend := ⟨⟨gW_at (i := 814) rfl rfl, gW_at (i := 815) rfl rfl⟩, ⟨gW_at (i := 816) rfl rfl, gW_at (i := 103) rfl rfl⟩, rfl, by decide⟩
set_option maxRecDepth 100000 in
theorem lwd_142 : LWd 142 m_Model_mend := ⟨⟨gW_at (i := 2249) rfl rfl, gW_at (i := 2250) rfl rfl⟩, ⟨gW_at (i := 2251) rfl rfl, gW_at (i := 120) rfl rfl⟩, rfl, by decide⟩
set_option maxRecDepth 100000 in
theorem lwd_143 : LWd 143 m_RingDater_doubt := ⟨⟨gW_at (i := 840) rfl rfl, gW_at (i := 841) rfl rfl⟩, ⟨gW_at (i := 842) rfl rfl, gW_at (i := 103) rfl rfl⟩, rfl, by decide⟩
set_option maxRecDepth 100000 in
theorem lwd_146 : LWd 146 m_Model_doubt := ⟨⟨gW_at (i := 2253) rfl rfl, gW_at (i := 2254) rfl rfl⟩, ⟨gW_at (i := 2255) rfl rfl, gW_at (i := 120) rfl rfl⟩, rfl, by decide⟩
set_option maxRecDepth 100000 in
theorem lwd_147 : LWd 147 m_RingDater_move := ⟨⟨gW_at (i := 850) rfl rfl, gW_at (i := 851) rfl rfl⟩, ⟨gW_at (i := 852) rfl rfl, gW_at (i := 103) rfl rfl⟩, rfl, by decide⟩
set_option maxRecDepth 100000 in
theorem lwd_150 : LWd 150 m_Model_move := ⟨⟨gW_at (i := 2257) rfl rfl, gW_at (i := 2258) rfl rfl⟩, ⟨gW_at (i := 2259) rfl rfl, gW_at (i := 120) rfl rfl⟩, rfl, by decide⟩
set_option maxRecDepth 100000 in
theorem lwd_151 : LWd 151 m_RingDater_undo := ⟨⟨gW_at (i := 854) rfl rfl, gW_at (i := 855) rfl rfl⟩, ⟨gW_at (i := 856) rfl rfl, gW_at (i := 103) rfl rfl⟩, rfl, by decide⟩
set_option maxRecDepth 100000 in
theorem lwd_154 : LWd 154 m_Model_undo := ⟨⟨gW_at (i := 2261) rfl rfl, gW_at (i := 2262) rfl rfl⟩, ⟨gW_at (i := 2263) rfl rfl, gW_at (i := 120) rfl rfl⟩, rfl, by decide⟩
set_option maxRecDepth 100000 in
theorem lwd_155 : LWd 155 m_RingDater_note := ⟨⟨gW_at (i := 870) rfl rfl, gW_at (i := 871) rfl rfl⟩, ⟨gW_at (i := 872) rfl rfl, gW_at (i := 103) rfl rfl⟩, rfl, by decide⟩
set_option maxRecDepth 100000 in
theorem lwd_158 : LWd 158 m_Model_note := ⟨⟨gW_at (i := 2265) rfl rfl, gW_at (i := 2266) rfl rfl⟩, ⟨gW_at (i := 2267) rfl rfl, gW_at (i := 120) rfl rfl⟩, rfl, by decide⟩
set_option maxRecDepth 100000 in
theorem lwd_161 : LWd 161 m_Model_fits := ⟨⟨gW_at (i := 2273) rfl rfl, gW_at (i := 2274) rfl rfl⟩, ⟨gW_at (i := 2275) rfl rfl, gW_at (i := 120) rfl rfl⟩, rfl, by decide⟩
set_option maxRecDepth 100000 in
theorem lwd_164 : LWd 164 m_Model_look := ⟨⟨gW_at (i := 2281) rfl rfl, gW_at (i := 2282) rfl rfl⟩, ⟨gW_at (i := 2283) rfl rfl, gW_at (i := 120) rfl rfl⟩, rfl, by decide⟩
set_option maxRecDepth 100000 in
theorem lwd_165 : LWd 165 m_RingDater_forget := ⟨⟨gW_at (i := 878) rfl rfl, gW_at (i := 879) rfl rfl⟩, ⟨gW_at (i := 880) rfl rfl, gW_at (i := 103) rfl rfl⟩, rfl, by decide⟩
set_option maxRecDepth 100000 in
theorem lwd_168 : LWd 168 m_Model_forget := ⟨⟨gW_at (i := 2269) rfl rfl, gW_at (i := 2270) rfl rfl⟩, ⟨gW_at (i := 2271) rfl rfl, gW_at (i := 120) rfl rfl⟩, rfl, by decide⟩
set_option maxRecDepth 100000 in
theorem lwd_171 : LWd 171 m_Model_chance := ⟨⟨gW_at (i := 2289) rfl rfl, gW_at (i := 2290) rfl rfl⟩, ⟨gW_at (i := 2291) rfl rfl, gW_at (i := 120) rfl rfl⟩, rfl, by decide⟩
set_option maxRecDepth 100000 in
theorem lwd_174 : LWd 174 m_Model_told := ⟨⟨gW_at (i := 2298) rfl rfl, gW_at (i := 2299) rfl rfl⟩, ⟨gW_at (i := 2300) rfl rfl, gW_at (i := 120) rfl rfl⟩, rfl, by decide⟩
set_option maxRecDepth 100000 in
theorem lwd_175 : LWd 175 m_RingDater_image := ⟨⟨gW_at (i := 882) rfl rfl, gW_at (i := 883) rfl rfl⟩, ⟨gW_at (i := 884) rfl rfl, gW_at (i := 103) rfl rfl⟩, rfl, by decide⟩
set_option maxRecDepth 100000 in
theorem lwd_178 : LWd 178 m_Model_image := ⟨⟨gW_at (i := 2314) rfl rfl, gW_at (i := 2315) rfl rfl⟩, ⟨gW_at (i := 2316) rfl rfl, gW_at (i := 120) rfl rfl⟩, rfl, by decide⟩
set_option maxRecDepth 100000 in
theorem lwd_179 : LWd 179 m_RingDater_restore := ⟨⟨gW_at (i := 905) rfl rfl, gW_at (i := 906) rfl rfl⟩, ⟨gW_at (i := 907) rfl rfl, gW_at (i := 103) rfl rfl⟩, rfl, by decide⟩
set_option maxRecDepth 100000 in
theorem lwd_183 : LWd 183 m_Model_restore := ⟨⟨gW_at (i := 2318) rfl rfl, gW_at (i := 2319) rfl rfl⟩, ⟨gW_at (i := 2320) rfl rfl, gW_at (i := 120) rfl rfl⟩, rfl, by decide⟩
