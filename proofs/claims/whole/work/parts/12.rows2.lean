set_option maxRecDepth 100000 in
set_option maxHeartbeats 4000000 in
theorem C_RingDater_countPointers : oM m_RingDater_countPointers = 11 ∧
  rkM m_RingDater_countPointers = 1 ∧
  dM m_RingDater_countPointers = 5 ∧
  lM m_RingDater_countPointers = 3 ∧
  decode (cM m_RingDater_countPointers) 0 = .ok (.aload_n 0, 1) ∧
  decode (cM m_RingDater_countPointers) 1 = .ok (.invokevirtual 135, 3) ∧
  invT 11 135 = some (m_RingDater_layChronology, 0) ∧
  nM m_RingDater_layChronology = 1 ∧
  oM m_RingDater_layChronology = 11 ∧
  rkM m_RingDater_layChronology = 0 ∧
  dM m_RingDater_layChronology = 4 ∧
  decode (cM m_RingDater_countPointers) 4 = .ok (.iconst 0, 1) ∧
  decode (cM m_RingDater_countPointers) 5 = .ok (.istore_n 1, 1) ∧
  decode (cM m_RingDater_countPointers) 6 = .ok (.iconst 0, 1) ∧
  decode (cM m_RingDater_countPointers) 7 = .ok (.aload_n 0, 1) ∧
  decode (cM m_RingDater_countPointers) 8 = .ok (.getfield 19, 3) ∧
  fldT 11 19 = some (11, 1, 2) ∧
  decode (cM m_RingDater_countPointers) 11 = .ok (.getfield 138, 3) ∧
  fldT 11 138 = some (0, 7, 0) ∧
  decode (cM m_RingDater_countPointers) 14 = .ok (.invokestatic 372, 3) ∧
  invT 11 372 = some (0, 3) ∧
  decode (cM m_RingDater_countPointers) 17 = .ok (.istore_n 2, 1) ∧
  decode (cM m_RingDater_countPointers) 18 = .ok (.iload_n 2, 1) ∧
  decode (cM m_RingDater_countPointers) 19 = .ok (.aload_n 0, 1) ∧
  decode (cM m_RingDater_countPointers) 20 = .ok (.getfield 19, 3) ∧
  decode (cM m_RingDater_countPointers) 23 = .ok (.getfield 141, 3) ∧
  fldT 11 141 = some (0, 8, 0) ∧
  decode (cM m_RingDater_countPointers) 26 = .ok (.if_icmp .gt 30, 3) ∧
  am_okt 26 30 ∧
  am_tgt 26 30 = 56 ∧
  decode (cM m_RingDater_countPointers) 29 = .ok (.iload_n 2, 1) ∧
  decode (cM m_RingDater_countPointers) 30 = .ok (.sipush 924, 3) ∧
  decode (cM m_RingDater_countPointers) 33 = .ok (.if_icmp .ge 23, 3) ∧
  am_okt 33 23 ∧
  am_tgt 33 23 = 56 ∧
  decode (cM m_RingDater_countPointers) 36 = .ok (.aload_n 0, 1) ∧
  decode (cM m_RingDater_countPointers) 37 = .ok (.getfield 54, 3) ∧
  fldT 11 54 = some (11, 6, 2) ∧
  decode (cM m_RingDater_countPointers) 40 = .ok (.iload_n 2, 1) ∧
  decode (cM m_RingDater_countPointers) 41 = .ok (.invokevirtual 262, 3) ∧
  invT 11 262 = some (m_Stock_pointerStep, 0) ∧
  nM m_Stock_pointerStep = 2 ∧
  oM m_Stock_pointerStep = 8 ∧
  rkM m_Stock_pointerStep = 1 ∧
  dM m_Stock_pointerStep = 3 ∧
  decode (cM m_RingDater_countPointers) 44 = .ok (.ifCond .eq 6, 3) ∧
  am_okt 44 6 ∧
  am_tgt 44 6 = 50 ∧
  decode (cM m_RingDater_countPointers) 47 = .ok (.iinc 1 1, 3) ∧
  decode (cM m_RingDater_countPointers) 50 = .ok (.iinc 2 1, 3) ∧
  decode (cM m_RingDater_countPointers) 53 = .ok (.goto (-35), 3) ∧
  am_okt 53 (-35) ∧
  am_tgt 53 (-35) = 18 ∧
  decode (cM m_RingDater_countPointers) 56 = .ok (.iload_n 1, 1) ∧
  decode (cM m_RingDater_countPointers) 57 = .ok (.ireturn, 1) :=
  ⟨rfl, rfl, rfl, rfl, by decide +kernel, by decide +kernel, rfl, rfl, rfl, rfl, rfl, by decide +kernel, by decide +kernel, by decide +kernel, by decide +kernel, by decide +kernel, rfl, by decide +kernel, rfl, by decide +kernel, rfl, by decide +kernel, by decide +kernel, by decide +kernel, by decide +kernel, by decide +kernel, rfl, by decide +kernel, rfl, rfl, by decide +kernel, by decide +kernel, by decide +kernel, rfl, rfl, by decide +kernel, by decide +kernel, rfl, by decide +kernel, by decide +kernel, rfl, rfl, rfl, rfl, rfl, by decide +kernel, rfl, rfl, by decide +kernel, by decide +kernel, by decide +kernel, rfl, rfl, by decide +kernel, by decide +kernel⟩
set_option maxRecDepth 100000 in
set_option maxHeartbeats 4000000 in
theorem C_RingDater_oddTimber : oM m_RingDater_oddTimber = 11 ∧
  rkM m_RingDater_oddTimber = 1 ∧
  dM m_RingDater_oddTimber = 6 ∧
  lM m_RingDater_oddTimber = 5 ∧
  decode (cM m_RingDater_oddTimber) 0 = .ok (.iconst (-1), 1) ∧
  decode (cM m_RingDater_oddTimber) 1 = .ok (.istore_n 1, 1) ∧
  decode (cM m_RingDater_oddTimber) 2 = .ok (.iconst 0, 1) ∧
  decode (cM m_RingDater_oddTimber) 3 = .ok (.istore_n 2, 1) ∧
  decode (cM m_RingDater_oddTimber) 4 = .ok (.iconst 0, 1) ∧
  decode (cM m_RingDater_oddTimber) 5 = .ok (.istore_n 3, 1) ∧
  decode (cM m_RingDater_oddTimber) 6 = .ok (.iload_n 3, 1) ∧
  decode (cM m_RingDater_oddTimber) 7 = .ok (.aload_n 0, 1) ∧
  decode (cM m_RingDater_oddTimber) 8 = .ok (.getfield 54, 3) ∧
  fldT 11 54 = some (11, 6, 2) ∧
  decode (cM m_RingDater_oddTimber) 11 = .ok (.getfield 121, 3) ∧
  fldT 11 121 = some (8, 3, 0) ∧
  decode (cM m_RingDater_oddTimber) 14 = .ok (.if_icmp .ge 43, 3) ∧
  am_okt 14 43 ∧
  am_tgt 14 43 = 57 ∧
  decode (cM m_RingDater_oddTimber) 17 = .ok (.aload_n 0, 1) ∧
  decode (cM m_RingDater_oddTimber) 18 = .ok (.getfield 54, 3) ∧
  decode (cM m_RingDater_oddTimber) 21 = .ok (.iload_n 3, 1) ∧
  decode (cM m_RingDater_oddTimber) 22 = .ok (.invokevirtual 182, 3) ∧
  invT 11 182 = some (m_Stock_isDated, 0) ∧
  nM m_Stock_isDated = 2 ∧
  oM m_Stock_isDated = 8 ∧
  rkM m_Stock_isDated = 2 ∧
  dM m_Stock_isDated = 1 ∧
  decode (cM m_RingDater_oddTimber) 25 = .ok (.ifCond .eq 26, 3) ∧
  am_okt 25 26 ∧
  am_tgt 25 26 = 51 ∧
  decode (cM m_RingDater_oddTimber) 28 = .ok (.aload_n 0, 1) ∧
  decode (cM m_RingDater_oddTimber) 29 = .ok (.iload_n 3, 1) ∧
  decode (cM m_RingDater_oddTimber) 30 = .ok (.invokevirtual 212, 3) ∧
  invT 11 212 = some (m_RingDater_fitOf, 0) ∧
  nM m_RingDater_fitOf = 2 ∧
  oM m_RingDater_fitOf = 11 ∧
  rkM m_RingDater_fitOf = 1 ∧
  dM m_RingDater_fitOf = 5 ∧
  decode (cM m_RingDater_oddTimber) 33 = .ok (.istore 4, 2) ∧
  decode (cM m_RingDater_oddTimber) 35 = .ok (.iload_n 1, 1) ∧
  decode (cM m_RingDater_oddTimber) 36 = .ok (.iconst (-1), 1) ∧
  decode (cM m_RingDater_oddTimber) 37 = .ok (.if_icmp .eq 9, 3) ∧
  am_okt 37 9 ∧
  am_tgt 37 9 = 46 ∧
  decode (cM m_RingDater_oddTimber) 40 = .ok (.iload 4, 2) ∧
  decode (cM m_RingDater_oddTimber) 42 = .ok (.iload_n 2, 1) ∧
  decode (cM m_RingDater_oddTimber) 43 = .ok (.if_icmp .ge 8, 3) ∧
  am_okt 43 8 ∧
  am_tgt 43 8 = 51 ∧
  decode (cM m_RingDater_oddTimber) 46 = .ok (.iload_n 3, 1) ∧
  decode (cM m_RingDater_oddTimber) 47 = .ok (.istore_n 1, 1) ∧
  decode (cM m_RingDater_oddTimber) 48 = .ok (.iload 4, 2) ∧
  decode (cM m_RingDater_oddTimber) 50 = .ok (.istore_n 2, 1) ∧
  decode (cM m_RingDater_oddTimber) 51 = .ok (.iinc 3 1, 3) ∧
  decode (cM m_RingDater_oddTimber) 54 = .ok (.goto (-48), 3) ∧
  am_okt 54 (-48) ∧
  am_tgt 54 (-48) = 6 ∧
  decode (cM m_RingDater_oddTimber) 57 = .ok (.iload_n 1, 1) ∧
  decode (cM m_RingDater_oddTimber) 58 = .ok (.ireturn, 1) :=
  ⟨rfl, rfl, rfl, rfl, by decide +kernel, by decide +kernel, by decide +kernel, by decide +kernel, by decide +kernel, by decide +kernel, by decide +kernel, by decide +kernel, by decide +kernel, rfl, by decide +kernel, rfl, by decide +kernel, rfl, rfl, by decide +kernel, by decide +kernel, by decide +kernel, by decide +kernel, rfl, rfl, rfl, rfl, rfl, by decide +kernel, rfl, rfl, by decide +kernel, by decide +kernel, by decide +kernel, rfl, rfl, rfl, rfl, rfl, by decide +kernel, by decide +kernel, by decide +kernel, by decide +kernel, rfl, rfl, by decide +kernel, by decide +kernel, by decide +kernel, rfl, rfl, by decide +kernel, by decide +kernel, by decide +kernel, by decide +kernel, by decide +kernel, by decide +kernel, rfl, rfl, by decide +kernel, by decide +kernel⟩
set_option maxRecDepth 100000 in
set_option maxHeartbeats 4000000 in
theorem C_RingDater_fitOf : oM m_RingDater_fitOf = 11 ∧
  rkM m_RingDater_fitOf = 1 ∧
  dM m_RingDater_fitOf = 5 ∧
  lM m_RingDater_fitOf = 4 ∧
  decode (cM m_RingDater_fitOf) 0 = .ok (.aload_n 0, 1) ∧
  decode (cM m_RingDater_fitOf) 1 = .ok (.getfield 19, 3) ∧
  fldT 11 19 = some (11, 1, 2) ∧
  decode (cM m_RingDater_fitOf) 4 = .ok (.aload_n 0, 1) ∧
  decode (cM m_RingDater_fitOf) 5 = .ok (.getfield 54, 3) ∧
  fldT 11 54 = some (11, 6, 2) ∧
  decode (cM m_RingDater_fitOf) 8 = .ok (.aload_n 0, 1) ∧
  decode (cM m_RingDater_fitOf) 9 = .ok (.getfield 54, 3) ∧
  decode (cM m_RingDater_fitOf) 12 = .ok (.getfield 397, 3) ∧
  fldT 11 397 = some (8, 2, 2) ∧
  decode (cM m_RingDater_fitOf) 15 = .ok (.iload_n 1, 1) ∧
  decode (cM m_RingDater_fitOf) 16 = .ok (.invokevirtual 400, 3) ∧
  invT 11 400 = some (m_Bench_layChronology, 0) ∧
  nM m_Bench_layChronology = 4 ∧
  oM m_Bench_layChronology = 0 ∧
  rkM m_Bench_layChronology = 0 ∧
  dM m_Bench_layChronology = 3 ∧
  decode (cM m_RingDater_fitOf) 19 = .ok (.aload_n 0, 1) ∧
  decode (cM m_RingDater_fitOf) 20 = .ok (.getfield 19, 3) ∧
  decode (cM m_RingDater_fitOf) 23 = .ok (.getfield 138, 3) ∧
  fldT 11 138 = some (0, 7, 0) ∧
  decode (cM m_RingDater_fitOf) 26 = .ok (.iconst (-1), 1) ∧
  decode (cM m_RingDater_fitOf) 27 = .ok (.if_icmp .ne 5, 3) ∧
  am_okt 27 5 ∧
  am_tgt 27 5 = 32 ∧
  decode (cM m_RingDater_fitOf) 30 = .ok (.iconst 0, 1) ∧
  decode (cM m_RingDater_fitOf) 31 = .ok (.ireturn, 1) ∧
  decode (cM m_RingDater_fitOf) 32 = .ok (.aload_n 0, 1) ∧
  decode (cM m_RingDater_fitOf) 33 = .ok (.getfield 54, 3) ∧
  decode (cM m_RingDater_fitOf) 36 = .ok (.iload_n 1, 1) ∧
  decode (cM m_RingDater_fitOf) 37 = .ok (.invokevirtual 194, 3) ∧
  invT 11 194 = some (m_Stock_yearOf, 0) ∧
  nM m_Stock_yearOf = 2 ∧
  oM m_Stock_yearOf = 8 ∧
  rkM m_Stock_yearOf = 1 ∧
  dM m_Stock_yearOf = 0 ∧
  decode (cM m_RingDater_fitOf) 40 = .ok (.aload_n 0, 1) ∧
  decode (cM m_RingDater_fitOf) 41 = .ok (.getfield 19, 3) ∧
  decode (cM m_RingDater_fitOf) 44 = .ok (.getfield 138, 3) ∧
  decode (cM m_RingDater_fitOf) 47 = .ok (.isub, 1) ∧
  decode (cM m_RingDater_fitOf) 48 = .ok (.istore_n 2, 1) ∧
  decode (cM m_RingDater_fitOf) 49 = .ok (.aload_n 0, 1) ∧
  decode (cM m_RingDater_fitOf) 50 = .ok (.getfield 19, 3) ∧
  decode (cM m_RingDater_fitOf) 53 = .ok (.aload_n 0, 1) ∧
  decode (cM m_RingDater_fitOf) 54 = .ok (.getfield 54, 3) ∧
  decode (cM m_RingDater_fitOf) 57 = .ok (.iload_n 1, 1) ∧
  decode (cM m_RingDater_fitOf) 58 = .ok (.invokevirtual 178, 3) ∧
  invT 11 178 = some (m_Stock_timberAt, 0) ∧
  nM m_Stock_timberAt = 2 ∧
  oM m_Stock_timberAt = 8 ∧
  rkM m_Stock_timberAt = 3 ∧
  dM m_Stock_timberAt = 1 ∧
  decode (cM m_RingDater_fitOf) 61 = .ok (.iload_n 2, 1) ∧
  decode (cM m_RingDater_fitOf) 62 = .ok (.invokevirtual 414, 3) ∧
  invT 11 414 = some (m_Bench_slideAlongChronology, 0) ∧
  nM m_Bench_slideAlongChronology = 3 ∧
  oM m_Bench_slideAlongChronology = 0 ∧
  rkM m_Bench_slideAlongChronology = 3 ∧
  dM m_Bench_slideAlongChronology = 4 ∧
  decode (cM m_RingDater_fitOf) 65 = .ok (.astore_n 3, 1) ∧
  decode (cM m_RingDater_fitOf) 66 = .ok (.aload_n 3, 1) ∧
  decode (cM m_RingDater_fitOf) 67 = .ok (.getfield 269, 3) ∧
  fldT 11 269 = some (7, 0, 0) ∧
  decode (cM m_RingDater_fitOf) 70 = .ok (.iconst 1, 1) ∧
  decode (cM m_RingDater_fitOf) 71 = .ok (.if_icmp .ge 7, 3) ∧
  am_okt 71 7 ∧
  am_tgt 71 7 = 78 ∧
  decode (cM m_RingDater_fitOf) 74 = .ok (.iconst 0, 1) ∧
  decode (cM m_RingDater_fitOf) 75 = .ok (.goto 7, 3) ∧
  am_okt 75 7 ∧
  am_tgt 75 7 = 82 ∧
  decode (cM m_RingDater_fitOf) 78 = .ok (.aload_n 3, 1) ∧
  decode (cM m_RingDater_fitOf) 79 = .ok (.getfield 274, 3) ∧
  fldT 11 274 = some (7, 3, 0) ∧
  decode (cM m_RingDater_fitOf) 82 = .ok (.ireturn, 1) :=
  ⟨rfl, rfl, rfl, rfl, by decide +kernel, by decide +kernel, rfl, by decide +kernel, by decide +kernel, rfl, by decide +kernel, by decide +kernel, by decide +kernel, rfl, by decide +kernel, by decide +kernel, rfl, rfl, rfl, rfl, rfl, by decide +kernel, by decide +kernel, by decide +kernel, rfl, by decide +kernel, by decide +kernel, rfl, rfl, by decide +kernel, by decide +kernel, by decide +kernel, by decide +kernel, by decide +kernel, by decide +kernel, rfl, rfl, rfl, rfl, rfl, by decide +kernel, by decide +kernel, by decide +kernel, by decide +kernel, by decide +kernel, by decide +kernel, by decide +kernel, by decide +kernel, by decide +kernel, by decide +kernel, by decide +kernel, rfl, rfl, rfl, rfl, rfl, by decide +kernel, by decide +kernel, rfl, rfl, rfl, rfl, rfl, by decide +kernel, by decide +kernel, by decide +kernel, rfl, by decide +kernel, by decide +kernel, rfl, rfl, by decide +kernel, by decide +kernel, rfl, rfl, by decide +kernel, by decide +kernel, rfl, by decide +kernel⟩
set_option maxRecDepth 100000 in
set_option maxHeartbeats 4000000 in
theorem C_RingDater_timber : oM m_RingDater_timber = 11 ∧
  rkM m_RingDater_timber = 1 ∧
  dM m_RingDater_timber = 7 ∧
  lM m_RingDater_timber = 5 ∧
  decode (cM m_RingDater_timber) 0 = .ok (.aload_n 0, 1) ∧
  decode (cM m_RingDater_timber) 1 = .ok (.getfield 54, 3) ∧
  fldT 11 54 = some (11, 6, 2) ∧
  decode (cM m_RingDater_timber) 4 = .ok (.iload_n 1, 1) ∧
  decode (cM m_RingDater_timber) 5 = .ok (.invokevirtual 174, 3) ∧
  invT 11 174 = some (m_Stock_has, 0) ∧
  nM m_Stock_has = 2 ∧
  oM m_Stock_has = 8 ∧
  rkM m_Stock_has = 2 ∧
  dM m_Stock_has = 0 ∧
  decode (cM m_RingDater_timber) 8 = .ok (.ifCond .ne 11, 3) ∧
  am_okt 8 11 ∧
  am_tgt 8 11 = 19 ∧
  decode (cM m_RingDater_timber) 11 = .ok (.new 171, 3) ∧
  excT 11 171 = some (0, 173) ∧
  decode (cM m_RingDater_timber) 14 = .ok (.dup, 1) ∧
  decode (cM m_RingDater_timber) 15 = .ok (.invokespecial 173, 3) ∧
  decode (cM m_RingDater_timber) 18 = .ok (.athrow, 1) ∧
  decode (cM m_RingDater_timber) 19 = .ok (.aload_n 0, 1) ∧
  decode (cM m_RingDater_timber) 20 = .ok (.getfield 54, 3) ∧
  decode (cM m_RingDater_timber) 23 = .ok (.iload_n 1, 1) ∧
  decode (cM m_RingDater_timber) 24 = .ok (.invokevirtual 178, 3) ∧
  invT 11 178 = some (m_Stock_timberAt, 0) ∧
  nM m_Stock_timberAt = 2 ∧
  oM m_Stock_timberAt = 8 ∧
  rkM m_Stock_timberAt = 3 ∧
  dM m_Stock_timberAt = 1 ∧
  decode (cM m_RingDater_timber) 27 = .ok (.astore_n 3, 1) ∧
  decode (cM m_RingDater_timber) 28 = .ok (.aload_n 0, 1) ∧
  decode (cM m_RingDater_timber) 29 = .ok (.getfield 54, 3) ∧
  decode (cM m_RingDater_timber) 32 = .ok (.iload_n 1, 1) ∧
  decode (cM m_RingDater_timber) 33 = .ok (.invokevirtual 182, 3) ∧
  invT 11 182 = some (m_Stock_isDated, 0) ∧
  nM m_Stock_isDated = 2 ∧
  oM m_Stock_isDated = 8 ∧
  rkM m_Stock_isDated = 2 ∧
  dM m_Stock_isDated = 1 ∧
  decode (cM m_RingDater_timber) 36 = .ok (.istore 4, 2) ∧
  decode (cM m_RingDater_timber) 38 = .ok (.iload_n 2, 1) ∧
  decode (cM m_RingDater_timber) 39 = .ok (.tableswitch 194 0 12 #[65, 70, 75, 80, 91, 100, 105, 114, 123, 141, 159, 174, 179], 65) ∧
  am_okt 39 194 ∧
  am_tgt 39 194 = 233 ∧
  am_okt 39 65 ∧
  am_tgt 39 65 = 104 ∧
  am_okt 39 70 ∧
  am_tgt 39 70 = 109 ∧
  am_okt 39 75 ∧
  am_tgt 39 75 = 114 ∧
  am_okt 39 80 ∧
  am_tgt 39 80 = 119 ∧
  am_okt 39 91 ∧
  am_tgt 39 91 = 130 ∧
  am_okt 39 100 ∧
  am_tgt 39 100 = 139 ∧
  am_okt 39 105 ∧
  am_tgt 39 105 = 144 ∧
  am_okt 39 114 ∧
  am_tgt 39 114 = 153 ∧
  am_okt 39 123 ∧
  am_tgt 39 123 = 162 ∧
  am_okt 39 141 ∧
  am_tgt 39 141 = 180 ∧
  am_okt 39 159 ∧
  am_tgt 39 159 = 198 ∧
  am_okt 39 174 ∧
  am_tgt 39 174 = 213 ∧
  am_okt 39 179 ∧
  am_tgt 39 179 = 218 ∧
  decode (cM m_RingDater_timber) 104 = .ok (.aload_n 3, 1) ∧
  decode (cM m_RingDater_timber) 105 = .ok (.getfield 185, 3) ∧
  fldT 11 185 = some (9, 2, 0) ∧
  decode (cM m_RingDater_timber) 108 = .ok (.ireturn, 1) ∧
  decode (cM m_RingDater_timber) 109 = .ok (.aload_n 3, 1) ∧
  decode (cM m_RingDater_timber) 110 = .ok (.getfield 188, 3) ∧
  fldT 11 188 = some (9, 3, 0) ∧
  decode (cM m_RingDater_timber) 113 = .ok (.ireturn, 1) ∧
  decode (cM m_RingDater_timber) 114 = .ok (.aload_n 3, 1) ∧
  decode (cM m_RingDater_timber) 115 = .ok (.getfield 191, 3) ∧
  fldT 11 191 = some (9, 4, 0) ∧
  decode (cM m_RingDater_timber) 118 = .ok (.ireturn, 1) ∧
  decode (cM m_RingDater_timber) 119 = .ok (.iload 4, 2) ∧
  decode (cM m_RingDater_timber) 121 = .ok (.ifCond .eq 7, 3) ∧
  am_okt 121 7 ∧
  am_tgt 121 7 = 128 ∧
  decode (cM m_RingDater_timber) 124 = .ok (.iconst 1, 1) ∧
  decode (cM m_RingDater_timber) 125 = .ok (.goto 4, 3) ∧
  am_okt 125 4 ∧
  am_tgt 125 4 = 129 ∧
  decode (cM m_RingDater_timber) 128 = .ok (.iconst 0, 1) ∧
  decode (cM m_RingDater_timber) 129 = .ok (.ireturn, 1) ∧
  decode (cM m_RingDater_timber) 130 = .ok (.aload_n 0, 1) ∧
  decode (cM m_RingDater_timber) 131 = .ok (.getfield 54, 3) ∧
  decode (cM m_RingDater_timber) 134 = .ok (.iload_n 1, 1) ∧
  decode (cM m_RingDater_timber) 135 = .ok (.invokevirtual 194, 3) ∧
  invT 11 194 = some (m_Stock_yearOf, 0) ∧
  nM m_Stock_yearOf = 2 ∧
  oM m_Stock_yearOf = 8 ∧
  rkM m_Stock_yearOf = 1 ∧
  dM m_Stock_yearOf = 0 ∧
  decode (cM m_RingDater_timber) 138 = .ok (.ireturn, 1) ∧
  decode (cM m_RingDater_timber) 139 = .ok (.aload_n 3, 1) ∧
  decode (cM m_RingDater_timber) 140 = .ok (.invokevirtual 197, 3) ∧
  invT 11 197 = some (m_Timber_countDoubtful, 0) ∧
  nM m_Timber_countDoubtful = 1 ∧
  oM m_Timber_countDoubtful = 9 ∧
  rkM m_Timber_countDoubtful = 1 ∧
  dM m_Timber_countDoubtful = 1 ∧
  decode (cM m_RingDater_timber) 143 = .ok (.ireturn, 1) ∧
  decode (cM m_RingDater_timber) 144 = .ok (.aload_n 0, 1) ∧
  decode (cM m_RingDater_timber) 145 = .ok (.invokevirtual 144, 3) ∧
  invT 11 144 = some (m_RingDater_spunWeb, 0) ∧
  nM m_RingDater_spunWeb = 1 ∧
  oM m_RingDater_spunWeb = 11 ∧
  rkM m_RingDater_spunWeb = 3 ∧
  dM m_RingDater_spunWeb = 6 ∧
  decode (cM m_RingDater_timber) 148 = .ok (.iload_n 1, 1) ∧
  decode (cM m_RingDater_timber) 149 = .ok (.invokevirtual 200, 3) ∧
  invT 11 200 = some (m_Web_leastOfPiece, 0) ∧
  nM m_Web_leastOfPiece = 2 ∧
  oM m_Web_leastOfPiece = 10 ∧
  rkM m_Web_leastOfPiece = 1 ∧
  dM m_Web_leastOfPiece = 0 ∧
  decode (cM m_RingDater_timber) 152 = .ok (.ireturn, 1) ∧
  decode (cM m_RingDater_timber) 153 = .ok (.aload_n 0, 1) ∧
  decode (cM m_RingDater_timber) 154 = .ok (.invokevirtual 144, 3) ∧
  decode (cM m_RingDater_timber) 157 = .ok (.iload_n 1, 1) ∧
  decode (cM m_RingDater_timber) 158 = .ok (.invokevirtual 203, 3) ∧
  invT 11 203 = some (m_Web_placeOf, 0) ∧
  nM m_Web_placeOf = 2 ∧
  oM m_Web_placeOf = 10 ∧
  rkM m_Web_placeOf = 1 ∧
  dM m_Web_placeOf = 0 ∧
  decode (cM m_RingDater_timber) 161 = .ok (.ireturn, 1) ∧
  decode (cM m_RingDater_timber) 162 = .ok (.iload 4, 2) ∧
  decode (cM m_RingDater_timber) 164 = .ok (.ifCond .eq 14, 3) ∧
  am_okt 164 14 ∧
  am_tgt 164 14 = 178 ∧
  decode (cM m_RingDater_timber) 167 = .ok (.aload_n 0, 1) ∧
  decode (cM m_RingDater_timber) 168 = .ok (.getfield 54, 3) ∧
  decode (cM m_RingDater_timber) 171 = .ok (.iload_n 1, 1) ∧
  decode (cM m_RingDater_timber) 172 = .ok (.invokevirtual 206, 3) ∧
  invT 11 206 = some (m_Stock_felledFrom, 0) ∧
  nM m_Stock_felledFrom = 2 ∧
  oM m_Stock_felledFrom = 8 ∧
  rkM m_Stock_felledFrom = 1 ∧
  dM m_Stock_felledFrom = 2 ∧
  decode (cM m_RingDater_timber) 175 = .ok (.goto 4, 3) ∧
  am_okt 175 4 ∧
  am_tgt 175 4 = 179 ∧
  decode (cM m_RingDater_timber) 178 = .ok (.iconst (-1), 1) ∧
  decode (cM m_RingDater_timber) 179 = .ok (.ireturn, 1) ∧
  decode (cM m_RingDater_timber) 180 = .ok (.iload 4, 2) ∧
  decode (cM m_RingDater_timber) 182 = .ok (.ifCond .eq 14, 3) ∧
  am_okt 182 14 ∧
  am_tgt 182 14 = 196 ∧
  decode (cM m_RingDater_timber) 185 = .ok (.aload_n 0, 1) ∧
  decode (cM m_RingDater_timber) 186 = .ok (.getfield 54, 3) ∧
  decode (cM m_RingDater_timber) 189 = .ok (.iload_n 1, 1) ∧
  decode (cM m_RingDater_timber) 190 = .ok (.invokevirtual 209, 3) ∧
  invT 11 209 = some (m_Stock_felledUntil, 0) ∧
  nM m_Stock_felledUntil = 2 ∧
  oM m_Stock_felledUntil = 8 ∧
  rkM m_Stock_felledUntil = 1 ∧
  dM m_Stock_felledUntil = 2 ∧
  decode (cM m_RingDater_timber) 193 = .ok (.goto 4, 3) ∧
  am_okt 193 4 ∧
  am_tgt 193 4 = 197 ∧
  decode (cM m_RingDater_timber) 196 = .ok (.iconst (-1), 1) ∧
  decode (cM m_RingDater_timber) 197 = .ok (.ireturn, 1) ∧
  decode (cM m_RingDater_timber) 198 = .ok (.iload 4, 2) ∧
  decode (cM m_RingDater_timber) 200 = .ok (.ifCond .eq 11, 3) ∧
  am_okt 200 11 ∧
  am_tgt 200 11 = 211 ∧
  decode (cM m_RingDater_timber) 203 = .ok (.aload_n 0, 1) ∧
  decode (cM m_RingDater_timber) 204 = .ok (.iload_n 1, 1) ∧
  decode (cM m_RingDater_timber) 205 = .ok (.invokevirtual 212, 3) ∧
  invT 11 212 = some (m_RingDater_fitOf, 0) ∧
  nM m_RingDater_fitOf = 2 ∧
  oM m_RingDater_fitOf = 11 ∧
  rkM m_RingDater_fitOf = 1 ∧
  dM m_RingDater_fitOf = 5 ∧
  decode (cM m_RingDater_timber) 208 = .ok (.goto 4, 3) ∧
  am_okt 208 4 ∧
  am_tgt 208 4 = 212 ∧
  decode (cM m_RingDater_timber) 211 = .ok (.iconst (-1), 1) ∧
  decode (cM m_RingDater_timber) 212 = .ok (.ireturn, 1) ∧
  decode (cM m_RingDater_timber) 213 = .ok (.aload_n 3, 1) ∧
  decode (cM m_RingDater_timber) 214 = .ok (.getfield 215, 3) ∧
  fldT 11 215 = some (9, 5, 0) ∧
  decode (cM m_RingDater_timber) 217 = .ok (.ireturn, 1) ∧
  decode (cM m_RingDater_timber) 218 = .ok (.iload 4, 2) ∧
  decode (cM m_RingDater_timber) 220 = .ok (.ifCond .eq 7, 3) ∧
  am_okt 220 7 ∧
  am_tgt 220 7 = 227 ∧
  decode (cM m_RingDater_timber) 223 = .ok (.iconst (-1), 1) ∧
  decode (cM m_RingDater_timber) 224 = .ok (.goto 8, 3) ∧
  am_okt 224 8 ∧
  am_tgt 224 8 = 232 ∧
  decode (cM m_RingDater_timber) 227 = .ok (.aload_n 0, 1) ∧
  decode (cM m_RingDater_timber) 228 = .ok (.iload_n 1, 1) ∧
  decode (cM m_RingDater_timber) 229 = .ok (.invokevirtual 218, 3) ∧
  invT 11 218 = some (m_RingDater_whyUnsettled, 0) ∧
  nM m_RingDater_whyUnsettled = 2 ∧
  oM m_RingDater_whyUnsettled = 11 ∧
  rkM m_RingDater_whyUnsettled = 1 ∧
  dM m_RingDater_whyUnsettled = 6 ∧
  decode (cM m_RingDater_timber) 232 = .ok (.ireturn, 1) ∧
  decode (cM m_RingDater_timber) 233 = .ok (.new 171, 3) ∧
  decode (cM m_RingDater_timber) 236 = .ok (.dup, 1) ∧
  decode (cM m_RingDater_timber) 237 = .ok (.invokespecial 173, 3) ∧
  decode (cM m_RingDater_timber) 240 = .ok (.athrow, 1) :=
  ⟨rfl, rfl, rfl, rfl, by decide +kernel, by decide +kernel, rfl, by decide +kernel, by decide +kernel, rfl, rfl, rfl, rfl, rfl, by decide +kernel, rfl, rfl, by decide +kernel, rfl, by decide +kernel, by decide +kernel, by decide +kernel, by decide +kernel, by decide +kernel, by decide +kernel, by decide +kernel, rfl, rfl, rfl, rfl, rfl, by decide +kernel, by decide +kernel, by decide +kernel, by decide +kernel, by decide +kernel, rfl, rfl, rfl, rfl, rfl, by decide +kernel, by decide +kernel, by decide +kernel, rfl, rfl, rfl, rfl, rfl, rfl, rfl, rfl, rfl, rfl, rfl, rfl, rfl, rfl, rfl, rfl, rfl, rfl, rfl, rfl, rfl, rfl, rfl, rfl, rfl, rfl, rfl, rfl, by decide +kernel, by decide +kernel, rfl, by decide +kernel, by decide +kernel, by decide +kernel, rfl, by decide +kernel, by decide +kernel, by decide +kernel, rfl, by decide +kernel, by decide +kernel, by decide +kernel, rfl, rfl, by decide +kernel, by decide +kernel, rfl, rfl, by decide +kernel, by decide +kernel, by decide +kernel, by decide +kernel, by decide +kernel, by decide +kernel, rfl, rfl, rfl, rfl, rfl, by decide +kernel, by decide +kernel, by decide +kernel, rfl, rfl, rfl, rfl, rfl, by decide +kernel, by decide +kernel, by decide +kernel, rfl, rfl, rfl, rfl, rfl, by decide +kernel, by decide +kernel, rfl, rfl, rfl, rfl, rfl, by decide +kernel, by decide +kernel, by decide +kernel, by decide +kernel, by decide +kernel, rfl, rfl, rfl, rfl, rfl, by decide +kernel, by decide +kernel, by decide +kernel, rfl, rfl, by decide +kernel, by decide +kernel, by decide +kernel, by decide +kernel, rfl, rfl, rfl, rfl, rfl, by decide +kernel, rfl, rfl, by decide +kernel, by decide +kernel, by decide +kernel, by decide +kernel, rfl, rfl, by decide +kernel, by decide +kernel, by decide +kernel, by decide +kernel, rfl, rfl, rfl, rfl, rfl, by decide +kernel, rfl, rfl, by decide +kernel, by decide +kernel, by decide +kernel, by decide +kernel, rfl, rfl, by decide +kernel, by decide +kernel, by decide +kernel, rfl, rfl, rfl, rfl, rfl, by decide +kernel, rfl, rfl, by decide +kernel, by decide +kernel, by decide +kernel, by decide +kernel, rfl, by decide +kernel, by decide +kernel, by decide +kernel, rfl, rfl, by decide +kernel, by decide +kernel, rfl, rfl, by decide +kernel, by decide +kernel, by decide +kernel, rfl, rfl, rfl, rfl, rfl, by decide +kernel, by decide +kernel, by decide +kernel, by decide +kernel, by decide +kernel⟩
set_option maxRecDepth 100000 in
set_option maxHeartbeats 4000000 in
theorem C_RingDater_house : oM m_RingDater_house = 11 ∧
  rkM m_RingDater_house = 1 ∧
  dM m_RingDater_house = 6 ∧
  lM m_RingDater_house = 3 ∧
  decode (cM m_RingDater_house) 0 = .ok (.iload_n 1, 1) ∧
  decode (cM m_RingDater_house) 1 = .ok (.ifCond .lt 8, 3) ∧
  am_okt 1 8 ∧
  am_tgt 1 8 = 9 ∧
  decode (cM m_RingDater_house) 4 = .ok (.iload_n 1, 1) ∧
  decode (cM m_RingDater_house) 5 = .ok (.iconst 3, 1) ∧
  decode (cM m_RingDater_house) 6 = .ok (.if_icmp .le 11, 3) ∧
  am_okt 6 11 ∧
  am_tgt 6 11 = 17 ∧
  decode (cM m_RingDater_house) 9 = .ok (.new 171, 3) ∧
  excT 11 171 = some (0, 173) ∧
  decode (cM m_RingDater_house) 12 = .ok (.dup, 1) ∧
  decode (cM m_RingDater_house) 13 = .ok (.invokespecial 173, 3) ∧
  decode (cM m_RingDater_house) 16 = .ok (.athrow, 1) ∧
  decode (cM m_RingDater_house) 17 = .ok (.iload_n 2, 1) ∧
  decode (cM m_RingDater_house) 18 = .ok (.tableswitch 66 0 3 #[30, 39, 48, 57], 30) ∧
  am_okt 18 66 ∧
  am_tgt 18 66 = 84 ∧
  am_okt 18 30 ∧
  am_tgt 18 30 = 48 ∧
  am_okt 18 39 ∧
  am_tgt 18 39 = 57 ∧
  am_okt 18 48 ∧
  am_tgt 18 48 = 66 ∧
  am_okt 18 57 ∧
  am_tgt 18 57 = 75 ∧
  decode (cM m_RingDater_house) 48 = .ok (.aload_n 0, 1) ∧
  decode (cM m_RingDater_house) 49 = .ok (.getfield 54, 3) ∧
  fldT 11 54 = some (11, 6, 2) ∧
  decode (cM m_RingDater_house) 52 = .ok (.iload_n 1, 1) ∧
  decode (cM m_RingDater_house) 53 = .ok (.invokevirtual 221, 3) ∧
  invT 11 221 = some (m_Stock_bitsOfHouse, 0) ∧
  nM m_Stock_bitsOfHouse = 2 ∧
  oM m_Stock_bitsOfHouse = 8 ∧
  rkM m_Stock_bitsOfHouse = 1 ∧
  dM m_Stock_bitsOfHouse = 2 ∧
  decode (cM m_RingDater_house) 56 = .ok (.ireturn, 1) ∧
  decode (cM m_RingDater_house) 57 = .ok (.aload_n 0, 1) ∧
  decode (cM m_RingDater_house) 58 = .ok (.getfield 54, 3) ∧
  decode (cM m_RingDater_house) 61 = .ok (.iload_n 1, 1) ∧
  decode (cM m_RingDater_house) 62 = .ok (.invokevirtual 224, 3) ∧
  invT 11 224 = some (m_Stock_edgeOfHouse, 0) ∧
  nM m_Stock_edgeOfHouse = 2 ∧
  oM m_Stock_edgeOfHouse = 8 ∧
  rkM m_Stock_edgeOfHouse = 1 ∧
  dM m_Stock_edgeOfHouse = 3 ∧
  decode (cM m_RingDater_house) 65 = .ok (.ireturn, 1) ∧
  decode (cM m_RingDater_house) 66 = .ok (.aload_n 0, 1) ∧
  decode (cM m_RingDater_house) 67 = .ok (.getfield 54, 3) ∧
  decode (cM m_RingDater_house) 70 = .ok (.iload_n 1, 1) ∧
  decode (cM m_RingDater_house) 71 = .ok (.invokevirtual 227, 3) ∧
  invT 11 227 = some (m_Stock_latestOfHouse, 0) ∧
  nM m_Stock_latestOfHouse = 2 ∧
  oM m_Stock_latestOfHouse = 8 ∧
  rkM m_Stock_latestOfHouse = 1 ∧
  dM m_Stock_latestOfHouse = 5 ∧
  decode (cM m_RingDater_house) 74 = .ok (.ireturn, 1) ∧
  decode (cM m_RingDater_house) 75 = .ok (.aload_n 0, 1) ∧
  decode (cM m_RingDater_house) 76 = .ok (.getfield 54, 3) ∧
  decode (cM m_RingDater_house) 79 = .ok (.iload_n 1, 1) ∧
  decode (cM m_RingDater_house) 80 = .ok (.invokevirtual 230, 3) ∧
  invT 11 230 = some (m_Stock_reusedOfHouse, 0) ∧
  nM m_Stock_reusedOfHouse = 2 ∧
  oM m_Stock_reusedOfHouse = 8 ∧
  rkM m_Stock_reusedOfHouse = 1 ∧
  dM m_Stock_reusedOfHouse = 4 ∧
  decode (cM m_RingDater_house) 83 = .ok (.ireturn, 1) ∧
  decode (cM m_RingDater_house) 84 = .ok (.new 171, 3) ∧
  decode (cM m_RingDater_house) 87 = .ok (.dup, 1) ∧
  decode (cM m_RingDater_house) 88 = .ok (.invokespecial 173, 3) ∧
  decode (cM m_RingDater_house) 91 = .ok (.athrow, 1) :=
  ⟨rfl, rfl, rfl, rfl, by decide +kernel, by decide +kernel, rfl, rfl, by decide +kernel, by decide +kernel, by decide +kernel, rfl, rfl, by decide +kernel, rfl, by decide +kernel, by decide +kernel, by decide +kernel, by decide +kernel, by decide +kernel, rfl, rfl, rfl, rfl, rfl, rfl, rfl, rfl, rfl, rfl, by decide +kernel, by decide +kernel, rfl, by decide +kernel, by decide +kernel, rfl, rfl, rfl, rfl, rfl, by decide +kernel, by decide +kernel, by decide +kernel, by decide +kernel, by decide +kernel, rfl, rfl, rfl, rfl, rfl, by decide +kernel, by decide +kernel, by decide +kernel, by decide +kernel, by decide +kernel, rfl, rfl, rfl, rfl, rfl, by decide +kernel, by decide +kernel, by decide +kernel, by decide +kernel, by decide +kernel, rfl, rfl, rfl, rfl, rfl, by decide +kernel, by decide +kernel, by decide +kernel, by decide +kernel, by decide +kernel⟩
set_option maxRecDepth 100000 in
set_option maxHeartbeats 4000000 in
theorem C_RingDater_ring : oM m_RingDater_ring = 11 ∧
  rkM m_RingDater_ring = 1 ∧
  dM m_RingDater_ring = 5 ∧
  lM m_RingDater_ring = 5 ∧
  decode (cM m_RingDater_ring) 0 = .ok (.aload_n 0, 1) ∧
  decode (cM m_RingDater_ring) 1 = .ok (.getfield 54, 3) ∧
  fldT 11 54 = some (11, 6, 2) ∧
  decode (cM m_RingDater_ring) 4 = .ok (.iload_n 1, 1) ∧
  decode (cM m_RingDater_ring) 5 = .ok (.invokevirtual 174, 3) ∧
  invT 11 174 = some (m_Stock_has, 0) ∧
  nM m_Stock_has = 2 ∧
  oM m_Stock_has = 8 ∧
  rkM m_Stock_has = 2 ∧
  dM m_Stock_has = 0 ∧
  decode (cM m_RingDater_ring) 8 = .ok (.ifCond .eq 18, 3) ∧
  am_okt 8 18 ∧
  am_tgt 8 18 = 26 ∧
  decode (cM m_RingDater_ring) 11 = .ok (.aload_n 0, 1) ∧
  decode (cM m_RingDater_ring) 12 = .ok (.getfield 54, 3) ∧
  decode (cM m_RingDater_ring) 15 = .ok (.iload_n 1, 1) ∧
  decode (cM m_RingDater_ring) 16 = .ok (.invokevirtual 178, 3) ∧
  invT 11 178 = some (m_Stock_timberAt, 0) ∧
  nM m_Stock_timberAt = 2 ∧
  oM m_Stock_timberAt = 8 ∧
  rkM m_Stock_timberAt = 3 ∧
  dM m_Stock_timberAt = 1 ∧
  decode (cM m_RingDater_ring) 19 = .ok (.iload_n 2, 1) ∧
  decode (cM m_RingDater_ring) 20 = .ok (.invokevirtual 233, 3) ∧
  invT 11 233 = some (m_Timber_has, 0) ∧
  nM m_Timber_has = 2 ∧
  oM m_Timber_has = 9 ∧
  rkM m_Timber_has = 2 ∧
  dM m_Timber_has = 0 ∧
  decode (cM m_RingDater_ring) 23 = .ok (.ifCond .ne 11, 3) ∧
  am_okt 23 11 ∧
  am_tgt 23 11 = 34 ∧
  decode (cM m_RingDater_ring) 26 = .ok (.new 171, 3) ∧
  excT 11 171 = some (0, 173) ∧
  decode (cM m_RingDater_ring) 29 = .ok (.dup, 1) ∧
  decode (cM m_RingDater_ring) 30 = .ok (.invokespecial 173, 3) ∧
  decode (cM m_RingDater_ring) 33 = .ok (.athrow, 1) ∧
  decode (cM m_RingDater_ring) 34 = .ok (.aload_n 0, 1) ∧
  decode (cM m_RingDater_ring) 35 = .ok (.getfield 54, 3) ∧
  decode (cM m_RingDater_ring) 38 = .ok (.iload_n 1, 1) ∧
  decode (cM m_RingDater_ring) 39 = .ok (.invokevirtual 178, 3) ∧
  decode (cM m_RingDater_ring) 42 = .ok (.astore 4, 2) ∧
  decode (cM m_RingDater_ring) 44 = .ok (.iload_n 3, 1) ∧
  decode (cM m_RingDater_ring) 45 = .ok (.tableswitch 86 0 3 #[31, 38, 53, 72], 31) ∧
  am_okt 45 86 ∧
  am_tgt 45 86 = 131 ∧
  am_okt 45 31 ∧
  am_tgt 45 31 = 76 ∧
  am_okt 45 38 ∧
  am_tgt 45 38 = 83 ∧
  am_okt 45 53 ∧
  am_tgt 45 53 = 98 ∧
  am_okt 45 72 ∧
  am_tgt 45 72 = 117 ∧
  decode (cM m_RingDater_ring) 76 = .ok (.aload 4, 2) ∧
  decode (cM m_RingDater_ring) 78 = .ok (.iload_n 2, 1) ∧
  decode (cM m_RingDater_ring) 79 = .ok (.invokevirtual 234, 3) ∧
  invT 11 234 = some (m_Timber_widthOf, 0) ∧
  nM m_Timber_widthOf = 2 ∧
  oM m_Timber_widthOf = 9 ∧
  rkM m_Timber_widthOf = 1 ∧
  dM m_Timber_widthOf = 0 ∧
  decode (cM m_RingDater_ring) 82 = .ok (.ireturn, 1) ∧
  decode (cM m_RingDater_ring) 83 = .ok (.aload 4, 2) ∧
  decode (cM m_RingDater_ring) 85 = .ok (.iload_n 2, 1) ∧
  decode (cM m_RingDater_ring) 86 = .ok (.invokevirtual 237, 3) ∧
  invT 11 237 = some (m_Timber_isDoubtful, 0) ∧
  nM m_Timber_isDoubtful = 2 ∧
  oM m_Timber_isDoubtful = 9 ∧
  rkM m_Timber_isDoubtful = 2 ∧
  dM m_Timber_isDoubtful = 0 ∧
  decode (cM m_RingDater_ring) 89 = .ok (.ifCond .eq 7, 3) ∧
  am_okt 89 7 ∧
  am_tgt 89 7 = 96 ∧
  decode (cM m_RingDater_ring) 92 = .ok (.iconst 1, 1) ∧
  decode (cM m_RingDater_ring) 93 = .ok (.goto 4, 3) ∧
  am_okt 93 4 ∧
  am_tgt 93 4 = 97 ∧
  decode (cM m_RingDater_ring) 96 = .ok (.iconst 0, 1) ∧
  decode (cM m_RingDater_ring) 97 = .ok (.ireturn, 1) ∧
  decode (cM m_RingDater_ring) 98 = .ok (.iload_n 2, 1) ∧
  decode (cM m_RingDater_ring) 99 = .ok (.ifCond .ne 11, 3) ∧
  am_okt 99 11 ∧
  am_tgt 99 11 = 110 ∧
  decode (cM m_RingDater_ring) 102 = .ok (.new 171, 3) ∧
  decode (cM m_RingDater_ring) 105 = .ok (.dup, 1) ∧
  decode (cM m_RingDater_ring) 106 = .ok (.invokespecial 173, 3) ∧
  decode (cM m_RingDater_ring) 109 = .ok (.athrow, 1) ∧
  decode (cM m_RingDater_ring) 110 = .ok (.aload 4, 2) ∧
  decode (cM m_RingDater_ring) 112 = .ok (.iload_n 2, 1) ∧
  decode (cM m_RingDater_ring) 113 = .ok (.invokevirtual 240, 3) ∧
  invT 11 240 = some (m_Timber_stepOf, 0) ∧
  nM m_Timber_stepOf = 2 ∧
  oM m_Timber_stepOf = 9 ∧
  rkM m_Timber_stepOf = 1 ∧
  dM m_Timber_stepOf = 1 ∧
  decode (cM m_RingDater_ring) 116 = .ok (.ireturn, 1) ∧
  decode (cM m_RingDater_ring) 117 = .ok (.aload_n 0, 1) ∧
  decode (cM m_RingDater_ring) 118 = .ok (.getfield 19, 3) ∧
  fldT 11 19 = some (11, 1, 2) ∧
  decode (cM m_RingDater_ring) 121 = .ok (.aload 4, 2) ∧
  decode (cM m_RingDater_ring) 123 = .ok (.invokevirtual 243, 3) ∧
  invT 11 243 = some (m_Bench_laidOut, 0) ∧
  nM m_Bench_laidOut = 2 ∧
  oM m_Bench_laidOut = 0 ∧
  rkM m_Bench_laidOut = 3 ∧
  dM m_Bench_laidOut = 4 ∧
  decode (cM m_RingDater_ring) 126 = .ok (.iload_n 2, 1) ∧
  decode (cM m_RingDater_ring) 127 = .ok (.invokevirtual 247, 3) ∧
  invT 11 247 = some (m_Row_rankAt, 0) ∧
  nM m_Row_rankAt = 2 ∧
  oM m_Row_rankAt = 6 ∧
  rkM m_Row_rankAt = 1 ∧
  dM m_Row_rankAt = 0 ∧
  decode (cM m_RingDater_ring) 130 = .ok (.ireturn, 1) ∧
  decode (cM m_RingDater_ring) 131 = .ok (.new 171, 3) ∧
  decode (cM m_RingDater_ring) 134 = .ok (.dup, 1) ∧
  decode (cM m_RingDater_ring) 135 = .ok (.invokespecial 173, 3) ∧
  decode (cM m_RingDater_ring) 138 = .ok (.athrow, 1) :=
  ⟨rfl, rfl, rfl, rfl, by decide +kernel, by decide +kernel, rfl, by decide +kernel, by decide +kernel, rfl, rfl, rfl, rfl, rfl, by decide +kernel, rfl, rfl, by decide +kernel, by decide +kernel, by decide +kernel, by decide +kernel, rfl, rfl, rfl, rfl, rfl, by decide +kernel, by decide +kernel, rfl, rfl, rfl, rfl, rfl, by decide +kernel, rfl, rfl, by decide +kernel, rfl, by decide +kernel, by decide +kernel, by decide +kernel, by decide +kernel, by decide +kernel, by decide +kernel, by decide +kernel, by decide +kernel, by decide +kernel, by decide +kernel, rfl, rfl, rfl, rfl, rfl, rfl, rfl, rfl, rfl, rfl, by decide +kernel, by decide +kernel, by decide +kernel, rfl, rfl, rfl, rfl, rfl, by decide +kernel, by decide +kernel, by decide +kernel, by decide +kernel, rfl, rfl, rfl, rfl, rfl, by decide +kernel, rfl, rfl, by decide +kernel, by decide +kernel, rfl, rfl, by decide +kernel, by decide +kernel, by decide +kernel, by decide +kernel, rfl, rfl, by decide +kernel, by decide +kernel, by decide +kernel, by decide +kernel, by decide +kernel, by decide +kernel, by decide +kernel, rfl, rfl, rfl, rfl, rfl, by decide +kernel, by decide +kernel, by decide +kernel, rfl, by decide +kernel, by decide +kernel, rfl, rfl, rfl, rfl, rfl, by decide +kernel, by decide +kernel, rfl, rfl, rfl, rfl, rfl, by decide +kernel, by decide +kernel, by decide +kernel, by decide +kernel, by decide +kernel⟩
set_option maxRecDepth 100000 in
set_option maxHeartbeats 4000000 in
theorem C_RingDater_pointer : oM m_RingDater_pointer = 11 ∧
  rkM m_RingDater_pointer = 1 ∧
  dM m_RingDater_pointer = 6 ∧
  lM m_RingDater_pointer = 4 ∧
  decode (cM m_RingDater_pointer) 0 = .ok (.iload_n 2, 1) ∧
  decode (cM m_RingDater_pointer) 1 = .ok (.ifCond .lt 8, 3) ∧
  am_okt 1 8 ∧
  am_tgt 1 8 = 9 ∧
  decode (cM m_RingDater_pointer) 4 = .ok (.iload_n 2, 1) ∧
  decode (cM m_RingDater_pointer) 5 = .ok (.iconst 1, 1) ∧
  decode (cM m_RingDater_pointer) 6 = .ok (.if_icmp .le 11, 3) ∧
  am_okt 6 11 ∧
  am_tgt 6 11 = 17 ∧
  decode (cM m_RingDater_pointer) 9 = .ok (.new 171, 3) ∧
  excT 11 171 = some (0, 173) ∧
  decode (cM m_RingDater_pointer) 12 = .ok (.dup, 1) ∧
  decode (cM m_RingDater_pointer) 13 = .ok (.invokespecial 173, 3) ∧
  decode (cM m_RingDater_pointer) 16 = .ok (.athrow, 1) ∧
  decode (cM m_RingDater_pointer) 17 = .ok (.aload_n 0, 1) ∧
  decode (cM m_RingDater_pointer) 18 = .ok (.iload_n 1, 1) ∧
  decode (cM m_RingDater_pointer) 19 = .ok (.invokevirtual 259, 3) ∧
  invT 11 259 = some (m_RingDater_pointerYear, 0) ∧
  nM m_RingDater_pointerYear = 2 ∧
  oM m_RingDater_pointerYear = 11 ∧
  rkM m_RingDater_pointerYear = 1 ∧
  dM m_RingDater_pointerYear = 5 ∧
  decode (cM m_RingDater_pointer) 22 = .ok (.istore_n 3, 1) ∧
  decode (cM m_RingDater_pointer) 23 = .ok (.iload_n 3, 1) ∧
  decode (cM m_RingDater_pointer) 24 = .ok (.iconst (-1), 1) ∧
  decode (cM m_RingDater_pointer) 25 = .ok (.if_icmp .ne 11, 3) ∧
  am_okt 25 11 ∧
  am_tgt 25 11 = 36 ∧
  decode (cM m_RingDater_pointer) 28 = .ok (.new 171, 3) ∧
  decode (cM m_RingDater_pointer) 31 = .ok (.dup, 1) ∧
  decode (cM m_RingDater_pointer) 32 = .ok (.invokespecial 173, 3) ∧
  decode (cM m_RingDater_pointer) 35 = .ok (.athrow, 1) ∧
  decode (cM m_RingDater_pointer) 36 = .ok (.iload_n 2, 1) ∧
  decode (cM m_RingDater_pointer) 37 = .ok (.ifCond .ne 7, 3) ∧
  am_okt 37 7 ∧
  am_tgt 37 7 = 44 ∧
  decode (cM m_RingDater_pointer) 40 = .ok (.iload_n 3, 1) ∧
  decode (cM m_RingDater_pointer) 41 = .ok (.goto 11, 3) ∧
  am_okt 41 11 ∧
  am_tgt 41 11 = 52 ∧
  decode (cM m_RingDater_pointer) 44 = .ok (.aload_n 0, 1) ∧
  decode (cM m_RingDater_pointer) 45 = .ok (.getfield 54, 3) ∧
  fldT 11 54 = some (11, 6, 2) ∧
  decode (cM m_RingDater_pointer) 48 = .ok (.iload_n 3, 1) ∧
  decode (cM m_RingDater_pointer) 49 = .ok (.invokevirtual 262, 3) ∧
  invT 11 262 = some (m_Stock_pointerStep, 0) ∧
  nM m_Stock_pointerStep = 2 ∧
  oM m_Stock_pointerStep = 8 ∧
  rkM m_Stock_pointerStep = 1 ∧
  dM m_Stock_pointerStep = 3 ∧
  decode (cM m_RingDater_pointer) 52 = .ok (.ireturn, 1) :=
  ⟨rfl, rfl, rfl, rfl, by decide +kernel, by decide +kernel, rfl, rfl, by decide +kernel, by decide +kernel, by decide +kernel, rfl, rfl, by decide +kernel, rfl, by decide +kernel, by decide +kernel, by decide +kernel, by decide +kernel, by decide +kernel, by decide +kernel, rfl, rfl, rfl, rfl, rfl, by decide +kernel, by decide +kernel, by decide +kernel, by decide +kernel, rfl, rfl, by decide +kernel, by decide +kernel, by decide +kernel, by decide +kernel, by decide +kernel, by decide +kernel, rfl, rfl, by decide +kernel, by decide +kernel, rfl, rfl, by decide +kernel, by decide +kernel, rfl, by decide +kernel, by decide +kernel, rfl, rfl, rfl, rfl, rfl, by decide +kernel⟩
set_option maxRecDepth 100000 in
set_option maxHeartbeats 4000000 in
theorem C_RingDater_pointerYear : oM m_RingDater_pointerYear = 11 ∧
  rkM m_RingDater_pointerYear = 1 ∧
  dM m_RingDater_pointerYear = 5 ∧
  lM m_RingDater_pointerYear = 4 ∧
  decode (cM m_RingDater_pointerYear) 0 = .ok (.aload_n 0, 1) ∧
  decode (cM m_RingDater_pointerYear) 1 = .ok (.invokevirtual 135, 3) ∧
  invT 11 135 = some (m_RingDater_layChronology, 0) ∧
  nM m_RingDater_layChronology = 1 ∧
  oM m_RingDater_layChronology = 11 ∧
  rkM m_RingDater_layChronology = 0 ∧
  dM m_RingDater_layChronology = 4 ∧
  decode (cM m_RingDater_pointerYear) 4 = .ok (.iconst 0, 1) ∧
  decode (cM m_RingDater_pointerYear) 5 = .ok (.istore_n 2, 1) ∧
  decode (cM m_RingDater_pointerYear) 6 = .ok (.iconst 0, 1) ∧
  decode (cM m_RingDater_pointerYear) 7 = .ok (.aload_n 0, 1) ∧
  decode (cM m_RingDater_pointerYear) 8 = .ok (.getfield 19, 3) ∧
  fldT 11 19 = some (11, 1, 2) ∧
  decode (cM m_RingDater_pointerYear) 11 = .ok (.getfield 138, 3) ∧
  fldT 11 138 = some (0, 7, 0) ∧
  decode (cM m_RingDater_pointerYear) 14 = .ok (.invokestatic 372, 3) ∧
  invT 11 372 = some (0, 3) ∧
  decode (cM m_RingDater_pointerYear) 17 = .ok (.istore_n 3, 1) ∧
  decode (cM m_RingDater_pointerYear) 18 = .ok (.iload_n 3, 1) ∧
  decode (cM m_RingDater_pointerYear) 19 = .ok (.aload_n 0, 1) ∧
  decode (cM m_RingDater_pointerYear) 20 = .ok (.getfield 19, 3) ∧
  decode (cM m_RingDater_pointerYear) 23 = .ok (.getfield 141, 3) ∧
  fldT 11 141 = some (0, 8, 0) ∧
  decode (cM m_RingDater_pointerYear) 26 = .ok (.if_icmp .gt 37, 3) ∧
  am_okt 26 37 ∧
  am_tgt 26 37 = 63 ∧
  decode (cM m_RingDater_pointerYear) 29 = .ok (.iload_n 3, 1) ∧
  decode (cM m_RingDater_pointerYear) 30 = .ok (.sipush 924, 3) ∧
  decode (cM m_RingDater_pointerYear) 33 = .ok (.if_icmp .ge 30, 3) ∧
  am_okt 33 30 ∧
  am_tgt 33 30 = 63 ∧
  decode (cM m_RingDater_pointerYear) 36 = .ok (.aload_n 0, 1) ∧
  decode (cM m_RingDater_pointerYear) 37 = .ok (.getfield 54, 3) ∧
  fldT 11 54 = some (11, 6, 2) ∧
  decode (cM m_RingDater_pointerYear) 40 = .ok (.iload_n 3, 1) ∧
  decode (cM m_RingDater_pointerYear) 41 = .ok (.invokevirtual 262, 3) ∧
  invT 11 262 = some (m_Stock_pointerStep, 0) ∧
  nM m_Stock_pointerStep = 2 ∧
  oM m_Stock_pointerStep = 8 ∧
  rkM m_Stock_pointerStep = 1 ∧
  dM m_Stock_pointerStep = 3 ∧
  decode (cM m_RingDater_pointerYear) 44 = .ok (.ifCond .eq 13, 3) ∧
  am_okt 44 13 ∧
  am_tgt 44 13 = 57 ∧
  decode (cM m_RingDater_pointerYear) 47 = .ok (.iload_n 2, 1) ∧
  decode (cM m_RingDater_pointerYear) 48 = .ok (.iload_n 1, 1) ∧
  decode (cM m_RingDater_pointerYear) 49 = .ok (.if_icmp .ne 5, 3) ∧
  am_okt 49 5 ∧
  am_tgt 49 5 = 54 ∧
  decode (cM m_RingDater_pointerYear) 52 = .ok (.iload_n 3, 1) ∧
  decode (cM m_RingDater_pointerYear) 53 = .ok (.ireturn, 1) ∧
  decode (cM m_RingDater_pointerYear) 54 = .ok (.iinc 2 1, 3) ∧
  decode (cM m_RingDater_pointerYear) 57 = .ok (.iinc 3 1, 3) ∧
  decode (cM m_RingDater_pointerYear) 60 = .ok (.goto (-42), 3) ∧
  am_okt 60 (-42) ∧
  am_tgt 60 (-42) = 18 ∧
  decode (cM m_RingDater_pointerYear) 63 = .ok (.iconst (-1), 1) ∧
  decode (cM m_RingDater_pointerYear) 64 = .ok (.ireturn, 1) :=
  ⟨rfl, rfl, rfl, rfl, by decide +kernel, by decide +kernel, rfl, rfl, rfl, rfl, rfl, by decide +kernel, by decide +kernel, by decide +kernel, by decide +kernel, by decide +kernel, rfl, by decide +kernel, rfl, by decide +kernel, rfl, by decide +kernel, by decide +kernel, by decide +kernel, by decide +kernel, by decide +kernel, rfl, by decide +kernel, rfl, rfl, by decide +kernel, by decide +kernel, by decide +kernel, rfl, rfl, by decide +kernel, by decide +kernel, rfl, by decide +kernel, by decide +kernel, rfl, rfl, rfl, rfl, rfl, by decide +kernel, rfl, rfl, by decide +kernel, by decide +kernel, by decide +kernel, rfl, rfl, by decide +kernel, by decide +kernel, by decide +kernel, by decide +kernel, by decide +kernel, rfl, rfl, by decide +kernel, by decide +kernel⟩
set_option maxRecDepth 100000 in
set_option maxHeartbeats 4000000 in
theorem C_RingDater_slid : oM m_RingDater_slid = 11 ∧
  rkM m_RingDater_slid = 1 ∧
  dM m_RingDater_slid = 5 ∧
  lM m_RingDater_slid = 6 ∧
  decode (cM m_RingDater_slid) 0 = .ok (.aload_n 0, 1) ∧
  decode (cM m_RingDater_slid) 1 = .ok (.getfield 54, 3) ∧
  fldT 11 54 = some (11, 6, 2) ∧
  decode (cM m_RingDater_slid) 4 = .ok (.iload_n 1, 1) ∧
  decode (cM m_RingDater_slid) 5 = .ok (.invokevirtual 174, 3) ∧
  invT 11 174 = some (m_Stock_has, 0) ∧
  nM m_Stock_has = 2 ∧
  oM m_Stock_has = 8 ∧
  rkM m_Stock_has = 2 ∧
  dM m_Stock_has = 0 ∧
  decode (cM m_RingDater_slid) 8 = .ok (.ifCond .eq 25, 3) ∧
  am_okt 8 25 ∧
  am_tgt 8 25 = 33 ∧
  decode (cM m_RingDater_slid) 11 = .ok (.aload_n 0, 1) ∧
  decode (cM m_RingDater_slid) 12 = .ok (.getfield 54, 3) ∧
  decode (cM m_RingDater_slid) 15 = .ok (.iload_n 2, 1) ∧
  decode (cM m_RingDater_slid) 16 = .ok (.invokevirtual 174, 3) ∧
  decode (cM m_RingDater_slid) 19 = .ok (.ifCond .eq 14, 3) ∧
  am_okt 19 14 ∧
  am_tgt 19 14 = 33 ∧
  decode (cM m_RingDater_slid) 22 = .ok (.iload 4, 2) ∧
  decode (cM m_RingDater_slid) 24 = .ok (.ifCond .lt 9, 3) ∧
  am_okt 24 9 ∧
  am_tgt 24 9 = 33 ∧
  decode (cM m_RingDater_slid) 27 = .ok (.iload 4, 2) ∧
  decode (cM m_RingDater_slid) 29 = .ok (.iconst 3, 1) ∧
  decode (cM m_RingDater_slid) 30 = .ok (.if_icmp .le 11, 3) ∧
  am_okt 30 11 ∧
  am_tgt 30 11 = 41 ∧
  decode (cM m_RingDater_slid) 33 = .ok (.new 171, 3) ∧
  excT 11 171 = some (0, 173) ∧
  decode (cM m_RingDater_slid) 36 = .ok (.dup, 1) ∧
  decode (cM m_RingDater_slid) 37 = .ok (.invokespecial 173, 3) ∧
  decode (cM m_RingDater_slid) 40 = .ok (.athrow, 1) ∧
  decode (cM m_RingDater_slid) 41 = .ok (.iload_n 1, 1) ∧
  decode (cM m_RingDater_slid) 42 = .ok (.iload_n 2, 1) ∧
  decode (cM m_RingDater_slid) 43 = .ok (.if_icmp .ne 11, 3) ∧
  am_okt 43 11 ∧
  am_tgt 43 11 = 54 ∧
  decode (cM m_RingDater_slid) 46 = .ok (.new 96, 3) ∧
  excT 11 96 = some (1, 98) ∧
  decode (cM m_RingDater_slid) 49 = .ok (.dup, 1) ∧
  decode (cM m_RingDater_slid) 50 = .ok (.invokespecial 98, 3) ∧
  decode (cM m_RingDater_slid) 53 = .ok (.athrow, 1) ∧
  decode (cM m_RingDater_slid) 54 = .ok (.aload_n 0, 1) ∧
  decode (cM m_RingDater_slid) 55 = .ok (.getfield 19, 3) ∧
  fldT 11 19 = some (11, 1, 2) ∧
  decode (cM m_RingDater_slid) 58 = .ok (.aload_n 0, 1) ∧
  decode (cM m_RingDater_slid) 59 = .ok (.getfield 54, 3) ∧
  decode (cM m_RingDater_slid) 62 = .ok (.iload_n 1, 1) ∧
  decode (cM m_RingDater_slid) 63 = .ok (.invokevirtual 178, 3) ∧
  invT 11 178 = some (m_Stock_timberAt, 0) ∧
  nM m_Stock_timberAt = 2 ∧
  oM m_Stock_timberAt = 8 ∧
  rkM m_Stock_timberAt = 3 ∧
  dM m_Stock_timberAt = 1 ∧
  decode (cM m_RingDater_slid) 66 = .ok (.aload_n 0, 1) ∧
  decode (cM m_RingDater_slid) 67 = .ok (.getfield 54, 3) ∧
  decode (cM m_RingDater_slid) 70 = .ok (.iload_n 2, 1) ∧
  decode (cM m_RingDater_slid) 71 = .ok (.invokevirtual 178, 3) ∧
  decode (cM m_RingDater_slid) 74 = .ok (.iload_n 3, 1) ∧
  decode (cM m_RingDater_slid) 75 = .ok (.invokevirtual 265, 3) ∧
  invT 11 265 = some (m_Bench_slideAlong, 0) ∧
  nM m_Bench_slideAlong = 4 ∧
  oM m_Bench_slideAlong = 0 ∧
  rkM m_Bench_slideAlong = 3 ∧
  dM m_Bench_slideAlong = 4 ∧
  decode (cM m_RingDater_slid) 78 = .ok (.astore 5, 2) ∧
  decode (cM m_RingDater_slid) 80 = .ok (.aload 5, 2) ∧
  decode (cM m_RingDater_slid) 82 = .ok (.getfield 269, 3) ∧
  fldT 11 269 = some (7, 0, 0) ∧
  decode (cM m_RingDater_slid) 85 = .ok (.iconst 1, 1) ∧
  decode (cM m_RingDater_slid) 86 = .ok (.if_icmp .ge 5, 3) ∧
  am_okt 86 5 ∧
  am_tgt 86 5 = 91 ∧
  decode (cM m_RingDater_slid) 89 = .ok (.iconst (-1), 1) ∧
  decode (cM m_RingDater_slid) 90 = .ok (.ireturn, 1) ∧
  decode (cM m_RingDater_slid) 91 = .ok (.iload 4, 2) ∧
  decode (cM m_RingDater_slid) 93 = .ok (.tableswitch 45 0 2 #[27, 33, 39], 27) ∧
  am_okt 93 45 ∧
  am_tgt 93 45 = 138 ∧
  am_okt 93 27 ∧
  am_tgt 93 27 = 120 ∧
  am_okt 93 33 ∧
  am_tgt 93 33 = 126 ∧
  am_okt 93 39 ∧
  am_tgt 93 39 = 132 ∧
  decode (cM m_RingDater_slid) 120 = .ok (.aload 5, 2) ∧
  decode (cM m_RingDater_slid) 122 = .ok (.getfield 274, 3) ∧
  fldT 11 274 = some (7, 3, 0) ∧
  decode (cM m_RingDater_slid) 125 = .ok (.ireturn, 1) ∧
  decode (cM m_RingDater_slid) 126 = .ok (.aload 5, 2) ∧
  decode (cM m_RingDater_slid) 128 = .ok (.getfield 269, 3) ∧
  decode (cM m_RingDater_slid) 131 = .ok (.ireturn, 1) ∧
  decode (cM m_RingDater_slid) 132 = .ok (.aload 5, 2) ∧
  decode (cM m_RingDater_slid) 134 = .ok (.getfield 277, 3) ∧
  fldT 11 277 = some (7, 1, 0) ∧
  decode (cM m_RingDater_slid) 137 = .ok (.ireturn, 1) ∧
  decode (cM m_RingDater_slid) 138 = .ok (.aload 5, 2) ∧
  decode (cM m_RingDater_slid) 140 = .ok (.getfield 279, 3) ∧
  fldT 11 279 = some (7, 2, 0) ∧
  decode (cM m_RingDater_slid) 143 = .ok (.ireturn, 1) :=
  ⟨rfl, rfl, rfl, rfl, by decide +kernel, by decide +kernel, rfl, by decide +kernel, by decide +kernel, rfl, rfl, rfl, rfl, rfl, by decide +kernel, rfl, rfl, by decide +kernel, by decide +kernel, by decide +kernel, by decide +kernel, by decide +kernel, rfl, rfl, by decide +kernel, by decide +kernel, rfl, rfl, by decide +kernel, by decide +kernel, by decide +kernel, rfl, rfl, by decide +kernel, rfl, by decide +kernel, by decide +kernel, by decide +kernel, by decide +kernel, by decide +kernel, by decide +kernel, rfl, rfl, by decide +kernel, rfl, by decide +kernel, by decide +kernel, by decide +kernel, by decide +kernel, by decide +kernel, rfl, by decide +kernel, by decide +kernel, by decide +kernel, by decide +kernel, rfl, rfl, rfl, rfl, rfl, by decide +kernel, by decide +kernel, by decide +kernel, by decide +kernel, by decide +kernel, by decide +kernel, rfl, rfl, rfl, rfl, rfl, by decide +kernel, by decide +kernel, by decide +kernel, rfl, by decide +kernel, by decide +kernel, rfl, rfl, by decide +kernel, by decide +kernel, by decide +kernel, by decide +kernel, rfl, rfl, rfl, rfl, rfl, rfl, rfl, rfl, by decide +kernel, by decide +kernel, rfl, by decide +kernel, by decide +kernel, by decide +kernel, by decide +kernel, by decide +kernel, by decide +kernel, rfl, by decide +kernel, by decide +kernel, by decide +kernel, rfl, by decide +kernel⟩
set_option maxRecDepth 100000 in
set_option maxHeartbeats 4000000 in
theorem C_RingDater_best : oM m_RingDater_best = 11 ∧
  rkM m_RingDater_best = 1 ∧
  dM m_RingDater_best = 6 ∧
  lM m_RingDater_best = 5 ∧
  decode (cM m_RingDater_best) 0 = .ok (.aload_n 0, 1) ∧
  decode (cM m_RingDater_best) 1 = .ok (.getfield 54, 3) ∧
  fldT 11 54 = some (11, 6, 2) ∧
  decode (cM m_RingDater_best) 4 = .ok (.iload_n 1, 1) ∧
  decode (cM m_RingDater_best) 5 = .ok (.invokevirtual 174, 3) ∧
  invT 11 174 = some (m_Stock_has, 0) ∧
  nM m_Stock_has = 2 ∧
  oM m_Stock_has = 8 ∧
  rkM m_Stock_has = 2 ∧
  dM m_Stock_has = 0 ∧
  decode (cM m_RingDater_best) 8 = .ok (.ifCond .eq 28, 3) ∧
  am_okt 8 28 ∧
  am_tgt 8 28 = 36 ∧
  decode (cM m_RingDater_best) 11 = .ok (.iload_n 2, 1) ∧
  decode (cM m_RingDater_best) 12 = .ok (.iconst (-1), 1) ∧
  decode (cM m_RingDater_best) 13 = .ok (.if_icmp .eq 14, 3) ∧
  am_okt 13 14 ∧
  am_tgt 13 14 = 27 ∧
  decode (cM m_RingDater_best) 16 = .ok (.aload_n 0, 1) ∧
  decode (cM m_RingDater_best) 17 = .ok (.getfield 54, 3) ∧
  decode (cM m_RingDater_best) 20 = .ok (.iload_n 2, 1) ∧
  decode (cM m_RingDater_best) 21 = .ok (.invokevirtual 174, 3) ∧
  decode (cM m_RingDater_best) 24 = .ok (.ifCond .eq 12, 3) ∧
  am_okt 24 12 ∧
  am_tgt 24 12 = 36 ∧
  decode (cM m_RingDater_best) 27 = .ok (.iload_n 3, 1) ∧
  decode (cM m_RingDater_best) 28 = .ok (.ifCond .lt 8, 3) ∧
  am_okt 28 8 ∧
  am_tgt 28 8 = 36 ∧
  decode (cM m_RingDater_best) 31 = .ok (.iload_n 3, 1) ∧
  decode (cM m_RingDater_best) 32 = .ok (.iconst 4, 1) ∧
  decode (cM m_RingDater_best) 33 = .ok (.if_icmp .le 11, 3) ∧
  am_okt 33 11 ∧
  am_tgt 33 11 = 44 ∧
  decode (cM m_RingDater_best) 36 = .ok (.new 171, 3) ∧
  excT 11 171 = some (0, 173) ∧
  decode (cM m_RingDater_best) 39 = .ok (.dup, 1) ∧
  decode (cM m_RingDater_best) 40 = .ok (.invokespecial 173, 3) ∧
  decode (cM m_RingDater_best) 43 = .ok (.athrow, 1) ∧
  decode (cM m_RingDater_best) 44 = .ok (.iload_n 1, 1) ∧
  decode (cM m_RingDater_best) 45 = .ok (.iload_n 2, 1) ∧
  decode (cM m_RingDater_best) 46 = .ok (.if_icmp .ne 11, 3) ∧
  am_okt 46 11 ∧
  am_tgt 46 11 = 57 ∧
  decode (cM m_RingDater_best) 49 = .ok (.new 96, 3) ∧
  excT 11 96 = some (1, 98) ∧
  decode (cM m_RingDater_best) 52 = .ok (.dup, 1) ∧
  decode (cM m_RingDater_best) 53 = .ok (.invokespecial 98, 3) ∧
  decode (cM m_RingDater_best) 56 = .ok (.athrow, 1) ∧
  decode (cM m_RingDater_best) 57 = .ok (.iload_n 2, 1) ∧
  decode (cM m_RingDater_best) 58 = .ok (.iconst (-1), 1) ∧
  decode (cM m_RingDater_best) 59 = .ok (.if_icmp .ne 11, 3) ∧
  am_okt 59 11 ∧
  am_tgt 59 11 = 70 ∧
  decode (cM m_RingDater_best) 62 = .ok (.aload_n 0, 1) ∧
  decode (cM m_RingDater_best) 63 = .ok (.iload_n 1, 1) ∧
  decode (cM m_RingDater_best) 64 = .ok (.invokevirtual 282, 3) ∧
  invT 11 282 = some (m_RingDater_seekAmongOthers, 0) ∧
  nM m_RingDater_seekAmongOthers = 2 ∧
  oM m_RingDater_seekAmongOthers = 11 ∧
  rkM m_RingDater_seekAmongOthers = 3 ∧
  dM m_RingDater_seekAmongOthers = 5 ∧
  decode (cM m_RingDater_best) 67 = .ok (.goto 33, 3) ∧
  am_okt 67 33 ∧
  am_tgt 67 33 = 100 ∧
  decode (cM m_RingDater_best) 70 = .ok (.aload_n 0, 1) ∧
  decode (cM m_RingDater_best) 71 = .ok (.getfield 19, 3) ∧
  fldT 11 19 = some (11, 1, 2) ∧
  decode (cM m_RingDater_best) 74 = .ok (.aload_n 0, 1) ∧
  decode (cM m_RingDater_best) 75 = .ok (.getfield 54, 3) ∧
  decode (cM m_RingDater_best) 78 = .ok (.iload_n 1, 1) ∧
  decode (cM m_RingDater_best) 79 = .ok (.invokevirtual 178, 3) ∧
  invT 11 178 = some (m_Stock_timberAt, 0) ∧
  nM m_Stock_timberAt = 2 ∧
  oM m_Stock_timberAt = 8 ∧
  rkM m_Stock_timberAt = 3 ∧
  dM m_Stock_timberAt = 1 ∧
  decode (cM m_RingDater_best) 82 = .ok (.aload_n 0, 1) ∧
  decode (cM m_RingDater_best) 83 = .ok (.getfield 54, 3) ∧
  decode (cM m_RingDater_best) 86 = .ok (.iload_n 2, 1) ∧
  decode (cM m_RingDater_best) 87 = .ok (.invokevirtual 178, 3) ∧
  decode (cM m_RingDater_best) 90 = .ok (.aload_n 0, 1) ∧
  decode (cM m_RingDater_best) 91 = .ok (.getfield 54, 3) ∧
  decode (cM m_RingDater_best) 94 = .ok (.getfield 125, 3) ∧
  fldT 11 125 = some (8, 5, 0) ∧
  decode (cM m_RingDater_best) 97 = .ok (.invokevirtual 286, 3) ∧
  invT 11 286 = some (m_Bench_seekOn, 0) ∧
  nM m_Bench_seekOn = 4 ∧
  oM m_Bench_seekOn = 0 ∧
  rkM m_Bench_seekOn = 3 ∧
  dM m_Bench_seekOn = 4 ∧
  decode (cM m_RingDater_best) 100 = .ok (.astore 4, 2) ∧
  decode (cM m_RingDater_best) 102 = .ok (.iload_n 3, 1) ∧
  decode (cM m_RingDater_best) 103 = .ok (.iconst 4, 1) ∧
  decode (cM m_RingDater_best) 104 = .ok (.if_icmp .ne 23, 3) ∧
  am_okt 104 23 ∧
  am_tgt 104 23 = 127 ∧
  decode (cM m_RingDater_best) 107 = .ok (.aload 4, 2) ∧
  decode (cM m_RingDater_best) 109 = .ok (.aload_n 0, 1) ∧
  decode (cM m_RingDater_best) 110 = .ok (.getfield 54, 3) ∧
  decode (cM m_RingDater_best) 113 = .ok (.getfield 122, 3) ∧
  fldT 11 122 = some (8, 4, 0) ∧
  decode (cM m_RingDater_best) 116 = .ok (.aload_n 0, 1) ∧
  decode (cM m_RingDater_best) 117 = .ok (.getfield 54, 3) ∧
  decode (cM m_RingDater_best) 120 = .ok (.getfield 128, 3) ∧
  fldT 11 128 = some (8, 6, 0) ∧
  decode (cM m_RingDater_best) 123 = .ok (.invokevirtual 290, 3) ∧
  invT 11 290 = some (m_Finding_whyNotSure, 0) ∧
  nM m_Finding_whyNotSure = 3 ∧
  oM m_Finding_whyNotSure = 1 ∧
  rkM m_Finding_whyNotSure = 1 ∧
  dM m_Finding_whyNotSure = 0 ∧
  decode (cM m_RingDater_best) 126 = .ok (.ireturn, 1) ∧
  decode (cM m_RingDater_best) 127 = .ok (.aload 4, 2) ∧
  decode (cM m_RingDater_best) 129 = .ok (.getfield 296, 3) ∧
  fldT 11 296 = some (1, 1, 1) ∧
  decode (cM m_RingDater_best) 132 = .ok (.ifCond .ne 7, 3) ∧
  am_okt 132 7 ∧
  am_tgt 132 7 = 139 ∧
  decode (cM m_RingDater_best) 135 = .ok (.sipush (-1000), 3) ∧
  decode (cM m_RingDater_best) 138 = .ok (.ireturn, 1) ∧
  decode (cM m_RingDater_best) 139 = .ok (.iload_n 3, 1) ∧
  decode (cM m_RingDater_best) 140 = .ok (.tableswitch 46 0 2 #[28, 34, 40], 28) ∧
  am_okt 140 46 ∧
  am_tgt 140 46 = 186 ∧
  am_okt 140 28 ∧
  am_tgt 140 28 = 168 ∧
  am_okt 140 34 ∧
  am_tgt 140 34 = 174 ∧
  am_okt 140 40 ∧
  am_tgt 140 40 = 180 ∧
  decode (cM m_RingDater_best) 168 = .ok (.aload 4, 2) ∧
  decode (cM m_RingDater_best) 170 = .ok (.getfield 299, 3) ∧
  fldT 11 299 = some (1, 2, 0) ∧
  decode (cM m_RingDater_best) 173 = .ok (.ireturn, 1) ∧
  decode (cM m_RingDater_best) 174 = .ok (.aload 4, 2) ∧
  decode (cM m_RingDater_best) 176 = .ok (.getfield 302, 3) ∧
  fldT 11 302 = some (1, 3, 0) ∧
  decode (cM m_RingDater_best) 179 = .ok (.ireturn, 1) ∧
  decode (cM m_RingDater_best) 180 = .ok (.aload 4, 2) ∧
  decode (cM m_RingDater_best) 182 = .ok (.getfield 303, 3) ∧
  fldT 11 303 = some (1, 4, 0) ∧
  decode (cM m_RingDater_best) 185 = .ok (.ireturn, 1) ∧
  decode (cM m_RingDater_best) 186 = .ok (.aload 4, 2) ∧
  decode (cM m_RingDater_best) 188 = .ok (.getfield 304, 3) ∧
  fldT 11 304 = some (1, 5, 0) ∧
  decode (cM m_RingDater_best) 191 = .ok (.ireturn, 1) :=
  ⟨rfl, rfl, rfl, rfl, by decide +kernel, by decide +kernel, rfl, by decide +kernel, by decide +kernel, rfl, rfl, rfl, rfl, rfl, by decide +kernel, rfl, rfl, by decide +kernel, by decide +kernel, by decide +kernel, rfl, rfl, by decide +kernel, by decide +kernel, by decide +kernel, by decide +kernel, by decide +kernel, rfl, rfl, by decide +kernel, by decide +kernel, rfl, rfl, by decide +kernel, by decide +kernel, by decide +kernel, rfl, rfl, by decide +kernel, rfl, by decide +kernel, by decide +kernel, by decide +kernel, by decide +kernel, by decide +kernel, by decide +kernel, rfl, rfl, by decide +kernel, rfl, by decide +kernel, by decide +kernel, by decide +kernel, by decide +kernel, by decide +kernel, by decide +kernel, rfl, rfl, by decide +kernel, by decide +kernel, by decide +kernel, rfl, rfl, rfl, rfl, rfl, by decide +kernel, rfl, rfl, by decide +kernel, by decide +kernel, rfl, by decide +kernel, by decide +kernel, by decide +kernel, by decide +kernel, rfl, rfl, rfl, rfl, rfl, by decide +kernel, by decide +kernel, by decide +kernel, by decide +kernel, by decide +kernel, by decide +kernel, by decide +kernel, rfl, by decide +kernel, rfl, rfl, rfl, rfl, rfl, by decide +kernel, by decide +kernel, by decide +kernel, by decide +kernel, rfl, rfl, by decide +kernel, by decide +kernel, by decide +kernel, by decide +kernel, rfl, by decide +kernel, by decide +kernel, by decide +kernel, rfl, by decide +kernel, rfl, rfl, rfl, rfl, rfl, by decide +kernel, by decide +kernel, by decide +kernel, rfl, by decide +kernel, rfl, rfl, by decide +kernel, by decide +kernel, by decide +kernel, by decide +kernel, rfl, rfl, rfl, rfl, rfl, rfl, rfl, rfl, by decide +kernel, by decide +kernel, rfl, by decide +kernel, by decide +kernel, by decide +kernel, rfl, by decide +kernel, by decide +kernel, by decide +kernel, rfl, by decide +kernel, by decide +kernel, by decide +kernel, rfl, by decide +kernel⟩
set_option maxRecDepth 100000 in
set_option maxHeartbeats 4000000 in
theorem C_RingDater_link : oM m_RingDater_link = 11 ∧
  rkM m_RingDater_link = 1 ∧
  dM m_RingDater_link = 7 ∧
  lM m_RingDater_link = 3 ∧
  decode (cM m_RingDater_link) 0 = .ok (.iload_n 2, 1) ∧
  decode (cM m_RingDater_link) 1 = .ok (.ifCond .lt 8, 3) ∧
  am_okt 1 8 ∧
  am_tgt 1 8 = 9 ∧
  decode (cM m_RingDater_link) 4 = .ok (.iload_n 2, 1) ∧
  decode (cM m_RingDater_link) 5 = .ok (.iconst 4, 1) ∧
  decode (cM m_RingDater_link) 6 = .ok (.if_icmp .le 11, 3) ∧
  am_okt 6 11 ∧
  am_tgt 6 11 = 17 ∧
  decode (cM m_RingDater_link) 9 = .ok (.new 171, 3) ∧
  excT 11 171 = some (0, 173) ∧
  decode (cM m_RingDater_link) 12 = .ok (.dup, 1) ∧
  decode (cM m_RingDater_link) 13 = .ok (.invokespecial 173, 3) ∧
  decode (cM m_RingDater_link) 16 = .ok (.athrow, 1) ∧
  decode (cM m_RingDater_link) 17 = .ok (.aload_n 0, 1) ∧
  decode (cM m_RingDater_link) 18 = .ok (.invokevirtual 144, 3) ∧
  invT 11 144 = some (m_RingDater_spunWeb, 0) ∧
  nM m_RingDater_spunWeb = 1 ∧
  oM m_RingDater_spunWeb = 11 ∧
  rkM m_RingDater_spunWeb = 3 ∧
  dM m_RingDater_spunWeb = 6 ∧
  decode (cM m_RingDater_link) 21 = .ok (.pop, 1) ∧
  decode (cM m_RingDater_link) 22 = .ok (.iload_n 1, 1) ∧
  decode (cM m_RingDater_link) 23 = .ok (.ifCond .lt 14, 3) ∧
  am_okt 23 14 ∧
  am_tgt 23 14 = 37 ∧
  decode (cM m_RingDater_link) 26 = .ok (.iload_n 1, 1) ∧
  decode (cM m_RingDater_link) 27 = .ok (.aload_n 0, 1) ∧
  decode (cM m_RingDater_link) 28 = .ok (.getfield 26, 3) ∧
  fldT 11 26 = some (11, 2, 2) ∧
  decode (cM m_RingDater_link) 31 = .ok (.getfield 148, 3) ∧
  fldT 11 148 = some (10, 7, 0) ∧
  decode (cM m_RingDater_link) 34 = .ok (.if_icmp .lt 11, 3) ∧
  am_okt 34 11 ∧
  am_tgt 34 11 = 45 ∧
  decode (cM m_RingDater_link) 37 = .ok (.new 171, 3) ∧
  decode (cM m_RingDater_link) 40 = .ok (.dup, 1) ∧
  decode (cM m_RingDater_link) 41 = .ok (.invokespecial 173, 3) ∧
  decode (cM m_RingDater_link) 44 = .ok (.athrow, 1) ∧
  decode (cM m_RingDater_link) 45 = .ok (.aload_n 0, 1) ∧
  decode (cM m_RingDater_link) 46 = .ok (.getfield 26, 3) ∧
  decode (cM m_RingDater_link) 49 = .ok (.iload_n 1, 1) ∧
  decode (cM m_RingDater_link) 50 = .ok (.iload_n 2, 1) ∧
  decode (cM m_RingDater_link) 51 = .ok (.invokevirtual 307, 3) ∧
  invT 11 307 = some (m_Web_tell, 0) ∧
  nM m_Web_tell = 3 ∧
  oM m_Web_tell = 10 ∧
  rkM m_Web_tell = 1 ∧
  dM m_Web_tell = 0 ∧
  decode (cM m_RingDater_link) 54 = .ok (.ireturn, 1) :=
  ⟨rfl, rfl, rfl, rfl, by decide +kernel, by decide +kernel, rfl, rfl, by decide +kernel, by decide +kernel, by decide +kernel, rfl, rfl, by decide +kernel, rfl, by decide +kernel, by decide +kernel, by decide +kernel, by decide +kernel, by decide +kernel, rfl, rfl, rfl, rfl, rfl, by decide +kernel, by decide +kernel, by decide +kernel, rfl, rfl, by decide +kernel, by decide +kernel, by decide +kernel, rfl, by decide +kernel, rfl, by decide +kernel, rfl, rfl, by decide +kernel, by decide +kernel, by decide +kernel, by decide +kernel, by decide +kernel, by decide +kernel, by decide +kernel, by decide +kernel, by decide +kernel, rfl, rfl, rfl, rfl, rfl, by decide +kernel⟩
set_option maxRecDepth 100000 in
set_option maxHeartbeats 4000000 in
theorem C_RingDater_grown : oM m_RingDater_grown = 11 ∧
  rkM m_RingDater_grown = 1 ∧
  dM m_RingDater_grown = 7 ∧
  lM m_RingDater_grown = 3 ∧
  decode (cM m_RingDater_grown) 0 = .ok (.iload_n 2, 1) ∧
  decode (cM m_RingDater_grown) 1 = .ok (.ifCond .lt 8, 3) ∧
  am_okt 1 8 ∧
  am_tgt 1 8 = 9 ∧
  decode (cM m_RingDater_grown) 4 = .ok (.iload_n 2, 1) ∧
  decode (cM m_RingDater_grown) 5 = .ok (.iconst 2, 1) ∧
  decode (cM m_RingDater_grown) 6 = .ok (.if_icmp .le 11, 3) ∧
  am_okt 6 11 ∧
  am_tgt 6 11 = 17 ∧
  decode (cM m_RingDater_grown) 9 = .ok (.new 171, 3) ∧
  excT 11 171 = some (0, 173) ∧
  decode (cM m_RingDater_grown) 12 = .ok (.dup, 1) ∧
  decode (cM m_RingDater_grown) 13 = .ok (.invokespecial 173, 3) ∧
  decode (cM m_RingDater_grown) 16 = .ok (.athrow, 1) ∧
  decode (cM m_RingDater_grown) 17 = .ok (.aload_n 0, 1) ∧
  decode (cM m_RingDater_grown) 18 = .ok (.getfield 33, 3) ∧
  fldT 11 33 = some (11, 3, 2) ∧
  decode (cM m_RingDater_grown) 21 = .ok (.aload_n 0, 1) ∧
  decode (cM m_RingDater_grown) 22 = .ok (.getfield 54, 3) ∧
  fldT 11 54 = some (11, 6, 2) ∧
  decode (cM m_RingDater_grown) 25 = .ok (.aload_n 0, 1) ∧
  decode (cM m_RingDater_grown) 26 = .ok (.getfield 19, 3) ∧
  fldT 11 19 = some (11, 1, 2) ∧
  decode (cM m_RingDater_grown) 29 = .ok (.aload_n 0, 1) ∧
  decode (cM m_RingDater_grown) 30 = .ok (.getfield 54, 3) ∧
  decode (cM m_RingDater_grown) 33 = .ok (.getfield 122, 3) ∧
  fldT 11 122 = some (8, 4, 0) ∧
  decode (cM m_RingDater_grown) 36 = .ok (.invokevirtual 167, 3) ∧
  invT 11 167 = some (m_Growth_run, 0) ∧
  nM m_Growth_run = 4 ∧
  oM m_Growth_run = 2 ∧
  rkM m_Growth_run = 1 ∧
  dM m_Growth_run = 6 ∧
  decode (cM m_RingDater_grown) 39 = .ok (.pop, 1) ∧
  decode (cM m_RingDater_grown) 40 = .ok (.iload_n 1, 1) ∧
  decode (cM m_RingDater_grown) 41 = .ok (.ifCond .lt 14, 3) ∧
  am_okt 41 14 ∧
  am_tgt 41 14 = 55 ∧
  decode (cM m_RingDater_grown) 44 = .ok (.iload_n 1, 1) ∧
  decode (cM m_RingDater_grown) 45 = .ok (.aload_n 0, 1) ∧
  decode (cM m_RingDater_grown) 46 = .ok (.getfield 33, 3) ∧
  decode (cM m_RingDater_grown) 49 = .ok (.getfield 310, 3) ∧
  fldT 11 310 = some (2, 6, 0) ∧
  decode (cM m_RingDater_grown) 52 = .ok (.if_icmp .lt 11, 3) ∧
  am_okt 52 11 ∧
  am_tgt 52 11 = 63 ∧
  decode (cM m_RingDater_grown) 55 = .ok (.new 171, 3) ∧
  decode (cM m_RingDater_grown) 58 = .ok (.dup, 1) ∧
  decode (cM m_RingDater_grown) 59 = .ok (.invokespecial 173, 3) ∧
  decode (cM m_RingDater_grown) 62 = .ok (.athrow, 1) ∧
  decode (cM m_RingDater_grown) 63 = .ok (.aload_n 0, 1) ∧
  decode (cM m_RingDater_grown) 64 = .ok (.getfield 33, 3) ∧
  decode (cM m_RingDater_grown) 67 = .ok (.iload_n 1, 1) ∧
  decode (cM m_RingDater_grown) 68 = .ok (.iload_n 2, 1) ∧
  decode (cM m_RingDater_grown) 69 = .ok (.invokevirtual 311, 3) ∧
  invT 11 311 = some (m_Growth_tell, 0) ∧
  nM m_Growth_tell = 3 ∧
  oM m_Growth_tell = 2 ∧
  rkM m_Growth_tell = 1 ∧
  dM m_Growth_tell = 0 ∧
  decode (cM m_RingDater_grown) 72 = .ok (.ireturn, 1) :=
  ⟨rfl, rfl, rfl, rfl, by decide +kernel, by decide +kernel, rfl, rfl, by decide +kernel, by decide +kernel, by decide +kernel, rfl, rfl, by decide +kernel, rfl, by decide +kernel, by decide +kernel, by decide +kernel, by decide +kernel, by decide +kernel, rfl, by decide +kernel, by decide +kernel, rfl, by decide +kernel, by decide +kernel, rfl, by decide +kernel, by decide +kernel, by decide +kernel, rfl, by decide +kernel, rfl, rfl, rfl, rfl, rfl, by decide +kernel, by decide +kernel, by decide +kernel, rfl, rfl, by decide +kernel, by decide +kernel, by decide +kernel, by decide +kernel, rfl, by decide +kernel, rfl, rfl, by decide +kernel, by decide +kernel, by decide +kernel, by decide +kernel, by decide +kernel, by decide +kernel, by decide +kernel, by decide +kernel, by decide +kernel, rfl, rfl, rfl, rfl, rfl, by decide +kernel⟩
set_option maxRecDepth 100000 in
set_option maxHeartbeats 4000000 in
theorem C_RingDater_help : oM m_RingDater_help = 11 ∧
  rkM m_RingDater_help = 1 ∧
  dM m_RingDater_help = 7 ∧
  lM m_RingDater_help = 8 ∧
  decode (cM m_RingDater_help) 0 = .ok (.aload_n 0, 1) ∧
  decode (cM m_RingDater_help) 1 = .ok (.getfield 54, 3) ∧
  fldT 11 54 = some (11, 6, 2) ∧
  decode (cM m_RingDater_help) 4 = .ok (.iload_n 1, 1) ∧
  decode (cM m_RingDater_help) 5 = .ok (.invokevirtual 174, 3) ∧
  invT 11 174 = some (m_Stock_has, 0) ∧
  nM m_Stock_has = 2 ∧
  oM m_Stock_has = 8 ∧
  rkM m_Stock_has = 2 ∧
  dM m_Stock_has = 0 ∧
  decode (cM m_RingDater_help) 8 = .ok (.ifCond .eq 12, 3) ∧
  am_okt 8 12 ∧
  am_tgt 8 12 = 20 ∧
  decode (cM m_RingDater_help) 11 = .ok (.iload_n 2, 1) ∧
  decode (cM m_RingDater_help) 12 = .ok (.ifCond .lt 8, 3) ∧
  am_okt 12 8 ∧
  am_tgt 12 8 = 20 ∧
  decode (cM m_RingDater_help) 15 = .ok (.iload_n 2, 1) ∧
  decode (cM m_RingDater_help) 16 = .ok (.iconst 1, 1) ∧
  decode (cM m_RingDater_help) 17 = .ok (.if_icmp .le 11, 3) ∧
  am_okt 17 11 ∧
  am_tgt 17 11 = 28 ∧
  decode (cM m_RingDater_help) 20 = .ok (.new 171, 3) ∧
  excT 11 171 = some (0, 173) ∧
  decode (cM m_RingDater_help) 23 = .ok (.dup, 1) ∧
  decode (cM m_RingDater_help) 24 = .ok (.invokespecial 173, 3) ∧
  decode (cM m_RingDater_help) 27 = .ok (.athrow, 1) ∧
  decode (cM m_RingDater_help) 28 = .ok (.aload_n 0, 1) ∧
  decode (cM m_RingDater_help) 29 = .ok (.getfield 54, 3) ∧
  decode (cM m_RingDater_help) 32 = .ok (.iload_n 1, 1) ∧
  decode (cM m_RingDater_help) 33 = .ok (.invokevirtual 182, 3) ∧
  invT 11 182 = some (m_Stock_isDated, 0) ∧
  nM m_Stock_isDated = 2 ∧
  oM m_Stock_isDated = 8 ∧
  rkM m_Stock_isDated = 2 ∧
  dM m_Stock_isDated = 1 ∧
  decode (cM m_RingDater_help) 36 = .ok (.ifCond .eq 11, 3) ∧
  am_okt 36 11 ∧
  am_tgt 36 11 = 47 ∧
  decode (cM m_RingDater_help) 39 = .ok (.new 96, 3) ∧
  excT 11 96 = some (1, 98) ∧
  decode (cM m_RingDater_help) 42 = .ok (.dup, 1) ∧
  decode (cM m_RingDater_help) 43 = .ok (.invokespecial 98, 3) ∧
  decode (cM m_RingDater_help) 46 = .ok (.athrow, 1) ∧
  decode (cM m_RingDater_help) 47 = .ok (.aload_n 0, 1) ∧
  decode (cM m_RingDater_help) 48 = .ok (.getfield 54, 3) ∧
  decode (cM m_RingDater_help) 51 = .ok (.iload_n 1, 1) ∧
  decode (cM m_RingDater_help) 52 = .ok (.invokevirtual 178, 3) ∧
  invT 11 178 = some (m_Stock_timberAt, 0) ∧
  nM m_Stock_timberAt = 2 ∧
  oM m_Stock_timberAt = 8 ∧
  rkM m_Stock_timberAt = 3 ∧
  dM m_Stock_timberAt = 1 ∧
  decode (cM m_RingDater_help) 55 = .ok (.astore_n 3, 1) ∧
  decode (cM m_RingDater_help) 56 = .ok (.aload_n 0, 1) ∧
  decode (cM m_RingDater_help) 57 = .ok (.invokevirtual 135, 3) ∧
  invT 11 135 = some (m_RingDater_layChronology, 0) ∧
  nM m_RingDater_layChronology = 1 ∧
  oM m_RingDater_layChronology = 11 ∧
  rkM m_RingDater_layChronology = 0 ∧
  dM m_RingDater_layChronology = 4 ∧
  decode (cM m_RingDater_help) 60 = .ok (.iconst 0, 1) ∧
  decode (cM m_RingDater_help) 61 = .ok (.istore 4, 2) ∧
  decode (cM m_RingDater_help) 63 = .ok (.aload_n 0, 1) ∧
  decode (cM m_RingDater_help) 64 = .ok (.aload_n 3, 1) ∧
  decode (cM m_RingDater_help) 65 = .ok (.invokevirtual 312, 3) ∧
  invT 11 312 = some (m_RingDater_scoreHere, 0) ∧
  nM m_RingDater_scoreHere = 2 ∧
  oM m_RingDater_scoreHere = 11 ∧
  rkM m_RingDater_scoreHere = 1 ∧
  dM m_RingDater_scoreHere = 5 ∧
  decode (cM m_RingDater_help) 68 = .ok (.istore 5, 2) ∧
  decode (cM m_RingDater_help) 70 = .ok (.iconst 0, 1) ∧
  decode (cM m_RingDater_help) 71 = .ok (.istore 6, 2) ∧
  decode (cM m_RingDater_help) 73 = .ok (.iload 6, 2) ∧
  decode (cM m_RingDater_help) 75 = .ok (.aload_n 3, 1) ∧
  decode (cM m_RingDater_help) 76 = .ok (.getfield 185, 3) ∧
  fldT 11 185 = some (9, 2, 0) ∧
  decode (cM m_RingDater_help) 79 = .ok (.if_icmp .ge 36, 3) ∧
  am_okt 79 36 ∧
  am_tgt 79 36 = 115 ∧
  decode (cM m_RingDater_help) 82 = .ok (.aload_n 0, 1) ∧
  decode (cM m_RingDater_help) 83 = .ok (.aload_n 3, 1) ∧
  decode (cM m_RingDater_help) 84 = .ok (.iload 6, 2) ∧
  decode (cM m_RingDater_help) 86 = .ok (.invokevirtual 316, 3) ∧
  invT 11 316 = some (m_RingDater_scoreWithout, 0) ∧
  nM m_RingDater_scoreWithout = 3 ∧
  oM m_RingDater_scoreWithout = 11 ∧
  rkM m_RingDater_scoreWithout = 1 ∧
  dM m_RingDater_scoreWithout = 6 ∧
  decode (cM m_RingDater_help) 89 = .ok (.istore 7, 2) ∧
  decode (cM m_RingDater_help) 91 = .ok (.iload 7, 2) ∧
  decode (cM m_RingDater_help) 93 = .ok (.iload 5, 2) ∧
  decode (cM m_RingDater_help) 95 = .ok (.if_icmp .le 14, 3) ∧
  am_okt 95 14 ∧
  am_tgt 95 14 = 109 ∧
  decode (cM m_RingDater_help) 98 = .ok (.iload 7, 2) ∧
  decode (cM m_RingDater_help) 100 = .ok (.istore 5, 2) ∧
  decode (cM m_RingDater_help) 102 = .ok (.bipush 100, 2) ∧
  decode (cM m_RingDater_help) 104 = .ok (.iload 6, 2) ∧
  decode (cM m_RingDater_help) 106 = .ok (.iadd, 1) ∧
  decode (cM m_RingDater_help) 107 = .ok (.istore 4, 2) ∧
  decode (cM m_RingDater_help) 109 = .ok (.iinc 6 1, 3) ∧
  decode (cM m_RingDater_help) 112 = .ok (.goto (-39), 3) ∧
  am_okt 112 (-39) ∧
  am_tgt 112 (-39) = 73 ∧
  decode (cM m_RingDater_help) 115 = .ok (.iconst 1, 1) ∧
  decode (cM m_RingDater_help) 116 = .ok (.istore 6, 2) ∧
  decode (cM m_RingDater_help) 118 = .ok (.iload 6, 2) ∧
  decode (cM m_RingDater_help) 120 = .ok (.aload_n 3, 1) ∧
  decode (cM m_RingDater_help) 121 = .ok (.getfield 185, 3) ∧
  decode (cM m_RingDater_help) 124 = .ok (.if_icmp .ge 37, 3) ∧
  am_okt 124 37 ∧
  am_tgt 124 37 = 161 ∧
  decode (cM m_RingDater_help) 127 = .ok (.aload_n 0, 1) ∧
  decode (cM m_RingDater_help) 128 = .ok (.aload_n 3, 1) ∧
  decode (cM m_RingDater_help) 129 = .ok (.iload 6, 2) ∧
  decode (cM m_RingDater_help) 131 = .ok (.invokevirtual 320, 3) ∧
  invT 11 320 = some (m_RingDater_scoreWithOneMore, 0) ∧
  nM m_RingDater_scoreWithOneMore = 3 ∧
  oM m_RingDater_scoreWithOneMore = 11 ∧
  rkM m_RingDater_scoreWithOneMore = 1 ∧
  dM m_RingDater_scoreWithOneMore = 6 ∧
  decode (cM m_RingDater_help) 134 = .ok (.istore 7, 2) ∧
  decode (cM m_RingDater_help) 136 = .ok (.iload 7, 2) ∧
  decode (cM m_RingDater_help) 138 = .ok (.iload 5, 2) ∧
  decode (cM m_RingDater_help) 140 = .ok (.if_icmp .le 15, 3) ∧
  am_okt 140 15 ∧
  am_tgt 140 15 = 155 ∧
  decode (cM m_RingDater_help) 143 = .ok (.iload 7, 2) ∧
  decode (cM m_RingDater_help) 145 = .ok (.istore 5, 2) ∧
  decode (cM m_RingDater_help) 147 = .ok (.sipush 200, 3) ∧
  decode (cM m_RingDater_help) 150 = .ok (.iload 6, 2) ∧
  decode (cM m_RingDater_help) 152 = .ok (.iadd, 1) ∧
  decode (cM m_RingDater_help) 153 = .ok (.istore 4, 2) ∧
  decode (cM m_RingDater_help) 155 = .ok (.iinc 6 1, 3) ∧
  decode (cM m_RingDater_help) 158 = .ok (.goto (-40), 3) ∧
  am_okt 158 (-40) ∧
  am_tgt 158 (-40) = 118 ∧
  decode (cM m_RingDater_help) 161 = .ok (.iload_n 2, 1) ∧
  decode (cM m_RingDater_help) 162 = .ok (.ifCond .ne 8, 3) ∧
  am_okt 162 8 ∧
  am_tgt 162 8 = 170 ∧
  decode (cM m_RingDater_help) 165 = .ok (.iload 4, 2) ∧
  decode (cM m_RingDater_help) 167 = .ok (.goto 5, 3) ∧
  am_okt 167 5 ∧
  am_tgt 167 5 = 172 ∧
  decode (cM m_RingDater_help) 170 = .ok (.iload 5, 2) ∧
  decode (cM m_RingDater_help) 172 = .ok (.ireturn, 1) :=
  ⟨rfl, rfl, rfl, rfl, by decide +kernel, by decide +kernel, rfl, by decide +kernel, by decide +kernel, rfl, rfl, rfl, rfl, rfl, by decide +kernel, rfl, rfl, by decide +kernel, by decide +kernel, rfl, rfl, by decide +kernel, by decide +kernel, by decide +kernel, rfl, rfl, by decide +kernel, rfl, by decide +kernel, by decide +kernel, by decide +kernel, by decide +kernel, by decide +kernel, by decide +kernel, by decide +kernel, rfl, rfl, rfl, rfl, rfl, by decide +kernel, rfl, rfl, by decide +kernel, rfl, by decide +kernel, by decide +kernel, by decide +kernel, by decide +kernel, by decide +kernel, by decide +kernel, by decide +kernel, rfl, rfl, rfl, rfl, rfl, by decide +kernel, by decide +kernel, by decide +kernel, rfl, rfl, rfl, rfl, rfl, by decide +kernel, by decide +kernel, by decide +kernel, by decide +kernel, by decide +kernel, rfl, rfl, rfl, rfl, rfl, by decide +kernel, by decide +kernel, by decide +kernel, by decide +kernel, by decide +kernel, by decide +kernel, rfl, by decide +kernel, rfl, rfl, by decide +kernel, by decide +kernel, by decide +kernel, by decide +kernel, rfl, rfl, rfl, rfl, rfl, by decide +kernel, by decide +kernel, by decide +kernel, by decide +kernel, rfl, rfl, by decide +kernel, by decide +kernel, by decide +kernel, by decide +kernel, by decide +kernel, by decide +kernel, by decide +kernel, by decide +kernel, rfl, rfl, by decide +kernel, by decide +kernel, by decide +kernel, by decide +kernel, by decide +kernel, by decide +kernel, rfl, rfl, by decide +kernel, by decide +kernel, by decide +kernel, by decide +kernel, rfl, rfl, rfl, rfl, rfl, by decide +kernel, by decide +kernel, by decide +kernel, by decide +kernel, rfl, rfl, by decide +kernel, by decide +kernel, by decide +kernel, by decide +kernel, by decide +kernel, by decide +kernel, by decide +kernel, by decide +kernel, rfl, rfl, by decide +kernel, by decide +kernel, rfl, rfl, by decide +kernel, by decide +kernel, rfl, rfl, by decide +kernel, by decide +kernel⟩
set_option maxRecDepth 100000 in
set_option maxHeartbeats 4000000 in
theorem C_RingDater_scoreHere : oM m_RingDater_scoreHere = 11 ∧
  rkM m_RingDater_scoreHere = 1 ∧
  dM m_RingDater_scoreHere = 5 ∧
  lM m_RingDater_scoreHere = 3 ∧
  decode (cM m_RingDater_scoreHere) 0 = .ok (.aload_n 0, 1) ∧
  decode (cM m_RingDater_scoreHere) 1 = .ok (.getfield 19, 3) ∧
  fldT 11 19 = some (11, 1, 2) ∧
  decode (cM m_RingDater_scoreHere) 4 = .ok (.aload_n 1, 1) ∧
  decode (cM m_RingDater_scoreHere) 5 = .ok (.aload_n 0, 1) ∧
  decode (cM m_RingDater_scoreHere) 6 = .ok (.getfield 54, 3) ∧
  fldT 11 54 = some (11, 6, 2) ∧
  decode (cM m_RingDater_scoreHere) 9 = .ok (.getfield 125, 3) ∧
  fldT 11 125 = some (8, 5, 0) ∧
  decode (cM m_RingDater_scoreHere) 12 = .ok (.invokevirtual 407, 3) ∧
  invT 11 407 = some (m_Bench_seekOnChronology, 0) ∧
  nM m_Bench_seekOnChronology = 3 ∧
  oM m_Bench_seekOnChronology = 0 ∧
  rkM m_Bench_seekOnChronology = 3 ∧
  dM m_Bench_seekOnChronology = 4 ∧
  decode (cM m_RingDater_scoreHere) 15 = .ok (.astore_n 2, 1) ∧
  decode (cM m_RingDater_scoreHere) 16 = .ok (.aload_n 2, 1) ∧
  decode (cM m_RingDater_scoreHere) 17 = .ok (.getfield 296, 3) ∧
  fldT 11 296 = some (1, 1, 1) ∧
  decode (cM m_RingDater_scoreHere) 20 = .ok (.ifCond .eq 10, 3) ∧
  am_okt 20 10 ∧
  am_tgt 20 10 = 30 ∧
  decode (cM m_RingDater_scoreHere) 23 = .ok (.aload_n 2, 1) ∧
  decode (cM m_RingDater_scoreHere) 24 = .ok (.getfield 302, 3) ∧
  fldT 11 302 = some (1, 3, 0) ∧
  decode (cM m_RingDater_scoreHere) 27 = .ok (.goto 4, 3) ∧
  am_okt 27 4 ∧
  am_tgt 27 4 = 31 ∧
  decode (cM m_RingDater_scoreHere) 30 = .ok (.iconst 0, 1) ∧
  decode (cM m_RingDater_scoreHere) 31 = .ok (.ireturn, 1) :=
  ⟨rfl, rfl, rfl, rfl, by decide +kernel, by decide +kernel, rfl, by decide +kernel, by decide +kernel, by decide +kernel, rfl, by decide +kernel, rfl, by decide +kernel, rfl, rfl, rfl, rfl, rfl, by decide +kernel, by decide +kernel, by decide +kernel, rfl, by decide +kernel, rfl, rfl, by decide +kernel, by decide +kernel, rfl, by decide +kernel, rfl, rfl, by decide +kernel, by decide +kernel⟩
set_option maxRecDepth 100000 in
set_option maxHeartbeats 4000000 in
theorem C_RingDater_scoreWithout : oM m_RingDater_scoreWithout = 11 ∧
  rkM m_RingDater_scoreWithout = 1 ∧
  dM m_RingDater_scoreWithout = 6 ∧
  lM m_RingDater_scoreWithout = 3 ∧
  decode (cM m_RingDater_scoreWithout) 0 = .ok (.aload_n 1, 1) ∧
  decode (cM m_RingDater_scoreWithout) 1 = .ok (.iload_n 2, 1) ∧
  decode (cM m_RingDater_scoreWithout) 2 = .ok (.invokevirtual 343, 3) ∧
  invT 11 343 = some (m_Timber_canLose, 0) ∧
  nM m_Timber_canLose = 2 ∧
  oM m_Timber_canLose = 9 ∧
  rkM m_Timber_canLose = 2 ∧
  dM m_Timber_canLose = 1 ∧
  decode (cM m_RingDater_scoreWithout) 5 = .ok (.ifCond .ne 5, 3) ∧
  am_okt 5 5 ∧
  am_tgt 5 5 = 10 ∧
  decode (cM m_RingDater_scoreWithout) 8 = .ok (.iconst (-1), 1) ∧
  decode (cM m_RingDater_scoreWithout) 9 = .ok (.ireturn, 1) ∧
  decode (cM m_RingDater_scoreWithout) 10 = .ok (.aload_n 0, 1) ∧
  decode (cM m_RingDater_scoreWithout) 11 = .ok (.getfield 40, 3) ∧
  fldT 11 40 = some (11, 4, 2) ∧
  decode (cM m_RingDater_scoreWithout) 14 = .ok (.aload_n 1, 1) ∧
  decode (cM m_RingDater_scoreWithout) 15 = .ok (.invokevirtual 411, 3) ∧
  invT 11 411 = some (m_Timber_copyFrom, 0) ∧
  nM m_Timber_copyFrom = 2 ∧
  oM m_Timber_copyFrom = 9 ∧
  rkM m_Timber_copyFrom = 0 ∧
  dM m_Timber_copyFrom = 0 ∧
  decode (cM m_RingDater_scoreWithout) 18 = .ok (.aload_n 0, 1) ∧
  decode (cM m_RingDater_scoreWithout) 19 = .ok (.getfield 40, 3) ∧
  decode (cM m_RingDater_scoreWithout) 22 = .ok (.iload_n 2, 1) ∧
  decode (cM m_RingDater_scoreWithout) 23 = .ok (.invokevirtual 349, 3) ∧
  invT 11 349 = some (m_Timber_removeRing, 0) ∧
  nM m_Timber_removeRing = 2 ∧
  oM m_Timber_removeRing = 9 ∧
  rkM m_Timber_removeRing = 0 ∧
  dM m_Timber_removeRing = 1 ∧
  decode (cM m_RingDater_scoreWithout) 26 = .ok (.aload_n 0, 1) ∧
  decode (cM m_RingDater_scoreWithout) 27 = .ok (.aload_n 0, 1) ∧
  decode (cM m_RingDater_scoreWithout) 28 = .ok (.getfield 40, 3) ∧
  decode (cM m_RingDater_scoreWithout) 31 = .ok (.invokevirtual 312, 3) ∧
  invT 11 312 = some (m_RingDater_scoreHere, 0) ∧
  nM m_RingDater_scoreHere = 2 ∧
  oM m_RingDater_scoreHere = 11 ∧
  rkM m_RingDater_scoreHere = 1 ∧
  dM m_RingDater_scoreHere = 5 ∧
  decode (cM m_RingDater_scoreWithout) 34 = .ok (.ireturn, 1) :=
  ⟨rfl, rfl, rfl, rfl, by decide +kernel, by decide +kernel, by decide +kernel, rfl, rfl, rfl, rfl, rfl, by decide +kernel, rfl, rfl, by decide +kernel, by decide +kernel, by decide +kernel, by decide +kernel, rfl, by decide +kernel, by decide +kernel, rfl, rfl, rfl, rfl, rfl, by decide +kernel, by decide +kernel, by decide +kernel, by decide +kernel, rfl, rfl, rfl, rfl, rfl, by decide +kernel, by decide +kernel, by decide +kernel, by decide +kernel, rfl, rfl, rfl, rfl, rfl, by decide +kernel⟩
set_option maxRecDepth 100000 in
set_option maxHeartbeats 4000000 in
theorem C_RingDater_scoreWithOneMore : oM m_RingDater_scoreWithOneMore = 11 ∧
  rkM m_RingDater_scoreWithOneMore = 1 ∧
  dM m_RingDater_scoreWithOneMore = 6 ∧
  lM m_RingDater_scoreWithOneMore = 3 ∧
  decode (cM m_RingDater_scoreWithOneMore) 0 = .ok (.aload_n 1, 1) ∧
  decode (cM m_RingDater_scoreWithOneMore) 1 = .ok (.iload_n 2, 1) ∧
  decode (cM m_RingDater_scoreWithOneMore) 2 = .ok (.invokevirtual 340, 3) ∧
  invT 11 340 = some (m_Timber_canGain, 0) ∧
  nM m_Timber_canGain = 2 ∧
  oM m_Timber_canGain = 9 ∧
  rkM m_Timber_canGain = 2 ∧
  dM m_Timber_canGain = 1 ∧
  decode (cM m_RingDater_scoreWithOneMore) 5 = .ok (.ifCond .ne 5, 3) ∧
  am_okt 5 5 ∧
  am_tgt 5 5 = 10 ∧
  decode (cM m_RingDater_scoreWithOneMore) 8 = .ok (.iconst (-1), 1) ∧
  decode (cM m_RingDater_scoreWithOneMore) 9 = .ok (.ireturn, 1) ∧
  decode (cM m_RingDater_scoreWithOneMore) 10 = .ok (.aload_n 0, 1) ∧
  decode (cM m_RingDater_scoreWithOneMore) 11 = .ok (.getfield 40, 3) ∧
  fldT 11 40 = some (11, 4, 2) ∧
  decode (cM m_RingDater_scoreWithOneMore) 14 = .ok (.aload_n 1, 1) ∧
  decode (cM m_RingDater_scoreWithOneMore) 15 = .ok (.invokevirtual 411, 3) ∧
  invT 11 411 = some (m_Timber_copyFrom, 0) ∧
  nM m_Timber_copyFrom = 2 ∧
  oM m_Timber_copyFrom = 9 ∧
  rkM m_Timber_copyFrom = 0 ∧
  dM m_Timber_copyFrom = 0 ∧
  decode (cM m_RingDater_scoreWithOneMore) 18 = .ok (.aload_n 0, 1) ∧
  decode (cM m_RingDater_scoreWithOneMore) 19 = .ok (.getfield 40, 3) ∧
  decode (cM m_RingDater_scoreWithOneMore) 22 = .ok (.iload_n 2, 1) ∧
  decode (cM m_RingDater_scoreWithOneMore) 23 = .ok (.iconst 1, 1) ∧
  decode (cM m_RingDater_scoreWithOneMore) 24 = .ok (.invokevirtual 346, 3) ∧
  invT 11 346 = some (m_Timber_insertRing, 0) ∧
  nM m_Timber_insertRing = 3 ∧
  oM m_Timber_insertRing = 9 ∧
  rkM m_Timber_insertRing = 0 ∧
  dM m_Timber_insertRing = 0 ∧
  decode (cM m_RingDater_scoreWithOneMore) 27 = .ok (.aload_n 0, 1) ∧
  decode (cM m_RingDater_scoreWithOneMore) 28 = .ok (.aload_n 0, 1) ∧
  decode (cM m_RingDater_scoreWithOneMore) 29 = .ok (.getfield 40, 3) ∧
  decode (cM m_RingDater_scoreWithOneMore) 32 = .ok (.invokevirtual 312, 3) ∧
  invT 11 312 = some (m_RingDater_scoreHere, 0) ∧
  nM m_RingDater_scoreHere = 2 ∧
  oM m_RingDater_scoreHere = 11 ∧
  rkM m_RingDater_scoreHere = 1 ∧
  dM m_RingDater_scoreHere = 5 ∧
  decode (cM m_RingDater_scoreWithOneMore) 35 = .ok (.ireturn, 1) :=
  ⟨rfl, rfl, rfl, rfl, by decide +kernel, by decide +kernel, by decide +kernel, rfl, rfl, rfl, rfl, rfl, by decide +kernel, rfl, rfl, by decide +kernel, by decide +kernel, by decide +kernel, by decide +kernel, rfl, by decide +kernel, by decide +kernel, rfl, rfl, rfl, rfl, rfl, by decide +kernel, by decide +kernel, by decide +kernel, by decide +kernel, by decide +kernel, rfl, rfl, rfl, rfl, rfl, by decide +kernel, by decide +kernel, by decide +kernel, by decide +kernel, rfl, rfl, rfl, rfl, rfl, by decide +kernel⟩
set_option maxRecDepth 100000 in
set_option maxHeartbeats 4000000 in
theorem C_RingDater_fits : oM m_RingDater_fits = 11 ∧
  rkM m_RingDater_fits = 1 ∧
  dM m_RingDater_fits = 7 ∧
  lM m_RingDater_fits = 5 ∧
  decode (cM m_RingDater_fits) 0 = .ok (.iload_n 1, 1) ∧
  decode (cM m_RingDater_fits) 1 = .ok (.ifCond .lt 8, 3) ∧
  am_okt 1 8 ∧
  am_tgt 1 8 = 9 ∧
  decode (cM m_RingDater_fits) 4 = .ok (.iload_n 1, 1) ∧
  decode (cM m_RingDater_fits) 5 = .ok (.iconst 1, 1) ∧
  decode (cM m_RingDater_fits) 6 = .ok (.if_icmp .le 11, 3) ∧
  am_okt 6 11 ∧
  am_tgt 6 11 = 17 ∧
  decode (cM m_RingDater_fits) 9 = .ok (.new 171, 3) ∧
  excT 11 171 = some (0, 173) ∧
  decode (cM m_RingDater_fits) 12 = .ok (.dup, 1) ∧
  decode (cM m_RingDater_fits) 13 = .ok (.invokespecial 173, 3) ∧
  decode (cM m_RingDater_fits) 16 = .ok (.athrow, 1) ∧
  decode (cM m_RingDater_fits) 17 = .ok (.aload_n 0, 1) ∧
  decode (cM m_RingDater_fits) 18 = .ok (.getfield 33, 3) ∧
  fldT 11 33 = some (11, 3, 2) ∧
  decode (cM m_RingDater_fits) 21 = .ok (.aload_n 0, 1) ∧
  decode (cM m_RingDater_fits) 22 = .ok (.getfield 54, 3) ∧
  fldT 11 54 = some (11, 6, 2) ∧
  decode (cM m_RingDater_fits) 25 = .ok (.aload_n 0, 1) ∧
  decode (cM m_RingDater_fits) 26 = .ok (.getfield 19, 3) ∧
  fldT 11 19 = some (11, 1, 2) ∧
  decode (cM m_RingDater_fits) 29 = .ok (.bipush 50, 2) ∧
  decode (cM m_RingDater_fits) 31 = .ok (.invokevirtual 167, 3) ∧
  invT 11 167 = some (m_Growth_run, 0) ∧
  nM m_Growth_run = 4 ∧
  oM m_Growth_run = 2 ∧
  rkM m_Growth_run = 1 ∧
  dM m_Growth_run = 6 ∧
  decode (cM m_RingDater_fits) 34 = .ok (.pop, 1) ∧
  decode (cM m_RingDater_fits) 35 = .ok (.iconst 0, 1) ∧
  decode (cM m_RingDater_fits) 36 = .ok (.istore_n 2, 1) ∧
  decode (cM m_RingDater_fits) 37 = .ok (.iconst (-1), 1) ∧
  decode (cM m_RingDater_fits) 38 = .ok (.istore_n 3, 1) ∧
  decode (cM m_RingDater_fits) 39 = .ok (.bipush 50, 2) ∧
  decode (cM m_RingDater_fits) 41 = .ok (.istore 4, 2) ∧
  decode (cM m_RingDater_fits) 43 = .ok (.iload 4, 2) ∧
  decode (cM m_RingDater_fits) 45 = .ok (.bipush 100, 2) ∧
  decode (cM m_RingDater_fits) 47 = .ok (.if_icmp .gt 44, 3) ∧
  am_okt 47 44 ∧
  am_tgt 47 44 = 91 ∧
  decode (cM m_RingDater_fits) 50 = .ok (.aload_n 0, 1) ∧
  decode (cM m_RingDater_fits) 51 = .ok (.getfield 68, 3) ∧
  fldT 11 68 = some (11, 8, 2) ∧
  decode (cM m_RingDater_fits) 54 = .ok (.aload_n 0, 1) ∧
  decode (cM m_RingDater_fits) 55 = .ok (.getfield 54, 3) ∧
  decode (cM m_RingDater_fits) 58 = .ok (.aload_n 0, 1) ∧
  decode (cM m_RingDater_fits) 59 = .ok (.getfield 33, 3) ∧
  decode (cM m_RingDater_fits) 62 = .ok (.iload 4, 2) ∧
  decode (cM m_RingDater_fits) 64 = .ok (.invokevirtual 362, 3) ∧
  invT 11 362 = some (m_Notes_agree, 0) ∧
  nM m_Notes_agree = 4 ∧
  oM m_Notes_agree = 4 ∧
  rkM m_Notes_agree = 2 ∧
  dM m_Notes_agree = 3 ∧
  decode (cM m_RingDater_fits) 67 = .ok (.ifCond .eq 18, 3) ∧
  am_okt 67 18 ∧
  am_tgt 67 18 = 85 ∧
  decode (cM m_RingDater_fits) 70 = .ok (.iinc 2 1, 3) ∧
  decode (cM m_RingDater_fits) 73 = .ok (.iload_n 3, 1) ∧
  decode (cM m_RingDater_fits) 74 = .ok (.iconst (-1), 1) ∧
  decode (cM m_RingDater_fits) 75 = .ok (.if_icmp .ne 8, 3) ∧
  am_okt 75 8 ∧
  am_tgt 75 8 = 83 ∧
  decode (cM m_RingDater_fits) 78 = .ok (.iload 4, 2) ∧
  decode (cM m_RingDater_fits) 80 = .ok (.goto 4, 3) ∧
  am_okt 80 4 ∧
  am_tgt 80 4 = 84 ∧
  decode (cM m_RingDater_fits) 83 = .ok (.iload_n 3, 1) ∧
  decode (cM m_RingDater_fits) 84 = .ok (.istore_n 3, 1) ∧
  decode (cM m_RingDater_fits) 85 = .ok (.iinc 4 1, 3) ∧
  decode (cM m_RingDater_fits) 88 = .ok (.goto (-45), 3) ∧
  am_okt 88 (-45) ∧
  am_tgt 88 (-45) = 43 ∧
  decode (cM m_RingDater_fits) 91 = .ok (.iload_n 1, 1) ∧
  decode (cM m_RingDater_fits) 92 = .ok (.ifCond .ne 7, 3) ∧
  am_okt 92 7 ∧
  am_tgt 92 7 = 99 ∧
  decode (cM m_RingDater_fits) 95 = .ok (.iload_n 2, 1) ∧
  decode (cM m_RingDater_fits) 96 = .ok (.goto 4, 3) ∧
  am_okt 96 4 ∧
  am_tgt 96 4 = 100 ∧
  decode (cM m_RingDater_fits) 99 = .ok (.iload_n 3, 1) ∧
  decode (cM m_RingDater_fits) 100 = .ok (.ireturn, 1) :=
  ⟨rfl, rfl, rfl, rfl, by decide +kernel, by decide +kernel, rfl, rfl, by decide +kernel, by decide +kernel, by decide +kernel, rfl, rfl, by decide +kernel, rfl, by decide +kernel, by decide +kernel, by decide +kernel, by decide +kernel, by decide +kernel, rfl, by decide +kernel, by decide +kernel, rfl, by decide +kernel, by decide +kernel, rfl, by decide +kernel, by decide +kernel, rfl, rfl, rfl, rfl, rfl, by decide +kernel, by decide +kernel, by decide +kernel, by decide +kernel, by decide +kernel, by decide +kernel, by decide +kernel, by decide +kernel, by decide +kernel, by decide +kernel, rfl, rfl, by decide +kernel, by decide +kernel, rfl, by decide +kernel, by decide +kernel, by decide +kernel, by decide +kernel, by decide +kernel, by decide +kernel, rfl, rfl, rfl, rfl, rfl, by decide +kernel, rfl, rfl, by decide +kernel, by decide +kernel, by decide +kernel, by decide +kernel, rfl, rfl, by decide +kernel, by decide +kernel, rfl, rfl, by decide +kernel, by decide +kernel, by decide +kernel, by decide +kernel, rfl, rfl, by decide +kernel, by decide +kernel, rfl, rfl, by decide +kernel, by decide +kernel, rfl, rfl, by decide +kernel, by decide +kernel⟩
set_option maxRecDepth 100000 in
set_option maxHeartbeats 4000000 in
theorem C_RingDater_look : oM m_RingDater_look = 11 ∧
  rkM m_RingDater_look = 1 ∧
  dM m_RingDater_look = 7 ∧
  lM m_RingDater_look = 6 ∧
  decode (cM m_RingDater_look) 0 = .ok (.iload_n 1, 1) ∧
  decode (cM m_RingDater_look) 1 = .ok (.ifCond .lt 8, 3) ∧
  am_okt 1 8 ∧
  am_tgt 1 8 = 9 ∧
  decode (cM m_RingDater_look) 4 = .ok (.iload_n 1, 1) ∧
  decode (cM m_RingDater_look) 5 = .ok (.iconst 1, 1) ∧
  decode (cM m_RingDater_look) 6 = .ok (.if_icmp .le 11, 3) ∧
  am_okt 6 11 ∧
  am_tgt 6 11 = 17 ∧
  decode (cM m_RingDater_look) 9 = .ok (.new 171, 3) ∧
  excT 11 171 = some (0, 173) ∧
  decode (cM m_RingDater_look) 12 = .ok (.dup, 1) ∧
  decode (cM m_RingDater_look) 13 = .ok (.invokespecial 173, 3) ∧
  decode (cM m_RingDater_look) 16 = .ok (.athrow, 1) ∧
  decode (cM m_RingDater_look) 17 = .ok (.aload_n 0, 1) ∧
  decode (cM m_RingDater_look) 18 = .ok (.getfield 33, 3) ∧
  fldT 11 33 = some (11, 3, 2) ∧
  decode (cM m_RingDater_look) 21 = .ok (.aload_n 0, 1) ∧
  decode (cM m_RingDater_look) 22 = .ok (.getfield 54, 3) ∧
  fldT 11 54 = some (11, 6, 2) ∧
  decode (cM m_RingDater_look) 25 = .ok (.aload_n 0, 1) ∧
  decode (cM m_RingDater_look) 26 = .ok (.getfield 19, 3) ∧
  fldT 11 19 = some (11, 1, 2) ∧
  decode (cM m_RingDater_look) 29 = .ok (.bipush 50, 2) ∧
  decode (cM m_RingDater_look) 31 = .ok (.invokevirtual 167, 3) ∧
  invT 11 167 = some (m_Growth_run, 0) ∧
  nM m_Growth_run = 4 ∧
  oM m_Growth_run = 2 ∧
  rkM m_Growth_run = 1 ∧
  dM m_Growth_run = 6 ∧
  decode (cM m_RingDater_look) 34 = .ok (.pop, 1) ∧
  decode (cM m_RingDater_look) 35 = .ok (.iconst (-1), 1) ∧
  decode (cM m_RingDater_look) 36 = .ok (.istore_n 2, 1) ∧
  decode (cM m_RingDater_look) 37 = .ok (.iconst 0, 1) ∧
  decode (cM m_RingDater_look) 38 = .ok (.istore_n 3, 1) ∧
  decode (cM m_RingDater_look) 39 = .ok (.iconst 0, 1) ∧
  decode (cM m_RingDater_look) 40 = .ok (.istore 4, 2) ∧
  decode (cM m_RingDater_look) 42 = .ok (.iload 4, 2) ∧
  decode (cM m_RingDater_look) 44 = .ok (.aload_n 0, 1) ∧
  decode (cM m_RingDater_look) 45 = .ok (.getfield 54, 3) ∧
  decode (cM m_RingDater_look) 48 = .ok (.getfield 121, 3) ∧
  fldT 11 121 = some (8, 3, 0) ∧
  decode (cM m_RingDater_look) 51 = .ok (.if_icmp .ge 29, 3) ∧
  am_okt 51 29 ∧
  am_tgt 51 29 = 80 ∧
  decode (cM m_RingDater_look) 54 = .ok (.aload_n 0, 1) ∧
  decode (cM m_RingDater_look) 55 = .ok (.iload 4, 2) ∧
  decode (cM m_RingDater_look) 57 = .ok (.invokevirtual 366, 3) ∧
  invT 11 366 = some (m_RingDater_countUnlikeYears, 0) ∧
  nM m_RingDater_countUnlikeYears = 2 ∧
  oM m_RingDater_countUnlikeYears = 11 ∧
  rkM m_RingDater_countUnlikeYears = 1 ∧
  dM m_RingDater_countUnlikeYears = 4 ∧
  decode (cM m_RingDater_look) 60 = .ok (.istore 5, 2) ∧
  decode (cM m_RingDater_look) 62 = .ok (.iload 5, 2) ∧
  decode (cM m_RingDater_look) 64 = .ok (.iload_n 3, 1) ∧
  decode (cM m_RingDater_look) 65 = .ok (.if_icmp .le 9, 3) ∧
  am_okt 65 9 ∧
  am_tgt 65 9 = 74 ∧
  decode (cM m_RingDater_look) 68 = .ok (.iload 5, 2) ∧
  decode (cM m_RingDater_look) 70 = .ok (.istore_n 3, 1) ∧
  decode (cM m_RingDater_look) 71 = .ok (.iload 4, 2) ∧
  decode (cM m_RingDater_look) 73 = .ok (.istore_n 2, 1) ∧
  decode (cM m_RingDater_look) 74 = .ok (.iinc 4 1, 3) ∧
  decode (cM m_RingDater_look) 77 = .ok (.goto (-35), 3) ∧
  am_okt 77 (-35) ∧
  am_tgt 77 (-35) = 42 ∧
  decode (cM m_RingDater_look) 80 = .ok (.iload_n 1, 1) ∧
  decode (cM m_RingDater_look) 81 = .ok (.ifCond .ne 7, 3) ∧
  am_okt 81 7 ∧
  am_tgt 81 7 = 88 ∧
  decode (cM m_RingDater_look) 84 = .ok (.iload_n 2, 1) ∧
  decode (cM m_RingDater_look) 85 = .ok (.goto 4, 3) ∧
  am_okt 85 4 ∧
  am_tgt 85 4 = 89 ∧
  decode (cM m_RingDater_look) 88 = .ok (.iload_n 3, 1) ∧
  decode (cM m_RingDater_look) 89 = .ok (.ireturn, 1) :=
  ⟨rfl, rfl, rfl, rfl, by decide +kernel, by decide +kernel, rfl, rfl, by decide +kernel, by decide +kernel, by decide +kernel, rfl, rfl, by decide +kernel, rfl, by decide +kernel, by decide +kernel, by decide +kernel, by decide +kernel, by decide +kernel, rfl, by decide +kernel, by decide +kernel, rfl, by decide +kernel, by decide +kernel, rfl, by decide +kernel, by decide +kernel, rfl, rfl, rfl, rfl, rfl, by decide +kernel, by decide +kernel, by decide +kernel, by decide +kernel, by decide +kernel, by decide +kernel, by decide +kernel, by decide +kernel, by decide +kernel, by decide +kernel, by decide +kernel, rfl, by decide +kernel, rfl, rfl, by decide +kernel, by decide +kernel, by decide +kernel, rfl, rfl, rfl, rfl, rfl, by decide +kernel, by decide +kernel, by decide +kernel, by decide +kernel, rfl, rfl, by decide +kernel, by decide +kernel, by decide +kernel, by decide +kernel, by decide +kernel, by decide +kernel, rfl, rfl, by decide +kernel, by decide +kernel, rfl, rfl, by decide +kernel, by decide +kernel, rfl, rfl, by decide +kernel, by decide +kernel⟩
set_option maxRecDepth 100000 in
set_option maxHeartbeats 4000000 in
theorem C_RingDater_countUnlikeYears : oM m_RingDater_countUnlikeYears = 11 ∧
  rkM m_RingDater_countUnlikeYears = 1 ∧
  dM m_RingDater_countUnlikeYears = 4 ∧
  lM m_RingDater_countUnlikeYears = 6 ∧
  decode (cM m_RingDater_countUnlikeYears) 0 = .ok (.iconst 0, 1) ∧
  decode (cM m_RingDater_countUnlikeYears) 1 = .ok (.istore_n 2, 1) ∧
  decode (cM m_RingDater_countUnlikeYears) 2 = .ok (.iconst 0, 1) ∧
  decode (cM m_RingDater_countUnlikeYears) 3 = .ok (.istore_n 3, 1) ∧
  decode (cM m_RingDater_countUnlikeYears) 4 = .ok (.bipush 50, 2) ∧
  decode (cM m_RingDater_countUnlikeYears) 6 = .ok (.istore 4, 2) ∧
  decode (cM m_RingDater_countUnlikeYears) 8 = .ok (.iload 4, 2) ∧
  decode (cM m_RingDater_countUnlikeYears) 10 = .ok (.bipush 100, 2) ∧
  decode (cM m_RingDater_countUnlikeYears) 12 = .ok (.if_icmp .gt 84, 3) ∧
  am_okt 12 84 ∧
  am_tgt 12 84 = 96 ∧
  decode (cM m_RingDater_countUnlikeYears) 15 = .ok (.aload_n 0, 1) ∧
  decode (cM m_RingDater_countUnlikeYears) 16 = .ok (.getfield 68, 3) ∧
  fldT 11 68 = some (11, 8, 2) ∧
  decode (cM m_RingDater_countUnlikeYears) 19 = .ok (.aload_n 0, 1) ∧
  decode (cM m_RingDater_countUnlikeYears) 20 = .ok (.getfield 54, 3) ∧
  fldT 11 54 = some (11, 6, 2) ∧
  decode (cM m_RingDater_countUnlikeYears) 23 = .ok (.aload_n 0, 1) ∧
  decode (cM m_RingDater_countUnlikeYears) 24 = .ok (.getfield 33, 3) ∧
  fldT 11 33 = some (11, 3, 2) ∧
  decode (cM m_RingDater_countUnlikeYears) 27 = .ok (.iload 4, 2) ∧
  decode (cM m_RingDater_countUnlikeYears) 29 = .ok (.invokevirtual 362, 3) ∧
  invT 11 362 = some (m_Notes_agree, 0) ∧
  nM m_Notes_agree = 4 ∧
  oM m_Notes_agree = 4 ∧
  rkM m_Notes_agree = 2 ∧
  dM m_Notes_agree = 3 ∧
  decode (cM m_RingDater_countUnlikeYears) 32 = .ok (.ifCond .eq 58, 3) ∧
  am_okt 32 58 ∧
  am_tgt 32 58 = 90 ∧
  decode (cM m_RingDater_countUnlikeYears) 35 = .ok (.aload_n 0, 1) ∧
  decode (cM m_RingDater_countUnlikeYears) 36 = .ok (.getfield 33, 3) ∧
  decode (cM m_RingDater_countUnlikeYears) 39 = .ok (.aload_n 0, 1) ∧
  decode (cM m_RingDater_countUnlikeYears) 40 = .ok (.getfield 54, 3) ∧
  decode (cM m_RingDater_countUnlikeYears) 43 = .ok (.iload_n 1, 1) ∧
  decode (cM m_RingDater_countUnlikeYears) 44 = .ok (.iload 4, 2) ∧
  decode (cM m_RingDater_countUnlikeYears) 46 = .ok (.invokevirtual 418, 3) ∧
  invT 11 418 = some (m_Growth_yearBy, 0) ∧
  nM m_Growth_yearBy = 4 ∧
  oM m_Growth_yearBy = 2 ∧
  rkM m_Growth_yearBy = 1 ∧
  dM m_Growth_yearBy = 2 ∧
  decode (cM m_RingDater_countUnlikeYears) 49 = .ok (.iconst (-1), 1) ∧
  decode (cM m_RingDater_countUnlikeYears) 50 = .ok (.if_icmp .eq 7, 3) ∧
  am_okt 50 7 ∧
  am_tgt 50 7 = 57 ∧
  decode (cM m_RingDater_countUnlikeYears) 53 = .ok (.iconst 1, 1) ∧
  decode (cM m_RingDater_countUnlikeYears) 54 = .ok (.goto 4, 3) ∧
  am_okt 54 4 ∧
  am_tgt 54 4 = 58 ∧
  decode (cM m_RingDater_countUnlikeYears) 57 = .ok (.iconst 0, 1) ∧
  decode (cM m_RingDater_countUnlikeYears) 58 = .ok (.istore 5, 2) ∧
  decode (cM m_RingDater_countUnlikeYears) 60 = .ok (.iload_n 2, 1) ∧
  decode (cM m_RingDater_countUnlikeYears) 61 = .ok (.ifCond .ne 8, 3) ∧
  am_okt 61 8 ∧
  am_tgt 61 8 = 69 ∧
  decode (cM m_RingDater_countUnlikeYears) 64 = .ok (.iload 5, 2) ∧
  decode (cM m_RingDater_countUnlikeYears) 66 = .ok (.ifCond .eq 7, 3) ∧
  am_okt 66 7 ∧
  am_tgt 66 7 = 73 ∧
  decode (cM m_RingDater_countUnlikeYears) 69 = .ok (.iconst 1, 1) ∧
  decode (cM m_RingDater_countUnlikeYears) 70 = .ok (.goto 4, 3) ∧
  am_okt 70 4 ∧
  am_tgt 70 4 = 74 ∧
  decode (cM m_RingDater_countUnlikeYears) 73 = .ok (.iconst 0, 1) ∧
  decode (cM m_RingDater_countUnlikeYears) 74 = .ok (.istore_n 2, 1) ∧
  decode (cM m_RingDater_countUnlikeYears) 75 = .ok (.iload_n 3, 1) ∧
  decode (cM m_RingDater_countUnlikeYears) 76 = .ok (.ifCond .ne 8, 3) ∧
  am_okt 76 8 ∧
  am_tgt 76 8 = 84 ∧
  decode (cM m_RingDater_countUnlikeYears) 79 = .ok (.iload 5, 2) ∧
  decode (cM m_RingDater_countUnlikeYears) 81 = .ok (.ifCond .ne 7, 3) ∧
  am_okt 81 7 ∧
  am_tgt 81 7 = 88 ∧
  decode (cM m_RingDater_countUnlikeYears) 84 = .ok (.iconst 1, 1) ∧
  decode (cM m_RingDater_countUnlikeYears) 85 = .ok (.goto 4, 3) ∧
  am_okt 85 4 ∧
  am_tgt 85 4 = 89 ∧
  decode (cM m_RingDater_countUnlikeYears) 88 = .ok (.iconst 0, 1) ∧
  decode (cM m_RingDater_countUnlikeYears) 89 = .ok (.istore_n 3, 1) ∧
  decode (cM m_RingDater_countUnlikeYears) 90 = .ok (.iinc 4 1, 3) ∧
  decode (cM m_RingDater_countUnlikeYears) 93 = .ok (.goto (-85), 3) ∧
  am_okt 93 (-85) ∧
  am_tgt 93 (-85) = 8 ∧
  decode (cM m_RingDater_countUnlikeYears) 96 = .ok (.iload_n 2, 1) ∧
  decode (cM m_RingDater_countUnlikeYears) 97 = .ok (.ifCond .eq 7, 3) ∧
  am_okt 97 7 ∧
  am_tgt 97 7 = 104 ∧
  decode (cM m_RingDater_countUnlikeYears) 100 = .ok (.iconst 1, 1) ∧
  decode (cM m_RingDater_countUnlikeYears) 101 = .ok (.goto 4, 3) ∧
  am_okt 101 4 ∧
  am_tgt 101 4 = 105 ∧
  decode (cM m_RingDater_countUnlikeYears) 104 = .ok (.iconst 0, 1) ∧
  decode (cM m_RingDater_countUnlikeYears) 105 = .ok (.iload_n 3, 1) ∧
  decode (cM m_RingDater_countUnlikeYears) 106 = .ok (.ifCond .eq 7, 3) ∧
  am_okt 106 7 ∧
  am_tgt 106 7 = 113 ∧
  decode (cM m_RingDater_countUnlikeYears) 109 = .ok (.iconst 1, 1) ∧
  decode (cM m_RingDater_countUnlikeYears) 110 = .ok (.goto 4, 3) ∧
  am_okt 110 4 ∧
  am_tgt 110 4 = 114 ∧
  decode (cM m_RingDater_countUnlikeYears) 113 = .ok (.iconst 0, 1) ∧
  decode (cM m_RingDater_countUnlikeYears) 114 = .ok (.iadd, 1) ∧
  decode (cM m_RingDater_countUnlikeYears) 115 = .ok (.ireturn, 1) :=
  ⟨rfl, rfl, rfl, rfl, by decide +kernel, by decide +kernel, by decide +kernel, by decide +kernel, by decide +kernel, by decide +kernel, by decide +kernel, by decide +kernel, by decide +kernel, rfl, rfl, by decide +kernel, by decide +kernel, rfl, by decide +kernel, by decide +kernel, rfl, by decide +kernel, by decide +kernel, rfl, by decide +kernel, by decide +kernel, rfl, rfl, rfl, rfl, rfl, by decide +kernel, rfl, rfl, by decide +kernel, by decide +kernel, by decide +kernel, by decide +kernel, by decide +kernel, by decide +kernel, by decide +kernel, rfl, rfl, rfl, rfl, rfl, by decide +kernel, by decide +kernel, rfl, rfl, by decide +kernel, by decide +kernel, rfl, rfl, by decide +kernel, by decide +kernel, by decide +kernel, by decide +kernel, rfl, rfl, by decide +kernel, by decide +kernel, rfl, rfl, by decide +kernel, by decide +kernel, rfl, rfl, by decide +kernel, by decide +kernel, by decide +kernel, by decide +kernel, rfl, rfl, by decide +kernel, by decide +kernel, rfl, rfl, by decide +kernel, by decide +kernel, rfl, rfl, by decide +kernel, by decide +kernel, by decide +kernel, by decide +kernel, rfl, rfl, by decide +kernel, by decide +kernel, rfl, rfl, by decide +kernel, by decide +kernel, rfl, rfl, by decide +kernel, by decide +kernel, by decide +kernel, rfl, rfl, by decide +kernel, by decide +kernel, rfl, rfl, by decide +kernel, by decide +kernel, by decide +kernel⟩
set_option maxRecDepth 100000 in
set_option maxHeartbeats 4000000 in
theorem C_RingDater_chance : oM m_RingDater_chance = 11 ∧
  rkM m_RingDater_chance = 1 ∧
  dM m_RingDater_chance = 6 ∧
  lM m_RingDater_chance = 13 ∧
  decode (cM m_RingDater_chance) 0 = .ok (.aload_n 0, 1) ∧
  decode (cM m_RingDater_chance) 1 = .ok (.getfield 54, 3) ∧
  fldT 11 54 = some (11, 6, 2) ∧
  decode (cM m_RingDater_chance) 4 = .ok (.iload_n 1, 1) ∧
  decode (cM m_RingDater_chance) 5 = .ok (.invokevirtual 174, 3) ∧
  invT 11 174 = some (m_Stock_has, 0) ∧
  nM m_Stock_has = 2 ∧
  oM m_Stock_has = 8 ∧
  rkM m_Stock_has = 2 ∧
  dM m_Stock_has = 0 ∧
  decode (cM m_RingDater_chance) 8 = .ok (.ifCond .eq 14, 3) ∧
  am_okt 8 14 ∧
  am_tgt 8 14 = 22 ∧
  decode (cM m_RingDater_chance) 11 = .ok (.iload 4, 2) ∧
  decode (cM m_RingDater_chance) 13 = .ok (.ifCond .lt 9, 3) ∧
  am_okt 13 9 ∧
  am_tgt 13 9 = 22 ∧
  decode (cM m_RingDater_chance) 16 = .ok (.iload 4, 2) ∧
  decode (cM m_RingDater_chance) 18 = .ok (.iconst 2, 1) ∧
  decode (cM m_RingDater_chance) 19 = .ok (.if_icmp .le 11, 3) ∧
  am_okt 19 11 ∧
  am_tgt 19 11 = 30 ∧
  decode (cM m_RingDater_chance) 22 = .ok (.new 171, 3) ∧
  excT 11 171 = some (0, 173) ∧
  decode (cM m_RingDater_chance) 25 = .ok (.dup, 1) ∧
  decode (cM m_RingDater_chance) 26 = .ok (.invokespecial 173, 3) ∧
  decode (cM m_RingDater_chance) 29 = .ok (.athrow, 1) ∧
  decode (cM m_RingDater_chance) 30 = .ok (.iload_n 3, 1) ∧
  decode (cM m_RingDater_chance) 31 = .ok (.ifCond .lt 9, 3) ∧
  am_okt 31 9 ∧
  am_tgt 31 9 = 40 ∧
  decode (cM m_RingDater_chance) 34 = .ok (.iload_n 3, 1) ∧
  decode (cM m_RingDater_chance) 35 = .ok (.bipush 40, 2) ∧
  decode (cM m_RingDater_chance) 37 = .ok (.if_icmp .le 11, 3) ∧
  am_okt 37 11 ∧
  am_tgt 37 11 = 48 ∧
  decode (cM m_RingDater_chance) 40 = .ok (.new 96, 3) ∧
  excT 11 96 = some (1, 98) ∧
  decode (cM m_RingDater_chance) 43 = .ok (.dup, 1) ∧
  decode (cM m_RingDater_chance) 44 = .ok (.invokespecial 98, 3) ∧
  decode (cM m_RingDater_chance) 47 = .ok (.athrow, 1) ∧
  decode (cM m_RingDater_chance) 48 = .ok (.aload_n 0, 1) ∧
  decode (cM m_RingDater_chance) 49 = .ok (.getfield 54, 3) ∧
  decode (cM m_RingDater_chance) 52 = .ok (.iload_n 1, 1) ∧
  decode (cM m_RingDater_chance) 53 = .ok (.invokevirtual 178, 3) ∧
  invT 11 178 = some (m_Stock_timberAt, 0) ∧
  nM m_Stock_timberAt = 2 ∧
  oM m_Stock_timberAt = 8 ∧
  rkM m_Stock_timberAt = 3 ∧
  dM m_Stock_timberAt = 1 ∧
  decode (cM m_RingDater_chance) 56 = .ok (.astore 5, 2) ∧
  decode (cM m_RingDater_chance) 58 = .ok (.aload_n 0, 1) ∧
  decode (cM m_RingDater_chance) 59 = .ok (.invokevirtual 135, 3) ∧
  invT 11 135 = some (m_RingDater_layChronology, 0) ∧
  nM m_RingDater_layChronology = 1 ∧
  oM m_RingDater_layChronology = 11 ∧
  rkM m_RingDater_layChronology = 0 ∧
  dM m_RingDater_layChronology = 4 ∧
  decode (cM m_RingDater_chance) 62 = .ok (.aload_n 0, 1) ∧
  decode (cM m_RingDater_chance) 63 = .ok (.aload 5, 2) ∧
  decode (cM m_RingDater_chance) 65 = .ok (.invokevirtual 312, 3) ∧
  invT 11 312 = some (m_RingDater_scoreHere, 0) ∧
  nM m_RingDater_scoreHere = 2 ∧
  oM m_RingDater_scoreHere = 11 ∧
  rkM m_RingDater_scoreHere = 1 ∧
  dM m_RingDater_scoreHere = 5 ∧
  decode (cM m_RingDater_chance) 68 = .ok (.istore 6, 2) ∧
  decode (cM m_RingDater_chance) 70 = .ok (.iconst 0, 1) ∧
  decode (cM m_RingDater_chance) 71 = .ok (.istore 7, 2) ∧
  decode (cM m_RingDater_chance) 73 = .ok (.iconst 0, 1) ∧
  decode (cM m_RingDater_chance) 74 = .ok (.istore 8, 2) ∧
  decode (cM m_RingDater_chance) 76 = .ok (.iconst 0, 1) ∧
  decode (cM m_RingDater_chance) 77 = .ok (.istore 9, 2) ∧
  decode (cM m_RingDater_chance) 79 = .ok (.iload_n 2, 1) ∧
  decode (cM m_RingDater_chance) 80 = .ok (.istore 10, 2) ∧
  decode (cM m_RingDater_chance) 82 = .ok (.iconst 0, 1) ∧
  decode (cM m_RingDater_chance) 83 = .ok (.istore 11, 2) ∧
  decode (cM m_RingDater_chance) 85 = .ok (.iload 11, 2) ∧
  decode (cM m_RingDater_chance) 87 = .ok (.iload_n 3, 1) ∧
  decode (cM m_RingDater_chance) 88 = .ok (.if_icmp .ge 68, 3) ∧
  am_okt 88 68 ∧
  am_tgt 88 68 = 156 ∧
  decode (cM m_RingDater_chance) 91 = .ok (.aload_n 0, 1) ∧
  decode (cM m_RingDater_chance) 92 = .ok (.getfield 40, 3) ∧
  fldT 11 40 = some (11, 4, 2) ∧
  decode (cM m_RingDater_chance) 95 = .ok (.aload 5, 2) ∧
  decode (cM m_RingDater_chance) 97 = .ok (.getfield 185, 3) ∧
  fldT 11 185 = some (9, 2, 0) ∧
  decode (cM m_RingDater_chance) 100 = .ok (.iload 10, 2) ∧
  decode (cM m_RingDater_chance) 102 = .ok (.invokevirtual 369, 3) ∧
  invT 11 369 = some (m_Timber_drawRings, 0) ∧
  nM m_Timber_drawRings = 3 ∧
  oM m_Timber_drawRings = 9 ∧
  rkM m_Timber_drawRings = 1 ∧
  dM m_Timber_drawRings = 1 ∧
  decode (cM m_RingDater_chance) 105 = .ok (.istore 10, 2) ∧
  decode (cM m_RingDater_chance) 107 = .ok (.aload_n 0, 1) ∧
  decode (cM m_RingDater_chance) 108 = .ok (.aload_n 0, 1) ∧
  decode (cM m_RingDater_chance) 109 = .ok (.getfield 40, 3) ∧
  decode (cM m_RingDater_chance) 112 = .ok (.invokevirtual 312, 3) ∧
  decode (cM m_RingDater_chance) 115 = .ok (.istore 12, 2) ∧
  decode (cM m_RingDater_chance) 117 = .ok (.iload 7, 2) ∧
  decode (cM m_RingDater_chance) 119 = .ok (.iload 12, 2) ∧
  decode (cM m_RingDater_chance) 121 = .ok (.iload 6, 2) ∧
  decode (cM m_RingDater_chance) 123 = .ok (.if_icmp .lt 7, 3) ∧
  am_okt 123 7 ∧
  am_tgt 123 7 = 130 ∧
  decode (cM m_RingDater_chance) 126 = .ok (.iconst 1, 1) ∧
  decode (cM m_RingDater_chance) 127 = .ok (.goto 4, 3) ∧
  am_okt 127 4 ∧
  am_tgt 127 4 = 131 ∧
  decode (cM m_RingDater_chance) 130 = .ok (.iconst 0, 1) ∧
  decode (cM m_RingDater_chance) 131 = .ok (.iadd, 1) ∧
  decode (cM m_RingDater_chance) 132 = .ok (.istore 7, 2) ∧
  decode (cM m_RingDater_chance) 134 = .ok (.iload 8, 2) ∧
  decode (cM m_RingDater_chance) 136 = .ok (.iload 12, 2) ∧
  decode (cM m_RingDater_chance) 138 = .ok (.invokestatic 372, 3) ∧
  invT 11 372 = some (0, 3) ∧
  decode (cM m_RingDater_chance) 141 = .ok (.istore 8, 2) ∧
  decode (cM m_RingDater_chance) 143 = .ok (.iload 9, 2) ∧
  decode (cM m_RingDater_chance) 145 = .ok (.iload 12, 2) ∧
  decode (cM m_RingDater_chance) 147 = .ok (.iadd, 1) ∧
  decode (cM m_RingDater_chance) 148 = .ok (.istore 9, 2) ∧
  decode (cM m_RingDater_chance) 150 = .ok (.iinc 11 1, 3) ∧
  decode (cM m_RingDater_chance) 153 = .ok (.goto (-68), 3) ∧
  am_okt 153 (-68) ∧
  am_tgt 153 (-68) = 85 ∧
  decode (cM m_RingDater_chance) 156 = .ok (.iload 4, 2) ∧
  decode (cM m_RingDater_chance) 158 = .ok (.ifCond .ne 8, 3) ∧
  am_okt 158 8 ∧
  am_tgt 158 8 = 166 ∧
  decode (cM m_RingDater_chance) 161 = .ok (.iload 7, 2) ∧
  decode (cM m_RingDater_chance) 163 = .ok (.goto 16, 3) ∧
  am_okt 163 16 ∧
  am_tgt 163 16 = 179 ∧
  decode (cM m_RingDater_chance) 166 = .ok (.iload 4, 2) ∧
  decode (cM m_RingDater_chance) 168 = .ok (.iconst 1, 1) ∧
  decode (cM m_RingDater_chance) 169 = .ok (.if_icmp .ne 8, 3) ∧
  am_okt 169 8 ∧
  am_tgt 169 8 = 177 ∧
  decode (cM m_RingDater_chance) 172 = .ok (.iload 8, 2) ∧
  decode (cM m_RingDater_chance) 174 = .ok (.goto 5, 3) ∧
  am_okt 174 5 ∧
  am_tgt 174 5 = 179 ∧
  decode (cM m_RingDater_chance) 177 = .ok (.iload 9, 2) ∧
  decode (cM m_RingDater_chance) 179 = .ok (.ireturn, 1) :=
  ⟨rfl, rfl, rfl, rfl, by decide +kernel, by decide +kernel, rfl, by decide +kernel, by decide +kernel, rfl, rfl, rfl, rfl, rfl, by decide +kernel, rfl, rfl, by decide +kernel, by decide +kernel, rfl, rfl, by decide +kernel, by decide +kernel, by decide +kernel, rfl, rfl, by decide +kernel, rfl, by decide +kernel, by decide +kernel, by decide +kernel, by decide +kernel, by decide +kernel, rfl, rfl, by decide +kernel, by decide +kernel, by decide +kernel, rfl, rfl, by decide +kernel, rfl, by decide +kernel, by decide +kernel, by decide +kernel, by decide +kernel, by decide +kernel, by decide +kernel, by decide +kernel, rfl, rfl, rfl, rfl, rfl, by decide +kernel, by decide +kernel, by decide +kernel, rfl, rfl, rfl, rfl, rfl, by decide +kernel, by decide +kernel, by decide +kernel, rfl, rfl, rfl, rfl, rfl, by decide +kernel, by decide +kernel, by decide +kernel, by decide +kernel, by decide +kernel, by decide +kernel, by decide +kernel, by decide +kernel, by decide +kernel, by decide +kernel, by decide +kernel, by decide +kernel, by decide +kernel, by decide +kernel, rfl, rfl, by decide +kernel, by decide +kernel, rfl, by decide +kernel, by decide +kernel, rfl, by decide +kernel, by decide +kernel, rfl, rfl, rfl, rfl, rfl, by decide +kernel, by decide +kernel, by decide +kernel, by decide +kernel, by decide +kernel, by decide +kernel, by decide +kernel, by decide +kernel, by decide +kernel, by decide +kernel, rfl, rfl, by decide +kernel, by decide +kernel, rfl, rfl, by decide +kernel, by decide +kernel, by decide +kernel, by decide +kernel, by decide +kernel, by decide +kernel, rfl, by decide +kernel, by decide +kernel, by decide +kernel, by decide +kernel, by decide +kernel, by decide +kernel, by decide +kernel, rfl, rfl, by decide +kernel, by decide +kernel, rfl, rfl, by decide +kernel, by decide +kernel, rfl, rfl, by decide +kernel, by decide +kernel, by decide +kernel, rfl, rfl, by decide +kernel, by decide +kernel, rfl, rfl, by decide +kernel, by decide +kernel⟩
set_option maxRecDepth 100000 in
set_option maxHeartbeats 4000000 in
theorem C_Model_layFirst : oM m_Model_layFirst = 12 ∧
  rkM m_Model_layFirst = 0 ∧
  dM m_Model_layFirst = 0 ∧
  lM m_Model_layFirst = 2 ∧
  decode (cM m_Model_layFirst) 0 = .ok (.iconst 0, 1) ∧
  decode (cM m_Model_layFirst) 1 = .ok (.istore_n 1, 1) ∧
  decode (cM m_Model_layFirst) 2 = .ok (.iload_n 1, 1) ∧
  decode (cM m_Model_layFirst) 3 = .ok (.iconst 4, 1) ∧
  decode (cM m_Model_layFirst) 4 = .ok (.if_icmp .ge 21, 3) ∧
  am_okt 4 21 ∧
  am_tgt 4 21 = 25 ∧
  decode (cM m_Model_layFirst) 7 = .ok (.aload_n 0, 1) ∧
  decode (cM m_Model_layFirst) 8 = .ok (.iload_n 1, 1) ∧
  decode (cM m_Model_layFirst) 9 = .ok (.iload_n 1, 1) ∧
  decode (cM m_Model_layFirst) 10 = .ok (.ifCond .ne 7, 3) ∧
  am_okt 10 7 ∧
  am_tgt 10 7 = 17 ∧
  decode (cM m_Model_layFirst) 13 = .ok (.iconst 0, 1) ∧
  decode (cM m_Model_layFirst) 14 = .ok (.goto 4, 3) ∧
  am_okt 14 4 ∧
  am_tgt 14 4 = 18 ∧
  decode (cM m_Model_layFirst) 17 = .ok (.iconst (-1), 1) ∧
  decode (cM m_Model_layFirst) 18 = .ok (.iastore, 1) ∧
  decode (cM m_Model_layFirst) 19 = .ok (.iinc 1 1, 3) ∧
  decode (cM m_Model_layFirst) 22 = .ok (.goto (-20), 3) ∧
  am_okt 22 (-20) ∧
  am_tgt 22 (-20) = 2 ∧
  decode (cM m_Model_layFirst) 25 = .ok (.return_, 1) :=
  ⟨rfl, rfl, rfl, rfl, by decide +kernel, by decide +kernel, by decide +kernel, by decide +kernel, by decide +kernel, rfl, rfl, by decide +kernel, by decide +kernel, by decide +kernel, by decide +kernel, rfl, rfl, by decide +kernel, by decide +kernel, rfl, rfl, by decide +kernel, by decide +kernel, by decide +kernel, by decide +kernel, rfl, rfl, by decide +kernel⟩
set_option maxRecDepth 100000 in
set_option maxHeartbeats 4000000 in
theorem C_Model_thrown : oM m_Model_thrown = 12 ∧
  rkM m_Model_thrown = 1 ∧
  dM m_Model_thrown = 0 ∧
  lM m_Model_thrown = 1 ∧
  decode (cM m_Model_thrown) 0 = .ok (.aload_n 0, 1) ∧
  decode (cM m_Model_thrown) 1 = .ok (.getfield 142, 3) ∧
  fldT 12 142 = some (12, 1, 0) ∧
  decode (cM m_Model_thrown) 4 = .ok (.ireturn, 1) :=
  ⟨rfl, rfl, rfl, rfl, by decide +kernel, by decide +kernel, rfl, by decide +kernel⟩
set_option maxRecDepth 100000 in
set_option maxHeartbeats 4000000 in
theorem C_Model_feed : oM m_Model_feed = 12 ∧
  rkM m_Model_feed = 1 ∧
  dM m_Model_feed = 0 ∧
  lM m_Model_feed = 8 ∧
  decode (cM m_Model_feed) 0 = .ok (.aload_n 0, 1) ∧
  decode (cM m_Model_feed) 1 = .ok (.iconst 0, 1) ∧
  decode (cM m_Model_feed) 2 = .ok (.putfield 142, 3) ∧
  fldT 12 142 = some (12, 1, 0) ∧
  decode (cM m_Model_feed) 5 = .ok (.aload_n 0, 1) ∧
  decode (cM m_Model_feed) 6 = .ok (.getfield 145, 3) ∧
  fldT 12 145 = some (12, 8, 0) ∧
  decode (cM m_Model_feed) 9 = .ok (.bipush 20, 2) ∧
  decode (cM m_Model_feed) 11 = .ok (.iadd, 1) ∧
  decode (cM m_Model_feed) 12 = .ok (.sipush 900, 3) ∧
  decode (cM m_Model_feed) 15 = .ok (.if_icmp .le 5, 3) ∧
  am_okt 15 5 ∧
  am_tgt 15 5 = 20 ∧
  decode (cM m_Model_feed) 18 = .ok (.iconst (-1), 1) ∧
  decode (cM m_Model_feed) 19 = .ok (.ireturn, 1) ∧
  decode (cM m_Model_feed) 20 = .ok (.iconst 0, 1) ∧
  decode (cM m_Model_feed) 21 = .ok (.istore 6, 2) ∧
  decode (cM m_Model_feed) 23 = .ok (.iload 6, 2) ∧
  decode (cM m_Model_feed) 25 = .ok (.bipush 20, 2) ∧
  decode (cM m_Model_feed) 27 = .ok (.if_icmp .ge 93, 3) ∧
  am_okt 27 93 ∧
  am_tgt 27 93 = 120 ∧
  decode (cM m_Model_feed) 30 = .ok (.iload 6, 2) ∧
  decode (cM m_Model_feed) 32 = .ok (.iconst 4, 1) ∧
  decode (cM m_Model_feed) 33 = .ok (.if_icmp .ge 7, 3) ∧
  am_okt 33 7 ∧
  am_tgt 33 7 = 40 ∧
  decode (cM m_Model_feed) 36 = .ok (.iload_n 1, 1) ∧
  decode (cM m_Model_feed) 37 = .ok (.goto 39, 3) ∧
  am_okt 37 39 ∧
  am_tgt 37 39 = 76 ∧
  decode (cM m_Model_feed) 40 = .ok (.iload 6, 2) ∧
  decode (cM m_Model_feed) 42 = .ok (.bipush 8, 2) ∧
  decode (cM m_Model_feed) 44 = .ok (.if_icmp .ge 7, 3) ∧
  am_okt 44 7 ∧
  am_tgt 44 7 = 51 ∧
  decode (cM m_Model_feed) 47 = .ok (.iload_n 2, 1) ∧
  decode (cM m_Model_feed) 48 = .ok (.goto 28, 3) ∧
  am_okt 48 28 ∧
  am_tgt 48 28 = 76 ∧
  decode (cM m_Model_feed) 51 = .ok (.iload 6, 2) ∧
  decode (cM m_Model_feed) 53 = .ok (.bipush 12, 2) ∧
  decode (cM m_Model_feed) 55 = .ok (.if_icmp .ge 7, 3) ∧
  am_okt 55 7 ∧
  am_tgt 55 7 = 62 ∧
  decode (cM m_Model_feed) 58 = .ok (.iload_n 3, 1) ∧
  decode (cM m_Model_feed) 59 = .ok (.goto 17, 3) ∧
  am_okt 59 17 ∧
  am_tgt 59 17 = 76 ∧
  decode (cM m_Model_feed) 62 = .ok (.iload 6, 2) ∧
  decode (cM m_Model_feed) 64 = .ok (.bipush 16, 2) ∧
  decode (cM m_Model_feed) 66 = .ok (.if_icmp .ge 8, 3) ∧
  am_okt 66 8 ∧
  am_tgt 66 8 = 74 ∧
  decode (cM m_Model_feed) 69 = .ok (.iload 4, 2) ∧
  decode (cM m_Model_feed) 71 = .ok (.goto 5, 3) ∧
  am_okt 71 5 ∧
  am_tgt 71 5 = 76 ∧
  decode (cM m_Model_feed) 74 = .ok (.iload 5, 2) ∧
  decode (cM m_Model_feed) 76 = .ok (.istore 7, 2) ∧
  decode (cM m_Model_feed) 78 = .ok (.aload_n 0, 1) ∧
  decode (cM m_Model_feed) 79 = .ok (.getfield 43, 3) ∧
  fldT 12 43 = some (12, 7, 2) ∧
  decode (cM m_Model_feed) 82 = .ok (.aload_n 0, 1) ∧
  decode (cM m_Model_feed) 83 = .ok (.getfield 145, 3) ∧
  decode (cM m_Model_feed) 86 = .ok (.iload 7, 2) ∧
  decode (cM m_Model_feed) 88 = .ok (.bipush 24, 2) ∧
  decode (cM m_Model_feed) 90 = .ok (.bipush 8, 2) ∧
  decode (cM m_Model_feed) 92 = .ok (.iload 6, 2) ∧
  decode (cM m_Model_feed) 94 = .ok (.iconst 4, 1) ∧
  decode (cM m_Model_feed) 95 = .ok (.irem, 1) ∧
  decode (cM m_Model_feed) 96 = .ok (.imul, 1) ∧
  decode (cM m_Model_feed) 97 = .ok (.isub, 1) ∧
  decode (cM m_Model_feed) 98 = .ok (.ishr, 1) ∧
  decode (cM m_Model_feed) 99 = .ok (.sipush 255, 3) ∧
  decode (cM m_Model_feed) 102 = .ok (.iand, 1) ∧
  decode (cM m_Model_feed) 103 = .ok (.iastore, 1) ∧
  decode (cM m_Model_feed) 104 = .ok (.aload_n 0, 1) ∧
  decode (cM m_Model_feed) 105 = .ok (.dup, 1) ∧
  decode (cM m_Model_feed) 106 = .ok (.getfield 145, 3) ∧
  decode (cM m_Model_feed) 109 = .ok (.iconst 1, 1) ∧
  decode (cM m_Model_feed) 110 = .ok (.iadd, 1) ∧
  decode (cM m_Model_feed) 111 = .ok (.putfield 145, 3) ∧
  decode (cM m_Model_feed) 114 = .ok (.iinc 6 1, 3) ∧
  decode (cM m_Model_feed) 117 = .ok (.goto (-94), 3) ∧
  am_okt 117 (-94) ∧
  am_tgt 117 (-94) = 23 ∧
  decode (cM m_Model_feed) 120 = .ok (.aload_n 0, 1) ∧
  decode (cM m_Model_feed) 121 = .ok (.getfield 145, 3) ∧
  decode (cM m_Model_feed) 124 = .ok (.ireturn, 1) :=
  ⟨rfl, rfl, rfl, rfl, by decide +kernel, by decide +kernel, by decide +kernel, rfl, by decide +kernel, by decide +kernel, rfl, by decide +kernel, by decide +kernel, by decide +kernel, by decide +kernel, rfl, rfl, by decide +kernel, by decide +kernel, by decide +kernel, by decide +kernel, by decide +kernel, by decide +kernel, by decide +kernel, rfl, rfl, by decide +kernel, by decide +kernel, by decide +kernel, rfl, rfl, by decide +kernel, by decide +kernel, rfl, rfl, by decide +kernel, by decide +kernel, by decide +kernel, rfl, rfl, by decide +kernel, by decide +kernel, rfl, rfl, by decide +kernel, by decide +kernel, by decide +kernel, rfl, rfl, by decide +kernel, by decide +kernel, rfl, rfl, by decide +kernel, by decide +kernel, by decide +kernel, rfl, rfl, by decide +kernel, by decide +kernel, rfl, rfl, by decide +kernel, by decide +kernel, by decide +kernel, by decide +kernel, rfl, by decide +kernel, by decide +kernel, by decide +kernel, by decide +kernel, by decide +kernel, by decide +kernel, by decide +kernel, by decide +kernel, by decide +kernel, by decide +kernel, by decide +kernel, by decide +kernel, by decide +kernel, by decide +kernel, by decide +kernel, by decide +kernel, by decide +kernel, by decide +kernel, by decide +kernel, by decide +kernel, by decide +kernel, by decide +kernel, rfl, rfl, by decide +kernel, by decide +kernel, by decide +kernel⟩
set_option maxRecDepth 100000 in
set_option maxHeartbeats 4000000 in
theorem C_Model_yard : oM m_Model_yard = 12 ∧
  rkM m_Model_yard = 1 ∧
  dM m_Model_yard = 12 ∧
  lM m_Model_yard = 2 ∧
  decode (cM m_Model_yard) 0 = .ok (.aload_n 0, 1) ∧
  decode (cM m_Model_yard) 1 = .ok (.iconst 0, 1) ∧
  decode (cM m_Model_yard) 2 = .ok (.putfield 142, 3) ∧
  fldT 12 142 = some (12, 1, 0) ∧
  decode (cM m_Model_yard) 5 = .ok (.iload_n 1, 1) ∧
  decode (cM m_Model_yard) 6 = .ok (.ifCond .lt 11, 3) ∧
  am_okt 6 11 ∧
  am_tgt 6 11 = 17 ∧
  decode (cM m_Model_yard) 9 = .ok (.iload_n 1, 1) ∧
  decode (cM m_Model_yard) 10 = .ok (.aload_n 0, 1) ∧
  decode (cM m_Model_yard) 11 = .ok (.getfield 145, 3) ∧
  fldT 12 145 = some (12, 8, 0) ∧
  decode (cM m_Model_yard) 14 = .ok (.if_icmp .le 9, 3) ∧
  am_okt 14 9 ∧
  am_tgt 14 9 = 23 ∧
  decode (cM m_Model_yard) 17 = .ok (.aload_n 0, 1) ∧
  decode (cM m_Model_yard) 18 = .ok (.iconst 1, 1) ∧
  decode (cM m_Model_yard) 19 = .ok (.invokevirtual 237, 3) ∧
  invT 12 237 = some (m_Model_fail, 0) ∧
  nM m_Model_fail = 2 ∧
  oM m_Model_fail = 12 ∧
  rkM m_Model_fail = 1 ∧
  dM m_Model_fail = 0 ∧
  decode (cM m_Model_yard) 22 = .ok (.ireturn, 1) ∧
  decode (cM m_Model_yard) 23 = .ok (.aload_n 0, 1) ∧
  decode (cM m_Model_yard) 24 = .ok (.iconst 0, 1) ∧
  decode (cM m_Model_yard) 25 = .ok (.putfield 145, 3) ∧
  decode (cM m_Model_yard) 28 = .ok (.aload_n 0, 1) ∧
  decode (cM m_Model_yard) 29 = .ok (.iload_n 1, 1) ∧
  decode (cM m_Model_yard) 30 = .ok (.putfield 148, 3) ∧
  fldT 12 148 = some (12, 10, 0) ∧
  decode (cM m_Model_yard) 33 = .ok (.aload_n 0, 1) ∧
  decode (cM m_Model_yard) 34 = .ok (.iconst 0, 1) ∧
  decode (cM m_Model_yard) 35 = .ok (.putfield 151, 3) ∧
  fldT 12 151 = some (12, 9, 0) ∧
  decode (cM m_Model_yard) 38 = .ok (.aload_n 0, 1) ∧
  decode (cM m_Model_yard) 39 = .ok (.iconst 0, 1) ∧
  decode (cM m_Model_yard) 40 = .ok (.putfield 184, 3) ∧
  fldT 12 184 = some (12, 15, 0) ∧
  decode (cM m_Model_yard) 43 = .ok (.aload_n 0, 1) ∧
  decode (cM m_Model_yard) 44 = .ok (.iconst (-1), 1) ∧
  decode (cM m_Model_yard) 45 = .ok (.putfield 46, 3) ∧
  fldT 12 46 = some (12, 17, 0) ∧
  decode (cM m_Model_yard) 48 = .ok (.aload_n 0, 1) ∧
  decode (cM m_Model_yard) 49 = .ok (.iconst 0, 1) ∧
  decode (cM m_Model_yard) 50 = .ok (.putfield 228, 3) ∧
  fldT 12 228 = some (12, 18, 0) ∧
  decode (cM m_Model_yard) 53 = .ok (.aload_n 0, 1) ∧
  decode (cM m_Model_yard) 54 = .ok (.iconst 0, 1) ∧
  decode (cM m_Model_yard) 55 = .ok (.putfield 231, 3) ∧
  fldT 12 231 = some (12, 19, 0) ∧
  decode (cM m_Model_yard) 58 = .ok (.aload_n 0, 1) ∧
  decode (cM m_Model_yard) 59 = .ok (.getfield 31, 3) ∧
  fldT 12 31 = some (12, 3, 2) ∧
  decode (cM m_Model_yard) 62 = .ok (.invokestatic 138, 3) ∧
  invT 12 138 = some (m_Model_layFirst, 1) ∧
  nM m_Model_layFirst = 1 ∧
  oM m_Model_layFirst = 12 ∧
  rkM m_Model_layFirst = 0 ∧
  dM m_Model_layFirst = 0 ∧
  decode (cM m_Model_yard) 65 = .ok (.aload_n 0, 1) ∧
  decode (cM m_Model_yard) 66 = .ok (.invokevirtual 209, 3) ∧
  invT 12 209 = some (m_Model_stepOn, 0) ∧
  nM m_Model_stepOn = 1 ∧
  oM m_Model_stepOn = 12 ∧
  rkM m_Model_stepOn = 0 ∧
  dM m_Model_stepOn = 1 ∧
  decode (cM m_Model_yard) 69 = .ok (.aload_n 0, 1) ∧
  decode (cM m_Model_yard) 70 = .ok (.getfield 184, 3) ∧
  decode (cM m_Model_yard) 73 = .ok (.ifCond .ne 17, 3) ∧
  am_okt 73 17 ∧
  am_tgt 73 17 = 90 ∧
  decode (cM m_Model_yard) 76 = .ok (.aload_n 0, 1) ∧
  decode (cM m_Model_yard) 77 = .ok (.getfield 161, 3) ∧
  fldT 12 161 = some (12, 11, 0) ∧
  decode (cM m_Model_yard) 80 = .ok (.ifCond .eq 10, 3) ∧
  am_okt 80 10 ∧
  am_tgt 80 10 = 90 ∧
  decode (cM m_Model_yard) 83 = .ok (.aload_n 0, 1) ∧
  decode (cM m_Model_yard) 84 = .ok (.invokevirtual 240, 3) ∧
  invT 12 240 = some (m_Model_readClause, 0) ∧
  nM m_Model_readClause = 1 ∧
  oM m_Model_readClause = 12 ∧
  rkM m_Model_readClause = 0 ∧
  dM m_Model_readClause = 11 ∧
  decode (cM m_Model_yard) 87 = .ok (.goto (-18), 3) ∧
  am_okt 87 (-18) ∧
  am_tgt 87 (-18) = 69 ∧
  decode (cM m_Model_yard) 90 = .ok (.aload_n 0, 1) ∧
  decode (cM m_Model_yard) 91 = .ok (.getfield 184, 3) ∧
  decode (cM m_Model_yard) 94 = .ok (.ifCond .eq 26, 3) ∧
  am_okt 94 26 ∧
  am_tgt 94 26 = 120 ∧
  decode (cM m_Model_yard) 97 = .ok (.aload_n 0, 1) ∧
  decode (cM m_Model_yard) 98 = .ok (.aload_n 0, 1) ∧
  decode (cM m_Model_yard) 99 = .ok (.getfield 187, 3) ∧
  fldT 12 187 = some (12, 16, 0) ∧
  decode (cM m_Model_yard) 102 = .ok (.putfield 46, 3) ∧
  decode (cM m_Model_yard) 105 = .ok (.aload_n 0, 1) ∧
  decode (cM m_Model_yard) 106 = .ok (.getfield 40, 3) ∧
  fldT 12 40 = some (12, 6, 2) ∧
  decode (cM m_Model_yard) 109 = .ok (.iconst 0, 1) ∧
  decode (cM m_Model_yard) 110 = .ok (.dup2, 1) ∧
  decode (cM m_Model_yard) 111 = .ok (.iaload, 1) ∧
  decode (cM m_Model_yard) 112 = .ok (.iconst 1, 1) ∧
  decode (cM m_Model_yard) 113 = .ok (.iadd, 1) ∧
  decode (cM m_Model_yard) 114 = .ok (.iastore, 1) ∧
  decode (cM m_Model_yard) 115 = .ok (.aload_n 0, 1) ∧
  decode (cM m_Model_yard) 116 = .ok (.getfield 184, 3) ∧
  decode (cM m_Model_yard) 119 = .ok (.ireturn, 1) ∧
  decode (cM m_Model_yard) 120 = .ok (.aload_n 0, 1) ∧
  decode (cM m_Model_yard) 121 = .ok (.getfield 27, 3) ∧
  fldT 12 27 = some (12, 2, 2) ∧
  decode (cM m_Model_yard) 124 = .ok (.aload_n 0, 1) ∧
  decode (cM m_Model_yard) 125 = .ok (.getfield 31, 3) ∧
  decode (cM m_Model_yard) 128 = .ok (.invokestatic 243, 3) ∧
  invT 12 243 = some (m_Model_copyTo, 1) ∧
  nM m_Model_copyTo = 2 ∧
  oM m_Model_copyTo = 12 ∧
  rkM m_Model_copyTo = 0 ∧
  dM m_Model_copyTo = 0 ∧
  decode (cM m_Model_yard) 131 = .ok (.aload_n 0, 1) ∧
  decode (cM m_Model_yard) 132 = .ok (.getfield 34, 3) ∧
  fldT 12 34 = some (12, 4, 2) ∧
  decode (cM m_Model_yard) 135 = .ok (.aload_n 0, 1) ∧
  decode (cM m_Model_yard) 136 = .ok (.getfield 37, 3) ∧
  fldT 12 37 = some (12, 5, 2) ∧
  decode (cM m_Model_yard) 139 = .ok (.invokestatic 243, 3) ∧
  decode (cM m_Model_yard) 142 = .ok (.aload_n 0, 1) ∧
  decode (cM m_Model_yard) 143 = .ok (.iconst 0, 1) ∧
  decode (cM m_Model_yard) 144 = .ok (.putfield 247, 3) ∧
  fldT 12 247 = some (12, 58, 0) ∧
  decode (cM m_Model_yard) 147 = .ok (.aload_n 0, 1) ∧
  decode (cM m_Model_yard) 148 = .ok (.iconst 0, 1) ∧
  decode (cM m_Model_yard) 149 = .ok (.putfield 250, 3) ∧
  fldT 12 250 = some (12, 60, 0) ∧
  decode (cM m_Model_yard) 152 = .ok (.aload_n 0, 1) ∧
  decode (cM m_Model_yard) 153 = .ok (.iconst 0, 1) ∧
  decode (cM m_Model_yard) 154 = .ok (.putfield 253, 3) ∧
  fldT 12 253 = some (12, 69, 1) ∧
  decode (cM m_Model_yard) 157 = .ok (.iconst 0, 1) ∧
  decode (cM m_Model_yard) 158 = .ok (.ireturn, 1) :=
  ⟨rfl, rfl, rfl, rfl, by decide +kernel, by decide +kernel, by decide +kernel, rfl, by decide +kernel, by decide +kernel, rfl, rfl, by decide +kernel, by decide +kernel, by decide +kernel, rfl, by decide +kernel, rfl, rfl, by decide +kernel, by decide +kernel, by decide +kernel, rfl, rfl, rfl, rfl, rfl, by decide +kernel, by decide +kernel, by decide +kernel, by decide +kernel, by decide +kernel, by decide +kernel, by decide +kernel, rfl, by decide +kernel, by decide +kernel, by decide +kernel, rfl, by decide +kernel, by decide +kernel, by decide +kernel, rfl, by decide +kernel, by decide +kernel, by decide +kernel, rfl, by decide +kernel, by decide +kernel, by decide +kernel, rfl, by decide +kernel, by decide +kernel, by decide +kernel, rfl, by decide +kernel, by decide +kernel, rfl, by decide +kernel, rfl, rfl, rfl, rfl, rfl, by decide +kernel, by decide +kernel, rfl, rfl, rfl, rfl, rfl, by decide +kernel, by decide +kernel, by decide +kernel, rfl, rfl, by decide +kernel, by decide +kernel, rfl, by decide +kernel, rfl, rfl, by decide +kernel, by decide +kernel, rfl, rfl, rfl, rfl, rfl, by decide +kernel, rfl, rfl, by decide +kernel, by decide +kernel, by decide +kernel, rfl, rfl, by decide +kernel, by decide +kernel, by decide +kernel, rfl, by decide +kernel, by decide +kernel, by decide +kernel, rfl, by decide +kernel, by decide +kernel, by decide +kernel, by decide +kernel, by decide +kernel, by decide +kernel, by decide +kernel, by decide +kernel, by decide +kernel, by decide +kernel, by decide +kernel, rfl, by decide +kernel, by decide +kernel, by decide +kernel, rfl, rfl, rfl, rfl, rfl, by decide +kernel, by decide +kernel, rfl, by decide +kernel, by decide +kernel, rfl, by decide +kernel, by decide +kernel, by decide +kernel, by decide +kernel, rfl, by decide +kernel, by decide +kernel, by decide +kernel, rfl, by decide +kernel, by decide +kernel, by decide +kernel, rfl, by decide +kernel, by decide +kernel⟩
set_option maxRecDepth 100000 in
set_option maxHeartbeats 4000000 in
theorem C_Model_fail : oM m_Model_fail = 12 ∧
  rkM m_Model_fail = 1 ∧
  dM m_Model_fail = 0 ∧
  lM m_Model_fail = 2 ∧
  decode (cM m_Model_fail) 0 = .ok (.aload_n 0, 1) ∧
  decode (cM m_Model_fail) 1 = .ok (.iload_n 1, 1) ∧
  decode (cM m_Model_fail) 2 = .ok (.putfield 142, 3) ∧
  fldT 12 142 = some (12, 1, 0) ∧
  decode (cM m_Model_fail) 5 = .ok (.iconst 0, 1) ∧
  decode (cM m_Model_fail) 6 = .ok (.ireturn, 1) :=
  ⟨rfl, rfl, rfl, rfl, by decide +kernel, by decide +kernel, by decide +kernel, rfl, by decide +kernel, by decide +kernel⟩
set_option maxRecDepth 100000 in
set_option maxHeartbeats 4000000 in
theorem C_Model_stepOn : oM m_Model_stepOn = 12 ∧
  rkM m_Model_stepOn = 0 ∧
  dM m_Model_stepOn = 1 ∧
  lM m_Model_stepOn = 2 ∧
  decode (cM m_Model_stepOn) 0 = .ok (.aload_n 0, 1) ∧
  decode (cM m_Model_stepOn) 1 = .ok (.aload_n 0, 1) ∧
  decode (cM m_Model_stepOn) 2 = .ok (.getfield 151, 3) ∧
  fldT 12 151 = some (12, 9, 0) ∧
  decode (cM m_Model_stepOn) 5 = .ok (.invokevirtual 154, 3) ∧
  invT 12 154 = some (m_Model_byteAt, 0) ∧
  nM m_Model_byteAt = 2 ∧
  oM m_Model_byteAt = 12 ∧
  rkM m_Model_byteAt = 1 ∧
  dM m_Model_byteAt = 0 ∧
  decode (cM m_Model_stepOn) 8 = .ok (.bipush 32, 2) ∧
  decode (cM m_Model_stepOn) 10 = .ok (.if_icmp .eq 16, 3) ∧
  am_okt 10 16 ∧
  am_tgt 10 16 = 26 ∧
  decode (cM m_Model_stepOn) 13 = .ok (.aload_n 0, 1) ∧
  decode (cM m_Model_stepOn) 14 = .ok (.aload_n 0, 1) ∧
  decode (cM m_Model_stepOn) 15 = .ok (.getfield 151, 3) ∧
  decode (cM m_Model_stepOn) 18 = .ok (.invokevirtual 154, 3) ∧
  decode (cM m_Model_stepOn) 21 = .ok (.bipush 10, 2) ∧
  decode (cM m_Model_stepOn) 23 = .ok (.if_icmp .ne 16, 3) ∧
  am_okt 23 16 ∧
  am_tgt 23 16 = 39 ∧
  decode (cM m_Model_stepOn) 26 = .ok (.aload_n 0, 1) ∧
  decode (cM m_Model_stepOn) 27 = .ok (.dup, 1) ∧
  decode (cM m_Model_stepOn) 28 = .ok (.getfield 151, 3) ∧
  decode (cM m_Model_stepOn) 31 = .ok (.iconst 1, 1) ∧
  decode (cM m_Model_stepOn) 32 = .ok (.iadd, 1) ∧
  decode (cM m_Model_stepOn) 33 = .ok (.putfield 151, 3) ∧
  decode (cM m_Model_stepOn) 36 = .ok (.goto (-36), 3) ∧
  am_okt 36 (-36) ∧
  am_tgt 36 (-36) = 0 ∧
  decode (cM m_Model_stepOn) 39 = .ok (.aload_n 0, 1) ∧
  decode (cM m_Model_stepOn) 40 = .ok (.aload_n 0, 1) ∧
  decode (cM m_Model_stepOn) 41 = .ok (.getfield 151, 3) ∧
  decode (cM m_Model_stepOn) 44 = .ok (.putfield 158, 3) ∧
  fldT 12 158 = some (12, 13, 0) ∧
  decode (cM m_Model_stepOn) 47 = .ok (.aload_n 0, 1) ∧
  decode (cM m_Model_stepOn) 48 = .ok (.aload_n 0, 1) ∧
  decode (cM m_Model_stepOn) 49 = .ok (.getfield 151, 3) ∧
  decode (cM m_Model_stepOn) 52 = .ok (.invokevirtual 154, 3) ∧
  decode (cM m_Model_stepOn) 55 = .ok (.istore_n 1, 1) ∧
  decode (cM m_Model_stepOn) 56 = .ok (.iload_n 1, 1) ∧
  decode (cM m_Model_stepOn) 57 = .ok (.iconst (-1), 1) ∧
  decode (cM m_Model_stepOn) 58 = .ok (.if_icmp .ne 11, 3) ∧
  am_okt 58 11 ∧
  am_tgt 58 11 = 69 ∧
  decode (cM m_Model_stepOn) 61 = .ok (.aload_n 0, 1) ∧
  decode (cM m_Model_stepOn) 62 = .ok (.iconst 0, 1) ∧
  decode (cM m_Model_stepOn) 63 = .ok (.putfield 161, 3) ∧
  fldT 12 161 = some (12, 11, 0) ∧
  decode (cM m_Model_stepOn) 66 = .ok (.goto 151, 3) ∧
  am_okt 66 151 ∧
  am_tgt 66 151 = 217 ∧
  decode (cM m_Model_stepOn) 69 = .ok (.iload_n 1, 1) ∧
  decode (cM m_Model_stepOn) 70 = .ok (.invokestatic 164, 3) ∧
  invT 12 164 = some (m_Model_isLetter, 1) ∧
  nM m_Model_isLetter = 1 ∧
  oM m_Model_isLetter = 12 ∧
  rkM m_Model_isLetter = 2 ∧
  dM m_Model_isLetter = 0 ∧
  decode (cM m_Model_stepOn) 73 = .ok (.ifCond .eq 38, 3) ∧
  am_okt 73 38 ∧
  am_tgt 73 38 = 111 ∧
  decode (cM m_Model_stepOn) 76 = .ok (.aload_n 0, 1) ∧
  decode (cM m_Model_stepOn) 77 = .ok (.aload_n 0, 1) ∧
  decode (cM m_Model_stepOn) 78 = .ok (.getfield 151, 3) ∧
  decode (cM m_Model_stepOn) 81 = .ok (.invokevirtual 154, 3) ∧
  decode (cM m_Model_stepOn) 84 = .ok (.invokestatic 164, 3) ∧
  decode (cM m_Model_stepOn) 87 = .ok (.ifCond .eq 16, 3) ∧
  am_okt 87 16 ∧
  am_tgt 87 16 = 103 ∧
  decode (cM m_Model_stepOn) 90 = .ok (.aload_n 0, 1) ∧
  decode (cM m_Model_stepOn) 91 = .ok (.dup, 1) ∧
  decode (cM m_Model_stepOn) 92 = .ok (.getfield 151, 3) ∧
  decode (cM m_Model_stepOn) 95 = .ok (.iconst 1, 1) ∧
  decode (cM m_Model_stepOn) 96 = .ok (.iadd, 1) ∧
  decode (cM m_Model_stepOn) 97 = .ok (.putfield 151, 3) ∧
  decode (cM m_Model_stepOn) 100 = .ok (.goto (-24), 3) ∧
  am_okt 100 (-24) ∧
  am_tgt 100 (-24) = 76 ∧
  decode (cM m_Model_stepOn) 103 = .ok (.aload_n 0, 1) ∧
  decode (cM m_Model_stepOn) 104 = .ok (.iconst 1, 1) ∧
  decode (cM m_Model_stepOn) 105 = .ok (.putfield 161, 3) ∧
  decode (cM m_Model_stepOn) 108 = .ok (.goto 109, 3) ∧
  am_okt 108 109 ∧
  am_tgt 108 109 = 217 ∧
  decode (cM m_Model_stepOn) 111 = .ok (.iload_n 1, 1) ∧
  decode (cM m_Model_stepOn) 112 = .ok (.invokestatic 168, 3) ∧
  invT 12 168 = some (m_Model_isDigit, 1) ∧
  nM m_Model_isDigit = 1 ∧
  oM m_Model_isDigit = 12 ∧
  rkM m_Model_isDigit = 2 ∧
  dM m_Model_isDigit = 0 ∧
  decode (cM m_Model_stepOn) 115 = .ok (.ifCond .eq 71, 3) ∧
  am_okt 115 71 ∧
  am_tgt 115 71 = 186 ∧
  decode (cM m_Model_stepOn) 118 = .ok (.aload_n 0, 1) ∧
  decode (cM m_Model_stepOn) 119 = .ok (.iconst 0, 1) ∧
  decode (cM m_Model_stepOn) 120 = .ok (.putfield 171, 3) ∧
  fldT 12 171 = some (12, 12, 0) ∧
  decode (cM m_Model_stepOn) 123 = .ok (.aload_n 0, 1) ∧
  decode (cM m_Model_stepOn) 124 = .ok (.aload_n 0, 1) ∧
  decode (cM m_Model_stepOn) 125 = .ok (.getfield 151, 3) ∧
  decode (cM m_Model_stepOn) 128 = .ok (.invokevirtual 154, 3) ∧
  decode (cM m_Model_stepOn) 131 = .ok (.invokestatic 168, 3) ∧
  decode (cM m_Model_stepOn) 134 = .ok (.ifCond .eq 44, 3) ∧
  am_okt 134 44 ∧
  am_tgt 134 44 = 178 ∧
  decode (cM m_Model_stepOn) 137 = .ok (.aload_n 0, 1) ∧
  decode (cM m_Model_stepOn) 138 = .ok (.ldc 174, 2) ∧
  ldcT 12 174 = some (.inl 100000) ∧
  decode (cM m_Model_stepOn) 140 = .ok (.bipush 10, 2) ∧
  decode (cM m_Model_stepOn) 142 = .ok (.aload_n 0, 1) ∧
  decode (cM m_Model_stepOn) 143 = .ok (.getfield 171, 3) ∧
  decode (cM m_Model_stepOn) 146 = .ok (.imul, 1) ∧
  decode (cM m_Model_stepOn) 147 = .ok (.aload_n 0, 1) ∧
  decode (cM m_Model_stepOn) 148 = .ok (.aload_n 0, 1) ∧
  decode (cM m_Model_stepOn) 149 = .ok (.getfield 151, 3) ∧
  decode (cM m_Model_stepOn) 152 = .ok (.invokevirtual 154, 3) ∧
  decode (cM m_Model_stepOn) 155 = .ok (.iadd, 1) ∧
  decode (cM m_Model_stepOn) 156 = .ok (.bipush 48, 2) ∧
  decode (cM m_Model_stepOn) 158 = .ok (.isub, 1) ∧
  decode (cM m_Model_stepOn) 159 = .ok (.invokestatic 175, 3) ∧
  invT 12 175 = some (0, 4) ∧
  decode (cM m_Model_stepOn) 162 = .ok (.putfield 171, 3) ∧
  decode (cM m_Model_stepOn) 165 = .ok (.aload_n 0, 1) ∧
  decode (cM m_Model_stepOn) 166 = .ok (.dup, 1) ∧
  decode (cM m_Model_stepOn) 167 = .ok (.getfield 151, 3) ∧
  decode (cM m_Model_stepOn) 170 = .ok (.iconst 1, 1) ∧
  decode (cM m_Model_stepOn) 171 = .ok (.iadd, 1) ∧
  decode (cM m_Model_stepOn) 172 = .ok (.putfield 151, 3) ∧
  decode (cM m_Model_stepOn) 175 = .ok (.goto (-52), 3) ∧
  am_okt 175 (-52) ∧
  am_tgt 175 (-52) = 123 ∧
  decode (cM m_Model_stepOn) 178 = .ok (.aload_n 0, 1) ∧
  decode (cM m_Model_stepOn) 179 = .ok (.iconst 2, 1) ∧
  decode (cM m_Model_stepOn) 180 = .ok (.putfield 161, 3) ∧
  decode (cM m_Model_stepOn) 183 = .ok (.goto 34, 3) ∧
  am_okt 183 34 ∧
  am_tgt 183 34 = 217 ∧
  decode (cM m_Model_stepOn) 186 = .ok (.aload_n 0, 1) ∧
  decode (cM m_Model_stepOn) 187 = .ok (.dup, 1) ∧
  decode (cM m_Model_stepOn) 188 = .ok (.getfield 151, 3) ∧
  decode (cM m_Model_stepOn) 191 = .ok (.iconst 1, 1) ∧
  decode (cM m_Model_stepOn) 192 = .ok (.iadd, 1) ∧
  decode (cM m_Model_stepOn) 193 = .ok (.putfield 151, 3) ∧
  decode (cM m_Model_stepOn) 196 = .ok (.aload_n 0, 1) ∧
  decode (cM m_Model_stepOn) 197 = .ok (.iload_n 1, 1) ∧
  decode (cM m_Model_stepOn) 198 = .ok (.bipush 59, 2) ∧
  decode (cM m_Model_stepOn) 200 = .ok (.if_icmp .eq 9, 3) ∧
  am_okt 200 9 ∧
  am_tgt 200 9 = 209 ∧
  decode (cM m_Model_stepOn) 203 = .ok (.iload_n 1, 1) ∧
  decode (cM m_Model_stepOn) 204 = .ok (.bipush 63, 2) ∧
  decode (cM m_Model_stepOn) 206 = .ok (.if_icmp .ne 7, 3) ∧
  am_okt 206 7 ∧
  am_tgt 206 7 = 213 ∧
  decode (cM m_Model_stepOn) 209 = .ok (.iconst 3, 1) ∧
  decode (cM m_Model_stepOn) 210 = .ok (.goto 4, 3) ∧
  am_okt 210 4 ∧
  am_tgt 210 4 = 214 ∧
  decode (cM m_Model_stepOn) 213 = .ok (.iconst 4, 1) ∧
  decode (cM m_Model_stepOn) 214 = .ok (.putfield 161, 3) ∧
  decode (cM m_Model_stepOn) 217 = .ok (.aload_n 0, 1) ∧
  decode (cM m_Model_stepOn) 218 = .ok (.aload_n 0, 1) ∧
  decode (cM m_Model_stepOn) 219 = .ok (.getfield 151, 3) ∧
  decode (cM m_Model_stepOn) 222 = .ok (.putfield 181, 3) ∧
  fldT 12 181 = some (12, 14, 0) ∧
  decode (cM m_Model_stepOn) 225 = .ok (.return_, 1) :=
  ⟨rfl, rfl, rfl, rfl, by decide +kernel, by decide +kernel, by decide +kernel, rfl, by decide +kernel, rfl, rfl, rfl, rfl, rfl, by decide +kernel, by decide +kernel, rfl, rfl, by decide +kernel, by decide +kernel, by decide +kernel, by decide +kernel, by decide +kernel, by decide +kernel, rfl, rfl, by decide +kernel, by decide +kernel, by decide +kernel, by decide +kernel, by decide +kernel, by decide +kernel, by decide +kernel, rfl, rfl, by decide +kernel, by decide +kernel, by decide +kernel, by decide +kernel, rfl, by decide +kernel, by decide +kernel, by decide +kernel, by decide +kernel, by decide +kernel, by decide +kernel, by decide +kernel, by decide +kernel, rfl, rfl, by decide +kernel, by decide +kernel, by decide +kernel, rfl, by decide +kernel, rfl, rfl, by decide +kernel, by decide +kernel, rfl, rfl, rfl, rfl, rfl, by decide +kernel, rfl, rfl, by decide +kernel, by decide +kernel, by decide +kernel, by decide +kernel, by decide +kernel, by decide +kernel, rfl, rfl, by decide +kernel, by decide +kernel, by decide +kernel, by decide +kernel, by decide +kernel, by decide +kernel, by decide +kernel, rfl, rfl, by decide +kernel, by decide +kernel, by decide +kernel, by decide +kernel, rfl, rfl, by decide +kernel, by decide +kernel, rfl, rfl, rfl, rfl, rfl, by decide +kernel, rfl, rfl, by decide +kernel, by decide +kernel, by decide +kernel, rfl, by decide +kernel, by decide +kernel, by decide +kernel, by decide +kernel, by decide +kernel, by decide +kernel, rfl, rfl, by decide +kernel, by decide +kernel, rfl, by decide +kernel, by decide +kernel, by decide +kernel, by decide +kernel, by decide +kernel, by decide +kernel, by decide +kernel, by decide +kernel, by decide +kernel, by decide +kernel, by decide +kernel, by decide +kernel, rfl, by decide +kernel, by decide +kernel, by decide +kernel, by decide +kernel, by decide +kernel, by decide +kernel, by decide +kernel, by decide +kernel, rfl, rfl, by decide +kernel, by decide +kernel, by decide +kernel, by decide +kernel, rfl, rfl, by decide +kernel, by decide +kernel, by decide +kernel, by decide +kernel, by decide +kernel, by decide +kernel, by decide +kernel, by decide +kernel, by decide +kernel, by decide +kernel, rfl, rfl, by decide +kernel, by decide +kernel, by decide +kernel, rfl, rfl, by decide +kernel, by decide +kernel, rfl, rfl, by decide +kernel, by decide +kernel, by decide +kernel, by decide +kernel, by decide +kernel, by decide +kernel, rfl, by decide +kernel⟩
set_option maxRecDepth 100000 in
set_option maxHeartbeats 4000000 in
theorem C_Model_byteAt : oM m_Model_byteAt = 12 ∧
  rkM m_Model_byteAt = 1 ∧
  dM m_Model_byteAt = 0 ∧
  lM m_Model_byteAt = 2 ∧
  decode (cM m_Model_byteAt) 0 = .ok (.iload_n 1, 1) ∧
  decode (cM m_Model_byteAt) 1 = .ok (.aload_n 0, 1) ∧
  decode (cM m_Model_byteAt) 2 = .ok (.getfield 148, 3) ∧
  fldT 12 148 = some (12, 10, 0) ∧
  decode (cM m_Model_byteAt) 5 = .ok (.if_icmp .ge 12, 3) ∧
  am_okt 5 12 ∧
  am_tgt 5 12 = 17 ∧
  decode (cM m_Model_byteAt) 8 = .ok (.aload_n 0, 1) ∧
  decode (cM m_Model_byteAt) 9 = .ok (.getfield 43, 3) ∧
  fldT 12 43 = some (12, 7, 2) ∧
  decode (cM m_Model_byteAt) 12 = .ok (.iload_n 1, 1) ∧
  decode (cM m_Model_byteAt) 13 = .ok (.iaload, 1) ∧
  decode (cM m_Model_byteAt) 14 = .ok (.goto 4, 3) ∧
  am_okt 14 4 ∧
  am_tgt 14 4 = 18 ∧
  decode (cM m_Model_byteAt) 17 = .ok (.iconst (-1), 1) ∧
  decode (cM m_Model_byteAt) 18 = .ok (.ireturn, 1) :=
  ⟨rfl, rfl, rfl, rfl, by decide +kernel, by decide +kernel, by decide +kernel, rfl, by decide +kernel, rfl, rfl, by decide +kernel, by decide +kernel, rfl, by decide +kernel, by decide +kernel, by decide +kernel, rfl, rfl, by decide +kernel, by decide +kernel⟩
set_option maxRecDepth 100000 in
set_option maxHeartbeats 4000000 in
theorem C_Model_isLetter : oM m_Model_isLetter = 12 ∧
  rkM m_Model_isLetter = 2 ∧
  dM m_Model_isLetter = 0 ∧
  lM m_Model_isLetter = 1 ∧
  decode (cM m_Model_isLetter) 0 = .ok (.iload_n 0, 1) ∧
  decode (cM m_Model_isLetter) 1 = .ok (.bipush 97, 2) ∧
  decode (cM m_Model_isLetter) 3 = .ok (.if_icmp .lt 13, 3) ∧
  am_okt 3 13 ∧
  am_tgt 3 13 = 16 ∧
  decode (cM m_Model_isLetter) 6 = .ok (.iload_n 0, 1) ∧
  decode (cM m_Model_isLetter) 7 = .ok (.bipush 122, 2) ∧
  decode (cM m_Model_isLetter) 9 = .ok (.if_icmp .gt 7, 3) ∧
  am_okt 9 7 ∧
  am_tgt 9 7 = 16 ∧
  decode (cM m_Model_isLetter) 12 = .ok (.iconst 1, 1) ∧
  decode (cM m_Model_isLetter) 13 = .ok (.goto 4, 3) ∧
  am_okt 13 4 ∧
  am_tgt 13 4 = 17 ∧
  decode (cM m_Model_isLetter) 16 = .ok (.iconst 0, 1) ∧
  decode (cM m_Model_isLetter) 17 = .ok (.ireturn, 1) :=
  ⟨rfl, rfl, rfl, rfl, by decide +kernel, by decide +kernel, by decide +kernel, rfl, rfl, by decide +kernel, by decide +kernel, by decide +kernel, rfl, rfl, by decide +kernel, by decide +kernel, rfl, rfl, by decide +kernel, by decide +kernel⟩
set_option maxRecDepth 100000 in
set_option maxHeartbeats 4000000 in
theorem C_Model_isDigit : oM m_Model_isDigit = 12 ∧
  rkM m_Model_isDigit = 2 ∧
  dM m_Model_isDigit = 0 ∧
  lM m_Model_isDigit = 1 ∧
  decode (cM m_Model_isDigit) 0 = .ok (.iload_n 0, 1) ∧
  decode (cM m_Model_isDigit) 1 = .ok (.bipush 48, 2) ∧
  decode (cM m_Model_isDigit) 3 = .ok (.if_icmp .lt 13, 3) ∧
  am_okt 3 13 ∧
  am_tgt 3 13 = 16 ∧
  decode (cM m_Model_isDigit) 6 = .ok (.iload_n 0, 1) ∧
  decode (cM m_Model_isDigit) 7 = .ok (.bipush 57, 2) ∧
  decode (cM m_Model_isDigit) 9 = .ok (.if_icmp .gt 7, 3) ∧
  am_okt 9 7 ∧
  am_tgt 9 7 = 16 ∧
  decode (cM m_Model_isDigit) 12 = .ok (.iconst 1, 1) ∧
  decode (cM m_Model_isDigit) 13 = .ok (.goto 4, 3) ∧
  am_okt 13 4 ∧
  am_tgt 13 4 = 17 ∧
  decode (cM m_Model_isDigit) 16 = .ok (.iconst 0, 1) ∧
  decode (cM m_Model_isDigit) 17 = .ok (.ireturn, 1) :=
  ⟨rfl, rfl, rfl, rfl, by decide +kernel, by decide +kernel, by decide +kernel, rfl, rfl, by decide +kernel, by decide +kernel, by decide +kernel, rfl, rfl, by decide +kernel, by decide +kernel, rfl, rfl, by decide +kernel, by decide +kernel⟩
set_option maxRecDepth 100000 in
set_option maxHeartbeats 4000000 in
theorem C_Model_readClause : oM m_Model_readClause = 12 ∧
  rkM m_Model_readClause = 0 ∧
  dM m_Model_readClause = 11 ∧
  lM m_Model_readClause = 4 ∧
  decode (cM m_Model_readClause) 0 = .ok (.aload_n 0, 1) ∧
  decode (cM m_Model_readClause) 1 = .ok (.invokevirtual 218, 3) ∧
  invT 12 218 = some (m_Model_which, 0) ∧
  nM m_Model_which = 1 ∧
  oM m_Model_which = 12 ∧
  rkM m_Model_which = 1 ∧
  dM m_Model_which = 10 ∧
  decode (cM m_Model_readClause) 4 = .ok (.istore_n 1, 1) ∧
  decode (cM m_Model_readClause) 5 = .ok (.iload_n 1, 1) ∧
  decode (cM m_Model_readClause) 6 = .ok (.iconst (-1), 1) ∧
  decode (cM m_Model_readClause) 7 = .ok (.if_icmp .ne 8, 3) ∧
  am_okt 7 8 ∧
  am_tgt 7 8 = 15 ∧
  decode (cM m_Model_readClause) 10 = .ok (.aload_n 0, 1) ∧
  decode (cM m_Model_readClause) 11 = .ok (.iconst 1, 1) ∧
  decode (cM m_Model_readClause) 12 = .ok (.invokevirtual 202, 3) ∧
  invT 12 202 = some (m_Model_wrong, 0) ∧
  nM m_Model_wrong = 2 ∧
  oM m_Model_wrong = 12 ∧
  rkM m_Model_wrong = 0 ∧
  dM m_Model_wrong = 0 ∧
  decode (cM m_Model_readClause) 15 = .ok (.iload_n 1, 1) ∧
  decode (cM m_Model_readClause) 16 = .ok (.iconst 1, 1) ∧
  decode (cM m_Model_readClause) 17 = .ok (.iconst 3, 1) ∧
  decode (cM m_Model_readClause) 18 = .ok (.invokestatic 221, 3) ∧
  invT 12 221 = some (m_Model_isIn, 1) ∧
  nM m_Model_isIn = 3 ∧
  oM m_Model_isIn = 12 ∧
  rkM m_Model_isIn = 2 ∧
  dM m_Model_isIn = 0 ∧
  decode (cM m_Model_readClause) 21 = .ok (.ifCond .eq 18, 3) ∧
  am_okt 21 18 ∧
  am_tgt 21 18 = 39 ∧
  decode (cM m_Model_readClause) 24 = .ok (.aload_n 0, 1) ∧
  decode (cM m_Model_readClause) 25 = .ok (.getfield 31, 3) ∧
  fldT 12 31 = some (12, 3, 2) ∧
  decode (cM m_Model_readClause) 28 = .ok (.iload_n 1, 1) ∧
  decode (cM m_Model_readClause) 29 = .ok (.iaload, 1) ∧
  decode (cM m_Model_readClause) 30 = .ok (.iconst (-1), 1) ∧
  decode (cM m_Model_readClause) 31 = .ok (.if_icmp .eq 8, 3) ∧
  am_okt 31 8 ∧
  am_tgt 31 8 = 39 ∧
  decode (cM m_Model_readClause) 34 = .ok (.aload_n 0, 1) ∧
  decode (cM m_Model_readClause) 35 = .ok (.iconst 4, 1) ∧
  decode (cM m_Model_readClause) 36 = .ok (.invokevirtual 202, 3) ∧
  decode (cM m_Model_readClause) 39 = .ok (.aload_n 0, 1) ∧
  decode (cM m_Model_readClause) 40 = .ok (.getfield 184, 3) ∧
  fldT 12 184 = some (12, 15, 0) ∧
  decode (cM m_Model_readClause) 43 = .ok (.ifCond .eq 4, 3) ∧
  am_okt 43 4 ∧
  am_tgt 43 4 = 47 ∧
  decode (cM m_Model_readClause) 46 = .ok (.return_, 1) ∧
  decode (cM m_Model_readClause) 47 = .ok (.iload_n 1, 1) ∧
  decode (cM m_Model_readClause) 48 = .ok (.ifCond .ne 10, 3) ∧
  am_okt 48 10 ∧
  am_tgt 48 10 = 58 ∧
  decode (cM m_Model_readClause) 51 = .ok (.aload_n 0, 1) ∧
  decode (cM m_Model_readClause) 52 = .ok (.invokevirtual 225, 3) ∧
  invT 12 225 = some (m_Model_readTimber, 0) ∧
  nM m_Model_readTimber = 1 ∧
  oM m_Model_readTimber = 12 ∧
  rkM m_Model_readTimber = 0 ∧
  dM m_Model_readTimber = 3 ∧
  decode (cM m_Model_readClause) 55 = .ok (.goto 208, 3) ∧
  am_okt 55 208 ∧
  am_tgt 55 208 = 263 ∧
  decode (cM m_Model_readClause) 58 = .ok (.aload_n 0, 1) ∧
  decode (cM m_Model_readClause) 59 = .ok (.invokevirtual 209, 3) ∧
  invT 12 209 = some (m_Model_stepOn, 0) ∧
  nM m_Model_stepOn = 1 ∧
  oM m_Model_stepOn = 12 ∧
  rkM m_Model_stepOn = 0 ∧
  dM m_Model_stepOn = 1 ∧
  decode (cM m_Model_readClause) 62 = .ok (.iload_n 1, 1) ∧
  decode (cM m_Model_readClause) 63 = .ok (.iconst 3, 1) ∧
  decode (cM m_Model_readClause) 64 = .ok (.if_icmp .le 26, 3) ∧
  am_okt 64 26 ∧
  am_tgt 64 26 = 90 ∧
  decode (cM m_Model_readClause) 67 = .ok (.aload_n 0, 1) ∧
  decode (cM m_Model_readClause) 68 = .ok (.iload_n 1, 1) ∧
  decode (cM m_Model_readClause) 69 = .ok (.iconst 4, 1) ∧
  decode (cM m_Model_readClause) 70 = .ok (.if_icmp .ne 10, 3) ∧
  am_okt 70 10 ∧
  am_tgt 70 10 = 80 ∧
  decode (cM m_Model_readClause) 73 = .ok (.aload_n 0, 1) ∧
  decode (cM m_Model_readClause) 74 = .ok (.getfield 228, 3) ∧
  fldT 12 228 = some (12, 18, 0) ∧
  decode (cM m_Model_readClause) 77 = .ok (.goto 7, 3) ∧
  am_okt 77 7 ∧
  am_tgt 77 7 = 84 ∧
  decode (cM m_Model_readClause) 80 = .ok (.aload_n 0, 1) ∧
  decode (cM m_Model_readClause) 81 = .ok (.getfield 231, 3) ∧
  fldT 12 231 = some (12, 19, 0) ∧
  decode (cM m_Model_readClause) 84 = .ok (.invokevirtual 234, 3) ∧
  invT 12 234 = some (m_Model_timberNow, 0) ∧
  nM m_Model_timberNow = 2 ∧
  oM m_Model_timberNow = 12 ∧
  rkM m_Model_timberNow = 1 ∧
  dM m_Model_timberNow = 2 ∧
  decode (cM m_Model_readClause) 87 = .ok (.goto 4, 3) ∧
  am_okt 87 4 ∧
  am_tgt 87 4 = 91 ∧
  decode (cM m_Model_readClause) 90 = .ok (.iconst 0, 1) ∧
  decode (cM m_Model_readClause) 91 = .ok (.istore_n 2, 1) ∧
  decode (cM m_Model_readClause) 92 = .ok (.aload_n 0, 1) ∧
  decode (cM m_Model_readClause) 93 = .ok (.getfield 184, 3) ∧
  decode (cM m_Model_readClause) 96 = .ok (.ifCond .ne 12, 3) ∧
  am_okt 96 12 ∧
  am_tgt 96 12 = 108 ∧
  decode (cM m_Model_readClause) 99 = .ok (.iload_n 1, 1) ∧
  decode (cM m_Model_readClause) 100 = .ok (.iconst 3, 1) ∧
  decode (cM m_Model_readClause) 101 = .ok (.if_icmp .le 7, 3) ∧
  am_okt 101 7 ∧
  am_tgt 101 7 = 108 ∧
  decode (cM m_Model_readClause) 104 = .ok (.aload_n 0, 1) ∧
  decode (cM m_Model_readClause) 105 = .ok (.invokevirtual 209, 3) ∧
  decode (cM m_Model_readClause) 108 = .ok (.iload_n 1, 1) ∧
  decode (cM m_Model_readClause) 109 = .ok (.iconst 1, 1) ∧
  decode (cM m_Model_readClause) 110 = .ok (.if_icmp .ne 14, 3) ∧
  am_okt 110 14 ∧
  am_tgt 110 14 = 124 ∧
  decode (cM m_Model_readClause) 113 = .ok (.aload_n 0, 1) ∧
  decode (cM m_Model_readClause) 114 = .ok (.bipush 50, 2) ∧
  decode (cM m_Model_readClause) 116 = .ok (.bipush 100, 2) ∧
  decode (cM m_Model_readClause) 118 = .ok (.invokevirtual 212, 3) ∧
  invT 12 212 = some (m_Model_readNumber, 0) ∧
  nM m_Model_readNumber = 3 ∧
  oM m_Model_readNumber = 12 ∧
  rkM m_Model_readNumber = 1 ∧
  dM m_Model_readNumber = 2 ∧
  decode (cM m_Model_readClause) 121 = .ok (.goto 55, 3) ∧
  am_okt 121 55 ∧
  am_tgt 121 55 = 176 ∧
  decode (cM m_Model_readClause) 124 = .ok (.iload_n 1, 1) ∧
  decode (cM m_Model_readClause) 125 = .ok (.iconst 2, 1) ∧
  decode (cM m_Model_readClause) 126 = .ok (.if_icmp .ne 13, 3) ∧
  am_okt 126 13 ∧
  am_tgt 126 13 = 139 ∧
  decode (cM m_Model_readClause) 129 = .ok (.aload_n 0, 1) ∧
  decode (cM m_Model_readClause) 130 = .ok (.iconst 3, 1) ∧
  decode (cM m_Model_readClause) 131 = .ok (.bipush 24, 2) ∧
  decode (cM m_Model_readClause) 133 = .ok (.invokevirtual 212, 3) ∧
  decode (cM m_Model_readClause) 136 = .ok (.goto 40, 3) ∧
  am_okt 136 40 ∧
  am_tgt 136 40 = 176 ∧
  decode (cM m_Model_readClause) 139 = .ok (.iload_n 1, 1) ∧
  decode (cM m_Model_readClause) 140 = .ok (.iconst 3, 1) ∧
  decode (cM m_Model_readClause) 141 = .ok (.if_icmp .ne 13, 3) ∧
  am_okt 141 13 ∧
  am_tgt 141 13 = 154 ∧
  decode (cM m_Model_readClause) 144 = .ok (.aload_n 0, 1) ∧
  decode (cM m_Model_readClause) 145 = .ok (.iconst 0, 1) ∧
  decode (cM m_Model_readClause) 146 = .ok (.bipush 50, 2) ∧
  decode (cM m_Model_readClause) 148 = .ok (.invokevirtual 212, 3) ∧
  decode (cM m_Model_readClause) 151 = .ok (.goto 25, 3) ∧
  am_okt 151 25 ∧
  am_tgt 151 25 = 176 ∧
  decode (cM m_Model_readClause) 154 = .ok (.iload_n 1, 1) ∧
  decode (cM m_Model_readClause) 155 = .ok (.iconst 4, 1) ∧
  decode (cM m_Model_readClause) 156 = .ok (.if_icmp .ne 14, 3) ∧
  am_okt 156 14 ∧
  am_tgt 156 14 = 170 ∧
  decode (cM m_Model_readClause) 159 = .ok (.aload_n 0, 1) ∧
  decode (cM m_Model_readClause) 160 = .ok (.iconst 0, 1) ∧
  decode (cM m_Model_readClause) 161 = .ok (.sipush 900, 3) ∧
  decode (cM m_Model_readClause) 164 = .ok (.invokevirtual 212, 3) ∧
  decode (cM m_Model_readClause) 167 = .ok (.goto 9, 3) ∧
  am_okt 167 9 ∧
  am_tgt 167 9 = 176 ∧
  decode (cM m_Model_readClause) 170 = .ok (.aload_n 0, 1) ∧
  decode (cM m_Model_readClause) 171 = .ok (.iconst 0, 1) ∧
  decode (cM m_Model_readClause) 172 = .ok (.iconst 3, 1) ∧
  decode (cM m_Model_readClause) 173 = .ok (.invokevirtual 212, 3) ∧
  decode (cM m_Model_readClause) 176 = .ok (.istore_n 3, 1) ∧
  decode (cM m_Model_readClause) 177 = .ok (.aload_n 0, 1) ∧
  decode (cM m_Model_readClause) 178 = .ok (.getfield 184, 3) ∧
  decode (cM m_Model_readClause) 181 = .ok (.ifCond .eq 4, 3) ∧
  am_okt 181 4 ∧
  am_tgt 181 4 = 185 ∧
  decode (cM m_Model_readClause) 184 = .ok (.return_, 1) ∧
  decode (cM m_Model_readClause) 185 = .ok (.iload_n 1, 1) ∧
  decode (cM m_Model_readClause) 186 = .ok (.iconst 4, 1) ∧
  decode (cM m_Model_readClause) 187 = .ok (.if_icmp .ge 13, 3) ∧
  am_okt 187 13 ∧
  am_tgt 187 13 = 200 ∧
  decode (cM m_Model_readClause) 190 = .ok (.aload_n 0, 1) ∧
  decode (cM m_Model_readClause) 191 = .ok (.getfield 31, 3) ∧
  decode (cM m_Model_readClause) 194 = .ok (.iload_n 1, 1) ∧
  decode (cM m_Model_readClause) 195 = .ok (.iload_n 3, 1) ∧
  decode (cM m_Model_readClause) 196 = .ok (.iastore, 1) ∧
  decode (cM m_Model_readClause) 197 = .ok (.goto 24, 3) ∧
  am_okt 197 24 ∧
  am_tgt 197 24 = 221 ∧
  decode (cM m_Model_readClause) 200 = .ok (.aload_n 0, 1) ∧
  decode (cM m_Model_readClause) 201 = .ok (.getfield 37, 3) ∧
  fldT 12 37 = some (12, 5, 2) ∧
  decode (cM m_Model_readClause) 204 = .ok (.bipush 30, 2) ∧
  decode (cM m_Model_readClause) 206 = .ok (.iload_n 2, 1) ∧
  decode (cM m_Model_readClause) 207 = .ok (.imul, 1) ∧
  decode (cM m_Model_readClause) 208 = .ok (.iload_n 1, 1) ∧
  decode (cM m_Model_readClause) 209 = .ok (.iconst 4, 1) ∧
  decode (cM m_Model_readClause) 210 = .ok (.if_icmp .ne 7, 3) ∧
  am_okt 210 7 ∧
  am_tgt 210 7 = 217 ∧
  decode (cM m_Model_readClause) 213 = .ok (.iconst 4, 1) ∧
  decode (cM m_Model_readClause) 214 = .ok (.goto 4, 3) ∧
  am_okt 214 4 ∧
  am_tgt 214 4 = 218 ∧
  decode (cM m_Model_readClause) 217 = .ok (.iconst 3, 1) ∧
  decode (cM m_Model_readClause) 218 = .ok (.iadd, 1) ∧
  decode (cM m_Model_readClause) 219 = .ok (.iload_n 3, 1) ∧
  decode (cM m_Model_readClause) 220 = .ok (.iastore, 1) ∧
  decode (cM m_Model_readClause) 221 = .ok (.aload_n 0, 1) ∧
  decode (cM m_Model_readClause) 222 = .ok (.dup, 1) ∧
  decode (cM m_Model_readClause) 223 = .ok (.getfield 228, 3) ∧
  decode (cM m_Model_readClause) 226 = .ok (.iload_n 1, 1) ∧
  decode (cM m_Model_readClause) 227 = .ok (.iconst 4, 1) ∧
  decode (cM m_Model_readClause) 228 = .ok (.if_icmp .ne 9, 3) ∧
  am_okt 228 9 ∧
  am_tgt 228 9 = 237 ∧
  decode (cM m_Model_readClause) 231 = .ok (.iconst 1, 1) ∧
  decode (cM m_Model_readClause) 232 = .ok (.iload_n 2, 1) ∧
  decode (cM m_Model_readClause) 233 = .ok (.ishl, 1) ∧
  decode (cM m_Model_readClause) 234 = .ok (.goto 4, 3) ∧
  am_okt 234 4 ∧
  am_tgt 234 4 = 238 ∧
  decode (cM m_Model_readClause) 237 = .ok (.iconst 0, 1) ∧
  decode (cM m_Model_readClause) 238 = .ok (.ior, 1) ∧
  decode (cM m_Model_readClause) 239 = .ok (.putfield 228, 3) ∧
  decode (cM m_Model_readClause) 242 = .ok (.aload_n 0, 1) ∧
  decode (cM m_Model_readClause) 243 = .ok (.dup, 1) ∧
  decode (cM m_Model_readClause) 244 = .ok (.getfield 231, 3) ∧
  decode (cM m_Model_readClause) 247 = .ok (.iload_n 1, 1) ∧
  decode (cM m_Model_readClause) 248 = .ok (.iconst 5, 1) ∧
  decode (cM m_Model_readClause) 249 = .ok (.if_icmp .ne 9, 3) ∧
  am_okt 249 9 ∧
  am_tgt 249 9 = 258 ∧
  decode (cM m_Model_readClause) 252 = .ok (.iconst 1, 1) ∧
  decode (cM m_Model_readClause) 253 = .ok (.iload_n 2, 1) ∧
  decode (cM m_Model_readClause) 254 = .ok (.ishl, 1) ∧
  decode (cM m_Model_readClause) 255 = .ok (.goto 4, 3) ∧
  am_okt 255 4 ∧
  am_tgt 255 4 = 259 ∧
  decode (cM m_Model_readClause) 258 = .ok (.iconst 0, 1) ∧
  decode (cM m_Model_readClause) 259 = .ok (.ior, 1) ∧
  decode (cM m_Model_readClause) 260 = .ok (.putfield 231, 3) ∧
  decode (cM m_Model_readClause) 263 = .ok (.aload_n 0, 1) ∧
  decode (cM m_Model_readClause) 264 = .ok (.getfield 184, 3) ∧
  decode (cM m_Model_readClause) 267 = .ok (.ifCond .ne 17, 3) ∧
  am_okt 267 17 ∧
  am_tgt 267 17 = 284 ∧
  decode (cM m_Model_readClause) 270 = .ok (.aload_n 0, 1) ∧
  decode (cM m_Model_readClause) 271 = .ok (.bipush 59, 2) ∧
  decode (cM m_Model_readClause) 273 = .ok (.invokevirtual 215, 3) ∧
  invT 12 215 = some (m_Model_isMarked, 0) ∧
  nM m_Model_isMarked = 2 ∧
  oM m_Model_isMarked = 12 ∧
  rkM m_Model_isMarked = 2 ∧
  dM m_Model_isMarked = 0 ∧
  decode (cM m_Model_readClause) 276 = .ok (.ifCond .ne 8, 3) ∧
  am_okt 276 8 ∧
  am_tgt 276 8 = 284 ∧
  decode (cM m_Model_readClause) 279 = .ok (.aload_n 0, 1) ∧
  decode (cM m_Model_readClause) 280 = .ok (.iconst 1, 1) ∧
  decode (cM m_Model_readClause) 281 = .ok (.invokevirtual 202, 3) ∧
  decode (cM m_Model_readClause) 284 = .ok (.aload_n 0, 1) ∧
  decode (cM m_Model_readClause) 285 = .ok (.getfield 184, 3) ∧
  decode (cM m_Model_readClause) 288 = .ok (.ifCond .ne 7, 3) ∧
  am_okt 288 7 ∧
  am_tgt 288 7 = 295 ∧
  decode (cM m_Model_readClause) 291 = .ok (.aload_n 0, 1) ∧
  decode (cM m_Model_readClause) 292 = .ok (.invokevirtual 209, 3) ∧
  decode (cM m_Model_readClause) 295 = .ok (.return_, 1) :=
  ⟨rfl, rfl, rfl, rfl, by decide +kernel, by decide +kernel, rfl, rfl, rfl, rfl, rfl, by decide +kernel, by decide +kernel, by decide +kernel, by decide +kernel, rfl, rfl, by decide +kernel, by decide +kernel, by decide +kernel, rfl, rfl, rfl, rfl, rfl, by decide +kernel, by decide +kernel, by decide +kernel, by decide +kernel, rfl, rfl, rfl, rfl, rfl, by decide +kernel, rfl, rfl, by decide +kernel, by decide +kernel, rfl, by decide +kernel, by decide +kernel, by decide +kernel, by decide +kernel, rfl, rfl, by decide +kernel, by decide +kernel, by decide +kernel, by decide +kernel, by decide +kernel, rfl, by decide +kernel, rfl, rfl, by decide +kernel, by decide +kernel, by decide +kernel, rfl, rfl, by decide +kernel, by decide +kernel, rfl, rfl, rfl, rfl, rfl, by decide +kernel, rfl, rfl, by decide +kernel, by decide +kernel, rfl, rfl, rfl, rfl, rfl, by decide +kernel, by decide +kernel, by decide +kernel, rfl, rfl, by decide +kernel, by decide +kernel, by decide +kernel, by decide +kernel, rfl, rfl, by decide +kernel, by decide +kernel, rfl, by decide +kernel, rfl, rfl, by decide +kernel, by decide +kernel, rfl, by decide +kernel, rfl, rfl, rfl, rfl, rfl, by decide +kernel, rfl, rfl, by decide +kernel, by decide +kernel, by decide +kernel, by decide +kernel, by decide +kernel, rfl, rfl, by decide +kernel, by decide +kernel, by decide +kernel, rfl, rfl, by decide +kernel, by decide +kernel, by decide +kernel, by decide +kernel, by decide +kernel, rfl, rfl, by decide +kernel, by decide +kernel, by decide +kernel, by decide +kernel, rfl, rfl, rfl, rfl, rfl, by decide +kernel, rfl, rfl, by decide +kernel, by decide +kernel, by decide +kernel, rfl, rfl, by decide +kernel, by decide +kernel, by decide +kernel, by decide +kernel, by decide +kernel, rfl, rfl, by decide +kernel, by decide +kernel, by decide +kernel, rfl, rfl, by decide +kernel, by decide +kernel, by decide +kernel, by decide +kernel, by decide +kernel, rfl, rfl, by decide +kernel, by decide +kernel, by decide +kernel, rfl, rfl, by decide +kernel, by decide +kernel, by decide +kernel, by decide +kernel, by decide +kernel, rfl, rfl, by decide +kernel, by decide +kernel, by decide +kernel, by decide +kernel, by decide +kernel, by decide +kernel, by decide +kernel, by decide +kernel, rfl, rfl, by decide +kernel, by decide +kernel, by decide +kernel, by decide +kernel, rfl, rfl, by decide +kernel, by decide +kernel, by decide +kernel, by decide +kernel, by decide +kernel, by decide +kernel, rfl, rfl, by decide +kernel, by decide +kernel, rfl, by decide +kernel, by decide +kernel, by decide +kernel, by decide +kernel, by decide +kernel, by decide +kernel, rfl, rfl, by decide +kernel, by decide +kernel, rfl, rfl, by decide +kernel, by decide +kernel, by decide +kernel, by decide +kernel, by decide +kernel, by decide +kernel, by decide +kernel, by decide +kernel, by decide +kernel, by decide +kernel, rfl, rfl, by decide +kernel, by decide +kernel, by decide +kernel, by decide +kernel, rfl, rfl, by decide +kernel, by decide +kernel, by decide +kernel, by decide +kernel, by decide +kernel, by decide +kernel, by decide +kernel, by decide +kernel, by decide +kernel, rfl, rfl, by decide +kernel, by decide +kernel, by decide +kernel, by decide +kernel, rfl, rfl, by decide +kernel, by decide +kernel, by decide +kernel, by decide +kernel, by decide +kernel, by decide +kernel, rfl, rfl, by decide +kernel, by decide +kernel, by decide +kernel, rfl, rfl, rfl, rfl, rfl, by decide +kernel, rfl, rfl, by decide +kernel, by decide +kernel, by decide +kernel, by decide +kernel, by decide +kernel, by decide +kernel, rfl, rfl, by decide +kernel, by decide +kernel, by decide +kernel⟩
set_option maxRecDepth 100000 in
set_option maxHeartbeats 4000000 in
theorem C_Model_which : oM m_Model_which = 12 ∧
  rkM m_Model_which = 1 ∧
  dM m_Model_which = 10 ∧
  lM m_Model_which = 2 ∧
  decode (cM m_Model_which) 0 = .ok (.iconst 0, 1) ∧
  decode (cM m_Model_which) 1 = .ok (.istore_n 1, 1) ∧
  decode (cM m_Model_which) 2 = .ok (.iload_n 1, 1) ∧
  decode (cM m_Model_which) 3 = .ok (.aload_n 0, 1) ∧
  decode (cM m_Model_which) 4 = .ok (.getfield 21, 3) ∧
  fldT 12 21 = some (12, 0, 2) ∧
  decode (cM m_Model_which) 7 = .ok (.arraylength, 1) ∧
  decode (cM m_Model_which) 8 = .ok (.if_icmp .ge 24, 3) ∧
  am_okt 8 24 ∧
  am_tgt 8 24 = 32 ∧
  decode (cM m_Model_which) 11 = .ok (.aload_n 0, 1) ∧
  decode (cM m_Model_which) 12 = .ok (.aload_n 0, 1) ∧
  decode (cM m_Model_which) 13 = .ok (.getfield 21, 3) ∧
  decode (cM m_Model_which) 16 = .ok (.iload_n 1, 1) ∧
  decode (cM m_Model_which) 17 = .ok (.aaload, 1) ∧
  decode (cM m_Model_which) 18 = .ok (.invokevirtual 198, 3) ∧
  invT 12 198 = some (m_Model_is, 0) ∧
  nM m_Model_is = 2 ∧
  oM m_Model_is = 12 ∧
  rkM m_Model_is = 2 ∧
  dM m_Model_is = 9 ∧
  decode (cM m_Model_which) 21 = .ok (.ifCond .eq 5, 3) ∧
  am_okt 21 5 ∧
  am_tgt 21 5 = 26 ∧
  decode (cM m_Model_which) 24 = .ok (.iload_n 1, 1) ∧
  decode (cM m_Model_which) 25 = .ok (.ireturn, 1) ∧
  decode (cM m_Model_which) 26 = .ok (.iinc 1 1, 3) ∧
  decode (cM m_Model_which) 29 = .ok (.goto (-27), 3) ∧
  am_okt 29 (-27) ∧
  am_tgt 29 (-27) = 2 ∧
  decode (cM m_Model_which) 32 = .ok (.iconst (-1), 1) ∧
  decode (cM m_Model_which) 33 = .ok (.ireturn, 1) :=
  ⟨rfl, rfl, rfl, rfl, by decide +kernel, by decide +kernel, by decide +kernel, by decide +kernel, by decide +kernel, rfl, by decide +kernel, by decide +kernel, rfl, rfl, by decide +kernel, by decide +kernel, by decide +kernel, by decide +kernel, by decide +kernel, by decide +kernel, rfl, rfl, rfl, rfl, rfl, by decide +kernel, rfl, rfl, by decide +kernel, by decide +kernel, by decide +kernel, by decide +kernel, rfl, rfl, by decide +kernel, by decide +kernel⟩
set_option maxRecDepth 100000 in
set_option maxHeartbeats 4000000 in
theorem C_Model_is : oM m_Model_is = 12 ∧
  rkM m_Model_is = 2 ∧
  dM m_Model_is = 9 ∧
  lM m_Model_is = 4 ∧
  decode (cM m_Model_is) 0 = .ok (.aload_n 0, 1) ∧
  decode (cM m_Model_is) 1 = .ok (.getfield 184, 3) ∧
  fldT 12 184 = some (12, 15, 0) ∧
  decode (cM m_Model_is) 4 = .ok (.ifCond .ne 31, 3) ∧
  am_okt 4 31 ∧
  am_tgt 4 31 = 35 ∧
  decode (cM m_Model_is) 7 = .ok (.aload_n 0, 1) ∧
  decode (cM m_Model_is) 8 = .ok (.getfield 161, 3) ∧
  fldT 12 161 = some (12, 11, 0) ∧
  decode (cM m_Model_is) 11 = .ok (.iconst 1, 1) ∧
  decode (cM m_Model_is) 12 = .ok (.if_icmp .ne 23, 3) ∧
  am_okt 12 23 ∧
  am_tgt 12 23 = 35 ∧
  decode (cM m_Model_is) 15 = .ok (.aload_n 1, 1) ∧
  decode (cM m_Model_is) 16 = .ok (.invokevirtual 190, 3) ∧
  invT 12 190 = some (m_String_length, 0) ∧
  nM m_String_length = 1 ∧
  oM m_String_length = 15 ∧
  rkM m_String_length = 1 ∧
  dM m_String_length = 8 ∧
  decode (cM m_Model_is) 19 = .ok (.aload_n 0, 1) ∧
  decode (cM m_Model_is) 20 = .ok (.getfield 181, 3) ∧
  fldT 12 181 = some (12, 14, 0) ∧
  decode (cM m_Model_is) 23 = .ok (.aload_n 0, 1) ∧
  decode (cM m_Model_is) 24 = .ok (.getfield 158, 3) ∧
  fldT 12 158 = some (12, 13, 0) ∧
  decode (cM m_Model_is) 27 = .ok (.isub, 1) ∧
  decode (cM m_Model_is) 28 = .ok (.if_icmp .ne 7, 3) ∧
  am_okt 28 7 ∧
  am_tgt 28 7 = 35 ∧
  decode (cM m_Model_is) 31 = .ok (.iconst 1, 1) ∧
  decode (cM m_Model_is) 32 = .ok (.goto 4, 3) ∧
  am_okt 32 4 ∧
  am_tgt 32 4 = 36 ∧
  decode (cM m_Model_is) 35 = .ok (.iconst 0, 1) ∧
  decode (cM m_Model_is) 36 = .ok (.istore_n 2, 1) ∧
  decode (cM m_Model_is) 37 = .ok (.iconst 0, 1) ∧
  decode (cM m_Model_is) 38 = .ok (.istore_n 3, 1) ∧
  decode (cM m_Model_is) 39 = .ok (.iload_n 2, 1) ∧
  decode (cM m_Model_is) 40 = .ok (.ifCond .eq 42, 3) ∧
  am_okt 40 42 ∧
  am_tgt 40 42 = 82 ∧
  decode (cM m_Model_is) 43 = .ok (.iload_n 3, 1) ∧
  decode (cM m_Model_is) 44 = .ok (.aload_n 1, 1) ∧
  decode (cM m_Model_is) 45 = .ok (.invokevirtual 190, 3) ∧
  decode (cM m_Model_is) 48 = .ok (.if_icmp .ge 34, 3) ∧
  am_okt 48 34 ∧
  am_tgt 48 34 = 82 ∧
  decode (cM m_Model_is) 51 = .ok (.aload_n 1, 1) ∧
  decode (cM m_Model_is) 52 = .ok (.iload_n 3, 1) ∧
  decode (cM m_Model_is) 53 = .ok (.invokevirtual 194, 3) ∧
  invT 12 194 = some (m_String_charAt, 0) ∧
  nM m_String_charAt = 2 ∧
  oM m_String_charAt = 15 ∧
  rkM m_String_charAt = 1 ∧
  dM m_String_charAt = 8 ∧
  decode (cM m_Model_is) 56 = .ok (.aload_n 0, 1) ∧
  decode (cM m_Model_is) 57 = .ok (.getfield 43, 3) ∧
  fldT 12 43 = some (12, 7, 2) ∧
  decode (cM m_Model_is) 60 = .ok (.aload_n 0, 1) ∧
  decode (cM m_Model_is) 61 = .ok (.getfield 158, 3) ∧
  decode (cM m_Model_is) 64 = .ok (.iload_n 3, 1) ∧
  decode (cM m_Model_is) 65 = .ok (.iadd, 1) ∧
  decode (cM m_Model_is) 66 = .ok (.iaload, 1) ∧
  decode (cM m_Model_is) 67 = .ok (.if_icmp .ne 7, 3) ∧
  am_okt 67 7 ∧
  am_tgt 67 7 = 74 ∧
  decode (cM m_Model_is) 70 = .ok (.iconst 1, 1) ∧
  decode (cM m_Model_is) 71 = .ok (.goto 4, 3) ∧
  am_okt 71 4 ∧
  am_tgt 71 4 = 75 ∧
  decode (cM m_Model_is) 74 = .ok (.iconst 0, 1) ∧
  decode (cM m_Model_is) 75 = .ok (.istore_n 2, 1) ∧
  decode (cM m_Model_is) 76 = .ok (.iinc 3 1, 3) ∧
  decode (cM m_Model_is) 79 = .ok (.goto (-40), 3) ∧
  am_okt 79 (-40) ∧
  am_tgt 79 (-40) = 39 ∧
  decode (cM m_Model_is) 82 = .ok (.iload_n 2, 1) ∧
  decode (cM m_Model_is) 83 = .ok (.ireturn, 1) :=
  ⟨rfl, rfl, rfl, rfl, by decide +kernel, by decide +kernel, rfl, by decide +kernel, rfl, rfl, by decide +kernel, by decide +kernel, rfl, by decide +kernel, by decide +kernel, rfl, rfl, by decide +kernel, by decide +kernel, rfl, rfl, rfl, rfl, rfl, by decide +kernel, by decide +kernel, rfl, by decide +kernel, by decide +kernel, rfl, by decide +kernel, by decide +kernel, rfl, rfl, by decide +kernel, by decide +kernel, rfl, rfl, by decide +kernel, by decide +kernel, by decide +kernel, by decide +kernel, by decide +kernel, by decide +kernel, rfl, rfl, by decide +kernel, by decide +kernel, by decide +kernel, by decide +kernel, rfl, rfl, by decide +kernel, by decide +kernel, by decide +kernel, rfl, rfl, rfl, rfl, rfl, by decide +kernel, by decide +kernel, rfl, by decide +kernel, by decide +kernel, by decide +kernel, by decide +kernel, by decide +kernel, by decide +kernel, rfl, rfl, by decide +kernel, by decide +kernel, rfl, rfl, by decide +kernel, by decide +kernel, by decide +kernel, by decide +kernel, rfl, rfl, by decide +kernel, by decide +kernel⟩
set_option maxRecDepth 100000 in
set_option maxHeartbeats 4000000 in
theorem C_Model_wrong : oM m_Model_wrong = 12 ∧
  rkM m_Model_wrong = 0 ∧
  dM m_Model_wrong = 0 ∧
  lM m_Model_wrong = 2 ∧
  decode (cM m_Model_wrong) 0 = .ok (.aload_n 0, 1) ∧
  decode (cM m_Model_wrong) 1 = .ok (.getfield 184, 3) ∧
  fldT 12 184 = some (12, 15, 0) ∧
  decode (cM m_Model_wrong) 4 = .ok (.ifCond .eq 4, 3) ∧
  am_okt 4 4 ∧
  am_tgt 4 4 = 8 ∧
  decode (cM m_Model_wrong) 7 = .ok (.return_, 1) ∧
  decode (cM m_Model_wrong) 8 = .ok (.aload_n 0, 1) ∧
  decode (cM m_Model_wrong) 9 = .ok (.iload_n 1, 1) ∧
  decode (cM m_Model_wrong) 10 = .ok (.putfield 184, 3) ∧
  decode (cM m_Model_wrong) 13 = .ok (.aload_n 0, 1) ∧
  decode (cM m_Model_wrong) 14 = .ok (.aload_n 0, 1) ∧
  decode (cM m_Model_wrong) 15 = .ok (.getfield 158, 3) ∧
  fldT 12 158 = some (12, 13, 0) ∧
  decode (cM m_Model_wrong) 18 = .ok (.putfield 187, 3) ∧
  fldT 12 187 = some (12, 16, 0) ∧
  decode (cM m_Model_wrong) 21 = .ok (.return_, 1) :=
  ⟨rfl, rfl, rfl, rfl, by decide +kernel, by decide +kernel, rfl, by decide +kernel, rfl, rfl, by decide +kernel, by decide +kernel, by decide +kernel, by decide +kernel, by decide +kernel, by decide +kernel, by decide +kernel, rfl, by decide +kernel, rfl, by decide +kernel⟩
set_option maxRecDepth 100000 in
set_option maxHeartbeats 4000000 in
theorem C_Model_isIn : oM m_Model_isIn = 12 ∧
  rkM m_Model_isIn = 2 ∧
  dM m_Model_isIn = 0 ∧
  lM m_Model_isIn = 3 ∧
  decode (cM m_Model_isIn) 0 = .ok (.iload_n 0, 1) ∧
  decode (cM m_Model_isIn) 1 = .ok (.iload_n 1, 1) ∧
  decode (cM m_Model_isIn) 2 = .ok (.if_icmp .lt 12, 3) ∧
  am_okt 2 12 ∧
  am_tgt 2 12 = 14 ∧
  decode (cM m_Model_isIn) 5 = .ok (.iload_n 0, 1) ∧
  decode (cM m_Model_isIn) 6 = .ok (.iload_n 2, 1) ∧
  decode (cM m_Model_isIn) 7 = .ok (.if_icmp .gt 7, 3) ∧
  am_okt 7 7 ∧
  am_tgt 7 7 = 14 ∧
  decode (cM m_Model_isIn) 10 = .ok (.iconst 1, 1) ∧
  decode (cM m_Model_isIn) 11 = .ok (.goto 4, 3) ∧
  am_okt 11 4 ∧
  am_tgt 11 4 = 15 ∧
  decode (cM m_Model_isIn) 14 = .ok (.iconst 0, 1) ∧
  decode (cM m_Model_isIn) 15 = .ok (.ireturn, 1) :=
  ⟨rfl, rfl, rfl, rfl, by decide +kernel, by decide +kernel, by decide +kernel, rfl, rfl, by decide +kernel, by decide +kernel, by decide +kernel, rfl, rfl, by decide +kernel, by decide +kernel, rfl, rfl, by decide +kernel, by decide +kernel⟩
set_option maxRecDepth 100000 in
set_option maxHeartbeats 4000000 in
theorem C_Model_readTimber : oM m_Model_readTimber = 12 ∧
  rkM m_Model_readTimber = 0 ∧
  dM m_Model_readTimber = 3 ∧
  lM m_Model_readTimber = 4 ∧
  decode (cM m_Model_readTimber) 0 = .ok (.aload_n 0, 1) ∧
  decode (cM m_Model_readTimber) 1 = .ok (.getfield 31, 3) ∧
  fldT 12 31 = some (12, 3, 2) ∧
  decode (cM m_Model_readTimber) 4 = .ok (.iconst 0, 1) ∧
  decode (cM m_Model_readTimber) 5 = .ok (.iaload, 1) ∧
  decode (cM m_Model_readTimber) 6 = .ok (.bipush 8, 2) ∧
  decode (cM m_Model_readTimber) 8 = .ok (.if_icmp .ne 8, 3) ∧
  am_okt 8 8 ∧
  am_tgt 8 8 = 16 ∧
  decode (cM m_Model_readTimber) 11 = .ok (.aload_n 0, 1) ∧
  decode (cM m_Model_readTimber) 12 = .ok (.iconst 2, 1) ∧
  decode (cM m_Model_readTimber) 13 = .ok (.invokevirtual 202, 3) ∧
  invT 12 202 = some (m_Model_wrong, 0) ∧
  nM m_Model_wrong = 2 ∧
  oM m_Model_wrong = 12 ∧
  rkM m_Model_wrong = 0 ∧
  dM m_Model_wrong = 0 ∧
  decode (cM m_Model_readTimber) 16 = .ok (.aload_n 0, 1) ∧
  decode (cM m_Model_readTimber) 17 = .ok (.getfield 184, 3) ∧
  fldT 12 184 = some (12, 15, 0) ∧
  decode (cM m_Model_readTimber) 20 = .ok (.ifCond .eq 4, 3) ∧
  am_okt 20 4 ∧
  am_tgt 20 4 = 24 ∧
  decode (cM m_Model_readTimber) 23 = .ok (.return_, 1) ∧
  decode (cM m_Model_readTimber) 24 = .ok (.aload_n 0, 1) ∧
  decode (cM m_Model_readTimber) 25 = .ok (.invokevirtual 209, 3) ∧
  invT 12 209 = some (m_Model_stepOn, 0) ∧
  nM m_Model_stepOn = 1 ∧
  oM m_Model_stepOn = 12 ∧
  rkM m_Model_stepOn = 0 ∧
  dM m_Model_stepOn = 1 ∧
  decode (cM m_Model_readTimber) 28 = .ok (.bipush 30, 2) ∧
  decode (cM m_Model_readTimber) 30 = .ok (.aload_n 0, 1) ∧
  decode (cM m_Model_readTimber) 31 = .ok (.getfield 31, 3) ∧
  decode (cM m_Model_readTimber) 34 = .ok (.iconst 0, 1) ∧
  decode (cM m_Model_readTimber) 35 = .ok (.iaload, 1) ∧
  decode (cM m_Model_readTimber) 36 = .ok (.imul, 1) ∧
  decode (cM m_Model_readTimber) 37 = .ok (.istore_n 1, 1) ∧
  decode (cM m_Model_readTimber) 38 = .ok (.iconst 0, 1) ∧
  decode (cM m_Model_readTimber) 39 = .ok (.istore_n 2, 1) ∧
  decode (cM m_Model_readTimber) 40 = .ok (.iload_n 2, 1) ∧
  decode (cM m_Model_readTimber) 41 = .ok (.bipush 30, 2) ∧
  decode (cM m_Model_readTimber) 43 = .ok (.if_icmp .ge 18, 3) ∧
  am_okt 43 18 ∧
  am_tgt 43 18 = 61 ∧
  decode (cM m_Model_readTimber) 46 = .ok (.aload_n 0, 1) ∧
  decode (cM m_Model_readTimber) 47 = .ok (.getfield 37, 3) ∧
  fldT 12 37 = some (12, 5, 2) ∧
  decode (cM m_Model_readTimber) 50 = .ok (.iload_n 1, 1) ∧
  decode (cM m_Model_readTimber) 51 = .ok (.iload_n 2, 1) ∧
  decode (cM m_Model_readTimber) 52 = .ok (.iadd, 1) ∧
  decode (cM m_Model_readTimber) 53 = .ok (.iconst 0, 1) ∧
  decode (cM m_Model_readTimber) 54 = .ok (.iastore, 1) ∧
  decode (cM m_Model_readTimber) 55 = .ok (.iinc 2 1, 3) ∧
  decode (cM m_Model_readTimber) 58 = .ok (.goto (-18), 3) ∧
  am_okt 58 (-18) ∧
  am_tgt 58 (-18) = 40 ∧
  decode (cM m_Model_readTimber) 61 = .ok (.aload_n 0, 1) ∧
  decode (cM m_Model_readTimber) 62 = .ok (.getfield 37, 3) ∧
  decode (cM m_Model_readTimber) 65 = .ok (.iload_n 1, 1) ∧
  decode (cM m_Model_readTimber) 66 = .ok (.iconst 4, 1) ∧
  decode (cM m_Model_readTimber) 67 = .ok (.iadd, 1) ∧
  decode (cM m_Model_readTimber) 68 = .ok (.iconst (-1), 1) ∧
  decode (cM m_Model_readTimber) 69 = .ok (.iastore, 1) ∧
  decode (cM m_Model_readTimber) 70 = .ok (.aload_n 0, 1) ∧
  decode (cM m_Model_readTimber) 71 = .ok (.getfield 37, 3) ∧
  decode (cM m_Model_readTimber) 74 = .ok (.iload_n 1, 1) ∧
  decode (cM m_Model_readTimber) 75 = .ok (.iconst 1, 1) ∧
  decode (cM m_Model_readTimber) 76 = .ok (.iadd, 1) ∧
  decode (cM m_Model_readTimber) 77 = .ok (.aload_n 0, 1) ∧
  decode (cM m_Model_readTimber) 78 = .ok (.iconst 0, 1) ∧
  decode (cM m_Model_readTimber) 79 = .ok (.bipush 30, 2) ∧
  decode (cM m_Model_readTimber) 81 = .ok (.invokevirtual 212, 3) ∧
  invT 12 212 = some (m_Model_readNumber, 0) ∧
  nM m_Model_readNumber = 3 ∧
  oM m_Model_readNumber = 12 ∧
  rkM m_Model_readNumber = 1 ∧
  dM m_Model_readNumber = 2 ∧
  decode (cM m_Model_readTimber) 84 = .ok (.iastore, 1) ∧
  decode (cM m_Model_readTimber) 85 = .ok (.aload_n 0, 1) ∧
  decode (cM m_Model_readTimber) 86 = .ok (.getfield 37, 3) ∧
  decode (cM m_Model_readTimber) 89 = .ok (.iload_n 1, 1) ∧
  decode (cM m_Model_readTimber) 90 = .ok (.iconst 2, 1) ∧
  decode (cM m_Model_readTimber) 91 = .ok (.iadd, 1) ∧
  decode (cM m_Model_readTimber) 92 = .ok (.aload_n 0, 1) ∧
  decode (cM m_Model_readTimber) 93 = .ok (.iconst 0, 1) ∧
  decode (cM m_Model_readTimber) 94 = .ok (.bipush 30, 2) ∧
  decode (cM m_Model_readTimber) 96 = .ok (.invokevirtual 206, 3) ∧
  invT 12 206 = some (m_Model_numberNow, 0) ∧
  nM m_Model_numberNow = 3 ∧
  oM m_Model_numberNow = 12 ∧
  rkM m_Model_numberNow = 1 ∧
  dM m_Model_numberNow = 1 ∧
  decode (cM m_Model_readTimber) 99 = .ok (.iastore, 1) ∧
  decode (cM m_Model_readTimber) 100 = .ok (.aload_n 0, 1) ∧
  decode (cM m_Model_readTimber) 101 = .ok (.getfield 184, 3) ∧
  decode (cM m_Model_readTimber) 104 = .ok (.ifCond .ne 27, 3) ∧
  am_okt 104 27 ∧
  am_tgt 104 27 = 131 ∧
  decode (cM m_Model_readTimber) 107 = .ok (.aload_n 0, 1) ∧
  decode (cM m_Model_readTimber) 108 = .ok (.getfield 37, 3) ∧
  decode (cM m_Model_readTimber) 111 = .ok (.iload_n 1, 1) ∧
  decode (cM m_Model_readTimber) 112 = .ok (.iconst 2, 1) ∧
  decode (cM m_Model_readTimber) 113 = .ok (.iadd, 1) ∧
  decode (cM m_Model_readTimber) 114 = .ok (.iaload, 1) ∧
  decode (cM m_Model_readTimber) 115 = .ok (.aload_n 0, 1) ∧
  decode (cM m_Model_readTimber) 116 = .ok (.getfield 37, 3) ∧
  decode (cM m_Model_readTimber) 119 = .ok (.iload_n 1, 1) ∧
  decode (cM m_Model_readTimber) 120 = .ok (.iconst 1, 1) ∧
  decode (cM m_Model_readTimber) 121 = .ok (.iadd, 1) ∧
  decode (cM m_Model_readTimber) 122 = .ok (.iaload, 1) ∧
  decode (cM m_Model_readTimber) 123 = .ok (.if_icmp .ge 8, 3) ∧
  am_okt 123 8 ∧
  am_tgt 123 8 = 131 ∧
  decode (cM m_Model_readTimber) 126 = .ok (.aload_n 0, 1) ∧
  decode (cM m_Model_readTimber) 127 = .ok (.iconst 5, 1) ∧
  decode (cM m_Model_readTimber) 128 = .ok (.invokevirtual 202, 3) ∧
  decode (cM m_Model_readTimber) 131 = .ok (.aload_n 0, 1) ∧
  decode (cM m_Model_readTimber) 132 = .ok (.getfield 184, 3) ∧
  decode (cM m_Model_readTimber) 135 = .ok (.ifCond .ne 7, 3) ∧
  am_okt 135 7 ∧
  am_tgt 135 7 = 142 ∧
  decode (cM m_Model_readTimber) 138 = .ok (.aload_n 0, 1) ∧
  decode (cM m_Model_readTimber) 139 = .ok (.invokevirtual 209, 3) ∧
  decode (cM m_Model_readTimber) 142 = .ok (.iconst 0, 1) ∧
  decode (cM m_Model_readTimber) 143 = .ok (.istore_n 2, 1) ∧
  decode (cM m_Model_readTimber) 144 = .ok (.aload_n 0, 1) ∧
  decode (cM m_Model_readTimber) 145 = .ok (.getfield 184, 3) ∧
  decode (cM m_Model_readTimber) 148 = .ok (.ifCond .ne 88, 3) ∧
  am_okt 148 88 ∧
  am_tgt 148 88 = 236 ∧
  decode (cM m_Model_readTimber) 151 = .ok (.iload_n 2, 1) ∧
  decode (cM m_Model_readTimber) 152 = .ok (.iconst 3, 1) ∧
  decode (cM m_Model_readTimber) 153 = .ok (.if_icmp .lt 11, 3) ∧
  am_okt 153 11 ∧
  am_tgt 153 11 = 164 ∧
  decode (cM m_Model_readTimber) 156 = .ok (.aload_n 0, 1) ∧
  decode (cM m_Model_readTimber) 157 = .ok (.getfield 161, 3) ∧
  fldT 12 161 = some (12, 11, 0) ∧
  decode (cM m_Model_readTimber) 160 = .ok (.iconst 2, 1) ∧
  decode (cM m_Model_readTimber) 161 = .ok (.if_icmp .ne 75, 3) ∧
  am_okt 161 75 ∧
  am_tgt 161 75 = 236 ∧
  decode (cM m_Model_readTimber) 164 = .ok (.iload_n 2, 1) ∧
  decode (cM m_Model_readTimber) 165 = .ok (.bipush 24, 2) ∧
  decode (cM m_Model_readTimber) 167 = .ok (.if_icmp .ne 8, 3) ∧
  am_okt 167 8 ∧
  am_tgt 167 8 = 175 ∧
  decode (cM m_Model_readTimber) 170 = .ok (.aload_n 0, 1) ∧
  decode (cM m_Model_readTimber) 171 = .ok (.iconst 2, 1) ∧
  decode (cM m_Model_readTimber) 172 = .ok (.invokevirtual 202, 3) ∧
  decode (cM m_Model_readTimber) 175 = .ok (.aload_n 0, 1) ∧
  decode (cM m_Model_readTimber) 176 = .ok (.iconst 1, 1) ∧
  decode (cM m_Model_readTimber) 177 = .ok (.bipush 99, 2) ∧
  decode (cM m_Model_readTimber) 179 = .ok (.invokevirtual 212, 3) ∧
  decode (cM m_Model_readTimber) 182 = .ok (.istore_n 3, 1) ∧
  decode (cM m_Model_readTimber) 183 = .ok (.aload_n 0, 1) ∧
  decode (cM m_Model_readTimber) 184 = .ok (.getfield 184, 3) ∧
  decode (cM m_Model_readTimber) 187 = .ok (.ifCond .eq 4, 3) ∧
  am_okt 187 4 ∧
  am_tgt 187 4 = 191 ∧
  decode (cM m_Model_readTimber) 190 = .ok (.return_, 1) ∧
  decode (cM m_Model_readTimber) 191 = .ok (.aload_n 0, 1) ∧
  decode (cM m_Model_readTimber) 192 = .ok (.getfield 37, 3) ∧
  decode (cM m_Model_readTimber) 195 = .ok (.iload_n 1, 1) ∧
  decode (cM m_Model_readTimber) 196 = .ok (.bipush 6, 2) ∧
  decode (cM m_Model_readTimber) 198 = .ok (.iadd, 1) ∧
  decode (cM m_Model_readTimber) 199 = .ok (.iload_n 2, 1) ∧
  decode (cM m_Model_readTimber) 200 = .ok (.iadd, 1) ∧
  decode (cM m_Model_readTimber) 201 = .ok (.iload_n 3, 1) ∧
  decode (cM m_Model_readTimber) 202 = .ok (.iastore, 1) ∧
  decode (cM m_Model_readTimber) 203 = .ok (.aload_n 0, 1) ∧
  decode (cM m_Model_readTimber) 204 = .ok (.bipush 63, 2) ∧
  decode (cM m_Model_readTimber) 206 = .ok (.invokevirtual 215, 3) ∧
  invT 12 215 = some (m_Model_isMarked, 0) ∧
  nM m_Model_isMarked = 2 ∧
  oM m_Model_isMarked = 12 ∧
  rkM m_Model_isMarked = 2 ∧
  dM m_Model_isMarked = 0 ∧
  decode (cM m_Model_readTimber) 209 = .ok (.ifCond .eq 21, 3) ∧
  am_okt 209 21 ∧
  am_tgt 209 21 = 230 ∧
  decode (cM m_Model_readTimber) 212 = .ok (.aload_n 0, 1) ∧
  decode (cM m_Model_readTimber) 213 = .ok (.getfield 37, 3) ∧
  decode (cM m_Model_readTimber) 216 = .ok (.iload_n 1, 1) ∧
  decode (cM m_Model_readTimber) 217 = .ok (.iconst 5, 1) ∧
  decode (cM m_Model_readTimber) 218 = .ok (.iadd, 1) ∧
  decode (cM m_Model_readTimber) 219 = .ok (.dup2, 1) ∧
  decode (cM m_Model_readTimber) 220 = .ok (.iaload, 1) ∧
  decode (cM m_Model_readTimber) 221 = .ok (.iconst 1, 1) ∧
  decode (cM m_Model_readTimber) 222 = .ok (.iload_n 2, 1) ∧
  decode (cM m_Model_readTimber) 223 = .ok (.ishl, 1) ∧
  decode (cM m_Model_readTimber) 224 = .ok (.ior, 1) ∧
  decode (cM m_Model_readTimber) 225 = .ok (.iastore, 1) ∧
  decode (cM m_Model_readTimber) 226 = .ok (.aload_n 0, 1) ∧
  decode (cM m_Model_readTimber) 227 = .ok (.invokevirtual 209, 3) ∧
  decode (cM m_Model_readTimber) 230 = .ok (.iinc 2 1, 3) ∧
  decode (cM m_Model_readTimber) 233 = .ok (.goto (-89), 3) ∧
  am_okt 233 (-89) ∧
  am_tgt 233 (-89) = 144 ∧
  decode (cM m_Model_readTimber) 236 = .ok (.aload_n 0, 1) ∧
  decode (cM m_Model_readTimber) 237 = .ok (.getfield 37, 3) ∧
  decode (cM m_Model_readTimber) 240 = .ok (.iload_n 1, 1) ∧
  decode (cM m_Model_readTimber) 241 = .ok (.iconst 0, 1) ∧
  decode (cM m_Model_readTimber) 242 = .ok (.iadd, 1) ∧
  decode (cM m_Model_readTimber) 243 = .ok (.iload_n 2, 1) ∧
  decode (cM m_Model_readTimber) 244 = .ok (.iastore, 1) ∧
  decode (cM m_Model_readTimber) 245 = .ok (.aload_n 0, 1) ∧
  decode (cM m_Model_readTimber) 246 = .ok (.getfield 31, 3) ∧
  decode (cM m_Model_readTimber) 249 = .ok (.iconst 0, 1) ∧
  decode (cM m_Model_readTimber) 250 = .ok (.dup2, 1) ∧
  decode (cM m_Model_readTimber) 251 = .ok (.iaload, 1) ∧
  decode (cM m_Model_readTimber) 252 = .ok (.iconst 1, 1) ∧
  decode (cM m_Model_readTimber) 253 = .ok (.iadd, 1) ∧
  decode (cM m_Model_readTimber) 254 = .ok (.iastore, 1) ∧
  decode (cM m_Model_readTimber) 255 = .ok (.return_, 1) :=
  ⟨rfl, rfl, rfl, rfl, by decide +kernel, by decide +kernel, rfl, by decide +kernel, by decide +kernel, by decide +kernel, by decide +kernel, rfl, rfl, by decide +kernel, by decide +kernel, by decide +kernel, rfl, rfl, rfl, rfl, rfl, by decide +kernel, by decide +kernel, rfl, by decide +kernel, rfl, rfl, by decide +kernel, by decide +kernel, by decide +kernel, rfl, rfl, rfl, rfl, rfl, by decide +kernel, by decide +kernel, by decide +kernel, by decide +kernel, by decide +kernel, by decide +kernel, by decide +kernel, by decide +kernel, by decide +kernel, by decide +kernel, by decide +kernel, by decide +kernel, rfl, rfl, by decide +kernel, by decide +kernel, rfl, by decide +kernel, by decide +kernel, by decide +kernel, by decide +kernel, by decide +kernel, by decide +kernel, by decide +kernel, rfl, rfl, by decide +kernel, by decide +kernel, by decide +kernel, by decide +kernel, by decide +kernel, by decide +kernel, by decide +kernel, by decide +kernel, by decide +kernel, by decide +kernel, by decide +kernel, by decide +kernel, by decide +kernel, by decide +kernel, by decide +kernel, by decide +kernel, rfl, rfl, rfl, rfl, rfl, by decide +kernel, by decide +kernel, by decide +kernel, by decide +kernel, by decide +kernel, by decide +kernel, by decide +kernel, by decide +kernel, by decide +kernel, by decide +kernel, rfl, rfl, rfl, rfl, rfl, by decide +kernel, by decide +kernel, by decide +kernel, by decide +kernel, rfl, rfl, by decide +kernel, by decide +kernel, by decide +kernel, by decide +kernel, by decide +kernel, by decide +kernel, by decide +kernel, by decide +kernel, by decide +kernel, by decide +kernel, by decide +kernel, by decide +kernel, by decide +kernel, rfl, rfl, by decide +kernel, by decide +kernel, by decide +kernel, by decide +kernel, by decide +kernel, by decide +kernel, rfl, rfl, by decide +kernel, by decide +kernel, by decide +kernel, by decide +kernel, by decide +kernel, by decide +kernel, by decide +kernel, rfl, rfl, by decide +kernel, by decide +kernel, by decide +kernel, rfl, rfl, by decide +kernel, by decide +kernel, rfl, by decide +kernel, by decide +kernel, rfl, rfl, by decide +kernel, by decide +kernel, by decide +kernel, rfl, rfl, by decide +kernel, by decide +kernel, by decide +kernel, by decide +kernel, by decide +kernel, by decide +kernel, by decide +kernel, by decide +kernel, by decide +kernel, by decide +kernel, by decide +kernel, rfl, rfl, by decide +kernel, by decide +kernel, by decide +kernel, by decide +kernel, by decide +kernel, by decide +kernel, by decide +kernel, by decide +kernel, by decide +kernel, by decide +kernel, by decide +kernel, by decide +kernel, by decide +kernel, rfl, rfl, rfl, rfl, rfl, by decide +kernel, rfl, rfl, by decide +kernel, by decide +kernel, by decide +kernel, by decide +kernel, by decide +kernel, by decide +kernel, by decide +kernel, by decide +kernel, by decide +kernel, by decide +kernel, by decide +kernel, by decide +kernel, by decide +kernel, by decide +kernel, by decide +kernel, by decide +kernel, rfl, rfl, by decide +kernel, by decide +kernel, by decide +kernel, by decide +kernel, by decide +kernel, by decide +kernel, by decide +kernel, by decide +kernel, by decide +kernel, by decide +kernel, by decide +kernel, by decide +kernel, by decide +kernel, by decide +kernel, by decide +kernel, by decide +kernel⟩
set_option maxRecDepth 100000 in
set_option maxHeartbeats 4000000 in
theorem C_Model_readNumber : oM m_Model_readNumber = 12 ∧
  rkM m_Model_readNumber = 1 ∧
  dM m_Model_readNumber = 2 ∧
  lM m_Model_readNumber = 4 ∧
  decode (cM m_Model_readNumber) 0 = .ok (.aload_n 0, 1) ∧
  decode (cM m_Model_readNumber) 1 = .ok (.iload_n 1, 1) ∧
  decode (cM m_Model_readNumber) 2 = .ok (.iload_n 2, 1) ∧
  decode (cM m_Model_readNumber) 3 = .ok (.invokevirtual 206, 3) ∧
  invT 12 206 = some (m_Model_numberNow, 0) ∧
  nM m_Model_numberNow = 3 ∧
  oM m_Model_numberNow = 12 ∧
  rkM m_Model_numberNow = 1 ∧
  dM m_Model_numberNow = 1 ∧
  decode (cM m_Model_readNumber) 6 = .ok (.istore_n 3, 1) ∧
  decode (cM m_Model_readNumber) 7 = .ok (.aload_n 0, 1) ∧
  decode (cM m_Model_readNumber) 8 = .ok (.getfield 184, 3) ∧
  fldT 12 184 = some (12, 15, 0) ∧
  decode (cM m_Model_readNumber) 11 = .ok (.ifCond .ne 7, 3) ∧
  am_okt 11 7 ∧
  am_tgt 11 7 = 18 ∧
  decode (cM m_Model_readNumber) 14 = .ok (.aload_n 0, 1) ∧
  decode (cM m_Model_readNumber) 15 = .ok (.invokevirtual 209, 3) ∧
  invT 12 209 = some (m_Model_stepOn, 0) ∧
  nM m_Model_stepOn = 1 ∧
  oM m_Model_stepOn = 12 ∧
  rkM m_Model_stepOn = 0 ∧
  dM m_Model_stepOn = 1 ∧
  decode (cM m_Model_readNumber) 18 = .ok (.iload_n 3, 1) ∧
  decode (cM m_Model_readNumber) 19 = .ok (.ireturn, 1) :=
  ⟨rfl, rfl, rfl, rfl, by decide +kernel, by decide +kernel, by decide +kernel, by decide +kernel, rfl, rfl, rfl, rfl, rfl, by decide +kernel, by decide +kernel, by decide +kernel, rfl, by decide +kernel, rfl, rfl, by decide +kernel, by decide +kernel, rfl, rfl, rfl, rfl, rfl, by decide +kernel, by decide +kernel⟩
set_option maxRecDepth 100000 in
set_option maxHeartbeats 4000000 in
theorem C_Model_numberNow : oM m_Model_numberNow = 12 ∧
  rkM m_Model_numberNow = 1 ∧
  dM m_Model_numberNow = 1 ∧
  lM m_Model_numberNow = 3 ∧
  decode (cM m_Model_numberNow) 0 = .ok (.aload_n 0, 1) ∧
  decode (cM m_Model_numberNow) 1 = .ok (.getfield 184, 3) ∧
  fldT 12 184 = some (12, 15, 0) ∧
  decode (cM m_Model_numberNow) 4 = .ok (.ifCond .eq 5, 3) ∧
  am_okt 4 5 ∧
  am_tgt 4 5 = 9 ∧
  decode (cM m_Model_numberNow) 7 = .ok (.iload_n 1, 1) ∧
  decode (cM m_Model_numberNow) 8 = .ok (.ireturn, 1) ∧
  decode (cM m_Model_numberNow) 9 = .ok (.aload_n 0, 1) ∧
  decode (cM m_Model_numberNow) 10 = .ok (.getfield 161, 3) ∧
  fldT 12 161 = some (12, 11, 0) ∧
  decode (cM m_Model_numberNow) 13 = .ok (.iconst 2, 1) ∧
  decode (cM m_Model_numberNow) 14 = .ok (.if_icmp .eq 11, 3) ∧
  am_okt 14 11 ∧
  am_tgt 14 11 = 25 ∧
  decode (cM m_Model_numberNow) 17 = .ok (.aload_n 0, 1) ∧
  decode (cM m_Model_numberNow) 18 = .ok (.iconst 1, 1) ∧
  decode (cM m_Model_numberNow) 19 = .ok (.invokevirtual 202, 3) ∧
  invT 12 202 = some (m_Model_wrong, 0) ∧
  nM m_Model_wrong = 2 ∧
  oM m_Model_wrong = 12 ∧
  rkM m_Model_wrong = 0 ∧
  dM m_Model_wrong = 0 ∧
  decode (cM m_Model_numberNow) 22 = .ok (.goto 37, 3) ∧
  am_okt 22 37 ∧
  am_tgt 22 37 = 59 ∧
  decode (cM m_Model_numberNow) 25 = .ok (.aload_n 0, 1) ∧
  decode (cM m_Model_numberNow) 26 = .ok (.getfield 181, 3) ∧
  fldT 12 181 = some (12, 14, 0) ∧
  decode (cM m_Model_numberNow) 29 = .ok (.aload_n 0, 1) ∧
  decode (cM m_Model_numberNow) 30 = .ok (.getfield 158, 3) ∧
  fldT 12 158 = some (12, 13, 0) ∧
  decode (cM m_Model_numberNow) 33 = .ok (.isub, 1) ∧
  decode (cM m_Model_numberNow) 34 = .ok (.iconst 3, 1) ∧
  decode (cM m_Model_numberNow) 35 = .ok (.if_icmp .gt 19, 3) ∧
  am_okt 35 19 ∧
  am_tgt 35 19 = 54 ∧
  decode (cM m_Model_numberNow) 38 = .ok (.aload_n 0, 1) ∧
  decode (cM m_Model_numberNow) 39 = .ok (.getfield 171, 3) ∧
  fldT 12 171 = some (12, 12, 0) ∧
  decode (cM m_Model_numberNow) 42 = .ok (.iload_n 1, 1) ∧
  decode (cM m_Model_numberNow) 43 = .ok (.if_icmp .lt 11, 3) ∧
  am_okt 43 11 ∧
  am_tgt 43 11 = 54 ∧
  decode (cM m_Model_numberNow) 46 = .ok (.aload_n 0, 1) ∧
  decode (cM m_Model_numberNow) 47 = .ok (.getfield 171, 3) ∧
  decode (cM m_Model_numberNow) 50 = .ok (.iload_n 2, 1) ∧
  decode (cM m_Model_numberNow) 51 = .ok (.if_icmp .le 8, 3) ∧
  am_okt 51 8 ∧
  am_tgt 51 8 = 59 ∧
  decode (cM m_Model_numberNow) 54 = .ok (.aload_n 0, 1) ∧
  decode (cM m_Model_numberNow) 55 = .ok (.iconst 2, 1) ∧
  decode (cM m_Model_numberNow) 56 = .ok (.invokevirtual 202, 3) ∧
  decode (cM m_Model_numberNow) 59 = .ok (.aload_n 0, 1) ∧
  decode (cM m_Model_numberNow) 60 = .ok (.getfield 184, 3) ∧
  decode (cM m_Model_numberNow) 63 = .ok (.ifCond .ne 10, 3) ∧
  am_okt 63 10 ∧
  am_tgt 63 10 = 73 ∧
  decode (cM m_Model_numberNow) 66 = .ok (.aload_n 0, 1) ∧
  decode (cM m_Model_numberNow) 67 = .ok (.getfield 171, 3) ∧
  decode (cM m_Model_numberNow) 70 = .ok (.goto 4, 3) ∧
  am_okt 70 4 ∧
  am_tgt 70 4 = 74 ∧
  decode (cM m_Model_numberNow) 73 = .ok (.iload_n 1, 1) ∧
  decode (cM m_Model_numberNow) 74 = .ok (.ireturn, 1) :=
  ⟨rfl, rfl, rfl, rfl, by decide +kernel, by decide +kernel, rfl, by decide +kernel, rfl, rfl, by decide +kernel, by decide +kernel, by decide +kernel, by decide +kernel, rfl, by decide +kernel, by decide +kernel, rfl, rfl, by decide +kernel, by decide +kernel, by decide +kernel, rfl, rfl, rfl, rfl, rfl, by decide +kernel, rfl, rfl, by decide +kernel, by decide +kernel, rfl, by decide +kernel, by decide +kernel, rfl, by decide +kernel, by decide +kernel, by decide +kernel, rfl, rfl, by decide +kernel, by decide +kernel, rfl, by decide +kernel, by decide +kernel, rfl, rfl, by decide +kernel, by decide +kernel, by decide +kernel, by decide +kernel, rfl, rfl, by decide +kernel, by decide +kernel, by decide +kernel, by decide +kernel, by decide +kernel, by decide +kernel, rfl, rfl, by decide +kernel, by decide +kernel, by decide +kernel, rfl, rfl, by decide +kernel, by decide +kernel⟩
set_option maxRecDepth 100000 in
set_option maxHeartbeats 4000000 in
theorem C_Model_isMarked : oM m_Model_isMarked = 12 ∧
  rkM m_Model_isMarked = 2 ∧
  dM m_Model_isMarked = 0 ∧
  lM m_Model_isMarked = 2 ∧
  decode (cM m_Model_isMarked) 0 = .ok (.aload_n 0, 1) ∧
  decode (cM m_Model_isMarked) 1 = .ok (.getfield 184, 3) ∧
  fldT 12 184 = some (12, 15, 0) ∧
  decode (cM m_Model_isMarked) 4 = .ok (.ifCond .ne 28, 3) ∧
  am_okt 4 28 ∧
  am_tgt 4 28 = 32 ∧
  decode (cM m_Model_isMarked) 7 = .ok (.aload_n 0, 1) ∧
  decode (cM m_Model_isMarked) 8 = .ok (.getfield 161, 3) ∧
  fldT 12 161 = some (12, 11, 0) ∧
  decode (cM m_Model_isMarked) 11 = .ok (.iconst 3, 1) ∧
  decode (cM m_Model_isMarked) 12 = .ok (.if_icmp .ne 20, 3) ∧
  am_okt 12 20 ∧
  am_tgt 12 20 = 32 ∧
  decode (cM m_Model_isMarked) 15 = .ok (.aload_n 0, 1) ∧
  decode (cM m_Model_isMarked) 16 = .ok (.getfield 43, 3) ∧
  fldT 12 43 = some (12, 7, 2) ∧
  decode (cM m_Model_isMarked) 19 = .ok (.aload_n 0, 1) ∧
  decode (cM m_Model_isMarked) 20 = .ok (.getfield 158, 3) ∧
  fldT 12 158 = some (12, 13, 0) ∧
  decode (cM m_Model_isMarked) 23 = .ok (.iaload, 1) ∧
  decode (cM m_Model_isMarked) 24 = .ok (.iload_n 1, 1) ∧
  decode (cM m_Model_isMarked) 25 = .ok (.if_icmp .ne 7, 3) ∧
  am_okt 25 7 ∧
  am_tgt 25 7 = 32 ∧
  decode (cM m_Model_isMarked) 28 = .ok (.iconst 1, 1) ∧
  decode (cM m_Model_isMarked) 29 = .ok (.goto 4, 3) ∧
  am_okt 29 4 ∧
  am_tgt 29 4 = 33 ∧
  decode (cM m_Model_isMarked) 32 = .ok (.iconst 0, 1) ∧
  decode (cM m_Model_isMarked) 33 = .ok (.ireturn, 1) :=
  ⟨rfl, rfl, rfl, rfl, by decide +kernel, by decide +kernel, rfl, by decide +kernel, rfl, rfl, by decide +kernel, by decide +kernel, rfl, by decide +kernel, by decide +kernel, rfl, rfl, by decide +kernel, by decide +kernel, rfl, by decide +kernel, by decide +kernel, rfl, by decide +kernel, by decide +kernel, by decide +kernel, rfl, rfl, by decide +kernel, by decide +kernel, rfl, rfl, by decide +kernel, by decide +kernel⟩
set_option maxRecDepth 100000 in
set_option maxHeartbeats 4000000 in
theorem C_Model_timberNow : oM m_Model_timberNow = 12 ∧
  rkM m_Model_timberNow = 1 ∧
  dM m_Model_timberNow = 2 ∧
  lM m_Model_timberNow = 3 ∧
  decode (cM m_Model_timberNow) 0 = .ok (.aload_n 0, 1) ∧
  decode (cM m_Model_timberNow) 1 = .ok (.iconst 0, 1) ∧
  decode (cM m_Model_timberNow) 2 = .ok (.bipush 7, 2) ∧
  decode (cM m_Model_timberNow) 4 = .ok (.invokevirtual 206, 3) ∧
  invT 12 206 = some (m_Model_numberNow, 0) ∧
  nM m_Model_numberNow = 3 ∧
  oM m_Model_numberNow = 12 ∧
  rkM m_Model_numberNow = 1 ∧
  dM m_Model_numberNow = 1 ∧
  decode (cM m_Model_timberNow) 7 = .ok (.istore_n 2, 1) ∧
  decode (cM m_Model_timberNow) 8 = .ok (.aload_n 0, 1) ∧
  decode (cM m_Model_timberNow) 9 = .ok (.getfield 184, 3) ∧
  fldT 12 184 = some (12, 15, 0) ∧
  decode (cM m_Model_timberNow) 12 = .ok (.ifCond .ne 18, 3) ∧
  am_okt 12 18 ∧
  am_tgt 12 18 = 30 ∧
  decode (cM m_Model_timberNow) 15 = .ok (.iload_n 2, 1) ∧
  decode (cM m_Model_timberNow) 16 = .ok (.aload_n 0, 1) ∧
  decode (cM m_Model_timberNow) 17 = .ok (.getfield 31, 3) ∧
  fldT 12 31 = some (12, 3, 2) ∧
  decode (cM m_Model_timberNow) 20 = .ok (.iconst 0, 1) ∧
  decode (cM m_Model_timberNow) 21 = .ok (.iaload, 1) ∧
  decode (cM m_Model_timberNow) 22 = .ok (.if_icmp .lt 8, 3) ∧
  am_okt 22 8 ∧
  am_tgt 22 8 = 30 ∧
  decode (cM m_Model_timberNow) 25 = .ok (.aload_n 0, 1) ∧
  decode (cM m_Model_timberNow) 26 = .ok (.iconst 3, 1) ∧
  decode (cM m_Model_timberNow) 27 = .ok (.invokevirtual 202, 3) ∧
  invT 12 202 = some (m_Model_wrong, 0) ∧
  nM m_Model_wrong = 2 ∧
  oM m_Model_wrong = 12 ∧
  rkM m_Model_wrong = 0 ∧
  dM m_Model_wrong = 0 ∧
  decode (cM m_Model_timberNow) 30 = .ok (.aload_n 0, 1) ∧
  decode (cM m_Model_timberNow) 31 = .ok (.getfield 184, 3) ∧
  decode (cM m_Model_timberNow) 34 = .ok (.ifCond .ne 17, 3) ∧
  am_okt 34 17 ∧
  am_tgt 34 17 = 51 ∧
  decode (cM m_Model_timberNow) 37 = .ok (.iload_n 1, 1) ∧
  decode (cM m_Model_timberNow) 38 = .ok (.iload_n 2, 1) ∧
  decode (cM m_Model_timberNow) 39 = .ok (.ishr, 1) ∧
  decode (cM m_Model_timberNow) 40 = .ok (.iconst 1, 1) ∧
  decode (cM m_Model_timberNow) 41 = .ok (.iand, 1) ∧
  decode (cM m_Model_timberNow) 42 = .ok (.iconst 1, 1) ∧
  decode (cM m_Model_timberNow) 43 = .ok (.if_icmp .ne 8, 3) ∧
  am_okt 43 8 ∧
  am_tgt 43 8 = 51 ∧
  decode (cM m_Model_timberNow) 46 = .ok (.aload_n 0, 1) ∧
  decode (cM m_Model_timberNow) 47 = .ok (.iconst 4, 1) ∧
  decode (cM m_Model_timberNow) 48 = .ok (.invokevirtual 202, 3) ∧
  decode (cM m_Model_timberNow) 51 = .ok (.iload_n 2, 1) ∧
  decode (cM m_Model_timberNow) 52 = .ok (.ireturn, 1) :=
  ⟨rfl, rfl, rfl, rfl, by decide +kernel, by decide +kernel, by decide +kernel, by decide +kernel, rfl, rfl, rfl, rfl, rfl, by decide +kernel, by decide +kernel, by decide +kernel, rfl, by decide +kernel, rfl, rfl, by decide +kernel, by decide +kernel, by decide +kernel, rfl, by decide +kernel, by decide +kernel, by decide +kernel, rfl, rfl, by decide +kernel, by decide +kernel, by decide +kernel, rfl, rfl, rfl, rfl, rfl, by decide +kernel, by decide +kernel, by decide +kernel, rfl, rfl, by decide +kernel, by decide +kernel, by decide +kernel, by decide +kernel, by decide +kernel, by decide +kernel, by decide +kernel, rfl, rfl, by decide +kernel, by decide +kernel, by decide +kernel, by decide +kernel, by decide +kernel⟩
set_option maxRecDepth 100000 in
set_option maxHeartbeats 4000000 in
theorem C_Model_copyTo : oM m_Model_copyTo = 12 ∧
  rkM m_Model_copyTo = 0 ∧
  dM m_Model_copyTo = 0 ∧
  lM m_Model_copyTo = 3 ∧
  decode (cM m_Model_copyTo) 0 = .ok (.iconst 0, 1) ∧
  decode (cM m_Model_copyTo) 1 = .ok (.istore_n 2, 1) ∧
  decode (cM m_Model_copyTo) 2 = .ok (.iload_n 2, 1) ∧
  decode (cM m_Model_copyTo) 3 = .ok (.aload_n 0, 1) ∧
  decode (cM m_Model_copyTo) 4 = .ok (.arraylength, 1) ∧
  decode (cM m_Model_copyTo) 5 = .ok (.if_icmp .ge 15, 3) ∧
  am_okt 5 15 ∧
  am_tgt 5 15 = 20 ∧
  decode (cM m_Model_copyTo) 8 = .ok (.aload_n 0, 1) ∧
  decode (cM m_Model_copyTo) 9 = .ok (.iload_n 2, 1) ∧
  decode (cM m_Model_copyTo) 10 = .ok (.aload_n 1, 1) ∧
  decode (cM m_Model_copyTo) 11 = .ok (.iload_n 2, 1) ∧
  decode (cM m_Model_copyTo) 12 = .ok (.iaload, 1) ∧
  decode (cM m_Model_copyTo) 13 = .ok (.iastore, 1) ∧
  decode (cM m_Model_copyTo) 14 = .ok (.iinc 2 1, 3) ∧
  decode (cM m_Model_copyTo) 17 = .ok (.goto (-15), 3) ∧
  am_okt 17 (-15) ∧
  am_tgt 17 (-15) = 2 ∧
  decode (cM m_Model_copyTo) 20 = .ok (.return_, 1) :=
  ⟨rfl, rfl, rfl, rfl, by decide +kernel, by decide +kernel, by decide +kernel, by decide +kernel, by decide +kernel, by decide +kernel, rfl, rfl, by decide +kernel, by decide +kernel, by decide +kernel, by decide +kernel, by decide +kernel, by decide +kernel, by decide +kernel, by decide +kernel, rfl, rfl, by decide +kernel⟩
set_option maxRecDepth 100000 in
set_option maxHeartbeats 4000000 in
theorem C_Model_fault : oM m_Model_fault = 12 ∧
  rkM m_Model_fault = 1 ∧
  dM m_Model_fault = 0 ∧
  lM m_Model_fault = 1 ∧
  decode (cM m_Model_fault) 0 = .ok (.aload_n 0, 1) ∧
  decode (cM m_Model_fault) 1 = .ok (.iconst 0, 1) ∧
  decode (cM m_Model_fault) 2 = .ok (.putfield 142, 3) ∧
  fldT 12 142 = some (12, 1, 0) ∧
  decode (cM m_Model_fault) 5 = .ok (.aload_n 0, 1) ∧
  decode (cM m_Model_fault) 6 = .ok (.getfield 46, 3) ∧
  fldT 12 46 = some (12, 17, 0) ∧
  decode (cM m_Model_fault) 9 = .ok (.ireturn, 1) :=
  ⟨rfl, rfl, rfl, rfl, by decide +kernel, by decide +kernel, by decide +kernel, rfl, by decide +kernel, by decide +kernel, rfl, by decide +kernel⟩
set_option maxRecDepth 100000 in
set_option maxHeartbeats 4000000 in
theorem C_Model_count : oM m_Model_count = 12 ∧
  rkM m_Model_count = 1 ∧
  dM m_Model_count = 7 ∧
  lM m_Model_count = 2 ∧
  decode (cM m_Model_count) 0 = .ok (.aload_n 0, 1) ∧
  decode (cM m_Model_count) 1 = .ok (.iconst 0, 1) ∧
  decode (cM m_Model_count) 2 = .ok (.putfield 142, 3) ∧
  fldT 12 142 = some (12, 1, 0) ∧
  decode (cM m_Model_count) 5 = .ok (.iload_n 1, 1) ∧
  decode (cM m_Model_count) 6 = .ok (.tableswitch 257 0 21 #[102, 109, 114, 119, 124, 129, 129, 169, 178, 183, 188, 188, 204, 213, 218, 223, 232, 237, 242, 247, 247, 247], 102) ∧
  am_okt 6 257 ∧
  am_tgt 6 257 = 263 ∧
  am_okt 6 102 ∧
  am_tgt 6 102 = 108 ∧
  am_okt 6 109 ∧
  am_tgt 6 109 = 115 ∧
  am_okt 6 114 ∧
  am_tgt 6 114 = 120 ∧
  am_okt 6 119 ∧
  am_tgt 6 119 = 125 ∧
  am_okt 6 124 ∧
  am_tgt 6 124 = 130 ∧
  am_okt 6 129 ∧
  am_tgt 6 129 = 135 ∧
  am_okt 6 169 ∧
  am_tgt 6 169 = 175 ∧
  am_okt 6 178 ∧
  am_tgt 6 178 = 184 ∧
  am_okt 6 183 ∧
  am_tgt 6 183 = 189 ∧
  am_okt 6 188 ∧
  am_tgt 6 188 = 194 ∧
  am_okt 6 204 ∧
  am_tgt 6 204 = 210 ∧
  am_okt 6 213 ∧
  am_tgt 6 213 = 219 ∧
  am_okt 6 218 ∧
  am_tgt 6 218 = 224 ∧
  am_okt 6 223 ∧
  am_tgt 6 223 = 229 ∧
  am_okt 6 232 ∧
  am_tgt 6 232 = 238 ∧
  am_okt 6 237 ∧
  am_tgt 6 237 = 243 ∧
  am_okt 6 242 ∧
  am_tgt 6 242 = 248 ∧
  am_okt 6 247 ∧
  am_tgt 6 247 = 253 ∧
  decode (cM m_Model_count) 108 = .ok (.aload_n 0, 1) ∧
  decode (cM m_Model_count) 109 = .ok (.getfield 27, 3) ∧
  fldT 12 27 = some (12, 2, 2) ∧
  decode (cM m_Model_count) 112 = .ok (.iconst 0, 1) ∧
  decode (cM m_Model_count) 113 = .ok (.iaload, 1) ∧
  decode (cM m_Model_count) 114 = .ok (.ireturn, 1) ∧
  decode (cM m_Model_count) 115 = .ok (.aload_n 0, 1) ∧
  decode (cM m_Model_count) 116 = .ok (.invokevirtual 365, 3) ∧
  invT 12 365 = some (m_Model_bound, 0) ∧
  nM m_Model_bound = 1 ∧
  oM m_Model_bound = 12 ∧
  rkM m_Model_bound = 1 ∧
  dM m_Model_bound = 0 ∧
  decode (cM m_Model_count) 119 = .ok (.ireturn, 1) ∧
  decode (cM m_Model_count) 120 = .ok (.aload_n 0, 1) ∧
  decode (cM m_Model_count) 121 = .ok (.invokevirtual 340, 3) ∧
  invT 12 340 = some (m_Model_lap, 0) ∧
  nM m_Model_lap = 1 ∧
  oM m_Model_lap = 12 ∧
  rkM m_Model_lap = 1 ∧
  dM m_Model_lap = 0 ∧
  decode (cM m_Model_count) 124 = .ok (.ireturn, 1) ∧
  decode (cM m_Model_count) 125 = .ok (.aload_n 0, 1) ∧
  decode (cM m_Model_count) 126 = .ok (.invokevirtual 351, 3) ∧
  invT 12 351 = some (m_Model_margin, 0) ∧
  nM m_Model_margin = 1 ∧
  oM m_Model_margin = 12 ∧
  rkM m_Model_margin = 1 ∧
  dM m_Model_margin = 0 ∧
  decode (cM m_Model_count) 129 = .ok (.ireturn, 1) ∧
  decode (cM m_Model_count) 130 = .ok (.aload_n 0, 1) ∧
  decode (cM m_Model_count) 131 = .ok (.invokevirtual 392, 3) ∧
  invT 12 392 = some (m_Model_datedSet, 0) ∧
  nM m_Model_datedSet = 1 ∧
  oM m_Model_datedSet = 12 ∧
  rkM m_Model_datedSet = 1 ∧
  dM m_Model_datedSet = 2 ∧
  decode (cM m_Model_count) 134 = .ok (.ireturn, 1) ∧
  decode (cM m_Model_count) 135 = .ok (.aload_n 0, 1) ∧
  decode (cM m_Model_count) 136 = .ok (.iconst (-1), 1) ∧
  decode (cM m_Model_count) 137 = .ok (.invokevirtual 383, 3) ∧
  invT 12 383 = some (m_Model_layChronology, 0) ∧
  nM m_Model_layChronology = 2 ∧
  oM m_Model_layChronology = 12 ∧
  rkM m_Model_layChronology = 0 ∧
  dM m_Model_layChronology = 4 ∧
  decode (cM m_Model_count) 140 = .ok (.aload_n 0, 1) ∧
  decode (cM m_Model_count) 141 = .ok (.getfield 275, 3) ∧
  fldT 12 275 = some (12, 26, 0) ∧
  decode (cM m_Model_count) 144 = .ok (.ifCond .ne 7, 3) ∧
  am_okt 144 7 ∧
  am_tgt 144 7 = 151 ∧
  decode (cM m_Model_count) 147 = .ok (.iconst (-1), 1) ∧
  decode (cM m_Model_count) 148 = .ok (.goto 26, 3) ∧
  am_okt 148 26 ∧
  am_tgt 148 26 = 174 ∧
  decode (cM m_Model_count) 151 = .ok (.iload_n 1, 1) ∧
  decode (cM m_Model_count) 152 = .ok (.iconst 5, 1) ∧
  decode (cM m_Model_count) 153 = .ok (.if_icmp .ne 10, 3) ∧
  am_okt 153 10 ∧
  am_tgt 153 10 = 163 ∧
  decode (cM m_Model_count) 156 = .ok (.aload_n 0, 1) ∧
  decode (cM m_Model_count) 157 = .ok (.getfield 281, 3) ∧
  fldT 12 281 = some (12, 30, 0) ∧
  decode (cM m_Model_count) 160 = .ok (.goto 14, 3) ∧
  am_okt 160 14 ∧
  am_tgt 160 14 = 174 ∧
  decode (cM m_Model_count) 163 = .ok (.aload_n 0, 1) ∧
  decode (cM m_Model_count) 164 = .ok (.getfield 281, 3) ∧
  decode (cM m_Model_count) 167 = .ok (.aload_n 0, 1) ∧
  decode (cM m_Model_count) 168 = .ok (.getfield 275, 3) ∧
  decode (cM m_Model_count) 171 = .ok (.iadd, 1) ∧
  decode (cM m_Model_count) 172 = .ok (.iconst 1, 1) ∧
  decode (cM m_Model_count) 173 = .ok (.isub, 1) ∧
  decode (cM m_Model_count) 174 = .ok (.ireturn, 1) ∧
  decode (cM m_Model_count) 175 = .ok (.aload_n 0, 1) ∧
  decode (cM m_Model_count) 176 = .ok (.invokevirtual 377, 3) ∧
  invT 12 377 = some (m_Model_tellLinks, 0) ∧
  nM m_Model_tellLinks = 1 ∧
  oM m_Model_tellLinks = 12 ∧
  rkM m_Model_tellLinks = 0 ∧
  dM m_Model_tellLinks = 5 ∧
  decode (cM m_Model_count) 179 = .ok (.aload_n 0, 1) ∧
  decode (cM m_Model_count) 180 = .ok (.getfield 356, 3) ∧
  fldT 12 356 = some (12, 49, 0) ∧
  decode (cM m_Model_count) 183 = .ok (.ireturn, 1) ∧
  decode (cM m_Model_count) 184 = .ok (.aload_n 0, 1) ∧
  decode (cM m_Model_count) 185 = .ok (.invokevirtual 413, 3) ∧
  invT 12 413 = some (m_Model_pieces, 0) ∧
  nM m_Model_pieces = 1 ∧
  oM m_Model_pieces = 12 ∧
  rkM m_Model_pieces = 1 ∧
  dM m_Model_pieces = 6 ∧
  decode (cM m_Model_count) 188 = .ok (.ireturn, 1) ∧
  decode (cM m_Model_count) 189 = .ok (.aload_n 0, 1) ∧
  decode (cM m_Model_count) 190 = .ok (.invokevirtual 416, 3) ∧
  invT 12 416 = some (m_Model_against, 0) ∧
  nM m_Model_against = 1 ∧
  oM m_Model_against = 12 ∧
  rkM m_Model_against = 1 ∧
  dM m_Model_against = 6 ∧
  decode (cM m_Model_count) 193 = .ok (.ireturn, 1) ∧
  decode (cM m_Model_count) 194 = .ok (.aload_n 0, 1) ∧
  decode (cM m_Model_count) 195 = .ok (.iload_n 1, 1) ∧
  decode (cM m_Model_count) 196 = .ok (.bipush 11, 2) ∧
  decode (cM m_Model_count) 198 = .ok (.if_icmp .ne 7, 3) ∧
  am_okt 198 7 ∧
  am_tgt 198 7 = 205 ∧
  decode (cM m_Model_count) 201 = .ok (.iconst 1, 1) ∧
  decode (cM m_Model_count) 202 = .ok (.goto 4, 3) ∧
  am_okt 202 4 ∧
  am_tgt 202 4 = 206 ∧
  decode (cM m_Model_count) 205 = .ok (.iconst 0, 1) ∧
  decode (cM m_Model_count) 206 = .ok (.invokevirtual 419, 3) ∧
  invT 12 419 = some (m_Model_built, 0) ∧
  nM m_Model_built = 2 ∧
  oM m_Model_built = 12 ∧
  rkM m_Model_built = 1 ∧
  dM m_Model_built = 3 ∧
  decode (cM m_Model_count) 209 = .ok (.ireturn, 1) ∧
  decode (cM m_Model_count) 210 = .ok (.aload_n 0, 1) ∧
  decode (cM m_Model_count) 211 = .ok (.aload_n 0, 1) ∧
  decode (cM m_Model_count) 212 = .ok (.invokevirtual 392, 3) ∧
  decode (cM m_Model_count) 215 = .ok (.invokevirtual 395, 3) ∧
  invT 12 395 = some (m_Model_edgeOf, 0) ∧
  nM m_Model_edgeOf = 2 ∧
  oM m_Model_edgeOf = 12 ∧
  rkM m_Model_edgeOf = 1 ∧
  dM m_Model_edgeOf = 2 ∧
  decode (cM m_Model_count) 218 = .ok (.ireturn, 1) ∧
  decode (cM m_Model_count) 219 = .ok (.aload_n 0, 1) ∧
  decode (cM m_Model_count) 220 = .ok (.invokevirtual 423, 3) ∧
  invT 12 423 = some (m_Model_pointers, 0) ∧
  nM m_Model_pointers = 1 ∧
  oM m_Model_pointers = 12 ∧
  rkM m_Model_pointers = 1 ∧
  dM m_Model_pointers = 5 ∧
  decode (cM m_Model_count) 223 = .ok (.ireturn, 1) ∧
  decode (cM m_Model_count) 224 = .ok (.aload_n 0, 1) ∧
  decode (cM m_Model_count) 225 = .ok (.invokevirtual 426, 3) ∧
  invT 12 426 = some (m_Model_odd, 0) ∧
  nM m_Model_odd = 1 ∧
  oM m_Model_odd = 12 ∧
  rkM m_Model_odd = 1 ∧
  dM m_Model_odd = 6 ∧
  decode (cM m_Model_count) 228 = .ok (.ireturn, 1) ∧
  decode (cM m_Model_count) 229 = .ok (.aload_n 0, 1) ∧
  decode (cM m_Model_count) 230 = .ok (.invokevirtual 429, 3) ∧
  invT 12 429 = some (m_Model_tellGrown, 0) ∧
  nM m_Model_tellGrown = 1 ∧
  oM m_Model_tellGrown = 12 ∧
  rkM m_Model_tellGrown = 0 ∧
  dM m_Model_tellGrown = 6 ∧
  decode (cM m_Model_count) 233 = .ok (.aload_n 0, 1) ∧
  decode (cM m_Model_count) 234 = .ok (.getfield 380, 3) ∧
  fldT 12 380 = some (12, 55, 0) ∧
  decode (cM m_Model_count) 237 = .ok (.ireturn, 1) ∧
  decode (cM m_Model_count) 238 = .ok (.aload_n 0, 1) ∧
  decode (cM m_Model_count) 239 = .ok (.getfield 247, 3) ∧
  fldT 12 247 = some (12, 58, 0) ∧
  decode (cM m_Model_count) 242 = .ok (.ireturn, 1) ∧
  decode (cM m_Model_count) 243 = .ok (.aload_n 0, 1) ∧
  decode (cM m_Model_count) 244 = .ok (.getfield 250, 3) ∧
  fldT 12 250 = some (12, 60, 0) ∧
  decode (cM m_Model_count) 247 = .ok (.ireturn, 1) ∧
  decode (cM m_Model_count) 248 = .ok (.aload_n 0, 1) ∧
  decode (cM m_Model_count) 249 = .ok (.getfield 145, 3) ∧
  fldT 12 145 = some (12, 8, 0) ∧
  decode (cM m_Model_count) 252 = .ok (.ireturn, 1) ∧
  decode (cM m_Model_count) 253 = .ok (.aload_n 0, 1) ∧
  decode (cM m_Model_count) 254 = .ok (.getfield 40, 3) ∧
  fldT 12 40 = some (12, 6, 2) ∧
  decode (cM m_Model_count) 257 = .ok (.iload_n 1, 1) ∧
  decode (cM m_Model_count) 258 = .ok (.bipush 19, 2) ∧
  decode (cM m_Model_count) 260 = .ok (.isub, 1) ∧
  decode (cM m_Model_count) 261 = .ok (.iaload, 1) ∧
  decode (cM m_Model_count) 262 = .ok (.ireturn, 1) ∧
  decode (cM m_Model_count) 263 = .ok (.aload_n 0, 1) ∧
  decode (cM m_Model_count) 264 = .ok (.iconst 1, 1) ∧
  decode (cM m_Model_count) 265 = .ok (.invokevirtual 237, 3) ∧
  invT 12 237 = some (m_Model_fail, 0) ∧
  nM m_Model_fail = 2 ∧
  oM m_Model_fail = 12 ∧
  rkM m_Model_fail = 1 ∧
  dM m_Model_fail = 0 ∧
  decode (cM m_Model_count) 268 = .ok (.ireturn, 1) :=
  ⟨rfl, rfl, rfl, rfl, by decide +kernel, by decide +kernel, by decide +kernel, rfl, by decide +kernel, by decide +kernel, rfl, rfl, rfl, rfl, rfl, rfl, rfl, rfl, rfl, rfl, rfl, rfl, rfl, rfl, rfl, rfl, rfl, rfl, rfl, rfl, rfl, rfl, rfl, rfl, rfl, rfl, rfl, rfl, rfl, rfl, rfl, rfl, rfl, rfl, rfl, rfl, rfl, rfl, by decide +kernel, by decide +kernel, rfl, by decide +kernel, by decide +kernel, by decide +kernel, by decide +kernel, by decide +kernel, rfl, rfl, rfl, rfl, rfl, by decide +kernel, by decide +kernel, by decide +kernel, rfl, rfl, rfl, rfl, rfl, by decide +kernel, by decide +kernel, by decide +kernel, rfl, rfl, rfl, rfl, rfl, by decide +kernel, by decide +kernel, by decide +kernel, rfl, rfl, rfl, rfl, rfl, by decide +kernel, by decide +kernel, by decide +kernel, by decide +kernel, rfl, rfl, rfl, rfl, rfl, by decide +kernel, by decide +kernel, rfl, by decide +kernel, rfl, rfl, by decide +kernel, by decide +kernel, rfl, rfl, by decide +kernel, by decide +kernel, by decide +kernel, rfl, rfl, by decide +kernel, by decide +kernel, rfl, by decide +kernel, rfl, rfl, by decide +kernel, by decide +kernel, by decide +kernel, by decide +kernel, by decide +kernel, by decide +kernel, by decide +kernel, by decide +kernel, by decide +kernel, by decide +kernel, rfl, rfl, rfl, rfl, rfl, by decide +kernel, by decide +kernel, rfl, by decide +kernel, by decide +kernel, by decide +kernel, rfl, rfl, rfl, rfl, rfl, by decide +kernel, by decide +kernel, by decide +kernel, rfl, rfl, rfl, rfl, rfl, by decide +kernel, by decide +kernel, by decide +kernel, by decide +kernel, by decide +kernel, rfl, rfl, by decide +kernel, by decide +kernel, rfl, rfl, by decide +kernel, by decide +kernel, rfl, rfl, rfl, rfl, rfl, by decide +kernel, by decide +kernel, by decide +kernel, by decide +kernel, by decide +kernel, rfl, rfl, rfl, rfl, rfl, by decide +kernel, by decide +kernel, by decide +kernel, rfl, rfl, rfl, rfl, rfl, by decide +kernel, by decide +kernel, by decide +kernel, rfl, rfl, rfl, rfl, rfl, by decide +kernel, by decide +kernel, by decide +kernel, rfl, rfl, rfl, rfl, rfl, by decide +kernel, by decide +kernel, rfl, by decide +kernel, by decide +kernel, by decide +kernel, rfl, by decide +kernel, by decide +kernel, by decide +kernel, rfl, by decide +kernel, by decide +kernel, by decide +kernel, rfl, by decide +kernel, by decide +kernel, by decide +kernel, rfl, by decide +kernel, by decide +kernel, by decide +kernel, by decide +kernel, by decide +kernel, by decide +kernel, by decide +kernel, by decide +kernel, rfl, rfl, rfl, rfl, rfl, by decide +kernel⟩
set_option maxRecDepth 100000 in
set_option maxHeartbeats 4000000 in
theorem C_Model_bound : oM m_Model_bound = 12 ∧
  rkM m_Model_bound = 1 ∧
  dM m_Model_bound = 0 ∧
  lM m_Model_bound = 1 ∧
  decode (cM m_Model_bound) 0 = .ok (.aload_n 0, 1) ∧
  decode (cM m_Model_bound) 1 = .ok (.getfield 27, 3) ∧
  fldT 12 27 = some (12, 2, 2) ∧
  decode (cM m_Model_bound) 4 = .ok (.iconst 1, 1) ∧
  decode (cM m_Model_bound) 5 = .ok (.iaload, 1) ∧
  decode (cM m_Model_bound) 6 = .ok (.iconst (-1), 1) ∧
  decode (cM m_Model_bound) 7 = .ok (.if_icmp .ne 8, 3) ∧
  am_okt 7 8 ∧
  am_tgt 7 8 = 15 ∧
  decode (cM m_Model_bound) 10 = .ok (.bipush 70, 2) ∧
  decode (cM m_Model_bound) 12 = .ok (.goto 9, 3) ∧
  am_okt 12 9 ∧
  am_tgt 12 9 = 21 ∧
  decode (cM m_Model_bound) 15 = .ok (.aload_n 0, 1) ∧
  decode (cM m_Model_bound) 16 = .ok (.getfield 27, 3) ∧
  decode (cM m_Model_bound) 19 = .ok (.iconst 1, 1) ∧
  decode (cM m_Model_bound) 20 = .ok (.iaload, 1) ∧
  decode (cM m_Model_bound) 21 = .ok (.ireturn, 1) :=
  ⟨rfl, rfl, rfl, rfl, by decide +kernel, by decide +kernel, rfl, by decide +kernel, by decide +kernel, by decide +kernel, by decide +kernel, rfl, rfl, by decide +kernel, by decide +kernel, rfl, rfl, by decide +kernel, by decide +kernel, by decide +kernel, by decide +kernel, by decide +kernel⟩
set_option maxRecDepth 100000 in
set_option maxHeartbeats 4000000 in
theorem C_Model_lap : oM m_Model_lap = 12 ∧
  rkM m_Model_lap = 1 ∧
  dM m_Model_lap = 0 ∧
  lM m_Model_lap = 1 ∧
  decode (cM m_Model_lap) 0 = .ok (.aload_n 0, 1) ∧
  decode (cM m_Model_lap) 1 = .ok (.getfield 27, 3) ∧
  fldT 12 27 = some (12, 2, 2) ∧
  decode (cM m_Model_lap) 4 = .ok (.iconst 2, 1) ∧
  decode (cM m_Model_lap) 5 = .ok (.iaload, 1) ∧
  decode (cM m_Model_lap) 6 = .ok (.iconst (-1), 1) ∧
  decode (cM m_Model_lap) 7 = .ok (.if_icmp .ne 8, 3) ∧
  am_okt 7 8 ∧
  am_tgt 7 8 = 15 ∧
  decode (cM m_Model_lap) 10 = .ok (.bipush 6, 2) ∧
  decode (cM m_Model_lap) 12 = .ok (.goto 9, 3) ∧
  am_okt 12 9 ∧
  am_tgt 12 9 = 21 ∧
  decode (cM m_Model_lap) 15 = .ok (.aload_n 0, 1) ∧
  decode (cM m_Model_lap) 16 = .ok (.getfield 27, 3) ∧
  decode (cM m_Model_lap) 19 = .ok (.iconst 2, 1) ∧
  decode (cM m_Model_lap) 20 = .ok (.iaload, 1) ∧
  decode (cM m_Model_lap) 21 = .ok (.ireturn, 1) :=
  ⟨rfl, rfl, rfl, rfl, by decide +kernel, by decide +kernel, rfl, by decide +kernel, by decide +kernel, by decide +kernel, by decide +kernel, rfl, rfl, by decide +kernel, by decide +kernel, rfl, rfl, by decide +kernel, by decide +kernel, by decide +kernel, by decide +kernel, by decide +kernel⟩
set_option maxRecDepth 100000 in
set_option maxHeartbeats 4000000 in
theorem C_Model_margin : oM m_Model_margin = 12 ∧
  rkM m_Model_margin = 1 ∧
  dM m_Model_margin = 0 ∧
  lM m_Model_margin = 1 ∧
  decode (cM m_Model_margin) 0 = .ok (.aload_n 0, 1) ∧
  decode (cM m_Model_margin) 1 = .ok (.getfield 27, 3) ∧
  fldT 12 27 = some (12, 2, 2) ∧
  decode (cM m_Model_margin) 4 = .ok (.iconst 3, 1) ∧
  decode (cM m_Model_margin) 5 = .ok (.iaload, 1) ∧
  decode (cM m_Model_margin) 6 = .ok (.iconst (-1), 1) ∧
  decode (cM m_Model_margin) 7 = .ok (.if_icmp .ne 7, 3) ∧
  am_okt 7 7 ∧
  am_tgt 7 7 = 14 ∧
  decode (cM m_Model_margin) 10 = .ok (.iconst 5, 1) ∧
  decode (cM m_Model_margin) 11 = .ok (.goto 9, 3) ∧
  am_okt 11 9 ∧
  am_tgt 11 9 = 20 ∧
  decode (cM m_Model_margin) 14 = .ok (.aload_n 0, 1) ∧
  decode (cM m_Model_margin) 15 = .ok (.getfield 27, 3) ∧
  decode (cM m_Model_margin) 18 = .ok (.iconst 3, 1) ∧
  decode (cM m_Model_margin) 19 = .ok (.iaload, 1) ∧
  decode (cM m_Model_margin) 20 = .ok (.ireturn, 1) :=
  ⟨rfl, rfl, rfl, rfl, by decide +kernel, by decide +kernel, rfl, by decide +kernel, by decide +kernel, by decide +kernel, by decide +kernel, rfl, rfl, by decide +kernel, by decide +kernel, rfl, rfl, by decide +kernel, by decide +kernel, by decide +kernel, by decide +kernel, by decide +kernel⟩
set_option maxRecDepth 100000 in
set_option maxHeartbeats 4000000 in
theorem C_Model_datedSet : oM m_Model_datedSet = 12 ∧
  rkM m_Model_datedSet = 1 ∧
  dM m_Model_datedSet = 2 ∧
  lM m_Model_datedSet = 3 ∧
  decode (cM m_Model_datedSet) 0 = .ok (.iconst 0, 1) ∧
  decode (cM m_Model_datedSet) 1 = .ok (.istore_n 1, 1) ∧
  decode (cM m_Model_datedSet) 2 = .ok (.iconst 0, 1) ∧
  decode (cM m_Model_datedSet) 3 = .ok (.istore_n 2, 1) ∧
  decode (cM m_Model_datedSet) 4 = .ok (.iload_n 2, 1) ∧
  decode (cM m_Model_datedSet) 5 = .ok (.aload_n 0, 1) ∧
  decode (cM m_Model_datedSet) 6 = .ok (.getfield 27, 3) ∧
  fldT 12 27 = some (12, 2, 2) ∧
  decode (cM m_Model_datedSet) 9 = .ok (.iconst 0, 1) ∧
  decode (cM m_Model_datedSet) 10 = .ok (.iaload, 1) ∧
  decode (cM m_Model_datedSet) 11 = .ok (.if_icmp .ge 27, 3) ∧
  am_okt 11 27 ∧
  am_tgt 11 27 = 38 ∧
  decode (cM m_Model_datedSet) 14 = .ok (.iload_n 1, 1) ∧
  decode (cM m_Model_datedSet) 15 = .ok (.aload_n 0, 1) ∧
  decode (cM m_Model_datedSet) 16 = .ok (.iload_n 2, 1) ∧
  decode (cM m_Model_datedSet) 17 = .ok (.invokevirtual 297, 3) ∧
  invT 12 297 = some (m_Model_isDated, 0) ∧
  nM m_Model_isDated = 2 ∧
  oM m_Model_isDated = 12 ∧
  rkM m_Model_isDated = 2 ∧
  dM m_Model_isDated = 1 ∧
  decode (cM m_Model_datedSet) 20 = .ok (.ifCond .eq 9, 3) ∧
  am_okt 20 9 ∧
  am_tgt 20 9 = 29 ∧
  decode (cM m_Model_datedSet) 23 = .ok (.iconst 1, 1) ∧
  decode (cM m_Model_datedSet) 24 = .ok (.iload_n 2, 1) ∧
  decode (cM m_Model_datedSet) 25 = .ok (.ishl, 1) ∧
  decode (cM m_Model_datedSet) 26 = .ok (.goto 4, 3) ∧
  am_okt 26 4 ∧
  am_tgt 26 4 = 30 ∧
  decode (cM m_Model_datedSet) 29 = .ok (.iconst 0, 1) ∧
  decode (cM m_Model_datedSet) 30 = .ok (.ior, 1) ∧
  decode (cM m_Model_datedSet) 31 = .ok (.istore_n 1, 1) ∧
  decode (cM m_Model_datedSet) 32 = .ok (.iinc 2 1, 3) ∧
  decode (cM m_Model_datedSet) 35 = .ok (.goto (-31), 3) ∧
  am_okt 35 (-31) ∧
  am_tgt 35 (-31) = 4 ∧
  decode (cM m_Model_datedSet) 38 = .ok (.iload_n 1, 1) ∧
  decode (cM m_Model_datedSet) 39 = .ok (.ireturn, 1) :=
  ⟨rfl, rfl, rfl, rfl, by decide +kernel, by decide +kernel, by decide +kernel, by decide +kernel, by decide +kernel, by decide +kernel, by decide +kernel, rfl, by decide +kernel, by decide +kernel, by decide +kernel, rfl, rfl, by decide +kernel, by decide +kernel, by decide +kernel, by decide +kernel, rfl, rfl, rfl, rfl, rfl, by decide +kernel, rfl, rfl, by decide +kernel, by decide +kernel, by decide +kernel, by decide +kernel, rfl, rfl, by decide +kernel, by decide +kernel, by decide +kernel, by decide +kernel, by decide +kernel, rfl, rfl, by decide +kernel, by decide +kernel⟩
set_option maxRecDepth 100000 in
set_option maxHeartbeats 4000000 in
theorem C_Model_isDated : oM m_Model_isDated = 12 ∧
  rkM m_Model_isDated = 2 ∧
  dM m_Model_isDated = 1 ∧
  lM m_Model_isDated = 2 ∧
  decode (cM m_Model_isDated) 0 = .ok (.aload_n 0, 1) ∧
  decode (cM m_Model_isDated) 1 = .ok (.iload_n 1, 1) ∧
  decode (cM m_Model_isDated) 2 = .ok (.iconst 4, 1) ∧
  decode (cM m_Model_isDated) 3 = .ok (.invokevirtual 257, 3) ∧
  invT 12 257 = some (m_Model_of, 0) ∧
  nM m_Model_of = 3 ∧
  oM m_Model_of = 12 ∧
  rkM m_Model_of = 1 ∧
  dM m_Model_of = 0 ∧
  decode (cM m_Model_isDated) 6 = .ok (.iconst (-1), 1) ∧
  decode (cM m_Model_isDated) 7 = .ok (.if_icmp .eq 7, 3) ∧
  am_okt 7 7 ∧
  am_tgt 7 7 = 14 ∧
  decode (cM m_Model_isDated) 10 = .ok (.iconst 1, 1) ∧
  decode (cM m_Model_isDated) 11 = .ok (.goto 4, 3) ∧
  am_okt 11 4 ∧
  am_tgt 11 4 = 15 ∧
  decode (cM m_Model_isDated) 14 = .ok (.iconst 0, 1) ∧
  decode (cM m_Model_isDated) 15 = .ok (.ireturn, 1) :=
  ⟨rfl, rfl, rfl, rfl, by decide +kernel, by decide +kernel, by decide +kernel, by decide +kernel, rfl, rfl, rfl, rfl, rfl, by decide +kernel, by decide +kernel, rfl, rfl, by decide +kernel, by decide +kernel, rfl, rfl, by decide +kernel, by decide +kernel⟩
set_option maxRecDepth 100000 in
set_option maxHeartbeats 4000000 in
theorem C_Model_of : oM m_Model_of = 12 ∧
  rkM m_Model_of = 1 ∧
  dM m_Model_of = 0 ∧
  lM m_Model_of = 3 ∧
  decode (cM m_Model_of) 0 = .ok (.aload_n 0, 1) ∧
  decode (cM m_Model_of) 1 = .ok (.getfield 34, 3) ∧
  fldT 12 34 = some (12, 4, 2) ∧
  decode (cM m_Model_of) 4 = .ok (.bipush 30, 2) ∧
  decode (cM m_Model_of) 6 = .ok (.iload_n 1, 1) ∧
  decode (cM m_Model_of) 7 = .ok (.imul, 1) ∧
  decode (cM m_Model_of) 8 = .ok (.iload_n 2, 1) ∧
  decode (cM m_Model_of) 9 = .ok (.iadd, 1) ∧
  decode (cM m_Model_of) 10 = .ok (.iaload, 1) ∧
  decode (cM m_Model_of) 11 = .ok (.ireturn, 1) :=
  ⟨rfl, rfl, rfl, rfl, by decide +kernel, by decide +kernel, rfl, by decide +kernel, by decide +kernel, by decide +kernel, by decide +kernel, by decide +kernel, by decide +kernel, by decide +kernel⟩
set_option maxRecDepth 100000 in
set_option maxHeartbeats 4000000 in
theorem C_Model_layChronology : oM m_Model_layChronology = 12 ∧
  rkM m_Model_layChronology = 0 ∧
  dM m_Model_layChronology = 4 ∧
  lM m_Model_layChronology = 4 ∧
  decode (cM m_Model_layChronology) 0 = .ok (.iconst (-1), 1) ∧
  decode (cM m_Model_layChronology) 1 = .ok (.istore_n 2, 1) ∧
  decode (cM m_Model_layChronology) 2 = .ok (.aload_n 0, 1) ∧
  decode (cM m_Model_layChronology) 3 = .ok (.iconst (-1), 1) ∧
  decode (cM m_Model_layChronology) 4 = .ok (.putfield 281, 3) ∧
  fldT 12 281 = some (12, 30, 0) ∧
  decode (cM m_Model_layChronology) 7 = .ok (.iconst 0, 1) ∧
  decode (cM m_Model_layChronology) 8 = .ok (.istore_n 3, 1) ∧
  decode (cM m_Model_layChronology) 9 = .ok (.iload_n 3, 1) ∧
  decode (cM m_Model_layChronology) 10 = .ok (.aload_n 0, 1) ∧
  decode (cM m_Model_layChronology) 11 = .ok (.getfield 27, 3) ∧
  fldT 12 27 = some (12, 2, 2) ∧
  decode (cM m_Model_layChronology) 14 = .ok (.iconst 0, 1) ∧
  decode (cM m_Model_layChronology) 15 = .ok (.iaload, 1) ∧
  decode (cM m_Model_layChronology) 16 = .ok (.if_icmp .ge 90, 3) ∧
  am_okt 16 90 ∧
  am_tgt 16 90 = 106 ∧
  decode (cM m_Model_layChronology) 19 = .ok (.aload_n 0, 1) ∧
  decode (cM m_Model_layChronology) 20 = .ok (.getfield 68, 3) ∧
  fldT 12 68 = some (12, 31, 2) ∧
  decode (cM m_Model_layChronology) 23 = .ok (.iload_n 3, 1) ∧
  decode (cM m_Model_layChronology) 24 = .ok (.aload_n 0, 1) ∧
  decode (cM m_Model_layChronology) 25 = .ok (.iload_n 3, 1) ∧
  decode (cM m_Model_layChronology) 26 = .ok (.invokevirtual 303, 3) ∧
  invT 12 303 = some (m_Model_widths, 0) ∧
  nM m_Model_widths = 2 ∧
  oM m_Model_widths = 12 ∧
  rkM m_Model_widths = 1 ∧
  dM m_Model_widths = 1 ∧
  decode (cM m_Model_layChronology) 29 = .ok (.iastore, 1) ∧
  decode (cM m_Model_layChronology) 30 = .ok (.aload_n 0, 1) ∧
  decode (cM m_Model_layChronology) 31 = .ok (.iload_n 3, 1) ∧
  decode (cM m_Model_layChronology) 32 = .ok (.invokevirtual 297, 3) ∧
  invT 12 297 = some (m_Model_isDated, 0) ∧
  nM m_Model_isDated = 2 ∧
  oM m_Model_isDated = 12 ∧
  rkM m_Model_isDated = 2 ∧
  dM m_Model_isDated = 1 ∧
  decode (cM m_Model_layChronology) 35 = .ok (.ifCond .eq 65, 3) ∧
  am_okt 35 65 ∧
  am_tgt 35 65 = 100 ∧
  decode (cM m_Model_layChronology) 38 = .ok (.iload_n 3, 1) ∧
  decode (cM m_Model_layChronology) 39 = .ok (.iload_n 1, 1) ∧
  decode (cM m_Model_layChronology) 40 = .ok (.if_icmp .ne 6, 3) ∧
  am_okt 40 6 ∧
  am_tgt 40 6 = 46 ∧
  decode (cM m_Model_layChronology) 43 = .ok (.goto 57, 3) ∧
  am_okt 43 57 ∧
  am_tgt 43 57 = 100 ∧
  decode (cM m_Model_layChronology) 46 = .ok (.aload_n 0, 1) ∧
  decode (cM m_Model_layChronology) 47 = .ok (.aload_n 0, 1) ∧
  decode (cM m_Model_layChronology) 48 = .ok (.getfield 281, 3) ∧
  decode (cM m_Model_layChronology) 51 = .ok (.iconst (-1), 1) ∧
  decode (cM m_Model_layChronology) 52 = .ok (.if_icmp .ne 12, 3) ∧
  am_okt 52 12 ∧
  am_tgt 52 12 = 64 ∧
  decode (cM m_Model_layChronology) 55 = .ok (.aload_n 0, 1) ∧
  decode (cM m_Model_layChronology) 56 = .ok (.iload_n 3, 1) ∧
  decode (cM m_Model_layChronology) 57 = .ok (.iconst 4, 1) ∧
  decode (cM m_Model_layChronology) 58 = .ok (.invokevirtual 257, 3) ∧
  invT 12 257 = some (m_Model_of, 0) ∧
  nM m_Model_of = 3 ∧
  oM m_Model_of = 12 ∧
  rkM m_Model_of = 1 ∧
  dM m_Model_of = 0 ∧
  decode (cM m_Model_layChronology) 61 = .ok (.goto 16, 3) ∧
  am_okt 61 16 ∧
  am_tgt 61 16 = 77 ∧
  decode (cM m_Model_layChronology) 64 = .ok (.aload_n 0, 1) ∧
  decode (cM m_Model_layChronology) 65 = .ok (.getfield 281, 3) ∧
  decode (cM m_Model_layChronology) 68 = .ok (.aload_n 0, 1) ∧
  decode (cM m_Model_layChronology) 69 = .ok (.iload_n 3, 1) ∧
  decode (cM m_Model_layChronology) 70 = .ok (.iconst 4, 1) ∧
  decode (cM m_Model_layChronology) 71 = .ok (.invokevirtual 257, 3) ∧
  decode (cM m_Model_layChronology) 74 = .ok (.invokestatic 175, 3) ∧
  invT 12 175 = some (0, 4) ∧
  decode (cM m_Model_layChronology) 77 = .ok (.putfield 281, 3) ∧
  decode (cM m_Model_layChronology) 80 = .ok (.iload_n 2, 1) ∧
  decode (cM m_Model_layChronology) 81 = .ok (.aload_n 0, 1) ∧
  decode (cM m_Model_layChronology) 82 = .ok (.iload_n 3, 1) ∧
  decode (cM m_Model_layChronology) 83 = .ok (.iconst 4, 1) ∧
  decode (cM m_Model_layChronology) 84 = .ok (.invokevirtual 257, 3) ∧
  decode (cM m_Model_layChronology) 87 = .ok (.aload_n 0, 1) ∧
  decode (cM m_Model_layChronology) 88 = .ok (.iload_n 3, 1) ∧
  decode (cM m_Model_layChronology) 89 = .ok (.iconst 0, 1) ∧
  decode (cM m_Model_layChronology) 90 = .ok (.invokevirtual 257, 3) ∧
  decode (cM m_Model_layChronology) 93 = .ok (.iadd, 1) ∧
  decode (cM m_Model_layChronology) 94 = .ok (.iconst 1, 1) ∧
  decode (cM m_Model_layChronology) 95 = .ok (.isub, 1) ∧
  decode (cM m_Model_layChronology) 96 = .ok (.invokestatic 306, 3) ∧
  invT 12 306 = some (0, 3) ∧
  decode (cM m_Model_layChronology) 99 = .ok (.istore_n 2, 1) ∧
  decode (cM m_Model_layChronology) 100 = .ok (.iinc 3 1, 3) ∧
  decode (cM m_Model_layChronology) 103 = .ok (.goto (-94), 3) ∧
  am_okt 103 (-94) ∧
  am_tgt 103 (-94) = 9 ∧
  decode (cM m_Model_layChronology) 106 = .ok (.aload_n 0, 1) ∧
  decode (cM m_Model_layChronology) 107 = .ok (.iconst 0, 1) ∧
  decode (cM m_Model_layChronology) 108 = .ok (.putfield 278, 3) ∧
  fldT 12 278 = some (12, 27, 0) ∧
  decode (cM m_Model_layChronology) 111 = .ok (.aload_n 0, 1) ∧
  decode (cM m_Model_layChronology) 112 = .ok (.aload_n 0, 1) ∧
  decode (cM m_Model_layChronology) 113 = .ok (.getfield 281, 3) ∧
  decode (cM m_Model_layChronology) 116 = .ok (.iconst (-1), 1) ∧
  decode (cM m_Model_layChronology) 117 = .ok (.if_icmp .ne 7, 3) ∧
  am_okt 117 7 ∧
  am_tgt 117 7 = 124 ∧
  decode (cM m_Model_layChronology) 120 = .ok (.iconst 0, 1) ∧
  decode (cM m_Model_layChronology) 121 = .ok (.goto 11, 3) ∧
  am_okt 121 11 ∧
  am_tgt 121 11 = 132 ∧
  decode (cM m_Model_layChronology) 124 = .ok (.iload_n 2, 1) ∧
  decode (cM m_Model_layChronology) 125 = .ok (.aload_n 0, 1) ∧
  decode (cM m_Model_layChronology) 126 = .ok (.getfield 281, 3) ∧
  decode (cM m_Model_layChronology) 129 = .ok (.isub, 1) ∧
  decode (cM m_Model_layChronology) 130 = .ok (.iconst 1, 1) ∧
  decode (cM m_Model_layChronology) 131 = .ok (.iadd, 1) ∧
  decode (cM m_Model_layChronology) 132 = .ok (.putfield 275, 3) ∧
  fldT 12 275 = some (12, 26, 0) ∧
  decode (cM m_Model_layChronology) 135 = .ok (.iconst 0, 1) ∧
  decode (cM m_Model_layChronology) 136 = .ok (.istore_n 3, 1) ∧
  decode (cM m_Model_layChronology) 137 = .ok (.iload_n 3, 1) ∧
  decode (cM m_Model_layChronology) 138 = .ok (.aload_n 0, 1) ∧
  decode (cM m_Model_layChronology) 139 = .ok (.getfield 275, 3) ∧
  decode (cM m_Model_layChronology) 142 = .ok (.if_icmp .ge 26, 3) ∧
  am_okt 142 26 ∧
  am_tgt 142 26 = 168 ∧
  decode (cM m_Model_layChronology) 145 = .ok (.aload_n 0, 1) ∧
  decode (cM m_Model_layChronology) 146 = .ok (.getfield 50, 3) ∧
  fldT 12 50 = some (12, 20, 2) ∧
  decode (cM m_Model_layChronology) 149 = .ok (.iload_n 3, 1) ∧
  decode (cM m_Model_layChronology) 150 = .ok (.aload_n 0, 1) ∧
  decode (cM m_Model_layChronology) 151 = .ok (.aload_n 0, 1) ∧
  decode (cM m_Model_layChronology) 152 = .ok (.getfield 281, 3) ∧
  decode (cM m_Model_layChronology) 155 = .ok (.iload_n 3, 1) ∧
  decode (cM m_Model_layChronology) 156 = .ok (.iadd, 1) ∧
  decode (cM m_Model_layChronology) 157 = .ok (.iload_n 1, 1) ∧
  decode (cM m_Model_layChronology) 158 = .ok (.invokevirtual 309, 3) ∧
  invT 12 309 = some (m_Model_indexOf, 0) ∧
  nM m_Model_indexOf = 3 ∧
  oM m_Model_indexOf = 12 ∧
  rkM m_Model_indexOf = 1 ∧
  dM m_Model_indexOf = 3 ∧
  decode (cM m_Model_layChronology) 161 = .ok (.iastore, 1) ∧
  decode (cM m_Model_layChronology) 162 = .ok (.iinc 3 1, 3) ∧
  decode (cM m_Model_layChronology) 165 = .ok (.goto (-28), 3) ∧
  am_okt 165 (-28) ∧
  am_tgt 165 (-28) = 137 ∧
  decode (cM m_Model_layChronology) 168 = .ok (.aload_n 0, 1) ∧
  decode (cM m_Model_layChronology) 169 = .ok (.getfield 50, 3) ∧
  decode (cM m_Model_layChronology) 172 = .ok (.aload_n 0, 1) ∧
  decode (cM m_Model_layChronology) 173 = .ok (.getfield 53, 3) ∧
  fldT 12 53 = some (12, 21, 2) ∧
  decode (cM m_Model_layChronology) 176 = .ok (.aload_n 0, 1) ∧
  decode (cM m_Model_layChronology) 177 = .ok (.getfield 56, 3) ∧
  fldT 12 56 = some (12, 22, 2) ∧
  decode (cM m_Model_layChronology) 180 = .ok (.aload_n 0, 1) ∧
  decode (cM m_Model_layChronology) 181 = .ok (.getfield 275, 3) ∧
  decode (cM m_Model_layChronology) 184 = .ok (.invokestatic 284, 3) ∧
  invT 12 284 = some (m_Model_tellRow, 1) ∧
  nM m_Model_tellRow = 4 ∧
  oM m_Model_tellRow = 12 ∧
  rkM m_Model_tellRow = 0 ∧
  dM m_Model_tellRow = 2 ∧
  decode (cM m_Model_layChronology) 187 = .ok (.return_, 1) :=
  ⟨rfl, rfl, rfl, rfl, by decide +kernel, by decide +kernel, by decide +kernel, by decide +kernel, by decide +kernel, rfl, by decide +kernel, by decide +kernel, by decide +kernel, by decide +kernel, by decide +kernel, rfl, by decide +kernel, by decide +kernel, by decide +kernel, rfl, rfl, by decide +kernel, by decide +kernel, rfl, by decide +kernel, by decide +kernel, by decide +kernel, by decide +kernel, rfl, rfl, rfl, rfl, rfl, by decide +kernel, by decide +kernel, by decide +kernel, by decide +kernel, rfl, rfl, rfl, rfl, rfl, by decide +kernel, rfl, rfl, by decide +kernel, by decide +kernel, by decide +kernel, rfl, rfl, by decide +kernel, rfl, rfl, by decide +kernel, by decide +kernel, by decide +kernel, by decide +kernel, by decide +kernel, rfl, rfl, by decide +kernel, by decide +kernel, by decide +kernel, by decide +kernel, rfl, rfl, rfl, rfl, rfl, by decide +kernel, rfl, rfl, by decide +kernel, by decide +kernel, by decide +kernel, by decide +kernel, by decide +kernel, by decide +kernel, by decide +kernel, rfl, by decide +kernel, by decide +kernel, by decide +kernel, by decide +kernel, by decide +kernel, by decide +kernel, by decide +kernel, by decide +kernel, by decide +kernel, by decide +kernel, by decide +kernel, by decide +kernel, by decide +kernel, by decide +kernel, rfl, by decide +kernel, by decide +kernel, by decide +kernel, rfl, rfl, by decide +kernel, by decide +kernel, by decide +kernel, rfl, by decide +kernel, by decide +kernel, by decide +kernel, by decide +kernel, by decide +kernel, rfl, rfl, by decide +kernel, by decide +kernel, rfl, rfl, by decide +kernel, by decide +kernel, by decide +kernel, by decide +kernel, by decide +kernel, by decide +kernel, by decide +kernel, rfl, by decide +kernel, by decide +kernel, by decide +kernel, by decide +kernel, by decide +kernel, by decide +kernel, rfl, rfl, by decide +kernel, by decide +kernel, rfl, by decide +kernel, by decide +kernel, by decide +kernel, by decide +kernel, by decide +kernel, by decide +kernel, by decide +kernel, by decide +kernel, rfl, rfl, rfl, rfl, rfl, by decide +kernel, by decide +kernel, by decide +kernel, rfl, rfl, by decide +kernel, by decide +kernel, by decide +kernel, by decide +kernel, rfl, by decide +kernel, by decide +kernel, rfl, by decide +kernel, by decide +kernel, by decide +kernel, rfl, rfl, rfl, rfl, rfl, by decide +kernel⟩
set_option maxRecDepth 100000 in
set_option maxHeartbeats 4000000 in
theorem C_Model_widths : oM m_Model_widths = 12 ∧
  rkM m_Model_widths = 1 ∧
  dM m_Model_widths = 1 ∧
  lM m_Model_widths = 4 ∧
  decode (cM m_Model_widths) 0 = .ok (.iconst 0, 1) ∧
  decode (cM m_Model_widths) 1 = .ok (.istore_n 2, 1) ∧
  decode (cM m_Model_widths) 2 = .ok (.iconst 0, 1) ∧
  decode (cM m_Model_widths) 3 = .ok (.istore_n 3, 1) ∧
  decode (cM m_Model_widths) 4 = .ok (.iload_n 3, 1) ∧
  decode (cM m_Model_widths) 5 = .ok (.aload_n 0, 1) ∧
  decode (cM m_Model_widths) 6 = .ok (.iload_n 1, 1) ∧
  decode (cM m_Model_widths) 7 = .ok (.iconst 0, 1) ∧
  decode (cM m_Model_widths) 8 = .ok (.invokevirtual 257, 3) ∧
  invT 12 257 = some (m_Model_of, 0) ∧
  nM m_Model_of = 3 ∧
  oM m_Model_of = 12 ∧
  rkM m_Model_of = 1 ∧
  dM m_Model_of = 0 ∧
  decode (cM m_Model_widths) 11 = .ok (.if_icmp .ge 21, 3) ∧
  am_okt 11 21 ∧
  am_tgt 11 21 = 32 ∧
  decode (cM m_Model_widths) 14 = .ok (.iload_n 2, 1) ∧
  decode (cM m_Model_widths) 15 = .ok (.aload_n 0, 1) ∧
  decode (cM m_Model_widths) 16 = .ok (.iload_n 1, 1) ∧
  decode (cM m_Model_widths) 17 = .ok (.bipush 6, 2) ∧
  decode (cM m_Model_widths) 19 = .ok (.iload_n 3, 1) ∧
  decode (cM m_Model_widths) 20 = .ok (.iadd, 1) ∧
  decode (cM m_Model_widths) 21 = .ok (.invokevirtual 257, 3) ∧
  decode (cM m_Model_widths) 24 = .ok (.iadd, 1) ∧
  decode (cM m_Model_widths) 25 = .ok (.istore_n 2, 1) ∧
  decode (cM m_Model_widths) 26 = .ok (.iinc 3 1, 3) ∧
  decode (cM m_Model_widths) 29 = .ok (.goto (-25), 3) ∧
  am_okt 29 (-25) ∧
  am_tgt 29 (-25) = 4 ∧
  decode (cM m_Model_widths) 32 = .ok (.iload_n 2, 1) ∧
  decode (cM m_Model_widths) 33 = .ok (.ireturn, 1) :=
  ⟨rfl, rfl, rfl, rfl, by decide +kernel, by decide +kernel, by decide +kernel, by decide +kernel, by decide +kernel, by decide +kernel, by decide +kernel, by decide +kernel, by decide +kernel, rfl, rfl, rfl, rfl, rfl, by decide +kernel, rfl, rfl, by decide +kernel, by decide +kernel, by decide +kernel, by decide +kernel, by decide +kernel, by decide +kernel, by decide +kernel, by decide +kernel, by decide +kernel, by decide +kernel, by decide +kernel, rfl, rfl, by decide +kernel, by decide +kernel⟩
set_option maxRecDepth 100000 in
set_option maxHeartbeats 4000000 in
theorem C_Model_indexOf : oM m_Model_indexOf = 12 ∧
  rkM m_Model_indexOf = 1 ∧
  dM m_Model_indexOf = 3 ∧
  lM m_Model_indexOf = 7 ∧
  decode (cM m_Model_indexOf) 0 = .ok (.iconst 0, 1) ∧
  decode (cM m_Model_indexOf) 1 = .ok (.istore_n 3, 1) ∧
  decode (cM m_Model_indexOf) 2 = .ok (.iconst 0, 1) ∧
  decode (cM m_Model_indexOf) 3 = .ok (.istore 4, 2) ∧
  decode (cM m_Model_indexOf) 5 = .ok (.iconst 0, 1) ∧
  decode (cM m_Model_indexOf) 6 = .ok (.istore 5, 2) ∧
  decode (cM m_Model_indexOf) 8 = .ok (.iload 5, 2) ∧
  decode (cM m_Model_indexOf) 10 = .ok (.aload_n 0, 1) ∧
  decode (cM m_Model_indexOf) 11 = .ok (.getfield 27, 3) ∧
  fldT 12 27 = some (12, 2, 2) ∧
  decode (cM m_Model_indexOf) 14 = .ok (.iconst 0, 1) ∧
  decode (cM m_Model_indexOf) 15 = .ok (.iaload, 1) ∧
  decode (cM m_Model_indexOf) 16 = .ok (.if_icmp .ge 74, 3) ∧
  am_okt 16 74 ∧
  am_tgt 16 74 = 90 ∧
  decode (cM m_Model_indexOf) 19 = .ok (.iload 5, 2) ∧
  decode (cM m_Model_indexOf) 21 = .ok (.iload_n 2, 1) ∧
  decode (cM m_Model_indexOf) 22 = .ok (.if_icmp .ne 7, 3) ∧
  am_okt 22 7 ∧
  am_tgt 22 7 = 29 ∧
  decode (cM m_Model_indexOf) 25 = .ok (.iconst (-1), 1) ∧
  decode (cM m_Model_indexOf) 26 = .ok (.goto 10, 3) ∧
  am_okt 26 10 ∧
  am_tgt 26 10 = 36 ∧
  decode (cM m_Model_indexOf) 29 = .ok (.aload_n 0, 1) ∧
  decode (cM m_Model_indexOf) 30 = .ok (.iload 5, 2) ∧
  decode (cM m_Model_indexOf) 32 = .ok (.iload_n 1, 1) ∧
  decode (cM m_Model_indexOf) 33 = .ok (.invokevirtual 300, 3) ∧
  invT 12 300 = some (m_Model_ringIn, 0) ∧
  nM m_Model_ringIn = 3 ∧
  oM m_Model_ringIn = 12 ∧
  rkM m_Model_ringIn = 1 ∧
  dM m_Model_ringIn = 2 ∧
  decode (cM m_Model_indexOf) 36 = .ok (.istore 6, 2) ∧
  decode (cM m_Model_indexOf) 38 = .ok (.iload 6, 2) ∧
  decode (cM m_Model_indexOf) 40 = .ok (.iconst (-1), 1) ∧
  decode (cM m_Model_indexOf) 41 = .ok (.if_icmp .ne 6, 3) ∧
  am_okt 41 6 ∧
  am_tgt 41 6 = 47 ∧
  decode (cM m_Model_indexOf) 44 = .ok (.goto 40, 3) ∧
  am_okt 44 40 ∧
  am_tgt 44 40 = 84 ∧
  decode (cM m_Model_indexOf) 47 = .ok (.iload_n 3, 1) ∧
  decode (cM m_Model_indexOf) 48 = .ok (.sipush 1000, 3) ∧
  decode (cM m_Model_indexOf) 51 = .ok (.aload_n 0, 1) ∧
  decode (cM m_Model_indexOf) 52 = .ok (.iload 5, 2) ∧
  decode (cM m_Model_indexOf) 54 = .ok (.bipush 6, 2) ∧
  decode (cM m_Model_indexOf) 56 = .ok (.iload 6, 2) ∧
  decode (cM m_Model_indexOf) 58 = .ok (.iadd, 1) ∧
  decode (cM m_Model_indexOf) 59 = .ok (.invokevirtual 257, 3) ∧
  invT 12 257 = some (m_Model_of, 0) ∧
  nM m_Model_of = 3 ∧
  oM m_Model_of = 12 ∧
  rkM m_Model_of = 1 ∧
  dM m_Model_of = 0 ∧
  decode (cM m_Model_indexOf) 62 = .ok (.imul, 1) ∧
  decode (cM m_Model_indexOf) 63 = .ok (.aload_n 0, 1) ∧
  decode (cM m_Model_indexOf) 64 = .ok (.iload 5, 2) ∧
  decode (cM m_Model_indexOf) 66 = .ok (.iconst 0, 1) ∧
  decode (cM m_Model_indexOf) 67 = .ok (.invokevirtual 257, 3) ∧
  decode (cM m_Model_indexOf) 70 = .ok (.imul, 1) ∧
  decode (cM m_Model_indexOf) 71 = .ok (.aload_n 0, 1) ∧
  decode (cM m_Model_indexOf) 72 = .ok (.getfield 68, 3) ∧
  fldT 12 68 = some (12, 31, 2) ∧
  decode (cM m_Model_indexOf) 75 = .ok (.iload 5, 2) ∧
  decode (cM m_Model_indexOf) 77 = .ok (.iaload, 1) ∧
  decode (cM m_Model_indexOf) 78 = .ok (.idiv, 1) ∧
  decode (cM m_Model_indexOf) 79 = .ok (.iadd, 1) ∧
  decode (cM m_Model_indexOf) 80 = .ok (.istore_n 3, 1) ∧
  decode (cM m_Model_indexOf) 81 = .ok (.iinc 4 1, 3) ∧
  decode (cM m_Model_indexOf) 84 = .ok (.iinc 5 1, 3) ∧
  decode (cM m_Model_indexOf) 87 = .ok (.goto (-79), 3) ∧
  am_okt 87 (-79) ∧
  am_tgt 87 (-79) = 8 ∧
  decode (cM m_Model_indexOf) 90 = .ok (.iload 4, 2) ∧
  decode (cM m_Model_indexOf) 92 = .ok (.ifCond .ne 7, 3) ∧
  am_okt 92 7 ∧
  am_tgt 92 7 = 99 ∧
  decode (cM m_Model_indexOf) 95 = .ok (.iconst (-1), 1) ∧
  decode (cM m_Model_indexOf) 96 = .ok (.goto 7, 3) ∧
  am_okt 96 7 ∧
  am_tgt 96 7 = 103 ∧
  decode (cM m_Model_indexOf) 99 = .ok (.iload_n 3, 1) ∧
  decode (cM m_Model_indexOf) 100 = .ok (.iload 4, 2) ∧
  decode (cM m_Model_indexOf) 102 = .ok (.idiv, 1) ∧
  decode (cM m_Model_indexOf) 103 = .ok (.ireturn, 1) :=
  ⟨rfl, rfl, rfl, rfl, by decide +kernel, by decide +kernel, by decide +kernel, by decide +kernel, by decide +kernel, by decide +kernel, by decide +kernel, by decide +kernel, by decide +kernel, rfl, by decide +kernel, by decide +kernel, by decide +kernel, rfl, rfl, by decide +kernel, by decide +kernel, by decide +kernel, rfl, rfl, by decide +kernel, by decide +kernel, rfl, rfl, by decide +kernel, by decide +kernel, by decide +kernel, by decide +kernel, rfl, rfl, rfl, rfl, rfl, by decide +kernel, by decide +kernel, by decide +kernel, by decide +kernel, rfl, rfl, by decide +kernel, rfl, rfl, by decide +kernel, by decide +kernel, by decide +kernel, by decide +kernel, by decide +kernel, by decide +kernel, by decide +kernel, by decide +kernel, rfl, rfl, rfl, rfl, rfl, by decide +kernel, by decide +kernel, by decide +kernel, by decide +kernel, by decide +kernel, by decide +kernel, by decide +kernel, by decide +kernel, rfl, by decide +kernel, by decide +kernel, by decide +kernel, by decide +kernel, by decide +kernel, by decide +kernel, by decide +kernel, by decide +kernel, rfl, rfl, by decide +kernel, by decide +kernel, rfl, rfl, by decide +kernel, by decide +kernel, rfl, rfl, by decide +kernel, by decide +kernel, by decide +kernel, by decide +kernel⟩
set_option maxRecDepth 100000 in
set_option maxHeartbeats 4000000 in
theorem C_Model_ringIn : oM m_Model_ringIn = 12 ∧
  rkM m_Model_ringIn = 1 ∧
  dM m_Model_ringIn = 2 ∧
  lM m_Model_ringIn = 4 ∧
  decode (cM m_Model_ringIn) 0 = .ok (.iload_n 2, 1) ∧
  decode (cM m_Model_ringIn) 1 = .ok (.aload_n 0, 1) ∧
  decode (cM m_Model_ringIn) 2 = .ok (.iload_n 1, 1) ∧
  decode (cM m_Model_ringIn) 3 = .ok (.iconst 4, 1) ∧
  decode (cM m_Model_ringIn) 4 = .ok (.invokevirtual 257, 3) ∧
  invT 12 257 = some (m_Model_of, 0) ∧
  nM m_Model_of = 3 ∧
  oM m_Model_of = 12 ∧
  rkM m_Model_of = 1 ∧
  dM m_Model_of = 0 ∧
  decode (cM m_Model_ringIn) 7 = .ok (.isub, 1) ∧
  decode (cM m_Model_ringIn) 8 = .ok (.istore_n 3, 1) ∧
  decode (cM m_Model_ringIn) 9 = .ok (.aload_n 0, 1) ∧
  decode (cM m_Model_ringIn) 10 = .ok (.iload_n 1, 1) ∧
  decode (cM m_Model_ringIn) 11 = .ok (.invokevirtual 297, 3) ∧
  invT 12 297 = some (m_Model_isDated, 0) ∧
  nM m_Model_isDated = 2 ∧
  oM m_Model_isDated = 12 ∧
  rkM m_Model_isDated = 2 ∧
  dM m_Model_isDated = 1 ∧
  decode (cM m_Model_ringIn) 14 = .ok (.ifCond .eq 21, 3) ∧
  am_okt 14 21 ∧
  am_tgt 14 21 = 35 ∧
  decode (cM m_Model_ringIn) 17 = .ok (.iload_n 3, 1) ∧
  decode (cM m_Model_ringIn) 18 = .ok (.ifCond .lt 17, 3) ∧
  am_okt 18 17 ∧
  am_tgt 18 17 = 35 ∧
  decode (cM m_Model_ringIn) 21 = .ok (.iload_n 3, 1) ∧
  decode (cM m_Model_ringIn) 22 = .ok (.aload_n 0, 1) ∧
  decode (cM m_Model_ringIn) 23 = .ok (.iload_n 1, 1) ∧
  decode (cM m_Model_ringIn) 24 = .ok (.iconst 0, 1) ∧
  decode (cM m_Model_ringIn) 25 = .ok (.invokevirtual 257, 3) ∧
  decode (cM m_Model_ringIn) 28 = .ok (.if_icmp .ge 7, 3) ∧
  am_okt 28 7 ∧
  am_tgt 28 7 = 35 ∧
  decode (cM m_Model_ringIn) 31 = .ok (.iload_n 3, 1) ∧
  decode (cM m_Model_ringIn) 32 = .ok (.goto 4, 3) ∧
  am_okt 32 4 ∧
  am_tgt 32 4 = 36 ∧
  decode (cM m_Model_ringIn) 35 = .ok (.iconst (-1), 1) ∧
  decode (cM m_Model_ringIn) 36 = .ok (.ireturn, 1) :=
  ⟨rfl, rfl, rfl, rfl, by decide +kernel, by decide +kernel, by decide +kernel, by decide +kernel, by decide +kernel, rfl, rfl, rfl, rfl, rfl, by decide +kernel, by decide +kernel, by decide +kernel, by decide +kernel, by decide +kernel, rfl, rfl, rfl, rfl, rfl, by decide +kernel, rfl, rfl, by decide +kernel, by decide +kernel, rfl, rfl, by decide +kernel, by decide +kernel, by decide +kernel, by decide +kernel, by decide +kernel, by decide +kernel, rfl, rfl, by decide +kernel, by decide +kernel, rfl, rfl, by decide +kernel, by decide +kernel⟩
set_option maxRecDepth 100000 in
set_option maxHeartbeats 4000000 in
theorem C_Model_tellRow : oM m_Model_tellRow = 12 ∧
  rkM m_Model_tellRow = 0 ∧
  dM m_Model_tellRow = 2 ∧
  lM m_Model_tellRow = 5 ∧
  decode (cM m_Model_tellRow) 0 = .ok (.iconst 0, 1) ∧
  decode (cM m_Model_tellRow) 1 = .ok (.istore 4, 2) ∧
  decode (cM m_Model_tellRow) 3 = .ok (.iload 4, 2) ∧
  decode (cM m_Model_tellRow) 5 = .ok (.iload_n 3, 1) ∧
  decode (cM m_Model_tellRow) 6 = .ok (.if_icmp .ge 31, 3) ∧
  am_okt 6 31 ∧
  am_tgt 6 31 = 37 ∧
  decode (cM m_Model_tellRow) 9 = .ok (.aload_n 1, 1) ∧
  decode (cM m_Model_tellRow) 10 = .ok (.iload 4, 2) ∧
  decode (cM m_Model_tellRow) 12 = .ok (.aload_n 0, 1) ∧
  decode (cM m_Model_tellRow) 13 = .ok (.iload_n 3, 1) ∧
  decode (cM m_Model_tellRow) 14 = .ok (.iload 4, 2) ∧
  decode (cM m_Model_tellRow) 16 = .ok (.invokestatic 269, 3) ∧
  invT 12 269 = some (m_Model_stepAt, 1) ∧
  nM m_Model_stepAt = 3 ∧
  oM m_Model_stepAt = 12 ∧
  rkM m_Model_stepAt = 1 ∧
  dM m_Model_stepAt = 1 ∧
  decode (cM m_Model_tellRow) 19 = .ok (.iastore, 1) ∧
  decode (cM m_Model_tellRow) 20 = .ok (.aload_n 2, 1) ∧
  decode (cM m_Model_tellRow) 21 = .ok (.iload 4, 2) ∧
  decode (cM m_Model_tellRow) 23 = .ok (.aload_n 0, 1) ∧
  decode (cM m_Model_tellRow) 24 = .ok (.iload_n 3, 1) ∧
  decode (cM m_Model_tellRow) 25 = .ok (.iload 4, 2) ∧
  decode (cM m_Model_tellRow) 27 = .ok (.invokestatic 272, 3) ∧
  invT 12 272 = some (m_Model_rankAt, 1) ∧
  nM m_Model_rankAt = 3 ∧
  oM m_Model_rankAt = 12 ∧
  rkM m_Model_rankAt = 1 ∧
  dM m_Model_rankAt = 1 ∧
  decode (cM m_Model_tellRow) 30 = .ok (.iastore, 1) ∧
  decode (cM m_Model_tellRow) 31 = .ok (.iinc 4 1, 3) ∧
  decode (cM m_Model_tellRow) 34 = .ok (.goto (-31), 3) ∧
  am_okt 34 (-31) ∧
  am_tgt 34 (-31) = 3 ∧
  decode (cM m_Model_tellRow) 37 = .ok (.return_, 1) :=
  ⟨rfl, rfl, rfl, rfl, by decide +kernel, by decide +kernel, by decide +kernel, by decide +kernel, by decide +kernel, rfl, rfl, by decide +kernel, by decide +kernel, by decide +kernel, by decide +kernel, by decide +kernel, by decide +kernel, rfl, rfl, rfl, rfl, rfl, by decide +kernel, by decide +kernel, by decide +kernel, by decide +kernel, by decide +kernel, by decide +kernel, by decide +kernel, rfl, rfl, rfl, rfl, rfl, by decide +kernel, by decide +kernel, by decide +kernel, rfl, rfl, by decide +kernel⟩
set_option maxRecDepth 100000 in
set_option maxHeartbeats 4000000 in
theorem C_Model_stepAt : oM m_Model_stepAt = 12 ∧
  rkM m_Model_stepAt = 1 ∧
  dM m_Model_stepAt = 1 ∧
  lM m_Model_stepAt = 5 ∧
  decode (cM m_Model_stepAt) 0 = .ok (.aload_n 0, 1) ∧
  decode (cM m_Model_stepAt) 1 = .ok (.iload_n 1, 1) ∧
  decode (cM m_Model_stepAt) 2 = .ok (.iload_n 2, 1) ∧
  decode (cM m_Model_stepAt) 3 = .ok (.invokestatic 260, 3) ∧
  invT 12 260 = some (m_Model_numberAt, 1) ∧
  nM m_Model_numberAt = 3 ∧
  oM m_Model_numberAt = 12 ∧
  rkM m_Model_numberAt = 1 ∧
  dM m_Model_numberAt = 0 ∧
  decode (cM m_Model_stepAt) 6 = .ok (.istore_n 3, 1) ∧
  decode (cM m_Model_stepAt) 7 = .ok (.aload_n 0, 1) ∧
  decode (cM m_Model_stepAt) 8 = .ok (.iload_n 1, 1) ∧
  decode (cM m_Model_stepAt) 9 = .ok (.iload_n 2, 1) ∧
  decode (cM m_Model_stepAt) 10 = .ok (.iconst 1, 1) ∧
  decode (cM m_Model_stepAt) 11 = .ok (.isub, 1) ∧
  decode (cM m_Model_stepAt) 12 = .ok (.invokestatic 260, 3) ∧
  decode (cM m_Model_stepAt) 15 = .ok (.istore 4, 2) ∧
  decode (cM m_Model_stepAt) 17 = .ok (.iload_n 3, 1) ∧
  decode (cM m_Model_stepAt) 18 = .ok (.iconst (-1), 1) ∧
  decode (cM m_Model_stepAt) 19 = .ok (.if_icmp .eq 9, 3) ∧
  am_okt 19 9 ∧
  am_tgt 19 9 = 28 ∧
  decode (cM m_Model_stepAt) 22 = .ok (.iload 4, 2) ∧
  decode (cM m_Model_stepAt) 24 = .ok (.iconst (-1), 1) ∧
  decode (cM m_Model_stepAt) 25 = .ok (.if_icmp .ne 7, 3) ∧
  am_okt 25 7 ∧
  am_tgt 25 7 = 32 ∧
  decode (cM m_Model_stepAt) 28 = .ok (.iconst 2, 1) ∧
  decode (cM m_Model_stepAt) 29 = .ok (.goto 9, 3) ∧
  am_okt 29 9 ∧
  am_tgt 29 9 = 38 ∧
  decode (cM m_Model_stepAt) 32 = .ok (.iload_n 3, 1) ∧
  decode (cM m_Model_stepAt) 33 = .ok (.iload 4, 2) ∧
  decode (cM m_Model_stepAt) 35 = .ok (.invokestatic 264, 3) ∧
  invT 12 264 = some (m_Integer_compare, 1) ∧
  nM m_Integer_compare = 2 ∧
  oM m_Integer_compare = 13 ∧
  rkM m_Integer_compare = 1 ∧
  dM m_Integer_compare = 0 ∧
  decode (cM m_Model_stepAt) 38 = .ok (.ireturn, 1) :=
  ⟨rfl, rfl, rfl, rfl, by decide +kernel, by decide +kernel, by decide +kernel, by decide +kernel, rfl, rfl, rfl, rfl, rfl, by decide +kernel, by decide +kernel, by decide +kernel, by decide +kernel, by decide +kernel, by decide +kernel, by decide +kernel, by decide +kernel, by decide +kernel, by decide +kernel, by decide +kernel, rfl, rfl, by decide +kernel, by decide +kernel, by decide +kernel, rfl, rfl, by decide +kernel, by decide +kernel, rfl, rfl, by decide +kernel, by decide +kernel, by decide +kernel, rfl, rfl, rfl, rfl, rfl, by decide +kernel⟩
set_option maxRecDepth 100000 in
set_option maxHeartbeats 4000000 in
theorem C_Model_numberAt : oM m_Model_numberAt = 12 ∧
  rkM m_Model_numberAt = 1 ∧
  dM m_Model_numberAt = 0 ∧
  lM m_Model_numberAt = 3 ∧
  decode (cM m_Model_numberAt) 0 = .ok (.iload_n 2, 1) ∧
  decode (cM m_Model_numberAt) 1 = .ok (.ifCond .lt 14, 3) ∧
  am_okt 1 14 ∧
  am_tgt 1 14 = 15 ∧
  decode (cM m_Model_numberAt) 4 = .ok (.iload_n 2, 1) ∧
  decode (cM m_Model_numberAt) 5 = .ok (.iload_n 1, 1) ∧
  decode (cM m_Model_numberAt) 6 = .ok (.if_icmp .ge 9, 3) ∧
  am_okt 6 9 ∧
  am_tgt 6 9 = 15 ∧
  decode (cM m_Model_numberAt) 9 = .ok (.aload_n 0, 1) ∧
  decode (cM m_Model_numberAt) 10 = .ok (.iload_n 2, 1) ∧
  decode (cM m_Model_numberAt) 11 = .ok (.iaload, 1) ∧
  decode (cM m_Model_numberAt) 12 = .ok (.goto 4, 3) ∧
  am_okt 12 4 ∧
  am_tgt 12 4 = 16 ∧
  decode (cM m_Model_numberAt) 15 = .ok (.iconst (-1), 1) ∧
  decode (cM m_Model_numberAt) 16 = .ok (.ireturn, 1) :=
  ⟨rfl, rfl, rfl, rfl, by decide +kernel, by decide +kernel, rfl, rfl, by decide +kernel, by decide +kernel, by decide +kernel, rfl, rfl, by decide +kernel, by decide +kernel, by decide +kernel, by decide +kernel, rfl, rfl, by decide +kernel, by decide +kernel⟩
set_option maxRecDepth 100000 in
set_option maxHeartbeats 4000000 in
theorem C_Model_rankAt : oM m_Model_rankAt = 12 ∧
  rkM m_Model_rankAt = 1 ∧
  dM m_Model_rankAt = 1 ∧
  lM m_Model_rankAt = 7 ∧
  decode (cM m_Model_rankAt) 0 = .ok (.aload_n 0, 1) ∧
  decode (cM m_Model_rankAt) 1 = .ok (.iload_n 1, 1) ∧
  decode (cM m_Model_rankAt) 2 = .ok (.iload_n 2, 1) ∧
  decode (cM m_Model_rankAt) 3 = .ok (.invokestatic 260, 3) ∧
  invT 12 260 = some (m_Model_numberAt, 1) ∧
  nM m_Model_numberAt = 3 ∧
  oM m_Model_numberAt = 12 ∧
  rkM m_Model_numberAt = 1 ∧
  dM m_Model_numberAt = 0 ∧
  decode (cM m_Model_rankAt) 6 = .ok (.istore_n 3, 1) ∧
  decode (cM m_Model_rankAt) 7 = .ok (.iconst 0, 1) ∧
  decode (cM m_Model_rankAt) 8 = .ok (.istore 4, 2) ∧
  decode (cM m_Model_rankAt) 10 = .ok (.bipush (-2), 2) ∧
  decode (cM m_Model_rankAt) 12 = .ok (.istore 5, 2) ∧
  decode (cM m_Model_rankAt) 14 = .ok (.iload 5, 2) ∧
  decode (cM m_Model_rankAt) 16 = .ok (.iconst 3, 1) ∧
  decode (cM m_Model_rankAt) 17 = .ok (.if_icmp .ge 47, 3) ∧
  am_okt 17 47 ∧
  am_tgt 17 47 = 64 ∧
  decode (cM m_Model_rankAt) 20 = .ok (.aload_n 0, 1) ∧
  decode (cM m_Model_rankAt) 21 = .ok (.iload_n 1, 1) ∧
  decode (cM m_Model_rankAt) 22 = .ok (.iload_n 2, 1) ∧
  decode (cM m_Model_rankAt) 23 = .ok (.iload 5, 2) ∧
  decode (cM m_Model_rankAt) 25 = .ok (.iadd, 1) ∧
  decode (cM m_Model_rankAt) 26 = .ok (.invokestatic 260, 3) ∧
  decode (cM m_Model_rankAt) 29 = .ok (.istore 6, 2) ∧
  decode (cM m_Model_rankAt) 31 = .ok (.iload 4, 2) ∧
  decode (cM m_Model_rankAt) 33 = .ok (.iload 5, 2) ∧
  decode (cM m_Model_rankAt) 35 = .ok (.ifCond .eq 19, 3) ∧
  am_okt 35 19 ∧
  am_tgt 35 19 = 54 ∧
  decode (cM m_Model_rankAt) 38 = .ok (.iload 6, 2) ∧
  decode (cM m_Model_rankAt) 40 = .ok (.iconst (-1), 1) ∧
  decode (cM m_Model_rankAt) 41 = .ok (.if_icmp .eq 13, 3) ∧
  am_okt 41 13 ∧
  am_tgt 41 13 = 54 ∧
  decode (cM m_Model_rankAt) 44 = .ok (.iload 6, 2) ∧
  decode (cM m_Model_rankAt) 46 = .ok (.iload_n 3, 1) ∧
  decode (cM m_Model_rankAt) 47 = .ok (.if_icmp .ge 7, 3) ∧
  am_okt 47 7 ∧
  am_tgt 47 7 = 54 ∧
  decode (cM m_Model_rankAt) 50 = .ok (.iconst 1, 1) ∧
  decode (cM m_Model_rankAt) 51 = .ok (.goto 4, 3) ∧
  am_okt 51 4 ∧
  am_tgt 51 4 = 55 ∧
  decode (cM m_Model_rankAt) 54 = .ok (.iconst 0, 1) ∧
  decode (cM m_Model_rankAt) 55 = .ok (.iadd, 1) ∧
  decode (cM m_Model_rankAt) 56 = .ok (.istore 4, 2) ∧
  decode (cM m_Model_rankAt) 58 = .ok (.iinc 5 1, 3) ∧
  decode (cM m_Model_rankAt) 61 = .ok (.goto (-47), 3) ∧
  am_okt 61 (-47) ∧
  am_tgt 61 (-47) = 14 ∧
  decode (cM m_Model_rankAt) 64 = .ok (.iload 4, 2) ∧
  decode (cM m_Model_rankAt) 66 = .ok (.ireturn, 1) :=
  ⟨rfl, rfl, rfl, rfl, by decide +kernel, by decide +kernel, by decide +kernel, by decide +kernel, rfl, rfl, rfl, rfl, rfl, by decide +kernel, by decide +kernel, by decide +kernel, by decide +kernel, by decide +kernel, by decide +kernel, by decide +kernel, by decide +kernel, rfl, rfl, by decide +kernel, by decide +kernel, by decide +kernel, by decide +kernel, by decide +kernel, by decide +kernel, by decide +kernel, by decide +kernel, by decide +kernel, by decide +kernel, rfl, rfl, by decide +kernel, by decide +kernel, by decide +kernel, rfl, rfl, by decide +kernel, by decide +kernel, by decide +kernel, rfl, rfl, by decide +kernel, by decide +kernel, rfl, rfl, by decide +kernel, by decide +kernel, by decide +kernel, by decide +kernel, by decide +kernel, rfl, rfl, by decide +kernel, by decide +kernel⟩
set_option maxRecDepth 100000 in
set_option maxHeartbeats 4000000 in
theorem C_Model_tellLinks : oM m_Model_tellLinks = 12 ∧
  rkM m_Model_tellLinks = 0 ∧
  dM m_Model_tellLinks = 5 ∧
  lM m_Model_tellLinks = 4 ∧
  decode (cM m_Model_tellLinks) 0 = .ok (.aload_n 0, 1) ∧
  decode (cM m_Model_tellLinks) 1 = .ok (.iconst 0, 1) ∧
  decode (cM m_Model_tellLinks) 2 = .ok (.putfield 356, 3) ∧
  fldT 12 356 = some (12, 49, 0) ∧
  decode (cM m_Model_tellLinks) 5 = .ok (.iconst 0, 1) ∧
  decode (cM m_Model_tellLinks) 6 = .ok (.istore_n 1, 1) ∧
  decode (cM m_Model_tellLinks) 7 = .ok (.iload_n 1, 1) ∧
  decode (cM m_Model_tellLinks) 8 = .ok (.aload_n 0, 1) ∧
  decode (cM m_Model_tellLinks) 9 = .ok (.getfield 27, 3) ∧
  fldT 12 27 = some (12, 2, 2) ∧
  decode (cM m_Model_tellLinks) 12 = .ok (.iconst 0, 1) ∧
  decode (cM m_Model_tellLinks) 13 = .ok (.iaload, 1) ∧
  decode (cM m_Model_tellLinks) 14 = .ok (.if_icmp .ge 60, 3) ∧
  am_okt 14 60 ∧
  am_tgt 14 60 = 74 ∧
  decode (cM m_Model_tellLinks) 17 = .ok (.aload_n 0, 1) ∧
  decode (cM m_Model_tellLinks) 18 = .ok (.iload_n 1, 1) ∧
  decode (cM m_Model_tellLinks) 19 = .ok (.invokevirtual 359, 3) ∧
  invT 12 359 = some (m_Model_layA, 0) ∧
  nM m_Model_layA = 2 ∧
  oM m_Model_layA = 12 ∧
  rkM m_Model_layA = 0 ∧
  dM m_Model_layA = 3 ∧
  decode (cM m_Model_tellLinks) 22 = .ok (.iload_n 1, 1) ∧
  decode (cM m_Model_tellLinks) 23 = .ok (.iconst 1, 1) ∧
  decode (cM m_Model_tellLinks) 24 = .ok (.iadd, 1) ∧
  decode (cM m_Model_tellLinks) 25 = .ok (.istore_n 2, 1) ∧
  decode (cM m_Model_tellLinks) 26 = .ok (.iload_n 2, 1) ∧
  decode (cM m_Model_tellLinks) 27 = .ok (.aload_n 0, 1) ∧
  decode (cM m_Model_tellLinks) 28 = .ok (.getfield 27, 3) ∧
  decode (cM m_Model_tellLinks) 31 = .ok (.iconst 0, 1) ∧
  decode (cM m_Model_tellLinks) 32 = .ok (.iaload, 1) ∧
  decode (cM m_Model_tellLinks) 33 = .ok (.if_icmp .ge 35, 3) ∧
  am_okt 33 35 ∧
  am_tgt 33 35 = 68 ∧
  decode (cM m_Model_tellLinks) 36 = .ok (.aload_n 0, 1) ∧
  decode (cM m_Model_tellLinks) 37 = .ok (.iload_n 2, 1) ∧
  decode (cM m_Model_tellLinks) 38 = .ok (.invokevirtual 362, 3) ∧
  invT 12 362 = some (m_Model_layB, 0) ∧
  nM m_Model_layB = 2 ∧
  oM m_Model_layB = 12 ∧
  rkM m_Model_layB = 0 ∧
  dM m_Model_layB = 4 ∧
  decode (cM m_Model_tellLinks) 41 = .ok (.aload_n 0, 1) ∧
  decode (cM m_Model_tellLinks) 42 = .ok (.aload_n 0, 1) ∧
  decode (cM m_Model_tellLinks) 43 = .ok (.invokevirtual 365, 3) ∧
  invT 12 365 = some (m_Model_bound, 0) ∧
  nM m_Model_bound = 1 ∧
  oM m_Model_bound = 12 ∧
  rkM m_Model_bound = 1 ∧
  dM m_Model_bound = 0 ∧
  decode (cM m_Model_tellLinks) 46 = .ok (.invokevirtual 367, 3) ∧
  invT 12 367 = some (m_Model_tellBest, 0) ∧
  nM m_Model_tellBest = 2 ∧
  oM m_Model_tellBest = 12 ∧
  rkM m_Model_tellBest = 0 ∧
  dM m_Model_tellBest = 2 ∧
  decode (cM m_Model_tellLinks) 49 = .ok (.aload_n 0, 1) ∧
  decode (cM m_Model_tellLinks) 50 = .ok (.getfield 353, 3) ∧
  fldT 12 353 = some (12, 40, 0) ∧
  decode (cM m_Model_tellLinks) 53 = .ok (.ifCond .ne 9, 3) ∧
  am_okt 53 9 ∧
  am_tgt 53 9 = 62 ∧
  decode (cM m_Model_tellLinks) 56 = .ok (.aload_n 0, 1) ∧
  decode (cM m_Model_tellLinks) 57 = .ok (.iload_n 1, 1) ∧
  decode (cM m_Model_tellLinks) 58 = .ok (.iload_n 2, 1) ∧
  decode (cM m_Model_tellLinks) 59 = .ok (.invokevirtual 370, 3) ∧
  invT 12 370 = some (m_Model_keepLink, 0) ∧
  nM m_Model_keepLink = 3 ∧
  oM m_Model_keepLink = 12 ∧
  rkM m_Model_keepLink = 0 ∧
  dM m_Model_keepLink = 0 ∧
  decode (cM m_Model_tellLinks) 62 = .ok (.iinc 2 1, 3) ∧
  decode (cM m_Model_tellLinks) 65 = .ok (.goto (-39), 3) ∧
  am_okt 65 (-39) ∧
  am_tgt 65 (-39) = 26 ∧
  decode (cM m_Model_tellLinks) 68 = .ok (.iinc 1 1, 3) ∧
  decode (cM m_Model_tellLinks) 71 = .ok (.goto (-64), 3) ∧
  am_okt 71 (-64) ∧
  am_tgt 71 (-64) = 7 ∧
  decode (cM m_Model_tellLinks) 74 = .ok (.iconst 0, 1) ∧
  decode (cM m_Model_tellLinks) 75 = .ok (.istore_n 1, 1) ∧
  decode (cM m_Model_tellLinks) 76 = .ok (.iload_n 1, 1) ∧
  decode (cM m_Model_tellLinks) 77 = .ok (.aload_n 0, 1) ∧
  decode (cM m_Model_tellLinks) 78 = .ok (.getfield 27, 3) ∧
  decode (cM m_Model_tellLinks) 81 = .ok (.iconst 0, 1) ∧
  decode (cM m_Model_tellLinks) 82 = .ok (.iaload, 1) ∧
  decode (cM m_Model_tellLinks) 83 = .ok (.if_icmp .ge 23, 3) ∧
  am_okt 83 23 ∧
  am_tgt 83 23 = 106 ∧
  decode (cM m_Model_tellLinks) 86 = .ok (.aload_n 0, 1) ∧
  decode (cM m_Model_tellLinks) 87 = .ok (.getfield 83, 3) ∧
  fldT 12 83 = some (12, 46, 2) ∧
  decode (cM m_Model_tellLinks) 90 = .ok (.iload_n 1, 1) ∧
  decode (cM m_Model_tellLinks) 91 = .ok (.iload_n 1, 1) ∧
  decode (cM m_Model_tellLinks) 92 = .ok (.iastore, 1) ∧
  decode (cM m_Model_tellLinks) 93 = .ok (.aload_n 0, 1) ∧
  decode (cM m_Model_tellLinks) 94 = .ok (.getfield 86, 3) ∧
  fldT 12 86 = some (12, 47, 2) ∧
  decode (cM m_Model_tellLinks) 97 = .ok (.iload_n 1, 1) ∧
  decode (cM m_Model_tellLinks) 98 = .ok (.iconst 0, 1) ∧
  decode (cM m_Model_tellLinks) 99 = .ok (.iastore, 1) ∧
  decode (cM m_Model_tellLinks) 100 = .ok (.iinc 1 1, 3) ∧
  decode (cM m_Model_tellLinks) 103 = .ok (.goto (-27), 3) ∧
  am_okt 103 (-27) ∧
  am_tgt 103 (-27) = 76 ∧
  decode (cM m_Model_tellLinks) 106 = .ok (.iconst 0, 1) ∧
  decode (cM m_Model_tellLinks) 107 = .ok (.istore_n 1, 1) ∧
  decode (cM m_Model_tellLinks) 108 = .ok (.iload_n 1, 1) ∧
  decode (cM m_Model_tellLinks) 109 = .ok (.aload_n 0, 1) ∧
  decode (cM m_Model_tellLinks) 110 = .ok (.getfield 356, 3) ∧
  decode (cM m_Model_tellLinks) 113 = .ok (.if_icmp .ge 59, 3) ∧
  am_okt 113 59 ∧
  am_tgt 113 59 = 172 ∧
  decode (cM m_Model_tellLinks) 116 = .ok (.aload_n 0, 1) ∧
  decode (cM m_Model_tellLinks) 117 = .ok (.getfield 89, 3) ∧
  fldT 12 89 = some (12, 48, 2) ∧
  decode (cM m_Model_tellLinks) 120 = .ok (.iload_n 1, 1) ∧
  decode (cM m_Model_tellLinks) 121 = .ok (.aload_n 0, 1) ∧
  decode (cM m_Model_tellLinks) 122 = .ok (.getfield 83, 3) ∧
  decode (cM m_Model_tellLinks) 125 = .ok (.aload_n 0, 1) ∧
  decode (cM m_Model_tellLinks) 126 = .ok (.getfield 71, 3) ∧
  fldT 12 71 = some (12, 42, 2) ∧
  decode (cM m_Model_tellLinks) 129 = .ok (.iload_n 1, 1) ∧
  decode (cM m_Model_tellLinks) 130 = .ok (.iaload, 1) ∧
  decode (cM m_Model_tellLinks) 131 = .ok (.iaload, 1) ∧
  decode (cM m_Model_tellLinks) 132 = .ok (.aload_n 0, 1) ∧
  decode (cM m_Model_tellLinks) 133 = .ok (.getfield 83, 3) ∧
  decode (cM m_Model_tellLinks) 136 = .ok (.aload_n 0, 1) ∧
  decode (cM m_Model_tellLinks) 137 = .ok (.getfield 74, 3) ∧
  fldT 12 74 = some (12, 43, 2) ∧
  decode (cM m_Model_tellLinks) 140 = .ok (.iload_n 1, 1) ∧
  decode (cM m_Model_tellLinks) 141 = .ok (.iaload, 1) ∧
  decode (cM m_Model_tellLinks) 142 = .ok (.iaload, 1) ∧
  decode (cM m_Model_tellLinks) 143 = .ok (.if_icmp .eq 7, 3) ∧
  am_okt 143 7 ∧
  am_tgt 143 7 = 150 ∧
  decode (cM m_Model_tellLinks) 146 = .ok (.iconst 1, 1) ∧
  decode (cM m_Model_tellLinks) 147 = .ok (.goto 4, 3) ∧
  am_okt 147 4 ∧
  am_tgt 147 4 = 151 ∧
  decode (cM m_Model_tellLinks) 150 = .ok (.iconst 0, 1) ∧
  decode (cM m_Model_tellLinks) 151 = .ok (.bastore, 1) ∧
  decode (cM m_Model_tellLinks) 152 = .ok (.aload_n 0, 1) ∧
  decode (cM m_Model_tellLinks) 153 = .ok (.getfield 89, 3) ∧
  decode (cM m_Model_tellLinks) 156 = .ok (.iload_n 1, 1) ∧
  decode (cM m_Model_tellLinks) 157 = .ok (.baload, 1) ∧
  decode (cM m_Model_tellLinks) 158 = .ok (.ifCond .eq 8, 3) ∧
  am_okt 158 8 ∧
  am_tgt 158 8 = 166 ∧
  decode (cM m_Model_tellLinks) 161 = .ok (.aload_n 0, 1) ∧
  decode (cM m_Model_tellLinks) 162 = .ok (.iload_n 1, 1) ∧
  decode (cM m_Model_tellLinks) 163 = .ok (.invokevirtual 374, 3) ∧
  invT 12 374 = some (m_Model_joins, 0) ∧
  nM m_Model_joins = 2 ∧
  oM m_Model_joins = 12 ∧
  rkM m_Model_joins = 0 ∧
  dM m_Model_joins = 0 ∧
  decode (cM m_Model_tellLinks) 166 = .ok (.iinc 1 1, 3) ∧
  decode (cM m_Model_tellLinks) 169 = .ok (.goto (-61), 3) ∧
  am_okt 169 (-61) ∧
  am_tgt 169 (-61) = 108 ∧
  decode (cM m_Model_tellLinks) 172 = .ok (.aload_n 0, 1) ∧
  decode (cM m_Model_tellLinks) 173 = .ok (.getfield 27, 3) ∧
  decode (cM m_Model_tellLinks) 176 = .ok (.iconst 0, 1) ∧
  decode (cM m_Model_tellLinks) 177 = .ok (.iaload, 1) ∧
  decode (cM m_Model_tellLinks) 178 = .ok (.iconst 1, 1) ∧
  decode (cM m_Model_tellLinks) 179 = .ok (.isub, 1) ∧
  decode (cM m_Model_tellLinks) 180 = .ok (.istore_n 1, 1) ∧
  decode (cM m_Model_tellLinks) 181 = .ok (.iload_n 1, 1) ∧
  decode (cM m_Model_tellLinks) 182 = .ok (.ifCond .lt 56, 3) ∧
  am_okt 182 56 ∧
  am_tgt 182 56 = 238 ∧
  decode (cM m_Model_tellLinks) 185 = .ok (.iload_n 1, 1) ∧
  decode (cM m_Model_tellLinks) 186 = .ok (.istore_n 2, 1) ∧
  decode (cM m_Model_tellLinks) 187 = .ok (.iconst 0, 1) ∧
  decode (cM m_Model_tellLinks) 188 = .ok (.istore_n 3, 1) ∧
  decode (cM m_Model_tellLinks) 189 = .ok (.iload_n 3, 1) ∧
  decode (cM m_Model_tellLinks) 190 = .ok (.iload_n 1, 1) ∧
  decode (cM m_Model_tellLinks) 191 = .ok (.if_icmp .ge 34, 3) ∧
  am_okt 191 34 ∧
  am_tgt 191 34 = 225 ∧
  decode (cM m_Model_tellLinks) 194 = .ok (.aload_n 0, 1) ∧
  decode (cM m_Model_tellLinks) 195 = .ok (.getfield 83, 3) ∧
  decode (cM m_Model_tellLinks) 198 = .ok (.iload_n 3, 1) ∧
  decode (cM m_Model_tellLinks) 199 = .ok (.iaload, 1) ∧
  decode (cM m_Model_tellLinks) 200 = .ok (.aload_n 0, 1) ∧
  decode (cM m_Model_tellLinks) 201 = .ok (.getfield 83, 3) ∧
  decode (cM m_Model_tellLinks) 204 = .ok (.iload_n 1, 1) ∧
  decode (cM m_Model_tellLinks) 205 = .ok (.iaload, 1) ∧
  decode (cM m_Model_tellLinks) 206 = .ok (.if_icmp .ne 11, 3) ∧
  am_okt 206 11 ∧
  am_tgt 206 11 = 217 ∧
  decode (cM m_Model_tellLinks) 209 = .ok (.iload_n 2, 1) ∧
  decode (cM m_Model_tellLinks) 210 = .ok (.iload_n 3, 1) ∧
  decode (cM m_Model_tellLinks) 211 = .ok (.invokestatic 175, 3) ∧
  invT 12 175 = some (0, 4) ∧
  decode (cM m_Model_tellLinks) 214 = .ok (.goto 4, 3) ∧
  am_okt 214 4 ∧
  am_tgt 214 4 = 218 ∧
  decode (cM m_Model_tellLinks) 217 = .ok (.iload_n 2, 1) ∧
  decode (cM m_Model_tellLinks) 218 = .ok (.istore_n 2, 1) ∧
  decode (cM m_Model_tellLinks) 219 = .ok (.iinc 3 1, 3) ∧
  decode (cM m_Model_tellLinks) 222 = .ok (.goto (-33), 3) ∧
  am_okt 222 (-33) ∧
  am_tgt 222 (-33) = 189 ∧
  decode (cM m_Model_tellLinks) 225 = .ok (.aload_n 0, 1) ∧
  decode (cM m_Model_tellLinks) 226 = .ok (.getfield 93, 3) ∧
  fldT 12 93 = some (12, 50, 2) ∧
  decode (cM m_Model_tellLinks) 229 = .ok (.iload_n 1, 1) ∧
  decode (cM m_Model_tellLinks) 230 = .ok (.iload_n 2, 1) ∧
  decode (cM m_Model_tellLinks) 231 = .ok (.iastore, 1) ∧
  decode (cM m_Model_tellLinks) 232 = .ok (.iinc 1 (-1), 3) ∧
  decode (cM m_Model_tellLinks) 235 = .ok (.goto (-54), 3) ∧
  am_okt 235 (-54) ∧
  am_tgt 235 (-54) = 181 ∧
  decode (cM m_Model_tellLinks) 238 = .ok (.return_, 1) :=
  ⟨rfl, rfl, rfl, rfl, by decide +kernel, by decide +kernel, by decide +kernel, rfl, by decide +kernel, by decide +kernel, by decide +kernel, by decide +kernel, by decide +kernel, rfl, by decide +kernel, by decide +kernel, by decide +kernel, rfl, rfl, by decide +kernel, by decide +kernel, by decide +kernel, rfl, rfl, rfl, rfl, rfl, by decide +kernel, by decide +kernel, by decide +kernel, by decide +kernel, by decide +kernel, by decide +kernel, by decide +kernel, by decide +kernel, by decide +kernel, by decide +kernel, rfl, rfl, by decide +kernel, by decide +kernel, by decide +kernel, rfl, rfl, rfl, rfl, rfl, by decide +kernel, by decide +kernel, by decide +kernel, rfl, rfl, rfl, rfl, rfl, by decide +kernel, rfl, rfl, rfl, rfl, rfl, by decide +kernel, by decide +kernel, rfl, by decide +kernel, rfl, rfl, by decide +kernel, by decide +kernel, by decide +kernel, by decide +kernel, rfl, rfl, rfl, rfl, rfl, by decide +kernel, by decide +kernel, rfl, rfl, by decide +kernel, by decide +kernel, rfl, rfl, by decide +kernel, by decide +kernel, by decide +kernel, by decide +kernel, by decide +kernel, by decide +kernel, by decide +kernel, by decide +kernel, rfl, rfl, by decide +kernel, by decide +kernel, rfl, by decide +kernel, by decide +kernel, by decide +kernel, by decide +kernel, by decide +kernel, rfl, by decide +kernel, by decide +kernel, by decide +kernel, by decide +kernel, by decide +kernel, rfl, rfl, by decide +kernel, by decide +kernel, by decide +kernel, by decide +kernel, by decide +kernel, by decide +kernel, rfl, rfl, by decide +kernel, by decide +kernel, rfl, by decide +kernel, by decide +kernel, by decide +kernel, by decide +kernel, by decide +kernel, rfl, by decide +kernel, by decide +kernel, by decide +kernel, by decide +kernel, by decide +kernel, by decide +kernel, by decide +kernel, rfl, by decide +kernel, by decide +kernel, by decide +kernel, by decide +kernel, rfl, rfl, by decide +kernel, by decide +kernel, rfl, rfl, by decide +kernel, by decide +kernel, by decide +kernel, by decide +kernel, by decide +kernel, by decide +kernel, by decide +kernel, rfl, rfl, by decide +kernel, by decide +kernel, by decide +kernel, rfl, rfl, rfl, rfl, rfl, by decide +kernel, by decide +kernel, rfl, rfl, by decide +kernel, by decide +kernel, by decide +kernel, by decide +kernel, by decide +kernel, by decide +kernel, by decide +kernel, by decide +kernel, by decide +kernel, rfl, rfl, by decide +kernel, by decide +kernel, by decide +kernel, by decide +kernel, by decide +kernel, by decide +kernel, by decide +kernel, rfl, rfl, by decide +kernel, by decide +kernel, by decide +kernel, by decide +kernel, by decide +kernel, by decide +kernel, by decide +kernel, by decide +kernel, by decide +kernel, rfl, rfl, by decide +kernel, by decide +kernel, by decide +kernel, rfl, by decide +kernel, rfl, rfl, by decide +kernel, by decide +kernel, by decide +kernel, by decide +kernel, rfl, rfl, by decide +kernel, by decide +kernel, rfl, by decide +kernel, by decide +kernel, by decide +kernel, by decide +kernel, by decide +kernel, rfl, rfl, by decide +kernel⟩
set_option maxRecDepth 100000 in
set_option maxHeartbeats 4000000 in
theorem C_Model_layA : oM m_Model_layA = 12 ∧
  rkM m_Model_layA = 0 ∧
  dM m_Model_layA = 3 ∧
  lM m_Model_layA = 3 ∧
  decode (cM m_Model_layA) 0 = .ok (.aload_n 0, 1) ∧
  decode (cM m_Model_layA) 1 = .ok (.aload_n 0, 1) ∧
  decode (cM m_Model_layA) 2 = .ok (.iload_n 1, 1) ∧
  decode (cM m_Model_layA) 3 = .ok (.iconst 0, 1) ∧
  decode (cM m_Model_layA) 4 = .ok (.invokevirtual 257, 3) ∧
  invT 12 257 = some (m_Model_of, 0) ∧
  nM m_Model_of = 3 ∧
  oM m_Model_of = 12 ∧
  rkM m_Model_of = 1 ∧
  dM m_Model_of = 0 ∧
  decode (cM m_Model_layA) 7 = .ok (.putfield 275, 3) ∧
  fldT 12 275 = some (12, 26, 0) ∧
  decode (cM m_Model_layA) 10 = .ok (.aload_n 0, 1) ∧
  decode (cM m_Model_layA) 11 = .ok (.aload_n 0, 1) ∧
  decode (cM m_Model_layA) 12 = .ok (.iload_n 1, 1) ∧
  decode (cM m_Model_layA) 13 = .ok (.iconst 5, 1) ∧
  decode (cM m_Model_layA) 14 = .ok (.invokevirtual 257, 3) ∧
  decode (cM m_Model_layA) 17 = .ok (.putfield 278, 3) ∧
  fldT 12 278 = some (12, 27, 0) ∧
  decode (cM m_Model_layA) 20 = .ok (.aload_n 0, 1) ∧
  decode (cM m_Model_layA) 21 = .ok (.iconst 0, 1) ∧
  decode (cM m_Model_layA) 22 = .ok (.putfield 281, 3) ∧
  fldT 12 281 = some (12, 30, 0) ∧
  decode (cM m_Model_layA) 25 = .ok (.iconst 0, 1) ∧
  decode (cM m_Model_layA) 26 = .ok (.istore_n 2, 1) ∧
  decode (cM m_Model_layA) 27 = .ok (.iload_n 2, 1) ∧
  decode (cM m_Model_layA) 28 = .ok (.aload_n 0, 1) ∧
  decode (cM m_Model_layA) 29 = .ok (.getfield 275, 3) ∧
  decode (cM m_Model_layA) 32 = .ok (.if_icmp .ge 24, 3) ∧
  am_okt 32 24 ∧
  am_tgt 32 24 = 56 ∧
  decode (cM m_Model_layA) 35 = .ok (.aload_n 0, 1) ∧
  decode (cM m_Model_layA) 36 = .ok (.getfield 50, 3) ∧
  fldT 12 50 = some (12, 20, 2) ∧
  decode (cM m_Model_layA) 39 = .ok (.iload_n 2, 1) ∧
  decode (cM m_Model_layA) 40 = .ok (.aload_n 0, 1) ∧
  decode (cM m_Model_layA) 41 = .ok (.iload_n 1, 1) ∧
  decode (cM m_Model_layA) 42 = .ok (.bipush 6, 2) ∧
  decode (cM m_Model_layA) 44 = .ok (.iload_n 2, 1) ∧
  decode (cM m_Model_layA) 45 = .ok (.iadd, 1) ∧
  decode (cM m_Model_layA) 46 = .ok (.invokevirtual 257, 3) ∧
  decode (cM m_Model_layA) 49 = .ok (.iastore, 1) ∧
  decode (cM m_Model_layA) 50 = .ok (.iinc 2 1, 3) ∧
  decode (cM m_Model_layA) 53 = .ok (.goto (-26), 3) ∧
  am_okt 53 (-26) ∧
  am_tgt 53 (-26) = 27 ∧
  decode (cM m_Model_layA) 56 = .ok (.aload_n 0, 1) ∧
  decode (cM m_Model_layA) 57 = .ok (.getfield 50, 3) ∧
  decode (cM m_Model_layA) 60 = .ok (.aload_n 0, 1) ∧
  decode (cM m_Model_layA) 61 = .ok (.getfield 53, 3) ∧
  fldT 12 53 = some (12, 21, 2) ∧
  decode (cM m_Model_layA) 64 = .ok (.aload_n 0, 1) ∧
  decode (cM m_Model_layA) 65 = .ok (.getfield 56, 3) ∧
  fldT 12 56 = some (12, 22, 2) ∧
  decode (cM m_Model_layA) 68 = .ok (.aload_n 0, 1) ∧
  decode (cM m_Model_layA) 69 = .ok (.getfield 275, 3) ∧
  decode (cM m_Model_layA) 72 = .ok (.invokestatic 284, 3) ∧
  invT 12 284 = some (m_Model_tellRow, 1) ∧
  nM m_Model_tellRow = 4 ∧
  oM m_Model_tellRow = 12 ∧
  rkM m_Model_tellRow = 0 ∧
  dM m_Model_tellRow = 2 ∧
  decode (cM m_Model_layA) 75 = .ok (.return_, 1) :=
  ⟨rfl, rfl, rfl, rfl, by decide +kernel, by decide +kernel, by decide +kernel, by decide +kernel, by decide +kernel, rfl, rfl, rfl, rfl, rfl, by decide +kernel, rfl, by decide +kernel, by decide +kernel, by decide +kernel, by decide +kernel, by decide +kernel, by decide +kernel, rfl, by decide +kernel, by decide +kernel, by decide +kernel, rfl, by decide +kernel, by decide +kernel, by decide +kernel, by decide +kernel, by decide +kernel, by decide +kernel, rfl, rfl, by decide +kernel, by decide +kernel, rfl, by decide +kernel, by decide +kernel, by decide +kernel, by decide +kernel, by decide +kernel, by decide +kernel, by decide +kernel, by decide +kernel, by decide +kernel, by decide +kernel, rfl, rfl, by decide +kernel, by decide +kernel, by decide +kernel, by decide +kernel, rfl, by decide +kernel, by decide +kernel, rfl, by decide +kernel, by decide +kernel, by decide +kernel, rfl, rfl, rfl, rfl, rfl, by decide +kernel⟩
set_option maxRecDepth 100000 in
set_option maxHeartbeats 4000000 in
theorem C_Model_layB : oM m_Model_layB = 12 ∧
  rkM m_Model_layB = 0 ∧
  dM m_Model_layB = 4 ∧
  lM m_Model_layB = 3 ∧
  decode (cM m_Model_layB) 0 = .ok (.aload_n 0, 1) ∧
  decode (cM m_Model_layB) 1 = .ok (.aload_n 0, 1) ∧
  decode (cM m_Model_layB) 2 = .ok (.iload_n 1, 1) ∧
  decode (cM m_Model_layB) 3 = .ok (.iconst 0, 1) ∧
  decode (cM m_Model_layB) 4 = .ok (.invokevirtual 257, 3) ∧
  invT 12 257 = some (m_Model_of, 0) ∧
  nM m_Model_of = 3 ∧
  oM m_Model_of = 12 ∧
  rkM m_Model_of = 1 ∧
  dM m_Model_of = 0 ∧
  decode (cM m_Model_layB) 7 = .ok (.putfield 288, 3) ∧
  fldT 12 288 = some (12, 28, 0) ∧
  decode (cM m_Model_layB) 10 = .ok (.aload_n 0, 1) ∧
  decode (cM m_Model_layB) 11 = .ok (.aload_n 0, 1) ∧
  decode (cM m_Model_layB) 12 = .ok (.iload_n 1, 1) ∧
  decode (cM m_Model_layB) 13 = .ok (.iconst 5, 1) ∧
  decode (cM m_Model_layB) 14 = .ok (.invokevirtual 257, 3) ∧
  decode (cM m_Model_layB) 17 = .ok (.putfield 291, 3) ∧
  fldT 12 291 = some (12, 29, 0) ∧
  decode (cM m_Model_layB) 20 = .ok (.iconst 0, 1) ∧
  decode (cM m_Model_layB) 21 = .ok (.istore_n 2, 1) ∧
  decode (cM m_Model_layB) 22 = .ok (.iload_n 2, 1) ∧
  decode (cM m_Model_layB) 23 = .ok (.aload_n 0, 1) ∧
  decode (cM m_Model_layB) 24 = .ok (.getfield 288, 3) ∧
  decode (cM m_Model_layB) 27 = .ok (.if_icmp .ge 24, 3) ∧
  am_okt 27 24 ∧
  am_tgt 27 24 = 51 ∧
  decode (cM m_Model_layB) 30 = .ok (.aload_n 0, 1) ∧
  decode (cM m_Model_layB) 31 = .ok (.getfield 59, 3) ∧
  fldT 12 59 = some (12, 23, 2) ∧
  decode (cM m_Model_layB) 34 = .ok (.iload_n 2, 1) ∧
  decode (cM m_Model_layB) 35 = .ok (.aload_n 0, 1) ∧
  decode (cM m_Model_layB) 36 = .ok (.iload_n 1, 1) ∧
  decode (cM m_Model_layB) 37 = .ok (.bipush 6, 2) ∧
  decode (cM m_Model_layB) 39 = .ok (.iload_n 2, 1) ∧
  decode (cM m_Model_layB) 40 = .ok (.iadd, 1) ∧
  decode (cM m_Model_layB) 41 = .ok (.invokevirtual 257, 3) ∧
  decode (cM m_Model_layB) 44 = .ok (.iastore, 1) ∧
  decode (cM m_Model_layB) 45 = .ok (.iinc 2 1, 3) ∧
  decode (cM m_Model_layB) 48 = .ok (.goto (-26), 3) ∧
  am_okt 48 (-26) ∧
  am_tgt 48 (-26) = 22 ∧
  decode (cM m_Model_layB) 51 = .ok (.aload_n 0, 1) ∧
  decode (cM m_Model_layB) 52 = .ok (.invokevirtual 294, 3) ∧
  invT 12 294 = some (m_Model_tellB, 0) ∧
  nM m_Model_tellB = 1 ∧
  oM m_Model_tellB = 12 ∧
  rkM m_Model_tellB = 0 ∧
  dM m_Model_tellB = 3 ∧
  decode (cM m_Model_layB) 55 = .ok (.return_, 1) :=
  ⟨rfl, rfl, rfl, rfl, by decide +kernel, by decide +kernel, by decide +kernel, by decide +kernel, by decide +kernel, rfl, rfl, rfl, rfl, rfl, by decide +kernel, rfl, by decide +kernel, by decide +kernel, by decide +kernel, by decide +kernel, by decide +kernel, by decide +kernel, rfl, by decide +kernel, by decide +kernel, by decide +kernel, by decide +kernel, by decide +kernel, by decide +kernel, rfl, rfl, by decide +kernel, by decide +kernel, rfl, by decide +kernel, by decide +kernel, by decide +kernel, by decide +kernel, by decide +kernel, by decide +kernel, by decide +kernel, by decide +kernel, by decide +kernel, by decide +kernel, rfl, rfl, by decide +kernel, by decide +kernel, rfl, rfl, rfl, rfl, rfl, by decide +kernel⟩
set_option maxRecDepth 100000 in
set_option maxHeartbeats 4000000 in
theorem C_Model_tellB : oM m_Model_tellB = 12 ∧
  rkM m_Model_tellB = 0 ∧
  dM m_Model_tellB = 3 ∧
  lM m_Model_tellB = 1 ∧
  decode (cM m_Model_tellB) 0 = .ok (.aload_n 0, 1) ∧
  decode (cM m_Model_tellB) 1 = .ok (.getfield 59, 3) ∧
  fldT 12 59 = some (12, 23, 2) ∧
  decode (cM m_Model_tellB) 4 = .ok (.aload_n 0, 1) ∧
  decode (cM m_Model_tellB) 5 = .ok (.getfield 62, 3) ∧
  fldT 12 62 = some (12, 24, 2) ∧
  decode (cM m_Model_tellB) 8 = .ok (.aload_n 0, 1) ∧
  decode (cM m_Model_tellB) 9 = .ok (.getfield 65, 3) ∧
  fldT 12 65 = some (12, 25, 2) ∧
  decode (cM m_Model_tellB) 12 = .ok (.aload_n 0, 1) ∧
  decode (cM m_Model_tellB) 13 = .ok (.getfield 288, 3) ∧
  fldT 12 288 = some (12, 28, 0) ∧
  decode (cM m_Model_tellB) 16 = .ok (.invokestatic 284, 3) ∧
  invT 12 284 = some (m_Model_tellRow, 1) ∧
  nM m_Model_tellRow = 4 ∧
  oM m_Model_tellRow = 12 ∧
  rkM m_Model_tellRow = 0 ∧
  dM m_Model_tellRow = 2 ∧
  decode (cM m_Model_tellB) 19 = .ok (.return_, 1) :=
  ⟨rfl, rfl, rfl, rfl, by decide +kernel, by decide +kernel, rfl, by decide +kernel, by decide +kernel, rfl, by decide +kernel, by decide +kernel, rfl, by decide +kernel, by decide +kernel, rfl, by decide +kernel, rfl, rfl, rfl, rfl, rfl, by decide +kernel⟩
set_option maxRecDepth 100000 in
set_option maxHeartbeats 4000000 in
theorem C_Model_tellBest : oM m_Model_tellBest = 12 ∧
  rkM m_Model_tellBest = 0 ∧
  dM m_Model_tellBest = 2 ∧
  lM m_Model_tellBest = 4 ∧
  decode (cM m_Model_tellBest) 0 = .ok (.aload_n 0, 1) ∧
  decode (cM m_Model_tellBest) 1 = .ok (.iconst 0, 1) ∧
  decode (cM m_Model_tellBest) 2 = .ok (.putfield 331, 3) ∧
  fldT 12 331 = some (12, 41, 1) ∧
  decode (cM m_Model_tellBest) 5 = .ok (.aload_n 0, 1) ∧
  decode (cM m_Model_tellBest) 6 = .ok (.iconst (-1), 1) ∧
  decode (cM m_Model_tellBest) 7 = .ok (.putfield 334, 3) ∧
  fldT 12 334 = some (12, 39, 0) ∧
  decode (cM m_Model_tellBest) 10 = .ok (.iconst 1, 1) ∧
  decode (cM m_Model_tellBest) 11 = .ok (.aload_n 0, 1) ∧
  decode (cM m_Model_tellBest) 12 = .ok (.getfield 288, 3) ∧
  fldT 12 288 = some (12, 28, 0) ∧
  decode (cM m_Model_tellBest) 15 = .ok (.isub, 1) ∧
  decode (cM m_Model_tellBest) 16 = .ok (.istore_n 2, 1) ∧
  decode (cM m_Model_tellBest) 17 = .ok (.iload_n 2, 1) ∧
  decode (cM m_Model_tellBest) 18 = .ok (.aload_n 0, 1) ∧
  decode (cM m_Model_tellBest) 19 = .ok (.getfield 275, 3) ∧
  fldT 12 275 = some (12, 26, 0) ∧
  decode (cM m_Model_tellBest) 22 = .ok (.if_icmp .ge 144, 3) ∧
  am_okt 22 144 ∧
  am_tgt 22 144 = 166 ∧
  decode (cM m_Model_tellBest) 25 = .ok (.aload_n 0, 1) ∧
  decode (cM m_Model_tellBest) 26 = .ok (.iload_n 2, 1) ∧
  decode (cM m_Model_tellBest) 27 = .ok (.invokevirtual 337, 3) ∧
  invT 12 337 = some (m_Model_slide, 0) ∧
  nM m_Model_slide = 2 ∧
  oM m_Model_slide = 12 ∧
  rkM m_Model_slide = 0 ∧
  dM m_Model_slide = 1 ∧
  decode (cM m_Model_tellBest) 30 = .ok (.aload_n 0, 1) ∧
  decode (cM m_Model_tellBest) 31 = .ok (.getfield 312, 3) ∧
  fldT 12 312 = some (12, 32, 0) ∧
  decode (cM m_Model_tellBest) 34 = .ok (.aload_n 0, 1) ∧
  decode (cM m_Model_tellBest) 35 = .ok (.invokevirtual 340, 3) ∧
  invT 12 340 = some (m_Model_lap, 0) ∧
  nM m_Model_lap = 1 ∧
  oM m_Model_lap = 12 ∧
  rkM m_Model_lap = 1 ∧
  dM m_Model_lap = 0 ∧
  decode (cM m_Model_tellBest) 38 = .ok (.if_icmp .ge 6, 3) ∧
  am_okt 38 6 ∧
  am_tgt 38 6 = 44 ∧
  decode (cM m_Model_tellBest) 41 = .ok (.goto 119, 3) ∧
  am_okt 41 119 ∧
  am_tgt 41 119 = 160 ∧
  decode (cM m_Model_tellBest) 44 = .ok (.aload_n 0, 1) ∧
  decode (cM m_Model_tellBest) 45 = .ok (.getfield 331, 3) ∧
  decode (cM m_Model_tellBest) 48 = .ok (.ifCond .eq 36, 3) ∧
  am_okt 48 36 ∧
  am_tgt 48 36 = 84 ∧
  decode (cM m_Model_tellBest) 51 = .ok (.aload_n 0, 1) ∧
  decode (cM m_Model_tellBest) 52 = .ok (.getfield 328, 3) ∧
  fldT 12 328 = some (12, 35, 0) ∧
  decode (cM m_Model_tellBest) 55 = .ok (.aload_n 0, 1) ∧
  decode (cM m_Model_tellBest) 56 = .ok (.getfield 342, 3) ∧
  fldT 12 342 = some (12, 37, 0) ∧
  decode (cM m_Model_tellBest) 59 = .ok (.if_icmp .gt 25, 3) ∧
  am_okt 59 25 ∧
  am_tgt 59 25 = 84 ∧
  decode (cM m_Model_tellBest) 62 = .ok (.aload_n 0, 1) ∧
  decode (cM m_Model_tellBest) 63 = .ok (.getfield 328, 3) ∧
  decode (cM m_Model_tellBest) 66 = .ok (.aload_n 0, 1) ∧
  decode (cM m_Model_tellBest) 67 = .ok (.getfield 342, 3) ∧
  decode (cM m_Model_tellBest) 70 = .ok (.if_icmp .ne 18, 3) ∧
  am_okt 70 18 ∧
  am_tgt 70 18 = 88 ∧
  decode (cM m_Model_tellBest) 73 = .ok (.aload_n 0, 1) ∧
  decode (cM m_Model_tellBest) 74 = .ok (.getfield 312, 3) ∧
  decode (cM m_Model_tellBest) 77 = .ok (.aload_n 0, 1) ∧
  decode (cM m_Model_tellBest) 78 = .ok (.getfield 345, 3) ∧
  fldT 12 345 = some (12, 38, 0) ∧
  decode (cM m_Model_tellBest) 81 = .ok (.if_icmp .le 7, 3) ∧
  am_okt 81 7 ∧
  am_tgt 81 7 = 88 ∧
  decode (cM m_Model_tellBest) 84 = .ok (.iconst 1, 1) ∧
  decode (cM m_Model_tellBest) 85 = .ok (.goto 4, 3) ∧
  am_okt 85 4 ∧
  am_tgt 85 4 = 89 ∧
  decode (cM m_Model_tellBest) 88 = .ok (.iconst 0, 1) ∧
  decode (cM m_Model_tellBest) 89 = .ok (.istore_n 3, 1) ∧
  decode (cM m_Model_tellBest) 90 = .ok (.aload_n 0, 1) ∧
  decode (cM m_Model_tellBest) 91 = .ok (.aload_n 0, 1) ∧
  decode (cM m_Model_tellBest) 92 = .ok (.getfield 334, 3) ∧
  decode (cM m_Model_tellBest) 95 = .ok (.iload_n 3, 1) ∧
  decode (cM m_Model_tellBest) 96 = .ok (.ifCond .eq 21, 3) ∧
  am_okt 96 21 ∧
  am_tgt 96 21 = 117 ∧
  decode (cM m_Model_tellBest) 99 = .ok (.aload_n 0, 1) ∧
  decode (cM m_Model_tellBest) 100 = .ok (.getfield 331, 3) ∧
  decode (cM m_Model_tellBest) 103 = .ok (.ifCond .eq 10, 3) ∧
  am_okt 103 10 ∧
  am_tgt 103 10 = 113 ∧
  decode (cM m_Model_tellBest) 106 = .ok (.aload_n 0, 1) ∧
  decode (cM m_Model_tellBest) 107 = .ok (.getfield 342, 3) ∧
  decode (cM m_Model_tellBest) 110 = .ok (.goto 11, 3) ∧
  am_okt 110 11 ∧
  am_tgt 110 11 = 121 ∧
  decode (cM m_Model_tellBest) 113 = .ok (.iconst (-1), 1) ∧
  decode (cM m_Model_tellBest) 114 = .ok (.goto 7, 3) ∧
  am_okt 114 7 ∧
  am_tgt 114 7 = 121 ∧
  decode (cM m_Model_tellBest) 117 = .ok (.aload_n 0, 1) ∧
  decode (cM m_Model_tellBest) 118 = .ok (.getfield 328, 3) ∧
  decode (cM m_Model_tellBest) 121 = .ok (.invokestatic 306, 3) ∧
  invT 12 306 = some (0, 3) ∧
  decode (cM m_Model_tellBest) 124 = .ok (.putfield 334, 3) ∧
  decode (cM m_Model_tellBest) 127 = .ok (.iload_n 3, 1) ∧
  decode (cM m_Model_tellBest) 128 = .ok (.ifCond .ne 6, 3) ∧
  am_okt 128 6 ∧
  am_tgt 128 6 = 134 ∧
  decode (cM m_Model_tellBest) 131 = .ok (.goto 29, 3) ∧
  am_okt 131 29 ∧
  am_tgt 131 29 = 160 ∧
  decode (cM m_Model_tellBest) 134 = .ok (.aload_n 0, 1) ∧
  decode (cM m_Model_tellBest) 135 = .ok (.iconst 1, 1) ∧
  decode (cM m_Model_tellBest) 136 = .ok (.putfield 331, 3) ∧
  decode (cM m_Model_tellBest) 139 = .ok (.aload_n 0, 1) ∧
  decode (cM m_Model_tellBest) 140 = .ok (.iload_n 2, 1) ∧
  decode (cM m_Model_tellBest) 141 = .ok (.putfield 348, 3) ∧
  fldT 12 348 = some (12, 36, 0) ∧
  decode (cM m_Model_tellBest) 144 = .ok (.aload_n 0, 1) ∧
  decode (cM m_Model_tellBest) 145 = .ok (.aload_n 0, 1) ∧
  decode (cM m_Model_tellBest) 146 = .ok (.getfield 328, 3) ∧
  decode (cM m_Model_tellBest) 149 = .ok (.putfield 342, 3) ∧
  decode (cM m_Model_tellBest) 152 = .ok (.aload_n 0, 1) ∧
  decode (cM m_Model_tellBest) 153 = .ok (.aload_n 0, 1) ∧
  decode (cM m_Model_tellBest) 154 = .ok (.getfield 312, 3) ∧
  decode (cM m_Model_tellBest) 157 = .ok (.putfield 345, 3) ∧
  decode (cM m_Model_tellBest) 160 = .ok (.iinc 2 1, 3) ∧
  decode (cM m_Model_tellBest) 163 = .ok (.goto (-146), 3) ∧
  am_okt 163 (-146) ∧
  am_tgt 163 (-146) = 17 ∧
  decode (cM m_Model_tellBest) 166 = .ok (.aload_n 0, 1) ∧
  decode (cM m_Model_tellBest) 167 = .ok (.aload_n 0, 1) ∧
  decode (cM m_Model_tellBest) 168 = .ok (.getfield 331, 3) ∧
  decode (cM m_Model_tellBest) 171 = .ok (.ifCond .ne 7, 3) ∧
  am_okt 171 7 ∧
  am_tgt 171 7 = 178 ∧
  decode (cM m_Model_tellBest) 174 = .ok (.iconst 1, 1) ∧
  decode (cM m_Model_tellBest) 175 = .ok (.goto 44, 3) ∧
  am_okt 175 44 ∧
  am_tgt 175 44 = 219 ∧
  decode (cM m_Model_tellBest) 178 = .ok (.aload_n 0, 1) ∧
  decode (cM m_Model_tellBest) 179 = .ok (.getfield 342, 3) ∧
  decode (cM m_Model_tellBest) 182 = .ok (.iload_n 1, 1) ∧
  decode (cM m_Model_tellBest) 183 = .ok (.if_icmp .ge 7, 3) ∧
  am_okt 183 7 ∧
  am_tgt 183 7 = 190 ∧
  decode (cM m_Model_tellBest) 186 = .ok (.iconst 2, 1) ∧
  decode (cM m_Model_tellBest) 187 = .ok (.goto 32, 3) ∧
  am_okt 187 32 ∧
  am_tgt 187 32 = 219 ∧
  decode (cM m_Model_tellBest) 190 = .ok (.aload_n 0, 1) ∧
  decode (cM m_Model_tellBest) 191 = .ok (.getfield 334, 3) ∧
  decode (cM m_Model_tellBest) 194 = .ok (.iconst (-1), 1) ∧
  decode (cM m_Model_tellBest) 195 = .ok (.if_icmp .eq 23, 3) ∧
  am_okt 195 23 ∧
  am_tgt 195 23 = 218 ∧
  decode (cM m_Model_tellBest) 198 = .ok (.aload_n 0, 1) ∧
  decode (cM m_Model_tellBest) 199 = .ok (.getfield 342, 3) ∧
  decode (cM m_Model_tellBest) 202 = .ok (.aload_n 0, 1) ∧
  decode (cM m_Model_tellBest) 203 = .ok (.getfield 334, 3) ∧
  decode (cM m_Model_tellBest) 206 = .ok (.isub, 1) ∧
  decode (cM m_Model_tellBest) 207 = .ok (.aload_n 0, 1) ∧
  decode (cM m_Model_tellBest) 208 = .ok (.invokevirtual 351, 3) ∧
  invT 12 351 = some (m_Model_margin, 0) ∧
  nM m_Model_margin = 1 ∧
  oM m_Model_margin = 12 ∧
  rkM m_Model_margin = 1 ∧
  dM m_Model_margin = 0 ∧
  decode (cM m_Model_tellBest) 211 = .ok (.if_icmp .ge 7, 3) ∧
  am_okt 211 7 ∧
  am_tgt 211 7 = 218 ∧
  decode (cM m_Model_tellBest) 214 = .ok (.iconst 3, 1) ∧
  decode (cM m_Model_tellBest) 215 = .ok (.goto 4, 3) ∧
  am_okt 215 4 ∧
  am_tgt 215 4 = 219 ∧
  decode (cM m_Model_tellBest) 218 = .ok (.iconst 0, 1) ∧
  decode (cM m_Model_tellBest) 219 = .ok (.putfield 353, 3) ∧
  fldT 12 353 = some (12, 40, 0) ∧
  decode (cM m_Model_tellBest) 222 = .ok (.return_, 1) :=
  ⟨rfl, rfl, rfl, rfl, by decide +kernel, by decide +kernel, by decide +kernel, rfl, by decide +kernel, by decide +kernel, by decide +kernel, rfl, by decide +kernel, by decide +kernel, by decide +kernel, rfl, by decide +kernel, by decide +kernel, by decide +kernel, by decide +kernel, by decide +kernel, rfl, by decide +kernel, rfl, rfl, by decide +kernel, by decide +kernel, by decide +kernel, rfl, rfl, rfl, rfl, rfl, by decide +kernel, by decide +kernel, rfl, by decide +kernel, by decide +kernel, rfl, rfl, rfl, rfl, rfl, by decide +kernel, rfl, rfl, by decide +kernel, rfl, rfl, by decide +kernel, by decide +kernel, by decide +kernel, rfl, rfl, by decide +kernel, by decide +kernel, rfl, by decide +kernel, by decide +kernel, rfl, by decide +kernel, rfl, rfl, by decide +kernel, by decide +kernel, by decide +kernel, by decide +kernel, by decide +kernel, rfl, rfl, by decide +kernel, by decide +kernel, by decide +kernel, by decide +kernel, rfl, by decide +kernel, rfl, rfl, by decide +kernel, by decide +kernel, rfl, rfl, by decide +kernel, by decide +kernel, by decide +kernel, by decide +kernel, by decide +kernel, by decide +kernel, by decide +kernel, rfl, rfl, by decide +kernel, by decide +kernel, by decide +kernel, rfl, rfl, by decide +kernel, by decide +kernel, by decide +kernel, rfl, rfl, by decide +kernel, by decide +kernel, rfl, rfl, by decide +kernel, by decide +kernel, by decide +kernel, rfl, by decide +kernel, by decide +kernel, by decide +kernel, rfl, rfl, by decide +kernel, rfl, rfl, by decide +kernel, by decide +kernel, by decide +kernel, by decide +kernel, by decide +kernel, by decide +kernel, rfl, by decide +kernel, by decide +kernel, by decide +kernel, by decide +kernel, by decide +kernel, by decide +kernel, by decide +kernel, by decide +kernel, by decide +kernel, by decide +kernel, rfl, rfl, by decide +kernel, by decide +kernel, by decide +kernel, by decide +kernel, rfl, rfl, by decide +kernel, by decide +kernel, rfl, rfl, by decide +kernel, by decide +kernel, by decide +kernel, by decide +kernel, rfl, rfl, by decide +kernel, by decide +kernel, rfl, rfl, by decide +kernel, by decide +kernel, by decide +kernel, by decide +kernel, rfl, rfl, by decide +kernel, by decide +kernel, by decide +kernel, by decide +kernel, by decide +kernel, by decide +kernel, by decide +kernel, rfl, rfl, rfl, rfl, rfl, by decide +kernel, rfl, rfl, by decide +kernel, by decide +kernel, rfl, rfl, by decide +kernel, by decide +kernel, rfl, by decide +kernel⟩
set_option maxRecDepth 100000 in
set_option maxHeartbeats 4000000 in
theorem C_Model_slide : oM m_Model_slide = 12 ∧
  rkM m_Model_slide = 0 ∧
  dM m_Model_slide = 1 ∧
  lM m_Model_slide = 8 ∧
  decode (cM m_Model_slide) 0 = .ok (.iconst 0, 1) ∧
  decode (cM m_Model_slide) 1 = .ok (.istore_n 2, 1) ∧
  decode (cM m_Model_slide) 2 = .ok (.iconst 0, 1) ∧
  decode (cM m_Model_slide) 3 = .ok (.istore_n 3, 1) ∧
  decode (cM m_Model_slide) 4 = .ok (.iconst 0, 1) ∧
  decode (cM m_Model_slide) 5 = .ok (.istore 4, 2) ∧
  decode (cM m_Model_slide) 7 = .ok (.aload_n 0, 1) ∧
  decode (cM m_Model_slide) 8 = .ok (.iconst 0, 1) ∧
  decode (cM m_Model_slide) 9 = .ok (.putfield 312, 3) ∧
  fldT 12 312 = some (12, 32, 0) ∧
  decode (cM m_Model_slide) 12 = .ok (.iconst 0, 1) ∧
  decode (cM m_Model_slide) 13 = .ok (.iload_n 1, 1) ∧
  decode (cM m_Model_slide) 14 = .ok (.ineg, 1) ∧
  decode (cM m_Model_slide) 15 = .ok (.invokestatic 306, 3) ∧
  invT 12 306 = some (0, 3) ∧
  decode (cM m_Model_slide) 18 = .ok (.istore 5, 2) ∧
  decode (cM m_Model_slide) 20 = .ok (.iload 5, 2) ∧
  decode (cM m_Model_slide) 22 = .ok (.aload_n 0, 1) ∧
  decode (cM m_Model_slide) 23 = .ok (.getfield 288, 3) ∧
  fldT 12 288 = some (12, 28, 0) ∧
  decode (cM m_Model_slide) 26 = .ok (.if_icmp .ge 197, 3) ∧
  am_okt 26 197 ∧
  am_tgt 26 197 = 223 ∧
  decode (cM m_Model_slide) 29 = .ok (.iload 5, 2) ∧
  decode (cM m_Model_slide) 31 = .ok (.iload_n 1, 1) ∧
  decode (cM m_Model_slide) 32 = .ok (.iadd, 1) ∧
  decode (cM m_Model_slide) 33 = .ok (.aload_n 0, 1) ∧
  decode (cM m_Model_slide) 34 = .ok (.getfield 275, 3) ∧
  fldT 12 275 = some (12, 26, 0) ∧
  decode (cM m_Model_slide) 37 = .ok (.if_icmp .ge 186, 3) ∧
  am_okt 37 186 ∧
  am_tgt 37 186 = 223 ∧
  decode (cM m_Model_slide) 40 = .ok (.iload 5, 2) ∧
  decode (cM m_Model_slide) 42 = .ok (.iload_n 1, 1) ∧
  decode (cM m_Model_slide) 43 = .ok (.iadd, 1) ∧
  decode (cM m_Model_slide) 44 = .ok (.istore 6, 2) ∧
  decode (cM m_Model_slide) 46 = .ok (.aload_n 0, 1) ∧
  decode (cM m_Model_slide) 47 = .ok (.getfield 50, 3) ∧
  fldT 12 50 = some (12, 20, 2) ∧
  decode (cM m_Model_slide) 50 = .ok (.iload 6, 2) ∧
  decode (cM m_Model_slide) 52 = .ok (.iaload, 1) ∧
  decode (cM m_Model_slide) 53 = .ok (.iconst (-1), 1) ∧
  decode (cM m_Model_slide) 54 = .ok (.if_icmp .ne 6, 3) ∧
  am_okt 54 6 ∧
  am_tgt 54 6 = 60 ∧
  decode (cM m_Model_slide) 57 = .ok (.goto 160, 3) ∧
  am_okt 57 160 ∧
  am_tgt 57 160 = 217 ∧
  decode (cM m_Model_slide) 60 = .ok (.aload_n 0, 1) ∧
  decode (cM m_Model_slide) 61 = .ok (.dup, 1) ∧
  decode (cM m_Model_slide) 62 = .ok (.getfield 312, 3) ∧
  decode (cM m_Model_slide) 65 = .ok (.iconst 1, 1) ∧
  decode (cM m_Model_slide) 66 = .ok (.iadd, 1) ∧
  decode (cM m_Model_slide) 67 = .ok (.putfield 312, 3) ∧
  decode (cM m_Model_slide) 70 = .ok (.iload 4, 2) ∧
  decode (cM m_Model_slide) 72 = .ok (.aload_n 0, 1) ∧
  decode (cM m_Model_slide) 73 = .ok (.getfield 56, 3) ∧
  fldT 12 56 = some (12, 22, 2) ∧
  decode (cM m_Model_slide) 76 = .ok (.iload 6, 2) ∧
  decode (cM m_Model_slide) 78 = .ok (.iaload, 1) ∧
  decode (cM m_Model_slide) 79 = .ok (.aload_n 0, 1) ∧
  decode (cM m_Model_slide) 80 = .ok (.getfield 65, 3) ∧
  fldT 12 65 = some (12, 25, 2) ∧
  decode (cM m_Model_slide) 83 = .ok (.iload 5, 2) ∧
  decode (cM m_Model_slide) 85 = .ok (.iaload, 1) ∧
  decode (cM m_Model_slide) 86 = .ok (.isub, 1) ∧
  decode (cM m_Model_slide) 87 = .ok (.invokestatic 315, 3) ∧
  invT 12 315 = some (0, 5) ∧
  decode (cM m_Model_slide) 90 = .ok (.iadd, 1) ∧
  decode (cM m_Model_slide) 91 = .ok (.istore 4, 2) ∧
  decode (cM m_Model_slide) 93 = .ok (.aload_n 0, 1) ∧
  decode (cM m_Model_slide) 94 = .ok (.getfield 53, 3) ∧
  fldT 12 53 = some (12, 21, 2) ∧
  decode (cM m_Model_slide) 97 = .ok (.iload 6, 2) ∧
  decode (cM m_Model_slide) 99 = .ok (.iaload, 1) ∧
  decode (cM m_Model_slide) 100 = .ok (.iconst 2, 1) ∧
  decode (cM m_Model_slide) 101 = .ok (.if_icmp .eq 116, 3) ∧
  am_okt 101 116 ∧
  am_tgt 101 116 = 217 ∧
  decode (cM m_Model_slide) 104 = .ok (.aload_n 0, 1) ∧
  decode (cM m_Model_slide) 105 = .ok (.getfield 62, 3) ∧
  fldT 12 62 = some (12, 24, 2) ∧
  decode (cM m_Model_slide) 108 = .ok (.iload 5, 2) ∧
  decode (cM m_Model_slide) 110 = .ok (.iaload, 1) ∧
  decode (cM m_Model_slide) 111 = .ok (.iconst 2, 1) ∧
  decode (cM m_Model_slide) 112 = .ok (.if_icmp .ne 6, 3) ∧
  am_okt 112 6 ∧
  am_tgt 112 6 = 118 ∧
  decode (cM m_Model_slide) 115 = .ok (.goto 102, 3) ∧
  am_okt 115 102 ∧
  am_tgt 115 102 = 217 ∧
  decode (cM m_Model_slide) 118 = .ok (.iinc 2 1, 3) ∧
  decode (cM m_Model_slide) 121 = .ok (.aload_n 0, 1) ∧
  decode (cM m_Model_slide) 122 = .ok (.getfield 291, 3) ∧
  fldT 12 291 = some (12, 29, 0) ∧
  decode (cM m_Model_slide) 125 = .ok (.iload 5, 2) ∧
  decode (cM m_Model_slide) 127 = .ok (.invokestatic 318, 3) ∧
  invT 12 318 = some (m_Model_isDoubtful, 1) ∧
  nM m_Model_isDoubtful = 2 ∧
  oM m_Model_isDoubtful = 12 ∧
  rkM m_Model_isDoubtful = 2 ∧
  dM m_Model_isDoubtful = 0 ∧
  decode (cM m_Model_slide) 130 = .ok (.ifCond .ne 22, 3) ∧
  am_okt 130 22 ∧
  am_tgt 130 22 = 152 ∧
  decode (cM m_Model_slide) 133 = .ok (.aload_n 0, 1) ∧
  decode (cM m_Model_slide) 134 = .ok (.getfield 278, 3) ∧
  fldT 12 278 = some (12, 27, 0) ∧
  decode (cM m_Model_slide) 137 = .ok (.ifCond .eq 19, 3) ∧
  am_okt 137 19 ∧
  am_tgt 137 19 = 156 ∧
  decode (cM m_Model_slide) 140 = .ok (.aload_n 0, 1) ∧
  decode (cM m_Model_slide) 141 = .ok (.getfield 278, 3) ∧
  decode (cM m_Model_slide) 144 = .ok (.iload 6, 2) ∧
  decode (cM m_Model_slide) 146 = .ok (.invokestatic 318, 3) ∧
  decode (cM m_Model_slide) 149 = .ok (.ifCond .eq 7, 3) ∧
  am_okt 149 7 ∧
  am_tgt 149 7 = 156 ∧
  decode (cM m_Model_slide) 152 = .ok (.iconst 1, 1) ∧
  decode (cM m_Model_slide) 153 = .ok (.goto 4, 3) ∧
  am_okt 153 4 ∧
  am_tgt 153 4 = 157 ∧
  decode (cM m_Model_slide) 156 = .ok (.iconst 0, 1) ∧
  decode (cM m_Model_slide) 157 = .ok (.istore 7, 2) ∧
  decode (cM m_Model_slide) 159 = .ok (.iload_n 3, 1) ∧
  decode (cM m_Model_slide) 160 = .ok (.iload 7, 2) ∧
  decode (cM m_Model_slide) 162 = .ok (.ifCond .eq 7, 3) ∧
  am_okt 162 7 ∧
  am_tgt 162 7 = 169 ∧
  decode (cM m_Model_slide) 165 = .ok (.iconst 1, 1) ∧
  decode (cM m_Model_slide) 166 = .ok (.goto 49, 3) ∧
  am_okt 166 49 ∧
  am_tgt 166 49 = 215 ∧
  decode (cM m_Model_slide) 169 = .ok (.aload_n 0, 1) ∧
  decode (cM m_Model_slide) 170 = .ok (.getfield 53, 3) ∧
  decode (cM m_Model_slide) 173 = .ok (.iload 6, 2) ∧
  decode (cM m_Model_slide) 175 = .ok (.iaload, 1) ∧
  decode (cM m_Model_slide) 176 = .ok (.aload_n 0, 1) ∧
  decode (cM m_Model_slide) 177 = .ok (.getfield 62, 3) ∧
  decode (cM m_Model_slide) 180 = .ok (.iload 5, 2) ∧
  decode (cM m_Model_slide) 182 = .ok (.iaload, 1) ∧
  decode (cM m_Model_slide) 183 = .ok (.if_icmp .ne 7, 3) ∧
  am_okt 183 7 ∧
  am_tgt 183 7 = 190 ∧
  decode (cM m_Model_slide) 186 = .ok (.iconst 2, 1) ∧
  decode (cM m_Model_slide) 187 = .ok (.goto 28, 3) ∧
  am_okt 187 28 ∧
  am_tgt 187 28 = 215 ∧
  decode (cM m_Model_slide) 190 = .ok (.aload_n 0, 1) ∧
  decode (cM m_Model_slide) 191 = .ok (.getfield 53, 3) ∧
  decode (cM m_Model_slide) 194 = .ok (.iload 6, 2) ∧
  decode (cM m_Model_slide) 196 = .ok (.iaload, 1) ∧
  decode (cM m_Model_slide) 197 = .ok (.ifCond .eq 13, 3) ∧
  am_okt 197 13 ∧
  am_tgt 197 13 = 210 ∧
  decode (cM m_Model_slide) 200 = .ok (.aload_n 0, 1) ∧
  decode (cM m_Model_slide) 201 = .ok (.getfield 62, 3) ∧
  decode (cM m_Model_slide) 204 = .ok (.iload 5, 2) ∧
  decode (cM m_Model_slide) 206 = .ok (.iaload, 1) ∧
  decode (cM m_Model_slide) 207 = .ok (.ifCond .ne 7, 3) ∧
  am_okt 207 7 ∧
  am_tgt 207 7 = 214 ∧
  decode (cM m_Model_slide) 210 = .ok (.iconst 1, 1) ∧
  decode (cM m_Model_slide) 211 = .ok (.goto 4, 3) ∧
  am_okt 211 4 ∧
  am_tgt 211 4 = 215 ∧
  decode (cM m_Model_slide) 214 = .ok (.iconst 0, 1) ∧
  decode (cM m_Model_slide) 215 = .ok (.iadd, 1) ∧
  decode (cM m_Model_slide) 216 = .ok (.istore_n 3, 1) ∧
  decode (cM m_Model_slide) 217 = .ok (.iinc 5 1, 3) ∧
  decode (cM m_Model_slide) 220 = .ok (.goto (-200), 3) ∧
  am_okt 220 (-200) ∧
  am_tgt 220 (-200) = 20 ∧
  decode (cM m_Model_slide) 223 = .ok (.aload_n 0, 1) ∧
  decode (cM m_Model_slide) 224 = .ok (.iload_n 2, 1) ∧
  decode (cM m_Model_slide) 225 = .ok (.ifCond .ne 7, 3) ∧
  am_okt 225 7 ∧
  am_tgt 225 7 = 232 ∧
  decode (cM m_Model_slide) 228 = .ok (.iconst 0, 1) ∧
  decode (cM m_Model_slide) 229 = .ok (.goto 11, 3) ∧
  am_okt 229 11 ∧
  am_tgt 229 11 = 240 ∧
  decode (cM m_Model_slide) 232 = .ok (.iload_n 3, 1) ∧
  decode (cM m_Model_slide) 233 = .ok (.bipush 100, 2) ∧
  decode (cM m_Model_slide) 235 = .ok (.imul, 1) ∧
  decode (cM m_Model_slide) 236 = .ok (.iconst 2, 1) ∧
  decode (cM m_Model_slide) 237 = .ok (.iload_n 2, 1) ∧
  decode (cM m_Model_slide) 238 = .ok (.imul, 1) ∧
  decode (cM m_Model_slide) 239 = .ok (.idiv, 1) ∧
  decode (cM m_Model_slide) 240 = .ok (.putfield 322, 3) ∧
  fldT 12 322 = some (12, 33, 0) ∧
  decode (cM m_Model_slide) 243 = .ok (.aload_n 0, 1) ∧
  decode (cM m_Model_slide) 244 = .ok (.aload_n 0, 1) ∧
  decode (cM m_Model_slide) 245 = .ok (.getfield 312, 3) ∧
  decode (cM m_Model_slide) 248 = .ok (.ifCond .ne 7, 3) ∧
  am_okt 248 7 ∧
  am_tgt 248 7 = 255 ∧
  decode (cM m_Model_slide) 251 = .ok (.iconst 0, 1) ∧
  decode (cM m_Model_slide) 252 = .ok (.goto 16, 3) ∧
  am_okt 252 16 ∧
  am_tgt 252 16 = 268 ∧
  decode (cM m_Model_slide) 255 = .ok (.bipush 100, 2) ∧
  decode (cM m_Model_slide) 257 = .ok (.iload 4, 2) ∧
  decode (cM m_Model_slide) 259 = .ok (.bipush 25, 2) ∧
  decode (cM m_Model_slide) 261 = .ok (.imul, 1) ∧
  decode (cM m_Model_slide) 262 = .ok (.aload_n 0, 1) ∧
  decode (cM m_Model_slide) 263 = .ok (.getfield 312, 3) ∧
  decode (cM m_Model_slide) 266 = .ok (.idiv, 1) ∧
  decode (cM m_Model_slide) 267 = .ok (.isub, 1) ∧
  decode (cM m_Model_slide) 268 = .ok (.putfield 325, 3) ∧
  fldT 12 325 = some (12, 34, 0) ∧
  decode (cM m_Model_slide) 271 = .ok (.aload_n 0, 1) ∧
  decode (cM m_Model_slide) 272 = .ok (.aload_n 0, 1) ∧
  decode (cM m_Model_slide) 273 = .ok (.getfield 312, 3) ∧
  decode (cM m_Model_slide) 276 = .ok (.ifCond .ne 7, 3) ∧
  am_okt 276 7 ∧
  am_tgt 276 7 = 283 ∧
  decode (cM m_Model_slide) 279 = .ok (.iconst 0, 1) ∧
  decode (cM m_Model_slide) 280 = .ok (.goto 16, 3) ∧
  am_okt 280 16 ∧
  am_tgt 280 16 = 296 ∧
  decode (cM m_Model_slide) 283 = .ok (.iconst 2, 1) ∧
  decode (cM m_Model_slide) 284 = .ok (.aload_n 0, 1) ∧
  decode (cM m_Model_slide) 285 = .ok (.getfield 322, 3) ∧
  decode (cM m_Model_slide) 288 = .ok (.imul, 1) ∧
  decode (cM m_Model_slide) 289 = .ok (.aload_n 0, 1) ∧
  decode (cM m_Model_slide) 290 = .ok (.getfield 325, 3) ∧
  decode (cM m_Model_slide) 293 = .ok (.iadd, 1) ∧
  decode (cM m_Model_slide) 294 = .ok (.iconst 3, 1) ∧
  decode (cM m_Model_slide) 295 = .ok (.idiv, 1) ∧
  decode (cM m_Model_slide) 296 = .ok (.putfield 328, 3) ∧
  fldT 12 328 = some (12, 35, 0) ∧
  decode (cM m_Model_slide) 299 = .ok (.return_, 1) :=
  ⟨rfl, rfl, rfl, rfl, by decide +kernel, by decide +kernel, by decide +kernel, by decide +kernel, by decide +kernel, by decide +kernel, by decide +kernel, by decide +kernel, by decide +kernel, rfl, by decide +kernel, by decide +kernel, by decide +kernel, by decide +kernel, rfl, by decide +kernel, by decide +kernel, by decide +kernel, by decide +kernel, rfl, by decide +kernel, rfl, rfl, by decide +kernel, by decide +kernel, by decide +kernel, by decide +kernel, by decide +kernel, rfl, by decide +kernel, rfl, rfl, by decide +kernel, by decide +kernel, by decide +kernel, by decide +kernel, by decide +kernel, by decide +kernel, rfl, by decide +kernel, by decide +kernel, by decide +kernel, by decide +kernel, rfl, rfl, by decide +kernel, rfl, rfl, by decide +kernel, by decide +kernel, by decide +kernel, by decide +kernel, by decide +kernel, by decide +kernel, by decide +kernel, by decide +kernel, by decide +kernel, rfl, by decide +kernel, by decide +kernel, by decide +kernel, by decide +kernel, rfl, by decide +kernel, by decide +kernel, by decide +kernel, by decide +kernel, rfl, by decide +kernel, by decide +kernel, by decide +kernel, by decide +kernel, rfl, by decide +kernel, by decide +kernel, by decide +kernel, by decide +kernel, rfl, rfl, by decide +kernel, by decide +kernel, rfl, by decide +kernel, by decide +kernel, by decide +kernel, by decide +kernel, rfl, rfl, by decide +kernel, rfl, rfl, by decide +kernel, by decide +kernel, by decide +kernel, rfl, by decide +kernel, by decide +kernel, rfl, rfl, rfl, rfl, rfl, by decide +kernel, rfl, rfl, by decide +kernel, by decide +kernel, rfl, by decide +kernel, rfl, rfl, by decide +kernel, by decide +kernel, by decide +kernel, by decide +kernel, by decide +kernel, rfl, rfl, by decide +kernel, by decide +kernel, rfl, rfl, by decide +kernel, by decide +kernel, by decide +kernel, by decide +kernel, by decide +kernel, rfl, rfl, by decide +kernel, by decide +kernel, rfl, rfl, by decide +kernel, by decide +kernel, by decide +kernel, by decide +kernel, by decide +kernel, by decide +kernel, by decide +kernel, by decide +kernel, by decide +kernel, rfl, rfl, by decide +kernel, by decide +kernel, rfl, rfl, by decide +kernel, by decide +kernel, by decide +kernel, by decide +kernel, by decide +kernel, rfl, rfl, by decide +kernel, by decide +kernel, by decide +kernel, by decide +kernel, by decide +kernel, rfl, rfl, by decide +kernel, by decide +kernel, rfl, rfl, by decide +kernel, by decide +kernel, by decide +kernel, by decide +kernel, by decide +kernel, rfl, rfl, by decide +kernel, by decide +kernel, by decide +kernel, rfl, rfl, by decide +kernel, by decide +kernel, rfl, rfl, by decide +kernel, by decide +kernel, by decide +kernel, by decide +kernel, by decide +kernel, by decide +kernel, by decide +kernel, by decide +kernel, rfl, by decide +kernel, by decide +kernel, by decide +kernel, by decide +kernel, rfl, rfl, by decide +kernel, by decide +kernel, rfl, rfl, by decide +kernel, by decide +kernel, by decide +kernel, by decide +kernel, by decide +kernel, by decide +kernel, by decide +kernel, by decide +kernel, by decide +kernel, rfl, by decide +kernel, by decide +kernel, by decide +kernel, by decide +kernel, rfl, rfl, by decide +kernel, by decide +kernel, rfl, rfl, by decide +kernel, by decide +kernel, by decide +kernel, by decide +kernel, by decide +kernel, by decide +kernel, by decide +kernel, by decide +kernel, by decide +kernel, by decide +kernel, rfl, by decide +kernel⟩
set_option maxRecDepth 100000 in
set_option maxHeartbeats 4000000 in
theorem C_Model_isDoubtful : oM m_Model_isDoubtful = 12 ∧
  rkM m_Model_isDoubtful = 2 ∧
  dM m_Model_isDoubtful = 0 ∧
  lM m_Model_isDoubtful = 2 ∧
  decode (cM m_Model_isDoubtful) 0 = .ok (.iload_n 1, 1) ∧
  decode (cM m_Model_isDoubtful) 1 = .ok (.bipush 24, 2) ∧
  decode (cM m_Model_isDoubtful) 3 = .ok (.if_icmp .ge 31, 3) ∧
  am_okt 3 31 ∧
  am_tgt 3 31 = 34 ∧
  decode (cM m_Model_isDoubtful) 6 = .ok (.iload_n 0, 1) ∧
  decode (cM m_Model_isDoubtful) 7 = .ok (.iload_n 1, 1) ∧
  decode (cM m_Model_isDoubtful) 8 = .ok (.ishr, 1) ∧
  decode (cM m_Model_isDoubtful) 9 = .ok (.iconst 1, 1) ∧
  decode (cM m_Model_isDoubtful) 10 = .ok (.iand, 1) ∧
  decode (cM m_Model_isDoubtful) 11 = .ok (.iconst 1, 1) ∧
  decode (cM m_Model_isDoubtful) 12 = .ok (.if_icmp .eq 18, 3) ∧
  am_okt 12 18 ∧
  am_tgt 12 18 = 30 ∧
  decode (cM m_Model_isDoubtful) 15 = .ok (.iload_n 1, 1) ∧
  decode (cM m_Model_isDoubtful) 16 = .ok (.ifCond .le 18, 3) ∧
  am_okt 16 18 ∧
  am_tgt 16 18 = 34 ∧
  decode (cM m_Model_isDoubtful) 19 = .ok (.iload_n 0, 1) ∧
  decode (cM m_Model_isDoubtful) 20 = .ok (.iload_n 1, 1) ∧
  decode (cM m_Model_isDoubtful) 21 = .ok (.iconst 1, 1) ∧
  decode (cM m_Model_isDoubtful) 22 = .ok (.isub, 1) ∧
  decode (cM m_Model_isDoubtful) 23 = .ok (.ishr, 1) ∧
  decode (cM m_Model_isDoubtful) 24 = .ok (.iconst 1, 1) ∧
  decode (cM m_Model_isDoubtful) 25 = .ok (.iand, 1) ∧
  decode (cM m_Model_isDoubtful) 26 = .ok (.iconst 1, 1) ∧
  decode (cM m_Model_isDoubtful) 27 = .ok (.if_icmp .ne 7, 3) ∧
  am_okt 27 7 ∧
  am_tgt 27 7 = 34 ∧
  decode (cM m_Model_isDoubtful) 30 = .ok (.iconst 1, 1) ∧
  decode (cM m_Model_isDoubtful) 31 = .ok (.goto 4, 3) ∧
  am_okt 31 4 ∧
  am_tgt 31 4 = 35 ∧
  decode (cM m_Model_isDoubtful) 34 = .ok (.iconst 0, 1) ∧
  decode (cM m_Model_isDoubtful) 35 = .ok (.ireturn, 1) :=
  ⟨rfl, rfl, rfl, rfl, by decide +kernel, by decide +kernel, by decide +kernel, rfl, rfl, by decide +kernel, by decide +kernel, by decide +kernel, by decide +kernel, by decide +kernel, by decide +kernel, by decide +kernel, rfl, rfl, by decide +kernel, by decide +kernel, rfl, rfl, by decide +kernel, by decide +kernel, by decide +kernel, by decide +kernel, by decide +kernel, by decide +kernel, by decide +kernel, by decide +kernel, by decide +kernel, rfl, rfl, by decide +kernel, by decide +kernel, rfl, rfl, by decide +kernel, by decide +kernel⟩
