set_option maxRecDepth 100000 in
set_option maxHeartbeats 4000000 in
theorem C_Timber_allWidths : oM m_Timber_allWidths = 9 ∧
  rkM m_Timber_allWidths = 1 ∧
  dM m_Timber_allWidths = 1 ∧
  lM m_Timber_allWidths = 3 ∧
  decode (cM m_Timber_allWidths) 0 = .ok (.iconst 0, 1) ∧
  decode (cM m_Timber_allWidths) 1 = .ok (.istore_n 1, 1) ∧
  decode (cM m_Timber_allWidths) 2 = .ok (.iconst 0, 1) ∧
  decode (cM m_Timber_allWidths) 3 = .ok (.istore_n 2, 1) ∧
  decode (cM m_Timber_allWidths) 4 = .ok (.iload_n 2, 1) ∧
  decode (cM m_Timber_allWidths) 5 = .ok (.aload_n 0, 1) ∧
  decode (cM m_Timber_allWidths) 6 = .ok (.getfield 19, 3) ∧
  fldT 9 19 = some (9, 2, 0) ∧
  decode (cM m_Timber_allWidths) 9 = .ok (.if_icmp .ge 17, 3) ∧
  am_okt 9 17 ∧
  am_tgt 9 17 = 26 ∧
  decode (cM m_Timber_allWidths) 12 = .ok (.iload_n 1, 1) ∧
  decode (cM m_Timber_allWidths) 13 = .ok (.aload_n 0, 1) ∧
  decode (cM m_Timber_allWidths) 14 = .ok (.iload_n 2, 1) ∧
  decode (cM m_Timber_allWidths) 15 = .ok (.invokevirtual 32, 3) ∧
  invT 9 32 = some (m_Timber_widthOf, 0) ∧
  nM m_Timber_widthOf = 2 ∧
  oM m_Timber_widthOf = 9 ∧
  rkM m_Timber_widthOf = 1 ∧
  dM m_Timber_widthOf = 0 ∧
  decode (cM m_Timber_allWidths) 18 = .ok (.iadd, 1) ∧
  decode (cM m_Timber_allWidths) 19 = .ok (.istore_n 1, 1) ∧
  decode (cM m_Timber_allWidths) 20 = .ok (.iinc 2 1, 3) ∧
  decode (cM m_Timber_allWidths) 23 = .ok (.goto (-19), 3) ∧
  am_okt 23 (-19) ∧
  am_tgt 23 (-19) = 4 ∧
  decode (cM m_Timber_allWidths) 26 = .ok (.iload_n 1, 1) ∧
  decode (cM m_Timber_allWidths) 27 = .ok (.ireturn, 1) :=
  ⟨rfl, rfl, rfl, rfl, by decide +kernel, by decide +kernel, by decide +kernel, by decide +kernel, by decide +kernel, by decide +kernel, by decide +kernel, rfl, by decide +kernel, rfl, rfl, by decide +kernel, by decide +kernel, by decide +kernel, by decide +kernel, rfl, rfl, rfl, rfl, rfl, by decide +kernel, by decide +kernel, by decide +kernel, by decide +kernel, rfl, rfl, by decide +kernel, by decide +kernel⟩

set_option maxRecDepth 100000 in
set_option maxHeartbeats 4000000 in
theorem C_Timber_widthOf : oM m_Timber_widthOf = 9 ∧
  rkM m_Timber_widthOf = 1 ∧
  dM m_Timber_widthOf = 0 ∧
  lM m_Timber_widthOf = 2 ∧
  decode (cM m_Timber_widthOf) 0 = .ok (.iload_n 1, 1) ∧
  decode (cM m_Timber_widthOf) 1 = .ok (.ifCond .lt 26, 3) ∧
  am_okt 1 26 ∧
  am_tgt 1 26 = 27 ∧
  decode (cM m_Timber_widthOf) 4 = .ok (.iload_n 1, 1) ∧
  decode (cM m_Timber_widthOf) 5 = .ok (.aload_n 0, 1) ∧
  decode (cM m_Timber_widthOf) 6 = .ok (.getfield 19, 3) ∧
  fldT 9 19 = some (9, 2, 0) ∧
  decode (cM m_Timber_widthOf) 9 = .ok (.if_icmp .ge 18, 3) ∧
  am_okt 9 18 ∧
  am_tgt 9 18 = 27 ∧
  decode (cM m_Timber_widthOf) 12 = .ok (.iload_n 1, 1) ∧
  decode (cM m_Timber_widthOf) 13 = .ok (.bipush 24, 2) ∧
  decode (cM m_Timber_widthOf) 15 = .ok (.if_icmp .ge 12, 3) ∧
  am_okt 15 12 ∧
  am_tgt 15 12 = 27 ∧
  decode (cM m_Timber_widthOf) 18 = .ok (.aload_n 0, 1) ∧
  decode (cM m_Timber_widthOf) 19 = .ok (.getfield 9, 3) ∧
  fldT 9 9 = some (9, 0, 2) ∧
  decode (cM m_Timber_widthOf) 22 = .ok (.iload_n 1, 1) ∧
  decode (cM m_Timber_widthOf) 23 = .ok (.iaload, 1) ∧
  decode (cM m_Timber_widthOf) 24 = .ok (.goto 4, 3) ∧
  am_okt 24 4 ∧
  am_tgt 24 4 = 28 ∧
  decode (cM m_Timber_widthOf) 27 = .ok (.iconst 0, 1) ∧
  decode (cM m_Timber_widthOf) 28 = .ok (.ireturn, 1) :=
  ⟨rfl, rfl, rfl, rfl, by decide +kernel, by decide +kernel, rfl, rfl, by decide +kernel, by decide +kernel, by decide +kernel, rfl, by decide +kernel, rfl, rfl, by decide +kernel, by decide +kernel, by decide +kernel, rfl, rfl, by decide +kernel, by decide +kernel, rfl, by decide +kernel, by decide +kernel, by decide +kernel, rfl, rfl, by decide +kernel, by decide +kernel⟩

set_option maxRecDepth 100000 in
set_option maxHeartbeats 4000000 in
theorem C_Timber_isDoubtful : oM m_Timber_isDoubtful = 9 ∧
  rkM m_Timber_isDoubtful = 2 ∧
  dM m_Timber_isDoubtful = 0 ∧
  lM m_Timber_isDoubtful = 2 ∧
  decode (cM m_Timber_isDoubtful) 0 = .ok (.iload_n 1, 1) ∧
  decode (cM m_Timber_isDoubtful) 1 = .ok (.ifCond .lt 30, 3) ∧
  am_okt 1 30 ∧
  am_tgt 1 30 = 31 ∧
  decode (cM m_Timber_isDoubtful) 4 = .ok (.iload_n 1, 1) ∧
  decode (cM m_Timber_isDoubtful) 5 = .ok (.aload_n 0, 1) ∧
  decode (cM m_Timber_isDoubtful) 6 = .ok (.getfield 19, 3) ∧
  fldT 9 19 = some (9, 2, 0) ∧
  decode (cM m_Timber_isDoubtful) 9 = .ok (.if_icmp .ge 22, 3) ∧
  am_okt 9 22 ∧
  am_tgt 9 22 = 31 ∧
  decode (cM m_Timber_isDoubtful) 12 = .ok (.iload_n 1, 1) ∧
  decode (cM m_Timber_isDoubtful) 13 = .ok (.bipush 24, 2) ∧
  decode (cM m_Timber_isDoubtful) 15 = .ok (.if_icmp .ge 16, 3) ∧
  am_okt 15 16 ∧
  am_tgt 15 16 = 31 ∧
  decode (cM m_Timber_isDoubtful) 18 = .ok (.aload_n 0, 1) ∧
  decode (cM m_Timber_isDoubtful) 19 = .ok (.getfield 15, 3) ∧
  fldT 9 15 = some (9, 1, 2) ∧
  decode (cM m_Timber_isDoubtful) 22 = .ok (.iload_n 1, 1) ∧
  decode (cM m_Timber_isDoubtful) 23 = .ok (.baload, 1) ∧
  decode (cM m_Timber_isDoubtful) 24 = .ok (.ifCond .eq 7, 3) ∧
  am_okt 24 7 ∧
  am_tgt 24 7 = 31 ∧
  decode (cM m_Timber_isDoubtful) 27 = .ok (.iconst 1, 1) ∧
  decode (cM m_Timber_isDoubtful) 28 = .ok (.goto 4, 3) ∧
  am_okt 28 4 ∧
  am_tgt 28 4 = 32 ∧
  decode (cM m_Timber_isDoubtful) 31 = .ok (.iconst 0, 1) ∧
  decode (cM m_Timber_isDoubtful) 32 = .ok (.ireturn, 1) :=
  ⟨rfl, rfl, rfl, rfl, by decide +kernel, by decide +kernel, rfl, rfl, by decide +kernel, by decide +kernel, by decide +kernel, rfl, by decide +kernel, rfl, rfl, by decide +kernel, by decide +kernel, by decide +kernel, rfl, rfl, by decide +kernel, by decide +kernel, rfl, by decide +kernel, by decide +kernel, by decide +kernel, rfl, rfl, by decide +kernel, by decide +kernel, rfl, rfl, by decide +kernel, by decide +kernel⟩

set_option maxRecDepth 100000 in
set_option maxHeartbeats 4000000 in
theorem C_Timber_canGain : oM m_Timber_canGain = 9 ∧
  rkM m_Timber_canGain = 2 ∧
  dM m_Timber_canGain = 1 ∧
  lM m_Timber_canGain = 2 ∧
  decode (cM m_Timber_canGain) 0 = .ok (.aload_n 0, 1) ∧
  decode (cM m_Timber_canGain) 1 = .ok (.getfield 19, 3) ∧
  fldT 9 19 = some (9, 2, 0) ∧
  decode (cM m_Timber_canGain) 4 = .ok (.bipush 24, 2) ∧
  decode (cM m_Timber_canGain) 6 = .ok (.if_icmp .ge 20, 3) ∧
  am_okt 6 20 ∧
  am_tgt 6 20 = 26 ∧
  decode (cM m_Timber_canGain) 9 = .ok (.iload_n 1, 1) ∧
  decode (cM m_Timber_canGain) 10 = .ok (.iconst 1, 1) ∧
  decode (cM m_Timber_canGain) 11 = .ok (.if_icmp .lt 15, 3) ∧
  am_okt 11 15 ∧
  am_tgt 11 15 = 26 ∧
  decode (cM m_Timber_canGain) 14 = .ok (.aload_n 0, 1) ∧
  decode (cM m_Timber_canGain) 15 = .ok (.iload_n 1, 1) ∧
  decode (cM m_Timber_canGain) 16 = .ok (.invokevirtual 42, 3) ∧
  invT 9 42 = some (m_Timber_has, 0) ∧
  nM m_Timber_has = 2 ∧
  oM m_Timber_has = 9 ∧
  rkM m_Timber_has = 2 ∧
  dM m_Timber_has = 0 ∧
  decode (cM m_Timber_canGain) 19 = .ok (.ifCond .eq 7, 3) ∧
  am_okt 19 7 ∧
  am_tgt 19 7 = 26 ∧
  decode (cM m_Timber_canGain) 22 = .ok (.iconst 1, 1) ∧
  decode (cM m_Timber_canGain) 23 = .ok (.goto 4, 3) ∧
  am_okt 23 4 ∧
  am_tgt 23 4 = 27 ∧
  decode (cM m_Timber_canGain) 26 = .ok (.iconst 0, 1) ∧
  decode (cM m_Timber_canGain) 27 = .ok (.ireturn, 1) :=
  ⟨rfl, rfl, rfl, rfl, by decide +kernel, by decide +kernel, rfl, by decide +kernel, by decide +kernel, rfl, rfl, by decide +kernel, by decide +kernel, by decide +kernel, rfl, rfl, by decide +kernel, by decide +kernel, by decide +kernel, rfl, rfl, rfl, rfl, rfl, by decide +kernel, rfl, rfl, by decide +kernel, by decide +kernel, rfl, rfl, by decide +kernel, by decide +kernel⟩

set_option maxRecDepth 100000 in
set_option maxHeartbeats 4000000 in
theorem C_Timber_has : oM m_Timber_has = 9 ∧
  rkM m_Timber_has = 2 ∧
  dM m_Timber_has = 0 ∧
  lM m_Timber_has = 2 ∧
  decode (cM m_Timber_has) 0 = .ok (.iload_n 1, 1) ∧
  decode (cM m_Timber_has) 1 = .ok (.ifCond .lt 21, 3) ∧
  am_okt 1 21 ∧
  am_tgt 1 21 = 22 ∧
  decode (cM m_Timber_has) 4 = .ok (.iload_n 1, 1) ∧
  decode (cM m_Timber_has) 5 = .ok (.aload_n 0, 1) ∧
  decode (cM m_Timber_has) 6 = .ok (.getfield 19, 3) ∧
  fldT 9 19 = some (9, 2, 0) ∧
  decode (cM m_Timber_has) 9 = .ok (.if_icmp .ge 13, 3) ∧
  am_okt 9 13 ∧
  am_tgt 9 13 = 22 ∧
  decode (cM m_Timber_has) 12 = .ok (.iload_n 1, 1) ∧
  decode (cM m_Timber_has) 13 = .ok (.bipush 24, 2) ∧
  decode (cM m_Timber_has) 15 = .ok (.if_icmp .ge 7, 3) ∧
  am_okt 15 7 ∧
  am_tgt 15 7 = 22 ∧
  decode (cM m_Timber_has) 18 = .ok (.iconst 1, 1) ∧
  decode (cM m_Timber_has) 19 = .ok (.goto 4, 3) ∧
  am_okt 19 4 ∧
  am_tgt 19 4 = 23 ∧
  decode (cM m_Timber_has) 22 = .ok (.iconst 0, 1) ∧
  decode (cM m_Timber_has) 23 = .ok (.ireturn, 1) :=
  ⟨rfl, rfl, rfl, rfl, by decide +kernel, by decide +kernel, rfl, rfl, by decide +kernel, by decide +kernel, by decide +kernel, rfl, by decide +kernel, rfl, rfl, by decide +kernel, by decide +kernel, by decide +kernel, rfl, rfl, by decide +kernel, by decide +kernel, rfl, rfl, by decide +kernel, by decide +kernel⟩

set_option maxRecDepth 100000 in
set_option maxHeartbeats 4000000 in
theorem C_Timber_canLose : oM m_Timber_canLose = 9 ∧
  rkM m_Timber_canLose = 2 ∧
  dM m_Timber_canLose = 1 ∧
  lM m_Timber_canLose = 2 ∧
  decode (cM m_Timber_canLose) 0 = .ok (.aload_n 0, 1) ∧
  decode (cM m_Timber_canLose) 1 = .ok (.getfield 19, 3) ∧
  fldT 9 19 = some (9, 2, 0) ∧
  decode (cM m_Timber_canLose) 4 = .ok (.iconst 3, 1) ∧
  decode (cM m_Timber_canLose) 5 = .ok (.if_icmp .le 15, 3) ∧
  am_okt 5 15 ∧
  am_tgt 5 15 = 20 ∧
  decode (cM m_Timber_canLose) 8 = .ok (.aload_n 0, 1) ∧
  decode (cM m_Timber_canLose) 9 = .ok (.iload_n 1, 1) ∧
  decode (cM m_Timber_canLose) 10 = .ok (.invokevirtual 46, 3) ∧
  invT 9 46 = some (m_Timber_isDoubtful, 0) ∧
  nM m_Timber_isDoubtful = 2 ∧
  oM m_Timber_isDoubtful = 9 ∧
  rkM m_Timber_isDoubtful = 2 ∧
  dM m_Timber_isDoubtful = 0 ∧
  decode (cM m_Timber_canLose) 13 = .ok (.ifCond .eq 7, 3) ∧
  am_okt 13 7 ∧
  am_tgt 13 7 = 20 ∧
  decode (cM m_Timber_canLose) 16 = .ok (.iconst 1, 1) ∧
  decode (cM m_Timber_canLose) 17 = .ok (.goto 4, 3) ∧
  am_okt 17 4 ∧
  am_tgt 17 4 = 21 ∧
  decode (cM m_Timber_canLose) 20 = .ok (.iconst 0, 1) ∧
  decode (cM m_Timber_canLose) 21 = .ok (.ireturn, 1) :=
  ⟨rfl, rfl, rfl, rfl, by decide +kernel, by decide +kernel, rfl, by decide +kernel, by decide +kernel, rfl, rfl, by decide +kernel, by decide +kernel, by decide +kernel, rfl, rfl, rfl, rfl, rfl, by decide +kernel, rfl, rfl, by decide +kernel, by decide +kernel, rfl, rfl, by decide +kernel, by decide +kernel⟩

set_option maxRecDepth 100000 in
set_option maxHeartbeats 4000000 in
theorem C_Timber_insertRing : oM m_Timber_insertRing = 9 ∧
  rkM m_Timber_insertRing = 0 ∧
  dM m_Timber_insertRing = 0 ∧
  lM m_Timber_insertRing = 4 ∧
  decode (cM m_Timber_insertRing) 0 = .ok (.iload_n 1, 1) ∧
  decode (cM m_Timber_insertRing) 1 = .ok (.ifCond .lt 20, 3) ∧
  am_okt 1 20 ∧
  am_tgt 1 20 = 21 ∧
  decode (cM m_Timber_insertRing) 4 = .ok (.iload_n 1, 1) ∧
  decode (cM m_Timber_insertRing) 5 = .ok (.aload_n 0, 1) ∧
  decode (cM m_Timber_insertRing) 6 = .ok (.getfield 19, 3) ∧
  fldT 9 19 = some (9, 2, 0) ∧
  decode (cM m_Timber_insertRing) 9 = .ok (.if_icmp .gt 12, 3) ∧
  am_okt 9 12 ∧
  am_tgt 9 12 = 21 ∧
  decode (cM m_Timber_insertRing) 12 = .ok (.aload_n 0, 1) ∧
  decode (cM m_Timber_insertRing) 13 = .ok (.getfield 19, 3) ∧
  decode (cM m_Timber_insertRing) 16 = .ok (.bipush 24, 2) ∧
  decode (cM m_Timber_insertRing) 18 = .ok (.if_icmp .lt 4, 3) ∧
  am_okt 18 4 ∧
  am_tgt 18 4 = 22 ∧
  decode (cM m_Timber_insertRing) 21 = .ok (.return_, 1) ∧
  decode (cM m_Timber_insertRing) 22 = .ok (.aload_n 0, 1) ∧
  decode (cM m_Timber_insertRing) 23 = .ok (.getfield 19, 3) ∧
  decode (cM m_Timber_insertRing) 26 = .ok (.istore_n 3, 1) ∧
  decode (cM m_Timber_insertRing) 27 = .ok (.iload_n 3, 1) ∧
  decode (cM m_Timber_insertRing) 28 = .ok (.iload_n 1, 1) ∧
  decode (cM m_Timber_insertRing) 29 = .ok (.if_icmp .le 37, 3) ∧
  am_okt 29 37 ∧
  am_tgt 29 37 = 66 ∧
  decode (cM m_Timber_insertRing) 32 = .ok (.aload_n 0, 1) ∧
  decode (cM m_Timber_insertRing) 33 = .ok (.getfield 9, 3) ∧
  fldT 9 9 = some (9, 0, 2) ∧
  decode (cM m_Timber_insertRing) 36 = .ok (.iload_n 3, 1) ∧
  decode (cM m_Timber_insertRing) 37 = .ok (.aload_n 0, 1) ∧
  decode (cM m_Timber_insertRing) 38 = .ok (.getfield 9, 3) ∧
  decode (cM m_Timber_insertRing) 41 = .ok (.iload_n 3, 1) ∧
  decode (cM m_Timber_insertRing) 42 = .ok (.iconst 1, 1) ∧
  decode (cM m_Timber_insertRing) 43 = .ok (.isub, 1) ∧
  decode (cM m_Timber_insertRing) 44 = .ok (.iaload, 1) ∧
  decode (cM m_Timber_insertRing) 45 = .ok (.iastore, 1) ∧
  decode (cM m_Timber_insertRing) 46 = .ok (.aload_n 0, 1) ∧
  decode (cM m_Timber_insertRing) 47 = .ok (.getfield 15, 3) ∧
  fldT 9 15 = some (9, 1, 2) ∧
  decode (cM m_Timber_insertRing) 50 = .ok (.iload_n 3, 1) ∧
  decode (cM m_Timber_insertRing) 51 = .ok (.aload_n 0, 1) ∧
  decode (cM m_Timber_insertRing) 52 = .ok (.getfield 15, 3) ∧
  decode (cM m_Timber_insertRing) 55 = .ok (.iload_n 3, 1) ∧
  decode (cM m_Timber_insertRing) 56 = .ok (.iconst 1, 1) ∧
  decode (cM m_Timber_insertRing) 57 = .ok (.isub, 1) ∧
  decode (cM m_Timber_insertRing) 58 = .ok (.baload, 1) ∧
  decode (cM m_Timber_insertRing) 59 = .ok (.bastore, 1) ∧
  decode (cM m_Timber_insertRing) 60 = .ok (.iinc 3 (-1), 3) ∧
  decode (cM m_Timber_insertRing) 63 = .ok (.goto (-36), 3) ∧
  am_okt 63 (-36) ∧
  am_tgt 63 (-36) = 27 ∧
  decode (cM m_Timber_insertRing) 66 = .ok (.aload_n 0, 1) ∧
  decode (cM m_Timber_insertRing) 67 = .ok (.getfield 9, 3) ∧
  decode (cM m_Timber_insertRing) 70 = .ok (.iload_n 1, 1) ∧
  decode (cM m_Timber_insertRing) 71 = .ok (.iload_n 2, 1) ∧
  decode (cM m_Timber_insertRing) 72 = .ok (.iastore, 1) ∧
  decode (cM m_Timber_insertRing) 73 = .ok (.aload_n 0, 1) ∧
  decode (cM m_Timber_insertRing) 74 = .ok (.getfield 15, 3) ∧
  decode (cM m_Timber_insertRing) 77 = .ok (.iload_n 1, 1) ∧
  decode (cM m_Timber_insertRing) 78 = .ok (.iconst 1, 1) ∧
  decode (cM m_Timber_insertRing) 79 = .ok (.bastore, 1) ∧
  decode (cM m_Timber_insertRing) 80 = .ok (.aload_n 0, 1) ∧
  decode (cM m_Timber_insertRing) 81 = .ok (.dup, 1) ∧
  decode (cM m_Timber_insertRing) 82 = .ok (.getfield 19, 3) ∧
  decode (cM m_Timber_insertRing) 85 = .ok (.iconst 1, 1) ∧
  decode (cM m_Timber_insertRing) 86 = .ok (.iadd, 1) ∧
  decode (cM m_Timber_insertRing) 87 = .ok (.putfield 19, 3) ∧
  decode (cM m_Timber_insertRing) 90 = .ok (.return_, 1) :=
  ⟨rfl, rfl, rfl, rfl, by decide +kernel, by decide +kernel, rfl, rfl, by decide +kernel, by decide +kernel, by decide +kernel, rfl, by decide +kernel, rfl, rfl, by decide +kernel, by decide +kernel, by decide +kernel, by decide +kernel, rfl, rfl, by decide +kernel, by decide +kernel, by decide +kernel, by decide +kernel, by decide +kernel, by decide +kernel, by decide +kernel, rfl, rfl, by decide +kernel, by decide +kernel, rfl, by decide +kernel, by decide +kernel, by decide +kernel, by decide +kernel, by decide +kernel, by decide +kernel, by decide +kernel, by decide +kernel, by decide +kernel, by decide +kernel, rfl, by decide +kernel, by decide +kernel, by decide +kernel, by decide +kernel, by decide +kernel, by decide +kernel, by decide +kernel, by decide +kernel, by decide +kernel, by decide +kernel, rfl, rfl, by decide +kernel, by decide +kernel, by decide +kernel, by decide +kernel, by decide +kernel, by decide +kernel, by decide +kernel, by decide +kernel, by decide +kernel, by decide +kernel, by decide +kernel, by decide +kernel, by decide +kernel, by decide +kernel, by decide +kernel, by decide +kernel, by decide +kernel⟩

set_option maxRecDepth 100000 in
set_option maxHeartbeats 4000000 in
theorem C_Timber_removeRing : oM m_Timber_removeRing = 9 ∧
  rkM m_Timber_removeRing = 0 ∧
  dM m_Timber_removeRing = 1 ∧
  lM m_Timber_removeRing = 3 ∧
  decode (cM m_Timber_removeRing) 0 = .ok (.aload_n 0, 1) ∧
  decode (cM m_Timber_removeRing) 1 = .ok (.iload_n 1, 1) ∧
  decode (cM m_Timber_removeRing) 2 = .ok (.invokevirtual 42, 3) ∧
  invT 9 42 = some (m_Timber_has, 0) ∧
  nM m_Timber_has = 2 ∧
  oM m_Timber_has = 9 ∧
  rkM m_Timber_has = 2 ∧
  dM m_Timber_has = 0 ∧
  decode (cM m_Timber_removeRing) 5 = .ok (.ifCond .ne 4, 3) ∧
  am_okt 5 4 ∧
  am_tgt 5 4 = 9 ∧
  decode (cM m_Timber_removeRing) 8 = .ok (.return_, 1) ∧
  decode (cM m_Timber_removeRing) 9 = .ok (.iload_n 1, 1) ∧
  decode (cM m_Timber_removeRing) 10 = .ok (.iconst 1, 1) ∧
  decode (cM m_Timber_removeRing) 11 = .ok (.iadd, 1) ∧
  decode (cM m_Timber_removeRing) 12 = .ok (.istore_n 2, 1) ∧
  decode (cM m_Timber_removeRing) 13 = .ok (.iload_n 2, 1) ∧
  decode (cM m_Timber_removeRing) 14 = .ok (.aload_n 0, 1) ∧
  decode (cM m_Timber_removeRing) 15 = .ok (.getfield 19, 3) ∧
  fldT 9 19 = some (9, 2, 0) ∧
  decode (cM m_Timber_removeRing) 18 = .ok (.if_icmp .ge 43, 3) ∧
  am_okt 18 43 ∧
  am_tgt 18 43 = 61 ∧
  decode (cM m_Timber_removeRing) 21 = .ok (.iload_n 2, 1) ∧
  decode (cM m_Timber_removeRing) 22 = .ok (.bipush 24, 2) ∧
  decode (cM m_Timber_removeRing) 24 = .ok (.if_icmp .ge 37, 3) ∧
  am_okt 24 37 ∧
  am_tgt 24 37 = 61 ∧
  decode (cM m_Timber_removeRing) 27 = .ok (.aload_n 0, 1) ∧
  decode (cM m_Timber_removeRing) 28 = .ok (.getfield 9, 3) ∧
  fldT 9 9 = some (9, 0, 2) ∧
  decode (cM m_Timber_removeRing) 31 = .ok (.iload_n 2, 1) ∧
  decode (cM m_Timber_removeRing) 32 = .ok (.iconst 1, 1) ∧
  decode (cM m_Timber_removeRing) 33 = .ok (.isub, 1) ∧
  decode (cM m_Timber_removeRing) 34 = .ok (.aload_n 0, 1) ∧
  decode (cM m_Timber_removeRing) 35 = .ok (.getfield 9, 3) ∧
  decode (cM m_Timber_removeRing) 38 = .ok (.iload_n 2, 1) ∧
  decode (cM m_Timber_removeRing) 39 = .ok (.iaload, 1) ∧
  decode (cM m_Timber_removeRing) 40 = .ok (.iastore, 1) ∧
  decode (cM m_Timber_removeRing) 41 = .ok (.aload_n 0, 1) ∧
  decode (cM m_Timber_removeRing) 42 = .ok (.getfield 15, 3) ∧
  fldT 9 15 = some (9, 1, 2) ∧
  decode (cM m_Timber_removeRing) 45 = .ok (.iload_n 2, 1) ∧
  decode (cM m_Timber_removeRing) 46 = .ok (.iconst 1, 1) ∧
  decode (cM m_Timber_removeRing) 47 = .ok (.isub, 1) ∧
  decode (cM m_Timber_removeRing) 48 = .ok (.aload_n 0, 1) ∧
  decode (cM m_Timber_removeRing) 49 = .ok (.getfield 15, 3) ∧
  decode (cM m_Timber_removeRing) 52 = .ok (.iload_n 2, 1) ∧
  decode (cM m_Timber_removeRing) 53 = .ok (.baload, 1) ∧
  decode (cM m_Timber_removeRing) 54 = .ok (.bastore, 1) ∧
  decode (cM m_Timber_removeRing) 55 = .ok (.iinc 2 1, 3) ∧
  decode (cM m_Timber_removeRing) 58 = .ok (.goto (-45), 3) ∧
  am_okt 58 (-45) ∧
  am_tgt 58 (-45) = 13 ∧
  decode (cM m_Timber_removeRing) 61 = .ok (.aload_n 0, 1) ∧
  decode (cM m_Timber_removeRing) 62 = .ok (.dup, 1) ∧
  decode (cM m_Timber_removeRing) 63 = .ok (.getfield 19, 3) ∧
  decode (cM m_Timber_removeRing) 66 = .ok (.iconst 1, 1) ∧
  decode (cM m_Timber_removeRing) 67 = .ok (.isub, 1) ∧
  decode (cM m_Timber_removeRing) 68 = .ok (.putfield 19, 3) ∧
  decode (cM m_Timber_removeRing) 71 = .ok (.return_, 1) :=
  ⟨rfl, rfl, rfl, rfl, by decide +kernel, by decide +kernel, by decide +kernel, rfl, rfl, rfl, rfl, rfl, by decide +kernel, rfl, rfl, by decide +kernel, by decide +kernel, by decide +kernel, by decide +kernel, by decide +kernel, by decide +kernel, by decide +kernel, by decide +kernel, rfl, by decide +kernel, rfl, rfl, by decide +kernel, by decide +kernel, by decide +kernel, rfl, rfl, by decide +kernel, by decide +kernel, rfl, by decide +kernel, by decide +kernel, by decide +kernel, by decide +kernel, by decide +kernel, by decide +kernel, by decide +kernel, by decide +kernel, by decide +kernel, by decide +kernel, rfl, by decide +kernel, by decide +kernel, by decide +kernel, by decide +kernel, by decide +kernel, by decide +kernel, by decide +kernel, by decide +kernel, by decide +kernel, by decide +kernel, rfl, rfl, by decide +kernel, by decide +kernel, by decide +kernel, by decide +kernel, by decide +kernel, by decide +kernel, by decide +kernel⟩

set_option maxRecDepth 100000 in
set_option maxHeartbeats 4000000 in
theorem C_Timber_turnDoubt : oM m_Timber_turnDoubt = 9 ∧
  rkM m_Timber_turnDoubt = 0 ∧
  dM m_Timber_turnDoubt = 1 ∧
  lM m_Timber_turnDoubt = 2 ∧
  decode (cM m_Timber_turnDoubt) 0 = .ok (.aload_n 0, 1) ∧
  decode (cM m_Timber_turnDoubt) 1 = .ok (.iload_n 1, 1) ∧
  decode (cM m_Timber_turnDoubt) 2 = .ok (.invokevirtual 42, 3) ∧
  invT 9 42 = some (m_Timber_has, 0) ∧
  nM m_Timber_has = 2 ∧
  oM m_Timber_has = 9 ∧
  rkM m_Timber_has = 2 ∧
  dM m_Timber_has = 0 ∧
  decode (cM m_Timber_turnDoubt) 5 = .ok (.ifCond .eq 23, 3) ∧
  am_okt 5 23 ∧
  am_tgt 5 23 = 28 ∧
  decode (cM m_Timber_turnDoubt) 8 = .ok (.aload_n 0, 1) ∧
  decode (cM m_Timber_turnDoubt) 9 = .ok (.getfield 15, 3) ∧
  fldT 9 15 = some (9, 1, 2) ∧
  decode (cM m_Timber_turnDoubt) 12 = .ok (.iload_n 1, 1) ∧
  decode (cM m_Timber_turnDoubt) 13 = .ok (.aload_n 0, 1) ∧
  decode (cM m_Timber_turnDoubt) 14 = .ok (.getfield 15, 3) ∧
  decode (cM m_Timber_turnDoubt) 17 = .ok (.iload_n 1, 1) ∧
  decode (cM m_Timber_turnDoubt) 18 = .ok (.baload, 1) ∧
  decode (cM m_Timber_turnDoubt) 19 = .ok (.ifCond .ne 7, 3) ∧
  am_okt 19 7 ∧
  am_tgt 19 7 = 26 ∧
  decode (cM m_Timber_turnDoubt) 22 = .ok (.iconst 1, 1) ∧
  decode (cM m_Timber_turnDoubt) 23 = .ok (.goto 4, 3) ∧
  am_okt 23 4 ∧
  am_tgt 23 4 = 27 ∧
  decode (cM m_Timber_turnDoubt) 26 = .ok (.iconst 0, 1) ∧
  decode (cM m_Timber_turnDoubt) 27 = .ok (.bastore, 1) ∧
  decode (cM m_Timber_turnDoubt) 28 = .ok (.return_, 1) :=
  ⟨rfl, rfl, rfl, rfl, by decide +kernel, by decide +kernel, by decide +kernel, rfl, rfl, rfl, rfl, rfl, by decide +kernel, rfl, rfl, by decide +kernel, by decide +kernel, rfl, by decide +kernel, by decide +kernel, by decide +kernel, by decide +kernel, by decide +kernel, by decide +kernel, rfl, rfl, by decide +kernel, by decide +kernel, rfl, rfl, by decide +kernel, by decide +kernel, by decide +kernel⟩

set_option maxRecDepth 100000 in
set_option maxHeartbeats 4000000 in
theorem C_Timber_copyFrom : oM m_Timber_copyFrom = 9 ∧
  rkM m_Timber_copyFrom = 0 ∧
  dM m_Timber_copyFrom = 0 ∧
  lM m_Timber_copyFrom = 3 ∧
  decode (cM m_Timber_copyFrom) 0 = .ok (.iconst 0, 1) ∧
  decode (cM m_Timber_copyFrom) 1 = .ok (.istore_n 2, 1) ∧
  decode (cM m_Timber_copyFrom) 2 = .ok (.iload_n 2, 1) ∧
  decode (cM m_Timber_copyFrom) 3 = .ok (.bipush 24, 2) ∧
  decode (cM m_Timber_copyFrom) 5 = .ok (.if_icmp .ge 33, 3) ∧
  am_okt 5 33 ∧
  am_tgt 5 33 = 38 ∧
  decode (cM m_Timber_copyFrom) 8 = .ok (.aload_n 0, 1) ∧
  decode (cM m_Timber_copyFrom) 9 = .ok (.getfield 9, 3) ∧
  fldT 9 9 = some (9, 0, 2) ∧
  decode (cM m_Timber_copyFrom) 12 = .ok (.iload_n 2, 1) ∧
  decode (cM m_Timber_copyFrom) 13 = .ok (.aload_n 1, 1) ∧
  decode (cM m_Timber_copyFrom) 14 = .ok (.getfield 9, 3) ∧
  decode (cM m_Timber_copyFrom) 17 = .ok (.iload_n 2, 1) ∧
  decode (cM m_Timber_copyFrom) 18 = .ok (.iaload, 1) ∧
  decode (cM m_Timber_copyFrom) 19 = .ok (.iastore, 1) ∧
  decode (cM m_Timber_copyFrom) 20 = .ok (.aload_n 0, 1) ∧
  decode (cM m_Timber_copyFrom) 21 = .ok (.getfield 15, 3) ∧
  fldT 9 15 = some (9, 1, 2) ∧
  decode (cM m_Timber_copyFrom) 24 = .ok (.iload_n 2, 1) ∧
  decode (cM m_Timber_copyFrom) 25 = .ok (.aload_n 1, 1) ∧
  decode (cM m_Timber_copyFrom) 26 = .ok (.getfield 15, 3) ∧
  decode (cM m_Timber_copyFrom) 29 = .ok (.iload_n 2, 1) ∧
  decode (cM m_Timber_copyFrom) 30 = .ok (.baload, 1) ∧
  decode (cM m_Timber_copyFrom) 31 = .ok (.bastore, 1) ∧
  decode (cM m_Timber_copyFrom) 32 = .ok (.iinc 2 1, 3) ∧
  decode (cM m_Timber_copyFrom) 35 = .ok (.goto (-33), 3) ∧
  am_okt 35 (-33) ∧
  am_tgt 35 (-33) = 2 ∧
  decode (cM m_Timber_copyFrom) 38 = .ok (.aload_n 0, 1) ∧
  decode (cM m_Timber_copyFrom) 39 = .ok (.aload_n 1, 1) ∧
  decode (cM m_Timber_copyFrom) 40 = .ok (.getfield 19, 3) ∧
  fldT 9 19 = some (9, 2, 0) ∧
  decode (cM m_Timber_copyFrom) 43 = .ok (.putfield 19, 3) ∧
  decode (cM m_Timber_copyFrom) 46 = .ok (.aload_n 0, 1) ∧
  decode (cM m_Timber_copyFrom) 47 = .ok (.aload_n 1, 1) ∧
  decode (cM m_Timber_copyFrom) 48 = .ok (.getfield 23, 3) ∧
  fldT 9 23 = some (9, 3, 0) ∧
  decode (cM m_Timber_copyFrom) 51 = .ok (.putfield 23, 3) ∧
  decode (cM m_Timber_copyFrom) 54 = .ok (.aload_n 0, 1) ∧
  decode (cM m_Timber_copyFrom) 55 = .ok (.aload_n 1, 1) ∧
  decode (cM m_Timber_copyFrom) 56 = .ok (.getfield 26, 3) ∧
  fldT 9 26 = some (9, 4, 0) ∧
  decode (cM m_Timber_copyFrom) 59 = .ok (.putfield 26, 3) ∧
  decode (cM m_Timber_copyFrom) 62 = .ok (.aload_n 0, 1) ∧
  decode (cM m_Timber_copyFrom) 63 = .ok (.aload_n 1, 1) ∧
  decode (cM m_Timber_copyFrom) 64 = .ok (.getfield 29, 3) ∧
  fldT 9 29 = some (9, 5, 0) ∧
  decode (cM m_Timber_copyFrom) 67 = .ok (.putfield 29, 3) ∧
  decode (cM m_Timber_copyFrom) 70 = .ok (.return_, 1) :=
  ⟨rfl, rfl, rfl, rfl, by decide +kernel, by decide +kernel, by decide +kernel, by decide +kernel, by decide +kernel, rfl, rfl, by decide +kernel, by decide +kernel, rfl, by decide +kernel, by decide +kernel, by decide +kernel, by decide +kernel, by decide +kernel, by decide +kernel, by decide +kernel, by decide +kernel, rfl, by decide +kernel, by decide +kernel, by decide +kernel, by decide +kernel, by decide +kernel, by decide +kernel, by decide +kernel, by decide +kernel, rfl, rfl, by decide +kernel, by decide +kernel, by decide +kernel, rfl, by decide +kernel, by decide +kernel, by decide +kernel, by decide +kernel, rfl, by decide +kernel, by decide +kernel, by decide +kernel, by decide +kernel, rfl, by decide +kernel, by decide +kernel, by decide +kernel, by decide +kernel, rfl, by decide +kernel, by decide +kernel⟩

set_option maxRecDepth 100000 in
set_option maxHeartbeats 4000000 in
theorem C_Timber_begin : oM m_Timber_begin = 9 ∧
  rkM m_Timber_begin = 0 ∧
  dM m_Timber_begin = 0 ∧
  lM m_Timber_begin = 3 ∧
  decode (cM m_Timber_begin) 0 = .ok (.aload_n 0, 1) ∧
  decode (cM m_Timber_begin) 1 = .ok (.iconst 0, 1) ∧
  decode (cM m_Timber_begin) 2 = .ok (.putfield 19, 3) ∧
  fldT 9 19 = some (9, 2, 0) ∧
  decode (cM m_Timber_begin) 5 = .ok (.aload_n 0, 1) ∧
  decode (cM m_Timber_begin) 6 = .ok (.iload_n 1, 1) ∧
  decode (cM m_Timber_begin) 7 = .ok (.putfield 23, 3) ∧
  fldT 9 23 = some (9, 3, 0) ∧
  decode (cM m_Timber_begin) 10 = .ok (.aload_n 0, 1) ∧
  decode (cM m_Timber_begin) 11 = .ok (.iload_n 2, 1) ∧
  decode (cM m_Timber_begin) 12 = .ok (.putfield 26, 3) ∧
  fldT 9 26 = some (9, 4, 0) ∧
  decode (cM m_Timber_begin) 15 = .ok (.aload_n 0, 1) ∧
  decode (cM m_Timber_begin) 16 = .ok (.iconst 0, 1) ∧
  decode (cM m_Timber_begin) 17 = .ok (.putfield 29, 3) ∧
  fldT 9 29 = some (9, 5, 0) ∧
  decode (cM m_Timber_begin) 20 = .ok (.return_, 1) :=
  ⟨rfl, rfl, rfl, rfl, by decide +kernel, by decide +kernel, by decide +kernel, rfl, by decide +kernel, by decide +kernel, by decide +kernel, rfl, by decide +kernel, by decide +kernel, by decide +kernel, rfl, by decide +kernel, by decide +kernel, by decide +kernel, rfl, by decide +kernel⟩

set_option maxRecDepth 100000 in
set_option maxHeartbeats 4000000 in
theorem C_Timber_addRing : oM m_Timber_addRing = 9 ∧
  rkM m_Timber_addRing = 0 ∧
  dM m_Timber_addRing = 0 ∧
  lM m_Timber_addRing = 3 ∧
  decode (cM m_Timber_addRing) 0 = .ok (.aload_n 0, 1) ∧
  decode (cM m_Timber_addRing) 1 = .ok (.getfield 19, 3) ∧
  fldT 9 19 = some (9, 2, 0) ∧
  decode (cM m_Timber_addRing) 4 = .ok (.ifCond .lt 42, 3) ∧
  am_okt 4 42 ∧
  am_tgt 4 42 = 46 ∧
  decode (cM m_Timber_addRing) 7 = .ok (.aload_n 0, 1) ∧
  decode (cM m_Timber_addRing) 8 = .ok (.getfield 19, 3) ∧
  decode (cM m_Timber_addRing) 11 = .ok (.bipush 24, 2) ∧
  decode (cM m_Timber_addRing) 13 = .ok (.if_icmp .ge 33, 3) ∧
  am_okt 13 33 ∧
  am_tgt 13 33 = 46 ∧
  decode (cM m_Timber_addRing) 16 = .ok (.aload_n 0, 1) ∧
  decode (cM m_Timber_addRing) 17 = .ok (.getfield 9, 3) ∧
  fldT 9 9 = some (9, 0, 2) ∧
  decode (cM m_Timber_addRing) 20 = .ok (.aload_n 0, 1) ∧
  decode (cM m_Timber_addRing) 21 = .ok (.getfield 19, 3) ∧
  decode (cM m_Timber_addRing) 24 = .ok (.iload_n 1, 1) ∧
  decode (cM m_Timber_addRing) 25 = .ok (.iastore, 1) ∧
  decode (cM m_Timber_addRing) 26 = .ok (.aload_n 0, 1) ∧
  decode (cM m_Timber_addRing) 27 = .ok (.getfield 15, 3) ∧
  fldT 9 15 = some (9, 1, 2) ∧
  decode (cM m_Timber_addRing) 30 = .ok (.aload_n 0, 1) ∧
  decode (cM m_Timber_addRing) 31 = .ok (.getfield 19, 3) ∧
  decode (cM m_Timber_addRing) 34 = .ok (.iload_n 2, 1) ∧
  decode (cM m_Timber_addRing) 35 = .ok (.bastore, 1) ∧
  decode (cM m_Timber_addRing) 36 = .ok (.aload_n 0, 1) ∧
  decode (cM m_Timber_addRing) 37 = .ok (.dup, 1) ∧
  decode (cM m_Timber_addRing) 38 = .ok (.getfield 19, 3) ∧
  decode (cM m_Timber_addRing) 41 = .ok (.iconst 1, 1) ∧
  decode (cM m_Timber_addRing) 42 = .ok (.iadd, 1) ∧
  decode (cM m_Timber_addRing) 43 = .ok (.putfield 19, 3) ∧
  decode (cM m_Timber_addRing) 46 = .ok (.return_, 1) :=
  ⟨rfl, rfl, rfl, rfl, by decide +kernel, by decide +kernel, rfl, by decide +kernel, rfl, rfl, by decide +kernel, by decide +kernel, by decide +kernel, by decide +kernel, rfl, rfl, by decide +kernel, by decide +kernel, rfl, by decide +kernel, by decide +kernel, by decide +kernel, by decide +kernel, by decide +kernel, by decide +kernel, rfl, by decide +kernel, by decide +kernel, by decide +kernel, by decide +kernel, by decide +kernel, by decide +kernel, by decide +kernel, by decide +kernel, by decide +kernel, by decide +kernel, by decide +kernel⟩

set_option maxRecDepth 100000 in
set_option maxHeartbeats 4000000 in
theorem C_Timber_stepOf : oM m_Timber_stepOf = 9 ∧
  rkM m_Timber_stepOf = 1 ∧
  dM m_Timber_stepOf = 1 ∧
  lM m_Timber_stepOf = 2 ∧
  decode (cM m_Timber_stepOf) 0 = .ok (.aload_n 0, 1) ∧
  decode (cM m_Timber_stepOf) 1 = .ok (.iload_n 1, 1) ∧
  decode (cM m_Timber_stepOf) 2 = .ok (.invokevirtual 32, 3) ∧
  invT 9 32 = some (m_Timber_widthOf, 0) ∧
  nM m_Timber_widthOf = 2 ∧
  oM m_Timber_widthOf = 9 ∧
  rkM m_Timber_widthOf = 1 ∧
  dM m_Timber_widthOf = 0 ∧
  decode (cM m_Timber_stepOf) 5 = .ok (.aload_n 0, 1) ∧
  decode (cM m_Timber_stepOf) 6 = .ok (.iload_n 1, 1) ∧
  decode (cM m_Timber_stepOf) 7 = .ok (.iconst 1, 1) ∧
  decode (cM m_Timber_stepOf) 8 = .ok (.isub, 1) ∧
  decode (cM m_Timber_stepOf) 9 = .ok (.invokevirtual 32, 3) ∧
  decode (cM m_Timber_stepOf) 12 = .ok (.invokestatic 36, 3) ∧
  invT 9 36 = some (m_Integer_compare, 1) ∧
  nM m_Integer_compare = 2 ∧
  oM m_Integer_compare = 13 ∧
  rkM m_Integer_compare = 1 ∧
  dM m_Integer_compare = 0 ∧
  decode (cM m_Timber_stepOf) 15 = .ok (.ireturn, 1) :=
  ⟨rfl, rfl, rfl, rfl, by decide +kernel, by decide +kernel, by decide +kernel, rfl, rfl, rfl, rfl, rfl, by decide +kernel, by decide +kernel, by decide +kernel, by decide +kernel, by decide +kernel, by decide +kernel, rfl, rfl, rfl, rfl, rfl, by decide +kernel⟩

set_option maxRecDepth 100000 in
set_option maxHeartbeats 4000000 in
theorem C_Timber_countDoubtful : oM m_Timber_countDoubtful = 9 ∧
  rkM m_Timber_countDoubtful = 1 ∧
  dM m_Timber_countDoubtful = 1 ∧
  lM m_Timber_countDoubtful = 3 ∧
  decode (cM m_Timber_countDoubtful) 0 = .ok (.iconst 0, 1) ∧
  decode (cM m_Timber_countDoubtful) 1 = .ok (.istore_n 1, 1) ∧
  decode (cM m_Timber_countDoubtful) 2 = .ok (.iconst 0, 1) ∧
  decode (cM m_Timber_countDoubtful) 3 = .ok (.istore_n 2, 1) ∧
  decode (cM m_Timber_countDoubtful) 4 = .ok (.iload_n 2, 1) ∧
  decode (cM m_Timber_countDoubtful) 5 = .ok (.aload_n 0, 1) ∧
  decode (cM m_Timber_countDoubtful) 6 = .ok (.getfield 19, 3) ∧
  fldT 9 19 = some (9, 2, 0) ∧
  decode (cM m_Timber_countDoubtful) 9 = .ok (.if_icmp .ge 25, 3) ∧
  am_okt 9 25 ∧
  am_tgt 9 25 = 34 ∧
  decode (cM m_Timber_countDoubtful) 12 = .ok (.iload_n 1, 1) ∧
  decode (cM m_Timber_countDoubtful) 13 = .ok (.aload_n 0, 1) ∧
  decode (cM m_Timber_countDoubtful) 14 = .ok (.iload_n 2, 1) ∧
  decode (cM m_Timber_countDoubtful) 15 = .ok (.invokevirtual 46, 3) ∧
  invT 9 46 = some (m_Timber_isDoubtful, 0) ∧
  nM m_Timber_isDoubtful = 2 ∧
  oM m_Timber_isDoubtful = 9 ∧
  rkM m_Timber_isDoubtful = 2 ∧
  dM m_Timber_isDoubtful = 0 ∧
  decode (cM m_Timber_countDoubtful) 18 = .ok (.ifCond .eq 7, 3) ∧
  am_okt 18 7 ∧
  am_tgt 18 7 = 25 ∧
  decode (cM m_Timber_countDoubtful) 21 = .ok (.iconst 1, 1) ∧
  decode (cM m_Timber_countDoubtful) 22 = .ok (.goto 4, 3) ∧
  am_okt 22 4 ∧
  am_tgt 22 4 = 26 ∧
  decode (cM m_Timber_countDoubtful) 25 = .ok (.iconst 0, 1) ∧
  decode (cM m_Timber_countDoubtful) 26 = .ok (.iadd, 1) ∧
  decode (cM m_Timber_countDoubtful) 27 = .ok (.istore_n 1, 1) ∧
  decode (cM m_Timber_countDoubtful) 28 = .ok (.iinc 2 1, 3) ∧
  decode (cM m_Timber_countDoubtful) 31 = .ok (.goto (-27), 3) ∧
  am_okt 31 (-27) ∧
  am_tgt 31 (-27) = 4 ∧
  decode (cM m_Timber_countDoubtful) 34 = .ok (.iload_n 1, 1) ∧
  decode (cM m_Timber_countDoubtful) 35 = .ok (.ireturn, 1) :=
  ⟨rfl, rfl, rfl, rfl, by decide +kernel, by decide +kernel, by decide +kernel, by decide +kernel, by decide +kernel, by decide +kernel, by decide +kernel, rfl, by decide +kernel, rfl, rfl, by decide +kernel, by decide +kernel, by decide +kernel, by decide +kernel, rfl, rfl, rfl, rfl, rfl, by decide +kernel, rfl, rfl, by decide +kernel, by decide +kernel, rfl, rfl, by decide +kernel, by decide +kernel, by decide +kernel, by decide +kernel, by decide +kernel, rfl, rfl, by decide +kernel, by decide +kernel⟩

set_option maxRecDepth 100000 in
set_option maxHeartbeats 4000000 in
theorem C_Timber_drawRings : oM m_Timber_drawRings = 9 ∧
  rkM m_Timber_drawRings = 1 ∧
  dM m_Timber_drawRings = 1 ∧
  lM m_Timber_drawRings = 5 ∧
  decode (cM m_Timber_drawRings) 0 = .ok (.aload_n 0, 1) ∧
  decode (cM m_Timber_drawRings) 1 = .ok (.iconst 0, 1) ∧
  decode (cM m_Timber_drawRings) 2 = .ok (.iconst 0, 1) ∧
  decode (cM m_Timber_drawRings) 3 = .ok (.invokevirtual 49, 3) ∧
  invT 9 49 = some (m_Timber_begin, 0) ∧
  nM m_Timber_begin = 3 ∧
  oM m_Timber_begin = 9 ∧
  rkM m_Timber_begin = 0 ∧
  dM m_Timber_begin = 0 ∧
  decode (cM m_Timber_drawRings) 6 = .ok (.iload_n 2, 1) ∧
  decode (cM m_Timber_drawRings) 7 = .ok (.istore_n 3, 1) ∧
  decode (cM m_Timber_drawRings) 8 = .ok (.iconst 0, 1) ∧
  decode (cM m_Timber_drawRings) 9 = .ok (.istore 4, 2) ∧
  decode (cM m_Timber_drawRings) 11 = .ok (.iload 4, 2) ∧
  decode (cM m_Timber_drawRings) 13 = .ok (.iload_n 1, 1) ∧
  decode (cM m_Timber_drawRings) 14 = .ok (.if_icmp .ge 43, 3) ∧
  am_okt 14 43 ∧
  am_tgt 14 43 = 57 ∧
  decode (cM m_Timber_drawRings) 17 = .ok (.iload 4, 2) ∧
  decode (cM m_Timber_drawRings) 19 = .ok (.bipush 24, 2) ∧
  decode (cM m_Timber_drawRings) 21 = .ok (.if_icmp .ge 36, 3) ∧
  am_okt 21 36 ∧
  am_tgt 21 36 = 57 ∧
  decode (cM m_Timber_drawRings) 24 = .ok (.iload_n 3, 1) ∧
  decode (cM m_Timber_drawRings) 25 = .ok (.ldc 53, 2) ∧
  ldcT 9 53 = some (.inl 1103515245) ∧
  decode (cM m_Timber_drawRings) 27 = .ok (.imul, 1) ∧
  decode (cM m_Timber_drawRings) 28 = .ok (.sipush 12345, 3) ∧
  decode (cM m_Timber_drawRings) 31 = .ok (.iadd, 1) ∧
  decode (cM m_Timber_drawRings) 32 = .ok (.istore_n 3, 1) ∧
  decode (cM m_Timber_drawRings) 33 = .ok (.aload_n 0, 1) ∧
  decode (cM m_Timber_drawRings) 34 = .ok (.iload_n 3, 1) ∧
  decode (cM m_Timber_drawRings) 35 = .ok (.bipush 16, 2) ∧
  decode (cM m_Timber_drawRings) 37 = .ok (.iushr, 1) ∧
  decode (cM m_Timber_drawRings) 38 = .ok (.sipush 32767, 3) ∧
  decode (cM m_Timber_drawRings) 41 = .ok (.iand, 1) ∧
  decode (cM m_Timber_drawRings) 42 = .ok (.bipush 99, 2) ∧
  decode (cM m_Timber_drawRings) 44 = .ok (.irem, 1) ∧
  decode (cM m_Timber_drawRings) 45 = .ok (.iconst 1, 1) ∧
  decode (cM m_Timber_drawRings) 46 = .ok (.iadd, 1) ∧
  decode (cM m_Timber_drawRings) 47 = .ok (.iconst 0, 1) ∧
  decode (cM m_Timber_drawRings) 48 = .ok (.invokevirtual 54, 3) ∧
  invT 9 54 = some (m_Timber_addRing, 0) ∧
  nM m_Timber_addRing = 3 ∧
  oM m_Timber_addRing = 9 ∧
  rkM m_Timber_addRing = 0 ∧
  dM m_Timber_addRing = 0 ∧
  decode (cM m_Timber_drawRings) 51 = .ok (.iinc 4 1, 3) ∧
  decode (cM m_Timber_drawRings) 54 = .ok (.goto (-43), 3) ∧
  am_okt 54 (-43) ∧
  am_tgt 54 (-43) = 11 ∧
  decode (cM m_Timber_drawRings) 57 = .ok (.iload_n 3, 1) ∧
  decode (cM m_Timber_drawRings) 58 = .ok (.ireturn, 1) :=
  ⟨rfl, rfl, rfl, rfl, by decide +kernel, by decide +kernel, by decide +kernel, by decide +kernel, rfl, rfl, rfl, rfl, rfl, by decide +kernel, by decide +kernel, by decide +kernel, by decide +kernel, by decide +kernel, by decide +kernel, by decide +kernel, rfl, rfl, by decide +kernel, by decide +kernel, by decide +kernel, rfl, rfl, by decide +kernel, by decide +kernel, rfl, by decide +kernel, by decide +kernel, by decide +kernel, by decide +kernel, by decide +kernel, by decide +kernel, by decide +kernel, by decide +kernel, by decide +kernel, by decide +kernel, by decide +kernel, by decide +kernel, by decide +kernel, by decide +kernel, by decide +kernel, by decide +kernel, rfl, rfl, rfl, rfl, rfl, by decide +kernel, by decide +kernel, rfl, rfl, by decide +kernel, by decide +kernel⟩

set_option maxRecDepth 100000 in
set_option maxHeartbeats 4000000 in
theorem C_Integer_compare : oM m_Integer_compare = 13 ∧
  rkM m_Integer_compare = 1 ∧
  dM m_Integer_compare = 0 ∧
  lM m_Integer_compare = 2 ∧
  decode (cM m_Integer_compare) 0 = .ok (.iload_n 0, 1) ∧
  decode (cM m_Integer_compare) 1 = .ok (.iload_n 1, 1) ∧
  decode (cM m_Integer_compare) 2 = .ok (.if_icmp .ge 7, 3) ∧
  am_okt 2 7 ∧
  am_tgt 2 7 = 9 ∧
  decode (cM m_Integer_compare) 5 = .ok (.iconst (-1), 1) ∧
  decode (cM m_Integer_compare) 6 = .ok (.goto 13, 3) ∧
  am_okt 6 13 ∧
  am_tgt 6 13 = 19 ∧
  decode (cM m_Integer_compare) 9 = .ok (.iload_n 0, 1) ∧
  decode (cM m_Integer_compare) 10 = .ok (.iload_n 1, 1) ∧
  decode (cM m_Integer_compare) 11 = .ok (.if_icmp .ne 7, 3) ∧
  am_okt 11 7 ∧
  am_tgt 11 7 = 18 ∧
  decode (cM m_Integer_compare) 14 = .ok (.iconst 0, 1) ∧
  decode (cM m_Integer_compare) 15 = .ok (.goto 4, 3) ∧
  am_okt 15 4 ∧
  am_tgt 15 4 = 19 ∧
  decode (cM m_Integer_compare) 18 = .ok (.iconst 1, 1) ∧
  decode (cM m_Integer_compare) 19 = .ok (.ireturn, 1) :=
  ⟨rfl, rfl, rfl, rfl, by decide +kernel, by decide +kernel, by decide +kernel, rfl, rfl, by decide +kernel, by decide +kernel, rfl, rfl, by decide +kernel, by decide +kernel, by decide +kernel, rfl, rfl, by decide +kernel, by decide +kernel, rfl, rfl, by decide +kernel, by decide +kernel⟩

set_option maxRecDepth 100000 in
set_option maxHeartbeats 4000000 in
theorem C_Integer_bitCount : oM m_Integer_bitCount = 13 ∧
  rkM m_Integer_bitCount = 1 ∧
  dM m_Integer_bitCount = 0 ∧
  lM m_Integer_bitCount = 1 ∧
  decode (cM m_Integer_bitCount) 0 = .ok (.iload_n 0, 1) ∧
  decode (cM m_Integer_bitCount) 1 = .ok (.iload_n 0, 1) ∧
  decode (cM m_Integer_bitCount) 2 = .ok (.iconst 1, 1) ∧
  decode (cM m_Integer_bitCount) 3 = .ok (.iushr, 1) ∧
  decode (cM m_Integer_bitCount) 4 = .ok (.ldc_w 265, 3) ∧
  ldcT 13 265 = some (.inl 1431655765) ∧
  decode (cM m_Integer_bitCount) 7 = .ok (.iand, 1) ∧
  decode (cM m_Integer_bitCount) 8 = .ok (.isub, 1) ∧
  decode (cM m_Integer_bitCount) 9 = .ok (.istore_n 0, 1) ∧
  decode (cM m_Integer_bitCount) 10 = .ok (.iload_n 0, 1) ∧
  decode (cM m_Integer_bitCount) 11 = .ok (.ldc_w 266, 3) ∧
  ldcT 13 266 = some (.inl 858993459) ∧
  decode (cM m_Integer_bitCount) 14 = .ok (.iand, 1) ∧
  decode (cM m_Integer_bitCount) 15 = .ok (.iload_n 0, 1) ∧
  decode (cM m_Integer_bitCount) 16 = .ok (.iconst 2, 1) ∧
  decode (cM m_Integer_bitCount) 17 = .ok (.iushr, 1) ∧
  decode (cM m_Integer_bitCount) 18 = .ok (.ldc_w 266, 3) ∧
  decode (cM m_Integer_bitCount) 21 = .ok (.iand, 1) ∧
  decode (cM m_Integer_bitCount) 22 = .ok (.iadd, 1) ∧
  decode (cM m_Integer_bitCount) 23 = .ok (.istore_n 0, 1) ∧
  decode (cM m_Integer_bitCount) 24 = .ok (.iload_n 0, 1) ∧
  decode (cM m_Integer_bitCount) 25 = .ok (.iload_n 0, 1) ∧
  decode (cM m_Integer_bitCount) 26 = .ok (.iconst 4, 1) ∧
  decode (cM m_Integer_bitCount) 27 = .ok (.iushr, 1) ∧
  decode (cM m_Integer_bitCount) 28 = .ok (.iadd, 1) ∧
  decode (cM m_Integer_bitCount) 29 = .ok (.ldc_w 267, 3) ∧
  ldcT 13 267 = some (.inl 252645135) ∧
  decode (cM m_Integer_bitCount) 32 = .ok (.iand, 1) ∧
  decode (cM m_Integer_bitCount) 33 = .ok (.istore_n 0, 1) ∧
  decode (cM m_Integer_bitCount) 34 = .ok (.iload_n 0, 1) ∧
  decode (cM m_Integer_bitCount) 35 = .ok (.iload_n 0, 1) ∧
  decode (cM m_Integer_bitCount) 36 = .ok (.bipush 8, 2) ∧
  decode (cM m_Integer_bitCount) 38 = .ok (.iushr, 1) ∧
  decode (cM m_Integer_bitCount) 39 = .ok (.iadd, 1) ∧
  decode (cM m_Integer_bitCount) 40 = .ok (.istore_n 0, 1) ∧
  decode (cM m_Integer_bitCount) 41 = .ok (.iload_n 0, 1) ∧
  decode (cM m_Integer_bitCount) 42 = .ok (.iload_n 0, 1) ∧
  decode (cM m_Integer_bitCount) 43 = .ok (.bipush 16, 2) ∧
  decode (cM m_Integer_bitCount) 45 = .ok (.iushr, 1) ∧
  decode (cM m_Integer_bitCount) 46 = .ok (.iadd, 1) ∧
  decode (cM m_Integer_bitCount) 47 = .ok (.istore_n 0, 1) ∧
  decode (cM m_Integer_bitCount) 48 = .ok (.iload_n 0, 1) ∧
  decode (cM m_Integer_bitCount) 49 = .ok (.bipush 63, 2) ∧
  decode (cM m_Integer_bitCount) 51 = .ok (.iand, 1) ∧
  decode (cM m_Integer_bitCount) 52 = .ok (.ireturn, 1) :=
  ⟨rfl, rfl, rfl, rfl, by decide +kernel, by decide +kernel, by decide +kernel, by decide +kernel, by decide +kernel, rfl, by decide +kernel, by decide +kernel, by decide +kernel, by decide +kernel, by decide +kernel, rfl, by decide +kernel, by decide +kernel, by decide +kernel, by decide +kernel, by decide +kernel, by decide +kernel, by decide +kernel, by decide +kernel, by decide +kernel, by decide +kernel, by decide +kernel, by decide +kernel, by decide +kernel, by decide +kernel, rfl, by decide +kernel, by decide +kernel, by decide +kernel, by decide +kernel, by decide +kernel, by decide +kernel, by decide +kernel, by decide +kernel, by decide +kernel, by decide +kernel, by decide +kernel, by decide +kernel, by decide +kernel, by decide +kernel, by decide +kernel, by decide +kernel, by decide +kernel, by decide +kernel⟩
