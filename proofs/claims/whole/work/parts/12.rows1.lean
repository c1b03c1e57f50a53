set_option maxRecDepth 100000 in
set_option maxHeartbeats 4000000 in
theorem C_Stock_isDated : oM m_Stock_isDated = 8 ∧
  rkM m_Stock_isDated = 2 ∧
  dM m_Stock_isDated = 1 ∧
  lM m_Stock_isDated = 2 ∧
  decode (cM m_Stock_isDated) 0 = .ok (.aload_n 0, 1) ∧
  decode (cM m_Stock_isDated) 1 = .ok (.iload_n 1, 1) ∧
  decode (cM m_Stock_isDated) 2 = .ok (.invokevirtual 54, 3) ∧
  invT 8 54 = some (m_Stock_yearOf, 0) ∧
  nM m_Stock_yearOf = 2 ∧
  oM m_Stock_yearOf = 8 ∧
  rkM m_Stock_yearOf = 1 ∧
  dM m_Stock_yearOf = 0 ∧
  decode (cM m_Stock_isDated) 5 = .ok (.iconst (-1), 1) ∧
  decode (cM m_Stock_isDated) 6 = .ok (.if_icmp .eq 7, 3) ∧
  am_okt 6 7 ∧
  am_tgt 6 7 = 13 ∧
  decode (cM m_Stock_isDated) 9 = .ok (.iconst 1, 1) ∧
  decode (cM m_Stock_isDated) 10 = .ok (.goto 4, 3) ∧
  am_okt 10 4 ∧
  am_tgt 10 4 = 14 ∧
  decode (cM m_Stock_isDated) 13 = .ok (.iconst 0, 1) ∧
  decode (cM m_Stock_isDated) 14 = .ok (.ireturn, 1) :=
  ⟨rfl, rfl, rfl, rfl, by decide +kernel, by decide +kernel, by decide +kernel, rfl, rfl, rfl, rfl, rfl, by decide +kernel, by decide +kernel, rfl, rfl, by decide +kernel, by decide +kernel, rfl, rfl, by decide +kernel, by decide +kernel⟩
set_option maxRecDepth 100000 in
set_option maxHeartbeats 4000000 in
theorem C_Stock_copyFrom : oM m_Stock_copyFrom = 8 ∧
  rkM m_Stock_copyFrom = 0 ∧
  dM m_Stock_copyFrom = 1 ∧
  lM m_Stock_copyFrom = 3 ∧
  decode (cM m_Stock_copyFrom) 0 = .ok (.iconst 0, 1) ∧
  decode (cM m_Stock_copyFrom) 1 = .ok (.istore_n 2, 1) ∧
  decode (cM m_Stock_copyFrom) 2 = .ok (.iload_n 2, 1) ∧
  decode (cM m_Stock_copyFrom) 3 = .ok (.bipush 8, 2) ∧
  decode (cM m_Stock_copyFrom) 5 = .ok (.if_icmp .ge 36, 3) ∧
  am_okt 5 36 ∧
  am_tgt 5 36 = 41 ∧
  decode (cM m_Stock_copyFrom) 8 = .ok (.aload_n 0, 1) ∧
  decode (cM m_Stock_copyFrom) 9 = .ok (.getfield 11, 3) ∧
  fldT 8 11 = some (8, 0, 2) ∧
  decode (cM m_Stock_copyFrom) 12 = .ok (.iload_n 2, 1) ∧
  decode (cM m_Stock_copyFrom) 13 = .ok (.aaload, 1) ∧
  decode (cM m_Stock_copyFrom) 14 = .ok (.aload_n 1, 1) ∧
  decode (cM m_Stock_copyFrom) 15 = .ok (.getfield 11, 3) ∧
  decode (cM m_Stock_copyFrom) 18 = .ok (.iload_n 2, 1) ∧
  decode (cM m_Stock_copyFrom) 19 = .ok (.aaload, 1) ∧
  decode (cM m_Stock_copyFrom) 20 = .ok (.invokevirtual 42, 3) ∧
  invT 8 42 = some (m_Timber_copyFrom, 0) ∧
  nM m_Timber_copyFrom = 2 ∧
  oM m_Timber_copyFrom = 9 ∧
  rkM m_Timber_copyFrom = 0 ∧
  dM m_Timber_copyFrom = 0 ∧
  decode (cM m_Stock_copyFrom) 23 = .ok (.aload_n 0, 1) ∧
  decode (cM m_Stock_copyFrom) 24 = .ok (.getfield 22, 3) ∧
  fldT 8 22 = some (8, 2, 2) ∧
  decode (cM m_Stock_copyFrom) 27 = .ok (.iload_n 2, 1) ∧
  decode (cM m_Stock_copyFrom) 28 = .ok (.aload_n 1, 1) ∧
  decode (cM m_Stock_copyFrom) 29 = .ok (.getfield 22, 3) ∧
  decode (cM m_Stock_copyFrom) 32 = .ok (.iload_n 2, 1) ∧
  decode (cM m_Stock_copyFrom) 33 = .ok (.iaload, 1) ∧
  decode (cM m_Stock_copyFrom) 34 = .ok (.iastore, 1) ∧
  decode (cM m_Stock_copyFrom) 35 = .ok (.iinc 2 1, 3) ∧
  decode (cM m_Stock_copyFrom) 38 = .ok (.goto (-36), 3) ∧
  am_okt 38 (-36) ∧
  am_tgt 38 (-36) = 2 ∧
  decode (cM m_Stock_copyFrom) 41 = .ok (.aload_n 0, 1) ∧
  decode (cM m_Stock_copyFrom) 42 = .ok (.aload_n 1, 1) ∧
  decode (cM m_Stock_copyFrom) 43 = .ok (.getfield 29, 3) ∧
  fldT 8 29 = some (8, 3, 0) ∧
  decode (cM m_Stock_copyFrom) 46 = .ok (.putfield 29, 3) ∧
  decode (cM m_Stock_copyFrom) 49 = .ok (.aload_n 0, 1) ∧
  decode (cM m_Stock_copyFrom) 50 = .ok (.aload_n 1, 1) ∧
  decode (cM m_Stock_copyFrom) 51 = .ok (.getfield 33, 3) ∧
  fldT 8 33 = some (8, 4, 0) ∧
  decode (cM m_Stock_copyFrom) 54 = .ok (.putfield 33, 3) ∧
  decode (cM m_Stock_copyFrom) 57 = .ok (.aload_n 0, 1) ∧
  decode (cM m_Stock_copyFrom) 58 = .ok (.aload_n 1, 1) ∧
  decode (cM m_Stock_copyFrom) 59 = .ok (.getfield 36, 3) ∧
  fldT 8 36 = some (8, 5, 0) ∧
  decode (cM m_Stock_copyFrom) 62 = .ok (.putfield 36, 3) ∧
  decode (cM m_Stock_copyFrom) 65 = .ok (.aload_n 0, 1) ∧
  decode (cM m_Stock_copyFrom) 66 = .ok (.aload_n 1, 1) ∧
  decode (cM m_Stock_copyFrom) 67 = .ok (.getfield 39, 3) ∧
  fldT 8 39 = some (8, 6, 0) ∧
  decode (cM m_Stock_copyFrom) 70 = .ok (.putfield 39, 3) ∧
  decode (cM m_Stock_copyFrom) 73 = .ok (.return_, 1) :=
  ⟨rfl, rfl, rfl, rfl, by decide +kernel, by decide +kernel, by decide +kernel, by decide +kernel, by decide +kernel, rfl, rfl, by decide +kernel, by decide +kernel, rfl, by decide +kernel, by decide +kernel, by decide +kernel, by decide +kernel, by decide +kernel, by decide +kernel, by decide +kernel, rfl, rfl, rfl, rfl, rfl, by decide +kernel, by decide +kernel, rfl, by decide +kernel, by decide +kernel, by decide +kernel, by decide +kernel, by decide +kernel, by decide +kernel, by decide +kernel, by decide +kernel, rfl, rfl, by decide +kernel, by decide +kernel, by decide +kernel, rfl, by decide +kernel, by decide +kernel, by decide +kernel, by decide +kernel, rfl, by decide +kernel, by decide +kernel, by decide +kernel, by decide +kernel, rfl, by decide +kernel, by decide +kernel, by decide +kernel, by decide +kernel, rfl, by decide +kernel, by decide +kernel⟩
set_option maxRecDepth 100000 in
set_option maxHeartbeats 4000000 in
theorem C_Stock_addTimber : oM m_Stock_addTimber = 8 ∧
  rkM m_Stock_addTimber = 3 ∧
  dM m_Stock_addTimber = 1 ∧
  lM m_Stock_addTimber = 3 ∧
  decode (cM m_Stock_addTimber) 0 = .ok (.aload_n 0, 1) ∧
  decode (cM m_Stock_addTimber) 1 = .ok (.getfield 29, 3) ∧
  fldT 8 29 = some (8, 3, 0) ∧
  decode (cM m_Stock_addTimber) 4 = .ok (.ifCond .lt 12, 3) ∧
  am_okt 4 12 ∧
  am_tgt 4 12 = 16 ∧
  decode (cM m_Stock_addTimber) 7 = .ok (.aload_n 0, 1) ∧
  decode (cM m_Stock_addTimber) 8 = .ok (.getfield 29, 3) ∧
  decode (cM m_Stock_addTimber) 11 = .ok (.bipush 8, 2) ∧
  decode (cM m_Stock_addTimber) 13 = .ok (.if_icmp .lt 8, 3) ∧
  am_okt 13 8 ∧
  am_tgt 13 8 = 21 ∧
  decode (cM m_Stock_addTimber) 16 = .ok (.aload_n 0, 1) ∧
  decode (cM m_Stock_addTimber) 17 = .ok (.getfield 18, 3) ∧
  fldT 8 18 = some (8, 1, 2) ∧
  decode (cM m_Stock_addTimber) 20 = .ok (.areturn, 1) ∧
  decode (cM m_Stock_addTimber) 21 = .ok (.aload_n 0, 1) ∧
  decode (cM m_Stock_addTimber) 22 = .ok (.dup, 1) ∧
  decode (cM m_Stock_addTimber) 23 = .ok (.getfield 29, 3) ∧
  decode (cM m_Stock_addTimber) 26 = .ok (.iconst 1, 1) ∧
  decode (cM m_Stock_addTimber) 27 = .ok (.iadd, 1) ∧
  decode (cM m_Stock_addTimber) 28 = .ok (.putfield 29, 3) ∧
  decode (cM m_Stock_addTimber) 31 = .ok (.aload_n 0, 1) ∧
  decode (cM m_Stock_addTimber) 32 = .ok (.getfield 11, 3) ∧
  fldT 8 11 = some (8, 0, 2) ∧
  decode (cM m_Stock_addTimber) 35 = .ok (.aload_n 0, 1) ∧
  decode (cM m_Stock_addTimber) 36 = .ok (.getfield 29, 3) ∧
  decode (cM m_Stock_addTimber) 39 = .ok (.iconst 1, 1) ∧
  decode (cM m_Stock_addTimber) 40 = .ok (.isub, 1) ∧
  decode (cM m_Stock_addTimber) 41 = .ok (.aaload, 1) ∧
  decode (cM m_Stock_addTimber) 42 = .ok (.iload_n 1, 1) ∧
  decode (cM m_Stock_addTimber) 43 = .ok (.iload_n 2, 1) ∧
  decode (cM m_Stock_addTimber) 44 = .ok (.invokevirtual 50, 3) ∧
  invT 8 50 = some (m_Timber_begin, 0) ∧
  nM m_Timber_begin = 3 ∧
  oM m_Timber_begin = 9 ∧
  rkM m_Timber_begin = 0 ∧
  dM m_Timber_begin = 0 ∧
  decode (cM m_Stock_addTimber) 47 = .ok (.aload_n 0, 1) ∧
  decode (cM m_Stock_addTimber) 48 = .ok (.getfield 11, 3) ∧
  decode (cM m_Stock_addTimber) 51 = .ok (.aload_n 0, 1) ∧
  decode (cM m_Stock_addTimber) 52 = .ok (.getfield 29, 3) ∧
  decode (cM m_Stock_addTimber) 55 = .ok (.iconst 1, 1) ∧
  decode (cM m_Stock_addTimber) 56 = .ok (.isub, 1) ∧
  decode (cM m_Stock_addTimber) 57 = .ok (.aaload, 1) ∧
  decode (cM m_Stock_addTimber) 58 = .ok (.areturn, 1) :=
  ⟨rfl, rfl, rfl, rfl, by decide +kernel, by decide +kernel, rfl, by decide +kernel, rfl, rfl, by decide +kernel, by decide +kernel, by decide +kernel, by decide +kernel, rfl, rfl, by decide +kernel, by decide +kernel, rfl, by decide +kernel, by decide +kernel, by decide +kernel, by decide +kernel, by decide +kernel, by decide +kernel, by decide +kernel, by decide +kernel, by decide +kernel, rfl, by decide +kernel, by decide +kernel, by decide +kernel, by decide +kernel, by decide +kernel, by decide +kernel, by decide +kernel, by decide +kernel, rfl, rfl, rfl, rfl, rfl, by decide +kernel, by decide +kernel, by decide +kernel, by decide +kernel, by decide +kernel, by decide +kernel, by decide +kernel, by decide +kernel⟩
set_option maxRecDepth 100000 in
set_option maxHeartbeats 4000000 in
theorem C_Stock_change : oM m_Stock_change = 8 ∧
  rkM m_Stock_change = 0 ∧
  dM m_Stock_change = 0 ∧
  lM m_Stock_change = 3 ∧
  decode (cM m_Stock_change) 0 = .ok (.iload_n 1, 1) ∧
  decode (cM m_Stock_change) 1 = .ok (.ifCond .ne 11, 3) ∧
  am_okt 1 11 ∧
  am_tgt 1 11 = 12 ∧
  decode (cM m_Stock_change) 4 = .ok (.aload_n 0, 1) ∧
  decode (cM m_Stock_change) 5 = .ok (.iload_n 2, 1) ∧
  decode (cM m_Stock_change) 6 = .ok (.putfield 33, 3) ∧
  fldT 8 33 = some (8, 4, 0) ∧
  decode (cM m_Stock_change) 9 = .ok (.goto 21, 3) ∧
  am_okt 9 21 ∧
  am_tgt 9 21 = 30 ∧
  decode (cM m_Stock_change) 12 = .ok (.iload_n 1, 1) ∧
  decode (cM m_Stock_change) 13 = .ok (.iconst 1, 1) ∧
  decode (cM m_Stock_change) 14 = .ok (.if_icmp .ne 11, 3) ∧
  am_okt 14 11 ∧
  am_tgt 14 11 = 25 ∧
  decode (cM m_Stock_change) 17 = .ok (.aload_n 0, 1) ∧
  decode (cM m_Stock_change) 18 = .ok (.iload_n 2, 1) ∧
  decode (cM m_Stock_change) 19 = .ok (.putfield 36, 3) ∧
  fldT 8 36 = some (8, 5, 0) ∧
  decode (cM m_Stock_change) 22 = .ok (.goto 8, 3) ∧
  am_okt 22 8 ∧
  am_tgt 22 8 = 30 ∧
  decode (cM m_Stock_change) 25 = .ok (.aload_n 0, 1) ∧
  decode (cM m_Stock_change) 26 = .ok (.iload_n 2, 1) ∧
  decode (cM m_Stock_change) 27 = .ok (.putfield 39, 3) ∧
  fldT 8 39 = some (8, 6, 0) ∧
  decode (cM m_Stock_change) 30 = .ok (.return_, 1) :=
  ⟨rfl, rfl, rfl, rfl, by decide +kernel, by decide +kernel, rfl, rfl, by decide +kernel, by decide +kernel, by decide +kernel, rfl, by decide +kernel, rfl, rfl, by decide +kernel, by decide +kernel, by decide +kernel, rfl, rfl, by decide +kernel, by decide +kernel, by decide +kernel, rfl, by decide +kernel, rfl, rfl, by decide +kernel, by decide +kernel, by decide +kernel, rfl, by decide +kernel⟩
set_option maxRecDepth 100000 in
set_option maxHeartbeats 4000000 in
theorem C_Stock_datedBits : oM m_Stock_datedBits = 8 ∧
  rkM m_Stock_datedBits = 1 ∧
  dM m_Stock_datedBits = 2 ∧
  lM m_Stock_datedBits = 3 ∧
  decode (cM m_Stock_datedBits) 0 = .ok (.iconst 0, 1) ∧
  decode (cM m_Stock_datedBits) 1 = .ok (.istore_n 1, 1) ∧
  decode (cM m_Stock_datedBits) 2 = .ok (.iconst 0, 1) ∧
  decode (cM m_Stock_datedBits) 3 = .ok (.istore_n 2, 1) ∧
  decode (cM m_Stock_datedBits) 4 = .ok (.iload_n 2, 1) ∧
  decode (cM m_Stock_datedBits) 5 = .ok (.aload_n 0, 1) ∧
  decode (cM m_Stock_datedBits) 6 = .ok (.getfield 29, 3) ∧
  fldT 8 29 = some (8, 3, 0) ∧
  decode (cM m_Stock_datedBits) 9 = .ok (.if_icmp .ge 27, 3) ∧
  am_okt 9 27 ∧
  am_tgt 9 27 = 36 ∧
  decode (cM m_Stock_datedBits) 12 = .ok (.iload_n 1, 1) ∧
  decode (cM m_Stock_datedBits) 13 = .ok (.aload_n 0, 1) ∧
  decode (cM m_Stock_datedBits) 14 = .ok (.iload_n 2, 1) ∧
  decode (cM m_Stock_datedBits) 15 = .ok (.invokevirtual 58, 3) ∧
  invT 8 58 = some (m_Stock_isDated, 0) ∧
  nM m_Stock_isDated = 2 ∧
  oM m_Stock_isDated = 8 ∧
  rkM m_Stock_isDated = 2 ∧
  dM m_Stock_isDated = 1 ∧
  decode (cM m_Stock_datedBits) 18 = .ok (.ifCond .eq 9, 3) ∧
  am_okt 18 9 ∧
  am_tgt 18 9 = 27 ∧
  decode (cM m_Stock_datedBits) 21 = .ok (.iconst 1, 1) ∧
  decode (cM m_Stock_datedBits) 22 = .ok (.iload_n 2, 1) ∧
  decode (cM m_Stock_datedBits) 23 = .ok (.ishl, 1) ∧
  decode (cM m_Stock_datedBits) 24 = .ok (.goto 4, 3) ∧
  am_okt 24 4 ∧
  am_tgt 24 4 = 28 ∧
  decode (cM m_Stock_datedBits) 27 = .ok (.iconst 0, 1) ∧
  decode (cM m_Stock_datedBits) 28 = .ok (.ior, 1) ∧
  decode (cM m_Stock_datedBits) 29 = .ok (.istore_n 1, 1) ∧
  decode (cM m_Stock_datedBits) 30 = .ok (.iinc 2 1, 3) ∧
  decode (cM m_Stock_datedBits) 33 = .ok (.goto (-29), 3) ∧
  am_okt 33 (-29) ∧
  am_tgt 33 (-29) = 4 ∧
  decode (cM m_Stock_datedBits) 36 = .ok (.iload_n 1, 1) ∧
  decode (cM m_Stock_datedBits) 37 = .ok (.ireturn, 1) :=
  ⟨rfl, rfl, rfl, rfl, by decide +kernel, by decide +kernel, by decide +kernel, by decide +kernel, by decide +kernel, by decide +kernel, by decide +kernel, rfl, by decide +kernel, rfl, rfl, by decide +kernel, by decide +kernel, by decide +kernel, by decide +kernel, rfl, rfl, rfl, rfl, rfl, by decide +kernel, rfl, rfl, by decide +kernel, by decide +kernel, by decide +kernel, by decide +kernel, rfl, rfl, by decide +kernel, by decide +kernel, by decide +kernel, by decide +kernel, by decide +kernel, rfl, rfl, by decide +kernel, by decide +kernel⟩
set_option maxRecDepth 100000 in
set_option maxHeartbeats 4000000 in
theorem C_Stock_felledFrom : oM m_Stock_felledFrom = 8 ∧
  rkM m_Stock_felledFrom = 1 ∧
  dM m_Stock_felledFrom = 2 ∧
  lM m_Stock_felledFrom = 3 ∧
  decode (cM m_Stock_felledFrom) 0 = .ok (.aload_n 0, 1) ∧
  decode (cM m_Stock_felledFrom) 1 = .ok (.iload_n 1, 1) ∧
  decode (cM m_Stock_felledFrom) 2 = .ok (.invokevirtual 61, 3) ∧
  invT 8 61 = some (m_Stock_timberAt, 0) ∧
  nM m_Stock_timberAt = 2 ∧
  oM m_Stock_timberAt = 8 ∧
  rkM m_Stock_timberAt = 3 ∧
  dM m_Stock_timberAt = 1 ∧
  decode (cM m_Stock_felledFrom) 5 = .ok (.astore_n 2, 1) ∧
  decode (cM m_Stock_felledFrom) 6 = .ok (.aload_n 0, 1) ∧
  decode (cM m_Stock_felledFrom) 7 = .ok (.iload_n 1, 1) ∧
  decode (cM m_Stock_felledFrom) 8 = .ok (.invokevirtual 54, 3) ∧
  invT 8 54 = some (m_Stock_yearOf, 0) ∧
  nM m_Stock_yearOf = 2 ∧
  oM m_Stock_yearOf = 8 ∧
  rkM m_Stock_yearOf = 1 ∧
  dM m_Stock_yearOf = 0 ∧
  decode (cM m_Stock_felledFrom) 11 = .ok (.aload_n 2, 1) ∧
  decode (cM m_Stock_felledFrom) 12 = .ok (.getfield 65, 3) ∧
  fldT 8 65 = some (9, 2, 0) ∧
  decode (cM m_Stock_felledFrom) 15 = .ok (.iadd, 1) ∧
  decode (cM m_Stock_felledFrom) 16 = .ok (.iconst 1, 1) ∧
  decode (cM m_Stock_felledFrom) 17 = .ok (.isub, 1) ∧
  decode (cM m_Stock_felledFrom) 18 = .ok (.aload_n 2, 1) ∧
  decode (cM m_Stock_felledFrom) 19 = .ok (.getfield 75, 3) ∧
  fldT 8 75 = some (9, 3, 0) ∧
  decode (cM m_Stock_felledFrom) 22 = .ok (.iadd, 1) ∧
  decode (cM m_Stock_felledFrom) 23 = .ok (.ireturn, 1) :=
  ⟨rfl, rfl, rfl, rfl, by decide +kernel, by decide +kernel, by decide +kernel, rfl, rfl, rfl, rfl, rfl, by decide +kernel, by decide +kernel, by decide +kernel, by decide +kernel, rfl, rfl, rfl, rfl, rfl, by decide +kernel, by decide +kernel, rfl, by decide +kernel, by decide +kernel, by decide +kernel, by decide +kernel, by decide +kernel, rfl, by decide +kernel, by decide +kernel⟩
set_option maxRecDepth 100000 in
set_option maxHeartbeats 4000000 in
theorem C_Stock_felledUntil : oM m_Stock_felledUntil = 8 ∧
  rkM m_Stock_felledUntil = 1 ∧
  dM m_Stock_felledUntil = 2 ∧
  lM m_Stock_felledUntil = 3 ∧
  decode (cM m_Stock_felledUntil) 0 = .ok (.aload_n 0, 1) ∧
  decode (cM m_Stock_felledUntil) 1 = .ok (.iload_n 1, 1) ∧
  decode (cM m_Stock_felledUntil) 2 = .ok (.invokevirtual 61, 3) ∧
  invT 8 61 = some (m_Stock_timberAt, 0) ∧
  nM m_Stock_timberAt = 2 ∧
  oM m_Stock_timberAt = 8 ∧
  rkM m_Stock_timberAt = 3 ∧
  dM m_Stock_timberAt = 1 ∧
  decode (cM m_Stock_felledUntil) 5 = .ok (.astore_n 2, 1) ∧
  decode (cM m_Stock_felledUntil) 6 = .ok (.aload_n 0, 1) ∧
  decode (cM m_Stock_felledUntil) 7 = .ok (.iload_n 1, 1) ∧
  decode (cM m_Stock_felledUntil) 8 = .ok (.invokevirtual 54, 3) ∧
  invT 8 54 = some (m_Stock_yearOf, 0) ∧
  nM m_Stock_yearOf = 2 ∧
  oM m_Stock_yearOf = 8 ∧
  rkM m_Stock_yearOf = 1 ∧
  dM m_Stock_yearOf = 0 ∧
  decode (cM m_Stock_felledUntil) 11 = .ok (.aload_n 2, 1) ∧
  decode (cM m_Stock_felledUntil) 12 = .ok (.getfield 65, 3) ∧
  fldT 8 65 = some (9, 2, 0) ∧
  decode (cM m_Stock_felledUntil) 15 = .ok (.iadd, 1) ∧
  decode (cM m_Stock_felledUntil) 16 = .ok (.iconst 1, 1) ∧
  decode (cM m_Stock_felledUntil) 17 = .ok (.isub, 1) ∧
  decode (cM m_Stock_felledUntil) 18 = .ok (.aload_n 2, 1) ∧
  decode (cM m_Stock_felledUntil) 19 = .ok (.getfield 78, 3) ∧
  fldT 8 78 = some (9, 4, 0) ∧
  decode (cM m_Stock_felledUntil) 22 = .ok (.iadd, 1) ∧
  decode (cM m_Stock_felledUntil) 23 = .ok (.ireturn, 1) :=
  ⟨rfl, rfl, rfl, rfl, by decide +kernel, by decide +kernel, by decide +kernel, rfl, rfl, rfl, rfl, rfl, by decide +kernel, by decide +kernel, by decide +kernel, by decide +kernel, rfl, rfl, rfl, rfl, rfl, by decide +kernel, by decide +kernel, rfl, by decide +kernel, by decide +kernel, by decide +kernel, by decide +kernel, by decide +kernel, rfl, by decide +kernel, by decide +kernel⟩
set_option maxRecDepth 100000 in
set_option maxHeartbeats 4000000 in
theorem C_Stock_pointerStep : oM m_Stock_pointerStep = 8 ∧
  rkM m_Stock_pointerStep = 1 ∧
  dM m_Stock_pointerStep = 3 ∧
  lM m_Stock_pointerStep = 7 ∧
  decode (cM m_Stock_pointerStep) 0 = .ok (.iconst 0, 1) ∧
  decode (cM m_Stock_pointerStep) 1 = .ok (.istore_n 2, 1) ∧
  decode (cM m_Stock_pointerStep) 2 = .ok (.iconst 0, 1) ∧
  decode (cM m_Stock_pointerStep) 3 = .ok (.istore_n 3, 1) ∧
  decode (cM m_Stock_pointerStep) 4 = .ok (.iconst 0, 1) ∧
  decode (cM m_Stock_pointerStep) 5 = .ok (.istore 4, 2) ∧
  decode (cM m_Stock_pointerStep) 7 = .ok (.iconst 0, 1) ∧
  decode (cM m_Stock_pointerStep) 8 = .ok (.istore 5, 2) ∧
  decode (cM m_Stock_pointerStep) 10 = .ok (.iload 5, 2) ∧
  decode (cM m_Stock_pointerStep) 12 = .ok (.aload_n 0, 1) ∧
  decode (cM m_Stock_pointerStep) 13 = .ok (.getfield 29, 3) ∧
  fldT 8 29 = some (8, 3, 0) ∧
  decode (cM m_Stock_pointerStep) 16 = .ok (.if_icmp .ge 81, 3) ∧
  am_okt 16 81 ∧
  am_tgt 16 81 = 97 ∧
  decode (cM m_Stock_pointerStep) 19 = .ok (.aload_n 0, 1) ∧
  decode (cM m_Stock_pointerStep) 20 = .ok (.iload 5, 2) ∧
  decode (cM m_Stock_pointerStep) 22 = .ok (.iload_n 1, 1) ∧
  decode (cM m_Stock_pointerStep) 23 = .ok (.invokevirtual 68, 3) ∧
  invT 8 68 = some (m_Stock_hasRingIn, 0) ∧
  nM m_Stock_hasRingIn = 3 ∧
  oM m_Stock_hasRingIn = 8 ∧
  rkM m_Stock_hasRingIn = 2 ∧
  dM m_Stock_hasRingIn = 2 ∧
  decode (cM m_Stock_pointerStep) 26 = .ok (.ifCond .eq 65, 3) ∧
  am_okt 26 65 ∧
  am_tgt 26 65 = 91 ∧
  decode (cM m_Stock_pointerStep) 29 = .ok (.aload_n 0, 1) ∧
  decode (cM m_Stock_pointerStep) 30 = .ok (.iload 5, 2) ∧
  decode (cM m_Stock_pointerStep) 32 = .ok (.iload_n 1, 1) ∧
  decode (cM m_Stock_pointerStep) 33 = .ok (.iconst 1, 1) ∧
  decode (cM m_Stock_pointerStep) 34 = .ok (.isub, 1) ∧
  decode (cM m_Stock_pointerStep) 35 = .ok (.invokevirtual 68, 3) ∧
  decode (cM m_Stock_pointerStep) 38 = .ok (.ifCond .eq 53, 3) ∧
  am_okt 38 53 ∧
  am_tgt 38 53 = 91 ∧
  decode (cM m_Stock_pointerStep) 41 = .ok (.aload_n 0, 1) ∧
  decode (cM m_Stock_pointerStep) 42 = .ok (.iload 5, 2) ∧
  decode (cM m_Stock_pointerStep) 44 = .ok (.invokevirtual 61, 3) ∧
  invT 8 61 = some (m_Stock_timberAt, 0) ∧
  nM m_Stock_timberAt = 2 ∧
  oM m_Stock_timberAt = 8 ∧
  rkM m_Stock_timberAt = 3 ∧
  dM m_Stock_timberAt = 1 ∧
  decode (cM m_Stock_pointerStep) 47 = .ok (.iload_n 1, 1) ∧
  decode (cM m_Stock_pointerStep) 48 = .ok (.aload_n 0, 1) ∧
  decode (cM m_Stock_pointerStep) 49 = .ok (.iload 5, 2) ∧
  decode (cM m_Stock_pointerStep) 51 = .ok (.invokevirtual 54, 3) ∧
  invT 8 54 = some (m_Stock_yearOf, 0) ∧
  nM m_Stock_yearOf = 2 ∧
  oM m_Stock_yearOf = 8 ∧
  rkM m_Stock_yearOf = 1 ∧
  dM m_Stock_yearOf = 0 ∧
  decode (cM m_Stock_pointerStep) 54 = .ok (.isub, 1) ∧
  decode (cM m_Stock_pointerStep) 55 = .ok (.invokevirtual 72, 3) ∧
  invT 8 72 = some (m_Timber_stepOf, 0) ∧
  nM m_Timber_stepOf = 2 ∧
  oM m_Timber_stepOf = 9 ∧
  rkM m_Timber_stepOf = 1 ∧
  dM m_Timber_stepOf = 1 ∧
  decode (cM m_Stock_pointerStep) 58 = .ok (.istore 6, 2) ∧
  decode (cM m_Stock_pointerStep) 60 = .ok (.iinc 2 1, 3) ∧
  decode (cM m_Stock_pointerStep) 63 = .ok (.iload_n 3, 1) ∧
  decode (cM m_Stock_pointerStep) 64 = .ok (.iload 6, 2) ∧
  decode (cM m_Stock_pointerStep) 66 = .ok (.ifCond .le 7, 3) ∧
  am_okt 66 7 ∧
  am_tgt 66 7 = 73 ∧
  decode (cM m_Stock_pointerStep) 69 = .ok (.iconst 1, 1) ∧
  decode (cM m_Stock_pointerStep) 70 = .ok (.goto 4, 3) ∧
  am_okt 70 4 ∧
  am_tgt 70 4 = 74 ∧
  decode (cM m_Stock_pointerStep) 73 = .ok (.iconst 0, 1) ∧
  decode (cM m_Stock_pointerStep) 74 = .ok (.iadd, 1) ∧
  decode (cM m_Stock_pointerStep) 75 = .ok (.istore_n 3, 1) ∧
  decode (cM m_Stock_pointerStep) 76 = .ok (.iload 4, 2) ∧
  decode (cM m_Stock_pointerStep) 78 = .ok (.iload 6, 2) ∧
  decode (cM m_Stock_pointerStep) 80 = .ok (.ifCond .ge 7, 3) ∧
  am_okt 80 7 ∧
  am_tgt 80 7 = 87 ∧
  decode (cM m_Stock_pointerStep) 83 = .ok (.iconst 1, 1) ∧
  decode (cM m_Stock_pointerStep) 84 = .ok (.goto 4, 3) ∧
  am_okt 84 4 ∧
  am_tgt 84 4 = 88 ∧
  decode (cM m_Stock_pointerStep) 87 = .ok (.iconst 0, 1) ∧
  decode (cM m_Stock_pointerStep) 88 = .ok (.iadd, 1) ∧
  decode (cM m_Stock_pointerStep) 89 = .ok (.istore 4, 2) ∧
  decode (cM m_Stock_pointerStep) 91 = .ok (.iinc 5 1, 3) ∧
  decode (cM m_Stock_pointerStep) 94 = .ok (.goto (-84), 3) ∧
  am_okt 94 (-84) ∧
  am_tgt 94 (-84) = 10 ∧
  decode (cM m_Stock_pointerStep) 97 = .ok (.iload_n 2, 1) ∧
  decode (cM m_Stock_pointerStep) 98 = .ok (.iconst 3, 1) ∧
  decode (cM m_Stock_pointerStep) 99 = .ok (.if_icmp .ge 5, 3) ∧
  am_okt 99 5 ∧
  am_tgt 99 5 = 104 ∧
  decode (cM m_Stock_pointerStep) 102 = .ok (.iconst 0, 1) ∧
  decode (cM m_Stock_pointerStep) 103 = .ok (.ireturn, 1) ∧
  decode (cM m_Stock_pointerStep) 104 = .ok (.iconst 4, 1) ∧
  decode (cM m_Stock_pointerStep) 105 = .ok (.iload_n 3, 1) ∧
  decode (cM m_Stock_pointerStep) 106 = .ok (.imul, 1) ∧
  decode (cM m_Stock_pointerStep) 107 = .ok (.iconst 3, 1) ∧
  decode (cM m_Stock_pointerStep) 108 = .ok (.iload_n 2, 1) ∧
  decode (cM m_Stock_pointerStep) 109 = .ok (.imul, 1) ∧
  decode (cM m_Stock_pointerStep) 110 = .ok (.if_icmp .lt 7, 3) ∧
  am_okt 110 7 ∧
  am_tgt 110 7 = 117 ∧
  decode (cM m_Stock_pointerStep) 113 = .ok (.iconst 1, 1) ∧
  decode (cM m_Stock_pointerStep) 114 = .ok (.goto 18, 3) ∧
  am_okt 114 18 ∧
  am_tgt 114 18 = 132 ∧
  decode (cM m_Stock_pointerStep) 117 = .ok (.iconst 4, 1) ∧
  decode (cM m_Stock_pointerStep) 118 = .ok (.iload 4, 2) ∧
  decode (cM m_Stock_pointerStep) 120 = .ok (.imul, 1) ∧
  decode (cM m_Stock_pointerStep) 121 = .ok (.iconst 3, 1) ∧
  decode (cM m_Stock_pointerStep) 122 = .ok (.iload_n 2, 1) ∧
  decode (cM m_Stock_pointerStep) 123 = .ok (.imul, 1) ∧
  decode (cM m_Stock_pointerStep) 124 = .ok (.if_icmp .lt 7, 3) ∧
  am_okt 124 7 ∧
  am_tgt 124 7 = 131 ∧
  decode (cM m_Stock_pointerStep) 127 = .ok (.iconst (-1), 1) ∧
  decode (cM m_Stock_pointerStep) 128 = .ok (.goto 4, 3) ∧
  am_okt 128 4 ∧
  am_tgt 128 4 = 132 ∧
  decode (cM m_Stock_pointerStep) 131 = .ok (.iconst 0, 1) ∧
  decode (cM m_Stock_pointerStep) 132 = .ok (.ireturn, 1) :=
  ⟨rfl, rfl, rfl, rfl, by decide +kernel, by decide +kernel, by decide +kernel, by decide +kernel, by decide +kernel, by decide +kernel, by decide +kernel, by decide +kernel, by decide +kernel, by decide +kernel, by decide +kernel, rfl, by decide +kernel, rfl, rfl, by decide +kernel, by decide +kernel, by decide +kernel, by decide +kernel, rfl, rfl, rfl, rfl, rfl, by decide +kernel, rfl, rfl, by decide +kernel, by decide +kernel, by decide +kernel, by decide +kernel, by decide +kernel, by decide +kernel, by decide +kernel, rfl, rfl, by decide +kernel, by decide +kernel, by decide +kernel, rfl, rfl, rfl, rfl, rfl, by decide +kernel, by decide +kernel, by decide +kernel, by decide +kernel, rfl, rfl, rfl, rfl, rfl, by decide +kernel, by decide +kernel, rfl, rfl, rfl, rfl, rfl, by decide +kernel, by decide +kernel, by decide +kernel, by decide +kernel, by decide +kernel, rfl, rfl, by decide +kernel, by decide +kernel, rfl, rfl, by decide +kernel, by decide +kernel, by decide +kernel, by decide +kernel, by decide +kernel, by decide +kernel, rfl, rfl, by decide +kernel, by decide +kernel, rfl, rfl, by decide +kernel, by decide +kernel, by decide +kernel, by decide +kernel, by decide +kernel, rfl, rfl, by decide +kernel, by decide +kernel, by decide +kernel, rfl, rfl, by decide +kernel, by decide +kernel, by decide +kernel, by decide +kernel, by decide +kernel, by decide +kernel, by decide +kernel, by decide +kernel, by decide +kernel, rfl, rfl, by decide +kernel, by decide +kernel, rfl, rfl, by decide +kernel, by decide +kernel, by decide +kernel, by decide +kernel, by decide +kernel, by decide +kernel, by decide +kernel, rfl, rfl, by decide +kernel, by decide +kernel, rfl, rfl, by decide +kernel, by decide +kernel⟩
set_option maxRecDepth 100000 in
set_option maxHeartbeats 4000000 in
theorem C_Stock_bitsOfHouse : oM m_Stock_bitsOfHouse = 8 ∧
  rkM m_Stock_bitsOfHouse = 1 ∧
  dM m_Stock_bitsOfHouse = 2 ∧
  lM m_Stock_bitsOfHouse = 4 ∧
  decode (cM m_Stock_bitsOfHouse) 0 = .ok (.iconst 0, 1) ∧
  decode (cM m_Stock_bitsOfHouse) 1 = .ok (.istore_n 2, 1) ∧
  decode (cM m_Stock_bitsOfHouse) 2 = .ok (.iconst 0, 1) ∧
  decode (cM m_Stock_bitsOfHouse) 3 = .ok (.istore_n 3, 1) ∧
  decode (cM m_Stock_bitsOfHouse) 4 = .ok (.iload_n 3, 1) ∧
  decode (cM m_Stock_bitsOfHouse) 5 = .ok (.aload_n 0, 1) ∧
  decode (cM m_Stock_bitsOfHouse) 6 = .ok (.getfield 29, 3) ∧
  fldT 8 29 = some (8, 3, 0) ∧
  decode (cM m_Stock_bitsOfHouse) 9 = .ok (.if_icmp .ge 31, 3) ∧
  am_okt 9 31 ∧
  am_tgt 9 31 = 40 ∧
  decode (cM m_Stock_bitsOfHouse) 12 = .ok (.iload_n 2, 1) ∧
  decode (cM m_Stock_bitsOfHouse) 13 = .ok (.aload_n 0, 1) ∧
  decode (cM m_Stock_bitsOfHouse) 14 = .ok (.iload_n 3, 1) ∧
  decode (cM m_Stock_bitsOfHouse) 15 = .ok (.invokevirtual 61, 3) ∧
  invT 8 61 = some (m_Stock_timberAt, 0) ∧
  nM m_Stock_timberAt = 2 ∧
  oM m_Stock_timberAt = 8 ∧
  rkM m_Stock_timberAt = 3 ∧
  dM m_Stock_timberAt = 1 ∧
  decode (cM m_Stock_bitsOfHouse) 18 = .ok (.getfield 81, 3) ∧
  fldT 8 81 = some (9, 5, 0) ∧
  decode (cM m_Stock_bitsOfHouse) 21 = .ok (.iload_n 1, 1) ∧
  decode (cM m_Stock_bitsOfHouse) 22 = .ok (.if_icmp .ne 9, 3) ∧
  am_okt 22 9 ∧
  am_tgt 22 9 = 31 ∧
  decode (cM m_Stock_bitsOfHouse) 25 = .ok (.iconst 1, 1) ∧
  decode (cM m_Stock_bitsOfHouse) 26 = .ok (.iload_n 3, 1) ∧
  decode (cM m_Stock_bitsOfHouse) 27 = .ok (.ishl, 1) ∧
  decode (cM m_Stock_bitsOfHouse) 28 = .ok (.goto 4, 3) ∧
  am_okt 28 4 ∧
  am_tgt 28 4 = 32 ∧
  decode (cM m_Stock_bitsOfHouse) 31 = .ok (.iconst 0, 1) ∧
  decode (cM m_Stock_bitsOfHouse) 32 = .ok (.ior, 1) ∧
  decode (cM m_Stock_bitsOfHouse) 33 = .ok (.istore_n 2, 1) ∧
  decode (cM m_Stock_bitsOfHouse) 34 = .ok (.iinc 3 1, 3) ∧
  decode (cM m_Stock_bitsOfHouse) 37 = .ok (.goto (-33), 3) ∧
  am_okt 37 (-33) ∧
  am_tgt 37 (-33) = 4 ∧
  decode (cM m_Stock_bitsOfHouse) 40 = .ok (.iload_n 2, 1) ∧
  decode (cM m_Stock_bitsOfHouse) 41 = .ok (.ireturn, 1) :=
  ⟨rfl, rfl, rfl, rfl, by decide +kernel, by decide +kernel, by decide +kernel, by decide +kernel, by decide +kernel, by decide +kernel, by decide +kernel, rfl, by decide +kernel, rfl, rfl, by decide +kernel, by decide +kernel, by decide +kernel, by decide +kernel, rfl, rfl, rfl, rfl, rfl, by decide +kernel, rfl, by decide +kernel, by decide +kernel, rfl, rfl, by decide +kernel, by decide +kernel, by decide +kernel, by decide +kernel, rfl, rfl, by decide +kernel, by decide +kernel, by decide +kernel, by decide +kernel, by decide +kernel, rfl, rfl, by decide +kernel, by decide +kernel⟩
set_option maxRecDepth 100000 in
set_option maxHeartbeats 4000000 in
theorem C_Stock_edgeOfHouse : oM m_Stock_edgeOfHouse = 8 ∧
  rkM m_Stock_edgeOfHouse = 1 ∧
  dM m_Stock_edgeOfHouse = 3 ∧
  lM m_Stock_edgeOfHouse = 4 ∧
  decode (cM m_Stock_edgeOfHouse) 0 = .ok (.iconst (-1), 1) ∧
  decode (cM m_Stock_edgeOfHouse) 1 = .ok (.istore_n 2, 1) ∧
  decode (cM m_Stock_edgeOfHouse) 2 = .ok (.iconst 0, 1) ∧
  decode (cM m_Stock_edgeOfHouse) 3 = .ok (.istore_n 3, 1) ∧
  decode (cM m_Stock_edgeOfHouse) 4 = .ok (.iload_n 3, 1) ∧
  decode (cM m_Stock_edgeOfHouse) 5 = .ok (.aload_n 0, 1) ∧
  decode (cM m_Stock_edgeOfHouse) 6 = .ok (.getfield 29, 3) ∧
  fldT 8 29 = some (8, 3, 0) ∧
  decode (cM m_Stock_edgeOfHouse) 9 = .ok (.if_icmp .ge 28, 3) ∧
  am_okt 9 28 ∧
  am_tgt 9 28 = 37 ∧
  decode (cM m_Stock_edgeOfHouse) 12 = .ok (.aload_n 0, 1) ∧
  decode (cM m_Stock_edgeOfHouse) 13 = .ok (.iload_n 3, 1) ∧
  decode (cM m_Stock_edgeOfHouse) 14 = .ok (.iload_n 1, 1) ∧
  decode (cM m_Stock_edgeOfHouse) 15 = .ok (.invokevirtual 84, 3) ∧
  invT 8 84 = some (m_Stock_isDatedIn, 0) ∧
  nM m_Stock_isDatedIn = 3 ∧
  oM m_Stock_isDatedIn = 8 ∧
  rkM m_Stock_isDatedIn = 2 ∧
  dM m_Stock_isDatedIn = 2 ∧
  decode (cM m_Stock_edgeOfHouse) 18 = .ok (.ifCond .eq 13, 3) ∧
  am_okt 18 13 ∧
  am_tgt 18 13 = 31 ∧
  decode (cM m_Stock_edgeOfHouse) 21 = .ok (.iload_n 2, 1) ∧
  decode (cM m_Stock_edgeOfHouse) 22 = .ok (.aload_n 0, 1) ∧
  decode (cM m_Stock_edgeOfHouse) 23 = .ok (.iload_n 3, 1) ∧
  decode (cM m_Stock_edgeOfHouse) 24 = .ok (.invokevirtual 87, 3) ∧
  invT 8 87 = some (m_Stock_felledFrom, 0) ∧
  nM m_Stock_felledFrom = 2 ∧
  oM m_Stock_felledFrom = 8 ∧
  rkM m_Stock_felledFrom = 1 ∧
  dM m_Stock_felledFrom = 2 ∧
  decode (cM m_Stock_edgeOfHouse) 27 = .ok (.invokestatic 90, 3) ∧
  invT 8 90 = some (0, 3) ∧
  decode (cM m_Stock_edgeOfHouse) 30 = .ok (.istore_n 2, 1) ∧
  decode (cM m_Stock_edgeOfHouse) 31 = .ok (.iinc 3 1, 3) ∧
  decode (cM m_Stock_edgeOfHouse) 34 = .ok (.goto (-30), 3) ∧
  am_okt 34 (-30) ∧
  am_tgt 34 (-30) = 4 ∧
  decode (cM m_Stock_edgeOfHouse) 37 = .ok (.iload_n 2, 1) ∧
  decode (cM m_Stock_edgeOfHouse) 38 = .ok (.ireturn, 1) :=
  ⟨rfl, rfl, rfl, rfl, by decide +kernel, by decide +kernel, by decide +kernel, by decide +kernel, by decide +kernel, by decide +kernel, by decide +kernel, rfl, by decide +kernel, rfl, rfl, by decide +kernel, by decide +kernel, by decide +kernel, by decide +kernel, rfl, rfl, rfl, rfl, rfl, by decide +kernel, rfl, rfl, by decide +kernel, by decide +kernel, by decide +kernel, by decide +kernel, rfl, rfl, rfl, rfl, rfl, by decide +kernel, rfl, by decide +kernel, by decide +kernel, by decide +kernel, rfl, rfl, by decide +kernel, by decide +kernel⟩
set_option maxRecDepth 100000 in
set_option maxHeartbeats 4000000 in
theorem C_Stock_isDatedIn : oM m_Stock_isDatedIn = 8 ∧
  rkM m_Stock_isDatedIn = 2 ∧
  dM m_Stock_isDatedIn = 2 ∧
  lM m_Stock_isDatedIn = 3 ∧
  decode (cM m_Stock_isDatedIn) 0 = .ok (.aload_n 0, 1) ∧
  decode (cM m_Stock_isDatedIn) 1 = .ok (.iload_n 1, 1) ∧
  decode (cM m_Stock_isDatedIn) 2 = .ok (.invokevirtual 58, 3) ∧
  invT 8 58 = some (m_Stock_isDated, 0) ∧
  nM m_Stock_isDated = 2 ∧
  oM m_Stock_isDated = 8 ∧
  rkM m_Stock_isDated = 2 ∧
  dM m_Stock_isDated = 1 ∧
  decode (cM m_Stock_isDatedIn) 5 = .ok (.ifCond .eq 19, 3) ∧
  am_okt 5 19 ∧
  am_tgt 5 19 = 24 ∧
  decode (cM m_Stock_isDatedIn) 8 = .ok (.aload_n 0, 1) ∧
  decode (cM m_Stock_isDatedIn) 9 = .ok (.iload_n 1, 1) ∧
  decode (cM m_Stock_isDatedIn) 10 = .ok (.invokevirtual 61, 3) ∧
  invT 8 61 = some (m_Stock_timberAt, 0) ∧
  nM m_Stock_timberAt = 2 ∧
  oM m_Stock_timberAt = 8 ∧
  rkM m_Stock_timberAt = 3 ∧
  dM m_Stock_timberAt = 1 ∧
  decode (cM m_Stock_isDatedIn) 13 = .ok (.getfield 81, 3) ∧
  fldT 8 81 = some (9, 5, 0) ∧
  decode (cM m_Stock_isDatedIn) 16 = .ok (.iload_n 2, 1) ∧
  decode (cM m_Stock_isDatedIn) 17 = .ok (.if_icmp .ne 7, 3) ∧
  am_okt 17 7 ∧
  am_tgt 17 7 = 24 ∧
  decode (cM m_Stock_isDatedIn) 20 = .ok (.iconst 1, 1) ∧
  decode (cM m_Stock_isDatedIn) 21 = .ok (.goto 4, 3) ∧
  am_okt 21 4 ∧
  am_tgt 21 4 = 25 ∧
  decode (cM m_Stock_isDatedIn) 24 = .ok (.iconst 0, 1) ∧
  decode (cM m_Stock_isDatedIn) 25 = .ok (.ireturn, 1) :=
  ⟨rfl, rfl, rfl, rfl, by decide +kernel, by decide +kernel, by decide +kernel, rfl, rfl, rfl, rfl, rfl, by decide +kernel, rfl, rfl, by decide +kernel, by decide +kernel, by decide +kernel, rfl, rfl, rfl, rfl, rfl, by decide +kernel, rfl, by decide +kernel, by decide +kernel, rfl, rfl, by decide +kernel, by decide +kernel, rfl, rfl, by decide +kernel, by decide +kernel⟩
set_option maxRecDepth 100000 in
set_option maxHeartbeats 4000000 in
theorem C_Stock_latestOfHouse : oM m_Stock_latestOfHouse = 8 ∧
  rkM m_Stock_latestOfHouse = 1 ∧
  dM m_Stock_latestOfHouse = 5 ∧
  lM m_Stock_latestOfHouse = 6 ∧
  decode (cM m_Stock_latestOfHouse) 0 = .ok (.aload_n 0, 1) ∧
  decode (cM m_Stock_latestOfHouse) 1 = .ok (.iload_n 1, 1) ∧
  decode (cM m_Stock_latestOfHouse) 2 = .ok (.invokevirtual 102, 3) ∧
  invT 8 102 = some (m_Stock_reusedOfHouse, 0) ∧
  nM m_Stock_reusedOfHouse = 2 ∧
  oM m_Stock_reusedOfHouse = 8 ∧
  rkM m_Stock_reusedOfHouse = 1 ∧
  dM m_Stock_reusedOfHouse = 4 ∧
  decode (cM m_Stock_latestOfHouse) 5 = .ok (.istore_n 2, 1) ∧
  decode (cM m_Stock_latestOfHouse) 6 = .ok (.iconst (-1), 1) ∧
  decode (cM m_Stock_latestOfHouse) 7 = .ok (.istore_n 3, 1) ∧
  decode (cM m_Stock_latestOfHouse) 8 = .ok (.iconst 0, 1) ∧
  decode (cM m_Stock_latestOfHouse) 9 = .ok (.istore 4, 2) ∧
  decode (cM m_Stock_latestOfHouse) 11 = .ok (.iload 4, 2) ∧
  decode (cM m_Stock_latestOfHouse) 13 = .ok (.aload_n 0, 1) ∧
  decode (cM m_Stock_latestOfHouse) 14 = .ok (.getfield 29, 3) ∧
  fldT 8 29 = some (8, 3, 0) ∧
  decode (cM m_Stock_latestOfHouse) 17 = .ok (.if_icmp .ge 62, 3) ∧
  am_okt 17 62 ∧
  am_tgt 17 62 = 79 ∧
  decode (cM m_Stock_latestOfHouse) 20 = .ok (.aload_n 0, 1) ∧
  decode (cM m_Stock_latestOfHouse) 21 = .ok (.iload 4, 2) ∧
  decode (cM m_Stock_latestOfHouse) 23 = .ok (.iload_n 1, 1) ∧
  decode (cM m_Stock_latestOfHouse) 24 = .ok (.invokevirtual 84, 3) ∧
  invT 8 84 = some (m_Stock_isDatedIn, 0) ∧
  nM m_Stock_isDatedIn = 3 ∧
  oM m_Stock_isDatedIn = 8 ∧
  rkM m_Stock_isDatedIn = 2 ∧
  dM m_Stock_isDatedIn = 2 ∧
  decode (cM m_Stock_latestOfHouse) 27 = .ok (.ifCond .eq 16, 3) ∧
  am_okt 27 16 ∧
  am_tgt 27 16 = 43 ∧
  decode (cM m_Stock_latestOfHouse) 30 = .ok (.iload_n 2, 1) ∧
  decode (cM m_Stock_latestOfHouse) 31 = .ok (.iload 4, 2) ∧
  decode (cM m_Stock_latestOfHouse) 33 = .ok (.ishr, 1) ∧
  decode (cM m_Stock_latestOfHouse) 34 = .ok (.iconst 1, 1) ∧
  decode (cM m_Stock_latestOfHouse) 35 = .ok (.iand, 1) ∧
  decode (cM m_Stock_latestOfHouse) 36 = .ok (.ifCond .ne 7, 3) ∧
  am_okt 36 7 ∧
  am_tgt 36 7 = 43 ∧
  decode (cM m_Stock_latestOfHouse) 39 = .ok (.iconst 1, 1) ∧
  decode (cM m_Stock_latestOfHouse) 40 = .ok (.goto 4, 3) ∧
  am_okt 40 4 ∧
  am_tgt 40 4 = 44 ∧
  decode (cM m_Stock_latestOfHouse) 43 = .ok (.iconst 0, 1) ∧
  decode (cM m_Stock_latestOfHouse) 44 = .ok (.istore 5, 2) ∧
  decode (cM m_Stock_latestOfHouse) 46 = .ok (.iload 5, 2) ∧
  decode (cM m_Stock_latestOfHouse) 48 = .ok (.ifCond .eq 25, 3) ∧
  am_okt 48 25 ∧
  am_tgt 48 25 = 73 ∧
  decode (cM m_Stock_latestOfHouse) 51 = .ok (.iload_n 3, 1) ∧
  decode (cM m_Stock_latestOfHouse) 52 = .ok (.iconst (-1), 1) ∧
  decode (cM m_Stock_latestOfHouse) 53 = .ok (.if_icmp .eq 13, 3) ∧
  am_okt 53 13 ∧
  am_tgt 53 13 = 66 ∧
  decode (cM m_Stock_latestOfHouse) 56 = .ok (.aload_n 0, 1) ∧
  decode (cM m_Stock_latestOfHouse) 57 = .ok (.iload 4, 2) ∧
  decode (cM m_Stock_latestOfHouse) 59 = .ok (.invokevirtual 99, 3) ∧
  invT 8 99 = some (m_Stock_felledUntil, 0) ∧
  nM m_Stock_felledUntil = 2 ∧
  oM m_Stock_felledUntil = 8 ∧
  rkM m_Stock_felledUntil = 1 ∧
  dM m_Stock_felledUntil = 2 ∧
  decode (cM m_Stock_latestOfHouse) 62 = .ok (.iload_n 3, 1) ∧
  decode (cM m_Stock_latestOfHouse) 63 = .ok (.if_icmp .ge 10, 3) ∧
  am_okt 63 10 ∧
  am_tgt 63 10 = 73 ∧
  decode (cM m_Stock_latestOfHouse) 66 = .ok (.aload_n 0, 1) ∧
  decode (cM m_Stock_latestOfHouse) 67 = .ok (.iload 4, 2) ∧
  decode (cM m_Stock_latestOfHouse) 69 = .ok (.invokevirtual 99, 3) ∧
  decode (cM m_Stock_latestOfHouse) 72 = .ok (.istore_n 3, 1) ∧
  decode (cM m_Stock_latestOfHouse) 73 = .ok (.iinc 4 1, 3) ∧
  decode (cM m_Stock_latestOfHouse) 76 = .ok (.goto (-65), 3) ∧
  am_okt 76 (-65) ∧
  am_tgt 76 (-65) = 11 ∧
  decode (cM m_Stock_latestOfHouse) 79 = .ok (.iload_n 3, 1) ∧
  decode (cM m_Stock_latestOfHouse) 80 = .ok (.ireturn, 1) :=
  ⟨rfl, rfl, rfl, rfl, by decide +kernel, by decide +kernel, by decide +kernel, rfl, rfl, rfl, rfl, rfl, by decide +kernel, by decide +kernel, by decide +kernel, by decide +kernel, by decide +kernel, by decide +kernel, by decide +kernel, by decide +kernel, rfl, by decide +kernel, rfl, rfl, by decide +kernel, by decide +kernel, by decide +kernel, by decide +kernel, rfl, rfl, rfl, rfl, rfl, by decide +kernel, rfl, rfl, by decide +kernel, by decide +kernel, by decide +kernel, by decide +kernel, by decide +kernel, by decide +kernel, rfl, rfl, by decide +kernel, by decide +kernel, rfl, rfl, by decide +kernel, by decide +kernel, by decide +kernel, by decide +kernel, rfl, rfl, by decide +kernel, by decide +kernel, by decide +kernel, rfl, rfl, by decide +kernel, by decide +kernel, by decide +kernel, rfl, rfl, rfl, rfl, rfl, by decide +kernel, by decide +kernel, rfl, rfl, by decide +kernel, by decide +kernel, by decide +kernel, by decide +kernel, by decide +kernel, by decide +kernel, rfl, rfl, by decide +kernel, by decide +kernel⟩
set_option maxRecDepth 100000 in
set_option maxHeartbeats 4000000 in
theorem C_Stock_reusedOfHouse : oM m_Stock_reusedOfHouse = 8 ∧
  rkM m_Stock_reusedOfHouse = 1 ∧
  dM m_Stock_reusedOfHouse = 4 ∧
  lM m_Stock_reusedOfHouse = 5 ∧
  decode (cM m_Stock_reusedOfHouse) 0 = .ok (.aload_n 0, 1) ∧
  decode (cM m_Stock_reusedOfHouse) 1 = .ok (.iload_n 1, 1) ∧
  decode (cM m_Stock_reusedOfHouse) 2 = .ok (.invokevirtual 96, 3) ∧
  invT 8 96 = some (m_Stock_edgeOfHouse, 0) ∧
  nM m_Stock_edgeOfHouse = 2 ∧
  oM m_Stock_edgeOfHouse = 8 ∧
  rkM m_Stock_edgeOfHouse = 1 ∧
  dM m_Stock_edgeOfHouse = 3 ∧
  decode (cM m_Stock_reusedOfHouse) 5 = .ok (.istore_n 2, 1) ∧
  decode (cM m_Stock_reusedOfHouse) 6 = .ok (.iconst 0, 1) ∧
  decode (cM m_Stock_reusedOfHouse) 7 = .ok (.istore_n 3, 1) ∧
  decode (cM m_Stock_reusedOfHouse) 8 = .ok (.iconst 0, 1) ∧
  decode (cM m_Stock_reusedOfHouse) 9 = .ok (.istore 4, 2) ∧
  decode (cM m_Stock_reusedOfHouse) 11 = .ok (.iload 4, 2) ∧
  decode (cM m_Stock_reusedOfHouse) 13 = .ok (.aload_n 0, 1) ∧
  decode (cM m_Stock_reusedOfHouse) 14 = .ok (.getfield 29, 3) ∧
  fldT 8 29 = some (8, 3, 0) ∧
  decode (cM m_Stock_reusedOfHouse) 17 = .ok (.if_icmp .ge 40, 3) ∧
  am_okt 17 40 ∧
  am_tgt 17 40 = 57 ∧
  decode (cM m_Stock_reusedOfHouse) 20 = .ok (.iload_n 3, 1) ∧
  decode (cM m_Stock_reusedOfHouse) 21 = .ok (.aload_n 0, 1) ∧
  decode (cM m_Stock_reusedOfHouse) 22 = .ok (.iload 4, 2) ∧
  decode (cM m_Stock_reusedOfHouse) 24 = .ok (.iload_n 1, 1) ∧
  decode (cM m_Stock_reusedOfHouse) 25 = .ok (.invokevirtual 84, 3) ∧
  invT 8 84 = some (m_Stock_isDatedIn, 0) ∧
  nM m_Stock_isDatedIn = 3 ∧
  oM m_Stock_isDatedIn = 8 ∧
  rkM m_Stock_isDatedIn = 2 ∧
  dM m_Stock_isDatedIn = 2 ∧
  decode (cM m_Stock_reusedOfHouse) 28 = .ok (.ifCond .eq 20, 3) ∧
  am_okt 28 20 ∧
  am_tgt 28 20 = 48 ∧
  decode (cM m_Stock_reusedOfHouse) 31 = .ok (.aload_n 0, 1) ∧
  decode (cM m_Stock_reusedOfHouse) 32 = .ok (.iload 4, 2) ∧
  decode (cM m_Stock_reusedOfHouse) 34 = .ok (.invokevirtual 99, 3) ∧
  invT 8 99 = some (m_Stock_felledUntil, 0) ∧
  nM m_Stock_felledUntil = 2 ∧
  oM m_Stock_felledUntil = 8 ∧
  rkM m_Stock_felledUntil = 1 ∧
  dM m_Stock_felledUntil = 2 ∧
  decode (cM m_Stock_reusedOfHouse) 37 = .ok (.iload_n 2, 1) ∧
  decode (cM m_Stock_reusedOfHouse) 38 = .ok (.if_icmp .ge 10, 3) ∧
  am_okt 38 10 ∧
  am_tgt 38 10 = 48 ∧
  decode (cM m_Stock_reusedOfHouse) 41 = .ok (.iconst 1, 1) ∧
  decode (cM m_Stock_reusedOfHouse) 42 = .ok (.iload 4, 2) ∧
  decode (cM m_Stock_reusedOfHouse) 44 = .ok (.ishl, 1) ∧
  decode (cM m_Stock_reusedOfHouse) 45 = .ok (.goto 4, 3) ∧
  am_okt 45 4 ∧
  am_tgt 45 4 = 49 ∧
  decode (cM m_Stock_reusedOfHouse) 48 = .ok (.iconst 0, 1) ∧
  decode (cM m_Stock_reusedOfHouse) 49 = .ok (.ior, 1) ∧
  decode (cM m_Stock_reusedOfHouse) 50 = .ok (.istore_n 3, 1) ∧
  decode (cM m_Stock_reusedOfHouse) 51 = .ok (.iinc 4 1, 3) ∧
  decode (cM m_Stock_reusedOfHouse) 54 = .ok (.goto (-43), 3) ∧
  am_okt 54 (-43) ∧
  am_tgt 54 (-43) = 11 ∧
  decode (cM m_Stock_reusedOfHouse) 57 = .ok (.iload_n 3, 1) ∧
  decode (cM m_Stock_reusedOfHouse) 58 = .ok (.ireturn, 1) :=
  ⟨rfl, rfl, rfl, rfl, by decide +kernel, by decide +kernel, by decide +kernel, rfl, rfl, rfl, rfl, rfl, by decide +kernel, by decide +kernel, by decide +kernel, by decide +kernel, by decide +kernel, by decide +kernel, by decide +kernel, by decide +kernel, rfl, by decide +kernel, rfl, rfl, by decide +kernel, by decide +kernel, by decide +kernel, by decide +kernel, by decide +kernel, rfl, rfl, rfl, rfl, rfl, by decide +kernel, rfl, rfl, by decide +kernel, by decide +kernel, by decide +kernel, rfl, rfl, rfl, rfl, rfl, by decide +kernel, by decide +kernel, rfl, rfl, by decide +kernel, by decide +kernel, by decide +kernel, by decide +kernel, rfl, rfl, by decide +kernel, by decide +kernel, by decide +kernel, by decide +kernel, by decide +kernel, rfl, rfl, by decide +kernel, by decide +kernel⟩
set_option maxRecDepth 100000 in
set_option maxHeartbeats 4000000 in
theorem C_Timber_allWidths : oM m_Timber_allWidths = 9 ∧
  rkM m_Timber_allWidths = 1 ∧
  dM m_Timber_allWidths = 1 ∧
  lM m_Timber_allWidths = 3 ∧
  decode (cM m_Timber_allWidths) 0 = .ok (.iconst 0, 1) ∧
  decode (cM m_Timber_allWidths) 1 = .ok (.istore_n 1, 1) ∧
  decode (cM m_Timber_allWidths) 2 = .ok (.iconst 0, 1) ∧
  decode (cM m_Timber_allWidths) 3 = .ok (.istore_n 2, 1) ∧
  decode (cM m_Timber_allWidths) 4 = .ok (.iload_n 2, 1) ∧
  decode (cM m_Timber_allWidths) 5 = .ok (.aload_n 0, 1) ∧
  decode (cM m_Timber_allWidths) 6 = .ok (.getfield 19, 3) ∧
  fldT 9 19 = some (9, 2, 0) ∧
  decode (cM m_Timber_allWidths) 9 = .ok (.if_icmp .ge 17, 3) ∧
  am_okt 9 17 ∧
  am_tgt 9 17 = 26 ∧
  decode (cM m_Timber_allWidths) 12 = .ok (.iload_n 1, 1) ∧
  decode (cM m_Timber_allWidths) 13 = .ok (.aload_n 0, 1) ∧
  decode (cM m_Timber_allWidths) 14 = .ok (.iload_n 2, 1) ∧
  decode (cM m_Timber_allWidths) 15 = .ok (.invokevirtual 32, 3) ∧
  invT 9 32 = some (m_Timber_widthOf, 0) ∧
  nM m_Timber_widthOf = 2 ∧
  oM m_Timber_widthOf = 9 ∧
  rkM m_Timber_widthOf = 1 ∧
  dM m_Timber_widthOf = 0 ∧
  decode (cM m_Timber_allWidths) 18 = .ok (.iadd, 1) ∧
  decode (cM m_Timber_allWidths) 19 = .ok (.istore_n 1, 1) ∧
  decode (cM m_Timber_allWidths) 20 = .ok (.iinc 2 1, 3) ∧
  decode (cM m_Timber_allWidths) 23 = .ok (.goto (-19), 3) ∧
  am_okt 23 (-19) ∧
  am_tgt 23 (-19) = 4 ∧
  decode (cM m_Timber_allWidths) 26 = .ok (.iload_n 1, 1) ∧
  decode (cM m_Timber_allWidths) 27 = .ok (.ireturn, 1) :=
  ⟨rfl, rfl, rfl, rfl, by decide +kernel, by decide +kernel, by decide +kernel, by decide +kernel, by decide +kernel, by decide +kernel, by decide +kernel, rfl, by decide +kernel, rfl, rfl, by decide +kernel, by decide +kernel, by decide +kernel, by decide +kernel, rfl, rfl, rfl, rfl, rfl, by decide +kernel, by decide +kernel, by decide +kernel, by decide +kernel, rfl, rfl, by decide +kernel, by decide +kernel⟩
set_option maxRecDepth 100000 in
set_option maxHeartbeats 4000000 in
theorem C_Timber_widthOf : oM m_Timber_widthOf = 9 ∧
  rkM m_Timber_widthOf = 1 ∧
  dM m_Timber_widthOf = 0 ∧
  lM m_Timber_widthOf = 2 ∧
  decode (cM m_Timber_widthOf) 0 = .ok (.iload_n 1, 1) ∧
  decode (cM m_Timber_widthOf) 1 = .ok (.ifCond .lt 26, 3) ∧
  am_okt 1 26 ∧
  am_tgt 1 26 = 27 ∧
  decode (cM m_Timber_widthOf) 4 = .ok (.iload_n 1, 1) ∧
  decode (cM m_Timber_widthOf) 5 = .ok (.aload_n 0, 1) ∧
  decode (cM m_Timber_widthOf) 6 = .ok (.getfield 19, 3) ∧
  fldT 9 19 = some (9, 2, 0) ∧
  decode (cM m_Timber_widthOf) 9 = .ok (.if_icmp .ge 18, 3) ∧
  am_okt 9 18 ∧
  am_tgt 9 18 = 27 ∧
  decode (cM m_Timber_widthOf) 12 = .ok (.iload_n 1, 1) ∧
  decode (cM m_Timber_widthOf) 13 = .ok (.bipush 24, 2) ∧
  decode (cM m_Timber_widthOf) 15 = .ok (.if_icmp .ge 12, 3) ∧
  am_okt 15 12 ∧
  am_tgt 15 12 = 27 ∧
  decode (cM m_Timber_widthOf) 18 = .ok (.aload_n 0, 1) ∧
  decode (cM m_Timber_widthOf) 19 = .ok (.getfield 9, 3) ∧
  fldT 9 9 = some (9, 0, 2) ∧
  decode (cM m_Timber_widthOf) 22 = .ok (.iload_n 1, 1) ∧
  decode (cM m_Timber_widthOf) 23 = .ok (.iaload, 1) ∧
  decode (cM m_Timber_widthOf) 24 = .ok (.goto 4, 3) ∧
  am_okt 24 4 ∧
  am_tgt 24 4 = 28 ∧
  decode (cM m_Timber_widthOf) 27 = .ok (.iconst 0, 1) ∧
  decode (cM m_Timber_widthOf) 28 = .ok (.ireturn, 1) :=
  ⟨rfl, rfl, rfl, rfl, by decide +kernel, by decide +kernel, rfl, rfl, by decide +kernel, by decide +kernel, by decide +kernel, rfl, by decide +kernel, rfl, rfl, by decide +kernel, by decide +kernel, by decide +kernel, rfl, rfl, by decide +kernel, by decide +kernel, rfl, by decide +kernel, by decide +kernel, by decide +kernel, rfl, rfl, by decide +kernel, by decide +kernel⟩
set_option maxRecDepth 100000 in
set_option maxHeartbeats 4000000 in
theorem C_Timber_isDoubtful : oM m_Timber_isDoubtful = 9 ∧
  rkM m_Timber_isDoubtful = 2 ∧
  dM m_Timber_isDoubtful = 0 ∧
  lM m_Timber_isDoubtful = 2 ∧
  decode (cM m_Timber_isDoubtful) 0 = .ok (.iload_n 1, 1) ∧
  decode (cM m_Timber_isDoubtful) 1 = .ok (.ifCond .lt 30, 3) ∧
  am_okt 1 30 ∧
  am_tgt 1 30 = 31 ∧
  decode (cM m_Timber_isDoubtful) 4 = .ok (.iload_n 1, 1) ∧
  decode (cM m_Timber_isDoubtful) 5 = .ok (.aload_n 0, 1) ∧
  decode (cM m_Timber_isDoubtful) 6 = .ok (.getfield 19, 3) ∧
  fldT 9 19 = some (9, 2, 0) ∧
  decode (cM m_Timber_isDoubtful) 9 = .ok (.if_icmp .ge 22, 3) ∧
  am_okt 9 22 ∧
  am_tgt 9 22 = 31 ∧
  decode (cM m_Timber_isDoubtful) 12 = .ok (.iload_n 1, 1) ∧
  decode (cM m_Timber_isDoubtful) 13 = .ok (.bipush 24, 2) ∧
  decode (cM m_Timber_isDoubtful) 15 = .ok (.if_icmp .ge 16, 3) ∧
  am_okt 15 16 ∧
  am_tgt 15 16 = 31 ∧
  decode (cM m_Timber_isDoubtful) 18 = .ok (.aload_n 0, 1) ∧
  decode (cM m_Timber_isDoubtful) 19 = .ok (.getfield 15, 3) ∧
  fldT 9 15 = some (9, 1, 2) ∧
  decode (cM m_Timber_isDoubtful) 22 = .ok (.iload_n 1, 1) ∧
  decode (cM m_Timber_isDoubtful) 23 = .ok (.baload, 1) ∧
  decode (cM m_Timber_isDoubtful) 24 = .ok (.ifCond .eq 7, 3) ∧
  am_okt 24 7 ∧
  am_tgt 24 7 = 31 ∧
  decode (cM m_Timber_isDoubtful) 27 = .ok (.iconst 1, 1) ∧
  decode (cM m_Timber_isDoubtful) 28 = .ok (.goto 4, 3) ∧
  am_okt 28 4 ∧
  am_tgt 28 4 = 32 ∧
  decode (cM m_Timber_isDoubtful) 31 = .ok (.iconst 0, 1) ∧
  decode (cM m_Timber_isDoubtful) 32 = .ok (.ireturn, 1) :=
  ⟨rfl, rfl, rfl, rfl, by decide +kernel, by decide +kernel, rfl, rfl, by decide +kernel, by decide +kernel, by decide +kernel, rfl, by decide +kernel, rfl, rfl, by decide +kernel, by decide +kernel, by decide +kernel, rfl, rfl, by decide +kernel, by decide +kernel, rfl, by decide +kernel, by decide +kernel, by decide +kernel, rfl, rfl, by decide +kernel, by decide +kernel, rfl, rfl, by decide +kernel, by decide +kernel⟩
set_option maxRecDepth 100000 in
set_option maxHeartbeats 4000000 in
theorem C_Timber_canGain : oM m_Timber_canGain = 9 ∧
  rkM m_Timber_canGain = 2 ∧
  dM m_Timber_canGain = 1 ∧
  lM m_Timber_canGain = 2 ∧
  decode (cM m_Timber_canGain) 0 = .ok (.aload_n 0, 1) ∧
  decode (cM m_Timber_canGain) 1 = .ok (.getfield 19, 3) ∧
  fldT 9 19 = some (9, 2, 0) ∧
  decode (cM m_Timber_canGain) 4 = .ok (.bipush 24, 2) ∧
  decode (cM m_Timber_canGain) 6 = .ok (.if_icmp .ge 20, 3) ∧
  am_okt 6 20 ∧
  am_tgt 6 20 = 26 ∧
  decode (cM m_Timber_canGain) 9 = .ok (.iload_n 1, 1) ∧
  decode (cM m_Timber_canGain) 10 = .ok (.iconst 1, 1) ∧
  decode (cM m_Timber_canGain) 11 = .ok (.if_icmp .lt 15, 3) ∧
  am_okt 11 15 ∧
  am_tgt 11 15 = 26 ∧
  decode (cM m_Timber_canGain) 14 = .ok (.aload_n 0, 1) ∧
  decode (cM m_Timber_canGain) 15 = .ok (.iload_n 1, 1) ∧
  decode (cM m_Timber_canGain) 16 = .ok (.invokevirtual 42, 3) ∧
  invT 9 42 = some (m_Timber_has, 0) ∧
  nM m_Timber_has = 2 ∧
  oM m_Timber_has = 9 ∧
  rkM m_Timber_has = 2 ∧
  dM m_Timber_has = 0 ∧
  decode (cM m_Timber_canGain) 19 = .ok (.ifCond .eq 7, 3) ∧
  am_okt 19 7 ∧
  am_tgt 19 7 = 26 ∧
  decode (cM m_Timber_canGain) 22 = .ok (.iconst 1, 1) ∧
  decode (cM m_Timber_canGain) 23 = .ok (.goto 4, 3) ∧
  am_okt 23 4 ∧
  am_tgt 23 4 = 27 ∧
  decode (cM m_Timber_canGain) 26 = .ok (.iconst 0, 1) ∧
  decode (cM m_Timber_canGain) 27 = .ok (.ireturn, 1) :=
  ⟨rfl, rfl, rfl, rfl, by decide +kernel, by decide +kernel, rfl, by decide +kernel, by decide +kernel, rfl, rfl, by decide +kernel, by decide +kernel, by decide +kernel, rfl, rfl, by decide +kernel, by decide +kernel, by decide +kernel, rfl, rfl, rfl, rfl, rfl, by decide +kernel, rfl, rfl, by decide +kernel, by decide +kernel, rfl, rfl, by decide +kernel, by decide +kernel⟩
set_option maxRecDepth 100000 in
set_option maxHeartbeats 4000000 in
theorem C_Timber_has : oM m_Timber_has = 9 ∧
  rkM m_Timber_has = 2 ∧
  dM m_Timber_has = 0 ∧
  lM m_Timber_has = 2 ∧
  decode (cM m_Timber_has) 0 = .ok (.iload_n 1, 1) ∧
  decode (cM m_Timber_has) 1 = .ok (.ifCond .lt 21, 3) ∧
  am_okt 1 21 ∧
  am_tgt 1 21 = 22 ∧
  decode (cM m_Timber_has) 4 = .ok (.iload_n 1, 1) ∧
  decode (cM m_Timber_has) 5 = .ok (.aload_n 0, 1) ∧
  decode (cM m_Timber_has) 6 = .ok (.getfield 19, 3) ∧
  fldT 9 19 = some (9, 2, 0) ∧
  decode (cM m_Timber_has) 9 = .ok (.if_icmp .ge 13, 3) ∧
  am_okt 9 13 ∧
  am_tgt 9 13 = 22 ∧
  decode (cM m_Timber_has) 12 = .ok (.iload_n 1, 1) ∧
  decode (cM m_Timber_has) 13 = .ok (.bipush 24, 2) ∧
  decode (cM m_Timber_has) 15 = .ok (.if_icmp .ge 7, 3) ∧
  am_okt 15 7 ∧
  am_tgt 15 7 = 22 ∧
  decode (cM m_Timber_has) 18 = .ok (.iconst 1, 1) ∧
  decode (cM m_Timber_has) 19 = .ok (.goto 4, 3) ∧
  am_okt 19 4 ∧
  am_tgt 19 4 = 23 ∧
  decode (cM m_Timber_has) 22 = .ok (.iconst 0, 1) ∧
  decode (cM m_Timber_has) 23 = .ok (.ireturn, 1) :=
  ⟨rfl, rfl, rfl, rfl, by decide +kernel, by decide +kernel, rfl, rfl, by decide +kernel, by decide +kernel, by decide +kernel, rfl, by decide +kernel, rfl, rfl, by decide +kernel, by decide +kernel, by decide +kernel, rfl, rfl, by decide +kernel, by decide +kernel, rfl, rfl, by decide +kernel, by decide +kernel⟩
set_option maxRecDepth 100000 in
set_option maxHeartbeats 4000000 in
theorem C_Timber_canLose : oM m_Timber_canLose = 9 ∧
  rkM m_Timber_canLose = 2 ∧
  dM m_Timber_canLose = 1 ∧
  lM m_Timber_canLose = 2 ∧
  decode (cM m_Timber_canLose) 0 = .ok (.aload_n 0, 1) ∧
  decode (cM m_Timber_canLose) 1 = .ok (.getfield 19, 3) ∧
  fldT 9 19 = some (9, 2, 0) ∧
  decode (cM m_Timber_canLose) 4 = .ok (.iconst 3, 1) ∧
  decode (cM m_Timber_canLose) 5 = .ok (.if_icmp .le 15, 3) ∧
  am_okt 5 15 ∧
  am_tgt 5 15 = 20 ∧
  decode (cM m_Timber_canLose) 8 = .ok (.aload_n 0, 1) ∧
  decode (cM m_Timber_canLose) 9 = .ok (.iload_n 1, 1) ∧
  decode (cM m_Timber_canLose) 10 = .ok (.invokevirtual 46, 3) ∧
  invT 9 46 = some (m_Timber_isDoubtful, 0) ∧
  nM m_Timber_isDoubtful = 2 ∧
  oM m_Timber_isDoubtful = 9 ∧
  rkM m_Timber_isDoubtful = 2 ∧
  dM m_Timber_isDoubtful = 0 ∧
  decode (cM m_Timber_canLose) 13 = .ok (.ifCond .eq 7, 3) ∧
  am_okt 13 7 ∧
  am_tgt 13 7 = 20 ∧
  decode (cM m_Timber_canLose) 16 = .ok (.iconst 1, 1) ∧
  decode (cM m_Timber_canLose) 17 = .ok (.goto 4, 3) ∧
  am_okt 17 4 ∧
  am_tgt 17 4 = 21 ∧
  decode (cM m_Timber_canLose) 20 = .ok (.iconst 0, 1) ∧
  decode (cM m_Timber_canLose) 21 = .ok (.ireturn, 1) :=
  ⟨rfl, rfl, rfl, rfl, by decide +kernel, by decide +kernel, rfl, by decide +kernel, by decide +kernel, rfl, rfl, by decide +kernel, by decide +kernel, by decide +kernel, rfl, rfl, rfl, rfl, rfl, by decide +kernel, rfl, rfl, by decide +kernel, by decide +kernel, rfl, rfl, by decide +kernel, by decide +kernel⟩
set_option maxRecDepth 100000 in
set_option maxHeartbeats 4000000 in
theorem C_Timber_insertRing : oM m_Timber_insertRing = 9 ∧
  rkM m_Timber_insertRing = 0 ∧
  dM m_Timber_insertRing = 0 ∧
  lM m_Timber_insertRing = 4 ∧
  decode (cM m_Timber_insertRing) 0 = .ok (.iload_n 1, 1) ∧
  decode (cM m_Timber_insertRing) 1 = .ok (.ifCond .lt 20, 3) ∧
  am_okt 1 20 ∧
  am_tgt 1 20 = 21 ∧
  decode (cM m_Timber_insertRing) 4 = .ok (.iload_n 1, 1) ∧
  decode (cM m_Timber_insertRing) 5 = .ok (.aload_n 0, 1) ∧
  decode (cM m_Timber_insertRing) 6 = .ok (.getfield 19, 3) ∧
  fldT 9 19 = some (9, 2, 0) ∧
  decode (cM m_Timber_insertRing) 9 = .ok (.if_icmp .gt 12, 3) ∧
  am_okt 9 12 ∧
  am_tgt 9 12 = 21 ∧
  decode (cM m_Timber_insertRing) 12 = .ok (.aload_n 0, 1) ∧
  decode (cM m_Timber_insertRing) 13 = .ok (.getfield 19, 3) ∧
  decode (cM m_Timber_insertRing) 16 = .ok (.bipush 24, 2) ∧
  decode (cM m_Timber_insertRing) 18 = .ok (.if_icmp .lt 4, 3) ∧
  am_okt 18 4 ∧
  am_tgt 18 4 = 22 ∧
  decode (cM m_Timber_insertRing) 21 = .ok (.return_, 1) ∧
  decode (cM m_Timber_insertRing) 22 = .ok (.aload_n 0, 1) ∧
  decode (cM m_Timber_insertRing) 23 = .ok (.getfield 19, 3) ∧
  decode (cM m_Timber_insertRing) 26 = .ok (.istore_n 3, 1) ∧
  decode (cM m_Timber_insertRing) 27 = .ok (.iload_n 3, 1) ∧
  decode (cM m_Timber_insertRing) 28 = .ok (.iload_n 1, 1) ∧
  decode (cM m_Timber_insertRing) 29 = .ok (.if_icmp .le 37, 3) ∧
  am_okt 29 37 ∧
  am_tgt 29 37 = 66 ∧
  decode (cM m_Timber_insertRing) 32 = .ok (.aload_n 0, 1) ∧
  decode (cM m_Timber_insertRing) 33 = .ok (.getfield 9, 3) ∧
  fldT 9 9 = some (9, 0, 2) ∧
  decode (cM m_Timber_insertRing) 36 = .ok (.iload_n 3, 1) ∧
  decode (cM m_Timber_insertRing) 37 = .ok (.aload_n 0, 1) ∧
  decode (cM m_Timber_insertRing) 38 = .ok (.getfield 9, 3) ∧
  decode (cM m_Timber_insertRing) 41 = .ok (.iload_n 3, 1) ∧
  decode (cM m_Timber_insertRing) 42 = .ok (.iconst 1, 1) ∧
  decode (cM m_Timber_insertRing) 43 = .ok (.isub, 1) ∧
  decode (cM m_Timber_insertRing) 44 = .ok (.iaload, 1) ∧
  decode (cM m_Timber_insertRing) 45 = .ok (.iastore, 1) ∧
  decode (cM m_Timber_insertRing) 46 = .ok (.aload_n 0, 1) ∧
  decode (cM m_Timber_insertRing) 47 = .ok (.getfield 15, 3) ∧
  fldT 9 15 = some (9, 1, 2) ∧
  decode (cM m_Timber_insertRing) 50 = .ok (.iload_n 3, 1) ∧
  decode (cM m_Timber_insertRing) 51 = .ok (.aload_n 0, 1) ∧
  decode (cM m_Timber_insertRing) 52 = .ok (.getfield 15, 3) ∧
  decode (cM m_Timber_insertRing) 55 = .ok (.iload_n 3, 1) ∧
  decode (cM m_Timber_insertRing) 56 = .ok (.iconst 1, 1) ∧
  decode (cM m_Timber_insertRing) 57 = .ok (.isub, 1) ∧
  decode (cM m_Timber_insertRing) 58 = .ok (.baload, 1) ∧
  decode (cM m_Timber_insertRing) 59 = .ok (.bastore, 1) ∧
  decode (cM m_Timber_insertRing) 60 = .ok (.iinc 3 (-1), 3) ∧
  decode (cM m_Timber_insertRing) 63 = .ok (.goto (-36), 3) ∧
  am_okt 63 (-36) ∧
  am_tgt 63 (-36) = 27 ∧
  decode (cM m_Timber_insertRing) 66 = .ok (.aload_n 0, 1) ∧
  decode (cM m_Timber_insertRing) 67 = .ok (.getfield 9, 3) ∧
  decode (cM m_Timber_insertRing) 70 = .ok (.iload_n 1, 1) ∧
  decode (cM m_Timber_insertRing) 71 = .ok (.iload_n 2, 1) ∧
  decode (cM m_Timber_insertRing) 72 = .ok (.iastore, 1) ∧
  decode (cM m_Timber_insertRing) 73 = .ok (.aload_n 0, 1) ∧
  decode (cM m_Timber_insertRing) 74 = .ok (.getfield 15, 3) ∧
  decode (cM m_Timber_insertRing) 77 = .ok (.iload_n 1, 1) ∧
  decode (cM m_Timber_insertRing) 78 = .ok (.iconst 1, 1) ∧
  decode (cM m_Timber_insertRing) 79 = .ok (.bastore, 1) ∧
  decode (cM m_Timber_insertRing) 80 = .ok (.aload_n 0, 1) ∧
  decode (cM m_Timber_insertRing) 81 = .ok (.dup, 1) ∧
  decode (cM m_Timber_insertRing) 82 = .ok (.getfield 19, 3) ∧
  decode (cM m_Timber_insertRing) 85 = .ok (.iconst 1, 1) ∧
  decode (cM m_Timber_insertRing) 86 = .ok (.iadd, 1) ∧
  decode (cM m_Timber_insertRing) 87 = .ok (.putfield 19, 3) ∧
  decode (cM m_Timber_insertRing) 90 = .ok (.return_, 1) :=
  ⟨rfl, rfl, rfl, rfl, by decide +kernel, by decide +kernel, rfl, rfl, by decide +kernel, by decide +kernel, by decide +kernel, rfl, by decide +kernel, rfl, rfl, by decide +kernel, by decide +kernel, by decide +kernel, by decide +kernel, rfl, rfl, by decide +kernel, by decide +kernel, by decide +kernel, by decide +kernel, by decide +kernel, by decide +kernel, by decide +kernel, rfl, rfl, by decide +kernel, by decide +kernel, rfl, by decide +kernel, by decide +kernel, by decide +kernel, by decide +kernel, by decide +kernel, by decide +kernel, by decide +kernel, by decide +kernel, by decide +kernel, by decide +kernel, rfl, by decide +kernel, by decide +kernel, by decide +kernel, by decide +kernel, by decide +kernel, by decide +kernel, by decide +kernel, by decide +kernel, by decide +kernel, by decide +kernel, rfl, rfl, by decide +kernel, by decide +kernel, by decide +kernel, by decide +kernel, by decide +kernel, by decide +kernel, by decide +kernel, by decide +kernel, by decide +kernel, by decide +kernel, by decide +kernel, by decide +kernel, by decide +kernel, by decide +kernel, by decide +kernel, by decide +kernel, by decide +kernel⟩
set_option maxRecDepth 100000 in
set_option maxHeartbeats 4000000 in
theorem C_Timber_removeRing : oM m_Timber_removeRing = 9 ∧
  rkM m_Timber_removeRing = 0 ∧
  dM m_Timber_removeRing = 1 ∧
  lM m_Timber_removeRing = 3 ∧
  decode (cM m_Timber_removeRing) 0 = .ok (.aload_n 0, 1) ∧
  decode (cM m_Timber_removeRing) 1 = .ok (.iload_n 1, 1) ∧
  decode (cM m_Timber_removeRing) 2 = .ok (.invokevirtual 42, 3) ∧
  invT 9 42 = some (m_Timber_has, 0) ∧
  nM m_Timber_has = 2 ∧
  oM m_Timber_has = 9 ∧
  rkM m_Timber_has = 2 ∧
  dM m_Timber_has = 0 ∧
  decode (cM m_Timber_removeRing) 5 = .ok (.ifCond .ne 4, 3) ∧
  am_okt 5 4 ∧
  am_tgt 5 4 = 9 ∧
  decode (cM m_Timber_removeRing) 8 = .ok (.return_, 1) ∧
  decode (cM m_Timber_removeRing) 9 = .ok (.iload_n 1, 1) ∧
  decode (cM m_Timber_removeRing) 10 = .ok (.iconst 1, 1) ∧
  decode (cM m_Timber_removeRing) 11 = .ok (.iadd, 1) ∧
  decode (cM m_Timber_removeRing) 12 = .ok (.istore_n 2, 1) ∧
  decode (cM m_Timber_removeRing) 13 = .ok (.iload_n 2, 1) ∧
  decode (cM m_Timber_removeRing) 14 = .ok (.aload_n 0, 1) ∧
  decode (cM m_Timber_removeRing) 15 = .ok (.getfield 19, 3) ∧
  fldT 9 19 = some (9, 2, 0) ∧
  decode (cM m_Timber_removeRing) 18 = .ok (.if_icmp .ge 43, 3) ∧
  am_okt 18 43 ∧
  am_tgt 18 43 = 61 ∧
  decode (cM m_Timber_removeRing) 21 = .ok (.iload_n 2, 1) ∧
  decode (cM m_Timber_removeRing) 22 = .ok (.bipush 24, 2) ∧
  decode (cM m_Timber_removeRing) 24 = .ok (.if_icmp .ge 37, 3) ∧
  am_okt 24 37 ∧
  am_tgt 24 37 = 61 ∧
  decode (cM m_Timber_removeRing) 27 = .ok (.aload_n 0, 1) ∧
  decode (cM m_Timber_removeRing) 28 = .ok (.getfield 9, 3) ∧
  fldT 9 9 = some (9, 0, 2) ∧
  decode (cM m_Timber_removeRing) 31 = .ok (.iload_n 2, 1) ∧
  decode (cM m_Timber_removeRing) 32 = .ok (.iconst 1, 1) ∧
  decode (cM m_Timber_removeRing) 33 = .ok (.isub, 1) ∧
  decode (cM m_Timber_removeRing) 34 = .ok (.aload_n 0, 1) ∧
  decode (cM m_Timber_removeRing) 35 = .ok (.getfield 9, 3) ∧
  decode (cM m_Timber_removeRing) 38 = .ok (.iload_n 2, 1) ∧
  decode (cM m_Timber_removeRing) 39 = .ok (.iaload, 1) ∧
  decode (cM m_Timber_removeRing) 40 = .ok (.iastore, 1) ∧
  decode (cM m_Timber_removeRing) 41 = .ok (.aload_n 0, 1) ∧
  decode (cM m_Timber_removeRing) 42 = .ok (.getfield 15, 3) ∧
  fldT 9 15 = some (9, 1, 2) ∧
  decode (cM m_Timber_removeRing) 45 = .ok (.iload_n 2, 1) ∧
  decode (cM m_Timber_removeRing) 46 = .ok (.iconst 1, 1) ∧
  decode (cM m_Timber_removeRing) 47 = .ok (.isub, 1) ∧
  decode (cM m_Timber_removeRing) 48 = .ok (.aload_n 0, 1) ∧
  decode (cM m_Timber_removeRing) 49 = .ok (.getfield 15, 3) ∧
  decode (cM m_Timber_removeRing) 52 = .ok (.iload_n 2, 1) ∧
  decode (cM m_Timber_removeRing) 53 = .ok (.baload, 1) ∧
  decode (cM m_Timber_removeRing) 54 = .ok (.bastore, 1) ∧
  decode (cM m_Timber_removeRing) 55 = .ok (.iinc 2 1, 3) ∧
  decode (cM m_Timber_removeRing) 58 = .ok (.goto (-45), 3) ∧
  am_okt 58 (-45) ∧
  am_tgt 58 (-45) = 13 ∧
  decode (cM m_Timber_removeRing) 61 = .ok (.aload_n 0, 1) ∧
  decode (cM m_Timber_removeRing) 62 = .ok (.dup, 1) ∧
  decode (cM m_Timber_removeRing) 63 = .ok (.getfield 19, 3) ∧
  decode (cM m_Timber_removeRing) 66 = .ok (.iconst 1, 1) ∧
  decode (cM m_Timber_removeRing) 67 = .ok (.isub, 1) ∧
  decode (cM m_Timber_removeRing) 68 = .ok (.putfield 19, 3) ∧
  decode (cM m_Timber_removeRing) 71 = .ok (.return_, 1) :=
  ⟨rfl, rfl, rfl, rfl, by decide +kernel, by decide +kernel, by decide +kernel, rfl, rfl, rfl, rfl, rfl, by decide +kernel, rfl, rfl, by decide +kernel, by decide +kernel, by decide +kernel, by decide +kernel, by decide +kernel, by decide +kernel, by decide +kernel, by decide +kernel, rfl, by decide +kernel, rfl, rfl, by decide +kernel, by decide +kernel, by decide +kernel, rfl, rfl, by decide +kernel, by decide +kernel, rfl, by decide +kernel, by decide +kernel, by decide +kernel, by decide +kernel, by decide +kernel, by decide +kernel, by decide +kernel, by decide +kernel, by decide +kernel, by decide +kernel, rfl, by decide +kernel, by decide +kernel, by decide +kernel, by decide +kernel, by decide +kernel, by decide +kernel, by decide +kernel, by decide +kernel, by decide +kernel, by decide +kernel, rfl, rfl, by decide +kernel, by decide +kernel, by decide +kernel, by decide +kernel, by decide +kernel, by decide +kernel, by decide +kernel⟩
set_option maxRecDepth 100000 in
set_option maxHeartbeats 4000000 in
theorem C_Timber_turnDoubt : oM m_Timber_turnDoubt = 9 ∧
  rkM m_Timber_turnDoubt = 0 ∧
  dM m_Timber_turnDoubt = 1 ∧
  lM m_Timber_turnDoubt = 2 ∧
  decode (cM m_Timber_turnDoubt) 0 = .ok (.aload_n 0, 1) ∧
  decode (cM m_Timber_turnDoubt) 1 = .ok (.iload_n 1, 1) ∧
  decode (cM m_Timber_turnDoubt) 2 = .ok (.invokevirtual 42, 3) ∧
  invT 9 42 = some (m_Timber_has, 0) ∧
  nM m_Timber_has = 2 ∧
  oM m_Timber_has = 9 ∧
  rkM m_Timber_has = 2 ∧
  dM m_Timber_has = 0 ∧
  decode (cM m_Timber_turnDoubt) 5 = .ok (.ifCond .eq 23, 3) ∧
  am_okt 5 23 ∧
  am_tgt 5 23 = 28 ∧
  decode (cM m_Timber_turnDoubt) 8 = .ok (.aload_n 0, 1) ∧
  decode (cM m_Timber_turnDoubt) 9 = .ok (.getfield 15, 3) ∧
  fldT 9 15 = some (9, 1, 2) ∧
  decode (cM m_Timber_turnDoubt) 12 = .ok (.iload_n 1, 1) ∧
  decode (cM m_Timber_turnDoubt) 13 = .ok (.aload_n 0, 1) ∧
  decode (cM m_Timber_turnDoubt) 14 = .ok (.getfield 15, 3) ∧
  decode (cM m_Timber_turnDoubt) 17 = .ok (.iload_n 1, 1) ∧
  decode (cM m_Timber_turnDoubt) 18 = .ok (.baload, 1) ∧
  decode (cM m_Timber_turnDoubt) 19 = .ok (.ifCond .ne 7, 3) ∧
  am_okt 19 7 ∧
  am_tgt 19 7 = 26 ∧
  decode (cM m_Timber_turnDoubt) 22 = .ok (.iconst 1, 1) ∧
  decode (cM m_Timber_turnDoubt) 23 = .ok (.goto 4, 3) ∧
  am_okt 23 4 ∧
  am_tgt 23 4 = 27 ∧
  decode (cM m_Timber_turnDoubt) 26 = .ok (.iconst 0, 1) ∧
  decode (cM m_Timber_turnDoubt) 27 = .ok (.bastore, 1) ∧
  decode (cM m_Timber_turnDoubt) 28 = .ok (.return_, 1) :=
  ⟨rfl, rfl, rfl, rfl, by decide +kernel, by decide +kernel, by decide +kernel, rfl, rfl, rfl, rfl, rfl, by decide +kernel, rfl, rfl, by decide +kernel, by decide +kernel, rfl, by decide +kernel, by decide +kernel, by decide +kernel, by decide +kernel, by decide +kernel, by decide +kernel, rfl, rfl, by decide +kernel, by decide +kernel, rfl, rfl, by decide +kernel, by decide +kernel, by decide +kernel⟩
set_option maxRecDepth 100000 in
set_option maxHeartbeats 4000000 in
theorem C_Timber_copyFrom : oM m_Timber_copyFrom = 9 ∧
  rkM m_Timber_copyFrom = 0 ∧
  dM m_Timber_copyFrom = 0 ∧
  lM m_Timber_copyFrom = 3 ∧
  decode (cM m_Timber_copyFrom) 0 = .ok (.iconst 0, 1) ∧
  decode (cM m_Timber_copyFrom) 1 = .ok (.istore_n 2, 1) ∧
  decode (cM m_Timber_copyFrom) 2 = .ok (.iload_n 2, 1) ∧
  decode (cM m_Timber_copyFrom) 3 = .ok (.bipush 24, 2) ∧
  decode (cM m_Timber_copyFrom) 5 = .ok (.if_icmp .ge 33, 3) ∧
  am_okt 5 33 ∧
  am_tgt 5 33 = 38 ∧
  decode (cM m_Timber_copyFrom) 8 = .ok (.aload_n 0, 1) ∧
  decode (cM m_Timber_copyFrom) 9 = .ok (.getfield 9, 3) ∧
  fldT 9 9 = some (9, 0, 2) ∧
  decode (cM m_Timber_copyFrom) 12 = .ok (.iload_n 2, 1) ∧
  decode (cM m_Timber_copyFrom) 13 = .ok (.aload_n 1, 1) ∧
  decode (cM m_Timber_copyFrom) 14 = .ok (.getfield 9, 3) ∧
  decode (cM m_Timber_copyFrom) 17 = .ok (.iload_n 2, 1) ∧
  decode (cM m_Timber_copyFrom) 18 = .ok (.iaload, 1) ∧
  decode (cM m_Timber_copyFrom) 19 = .ok (.iastore, 1) ∧
  decode (cM m_Timber_copyFrom) 20 = .ok (.aload_n 0, 1) ∧
  decode (cM m_Timber_copyFrom) 21 = .ok (.getfield 15, 3) ∧
  fldT 9 15 = some (9, 1, 2) ∧
  decode (cM m_Timber_copyFrom) 24 = .ok (.iload_n 2, 1) ∧
  decode (cM m_Timber_copyFrom) 25 = .ok (.aload_n 1, 1) ∧
  decode (cM m_Timber_copyFrom) 26 = .ok (.getfield 15, 3) ∧
  decode (cM m_Timber_copyFrom) 29 = .ok (.iload_n 2, 1) ∧
  decode (cM m_Timber_copyFrom) 30 = .ok (.baload, 1) ∧
  decode (cM m_Timber_copyFrom) 31 = .ok (.bastore, 1) ∧
  decode (cM m_Timber_copyFrom) 32 = .ok (.iinc 2 1, 3) ∧
  decode (cM m_Timber_copyFrom) 35 = .ok (.goto (-33), 3) ∧
  am_okt 35 (-33) ∧
  am_tgt 35 (-33) = 2 ∧
  decode (cM m_Timber_copyFrom) 38 = .ok (.aload_n 0, 1) ∧
  decode (cM m_Timber_copyFrom) 39 = .ok (.aload_n 1, 1) ∧
  decode (cM m_Timber_copyFrom) 40 = .ok (.getfield 19, 3) ∧
  fldT 9 19 = some (9, 2, 0) ∧
  decode (cM m_Timber_copyFrom) 43 = .ok (.putfield 19, 3) ∧
  decode (cM m_Timber_copyFrom) 46 = .ok (.aload_n 0, 1) ∧
  decode (cM m_Timber_copyFrom) 47 = .ok (.aload_n 1, 1) ∧
  decode (cM m_Timber_copyFrom) 48 = .ok (.getfield 23, 3) ∧
  fldT 9 23 = some (9, 3, 0) ∧
  decode (cM m_Timber_copyFrom) 51 = .ok (.putfield 23, 3) ∧
  decode (cM m_Timber_copyFrom) 54 = .ok (.aload_n 0, 1) ∧
  decode (cM m_Timber_copyFrom) 55 = .ok (.aload_n 1, 1) ∧
  decode (cM m_Timber_copyFrom) 56 = .ok (.getfield 26, 3) ∧
  fldT 9 26 = some (9, 4, 0) ∧
  decode (cM m_Timber_copyFrom) 59 = .ok (.putfield 26, 3) ∧
  decode (cM m_Timber_copyFrom) 62 = .ok (.aload_n 0, 1) ∧
  decode (cM m_Timber_copyFrom) 63 = .ok (.aload_n 1, 1) ∧
  decode (cM m_Timber_copyFrom) 64 = .ok (.getfield 29, 3) ∧
  fldT 9 29 = some (9, 5, 0) ∧
  decode (cM m_Timber_copyFrom) 67 = .ok (.putfield 29, 3) ∧
  decode (cM m_Timber_copyFrom) 70 = .ok (.return_, 1) :=
  ⟨rfl, rfl, rfl, rfl, by decide +kernel, by decide +kernel, by decide +kernel, by decide +kernel, by decide +kernel, rfl, rfl, by decide +kernel, by decide +kernel, rfl, by decide +kernel, by decide +kernel, by decide +kernel, by decide +kernel, by decide +kernel, by decide +kernel, by decide +kernel, by decide +kernel, rfl, by decide +kernel, by decide +kernel, by decide +kernel, by decide +kernel, by decide +kernel, by decide +kernel, by decide +kernel, by decide +kernel, rfl, rfl, by decide +kernel, by decide +kernel, by decide +kernel, rfl, by decide +kernel, by decide +kernel, by decide +kernel, by decide +kernel, rfl, by decide +kernel, by decide +kernel, by decide +kernel, by decide +kernel, rfl, by decide +kernel, by decide +kernel, by decide +kernel, by decide +kernel, rfl, by decide +kernel, by decide +kernel⟩
set_option maxRecDepth 100000 in
set_option maxHeartbeats 4000000 in
theorem C_Timber_begin : oM m_Timber_begin = 9 ∧
  rkM m_Timber_begin = 0 ∧
  dM m_Timber_begin = 0 ∧
  lM m_Timber_begin = 3 ∧
  decode (cM m_Timber_begin) 0 = .ok (.aload_n 0, 1) ∧
  decode (cM m_Timber_begin) 1 = .ok (.iconst 0, 1) ∧
  decode (cM m_Timber_begin) 2 = .ok (.putfield 19, 3) ∧
  fldT 9 19 = some (9, 2, 0) ∧
  decode (cM m_Timber_begin) 5 = .ok (.aload_n 0, 1) ∧
  decode (cM m_Timber_begin) 6 = .ok (.iload_n 1, 1) ∧
  decode (cM m_Timber_begin) 7 = .ok (.putfield 23, 3) ∧
  fldT 9 23 = some (9, 3, 0) ∧
  decode (cM m_Timber_begin) 10 = .ok (.aload_n 0, 1) ∧
  decode (cM m_Timber_begin) 11 = .ok (.iload_n 2, 1) ∧
  decode (cM m_Timber_begin) 12 = .ok (.putfield 26, 3) ∧
  fldT 9 26 = some (9, 4, 0) ∧
  decode (cM m_Timber_begin) 15 = .ok (.aload_n 0, 1) ∧
  decode (cM m_Timber_begin) 16 = .ok (.iconst 0, 1) ∧
  decode (cM m_Timber_begin) 17 = .ok (.putfield 29, 3) ∧
  fldT 9 29 = some (9, 5, 0) ∧
  decode (cM m_Timber_begin) 20 = .ok (.return_, 1) :=
  ⟨rfl, rfl, rfl, rfl, by decide +kernel, by decide +kernel, by decide +kernel, rfl, by decide +kernel, by decide +kernel, by decide +kernel, rfl, by decide +kernel, by decide +kernel, by decide +kernel, rfl, by decide +kernel, by decide +kernel, by decide +kernel, rfl, by decide +kernel⟩
set_option maxRecDepth 100000 in
set_option maxHeartbeats 4000000 in
theorem C_Timber_addRing : oM m_Timber_addRing = 9 ∧
  rkM m_Timber_addRing = 0 ∧
  dM m_Timber_addRing = 0 ∧
  lM m_Timber_addRing = 3 ∧
  decode (cM m_Timber_addRing) 0 = .ok (.aload_n 0, 1) ∧
  decode (cM m_Timber_addRing) 1 = .ok (.getfield 19, 3) ∧
  fldT 9 19 = some (9, 2, 0) ∧
  decode (cM m_Timber_addRing) 4 = .ok (.ifCond .lt 42, 3) ∧
  am_okt 4 42 ∧
  am_tgt 4 42 = 46 ∧
  decode (cM m_Timber_addRing) 7 = .ok (.aload_n 0, 1) ∧
  decode (cM m_Timber_addRing) 8 = .ok (.getfield 19, 3) ∧
  decode (cM m_Timber_addRing) 11 = .ok (.bipush 24, 2) ∧
  decode (cM m_Timber_addRing) 13 = .ok (.if_icmp .ge 33, 3) ∧
  am_okt 13 33 ∧
  am_tgt 13 33 = 46 ∧
  decode (cM m_Timber_addRing) 16 = .ok (.aload_n 0, 1) ∧
  decode (cM m_Timber_addRing) 17 = .ok (.getfield 9, 3) ∧
  fldT 9 9 = some (9, 0, 2) ∧
  decode (cM m_Timber_addRing) 20 = .ok (.aload_n 0, 1) ∧
  decode (cM m_Timber_addRing) 21 = .ok (.getfield 19, 3) ∧
  decode (cM m_Timber_addRing) 24 = .ok (.iload_n 1, 1) ∧
  decode (cM m_Timber_addRing) 25 = .ok (.iastore, 1) ∧
  decode (cM m_Timber_addRing) 26 = .ok (.aload_n 0, 1) ∧
  decode (cM m_Timber_addRing) 27 = .ok (.getfield 15, 3) ∧
  fldT 9 15 = some (9, 1, 2) ∧
  decode (cM m_Timber_addRing) 30 = .ok (.aload_n 0, 1) ∧
  decode (cM m_Timber_addRing) 31 = .ok (.getfield 19, 3) ∧
  decode (cM m_Timber_addRing) 34 = .ok (.iload_n 2, 1) ∧
  decode (cM m_Timber_addRing) 35 = .ok (.bastore, 1) ∧
  decode (cM m_Timber_addRing) 36 = .ok (.aload_n 0, 1) ∧
  decode (cM m_Timber_addRing) 37 = .ok (.dup, 1) ∧
  decode (cM m_Timber_addRing) 38 = .ok (.getfield 19, 3) ∧
  decode (cM m_Timber_addRing) 41 = .ok (.iconst 1, 1) ∧
  decode (cM m_Timber_addRing) 42 = .ok (.iadd, 1) ∧
  decode (cM m_Timber_addRing) 43 = .ok (.putfield 19, 3) ∧
  decode (cM m_Timber_addRing) 46 = .ok (.return_, 1) :=
  ⟨rfl, rfl, rfl, rfl, by decide +kernel, by decide +kernel, rfl, by decide +kernel, rfl, rfl, by decide +kernel, by decide +kernel, by decide +kernel, by decide +kernel, rfl, rfl, by decide +kernel, by decide +kernel, rfl, by decide +kernel, by decide +kernel, by decide +kernel, by decide +kernel, by decide +kernel, by decide +kernel, rfl, by decide +kernel, by decide +kernel, by decide +kernel, by decide +kernel, by decide +kernel, by decide +kernel, by decide +kernel, by decide +kernel, by decide +kernel, by decide +kernel, by decide +kernel⟩
set_option maxRecDepth 100000 in
set_option maxHeartbeats 4000000 in
theorem C_Timber_stepOf : oM m_Timber_stepOf = 9 ∧
  rkM m_Timber_stepOf = 1 ∧
  dM m_Timber_stepOf = 1 ∧
  lM m_Timber_stepOf = 2 ∧
  decode (cM m_Timber_stepOf) 0 = .ok (.aload_n 0, 1) ∧
  decode (cM m_Timber_stepOf) 1 = .ok (.iload_n 1, 1) ∧
  decode (cM m_Timber_stepOf) 2 = .ok (.invokevirtual 32, 3) ∧
  invT 9 32 = some (m_Timber_widthOf, 0) ∧
  nM m_Timber_widthOf = 2 ∧
  oM m_Timber_widthOf = 9 ∧
  rkM m_Timber_widthOf = 1 ∧
  dM m_Timber_widthOf = 0 ∧
  decode (cM m_Timber_stepOf) 5 = .ok (.aload_n 0, 1) ∧
  decode (cM m_Timber_stepOf) 6 = .ok (.iload_n 1, 1) ∧
  decode (cM m_Timber_stepOf) 7 = .ok (.iconst 1, 1) ∧
  decode (cM m_Timber_stepOf) 8 = .ok (.isub, 1) ∧
  decode (cM m_Timber_stepOf) 9 = .ok (.invokevirtual 32, 3) ∧
  decode (cM m_Timber_stepOf) 12 = .ok (.invokestatic 36, 3) ∧
  invT 9 36 = some (m_Integer_compare, 1) ∧
  nM m_Integer_compare = 2 ∧
  oM m_Integer_compare = 13 ∧
  rkM m_Integer_compare = 1 ∧
  dM m_Integer_compare = 0 ∧
  decode (cM m_Timber_stepOf) 15 = .ok (.ireturn, 1) :=
  ⟨rfl, rfl, rfl, rfl, by decide +kernel, by decide +kernel, by decide +kernel, rfl, rfl, rfl, rfl, rfl, by decide +kernel, by decide +kernel, by decide +kernel, by decide +kernel, by decide +kernel, by decide +kernel, rfl, rfl, rfl, rfl, rfl, by decide +kernel⟩
set_option maxRecDepth 100000 in
set_option maxHeartbeats 4000000 in
theorem C_Timber_countDoubtful : oM m_Timber_countDoubtful = 9 ∧
  rkM m_Timber_countDoubtful = 1 ∧
  dM m_Timber_countDoubtful = 1 ∧
  lM m_Timber_countDoubtful = 3 ∧
  decode (cM m_Timber_countDoubtful) 0 = .ok (.iconst 0, 1) ∧
  decode (cM m_Timber_countDoubtful) 1 = .ok (.istore_n 1, 1) ∧
  decode (cM m_Timber_countDoubtful) 2 = .ok (.iconst 0, 1) ∧
  decode (cM m_Timber_countDoubtful) 3 = .ok (.istore_n 2, 1) ∧
  decode (cM m_Timber_countDoubtful) 4 = .ok (.iload_n 2, 1) ∧
  decode (cM m_Timber_countDoubtful) 5 = .ok (.aload_n 0, 1) ∧
  decode (cM m_Timber_countDoubtful) 6 = .ok (.getfield 19, 3) ∧
  fldT 9 19 = some (9, 2, 0) ∧
  decode (cM m_Timber_countDoubtful) 9 = .ok (.if_icmp .ge 25, 3) ∧
  am_okt 9 25 ∧
  am_tgt 9 25 = 34 ∧
  decode (cM m_Timber_countDoubtful) 12 = .ok (.iload_n 1, 1) ∧
  decode (cM m_Timber_countDoubtful) 13 = .ok (.aload_n 0, 1) ∧
  decode (cM m_Timber_countDoubtful) 14 = .ok (.iload_n 2, 1) ∧
  decode (cM m_Timber_countDoubtful) 15 = .ok (.invokevirtual 46, 3) ∧
  invT 9 46 = some (m_Timber_isDoubtful, 0) ∧
  nM m_Timber_isDoubtful = 2 ∧
  oM m_Timber_isDoubtful = 9 ∧
  rkM m_Timber_isDoubtful = 2 ∧
  dM m_Timber_isDoubtful = 0 ∧
  decode (cM m_Timber_countDoubtful) 18 = .ok (.ifCond .eq 7, 3) ∧
  am_okt 18 7 ∧
  am_tgt 18 7 = 25 ∧
  decode (cM m_Timber_countDoubtful) 21 = .ok (.iconst 1, 1) ∧
  decode (cM m_Timber_countDoubtful) 22 = .ok (.goto 4, 3) ∧
  am_okt 22 4 ∧
  am_tgt 22 4 = 26 ∧
  decode (cM m_Timber_countDoubtful) 25 = .ok (.iconst 0, 1) ∧
  decode (cM m_Timber_countDoubtful) 26 = .ok (.iadd, 1) ∧
  decode (cM m_Timber_countDoubtful) 27 = .ok (.istore_n 1, 1) ∧
  decode (cM m_Timber_countDoubtful) 28 = .ok (.iinc 2 1, 3) ∧
  decode (cM m_Timber_countDoubtful) 31 = .ok (.goto (-27), 3) ∧
  am_okt 31 (-27) ∧
  am_tgt 31 (-27) = 4 ∧
  decode (cM m_Timber_countDoubtful) 34 = .ok (.iload_n 1, 1) ∧
  decode (cM m_Timber_countDoubtful) 35 = .ok (.ireturn, 1) :=
  ⟨rfl, rfl, rfl, rfl, by decide +kernel, by decide +kernel, by decide +kernel, by decide +kernel, by decide +kernel, by decide +kernel, by decide +kernel, rfl, by decide +kernel, rfl, rfl, by decide +kernel, by decide +kernel, by decide +kernel, by decide +kernel, rfl, rfl, rfl, rfl, rfl, by decide +kernel, rfl, rfl, by decide +kernel, by decide +kernel, rfl, rfl, by decide +kernel, by decide +kernel, by decide +kernel, by decide +kernel, by decide +kernel, rfl, rfl, by decide +kernel, by decide +kernel⟩
set_option maxRecDepth 100000 in
set_option maxHeartbeats 4000000 in
theorem C_Timber_drawRings : oM m_Timber_drawRings = 9 ∧
  rkM m_Timber_drawRings = 1 ∧
  dM m_Timber_drawRings = 1 ∧
  lM m_Timber_drawRings = 5 ∧
  decode (cM m_Timber_drawRings) 0 = .ok (.aload_n 0, 1) ∧
  decode (cM m_Timber_drawRings) 1 = .ok (.iconst 0, 1) ∧
  decode (cM m_Timber_drawRings) 2 = .ok (.iconst 0, 1) ∧
  decode (cM m_Timber_drawRings) 3 = .ok (.invokevirtual 49, 3) ∧
  invT 9 49 = some (m_Timber_begin, 0) ∧
  nM m_Timber_begin = 3 ∧
  oM m_Timber_begin = 9 ∧
  rkM m_Timber_begin = 0 ∧
  dM m_Timber_begin = 0 ∧
  decode (cM m_Timber_drawRings) 6 = .ok (.iload_n 2, 1) ∧
  decode (cM m_Timber_drawRings) 7 = .ok (.istore_n 3, 1) ∧
  decode (cM m_Timber_drawRings) 8 = .ok (.iconst 0, 1) ∧
  decode (cM m_Timber_drawRings) 9 = .ok (.istore 4, 2) ∧
  decode (cM m_Timber_drawRings) 11 = .ok (.iload 4, 2) ∧
  decode (cM m_Timber_drawRings) 13 = .ok (.iload_n 1, 1) ∧
  decode (cM m_Timber_drawRings) 14 = .ok (.if_icmp .ge 43, 3) ∧
  am_okt 14 43 ∧
  am_tgt 14 43 = 57 ∧
  decode (cM m_Timber_drawRings) 17 = .ok (.iload 4, 2) ∧
  decode (cM m_Timber_drawRings) 19 = .ok (.bipush 24, 2) ∧
  decode (cM m_Timber_drawRings) 21 = .ok (.if_icmp .ge 36, 3) ∧
  am_okt 21 36 ∧
  am_tgt 21 36 = 57 ∧
  decode (cM m_Timber_drawRings) 24 = .ok (.iload_n 3, 1) ∧
  decode (cM m_Timber_drawRings) 25 = .ok (.ldc 53, 2) ∧
  ldcT 9 53 = some (.inl 1103515245) ∧
  decode (cM m_Timber_drawRings) 27 = .ok (.imul, 1) ∧
  decode (cM m_Timber_drawRings) 28 = .ok (.sipush 12345, 3) ∧
  decode (cM m_Timber_drawRings) 31 = .ok (.iadd, 1) ∧
  decode (cM m_Timber_drawRings) 32 = .ok (.istore_n 3, 1) ∧
  decode (cM m_Timber_drawRings) 33 = .ok (.aload_n 0, 1) ∧
  decode (cM m_Timber_drawRings) 34 = .ok (.iload_n 3, 1) ∧
  decode (cM m_Timber_drawRings) 35 = .ok (.bipush 16, 2) ∧
  decode (cM m_Timber_drawRings) 37 = .ok (.iushr, 1) ∧
  decode (cM m_Timber_drawRings) 38 = .ok (.sipush 32767, 3) ∧
  decode (cM m_Timber_drawRings) 41 = .ok (.iand, 1) ∧
  decode (cM m_Timber_drawRings) 42 = .ok (.bipush 99, 2) ∧
  decode (cM m_Timber_drawRings) 44 = .ok (.irem, 1) ∧
  decode (cM m_Timber_drawRings) 45 = .ok (.iconst 1, 1) ∧
  decode (cM m_Timber_drawRings) 46 = .ok (.iadd, 1) ∧
  decode (cM m_Timber_drawRings) 47 = .ok (.iconst 0, 1) ∧
  decode (cM m_Timber_drawRings) 48 = .ok (.invokevirtual 54, 3) ∧
  invT 9 54 = some (m_Timber_addRing, 0) ∧
  nM m_Timber_addRing = 3 ∧
  oM m_Timber_addRing = 9 ∧
  rkM m_Timber_addRing = 0 ∧
  dM m_Timber_addRing = 0 ∧
  decode (cM m_Timber_drawRings) 51 = .ok (.iinc 4 1, 3) ∧
  decode (cM m_Timber_drawRings) 54 = .ok (.goto (-43), 3) ∧
  am_okt 54 (-43) ∧
  am_tgt 54 (-43) = 11 ∧
  decode (cM m_Timber_drawRings) 57 = .ok (.iload_n 3, 1) ∧
  decode (cM m_Timber_drawRings) 58 = .ok (.ireturn, 1) :=
  ⟨rfl, rfl, rfl, rfl, by decide +kernel, by decide +kernel, by decide +kernel, by decide +kernel, rfl, rfl, rfl, rfl, rfl, by decide +kernel, by decide +kernel, by decide +kernel, by decide +kernel, by decide +kernel, by decide +kernel, by decide +kernel, rfl, rfl, by decide +kernel, by decide +kernel, by decide +kernel, rfl, rfl, by decide +kernel, by decide +kernel, rfl, by decide +kernel, by decide +kernel, by decide +kernel, by decide +kernel, by decide +kernel, by decide +kernel, by decide +kernel, by decide +kernel, by decide +kernel, by decide +kernel, by decide +kernel, by decide +kernel, by decide +kernel, by decide +kernel, by decide +kernel, by decide +kernel, rfl, rfl, rfl, rfl, rfl, by decide +kernel, by decide +kernel, rfl, rfl, by decide +kernel, by decide +kernel⟩
set_option maxRecDepth 100000 in
set_option maxHeartbeats 4000000 in
theorem C_Web_spin : oM m_Web_spin = 10 ∧
  rkM m_Web_spin = 0 ∧
  dM m_Web_spin = 5 ∧
  lM m_Web_spin = 6 ∧
  decode (cM m_Web_spin) 0 = .ok (.aload_n 0, 1) ∧
  decode (cM m_Web_spin) 1 = .ok (.iconst 0, 1) ∧
  decode (cM m_Web_spin) 2 = .ok (.putfield 34, 3) ∧
  fldT 10 34 = some (10, 7, 0) ∧
  decode (cM m_Web_spin) 5 = .ok (.iconst 0, 1) ∧
  decode (cM m_Web_spin) 6 = .ok (.istore_n 3, 1) ∧
  decode (cM m_Web_spin) 7 = .ok (.iload_n 3, 1) ∧
  decode (cM m_Web_spin) 8 = .ok (.aload_n 1, 1) ∧
  decode (cM m_Web_spin) 9 = .ok (.getfield 38, 3) ∧
  fldT 10 38 = some (8, 3, 0) ∧
  decode (cM m_Web_spin) 12 = .ok (.if_icmp .ge 83, 3) ∧
  am_okt 12 83 ∧
  am_tgt 12 83 = 95 ∧
  decode (cM m_Web_spin) 15 = .ok (.iload_n 3, 1) ∧
  decode (cM m_Web_spin) 16 = .ok (.iconst 1, 1) ∧
  decode (cM m_Web_spin) 17 = .ok (.iadd, 1) ∧
  decode (cM m_Web_spin) 18 = .ok (.istore 4, 2) ∧
  decode (cM m_Web_spin) 20 = .ok (.iload 4, 2) ∧
  decode (cM m_Web_spin) 22 = .ok (.aload_n 1, 1) ∧
  decode (cM m_Web_spin) 23 = .ok (.getfield 38, 3) ∧
  decode (cM m_Web_spin) 26 = .ok (.if_icmp .ge 63, 3) ∧
  am_okt 26 63 ∧
  am_tgt 26 63 = 89 ∧
  decode (cM m_Web_spin) 29 = .ok (.aload_n 2, 1) ∧
  decode (cM m_Web_spin) 30 = .ok (.aload_n 1, 1) ∧
  decode (cM m_Web_spin) 31 = .ok (.iload 4, 2) ∧
  decode (cM m_Web_spin) 33 = .ok (.invokevirtual 41, 3) ∧
  invT 10 41 = some (m_Stock_timberAt, 0) ∧
  nM m_Stock_timberAt = 2 ∧
  oM m_Stock_timberAt = 8 ∧
  rkM m_Stock_timberAt = 3 ∧
  dM m_Stock_timberAt = 1 ∧
  decode (cM m_Web_spin) 36 = .ok (.aload_n 1, 1) ∧
  decode (cM m_Web_spin) 37 = .ok (.iload_n 3, 1) ∧
  decode (cM m_Web_spin) 38 = .ok (.invokevirtual 41, 3) ∧
  decode (cM m_Web_spin) 41 = .ok (.aload_n 1, 1) ∧
  decode (cM m_Web_spin) 42 = .ok (.getfield 45, 3) ∧
  fldT 10 45 = some (8, 5, 0) ∧
  decode (cM m_Web_spin) 45 = .ok (.invokevirtual 48, 3) ∧
  invT 10 48 = some (m_Bench_seekOn, 0) ∧
  nM m_Bench_seekOn = 4 ∧
  oM m_Bench_seekOn = 0 ∧
  rkM m_Bench_seekOn = 3 ∧
  dM m_Bench_seekOn = 4 ∧
  decode (cM m_Web_spin) 48 = .ok (.astore 5, 2) ∧
  decode (cM m_Web_spin) 50 = .ok (.aload 5, 2) ∧
  decode (cM m_Web_spin) 52 = .ok (.aload_n 1, 1) ∧
  decode (cM m_Web_spin) 53 = .ok (.getfield 54, 3) ∧
  fldT 10 54 = some (8, 4, 0) ∧
  decode (cM m_Web_spin) 56 = .ok (.aload_n 1, 1) ∧
  decode (cM m_Web_spin) 57 = .ok (.getfield 57, 3) ∧
  fldT 10 57 = some (8, 6, 0) ∧
  decode (cM m_Web_spin) 60 = .ok (.invokevirtual 60, 3) ∧
  invT 10 60 = some (m_Finding_whyNotSure, 0) ∧
  nM m_Finding_whyNotSure = 3 ∧
  oM m_Finding_whyNotSure = 1 ∧
  rkM m_Finding_whyNotSure = 1 ∧
  dM m_Finding_whyNotSure = 0 ∧
  decode (cM m_Web_spin) 63 = .ok (.ifCond .ne 20, 3) ∧
  am_okt 63 20 ∧
  am_tgt 63 20 = 83 ∧
  decode (cM m_Web_spin) 66 = .ok (.aload_n 0, 1) ∧
  decode (cM m_Web_spin) 67 = .ok (.iload_n 3, 1) ∧
  decode (cM m_Web_spin) 68 = .ok (.iload 4, 2) ∧
  decode (cM m_Web_spin) 70 = .ok (.aload 5, 2) ∧
  decode (cM m_Web_spin) 72 = .ok (.getfield 66, 3) ∧
  fldT 10 66 = some (1, 2, 0) ∧
  decode (cM m_Web_spin) 75 = .ok (.aload 5, 2) ∧
  decode (cM m_Web_spin) 77 = .ok (.getfield 69, 3) ∧
  fldT 10 69 = some (1, 3, 0) ∧
  decode (cM m_Web_spin) 80 = .ok (.invokevirtual 72, 3) ∧
  invT 10 72 = some (m_Web_insert, 0) ∧
  nM m_Web_insert = 5 ∧
  oM m_Web_insert = 10 ∧
  rkM m_Web_insert = 0 ∧
  dM m_Web_insert = 0 ∧
  decode (cM m_Web_spin) 83 = .ok (.iinc 4 1, 3) ∧
  decode (cM m_Web_spin) 86 = .ok (.goto (-66), 3) ∧
  am_okt 86 (-66) ∧
  am_tgt 86 (-66) = 20 ∧
  decode (cM m_Web_spin) 89 = .ok (.iinc 3 1, 3) ∧
  decode (cM m_Web_spin) 92 = .ok (.goto (-85), 3) ∧
  am_okt 92 (-85) ∧
  am_tgt 92 (-85) = 7 ∧
  decode (cM m_Web_spin) 95 = .ok (.aload_n 0, 1) ∧
  decode (cM m_Web_spin) 96 = .ok (.invokevirtual 76, 3) ∧
  invT 10 76 = some (m_Web_tieAll, 0) ∧
  nM m_Web_tieAll = 1 ∧
  oM m_Web_tieAll = 10 ∧
  rkM m_Web_tieAll = 0 ∧
  dM m_Web_tieAll = 2 ∧
  decode (cM m_Web_spin) 99 = .ok (.return_, 1) :=
  ⟨rfl, rfl, rfl, rfl, by decide +kernel, by decide +kernel, by decide +kernel, rfl, by decide +kernel, by decide +kernel, by decide +kernel, by decide +kernel, by decide +kernel, rfl, by decide +kernel, rfl, rfl, by decide +kernel, by decide +kernel, by decide +kernel, by decide +kernel, by decide +kernel, by decide +kernel, by decide +kernel, by decide +kernel, rfl, rfl, by decide +kernel, by decide +kernel, by decide +kernel, by decide +kernel, rfl, rfl, rfl, rfl, rfl, by decide +kernel, by decide +kernel, by decide +kernel, by decide +kernel, by decide +kernel, rfl, by decide +kernel, rfl, rfl, rfl, rfl, rfl, by decide +kernel, by decide +kernel, by decide +kernel, by decide +kernel, rfl, by decide +kernel, by decide +kernel, rfl, by decide +kernel, rfl, rfl, rfl, rfl, rfl, by decide +kernel, rfl, rfl, by decide +kernel, by decide +kernel, by decide +kernel, by decide +kernel, by decide +kernel, rfl, by decide +kernel, by decide +kernel, rfl, by decide +kernel, rfl, rfl, rfl, rfl, rfl, by decide +kernel, by decide +kernel, rfl, rfl, by decide +kernel, by decide +kernel, rfl, rfl, by decide +kernel, by decide +kernel, rfl, rfl, rfl, rfl, rfl, by decide +kernel⟩
set_option maxRecDepth 100000 in
set_option maxHeartbeats 4000000 in
theorem C_Web_insert : oM m_Web_insert = 10 ∧
  rkM m_Web_insert = 0 ∧
  dM m_Web_insert = 0 ∧
  lM m_Web_insert = 7 ∧
  decode (cM m_Web_insert) 0 = .ok (.aload_n 0, 1) ∧
  decode (cM m_Web_insert) 1 = .ok (.getfield 34, 3) ∧
  fldT 10 34 = some (10, 7, 0) ∧
  decode (cM m_Web_insert) 4 = .ok (.ifCond .lt 12, 3) ∧
  am_okt 4 12 ∧
  am_tgt 4 12 = 16 ∧
  decode (cM m_Web_insert) 7 = .ok (.aload_n 0, 1) ∧
  decode (cM m_Web_insert) 8 = .ok (.getfield 34, 3) ∧
  decode (cM m_Web_insert) 11 = .ok (.bipush 28, 2) ∧
  decode (cM m_Web_insert) 13 = .ok (.if_icmp .lt 4, 3) ∧
  am_okt 13 4 ∧
  am_tgt 13 4 = 17 ∧
  decode (cM m_Web_insert) 16 = .ok (.return_, 1) ∧
  decode (cM m_Web_insert) 17 = .ok (.aload_n 0, 1) ∧
  decode (cM m_Web_insert) 18 = .ok (.getfield 34, 3) ∧
  decode (cM m_Web_insert) 21 = .ok (.istore 5, 2) ∧
  decode (cM m_Web_insert) 23 = .ok (.aload_n 0, 1) ∧
  decode (cM m_Web_insert) 24 = .ok (.getfield 34, 3) ∧
  decode (cM m_Web_insert) 27 = .ok (.istore 6, 2) ∧
  decode (cM m_Web_insert) 29 = .ok (.iload 6, 2) ∧
  decode (cM m_Web_insert) 31 = .ok (.ifCond .le 93, 3) ∧
  am_okt 31 93 ∧
  am_tgt 31 93 = 124 ∧
  decode (cM m_Web_insert) 34 = .ok (.aload_n 0, 1) ∧
  decode (cM m_Web_insert) 35 = .ok (.getfield 21, 3) ∧
  fldT 10 21 = some (10, 3, 2) ∧
  decode (cM m_Web_insert) 38 = .ok (.iload 6, 2) ∧
  decode (cM m_Web_insert) 40 = .ok (.iconst 1, 1) ∧
  decode (cM m_Web_insert) 41 = .ok (.isub, 1) ∧
  decode (cM m_Web_insert) 42 = .ok (.iaload, 1) ∧
  decode (cM m_Web_insert) 43 = .ok (.iload 4, 2) ∧
  decode (cM m_Web_insert) 45 = .ok (.if_icmp .ge 79, 3) ∧
  am_okt 45 79 ∧
  am_tgt 45 79 = 124 ∧
  decode (cM m_Web_insert) 48 = .ok (.aload_n 0, 1) ∧
  decode (cM m_Web_insert) 49 = .ok (.getfield 9, 3) ∧
  fldT 10 9 = some (10, 0, 2) ∧
  decode (cM m_Web_insert) 52 = .ok (.iload 6, 2) ∧
  decode (cM m_Web_insert) 54 = .ok (.aload_n 0, 1) ∧
  decode (cM m_Web_insert) 55 = .ok (.getfield 9, 3) ∧
  decode (cM m_Web_insert) 58 = .ok (.iload 6, 2) ∧
  decode (cM m_Web_insert) 60 = .ok (.iconst 1, 1) ∧
  decode (cM m_Web_insert) 61 = .ok (.isub, 1) ∧
  decode (cM m_Web_insert) 62 = .ok (.iaload, 1) ∧
  decode (cM m_Web_insert) 63 = .ok (.iastore, 1) ∧
  decode (cM m_Web_insert) 64 = .ok (.aload_n 0, 1) ∧
  decode (cM m_Web_insert) 65 = .ok (.getfield 15, 3) ∧
  fldT 10 15 = some (10, 1, 2) ∧
  decode (cM m_Web_insert) 68 = .ok (.iload 6, 2) ∧
  decode (cM m_Web_insert) 70 = .ok (.aload_n 0, 1) ∧
  decode (cM m_Web_insert) 71 = .ok (.getfield 15, 3) ∧
  decode (cM m_Web_insert) 74 = .ok (.iload 6, 2) ∧
  decode (cM m_Web_insert) 76 = .ok (.iconst 1, 1) ∧
  decode (cM m_Web_insert) 77 = .ok (.isub, 1) ∧
  decode (cM m_Web_insert) 78 = .ok (.iaload, 1) ∧
  decode (cM m_Web_insert) 79 = .ok (.iastore, 1) ∧
  decode (cM m_Web_insert) 80 = .ok (.aload_n 0, 1) ∧
  decode (cM m_Web_insert) 81 = .ok (.getfield 18, 3) ∧
  fldT 10 18 = some (10, 2, 2) ∧
  decode (cM m_Web_insert) 84 = .ok (.iload 6, 2) ∧
  decode (cM m_Web_insert) 86 = .ok (.aload_n 0, 1) ∧
  decode (cM m_Web_insert) 87 = .ok (.getfield 18, 3) ∧
  decode (cM m_Web_insert) 90 = .ok (.iload 6, 2) ∧
  decode (cM m_Web_insert) 92 = .ok (.iconst 1, 1) ∧
  decode (cM m_Web_insert) 93 = .ok (.isub, 1) ∧
  decode (cM m_Web_insert) 94 = .ok (.iaload, 1) ∧
  decode (cM m_Web_insert) 95 = .ok (.iastore, 1) ∧
  decode (cM m_Web_insert) 96 = .ok (.aload_n 0, 1) ∧
  decode (cM m_Web_insert) 97 = .ok (.getfield 21, 3) ∧
  decode (cM m_Web_insert) 100 = .ok (.iload 6, 2) ∧
  decode (cM m_Web_insert) 102 = .ok (.aload_n 0, 1) ∧
  decode (cM m_Web_insert) 103 = .ok (.getfield 21, 3) ∧
  decode (cM m_Web_insert) 106 = .ok (.iload 6, 2) ∧
  decode (cM m_Web_insert) 108 = .ok (.iconst 1, 1) ∧
  decode (cM m_Web_insert) 109 = .ok (.isub, 1) ∧
  decode (cM m_Web_insert) 110 = .ok (.iaload, 1) ∧
  decode (cM m_Web_insert) 111 = .ok (.iastore, 1) ∧
  decode (cM m_Web_insert) 112 = .ok (.iload 6, 2) ∧
  decode (cM m_Web_insert) 114 = .ok (.iconst 1, 1) ∧
  decode (cM m_Web_insert) 115 = .ok (.isub, 1) ∧
  decode (cM m_Web_insert) 116 = .ok (.istore 5, 2) ∧
  decode (cM m_Web_insert) 118 = .ok (.iinc 6 (-1), 3) ∧
  decode (cM m_Web_insert) 121 = .ok (.goto (-92), 3) ∧
  am_okt 121 (-92) ∧
  am_tgt 121 (-92) = 29 ∧
  decode (cM m_Web_insert) 124 = .ok (.aload_n 0, 1) ∧
  decode (cM m_Web_insert) 125 = .ok (.getfield 9, 3) ∧
  decode (cM m_Web_insert) 128 = .ok (.iload 5, 2) ∧
  decode (cM m_Web_insert) 130 = .ok (.iload_n 1, 1) ∧
  decode (cM m_Web_insert) 131 = .ok (.iastore, 1) ∧
  decode (cM m_Web_insert) 132 = .ok (.aload_n 0, 1) ∧
  decode (cM m_Web_insert) 133 = .ok (.getfield 15, 3) ∧
  decode (cM m_Web_insert) 136 = .ok (.iload 5, 2) ∧
  decode (cM m_Web_insert) 138 = .ok (.iload_n 2, 1) ∧
  decode (cM m_Web_insert) 139 = .ok (.iastore, 1) ∧
  decode (cM m_Web_insert) 140 = .ok (.aload_n 0, 1) ∧
  decode (cM m_Web_insert) 141 = .ok (.getfield 18, 3) ∧
  decode (cM m_Web_insert) 144 = .ok (.iload 5, 2) ∧
  decode (cM m_Web_insert) 146 = .ok (.iload_n 3, 1) ∧
  decode (cM m_Web_insert) 147 = .ok (.iastore, 1) ∧
  decode (cM m_Web_insert) 148 = .ok (.aload_n 0, 1) ∧
  decode (cM m_Web_insert) 149 = .ok (.getfield 21, 3) ∧
  decode (cM m_Web_insert) 152 = .ok (.iload 5, 2) ∧
  decode (cM m_Web_insert) 154 = .ok (.iload 4, 2) ∧
  decode (cM m_Web_insert) 156 = .ok (.iastore, 1) ∧
  decode (cM m_Web_insert) 157 = .ok (.aload_n 0, 1) ∧
  decode (cM m_Web_insert) 158 = .ok (.dup, 1) ∧
  decode (cM m_Web_insert) 159 = .ok (.getfield 34, 3) ∧
  decode (cM m_Web_insert) 162 = .ok (.iconst 1, 1) ∧
  decode (cM m_Web_insert) 163 = .ok (.iadd, 1) ∧
  decode (cM m_Web_insert) 164 = .ok (.putfield 34, 3) ∧
  decode (cM m_Web_insert) 167 = .ok (.return_, 1) :=
  ⟨rfl, rfl, rfl, rfl, by decide +kernel, by decide +kernel, rfl, by decide +kernel, rfl, rfl, by decide +kernel, by decide +kernel, by decide +kernel, by decide +kernel, rfl, rfl, by decide +kernel, by decide +kernel, by decide +kernel, by decide +kernel, by decide +kernel, by decide +kernel, by decide +kernel, by decide +kernel, by decide +kernel, rfl, rfl, by decide +kernel, by decide +kernel, rfl, by decide +kernel, by decide +kernel, by decide +kernel, by decide +kernel, by decide +kernel, by decide +kernel, rfl, rfl, by decide +kernel, by decide +kernel, rfl, by decide +kernel, by decide +kernel, by decide +kernel, by decide +kernel, by decide +kernel, by decide +kernel, by decide +kernel, by decide +kernel, by decide +kernel, by decide +kernel, rfl, by decide +kernel, by decide +kernel, by decide +kernel, by decide +kernel, by decide +kernel, by decide +kernel, by decide +kernel, by decide +kernel, by decide +kernel, by decide +kernel, rfl, by decide +kernel, by decide +kernel, by decide +kernel, by decide +kernel, by decide +kernel, by decide +kernel, by decide +kernel, by decide +kernel, by decide +kernel, by decide +kernel, by decide +kernel, by decide +kernel, by decide +kernel, by decide +kernel, by decide +kernel, by decide +kernel, by decide +kernel, by decide +kernel, by decide +kernel, by decide +kernel, by decide +kernel, by decide +kernel, by decide +kernel, by decide +kernel, rfl, rfl, by decide +kernel, by decide +kernel, by decide +kernel, by decide +kernel, by decide +kernel, by decide +kernel, by decide +kernel, by decide +kernel, by decide +kernel, by decide +kernel, by decide +kernel, by decide +kernel, by decide +kernel, by decide +kernel, by decide +kernel, by decide +kernel, by decide +kernel, by decide +kernel, by decide +kernel, by decide +kernel, by decide +kernel, by decide +kernel, by decide +kernel, by decide +kernel, by decide +kernel, by decide +kernel, by decide +kernel⟩
set_option maxRecDepth 100000 in
set_option maxHeartbeats 4000000 in
theorem C_Web_tieAll : oM m_Web_tieAll = 10 ∧
  rkM m_Web_tieAll = 0 ∧
  dM m_Web_tieAll = 2 ∧
  lM m_Web_tieAll = 4 ∧
  decode (cM m_Web_tieAll) 0 = .ok (.iconst 0, 1) ∧
  decode (cM m_Web_tieAll) 1 = .ok (.istore_n 1, 1) ∧
  decode (cM m_Web_tieAll) 2 = .ok (.iload_n 1, 1) ∧
  decode (cM m_Web_tieAll) 3 = .ok (.bipush 8, 2) ∧
  decode (cM m_Web_tieAll) 5 = .ok (.if_icmp .ge 23, 3) ∧
  am_okt 5 23 ∧
  am_tgt 5 23 = 28 ∧
  decode (cM m_Web_tieAll) 8 = .ok (.aload_n 0, 1) ∧
  decode (cM m_Web_tieAll) 9 = .ok (.getfield 28, 3) ∧
  fldT 10 28 = some (10, 5, 2) ∧
  decode (cM m_Web_tieAll) 12 = .ok (.iload_n 1, 1) ∧
  decode (cM m_Web_tieAll) 13 = .ok (.iload_n 1, 1) ∧
  decode (cM m_Web_tieAll) 14 = .ok (.iastore, 1) ∧
  decode (cM m_Web_tieAll) 15 = .ok (.aload_n 0, 1) ∧
  decode (cM m_Web_tieAll) 16 = .ok (.getfield 31, 3) ∧
  fldT 10 31 = some (10, 6, 2) ∧
  decode (cM m_Web_tieAll) 19 = .ok (.iload_n 1, 1) ∧
  decode (cM m_Web_tieAll) 20 = .ok (.iconst 0, 1) ∧
  decode (cM m_Web_tieAll) 21 = .ok (.iastore, 1) ∧
  decode (cM m_Web_tieAll) 22 = .ok (.iinc 1 1, 3) ∧
  decode (cM m_Web_tieAll) 25 = .ok (.goto (-23), 3) ∧
  am_okt 25 (-23) ∧
  am_tgt 25 (-23) = 2 ∧
  decode (cM m_Web_tieAll) 28 = .ok (.iconst 0, 1) ∧
  decode (cM m_Web_tieAll) 29 = .ok (.istore_n 1, 1) ∧
  decode (cM m_Web_tieAll) 30 = .ok (.iload_n 1, 1) ∧
  decode (cM m_Web_tieAll) 31 = .ok (.aload_n 0, 1) ∧
  decode (cM m_Web_tieAll) 32 = .ok (.getfield 34, 3) ∧
  fldT 10 34 = some (10, 7, 0) ∧
  decode (cM m_Web_tieAll) 35 = .ok (.if_icmp .ge 94, 3) ∧
  am_okt 35 94 ∧
  am_tgt 35 94 = 129 ∧
  decode (cM m_Web_tieAll) 38 = .ok (.iload_n 1, 1) ∧
  decode (cM m_Web_tieAll) 39 = .ok (.bipush 28, 2) ∧
  decode (cM m_Web_tieAll) 41 = .ok (.if_icmp .ge 88, 3) ∧
  am_okt 41 88 ∧
  am_tgt 41 88 = 129 ∧
  decode (cM m_Web_tieAll) 44 = .ok (.aload_n 0, 1) ∧
  decode (cM m_Web_tieAll) 45 = .ok (.getfield 9, 3) ∧
  fldT 10 9 = some (10, 0, 2) ∧
  decode (cM m_Web_tieAll) 48 = .ok (.iload_n 1, 1) ∧
  decode (cM m_Web_tieAll) 49 = .ok (.iaload, 1) ∧
  decode (cM m_Web_tieAll) 50 = .ok (.istore_n 2, 1) ∧
  decode (cM m_Web_tieAll) 51 = .ok (.aload_n 0, 1) ∧
  decode (cM m_Web_tieAll) 52 = .ok (.getfield 15, 3) ∧
  fldT 10 15 = some (10, 1, 2) ∧
  decode (cM m_Web_tieAll) 55 = .ok (.iload_n 1, 1) ∧
  decode (cM m_Web_tieAll) 56 = .ok (.iaload, 1) ∧
  decode (cM m_Web_tieAll) 57 = .ok (.istore_n 3, 1) ∧
  decode (cM m_Web_tieAll) 58 = .ok (.aload_n 0, 1) ∧
  decode (cM m_Web_tieAll) 59 = .ok (.getfield 24, 3) ∧
  fldT 10 24 = some (10, 4, 2) ∧
  decode (cM m_Web_tieAll) 62 = .ok (.iload_n 1, 1) ∧
  decode (cM m_Web_tieAll) 63 = .ok (.aload_n 0, 1) ∧
  decode (cM m_Web_tieAll) 64 = .ok (.iload_n 2, 1) ∧
  decode (cM m_Web_tieAll) 65 = .ok (.invokevirtual 79, 3) ∧
  invT 10 79 = some (m_Web_leastOfPiece, 0) ∧
  nM m_Web_leastOfPiece = 2 ∧
  oM m_Web_leastOfPiece = 10 ∧
  rkM m_Web_leastOfPiece = 1 ∧
  dM m_Web_leastOfPiece = 0 ∧
  decode (cM m_Web_tieAll) 68 = .ok (.aload_n 0, 1) ∧
  decode (cM m_Web_tieAll) 69 = .ok (.iload_n 3, 1) ∧
  decode (cM m_Web_tieAll) 70 = .ok (.invokevirtual 79, 3) ∧
  decode (cM m_Web_tieAll) 73 = .ok (.if_icmp .eq 7, 3) ∧
  am_okt 73 7 ∧
  am_tgt 73 7 = 80 ∧
  decode (cM m_Web_tieAll) 76 = .ok (.iconst 1, 1) ∧
  decode (cM m_Web_tieAll) 77 = .ok (.goto 4, 3) ∧
  am_okt 77 4 ∧
  am_tgt 77 4 = 81 ∧
  decode (cM m_Web_tieAll) 80 = .ok (.iconst 0, 1) ∧
  decode (cM m_Web_tieAll) 81 = .ok (.bastore, 1) ∧
  decode (cM m_Web_tieAll) 82 = .ok (.aload_n 0, 1) ∧
  decode (cM m_Web_tieAll) 83 = .ok (.getfield 24, 3) ∧
  decode (cM m_Web_tieAll) 86 = .ok (.iload_n 1, 1) ∧
  decode (cM m_Web_tieAll) 87 = .ok (.baload, 1) ∧
  decode (cM m_Web_tieAll) 88 = .ok (.ifCond .eq 35, 3) ∧
  am_okt 88 35 ∧
  am_tgt 88 35 = 123 ∧
  decode (cM m_Web_tieAll) 91 = .ok (.aload_n 0, 1) ∧
  decode (cM m_Web_tieAll) 92 = .ok (.aload_n 0, 1) ∧
  decode (cM m_Web_tieAll) 93 = .ok (.iload_n 2, 1) ∧
  decode (cM m_Web_tieAll) 94 = .ok (.invokevirtual 79, 3) ∧
  decode (cM m_Web_tieAll) 97 = .ok (.aload_n 0, 1) ∧
  decode (cM m_Web_tieAll) 98 = .ok (.iload_n 3, 1) ∧
  decode (cM m_Web_tieAll) 99 = .ok (.invokevirtual 79, 3) ∧
  decode (cM m_Web_tieAll) 102 = .ok (.aload_n 0, 1) ∧
  decode (cM m_Web_tieAll) 103 = .ok (.iload_n 2, 1) ∧
  decode (cM m_Web_tieAll) 104 = .ok (.invokevirtual 83, 3) ∧
  invT 10 83 = some (m_Web_placeOf, 0) ∧
  nM m_Web_placeOf = 2 ∧
  oM m_Web_placeOf = 10 ∧
  rkM m_Web_placeOf = 1 ∧
  dM m_Web_placeOf = 0 ∧
  decode (cM m_Web_tieAll) 107 = .ok (.aload_n 0, 1) ∧
  decode (cM m_Web_tieAll) 108 = .ok (.getfield 18, 3) ∧
  fldT 10 18 = some (10, 2, 2) ∧
  decode (cM m_Web_tieAll) 111 = .ok (.iload_n 1, 1) ∧
  decode (cM m_Web_tieAll) 112 = .ok (.iaload, 1) ∧
  decode (cM m_Web_tieAll) 113 = .ok (.iadd, 1) ∧
  decode (cM m_Web_tieAll) 114 = .ok (.aload_n 0, 1) ∧
  decode (cM m_Web_tieAll) 115 = .ok (.iload_n 3, 1) ∧
  decode (cM m_Web_tieAll) 116 = .ok (.invokevirtual 83, 3) ∧
  decode (cM m_Web_tieAll) 119 = .ok (.isub, 1) ∧
  decode (cM m_Web_tieAll) 120 = .ok (.invokevirtual 86, 3) ∧
  invT 10 86 = some (m_Web_join, 0) ∧
  nM m_Web_join = 4 ∧
  oM m_Web_join = 10 ∧
  rkM m_Web_join = 0 ∧
  dM m_Web_join = 1 ∧
  decode (cM m_Web_tieAll) 123 = .ok (.iinc 1 1, 3) ∧
  decode (cM m_Web_tieAll) 126 = .ok (.goto (-96), 3) ∧
  am_okt 126 (-96) ∧
  am_tgt 126 (-96) = 30 ∧
  decode (cM m_Web_tieAll) 129 = .ok (.return_, 1) :=
  ⟨rfl, rfl, rfl, rfl, by decide +kernel, by decide +kernel, by decide +kernel, by decide +kernel, by decide +kernel, rfl, rfl, by decide +kernel, by decide +kernel, rfl, by decide +kernel, by decide +kernel, by decide +kernel, by decide +kernel, by decide +kernel, rfl, by decide +kernel, by decide +kernel, by decide +kernel, by decide +kernel, by decide +kernel, rfl, rfl, by decide +kernel, by decide +kernel, by decide +kernel, by decide +kernel, by decide +kernel, rfl, by decide +kernel, rfl, rfl, by decide +kernel, by decide +kernel, by decide +kernel, rfl, rfl, by decide +kernel, by decide +kernel, rfl, by decide +kernel, by decide +kernel, by decide +kernel, by decide +kernel, by decide +kernel, rfl, by decide +kernel, by decide +kernel, by decide +kernel, by decide +kernel, by decide +kernel, rfl, by decide +kernel, by decide +kernel, by decide +kernel, by decide +kernel, rfl, rfl, rfl, rfl, rfl, by decide +kernel, by decide +kernel, by decide +kernel, by decide +kernel, rfl, rfl, by decide +kernel, by decide +kernel, rfl, rfl, by decide +kernel, by decide +kernel, by decide +kernel, by decide +kernel, by decide +kernel, by decide +kernel, by decide +kernel, rfl, rfl, by decide +kernel, by decide +kernel, by decide +kernel, by decide +kernel, by decide +kernel, by decide +kernel, by decide +kernel, by decide +kernel, by decide +kernel, by decide +kernel, rfl, rfl, rfl, rfl, rfl, by decide +kernel, by decide +kernel, rfl, by decide +kernel, by decide +kernel, by decide +kernel, by decide +kernel, by decide +kernel, by decide +kernel, by decide +kernel, by decide +kernel, rfl, rfl, rfl, rfl, rfl, by decide +kernel, by decide +kernel, rfl, rfl, by decide +kernel⟩
set_option maxRecDepth 100000 in
set_option maxHeartbeats 4000000 in
theorem C_Web_leastOfPiece : oM m_Web_leastOfPiece = 10 ∧
  rkM m_Web_leastOfPiece = 1 ∧
  dM m_Web_leastOfPiece = 0 ∧
  lM m_Web_leastOfPiece = 2 ∧
  decode (cM m_Web_leastOfPiece) 0 = .ok (.iload_n 1, 1) ∧
  decode (cM m_Web_leastOfPiece) 1 = .ok (.ifCond .lt 18, 3) ∧
  am_okt 1 18 ∧
  am_tgt 1 18 = 19 ∧
  decode (cM m_Web_leastOfPiece) 4 = .ok (.iload_n 1, 1) ∧
  decode (cM m_Web_leastOfPiece) 5 = .ok (.bipush 8, 2) ∧
  decode (cM m_Web_leastOfPiece) 7 = .ok (.if_icmp .ge 12, 3) ∧
  am_okt 7 12 ∧
  am_tgt 7 12 = 19 ∧
  decode (cM m_Web_leastOfPiece) 10 = .ok (.aload_n 0, 1) ∧
  decode (cM m_Web_leastOfPiece) 11 = .ok (.getfield 28, 3) ∧
  fldT 10 28 = some (10, 5, 2) ∧
  decode (cM m_Web_leastOfPiece) 14 = .ok (.iload_n 1, 1) ∧
  decode (cM m_Web_leastOfPiece) 15 = .ok (.iaload, 1) ∧
  decode (cM m_Web_leastOfPiece) 16 = .ok (.goto 4, 3) ∧
  am_okt 16 4 ∧
  am_tgt 16 4 = 20 ∧
  decode (cM m_Web_leastOfPiece) 19 = .ok (.iconst (-1), 1) ∧
  decode (cM m_Web_leastOfPiece) 20 = .ok (.ireturn, 1) :=
  ⟨rfl, rfl, rfl, rfl, by decide +kernel, by decide +kernel, rfl, rfl, by decide +kernel, by decide +kernel, by decide +kernel, rfl, rfl, by decide +kernel, by decide +kernel, rfl, by decide +kernel, by decide +kernel, by decide +kernel, rfl, rfl, by decide +kernel, by decide +kernel⟩
set_option maxRecDepth 100000 in
set_option maxHeartbeats 4000000 in
theorem C_Web_placeOf : oM m_Web_placeOf = 10 ∧
  rkM m_Web_placeOf = 1 ∧
  dM m_Web_placeOf = 0 ∧
  lM m_Web_placeOf = 2 ∧
  decode (cM m_Web_placeOf) 0 = .ok (.iload_n 1, 1) ∧
  decode (cM m_Web_placeOf) 1 = .ok (.ifCond .lt 18, 3) ∧
  am_okt 1 18 ∧
  am_tgt 1 18 = 19 ∧
  decode (cM m_Web_placeOf) 4 = .ok (.iload_n 1, 1) ∧
  decode (cM m_Web_placeOf) 5 = .ok (.bipush 8, 2) ∧
  decode (cM m_Web_placeOf) 7 = .ok (.if_icmp .ge 12, 3) ∧
  am_okt 7 12 ∧
  am_tgt 7 12 = 19 ∧
  decode (cM m_Web_placeOf) 10 = .ok (.aload_n 0, 1) ∧
  decode (cM m_Web_placeOf) 11 = .ok (.getfield 31, 3) ∧
  fldT 10 31 = some (10, 6, 2) ∧
  decode (cM m_Web_placeOf) 14 = .ok (.iload_n 1, 1) ∧
  decode (cM m_Web_placeOf) 15 = .ok (.iaload, 1) ∧
  decode (cM m_Web_placeOf) 16 = .ok (.goto 4, 3) ∧
  am_okt 16 4 ∧
  am_tgt 16 4 = 20 ∧
  decode (cM m_Web_placeOf) 19 = .ok (.iconst 0, 1) ∧
  decode (cM m_Web_placeOf) 20 = .ok (.ireturn, 1) :=
  ⟨rfl, rfl, rfl, rfl, by decide +kernel, by decide +kernel, rfl, rfl, by decide +kernel, by decide +kernel, by decide +kernel, rfl, rfl, by decide +kernel, by decide +kernel, rfl, by decide +kernel, by decide +kernel, by decide +kernel, rfl, rfl, by decide +kernel, by decide +kernel⟩
set_option maxRecDepth 100000 in
set_option maxHeartbeats 4000000 in
theorem C_Web_join : oM m_Web_join = 10 ∧
  rkM m_Web_join = 0 ∧
  dM m_Web_join = 1 ∧
  lM m_Web_join = 6 ∧
  decode (cM m_Web_join) 0 = .ok (.iload_n 1, 1) ∧
  decode (cM m_Web_join) 1 = .ok (.iload_n 2, 1) ∧
  decode (cM m_Web_join) 2 = .ok (.invokestatic 90, 3) ∧
  invT 10 90 = some (0, 4) ∧
  decode (cM m_Web_join) 5 = .ok (.istore 4, 2) ∧
  decode (cM m_Web_join) 7 = .ok (.iconst 0, 1) ∧
  decode (cM m_Web_join) 8 = .ok (.istore 5, 2) ∧
  decode (cM m_Web_join) 10 = .ok (.iload 5, 2) ∧
  decode (cM m_Web_join) 12 = .ok (.bipush 8, 2) ∧
  decode (cM m_Web_join) 14 = .ok (.if_icmp .ge 86, 3) ∧
  am_okt 14 86 ∧
  am_tgt 14 86 = 100 ∧
  decode (cM m_Web_join) 17 = .ok (.iload 4, 2) ∧
  decode (cM m_Web_join) 19 = .ok (.iload_n 1, 1) ∧
  decode (cM m_Web_join) 20 = .ok (.if_icmp .ne 37, 3) ∧
  am_okt 20 37 ∧
  am_tgt 20 37 = 57 ∧
  decode (cM m_Web_join) 23 = .ok (.aload_n 0, 1) ∧
  decode (cM m_Web_join) 24 = .ok (.getfield 28, 3) ∧
  fldT 10 28 = some (10, 5, 2) ∧
  decode (cM m_Web_join) 27 = .ok (.iload 5, 2) ∧
  decode (cM m_Web_join) 29 = .ok (.iaload, 1) ∧
  decode (cM m_Web_join) 30 = .ok (.iload_n 2, 1) ∧
  decode (cM m_Web_join) 31 = .ok (.if_icmp .ne 26, 3) ∧
  am_okt 31 26 ∧
  am_tgt 31 26 = 57 ∧
  decode (cM m_Web_join) 34 = .ok (.aload_n 0, 1) ∧
  decode (cM m_Web_join) 35 = .ok (.getfield 28, 3) ∧
  decode (cM m_Web_join) 38 = .ok (.iload 5, 2) ∧
  decode (cM m_Web_join) 40 = .ok (.iload 4, 2) ∧
  decode (cM m_Web_join) 42 = .ok (.iastore, 1) ∧
  decode (cM m_Web_join) 43 = .ok (.aload_n 0, 1) ∧
  decode (cM m_Web_join) 44 = .ok (.getfield 31, 3) ∧
  fldT 10 31 = some (10, 6, 2) ∧
  decode (cM m_Web_join) 47 = .ok (.iload 5, 2) ∧
  decode (cM m_Web_join) 49 = .ok (.dup2, 1) ∧
  decode (cM m_Web_join) 50 = .ok (.iaload, 1) ∧
  decode (cM m_Web_join) 51 = .ok (.iload_n 3, 1) ∧
  decode (cM m_Web_join) 52 = .ok (.iadd, 1) ∧
  decode (cM m_Web_join) 53 = .ok (.iastore, 1) ∧
  decode (cM m_Web_join) 54 = .ok (.goto 40, 3) ∧
  am_okt 54 40 ∧
  am_tgt 54 40 = 94 ∧
  decode (cM m_Web_join) 57 = .ok (.iload 4, 2) ∧
  decode (cM m_Web_join) 59 = .ok (.iload_n 2, 1) ∧
  decode (cM m_Web_join) 60 = .ok (.if_icmp .ne 34, 3) ∧
  am_okt 60 34 ∧
  am_tgt 60 34 = 94 ∧
  decode (cM m_Web_join) 63 = .ok (.aload_n 0, 1) ∧
  decode (cM m_Web_join) 64 = .ok (.getfield 28, 3) ∧
  decode (cM m_Web_join) 67 = .ok (.iload 5, 2) ∧
  decode (cM m_Web_join) 69 = .ok (.iaload, 1) ∧
  decode (cM m_Web_join) 70 = .ok (.iload_n 1, 1) ∧
  decode (cM m_Web_join) 71 = .ok (.if_icmp .ne 23, 3) ∧
  am_okt 71 23 ∧
  am_tgt 71 23 = 94 ∧
  decode (cM m_Web_join) 74 = .ok (.aload_n 0, 1) ∧
  decode (cM m_Web_join) 75 = .ok (.getfield 28, 3) ∧
  decode (cM m_Web_join) 78 = .ok (.iload 5, 2) ∧
  decode (cM m_Web_join) 80 = .ok (.iload 4, 2) ∧
  decode (cM m_Web_join) 82 = .ok (.iastore, 1) ∧
  decode (cM m_Web_join) 83 = .ok (.aload_n 0, 1) ∧
  decode (cM m_Web_join) 84 = .ok (.getfield 31, 3) ∧
  decode (cM m_Web_join) 87 = .ok (.iload 5, 2) ∧
  decode (cM m_Web_join) 89 = .ok (.dup2, 1) ∧
  decode (cM m_Web_join) 90 = .ok (.iaload, 1) ∧
  decode (cM m_Web_join) 91 = .ok (.iload_n 3, 1) ∧
  decode (cM m_Web_join) 92 = .ok (.isub, 1) ∧
  decode (cM m_Web_join) 93 = .ok (.iastore, 1) ∧
  decode (cM m_Web_join) 94 = .ok (.iinc 5 1, 3) ∧
  decode (cM m_Web_join) 97 = .ok (.goto (-87), 3) ∧
  am_okt 97 (-87) ∧
  am_tgt 97 (-87) = 10 ∧
  decode (cM m_Web_join) 100 = .ok (.return_, 1) :=
  ⟨rfl, rfl, rfl, rfl, by decide +kernel, by decide +kernel, by decide +kernel, rfl, by decide +kernel, by decide +kernel, by decide +kernel, by decide +kernel, by decide +kernel, by decide +kernel, rfl, rfl, by decide +kernel, by decide +kernel, by decide +kernel, rfl, rfl, by decide +kernel, by decide +kernel, rfl, by decide +kernel, by decide +kernel, by decide +kernel, by decide +kernel, rfl, rfl, by decide +kernel, by decide +kernel, by decide +kernel, by decide +kernel, by decide +kernel, by decide +kernel, by decide +kernel, rfl, by decide +kernel, by decide +kernel, by decide +kernel, by decide +kernel, by decide +kernel, by decide +kernel, by decide +kernel, rfl, rfl, by decide +kernel, by decide +kernel, by decide +kernel, rfl, rfl, by decide +kernel, by decide +kernel, by decide +kernel, by decide +kernel, by decide +kernel, by decide +kernel, rfl, rfl, by decide +kernel, by decide +kernel, by decide +kernel, by decide +kernel, by decide +kernel, by decide +kernel, by decide +kernel, by decide +kernel, by decide +kernel, by decide +kernel, by decide +kernel, by decide +kernel, by decide +kernel, by decide +kernel, by decide +kernel, rfl, rfl, by decide +kernel⟩
set_option maxRecDepth 100000 in
set_option maxHeartbeats 4000000 in
theorem C_Web_countPieces : oM m_Web_countPieces = 10 ∧
  rkM m_Web_countPieces = 1 ∧
  dM m_Web_countPieces = 1 ∧
  lM m_Web_countPieces = 4 ∧
  decode (cM m_Web_countPieces) 0 = .ok (.iconst 0, 1) ∧
  decode (cM m_Web_countPieces) 1 = .ok (.istore_n 2, 1) ∧
  decode (cM m_Web_countPieces) 2 = .ok (.iconst 0, 1) ∧
  decode (cM m_Web_countPieces) 3 = .ok (.istore_n 3, 1) ∧
  decode (cM m_Web_countPieces) 4 = .ok (.iload_n 3, 1) ∧
  decode (cM m_Web_countPieces) 5 = .ok (.iload_n 1, 1) ∧
  decode (cM m_Web_countPieces) 6 = .ok (.if_icmp .ge 26, 3) ∧
  am_okt 6 26 ∧
  am_tgt 6 26 = 32 ∧
  decode (cM m_Web_countPieces) 9 = .ok (.iload_n 2, 1) ∧
  decode (cM m_Web_countPieces) 10 = .ok (.aload_n 0, 1) ∧
  decode (cM m_Web_countPieces) 11 = .ok (.iload_n 3, 1) ∧
  decode (cM m_Web_countPieces) 12 = .ok (.invokevirtual 79, 3) ∧
  invT 10 79 = some (m_Web_leastOfPiece, 0) ∧
  nM m_Web_leastOfPiece = 2 ∧
  oM m_Web_leastOfPiece = 10 ∧
  rkM m_Web_leastOfPiece = 1 ∧
  dM m_Web_leastOfPiece = 0 ∧
  decode (cM m_Web_countPieces) 15 = .ok (.iload_n 3, 1) ∧
  decode (cM m_Web_countPieces) 16 = .ok (.if_icmp .ne 7, 3) ∧
  am_okt 16 7 ∧
  am_tgt 16 7 = 23 ∧
  decode (cM m_Web_countPieces) 19 = .ok (.iconst 1, 1) ∧
  decode (cM m_Web_countPieces) 20 = .ok (.goto 4, 3) ∧
  am_okt 20 4 ∧
  am_tgt 20 4 = 24 ∧
  decode (cM m_Web_countPieces) 23 = .ok (.iconst 0, 1) ∧
  decode (cM m_Web_countPieces) 24 = .ok (.iadd, 1) ∧
  decode (cM m_Web_countPieces) 25 = .ok (.istore_n 2, 1) ∧
  decode (cM m_Web_countPieces) 26 = .ok (.iinc 3 1, 3) ∧
  decode (cM m_Web_countPieces) 29 = .ok (.goto (-25), 3) ∧
  am_okt 29 (-25) ∧
  am_tgt 29 (-25) = 4 ∧
  decode (cM m_Web_countPieces) 32 = .ok (.iload_n 2, 1) ∧
  decode (cM m_Web_countPieces) 33 = .ok (.ireturn, 1) :=
  ⟨rfl, rfl, rfl, rfl, by decide +kernel, by decide +kernel, by decide +kernel, by decide +kernel, by decide +kernel, by decide +kernel, by decide +kernel, rfl, rfl, by decide +kernel, by decide +kernel, by decide +kernel, by decide +kernel, rfl, rfl, rfl, rfl, rfl, by decide +kernel, by decide +kernel, rfl, rfl, by decide +kernel, by decide +kernel, rfl, rfl, by decide +kernel, by decide +kernel, by decide +kernel, by decide +kernel, by decide +kernel, rfl, rfl, by decide +kernel, by decide +kernel⟩
set_option maxRecDepth 100000 in
set_option maxHeartbeats 4000000 in
theorem C_Web_countAgainst : oM m_Web_countAgainst = 10 ∧
  rkM m_Web_countAgainst = 1 ∧
  dM m_Web_countAgainst = 1 ∧
  lM m_Web_countAgainst = 4 ∧
  decode (cM m_Web_countAgainst) 0 = .ok (.iconst 0, 1) ∧
  decode (cM m_Web_countAgainst) 1 = .ok (.istore_n 1, 1) ∧
  decode (cM m_Web_countAgainst) 2 = .ok (.iconst 0, 1) ∧
  decode (cM m_Web_countAgainst) 3 = .ok (.istore_n 2, 1) ∧
  decode (cM m_Web_countAgainst) 4 = .ok (.iload_n 2, 1) ∧
  decode (cM m_Web_countAgainst) 5 = .ok (.aload_n 0, 1) ∧
  decode (cM m_Web_countAgainst) 6 = .ok (.getfield 34, 3) ∧
  fldT 10 34 = some (10, 7, 0) ∧
  decode (cM m_Web_countAgainst) 9 = .ok (.if_icmp .ge 72, 3) ∧
  am_okt 9 72 ∧
  am_tgt 9 72 = 81 ∧
  decode (cM m_Web_countAgainst) 12 = .ok (.iload_n 2, 1) ∧
  decode (cM m_Web_countAgainst) 13 = .ok (.bipush 28, 2) ∧
  decode (cM m_Web_countAgainst) 15 = .ok (.if_icmp .ge 66, 3) ∧
  am_okt 15 66 ∧
  am_tgt 15 66 = 81 ∧
  decode (cM m_Web_countAgainst) 18 = .ok (.aload_n 0, 1) ∧
  decode (cM m_Web_countAgainst) 19 = .ok (.aload_n 0, 1) ∧
  decode (cM m_Web_countAgainst) 20 = .ok (.getfield 15, 3) ∧
  fldT 10 15 = some (10, 1, 2) ∧
  decode (cM m_Web_countAgainst) 23 = .ok (.iload_n 2, 1) ∧
  decode (cM m_Web_countAgainst) 24 = .ok (.iaload, 1) ∧
  decode (cM m_Web_countAgainst) 25 = .ok (.invokevirtual 83, 3) ∧
  invT 10 83 = some (m_Web_placeOf, 0) ∧
  nM m_Web_placeOf = 2 ∧
  oM m_Web_placeOf = 10 ∧
  rkM m_Web_placeOf = 1 ∧
  dM m_Web_placeOf = 0 ∧
  decode (cM m_Web_countAgainst) 28 = .ok (.aload_n 0, 1) ∧
  decode (cM m_Web_countAgainst) 29 = .ok (.aload_n 0, 1) ∧
  decode (cM m_Web_countAgainst) 30 = .ok (.getfield 9, 3) ∧
  fldT 10 9 = some (10, 0, 2) ∧
  decode (cM m_Web_countAgainst) 33 = .ok (.iload_n 2, 1) ∧
  decode (cM m_Web_countAgainst) 34 = .ok (.iaload, 1) ∧
  decode (cM m_Web_countAgainst) 35 = .ok (.invokevirtual 83, 3) ∧
  decode (cM m_Web_countAgainst) 38 = .ok (.isub, 1) ∧
  decode (cM m_Web_countAgainst) 39 = .ok (.aload_n 0, 1) ∧
  decode (cM m_Web_countAgainst) 40 = .ok (.getfield 18, 3) ∧
  fldT 10 18 = some (10, 2, 2) ∧
  decode (cM m_Web_countAgainst) 43 = .ok (.iload_n 2, 1) ∧
  decode (cM m_Web_countAgainst) 44 = .ok (.iaload, 1) ∧
  decode (cM m_Web_countAgainst) 45 = .ok (.if_icmp .eq 7, 3) ∧
  am_okt 45 7 ∧
  am_tgt 45 7 = 52 ∧
  decode (cM m_Web_countAgainst) 48 = .ok (.iconst 1, 1) ∧
  decode (cM m_Web_countAgainst) 49 = .ok (.goto 4, 3) ∧
  am_okt 49 4 ∧
  am_tgt 49 4 = 53 ∧
  decode (cM m_Web_countAgainst) 52 = .ok (.iconst 0, 1) ∧
  decode (cM m_Web_countAgainst) 53 = .ok (.istore_n 3, 1) ∧
  decode (cM m_Web_countAgainst) 54 = .ok (.iload_n 1, 1) ∧
  decode (cM m_Web_countAgainst) 55 = .ok (.aload_n 0, 1) ∧
  decode (cM m_Web_countAgainst) 56 = .ok (.getfield 24, 3) ∧
  fldT 10 24 = some (10, 4, 2) ∧
  decode (cM m_Web_countAgainst) 59 = .ok (.iload_n 2, 1) ∧
  decode (cM m_Web_countAgainst) 60 = .ok (.baload, 1) ∧
  decode (cM m_Web_countAgainst) 61 = .ok (.ifCond .ne 11, 3) ∧
  am_okt 61 11 ∧
  am_tgt 61 11 = 72 ∧
  decode (cM m_Web_countAgainst) 64 = .ok (.iload_n 3, 1) ∧
  decode (cM m_Web_countAgainst) 65 = .ok (.ifCond .eq 7, 3) ∧
  am_okt 65 7 ∧
  am_tgt 65 7 = 72 ∧
  decode (cM m_Web_countAgainst) 68 = .ok (.iconst 1, 1) ∧
  decode (cM m_Web_countAgainst) 69 = .ok (.goto 4, 3) ∧
  am_okt 69 4 ∧
  am_tgt 69 4 = 73 ∧
  decode (cM m_Web_countAgainst) 72 = .ok (.iconst 0, 1) ∧
  decode (cM m_Web_countAgainst) 73 = .ok (.iadd, 1) ∧
  decode (cM m_Web_countAgainst) 74 = .ok (.istore_n 1, 1) ∧
  decode (cM m_Web_countAgainst) 75 = .ok (.iinc 2 1, 3) ∧
  decode (cM m_Web_countAgainst) 78 = .ok (.goto (-74), 3) ∧
  am_okt 78 (-74) ∧
  am_tgt 78 (-74) = 4 ∧
  decode (cM m_Web_countAgainst) 81 = .ok (.iload_n 1, 1) ∧
  decode (cM m_Web_countAgainst) 82 = .ok (.ireturn, 1) :=
  ⟨rfl, rfl, rfl, rfl, by decide +kernel, by decide +kernel, by decide +kernel, by decide +kernel, by decide +kernel, by decide +kernel, by decide +kernel, rfl, by decide +kernel, rfl, rfl, by decide +kernel, by decide +kernel, by decide +kernel, rfl, rfl, by decide +kernel, by decide +kernel, by decide +kernel, rfl, by decide +kernel, by decide +kernel, by decide +kernel, rfl, rfl, rfl, rfl, rfl, by decide +kernel, by decide +kernel, by decide +kernel, rfl, by decide +kernel, by decide +kernel, by decide +kernel, by decide +kernel, by decide +kernel, by decide +kernel, rfl, by decide +kernel, by decide +kernel, by decide +kernel, rfl, rfl, by decide +kernel, by decide +kernel, rfl, rfl, by decide +kernel, by decide +kernel, by decide +kernel, by decide +kernel, by decide +kernel, rfl, by decide +kernel, by decide +kernel, by decide +kernel, rfl, rfl, by decide +kernel, by decide +kernel, rfl, rfl, by decide +kernel, by decide +kernel, rfl, rfl, by decide +kernel, by decide +kernel, by decide +kernel, by decide +kernel, by decide +kernel, rfl, rfl, by decide +kernel, by decide +kernel⟩
set_option maxRecDepth 100000 in
set_option maxHeartbeats 4000000 in
theorem C_Web_tell : oM m_Web_tell = 10 ∧
  rkM m_Web_tell = 1 ∧
  dM m_Web_tell = 0 ∧
  lM m_Web_tell = 3 ∧
  decode (cM m_Web_tell) 0 = .ok (.iload_n 1, 1) ∧
  decode (cM m_Web_tell) 1 = .ok (.ifCond .lt 17, 3) ∧
  am_okt 1 17 ∧
  am_tgt 1 17 = 18 ∧
  decode (cM m_Web_tell) 4 = .ok (.iload_n 1, 1) ∧
  decode (cM m_Web_tell) 5 = .ok (.aload_n 0, 1) ∧
  decode (cM m_Web_tell) 6 = .ok (.getfield 34, 3) ∧
  fldT 10 34 = some (10, 7, 0) ∧
  decode (cM m_Web_tell) 9 = .ok (.if_icmp .ge 9, 3) ∧
  am_okt 9 9 ∧
  am_tgt 9 9 = 18 ∧
  decode (cM m_Web_tell) 12 = .ok (.iload_n 1, 1) ∧
  decode (cM m_Web_tell) 13 = .ok (.bipush 28, 2) ∧
  decode (cM m_Web_tell) 15 = .ok (.if_icmp .lt 5, 3) ∧
  am_okt 15 5 ∧
  am_tgt 15 5 = 20 ∧
  decode (cM m_Web_tell) 18 = .ok (.iconst (-1), 1) ∧
  decode (cM m_Web_tell) 19 = .ok (.ireturn, 1) ∧
  decode (cM m_Web_tell) 20 = .ok (.iload_n 2, 1) ∧
  decode (cM m_Web_tell) 21 = .ok (.tableswitch 59 0 3 #[31, 38, 45, 52], 31) ∧
  am_okt 21 59 ∧
  am_tgt 21 59 = 80 ∧
  am_okt 21 31 ∧
  am_tgt 21 31 = 52 ∧
  am_okt 21 38 ∧
  am_tgt 21 38 = 59 ∧
  am_okt 21 45 ∧
  am_tgt 21 45 = 66 ∧
  am_okt 21 52 ∧
  am_tgt 21 52 = 73 ∧
  decode (cM m_Web_tell) 52 = .ok (.aload_n 0, 1) ∧
  decode (cM m_Web_tell) 53 = .ok (.getfield 9, 3) ∧
  fldT 10 9 = some (10, 0, 2) ∧
  decode (cM m_Web_tell) 56 = .ok (.iload_n 1, 1) ∧
  decode (cM m_Web_tell) 57 = .ok (.iaload, 1) ∧
  decode (cM m_Web_tell) 58 = .ok (.ireturn, 1) ∧
  decode (cM m_Web_tell) 59 = .ok (.aload_n 0, 1) ∧
  decode (cM m_Web_tell) 60 = .ok (.getfield 15, 3) ∧
  fldT 10 15 = some (10, 1, 2) ∧
  decode (cM m_Web_tell) 63 = .ok (.iload_n 1, 1) ∧
  decode (cM m_Web_tell) 64 = .ok (.iaload, 1) ∧
  decode (cM m_Web_tell) 65 = .ok (.ireturn, 1) ∧
  decode (cM m_Web_tell) 66 = .ok (.aload_n 0, 1) ∧
  decode (cM m_Web_tell) 67 = .ok (.getfield 18, 3) ∧
  fldT 10 18 = some (10, 2, 2) ∧
  decode (cM m_Web_tell) 70 = .ok (.iload_n 1, 1) ∧
  decode (cM m_Web_tell) 71 = .ok (.iaload, 1) ∧
  decode (cM m_Web_tell) 72 = .ok (.ireturn, 1) ∧
  decode (cM m_Web_tell) 73 = .ok (.aload_n 0, 1) ∧
  decode (cM m_Web_tell) 74 = .ok (.getfield 21, 3) ∧
  fldT 10 21 = some (10, 3, 2) ∧
  decode (cM m_Web_tell) 77 = .ok (.iload_n 1, 1) ∧
  decode (cM m_Web_tell) 78 = .ok (.iaload, 1) ∧
  decode (cM m_Web_tell) 79 = .ok (.ireturn, 1) ∧
  decode (cM m_Web_tell) 80 = .ok (.aload_n 0, 1) ∧
  decode (cM m_Web_tell) 81 = .ok (.getfield 24, 3) ∧
  fldT 10 24 = some (10, 4, 2) ∧
  decode (cM m_Web_tell) 84 = .ok (.iload_n 1, 1) ∧
  decode (cM m_Web_tell) 85 = .ok (.baload, 1) ∧
  decode (cM m_Web_tell) 86 = .ok (.ifCond .eq 7, 3) ∧
  am_okt 86 7 ∧
  am_tgt 86 7 = 93 ∧
  decode (cM m_Web_tell) 89 = .ok (.iconst 1, 1) ∧
  decode (cM m_Web_tell) 90 = .ok (.goto 4, 3) ∧
  am_okt 90 4 ∧
  am_tgt 90 4 = 94 ∧
  decode (cM m_Web_tell) 93 = .ok (.iconst 0, 1) ∧
  decode (cM m_Web_tell) 94 = .ok (.ireturn, 1) :=
  ⟨rfl, rfl, rfl, rfl, by decide +kernel, by decide +kernel, rfl, rfl, by decide +kernel, by decide +kernel, by decide +kernel, rfl, by decide +kernel, rfl, rfl, by decide +kernel, by decide +kernel, by decide +kernel, rfl, rfl, by decide +kernel, by decide +kernel, by decide +kernel, by decide +kernel, rfl, rfl, rfl, rfl, rfl, rfl, rfl, rfl, rfl, rfl, by decide +kernel, by decide +kernel, rfl, by decide +kernel, by decide +kernel, by decide +kernel, by decide +kernel, by decide +kernel, rfl, by decide +kernel, by decide +kernel, by decide +kernel, by decide +kernel, by decide +kernel, rfl, by decide +kernel, by decide +kernel, by decide +kernel, by decide +kernel, by decide +kernel, rfl, by decide +kernel, by decide +kernel, by decide +kernel, by decide +kernel, by decide +kernel, rfl, by decide +kernel, by decide +kernel, by decide +kernel, rfl, rfl, by decide +kernel, by decide +kernel, rfl, rfl, by decide +kernel, by decide +kernel⟩
set_option maxRecDepth 100000 in
set_option maxHeartbeats 4000000 in
theorem C_RingDater_feed : oM m_RingDater_feed = 11 ∧
  rkM m_RingDater_feed = 1 ∧
  dM m_RingDater_feed = 1 ∧
  lM m_RingDater_feed = 6 ∧
  decode (cM m_RingDater_feed) 0 = .ok (.aload_n 0, 1) ∧
  decode (cM m_RingDater_feed) 1 = .ok (.getfield 12, 3) ∧
  fldT 11 12 = some (11, 0, 2) ∧
  decode (cM m_RingDater_feed) 4 = .ok (.getfield 88, 3) ∧
  fldT 11 88 = some (5, 2, 0) ∧
  decode (cM m_RingDater_feed) 7 = .ok (.bipush 20, 2) ∧
  decode (cM m_RingDater_feed) 9 = .ok (.iadd, 1) ∧
  decode (cM m_RingDater_feed) 10 = .ok (.sipush 900, 3) ∧
  decode (cM m_RingDater_feed) 13 = .ok (.if_icmp .le 5, 3) ∧
  am_okt 13 5 ∧
  am_tgt 13 5 = 18 ∧
  decode (cM m_RingDater_feed) 16 = .ok (.iconst (-1), 1) ∧
  decode (cM m_RingDater_feed) 17 = .ok (.ireturn, 1) ∧
  decode (cM m_RingDater_feed) 18 = .ok (.aload_n 0, 1) ∧
  decode (cM m_RingDater_feed) 19 = .ok (.getfield 12, 3) ∧
  decode (cM m_RingDater_feed) 22 = .ok (.iload_n 1, 1) ∧
  decode (cM m_RingDater_feed) 23 = .ok (.invokevirtual 92, 3) ∧
  invT 11 92 = some (m_Reader_putFour, 0) ∧
  nM m_Reader_putFour = 2 ∧
  oM m_Reader_putFour = 5 ∧
  rkM m_Reader_putFour = 0 ∧
  dM m_Reader_putFour = 0 ∧
  decode (cM m_RingDater_feed) 26 = .ok (.aload_n 0, 1) ∧
  decode (cM m_RingDater_feed) 27 = .ok (.getfield 12, 3) ∧
  decode (cM m_RingDater_feed) 30 = .ok (.iload_n 2, 1) ∧
  decode (cM m_RingDater_feed) 31 = .ok (.invokevirtual 92, 3) ∧
  decode (cM m_RingDater_feed) 34 = .ok (.aload_n 0, 1) ∧
  decode (cM m_RingDater_feed) 35 = .ok (.getfield 12, 3) ∧
  decode (cM m_RingDater_feed) 38 = .ok (.iload_n 3, 1) ∧
  decode (cM m_RingDater_feed) 39 = .ok (.invokevirtual 92, 3) ∧
  decode (cM m_RingDater_feed) 42 = .ok (.aload_n 0, 1) ∧
  decode (cM m_RingDater_feed) 43 = .ok (.getfield 12, 3) ∧
  decode (cM m_RingDater_feed) 46 = .ok (.iload 4, 2) ∧
  decode (cM m_RingDater_feed) 48 = .ok (.invokevirtual 92, 3) ∧
  decode (cM m_RingDater_feed) 51 = .ok (.aload_n 0, 1) ∧
  decode (cM m_RingDater_feed) 52 = .ok (.getfield 12, 3) ∧
  decode (cM m_RingDater_feed) 55 = .ok (.iload 5, 2) ∧
  decode (cM m_RingDater_feed) 57 = .ok (.invokevirtual 92, 3) ∧
  decode (cM m_RingDater_feed) 60 = .ok (.aload_n 0, 1) ∧
  decode (cM m_RingDater_feed) 61 = .ok (.getfield 12, 3) ∧
  decode (cM m_RingDater_feed) 64 = .ok (.getfield 88, 3) ∧
  decode (cM m_RingDater_feed) 67 = .ok (.ireturn, 1) :=
  ⟨rfl, rfl, rfl, rfl, by decide +kernel, by decide +kernel, rfl, by decide +kernel, rfl, by decide +kernel, by decide +kernel, by decide +kernel, by decide +kernel, rfl, rfl, by decide +kernel, by decide +kernel, by decide +kernel, by decide +kernel, by decide +kernel, by decide +kernel, rfl, rfl, rfl, rfl, rfl, by decide +kernel, by decide +kernel, by decide +kernel, by decide +kernel, by decide +kernel, by decide +kernel, by decide +kernel, by decide +kernel, by decide +kernel, by decide +kernel, by decide +kernel, by decide +kernel, by decide +kernel, by decide +kernel, by decide +kernel, by decide +kernel, by decide +kernel, by decide +kernel, by decide +kernel, by decide +kernel⟩
set_option maxRecDepth 100000 in
set_option maxHeartbeats 4000000 in
theorem C_RingDater_fault : oM m_RingDater_fault = 11 ∧
  rkM m_RingDater_fault = 1 ∧
  dM m_RingDater_fault = 0 ∧
  lM m_RingDater_fault = 1 ∧
  decode (cM m_RingDater_fault) 0 = .ok (.aload_n 0, 1) ∧
  decode (cM m_RingDater_fault) 1 = .ok (.getfield 12, 3) ∧
  fldT 11 12 = some (11, 0, 2) ∧
  decode (cM m_RingDater_fault) 4 = .ok (.getfield 118, 3) ∧
  fldT 11 118 = some (5, 3, 0) ∧
  decode (cM m_RingDater_fault) 7 = .ok (.ireturn, 1) :=
  ⟨rfl, rfl, rfl, rfl, by decide +kernel, by decide +kernel, rfl, by decide +kernel, rfl, by decide +kernel⟩
set_option maxRecDepth 100000 in
set_option maxHeartbeats 4000000 in
theorem C_RingDater_index : oM m_RingDater_index = 11 ∧
  rkM m_RingDater_index = 1 ∧
  dM m_RingDater_index = 5 ∧
  lM m_RingDater_index = 2 ∧
  decode (cM m_RingDater_index) 0 = .ok (.aload_n 0, 1) ∧
  decode (cM m_RingDater_index) 1 = .ok (.invokevirtual 135, 3) ∧
  invT 11 135 = some (m_RingDater_layChronology, 0) ∧
  nM m_RingDater_layChronology = 1 ∧
  oM m_RingDater_layChronology = 11 ∧
  rkM m_RingDater_layChronology = 0 ∧
  dM m_RingDater_layChronology = 4 ∧
  decode (cM m_RingDater_index) 4 = .ok (.aload_n 0, 1) ∧
  decode (cM m_RingDater_index) 5 = .ok (.getfield 19, 3) ∧
  fldT 11 19 = some (11, 1, 2) ∧
  decode (cM m_RingDater_index) 8 = .ok (.iload_n 1, 1) ∧
  decode (cM m_RingDater_index) 9 = .ok (.invokevirtual 252, 3) ∧
  invT 11 252 = some (m_Bench_indexOf, 0) ∧
  nM m_Bench_indexOf = 2 ∧
  oM m_Bench_indexOf = 0 ∧
  rkM m_Bench_indexOf = 1 ∧
  dM m_Bench_indexOf = 1 ∧
  decode (cM m_RingDater_index) 12 = .ok (.ireturn, 1) :=
  ⟨rfl, rfl, rfl, rfl, by decide +kernel, by decide +kernel, rfl, rfl, rfl, rfl, rfl, by decide +kernel, by decide +kernel, rfl, by decide +kernel, by decide +kernel, rfl, rfl, rfl, rfl, rfl, by decide +kernel⟩
set_option maxRecDepth 100000 in
set_option maxHeartbeats 4000000 in
theorem C_RingDater_layChronology : oM m_RingDater_layChronology = 11 ∧
  rkM m_RingDater_layChronology = 0 ∧
  dM m_RingDater_layChronology = 4 ∧
  lM m_RingDater_layChronology = 1 ∧
  decode (cM m_RingDater_layChronology) 0 = .ok (.aload_n 0, 1) ∧
  decode (cM m_RingDater_layChronology) 1 = .ok (.getfield 19, 3) ∧
  fldT 11 19 = some (11, 1, 2) ∧
  decode (cM m_RingDater_layChronology) 4 = .ok (.aload_n 0, 1) ∧
  decode (cM m_RingDater_layChronology) 5 = .ok (.getfield 54, 3) ∧
  fldT 11 54 = some (11, 6, 2) ∧
  decode (cM m_RingDater_layChronology) 8 = .ok (.aload_n 0, 1) ∧
  decode (cM m_RingDater_layChronology) 9 = .ok (.getfield 54, 3) ∧
  decode (cM m_RingDater_layChronology) 12 = .ok (.getfield 397, 3) ∧
  fldT 11 397 = some (8, 2, 2) ∧
  decode (cM m_RingDater_layChronology) 15 = .ok (.iconst (-1), 1) ∧
  decode (cM m_RingDater_layChronology) 16 = .ok (.invokevirtual 400, 3) ∧
  invT 11 400 = some (m_Bench_layChronology, 0) ∧
  nM m_Bench_layChronology = 4 ∧
  oM m_Bench_layChronology = 0 ∧
  rkM m_Bench_layChronology = 0 ∧
  dM m_Bench_layChronology = 3 ∧
  decode (cM m_RingDater_layChronology) 19 = .ok (.return_, 1) :=
  ⟨rfl, rfl, rfl, rfl, by decide +kernel, by decide +kernel, rfl, by decide +kernel, by decide +kernel, rfl, by decide +kernel, by decide +kernel, by decide +kernel, rfl, by decide +kernel, by decide +kernel, rfl, rfl, rfl, rfl, rfl, by decide +kernel⟩
set_option maxRecDepth 100000 in
set_option maxHeartbeats 4000000 in
theorem C_RingDater_depth : oM m_RingDater_depth = 11 ∧
  rkM m_RingDater_depth = 1 ∧
  dM m_RingDater_depth = 3 ∧
  lM m_RingDater_depth = 4 ∧
  decode (cM m_RingDater_depth) 0 = .ok (.iconst 0, 1) ∧
  decode (cM m_RingDater_depth) 1 = .ok (.istore_n 2, 1) ∧
  decode (cM m_RingDater_depth) 2 = .ok (.iconst 0, 1) ∧
  decode (cM m_RingDater_depth) 3 = .ok (.istore_n 3, 1) ∧
  decode (cM m_RingDater_depth) 4 = .ok (.iload_n 3, 1) ∧
  decode (cM m_RingDater_depth) 5 = .ok (.aload_n 0, 1) ∧
  decode (cM m_RingDater_depth) 6 = .ok (.getfield 54, 3) ∧
  fldT 11 54 = some (11, 6, 2) ∧
  decode (cM m_RingDater_depth) 9 = .ok (.getfield 121, 3) ∧
  fldT 11 121 = some (8, 3, 0) ∧
  decode (cM m_RingDater_depth) 12 = .ok (.if_icmp .ge 24, 3) ∧
  am_okt 12 24 ∧
  am_tgt 12 24 = 36 ∧
  decode (cM m_RingDater_depth) 15 = .ok (.aload_n 0, 1) ∧
  decode (cM m_RingDater_depth) 16 = .ok (.getfield 54, 3) ∧
  decode (cM m_RingDater_depth) 19 = .ok (.iload_n 3, 1) ∧
  decode (cM m_RingDater_depth) 20 = .ok (.iload_n 1, 1) ∧
  decode (cM m_RingDater_depth) 21 = .ok (.invokevirtual 255, 3) ∧
  invT 11 255 = some (m_Stock_hasRingIn, 0) ∧
  nM m_Stock_hasRingIn = 3 ∧
  oM m_Stock_hasRingIn = 8 ∧
  rkM m_Stock_hasRingIn = 2 ∧
  dM m_Stock_hasRingIn = 2 ∧
  decode (cM m_RingDater_depth) 24 = .ok (.ifCond .eq 6, 3) ∧
  am_okt 24 6 ∧
  am_tgt 24 6 = 30 ∧
  decode (cM m_RingDater_depth) 27 = .ok (.iinc 2 1, 3) ∧
  decode (cM m_RingDater_depth) 30 = .ok (.iinc 3 1, 3) ∧
  decode (cM m_RingDater_depth) 33 = .ok (.goto (-29), 3) ∧
  am_okt 33 (-29) ∧
  am_tgt 33 (-29) = 4 ∧
  decode (cM m_RingDater_depth) 36 = .ok (.iload_n 2, 1) ∧
  decode (cM m_RingDater_depth) 37 = .ok (.ireturn, 1) :=
  ⟨rfl, rfl, rfl, rfl, by decide +kernel, by decide +kernel, by decide +kernel, by decide +kernel, by decide +kernel, by decide +kernel, by decide +kernel, rfl, by decide +kernel, rfl, by decide +kernel, rfl, rfl, by decide +kernel, by decide +kernel, by decide +kernel, by decide +kernel, by decide +kernel, rfl, rfl, rfl, rfl, rfl, by decide +kernel, rfl, rfl, by decide +kernel, by decide +kernel, by decide +kernel, rfl, rfl, by decide +kernel, by decide +kernel⟩
set_option maxRecDepth 100000 in
set_option maxHeartbeats 4000000 in
theorem C_RingDater_date : oM m_RingDater_date = 11 ∧
  rkM m_RingDater_date = 1 ∧
  dM m_RingDater_date = 2 ∧
  lM m_RingDater_date = 4 ∧
  decode (cM m_RingDater_date) 0 = .ok (.aload_n 0, 1) ∧
  decode (cM m_RingDater_date) 1 = .ok (.getfield 54, 3) ∧
  fldT 11 54 = some (11, 6, 2) ∧
  decode (cM m_RingDater_date) 4 = .ok (.iload_n 1, 1) ∧
  decode (cM m_RingDater_date) 5 = .ok (.invokevirtual 174, 3) ∧
  invT 11 174 = some (m_Stock_has, 0) ∧
  nM m_Stock_has = 2 ∧
  oM m_Stock_has = 8 ∧
  rkM m_Stock_has = 2 ∧
  dM m_Stock_has = 0 ∧
  decode (cM m_RingDater_date) 8 = .ok (.ifCond .eq 27, 3) ∧
  am_okt 8 27 ∧
  am_tgt 8 27 = 35 ∧
  decode (cM m_RingDater_date) 11 = .ok (.iload_n 2, 1) ∧
  decode (cM m_RingDater_date) 12 = .ok (.iconst (-1), 1) ∧
  decode (cM m_RingDater_date) 13 = .ok (.if_icmp .eq 10, 3) ∧
  am_okt 13 10 ∧
  am_tgt 13 10 = 23 ∧
  decode (cM m_RingDater_date) 16 = .ok (.iload_n 2, 1) ∧
  decode (cM m_RingDater_date) 17 = .ok (.invokestatic 323, 3) ∧
  invT 11 323 = some (m_RingDater_isYear, 1) ∧
  nM m_RingDater_isYear = 1 ∧
  oM m_RingDater_isYear = 11 ∧
  rkM m_RingDater_isYear = 2 ∧
  dM m_RingDater_isYear = 0 ∧
  decode (cM m_RingDater_date) 20 = .ok (.ifCond .eq 15, 3) ∧
  am_okt 20 15 ∧
  am_tgt 20 15 = 35 ∧
  decode (cM m_RingDater_date) 23 = .ok (.aload_n 0, 1) ∧
  decode (cM m_RingDater_date) 24 = .ok (.getfield 54, 3) ∧
  decode (cM m_RingDater_date) 27 = .ok (.iload_n 1, 1) ∧
  decode (cM m_RingDater_date) 28 = .ok (.invokevirtual 194, 3) ∧
  invT 11 194 = some (m_Stock_yearOf, 0) ∧
  nM m_Stock_yearOf = 2 ∧
  oM m_Stock_yearOf = 8 ∧
  rkM m_Stock_yearOf = 1 ∧
  dM m_Stock_yearOf = 0 ∧
  decode (cM m_RingDater_date) 31 = .ok (.iload_n 2, 1) ∧
  decode (cM m_RingDater_date) 32 = .ok (.if_icmp .ne 16, 3) ∧
  am_okt 32 16 ∧
  am_tgt 32 16 = 48 ∧
  decode (cM m_RingDater_date) 35 = .ok (.aload_n 0, 1) ∧
  decode (cM m_RingDater_date) 36 = .ok (.getfield 72, 3) ∧
  fldT 11 72 = some (11, 9, 2) ∧
  decode (cM m_RingDater_date) 39 = .ok (.iconst 1, 1) ∧
  decode (cM m_RingDater_date) 40 = .ok (.dup2, 1) ∧
  decode (cM m_RingDater_date) 41 = .ok (.iaload, 1) ∧
  decode (cM m_RingDater_date) 42 = .ok (.iconst 1, 1) ∧
  decode (cM m_RingDater_date) 43 = .ok (.iadd, 1) ∧
  decode (cM m_RingDater_date) 44 = .ok (.iastore, 1) ∧
  decode (cM m_RingDater_date) 45 = .ok (.bipush (-2), 2) ∧
  decode (cM m_RingDater_date) 47 = .ok (.ireturn, 1) ∧
  decode (cM m_RingDater_date) 48 = .ok (.aload_n 0, 1) ∧
  decode (cM m_RingDater_date) 49 = .ok (.getfield 54, 3) ∧
  decode (cM m_RingDater_date) 52 = .ok (.iload_n 1, 1) ∧
  decode (cM m_RingDater_date) 53 = .ok (.invokevirtual 194, 3) ∧
  decode (cM m_RingDater_date) 56 = .ok (.istore_n 3, 1) ∧
  decode (cM m_RingDater_date) 57 = .ok (.aload_n 0, 1) ∧
  decode (cM m_RingDater_date) 58 = .ok (.getfield 61, 3) ∧
  fldT 11 61 = some (11, 7, 2) ∧
  decode (cM m_RingDater_date) 61 = .ok (.iconst 0, 1) ∧
  decode (cM m_RingDater_date) 62 = .ok (.iload_n 1, 1) ∧
  decode (cM m_RingDater_date) 63 = .ok (.iconst 0, 1) ∧
  decode (cM m_RingDater_date) 64 = .ok (.iload_n 3, 1) ∧
  decode (cM m_RingDater_date) 65 = .ok (.invokevirtual 326, 3) ∧
  invT 11 326 = some (m_Ledger_record, 0) ∧
  nM m_Ledger_record = 5 ∧
  oM m_Ledger_record = 3 ∧
  rkM m_Ledger_record = 0 ∧
  dM m_Ledger_record = 1 ∧
  decode (cM m_RingDater_date) 68 = .ok (.aload_n 0, 1) ∧
  decode (cM m_RingDater_date) 69 = .ok (.getfield 54, 3) ∧
  decode (cM m_RingDater_date) 72 = .ok (.iload_n 1, 1) ∧
  decode (cM m_RingDater_date) 73 = .ok (.iload_n 2, 1) ∧
  decode (cM m_RingDater_date) 74 = .ok (.invokevirtual 330, 3) ∧
  invT 11 330 = some (m_Stock_setYear, 0) ∧
  nM m_Stock_setYear = 3 ∧
  oM m_Stock_setYear = 8 ∧
  rkM m_Stock_setYear = 0 ∧
  dM m_Stock_setYear = 1 ∧
  decode (cM m_RingDater_date) 77 = .ok (.iload_n 3, 1) ∧
  decode (cM m_RingDater_date) 78 = .ok (.ireturn, 1) :=
  ⟨rfl, rfl, rfl, rfl, by decide +kernel, by decide +kernel, rfl, by decide +kernel, by decide +kernel, rfl, rfl, rfl, rfl, rfl, by decide +kernel, rfl, rfl, by decide +kernel, by decide +kernel, by decide +kernel, rfl, rfl, by decide +kernel, by decide +kernel, rfl, rfl, rfl, rfl, rfl, by decide +kernel, rfl, rfl, by decide +kernel, by decide +kernel, by decide +kernel, by decide +kernel, rfl, rfl, rfl, rfl, rfl, by decide +kernel, by decide +kernel, rfl, rfl, by decide +kernel, by decide +kernel, rfl, by decide +kernel, by decide +kernel, by decide +kernel, by decide +kernel, by decide +kernel, by decide +kernel, by decide +kernel, by decide +kernel, by decide +kernel, by decide +kernel, by decide +kernel, by decide +kernel, by decide +kernel, by decide +kernel, by decide +kernel, rfl, by decide +kernel, by decide +kernel, by decide +kernel, by decide +kernel, by decide +kernel, rfl, rfl, rfl, rfl, rfl, by decide +kernel, by decide +kernel, by decide +kernel, by decide +kernel, by decide +kernel, rfl, rfl, rfl, rfl, rfl, by decide +kernel, by decide +kernel⟩
set_option maxRecDepth 100000 in
set_option maxHeartbeats 4000000 in
theorem C_RingDater_isYear : oM m_RingDater_isYear = 11 ∧
  rkM m_RingDater_isYear = 2 ∧
  dM m_RingDater_isYear = 0 ∧
  lM m_RingDater_isYear = 1 ∧
  decode (cM m_RingDater_isYear) 0 = .ok (.iload_n 0, 1) ∧
  decode (cM m_RingDater_isYear) 1 = .ok (.ifCond .lt 14, 3) ∧
  am_okt 1 14 ∧
  am_tgt 1 14 = 15 ∧
  decode (cM m_RingDater_isYear) 4 = .ok (.iload_n 0, 1) ∧
  decode (cM m_RingDater_isYear) 5 = .ok (.sipush 900, 3) ∧
  decode (cM m_RingDater_isYear) 8 = .ok (.if_icmp .gt 7, 3) ∧
  am_okt 8 7 ∧
  am_tgt 8 7 = 15 ∧
  decode (cM m_RingDater_isYear) 11 = .ok (.iconst 1, 1) ∧
  decode (cM m_RingDater_isYear) 12 = .ok (.goto 4, 3) ∧
  am_okt 12 4 ∧
  am_tgt 12 4 = 16 ∧
  decode (cM m_RingDater_isYear) 15 = .ok (.iconst 0, 1) ∧
  decode (cM m_RingDater_isYear) 16 = .ok (.ireturn, 1) :=
  ⟨rfl, rfl, rfl, rfl, by decide +kernel, by decide +kernel, rfl, rfl, by decide +kernel, by decide +kernel, by decide +kernel, rfl, rfl, by decide +kernel, by decide +kernel, rfl, rfl, by decide +kernel, by decide +kernel⟩
set_option maxRecDepth 100000 in
set_option maxHeartbeats 4000000 in
theorem C_RingDater_settle : oM m_RingDater_settle = 11 ∧
  rkM m_RingDater_settle = 1 ∧
  dM m_RingDater_settle = 7 ∧
  lM m_RingDater_settle = 3 ∧
  decode (cM m_RingDater_settle) 0 = .ok (.aload_n 0, 1) ∧
  decode (cM m_RingDater_settle) 1 = .ok (.getfield 54, 3) ∧
  fldT 11 54 = some (11, 6, 2) ∧
  decode (cM m_RingDater_settle) 4 = .ok (.iload_n 1, 1) ∧
  decode (cM m_RingDater_settle) 5 = .ok (.invokevirtual 174, 3) ∧
  invT 11 174 = some (m_Stock_has, 0) ∧
  nM m_Stock_has = 2 ∧
  oM m_Stock_has = 8 ∧
  rkM m_Stock_has = 2 ∧
  dM m_Stock_has = 0 ∧
  decode (cM m_RingDater_settle) 8 = .ok (.ifCond .eq 22, 3) ∧
  am_okt 8 22 ∧
  am_tgt 8 22 = 30 ∧
  decode (cM m_RingDater_settle) 11 = .ok (.aload_n 0, 1) ∧
  decode (cM m_RingDater_settle) 12 = .ok (.getfield 54, 3) ∧
  decode (cM m_RingDater_settle) 15 = .ok (.iload_n 1, 1) ∧
  decode (cM m_RingDater_settle) 16 = .ok (.invokevirtual 182, 3) ∧
  invT 11 182 = some (m_Stock_isDated, 0) ∧
  nM m_Stock_isDated = 2 ∧
  oM m_Stock_isDated = 8 ∧
  rkM m_Stock_isDated = 2 ∧
  dM m_Stock_isDated = 1 ∧
  decode (cM m_RingDater_settle) 19 = .ok (.ifCond .ne 11, 3) ∧
  am_okt 19 11 ∧
  am_tgt 19 11 = 30 ∧
  decode (cM m_RingDater_settle) 22 = .ok (.aload_n 0, 1) ∧
  decode (cM m_RingDater_settle) 23 = .ok (.iload_n 1, 1) ∧
  decode (cM m_RingDater_settle) 24 = .ok (.invokevirtual 218, 3) ∧
  invT 11 218 = some (m_RingDater_whyUnsettled, 0) ∧
  nM m_RingDater_whyUnsettled = 2 ∧
  oM m_RingDater_whyUnsettled = 11 ∧
  rkM m_RingDater_whyUnsettled = 1 ∧
  dM m_RingDater_whyUnsettled = 6 ∧
  decode (cM m_RingDater_settle) 27 = .ok (.ifCond .eq 8, 3) ∧
  am_okt 27 8 ∧
  am_tgt 27 8 = 35 ∧
  decode (cM m_RingDater_settle) 30 = .ok (.aload_n 0, 1) ∧
  decode (cM m_RingDater_settle) 31 = .ok (.invokevirtual 334, 3) ∧
  invT 11 334 = some (m_RingDater_refusedAct, 0) ∧
  nM m_RingDater_refusedAct = 1 ∧
  oM m_RingDater_refusedAct = 11 ∧
  rkM m_RingDater_refusedAct = 1 ∧
  dM m_RingDater_refusedAct = 0 ∧
  decode (cM m_RingDater_settle) 34 = .ok (.ireturn, 1) ∧
  decode (cM m_RingDater_settle) 35 = .ok (.aload_n 0, 1) ∧
  decode (cM m_RingDater_settle) 36 = .ok (.getfield 19, 3) ∧
  fldT 11 19 = some (11, 1, 2) ∧
  decode (cM m_RingDater_settle) 39 = .ok (.getfield 138, 3) ∧
  fldT 11 138 = some (0, 7, 0) ∧
  decode (cM m_RingDater_settle) 42 = .ok (.aload_n 0, 1) ∧
  decode (cM m_RingDater_settle) 43 = .ok (.iload_n 1, 1) ∧
  decode (cM m_RingDater_settle) 44 = .ok (.invokevirtual 282, 3) ∧
  invT 11 282 = some (m_RingDater_seekAmongOthers, 0) ∧
  nM m_RingDater_seekAmongOthers = 2 ∧
  oM m_RingDater_seekAmongOthers = 11 ∧
  rkM m_RingDater_seekAmongOthers = 3 ∧
  dM m_RingDater_seekAmongOthers = 5 ∧
  decode (cM m_RingDater_settle) 47 = .ok (.getfield 299, 3) ∧
  fldT 11 299 = some (1, 2, 0) ∧
  decode (cM m_RingDater_settle) 50 = .ok (.iadd, 1) ∧
  decode (cM m_RingDater_settle) 51 = .ok (.istore_n 2, 1) ∧
  decode (cM m_RingDater_settle) 52 = .ok (.aload_n 0, 1) ∧
  decode (cM m_RingDater_settle) 53 = .ok (.getfield 61, 3) ∧
  fldT 11 61 = some (11, 7, 2) ∧
  decode (cM m_RingDater_settle) 56 = .ok (.iconst 0, 1) ∧
  decode (cM m_RingDater_settle) 57 = .ok (.iload_n 1, 1) ∧
  decode (cM m_RingDater_settle) 58 = .ok (.iconst 0, 1) ∧
  decode (cM m_RingDater_settle) 59 = .ok (.iconst (-1), 1) ∧
  decode (cM m_RingDater_settle) 60 = .ok (.invokevirtual 326, 3) ∧
  invT 11 326 = some (m_Ledger_record, 0) ∧
  nM m_Ledger_record = 5 ∧
  oM m_Ledger_record = 3 ∧
  rkM m_Ledger_record = 0 ∧
  dM m_Ledger_record = 1 ∧
  decode (cM m_RingDater_settle) 63 = .ok (.aload_n 0, 1) ∧
  decode (cM m_RingDater_settle) 64 = .ok (.getfield 54, 3) ∧
  decode (cM m_RingDater_settle) 67 = .ok (.iload_n 1, 1) ∧
  decode (cM m_RingDater_settle) 68 = .ok (.iload_n 2, 1) ∧
  decode (cM m_RingDater_settle) 69 = .ok (.invokevirtual 330, 3) ∧
  invT 11 330 = some (m_Stock_setYear, 0) ∧
  nM m_Stock_setYear = 3 ∧
  oM m_Stock_setYear = 8 ∧
  rkM m_Stock_setYear = 0 ∧
  dM m_Stock_setYear = 1 ∧
  decode (cM m_RingDater_settle) 72 = .ok (.iload_n 2, 1) ∧
  decode (cM m_RingDater_settle) 73 = .ok (.ireturn, 1) :=
  ⟨rfl, rfl, rfl, rfl, by decide +kernel, by decide +kernel, rfl, by decide +kernel, by decide +kernel, rfl, rfl, rfl, rfl, rfl, by decide +kernel, rfl, rfl, by decide +kernel, by decide +kernel, by decide +kernel, by decide +kernel, rfl, rfl, rfl, rfl, rfl, by decide +kernel, rfl, rfl, by decide +kernel, by decide +kernel, by decide +kernel, rfl, rfl, rfl, rfl, rfl, by decide +kernel, rfl, rfl, by decide +kernel, by decide +kernel, rfl, rfl, rfl, rfl, rfl, by decide +kernel, by decide +kernel, by decide +kernel, rfl, by decide +kernel, rfl, by decide +kernel, by decide +kernel, by decide +kernel, rfl, rfl, rfl, rfl, rfl, by decide +kernel, rfl, by decide +kernel, by decide +kernel, by decide +kernel, by decide +kernel, rfl, by decide +kernel, by decide +kernel, by decide +kernel, by decide +kernel, by decide +kernel, rfl, rfl, rfl, rfl, rfl, by decide +kernel, by decide +kernel, by decide +kernel, by decide +kernel, by decide +kernel, rfl, rfl, rfl, rfl, rfl, by decide +kernel, by decide +kernel⟩
set_option maxRecDepth 100000 in
set_option maxHeartbeats 4000000 in
theorem C_RingDater_whyUnsettled : oM m_RingDater_whyUnsettled = 11 ∧
  rkM m_RingDater_whyUnsettled = 1 ∧
  dM m_RingDater_whyUnsettled = 6 ∧
  lM m_RingDater_whyUnsettled = 4 ∧
  decode (cM m_RingDater_whyUnsettled) 0 = .ok (.aload_n 0, 1) ∧
  decode (cM m_RingDater_whyUnsettled) 1 = .ok (.iload_n 1, 1) ∧
  decode (cM m_RingDater_whyUnsettled) 2 = .ok (.invokevirtual 282, 3) ∧
  invT 11 282 = some (m_RingDater_seekAmongOthers, 0) ∧
  nM m_RingDater_seekAmongOthers = 2 ∧
  oM m_RingDater_seekAmongOthers = 11 ∧
  rkM m_RingDater_seekAmongOthers = 3 ∧
  dM m_RingDater_seekAmongOthers = 5 ∧
  decode (cM m_RingDater_whyUnsettled) 5 = .ok (.astore_n 2, 1) ∧
  decode (cM m_RingDater_whyUnsettled) 6 = .ok (.aload_n 2, 1) ∧
  decode (cM m_RingDater_whyUnsettled) 7 = .ok (.aload_n 0, 1) ∧
  decode (cM m_RingDater_whyUnsettled) 8 = .ok (.getfield 54, 3) ∧
  fldT 11 54 = some (11, 6, 2) ∧
  decode (cM m_RingDater_whyUnsettled) 11 = .ok (.getfield 122, 3) ∧
  fldT 11 122 = some (8, 4, 0) ∧
  decode (cM m_RingDater_whyUnsettled) 14 = .ok (.aload_n 0, 1) ∧
  decode (cM m_RingDater_whyUnsettled) 15 = .ok (.getfield 54, 3) ∧
  decode (cM m_RingDater_whyUnsettled) 18 = .ok (.getfield 128, 3) ∧
  fldT 11 128 = some (8, 6, 0) ∧
  decode (cM m_RingDater_whyUnsettled) 21 = .ok (.invokevirtual 290, 3) ∧
  invT 11 290 = some (m_Finding_whyNotSure, 0) ∧
  nM m_Finding_whyNotSure = 3 ∧
  oM m_Finding_whyNotSure = 1 ∧
  rkM m_Finding_whyNotSure = 1 ∧
  dM m_Finding_whyNotSure = 0 ∧
  decode (cM m_RingDater_whyUnsettled) 24 = .ok (.istore_n 3, 1) ∧
  decode (cM m_RingDater_whyUnsettled) 25 = .ok (.iload_n 3, 1) ∧
  decode (cM m_RingDater_whyUnsettled) 26 = .ok (.ifCond .eq 5, 3) ∧
  am_okt 26 5 ∧
  am_tgt 26 5 = 31 ∧
  decode (cM m_RingDater_whyUnsettled) 29 = .ok (.iload_n 3, 1) ∧
  decode (cM m_RingDater_whyUnsettled) 30 = .ok (.ireturn, 1) ∧
  decode (cM m_RingDater_whyUnsettled) 31 = .ok (.aload_n 0, 1) ∧
  decode (cM m_RingDater_whyUnsettled) 32 = .ok (.getfield 19, 3) ∧
  fldT 11 19 = some (11, 1, 2) ∧
  decode (cM m_RingDater_whyUnsettled) 35 = .ok (.getfield 138, 3) ∧
  fldT 11 138 = some (0, 7, 0) ∧
  decode (cM m_RingDater_whyUnsettled) 38 = .ok (.aload_n 2, 1) ∧
  decode (cM m_RingDater_whyUnsettled) 39 = .ok (.getfield 299, 3) ∧
  fldT 11 299 = some (1, 2, 0) ∧
  decode (cM m_RingDater_whyUnsettled) 42 = .ok (.iadd, 1) ∧
  decode (cM m_RingDater_whyUnsettled) 43 = .ok (.invokestatic 323, 3) ∧
  invT 11 323 = some (m_RingDater_isYear, 1) ∧
  nM m_RingDater_isYear = 1 ∧
  oM m_RingDater_isYear = 11 ∧
  rkM m_RingDater_isYear = 2 ∧
  dM m_RingDater_isYear = 0 ∧
  decode (cM m_RingDater_whyUnsettled) 46 = .ok (.ifCond .eq 7, 3) ∧
  am_okt 46 7 ∧
  am_tgt 46 7 = 53 ∧
  decode (cM m_RingDater_whyUnsettled) 49 = .ok (.iconst 0, 1) ∧
  decode (cM m_RingDater_whyUnsettled) 50 = .ok (.goto 4, 3) ∧
  am_okt 50 4 ∧
  am_tgt 50 4 = 54 ∧
  decode (cM m_RingDater_whyUnsettled) 53 = .ok (.iconst 4, 1) ∧
  decode (cM m_RingDater_whyUnsettled) 54 = .ok (.ireturn, 1) :=
  ⟨rfl, rfl, rfl, rfl, by decide +kernel, by decide +kernel, by decide +kernel, rfl, rfl, rfl, rfl, rfl, by decide +kernel, by decide +kernel, by decide +kernel, by decide +kernel, rfl, by decide +kernel, rfl, by decide +kernel, by decide +kernel, by decide +kernel, rfl, by decide +kernel, rfl, rfl, rfl, rfl, rfl, by decide +kernel, by decide +kernel, by decide +kernel, rfl, rfl, by decide +kernel, by decide +kernel, by decide +kernel, by decide +kernel, rfl, by decide +kernel, rfl, by decide +kernel, by decide +kernel, rfl, by decide +kernel, by decide +kernel, rfl, rfl, rfl, rfl, rfl, by decide +kernel, rfl, rfl, by decide +kernel, by decide +kernel, rfl, rfl, by decide +kernel, by decide +kernel⟩
set_option maxRecDepth 100000 in
set_option maxHeartbeats 4000000 in
theorem C_RingDater_seekAmongOthers : oM m_RingDater_seekAmongOthers = 11 ∧
  rkM m_RingDater_seekAmongOthers = 3 ∧
  dM m_RingDater_seekAmongOthers = 5 ∧
  lM m_RingDater_seekAmongOthers = 2 ∧
  decode (cM m_RingDater_seekAmongOthers) 0 = .ok (.aload_n 0, 1) ∧
  decode (cM m_RingDater_seekAmongOthers) 1 = .ok (.getfield 19, 3) ∧
  fldT 11 19 = some (11, 1, 2) ∧
  decode (cM m_RingDater_seekAmongOthers) 4 = .ok (.aload_n 0, 1) ∧
  decode (cM m_RingDater_seekAmongOthers) 5 = .ok (.getfield 54, 3) ∧
  fldT 11 54 = some (11, 6, 2) ∧
  decode (cM m_RingDater_seekAmongOthers) 8 = .ok (.aload_n 0, 1) ∧
  decode (cM m_RingDater_seekAmongOthers) 9 = .ok (.getfield 54, 3) ∧
  decode (cM m_RingDater_seekAmongOthers) 12 = .ok (.getfield 397, 3) ∧
  fldT 11 397 = some (8, 2, 2) ∧
  decode (cM m_RingDater_seekAmongOthers) 15 = .ok (.iload_n 1, 1) ∧
  decode (cM m_RingDater_seekAmongOthers) 16 = .ok (.invokevirtual 400, 3) ∧
  invT 11 400 = some (m_Bench_layChronology, 0) ∧
  nM m_Bench_layChronology = 4 ∧
  oM m_Bench_layChronology = 0 ∧
  rkM m_Bench_layChronology = 0 ∧
  dM m_Bench_layChronology = 3 ∧
  decode (cM m_RingDater_seekAmongOthers) 19 = .ok (.aload_n 0, 1) ∧
  decode (cM m_RingDater_seekAmongOthers) 20 = .ok (.getfield 19, 3) ∧
  decode (cM m_RingDater_seekAmongOthers) 23 = .ok (.aload_n 0, 1) ∧
  decode (cM m_RingDater_seekAmongOthers) 24 = .ok (.getfield 54, 3) ∧
  decode (cM m_RingDater_seekAmongOthers) 27 = .ok (.iload_n 1, 1) ∧
  decode (cM m_RingDater_seekAmongOthers) 28 = .ok (.invokevirtual 178, 3) ∧
  invT 11 178 = some (m_Stock_timberAt, 0) ∧
  nM m_Stock_timberAt = 2 ∧
  oM m_Stock_timberAt = 8 ∧
  rkM m_Stock_timberAt = 3 ∧
  dM m_Stock_timberAt = 1 ∧
  decode (cM m_RingDater_seekAmongOthers) 31 = .ok (.aload_n 0, 1) ∧
  decode (cM m_RingDater_seekAmongOthers) 32 = .ok (.getfield 54, 3) ∧
  decode (cM m_RingDater_seekAmongOthers) 35 = .ok (.getfield 125, 3) ∧
  fldT 11 125 = some (8, 5, 0) ∧
  decode (cM m_RingDater_seekAmongOthers) 38 = .ok (.invokevirtual 407, 3) ∧
  invT 11 407 = some (m_Bench_seekOnChronology, 0) ∧
  nM m_Bench_seekOnChronology = 3 ∧
  oM m_Bench_seekOnChronology = 0 ∧
  rkM m_Bench_seekOnChronology = 3 ∧
  dM m_Bench_seekOnChronology = 4 ∧
  decode (cM m_RingDater_seekAmongOthers) 41 = .ok (.areturn, 1) :=
  ⟨rfl, rfl, rfl, rfl, by decide +kernel, by decide +kernel, rfl, by decide +kernel, by decide +kernel, rfl, by decide +kernel, by decide +kernel, by decide +kernel, rfl, by decide +kernel, by decide +kernel, rfl, rfl, rfl, rfl, rfl, by decide +kernel, by decide +kernel, by decide +kernel, by decide +kernel, by decide +kernel, by decide +kernel, rfl, rfl, rfl, rfl, rfl, by decide +kernel, by decide +kernel, by decide +kernel, rfl, by decide +kernel, rfl, rfl, rfl, rfl, rfl, by decide +kernel⟩
set_option maxRecDepth 100000 in
set_option maxHeartbeats 4000000 in
theorem C_RingDater_refusedAct : oM m_RingDater_refusedAct = 11 ∧
  rkM m_RingDater_refusedAct = 1 ∧
  dM m_RingDater_refusedAct = 0 ∧
  lM m_RingDater_refusedAct = 1 ∧
  decode (cM m_RingDater_refusedAct) 0 = .ok (.aload_n 0, 1) ∧
  decode (cM m_RingDater_refusedAct) 1 = .ok (.getfield 72, 3) ∧
  fldT 11 72 = some (11, 9, 2) ∧
  decode (cM m_RingDater_refusedAct) 4 = .ok (.iconst 1, 1) ∧
  decode (cM m_RingDater_refusedAct) 5 = .ok (.dup2, 1) ∧
  decode (cM m_RingDater_refusedAct) 6 = .ok (.iaload, 1) ∧
  decode (cM m_RingDater_refusedAct) 7 = .ok (.iconst 1, 1) ∧
  decode (cM m_RingDater_refusedAct) 8 = .ok (.iadd, 1) ∧
  decode (cM m_RingDater_refusedAct) 9 = .ok (.iastore, 1) ∧
  decode (cM m_RingDater_refusedAct) 10 = .ok (.iconst (-1), 1) ∧
  decode (cM m_RingDater_refusedAct) 11 = .ok (.ireturn, 1) :=
  ⟨rfl, rfl, rfl, rfl, by decide +kernel, by decide +kernel, rfl, by decide +kernel, by decide +kernel, by decide +kernel, by decide +kernel, by decide +kernel, by decide +kernel, by decide +kernel, by decide +kernel⟩
set_option maxRecDepth 100000 in
set_option maxHeartbeats 4000000 in
theorem C_RingDater_grow : oM m_RingDater_grow = 11 ∧
  rkM m_RingDater_grow = 1 ∧
  dM m_RingDater_grow = 7 ∧
  lM m_RingDater_grow = 3 ∧
  decode (cM m_RingDater_grow) 0 = .ok (.aload_n 0, 1) ∧
  decode (cM m_RingDater_grow) 1 = .ok (.getfield 33, 3) ∧
  fldT 11 33 = some (11, 3, 2) ∧
  decode (cM m_RingDater_grow) 4 = .ok (.aload_n 0, 1) ∧
  decode (cM m_RingDater_grow) 5 = .ok (.getfield 54, 3) ∧
  fldT 11 54 = some (11, 6, 2) ∧
  decode (cM m_RingDater_grow) 8 = .ok (.aload_n 0, 1) ∧
  decode (cM m_RingDater_grow) 9 = .ok (.getfield 19, 3) ∧
  fldT 11 19 = some (11, 1, 2) ∧
  decode (cM m_RingDater_grow) 12 = .ok (.aload_n 0, 1) ∧
  decode (cM m_RingDater_grow) 13 = .ok (.getfield 54, 3) ∧
  decode (cM m_RingDater_grow) 16 = .ok (.getfield 122, 3) ∧
  fldT 11 122 = some (8, 4, 0) ∧
  decode (cM m_RingDater_grow) 19 = .ok (.invokevirtual 167, 3) ∧
  invT 11 167 = some (m_Growth_run, 0) ∧
  nM m_Growth_run = 4 ∧
  oM m_Growth_run = 2 ∧
  rkM m_Growth_run = 1 ∧
  dM m_Growth_run = 6 ∧
  decode (cM m_RingDater_grow) 22 = .ok (.istore_n 1, 1) ∧
  decode (cM m_RingDater_grow) 23 = .ok (.iload_n 1, 1) ∧
  decode (cM m_RingDater_grow) 24 = .ok (.ifCond .ne 8, 3) ∧
  am_okt 24 8 ∧
  am_tgt 24 8 = 32 ∧
  decode (cM m_RingDater_grow) 27 = .ok (.aload_n 0, 1) ∧
  decode (cM m_RingDater_grow) 28 = .ok (.invokevirtual 334, 3) ∧
  invT 11 334 = some (m_RingDater_refusedAct, 0) ∧
  nM m_RingDater_refusedAct = 1 ∧
  oM m_RingDater_refusedAct = 11 ∧
  rkM m_RingDater_refusedAct = 1 ∧
  dM m_RingDater_refusedAct = 0 ∧
  decode (cM m_RingDater_grow) 31 = .ok (.ireturn, 1) ∧
  decode (cM m_RingDater_grow) 32 = .ok (.aload_n 0, 1) ∧
  decode (cM m_RingDater_grow) 33 = .ok (.getfield 61, 3) ∧
  fldT 11 61 = some (11, 7, 2) ∧
  decode (cM m_RingDater_grow) 36 = .ok (.iconst 1, 1) ∧
  decode (cM m_RingDater_grow) 37 = .ok (.aload_n 0, 1) ∧
  decode (cM m_RingDater_grow) 38 = .ok (.getfield 33, 3) ∧
  decode (cM m_RingDater_grow) 41 = .ok (.invokevirtual 337, 3) ∧
  invT 11 337 = some (m_Growth_bits, 0) ∧
  nM m_Growth_bits = 1 ∧
  oM m_Growth_bits = 2 ∧
  rkM m_Growth_bits = 1 ∧
  dM m_Growth_bits = 1 ∧
  decode (cM m_RingDater_grow) 44 = .ok (.iconst 0, 1) ∧
  decode (cM m_RingDater_grow) 45 = .ok (.iconst (-1), 1) ∧
  decode (cM m_RingDater_grow) 46 = .ok (.invokevirtual 326, 3) ∧
  invT 11 326 = some (m_Ledger_record, 0) ∧
  nM m_Ledger_record = 5 ∧
  oM m_Ledger_record = 3 ∧
  rkM m_Ledger_record = 0 ∧
  dM m_Ledger_record = 1 ∧
  decode (cM m_RingDater_grow) 49 = .ok (.iconst 0, 1) ∧
  decode (cM m_RingDater_grow) 50 = .ok (.istore_n 2, 1) ∧
  decode (cM m_RingDater_grow) 51 = .ok (.iload_n 2, 1) ∧
  decode (cM m_RingDater_grow) 52 = .ok (.iload_n 1, 1) ∧
  decode (cM m_RingDater_grow) 53 = .ok (.if_icmp .ge 34, 3) ∧
  am_okt 53 34 ∧
  am_tgt 53 34 = 87 ∧
  decode (cM m_RingDater_grow) 56 = .ok (.aload_n 0, 1) ∧
  decode (cM m_RingDater_grow) 57 = .ok (.getfield 54, 3) ∧
  decode (cM m_RingDater_grow) 60 = .ok (.aload_n 0, 1) ∧
  decode (cM m_RingDater_grow) 61 = .ok (.getfield 33, 3) ∧
  decode (cM m_RingDater_grow) 64 = .ok (.iload_n 2, 1) ∧
  decode (cM m_RingDater_grow) 65 = .ok (.iconst 0, 1) ∧
  decode (cM m_RingDater_grow) 66 = .ok (.invokevirtual 311, 3) ∧
  invT 11 311 = some (m_Growth_tell, 0) ∧
  nM m_Growth_tell = 3 ∧
  oM m_Growth_tell = 2 ∧
  rkM m_Growth_tell = 1 ∧
  dM m_Growth_tell = 0 ∧
  decode (cM m_RingDater_grow) 69 = .ok (.aload_n 0, 1) ∧
  decode (cM m_RingDater_grow) 70 = .ok (.getfield 33, 3) ∧
  decode (cM m_RingDater_grow) 73 = .ok (.iload_n 2, 1) ∧
  decode (cM m_RingDater_grow) 74 = .ok (.iconst 1, 1) ∧
  decode (cM m_RingDater_grow) 75 = .ok (.invokevirtual 311, 3) ∧
  decode (cM m_RingDater_grow) 78 = .ok (.invokevirtual 330, 3) ∧
  invT 11 330 = some (m_Stock_setYear, 0) ∧
  nM m_Stock_setYear = 3 ∧
  oM m_Stock_setYear = 8 ∧
  rkM m_Stock_setYear = 0 ∧
  dM m_Stock_setYear = 1 ∧
  decode (cM m_RingDater_grow) 81 = .ok (.iinc 2 1, 3) ∧
  decode (cM m_RingDater_grow) 84 = .ok (.goto (-33), 3) ∧
  am_okt 84 (-33) ∧
  am_tgt 84 (-33) = 51 ∧
  decode (cM m_RingDater_grow) 87 = .ok (.iload_n 1, 1) ∧
  decode (cM m_RingDater_grow) 88 = .ok (.ireturn, 1) :=
  ⟨rfl, rfl, rfl, rfl, by decide +kernel, by decide +kernel, rfl, by decide +kernel, by decide +kernel, rfl, by decide +kernel, by decide +kernel, rfl, by decide +kernel, by decide +kernel, by decide +kernel, rfl, by decide +kernel, rfl, rfl, rfl, rfl, rfl, by decide +kernel, by decide +kernel, by decide +kernel, rfl, rfl, by decide +kernel, by decide +kernel, rfl, rfl, rfl, rfl, rfl, by decide +kernel, by decide +kernel, by decide +kernel, rfl, by decide +kernel, by decide +kernel, by decide +kernel, by decide +kernel, rfl, rfl, rfl, rfl, rfl, by decide +kernel, by decide +kernel, by decide +kernel, rfl, rfl, rfl, rfl, rfl, by decide +kernel, by decide +kernel, by decide +kernel, by decide +kernel, by decide +kernel, rfl, rfl, by decide +kernel, by decide +kernel, by decide +kernel, by decide +kernel, by decide +kernel, by decide +kernel, by decide +kernel, rfl, rfl, rfl, rfl, rfl, by decide +kernel, by decide +kernel, by decide +kernel, by decide +kernel, by decide +kernel, by decide +kernel, rfl, rfl, rfl, rfl, rfl, by decide +kernel, by decide +kernel, rfl, rfl, by decide +kernel, by decide +kernel⟩
set_option maxRecDepth 100000 in
set_option maxHeartbeats 4000000 in
theorem C_RingDater_copyRow : oM m_RingDater_copyRow = 11 ∧
  rkM m_RingDater_copyRow = 0 ∧
  dM m_RingDater_copyRow = 0 ∧
  lM m_RingDater_copyRow = 3 ∧
  decode (cM m_RingDater_copyRow) 0 = .ok (.iconst 0, 1) ∧
  decode (cM m_RingDater_copyRow) 1 = .ok (.istore_n 2, 1) ∧
  decode (cM m_RingDater_copyRow) 2 = .ok (.iload_n 2, 1) ∧
  decode (cM m_RingDater_copyRow) 3 = .ok (.aload_n 0, 1) ∧
  decode (cM m_RingDater_copyRow) 4 = .ok (.arraylength, 1) ∧
  decode (cM m_RingDater_copyRow) 5 = .ok (.if_icmp .ge 21, 3) ∧
  am_okt 5 21 ∧
  am_tgt 5 21 = 26 ∧
  decode (cM m_RingDater_copyRow) 8 = .ok (.iload_n 2, 1) ∧
  decode (cM m_RingDater_copyRow) 9 = .ok (.aload_n 1, 1) ∧
  decode (cM m_RingDater_copyRow) 10 = .ok (.arraylength, 1) ∧
  decode (cM m_RingDater_copyRow) 11 = .ok (.if_icmp .ge 15, 3) ∧
  am_okt 11 15 ∧
  am_tgt 11 15 = 26 ∧
  decode (cM m_RingDater_copyRow) 14 = .ok (.aload_n 1, 1) ∧
  decode (cM m_RingDater_copyRow) 15 = .ok (.iload_n 2, 1) ∧
  decode (cM m_RingDater_copyRow) 16 = .ok (.aload_n 0, 1) ∧
  decode (cM m_RingDater_copyRow) 17 = .ok (.iload_n 2, 1) ∧
  decode (cM m_RingDater_copyRow) 18 = .ok (.iaload, 1) ∧
  decode (cM m_RingDater_copyRow) 19 = .ok (.iastore, 1) ∧
  decode (cM m_RingDater_copyRow) 20 = .ok (.iinc 2 1, 3) ∧
  decode (cM m_RingDater_copyRow) 23 = .ok (.goto (-21), 3) ∧
  am_okt 23 (-21) ∧
  am_tgt 23 (-21) = 2 ∧
  decode (cM m_RingDater_copyRow) 26 = .ok (.return_, 1) :=
  ⟨rfl, rfl, rfl, rfl, by decide +kernel, by decide +kernel, by decide +kernel, by decide +kernel, by decide +kernel, by decide +kernel, rfl, rfl, by decide +kernel, by decide +kernel, by decide +kernel, by decide +kernel, rfl, rfl, by decide +kernel, by decide +kernel, by decide +kernel, by decide +kernel, by decide +kernel, by decide +kernel, by decide +kernel, by decide +kernel, rfl, rfl, by decide +kernel⟩
set_option maxRecDepth 100000 in
set_option maxHeartbeats 4000000 in
theorem C_RingDater_mend : oM m_RingDater_mend = 11 ∧
  rkM m_RingDater_mend = 1 ∧
  dM m_RingDater_mend = 2 ∧
  lM m_RingDater_mend = 5 ∧
  decode (cM m_RingDater_mend) 0 = .ok (.aload_n 0, 1) ∧
  decode (cM m_RingDater_mend) 1 = .ok (.getfield 54, 3) ∧
  fldT 11 54 = some (11, 6, 2) ∧
  decode (cM m_RingDater_mend) 4 = .ok (.iload_n 1, 1) ∧
  decode (cM m_RingDater_mend) 5 = .ok (.invokevirtual 174, 3) ∧
  invT 11 174 = some (m_Stock_has, 0) ∧
  nM m_Stock_has = 2 ∧
  oM m_Stock_has = 8 ∧
  rkM m_Stock_has = 2 ∧
  dM m_Stock_has = 0 ∧
  decode (cM m_RingDater_mend) 8 = .ok (.ifCond .eq 14, 3) ∧
  am_okt 8 14 ∧
  am_tgt 8 14 = 22 ∧
  decode (cM m_RingDater_mend) 11 = .ok (.aload_n 0, 1) ∧
  decode (cM m_RingDater_mend) 12 = .ok (.getfield 54, 3) ∧
  decode (cM m_RingDater_mend) 15 = .ok (.iload_n 1, 1) ∧
  decode (cM m_RingDater_mend) 16 = .ok (.invokevirtual 182, 3) ∧
  invT 11 182 = some (m_Stock_isDated, 0) ∧
  nM m_Stock_isDated = 2 ∧
  oM m_Stock_isDated = 8 ∧
  rkM m_Stock_isDated = 2 ∧
  dM m_Stock_isDated = 1 ∧
  decode (cM m_RingDater_mend) 19 = .ok (.ifCond .eq 8, 3) ∧
  am_okt 19 8 ∧
  am_tgt 19 8 = 27 ∧
  decode (cM m_RingDater_mend) 22 = .ok (.aload_n 0, 1) ∧
  decode (cM m_RingDater_mend) 23 = .ok (.invokevirtual 334, 3) ∧
  invT 11 334 = some (m_RingDater_refusedAct, 0) ∧
  nM m_RingDater_refusedAct = 1 ∧
  oM m_RingDater_refusedAct = 11 ∧
  rkM m_RingDater_refusedAct = 1 ∧
  dM m_RingDater_refusedAct = 0 ∧
  decode (cM m_RingDater_mend) 26 = .ok (.ireturn, 1) ∧
  decode (cM m_RingDater_mend) 27 = .ok (.aload_n 0, 1) ∧
  decode (cM m_RingDater_mend) 28 = .ok (.getfield 54, 3) ∧
  decode (cM m_RingDater_mend) 31 = .ok (.iload_n 1, 1) ∧
  decode (cM m_RingDater_mend) 32 = .ok (.invokevirtual 178, 3) ∧
  invT 11 178 = some (m_Stock_timberAt, 0) ∧
  nM m_Stock_timberAt = 2 ∧
  oM m_Stock_timberAt = 8 ∧
  rkM m_Stock_timberAt = 3 ∧
  dM m_Stock_timberAt = 1 ∧
  decode (cM m_RingDater_mend) 35 = .ok (.astore 4, 2) ∧
  decode (cM m_RingDater_mend) 37 = .ok (.iload_n 3, 1) ∧
  decode (cM m_RingDater_mend) 38 = .ok (.ifCond .eq 15, 3) ∧
  am_okt 38 15 ∧
  am_tgt 38 15 = 53 ∧
  decode (cM m_RingDater_mend) 41 = .ok (.aload 4, 2) ∧
  decode (cM m_RingDater_mend) 43 = .ok (.iload_n 2, 1) ∧
  decode (cM m_RingDater_mend) 44 = .ok (.invokevirtual 340, 3) ∧
  invT 11 340 = some (m_Timber_canGain, 0) ∧
  nM m_Timber_canGain = 2 ∧
  oM m_Timber_canGain = 9 ∧
  rkM m_Timber_canGain = 2 ∧
  dM m_Timber_canGain = 1 ∧
  decode (cM m_RingDater_mend) 47 = .ok (.ifCond .ne 20, 3) ∧
  am_okt 47 20 ∧
  am_tgt 47 20 = 67 ∧
  decode (cM m_RingDater_mend) 50 = .ok (.goto 12, 3) ∧
  am_okt 50 12 ∧
  am_tgt 50 12 = 62 ∧
  decode (cM m_RingDater_mend) 53 = .ok (.aload 4, 2) ∧
  decode (cM m_RingDater_mend) 55 = .ok (.iload_n 2, 1) ∧
  decode (cM m_RingDater_mend) 56 = .ok (.invokevirtual 343, 3) ∧
  invT 11 343 = some (m_Timber_canLose, 0) ∧
  nM m_Timber_canLose = 2 ∧
  oM m_Timber_canLose = 9 ∧
  rkM m_Timber_canLose = 2 ∧
  dM m_Timber_canLose = 1 ∧
  decode (cM m_RingDater_mend) 59 = .ok (.ifCond .ne 8, 3) ∧
  am_okt 59 8 ∧
  am_tgt 59 8 = 67 ∧
  decode (cM m_RingDater_mend) 62 = .ok (.aload_n 0, 1) ∧
  decode (cM m_RingDater_mend) 63 = .ok (.invokevirtual 334, 3) ∧
  decode (cM m_RingDater_mend) 66 = .ok (.ireturn, 1) ∧
  decode (cM m_RingDater_mend) 67 = .ok (.iload_n 3, 1) ∧
  decode (cM m_RingDater_mend) 68 = .ok (.ifCond .eq 24, 3) ∧
  am_okt 68 24 ∧
  am_tgt 68 24 = 92 ∧
  decode (cM m_RingDater_mend) 71 = .ok (.aload_n 0, 1) ∧
  decode (cM m_RingDater_mend) 72 = .ok (.getfield 61, 3) ∧
  fldT 11 61 = some (11, 7, 2) ∧
  decode (cM m_RingDater_mend) 75 = .ok (.iconst 2, 1) ∧
  decode (cM m_RingDater_mend) 76 = .ok (.iload_n 1, 1) ∧
  decode (cM m_RingDater_mend) 77 = .ok (.iload_n 2, 1) ∧
  decode (cM m_RingDater_mend) 78 = .ok (.iconst 0, 1) ∧
  decode (cM m_RingDater_mend) 79 = .ok (.invokevirtual 326, 3) ∧
  invT 11 326 = some (m_Ledger_record, 0) ∧
  nM m_Ledger_record = 5 ∧
  oM m_Ledger_record = 3 ∧
  rkM m_Ledger_record = 0 ∧
  dM m_Ledger_record = 1 ∧
  decode (cM m_RingDater_mend) 82 = .ok (.aload 4, 2) ∧
  decode (cM m_RingDater_mend) 84 = .ok (.iload_n 2, 1) ∧
  decode (cM m_RingDater_mend) 85 = .ok (.iconst 1, 1) ∧
  decode (cM m_RingDater_mend) 86 = .ok (.invokevirtual 346, 3) ∧
  invT 11 346 = some (m_Timber_insertRing, 0) ∧
  nM m_Timber_insertRing = 3 ∧
  oM m_Timber_insertRing = 9 ∧
  rkM m_Timber_insertRing = 0 ∧
  dM m_Timber_insertRing = 0 ∧
  decode (cM m_RingDater_mend) 89 = .ok (.goto 25, 3) ∧
  am_okt 89 25 ∧
  am_tgt 89 25 = 114 ∧
  decode (cM m_RingDater_mend) 92 = .ok (.aload_n 0, 1) ∧
  decode (cM m_RingDater_mend) 93 = .ok (.getfield 61, 3) ∧
  decode (cM m_RingDater_mend) 96 = .ok (.iconst 3, 1) ∧
  decode (cM m_RingDater_mend) 97 = .ok (.iload_n 1, 1) ∧
  decode (cM m_RingDater_mend) 98 = .ok (.iload_n 2, 1) ∧
  decode (cM m_RingDater_mend) 99 = .ok (.aload 4, 2) ∧
  decode (cM m_RingDater_mend) 101 = .ok (.iload_n 2, 1) ∧
  decode (cM m_RingDater_mend) 102 = .ok (.invokevirtual 234, 3) ∧
  invT 11 234 = some (m_Timber_widthOf, 0) ∧
  nM m_Timber_widthOf = 2 ∧
  oM m_Timber_widthOf = 9 ∧
  rkM m_Timber_widthOf = 1 ∧
  dM m_Timber_widthOf = 0 ∧
  decode (cM m_RingDater_mend) 105 = .ok (.invokevirtual 326, 3) ∧
  decode (cM m_RingDater_mend) 108 = .ok (.aload 4, 2) ∧
  decode (cM m_RingDater_mend) 110 = .ok (.iload_n 2, 1) ∧
  decode (cM m_RingDater_mend) 111 = .ok (.invokevirtual 349, 3) ∧
  invT 11 349 = some (m_Timber_removeRing, 0) ∧
  nM m_Timber_removeRing = 2 ∧
  oM m_Timber_removeRing = 9 ∧
  rkM m_Timber_removeRing = 0 ∧
  dM m_Timber_removeRing = 1 ∧
  decode (cM m_RingDater_mend) 114 = .ok (.aload 4, 2) ∧
  decode (cM m_RingDater_mend) 116 = .ok (.getfield 185, 3) ∧
  fldT 11 185 = some (9, 2, 0) ∧
  decode (cM m_RingDater_mend) 119 = .ok (.ireturn, 1) :=
  ⟨rfl, rfl, rfl, rfl, by decide +kernel, by decide +kernel, rfl, by decide +kernel, by decide +kernel, rfl, rfl, rfl, rfl, rfl, by decide +kernel, rfl, rfl, by decide +kernel, by decide +kernel, by decide +kernel, by decide +kernel, rfl, rfl, rfl, rfl, rfl, by decide +kernel, rfl, rfl, by decide +kernel, by decide +kernel, rfl, rfl, rfl, rfl, rfl, by decide +kernel, by decide +kernel, by decide +kernel, by decide +kernel, by decide +kernel, rfl, rfl, rfl, rfl, rfl, by decide +kernel, by decide +kernel, by decide +kernel, rfl, rfl, by decide +kernel, by decide +kernel, by decide +kernel, rfl, rfl, rfl, rfl, rfl, by decide +kernel, rfl, rfl, by decide +kernel, rfl, rfl, by decide +kernel, by decide +kernel, by decide +kernel, rfl, rfl, rfl, rfl, rfl, by decide +kernel, rfl, rfl, by decide +kernel, by decide +kernel, by decide +kernel, by decide +kernel, by decide +kernel, rfl, rfl, by decide +kernel, by decide +kernel, rfl, by decide +kernel, by decide +kernel, by decide +kernel, by decide +kernel, by decide +kernel, rfl, rfl, rfl, rfl, rfl, by decide +kernel, by decide +kernel, by decide +kernel, by decide +kernel, rfl, rfl, rfl, rfl, rfl, by decide +kernel, rfl, rfl, by decide +kernel, by decide +kernel, by decide +kernel, by decide +kernel, by decide +kernel, by decide +kernel, by decide +kernel, by decide +kernel, rfl, rfl, rfl, rfl, rfl, by decide +kernel, by decide +kernel, by decide +kernel, by decide +kernel, rfl, rfl, rfl, rfl, rfl, by decide +kernel, by decide +kernel, rfl, by decide +kernel⟩
set_option maxRecDepth 100000 in
set_option maxHeartbeats 4000000 in
theorem C_RingDater_doubt : oM m_RingDater_doubt = 11 ∧
  rkM m_RingDater_doubt = 1 ∧
  dM m_RingDater_doubt = 2 ∧
  lM m_RingDater_doubt = 4 ∧
  decode (cM m_RingDater_doubt) 0 = .ok (.aload_n 0, 1) ∧
  decode (cM m_RingDater_doubt) 1 = .ok (.getfield 54, 3) ∧
  fldT 11 54 = some (11, 6, 2) ∧
  decode (cM m_RingDater_doubt) 4 = .ok (.iload_n 1, 1) ∧
  decode (cM m_RingDater_doubt) 5 = .ok (.invokevirtual 174, 3) ∧
  invT 11 174 = some (m_Stock_has, 0) ∧
  nM m_Stock_has = 2 ∧
  oM m_Stock_has = 8 ∧
  rkM m_Stock_has = 2 ∧
  dM m_Stock_has = 0 ∧
  decode (cM m_RingDater_doubt) 8 = .ok (.ifCond .eq 18, 3) ∧
  am_okt 8 18 ∧
  am_tgt 8 18 = 26 ∧
  decode (cM m_RingDater_doubt) 11 = .ok (.aload_n 0, 1) ∧
  decode (cM m_RingDater_doubt) 12 = .ok (.getfield 54, 3) ∧
  decode (cM m_RingDater_doubt) 15 = .ok (.iload_n 1, 1) ∧
  decode (cM m_RingDater_doubt) 16 = .ok (.invokevirtual 178, 3) ∧
  invT 11 178 = some (m_Stock_timberAt, 0) ∧
  nM m_Stock_timberAt = 2 ∧
  oM m_Stock_timberAt = 8 ∧
  rkM m_Stock_timberAt = 3 ∧
  dM m_Stock_timberAt = 1 ∧
  decode (cM m_RingDater_doubt) 19 = .ok (.iload_n 2, 1) ∧
  decode (cM m_RingDater_doubt) 20 = .ok (.invokevirtual 233, 3) ∧
  invT 11 233 = some (m_Timber_has, 0) ∧
  nM m_Timber_has = 2 ∧
  oM m_Timber_has = 9 ∧
  rkM m_Timber_has = 2 ∧
  dM m_Timber_has = 0 ∧
  decode (cM m_RingDater_doubt) 23 = .ok (.ifCond .ne 8, 3) ∧
  am_okt 23 8 ∧
  am_tgt 23 8 = 31 ∧
  decode (cM m_RingDater_doubt) 26 = .ok (.aload_n 0, 1) ∧
  decode (cM m_RingDater_doubt) 27 = .ok (.invokevirtual 334, 3) ∧
  invT 11 334 = some (m_RingDater_refusedAct, 0) ∧
  nM m_RingDater_refusedAct = 1 ∧
  oM m_RingDater_refusedAct = 11 ∧
  rkM m_RingDater_refusedAct = 1 ∧
  dM m_RingDater_refusedAct = 0 ∧
  decode (cM m_RingDater_doubt) 30 = .ok (.ireturn, 1) ∧
  decode (cM m_RingDater_doubt) 31 = .ok (.aload_n 0, 1) ∧
  decode (cM m_RingDater_doubt) 32 = .ok (.getfield 54, 3) ∧
  decode (cM m_RingDater_doubt) 35 = .ok (.iload_n 1, 1) ∧
  decode (cM m_RingDater_doubt) 36 = .ok (.invokevirtual 178, 3) ∧
  decode (cM m_RingDater_doubt) 39 = .ok (.astore_n 3, 1) ∧
  decode (cM m_RingDater_doubt) 40 = .ok (.aload_n 0, 1) ∧
  decode (cM m_RingDater_doubt) 41 = .ok (.getfield 61, 3) ∧
  fldT 11 61 = some (11, 7, 2) ∧
  decode (cM m_RingDater_doubt) 44 = .ok (.iconst 4, 1) ∧
  decode (cM m_RingDater_doubt) 45 = .ok (.iload_n 1, 1) ∧
  decode (cM m_RingDater_doubt) 46 = .ok (.iload_n 2, 1) ∧
  decode (cM m_RingDater_doubt) 47 = .ok (.iconst 0, 1) ∧
  decode (cM m_RingDater_doubt) 48 = .ok (.invokevirtual 326, 3) ∧
  invT 11 326 = some (m_Ledger_record, 0) ∧
  nM m_Ledger_record = 5 ∧
  oM m_Ledger_record = 3 ∧
  rkM m_Ledger_record = 0 ∧
  dM m_Ledger_record = 1 ∧
  decode (cM m_RingDater_doubt) 51 = .ok (.aload_n 3, 1) ∧
  decode (cM m_RingDater_doubt) 52 = .ok (.iload_n 2, 1) ∧
  decode (cM m_RingDater_doubt) 53 = .ok (.invokevirtual 352, 3) ∧
  invT 11 352 = some (m_Timber_turnDoubt, 0) ∧
  nM m_Timber_turnDoubt = 2 ∧
  oM m_Timber_turnDoubt = 9 ∧
  rkM m_Timber_turnDoubt = 0 ∧
  dM m_Timber_turnDoubt = 1 ∧
  decode (cM m_RingDater_doubt) 56 = .ok (.aload_n 3, 1) ∧
  decode (cM m_RingDater_doubt) 57 = .ok (.iload_n 2, 1) ∧
  decode (cM m_RingDater_doubt) 58 = .ok (.invokevirtual 237, 3) ∧
  invT 11 237 = some (m_Timber_isDoubtful, 0) ∧
  nM m_Timber_isDoubtful = 2 ∧
  oM m_Timber_isDoubtful = 9 ∧
  rkM m_Timber_isDoubtful = 2 ∧
  dM m_Timber_isDoubtful = 0 ∧
  decode (cM m_RingDater_doubt) 61 = .ok (.ifCond .eq 7, 3) ∧
  am_okt 61 7 ∧
  am_tgt 61 7 = 68 ∧
  decode (cM m_RingDater_doubt) 64 = .ok (.iconst 1, 1) ∧
  decode (cM m_RingDater_doubt) 65 = .ok (.goto 4, 3) ∧
  am_okt 65 4 ∧
  am_tgt 65 4 = 69 ∧
  decode (cM m_RingDater_doubt) 68 = .ok (.iconst 0, 1) ∧
  decode (cM m_RingDater_doubt) 69 = .ok (.ireturn, 1) :=
  ⟨rfl, rfl, rfl, rfl, by decide +kernel, by decide +kernel, rfl, by decide +kernel, by decide +kernel, rfl, rfl, rfl, rfl, rfl, by decide +kernel, rfl, rfl, by decide +kernel, by decide +kernel, by decide +kernel, by decide +kernel, rfl, rfl, rfl, rfl, rfl, by decide +kernel, by decide +kernel, rfl, rfl, rfl, rfl, rfl, by decide +kernel, rfl, rfl, by decide +kernel, by decide +kernel, rfl, rfl, rfl, rfl, rfl, by decide +kernel, by decide +kernel, by decide +kernel, by decide +kernel, by decide +kernel, by decide +kernel, by decide +kernel, by decide +kernel, rfl, by decide +kernel, by decide +kernel, by decide +kernel, by decide +kernel, by decide +kernel, rfl, rfl, rfl, rfl, rfl, by decide +kernel, by decide +kernel, by decide +kernel, rfl, rfl, rfl, rfl, rfl, by decide +kernel, by decide +kernel, by decide +kernel, rfl, rfl, rfl, rfl, rfl, by decide +kernel, rfl, rfl, by decide +kernel, by decide +kernel, rfl, rfl, by decide +kernel, by decide +kernel⟩
set_option maxRecDepth 100000 in
set_option maxHeartbeats 4000000 in
theorem C_RingDater_move : oM m_RingDater_move = 11 ∧
  rkM m_RingDater_move = 1 ∧
  dM m_RingDater_move = 2 ∧
  lM m_RingDater_move = 5 ∧
  decode (cM m_RingDater_move) 0 = .ok (.aload_n 0, 1) ∧
  decode (cM m_RingDater_move) 1 = .ok (.getfield 54, 3) ∧
  fldT 11 54 = some (11, 6, 2) ∧
  decode (cM m_RingDater_move) 4 = .ok (.iload_n 1, 1) ∧
  decode (cM m_RingDater_move) 5 = .ok (.invokevirtual 174, 3) ∧
  invT 11 174 = some (m_Stock_has, 0) ∧
  nM m_Stock_has = 2 ∧
  oM m_Stock_has = 8 ∧
  rkM m_Stock_has = 2 ∧
  dM m_Stock_has = 0 ∧
  decode (cM m_RingDater_move) 8 = .ok (.ifCond .eq 27, 3) ∧
  am_okt 8 27 ∧
  am_tgt 8 27 = 35 ∧
  decode (cM m_RingDater_move) 11 = .ok (.iload_n 2, 1) ∧
  decode (cM m_RingDater_move) 12 = .ok (.ifCond .lt 23, 3) ∧
  am_okt 12 23 ∧
  am_tgt 12 23 = 35 ∧
  decode (cM m_RingDater_move) 15 = .ok (.iload_n 2, 1) ∧
  decode (cM m_RingDater_move) 16 = .ok (.iconst 3, 1) ∧
  decode (cM m_RingDater_move) 17 = .ok (.if_icmp .gt 18, 3) ∧
  am_okt 17 18 ∧
  am_tgt 17 18 = 35 ∧
  decode (cM m_RingDater_move) 20 = .ok (.aload_n 0, 1) ∧
  decode (cM m_RingDater_move) 21 = .ok (.getfield 54, 3) ∧
  decode (cM m_RingDater_move) 24 = .ok (.iload_n 1, 1) ∧
  decode (cM m_RingDater_move) 25 = .ok (.invokevirtual 178, 3) ∧
  invT 11 178 = some (m_Stock_timberAt, 0) ∧
  nM m_Stock_timberAt = 2 ∧
  oM m_Stock_timberAt = 8 ∧
  rkM m_Stock_timberAt = 3 ∧
  dM m_Stock_timberAt = 1 ∧
  decode (cM m_RingDater_move) 28 = .ok (.getfield 215, 3) ∧
  fldT 11 215 = some (9, 5, 0) ∧
  decode (cM m_RingDater_move) 31 = .ok (.iload_n 2, 1) ∧
  decode (cM m_RingDater_move) 32 = .ok (.if_icmp .ne 8, 3) ∧
  am_okt 32 8 ∧
  am_tgt 32 8 = 40 ∧
  decode (cM m_RingDater_move) 35 = .ok (.aload_n 0, 1) ∧
  decode (cM m_RingDater_move) 36 = .ok (.invokevirtual 334, 3) ∧
  invT 11 334 = some (m_RingDater_refusedAct, 0) ∧
  nM m_RingDater_refusedAct = 1 ∧
  oM m_RingDater_refusedAct = 11 ∧
  rkM m_RingDater_refusedAct = 1 ∧
  dM m_RingDater_refusedAct = 0 ∧
  decode (cM m_RingDater_move) 39 = .ok (.ireturn, 1) ∧
  decode (cM m_RingDater_move) 40 = .ok (.aload_n 0, 1) ∧
  decode (cM m_RingDater_move) 41 = .ok (.getfield 54, 3) ∧
  decode (cM m_RingDater_move) 44 = .ok (.iload_n 1, 1) ∧
  decode (cM m_RingDater_move) 45 = .ok (.invokevirtual 178, 3) ∧
  decode (cM m_RingDater_move) 48 = .ok (.astore_n 3, 1) ∧
  decode (cM m_RingDater_move) 49 = .ok (.aload_n 3, 1) ∧
  decode (cM m_RingDater_move) 50 = .ok (.getfield 215, 3) ∧
  decode (cM m_RingDater_move) 53 = .ok (.istore 4, 2) ∧
  decode (cM m_RingDater_move) 55 = .ok (.aload_n 0, 1) ∧
  decode (cM m_RingDater_move) 56 = .ok (.getfield 61, 3) ∧
  fldT 11 61 = some (11, 7, 2) ∧
  decode (cM m_RingDater_move) 59 = .ok (.iconst 5, 1) ∧
  decode (cM m_RingDater_move) 60 = .ok (.iload_n 1, 1) ∧
  decode (cM m_RingDater_move) 61 = .ok (.iconst 0, 1) ∧
  decode (cM m_RingDater_move) 62 = .ok (.iload 4, 2) ∧
  decode (cM m_RingDater_move) 64 = .ok (.invokevirtual 326, 3) ∧
  invT 11 326 = some (m_Ledger_record, 0) ∧
  nM m_Ledger_record = 5 ∧
  oM m_Ledger_record = 3 ∧
  rkM m_Ledger_record = 0 ∧
  dM m_Ledger_record = 1 ∧
  decode (cM m_RingDater_move) 67 = .ok (.aload_n 3, 1) ∧
  decode (cM m_RingDater_move) 68 = .ok (.iload_n 2, 1) ∧
  decode (cM m_RingDater_move) 69 = .ok (.putfield 215, 3) ∧
  decode (cM m_RingDater_move) 72 = .ok (.iload 4, 2) ∧
  decode (cM m_RingDater_move) 74 = .ok (.ireturn, 1) :=
  ⟨rfl, rfl, rfl, rfl, by decide +kernel, by decide +kernel, rfl, by decide +kernel, by decide +kernel, rfl, rfl, rfl, rfl, rfl, by decide +kernel, rfl, rfl, by decide +kernel, by decide +kernel, rfl, rfl, by decide +kernel, by decide +kernel, by decide +kernel, rfl, rfl, by decide +kernel, by decide +kernel, by decide +kernel, by decide +kernel, rfl, rfl, rfl, rfl, rfl, by decide +kernel, rfl, by decide +kernel, by decide +kernel, rfl, rfl, by decide +kernel, by decide +kernel, rfl, rfl, rfl, rfl, rfl, by decide +kernel, by decide +kernel, by decide +kernel, by decide +kernel, by decide +kernel, by decide +kernel, by decide +kernel, by decide +kernel, by decide +kernel, by decide +kernel, by decide +kernel, rfl, by decide +kernel, by decide +kernel, by decide +kernel, by decide +kernel, by decide +kernel, rfl, rfl, rfl, rfl, rfl, by decide +kernel, by decide +kernel, by decide +kernel, by decide +kernel, by decide +kernel⟩
set_option maxRecDepth 100000 in
set_option maxHeartbeats 4000000 in
theorem C_RingDater_undo : oM m_RingDater_undo = 11 ∧
  rkM m_RingDater_undo = 1 ∧
  dM m_RingDater_undo = 4 ∧
  lM m_RingDater_undo = 1 ∧
  decode (cM m_RingDater_undo) 0 = .ok (.aload_n 0, 1) ∧
  decode (cM m_RingDater_undo) 1 = .ok (.getfield 61, 3) ∧
  fldT 11 61 = some (11, 7, 2) ∧
  decode (cM m_RingDater_undo) 4 = .ok (.getfield 110, 3) ∧
  fldT 11 110 = some (3, 4, 0) ∧
  decode (cM m_RingDater_undo) 7 = .ok (.ifCond .le 17, 3) ∧
  am_okt 7 17 ∧
  am_tgt 7 17 = 24 ∧
  decode (cM m_RingDater_undo) 10 = .ok (.aload_n 0, 1) ∧
  decode (cM m_RingDater_undo) 11 = .ok (.getfield 61, 3) ∧
  decode (cM m_RingDater_undo) 14 = .ok (.aload_n 0, 1) ∧
  decode (cM m_RingDater_undo) 15 = .ok (.getfield 54, 3) ∧
  fldT 11 54 = some (11, 6, 2) ∧
  decode (cM m_RingDater_undo) 18 = .ok (.invokevirtual 355, 3) ∧
  invT 11 355 = some (m_Ledger_takeBack, 0) ∧
  nM m_Ledger_takeBack = 2 ∧
  oM m_Ledger_takeBack = 3 ∧
  rkM m_Ledger_takeBack = 1 ∧
  dM m_Ledger_takeBack = 3 ∧
  decode (cM m_RingDater_undo) 21 = .ok (.goto 4, 3) ∧
  am_okt 21 4 ∧
  am_tgt 21 4 = 25 ∧
  decode (cM m_RingDater_undo) 24 = .ok (.iconst (-1), 1) ∧
  decode (cM m_RingDater_undo) 25 = .ok (.ireturn, 1) :=
  ⟨rfl, rfl, rfl, rfl, by decide +kernel, by decide +kernel, rfl, by decide +kernel, rfl, by decide +kernel, rfl, rfl, by decide +kernel, by decide +kernel, by decide +kernel, by decide +kernel, rfl, by decide +kernel, rfl, rfl, rfl, rfl, rfl, by decide +kernel, rfl, rfl, by decide +kernel, by decide +kernel⟩
set_option maxRecDepth 100000 in
set_option maxHeartbeats 4000000 in
theorem C_RingDater_note : oM m_RingDater_note = 11 ∧
  rkM m_RingDater_note = 1 ∧
  dM m_RingDater_note = 1 ∧
  lM m_RingDater_note = 3 ∧
  decode (cM m_RingDater_note) 0 = .ok (.aload_n 0, 1) ∧
  decode (cM m_RingDater_note) 1 = .ok (.getfield 68, 3) ∧
  fldT 11 68 = some (11, 8, 2) ∧
  decode (cM m_RingDater_note) 4 = .ok (.getfield 113, 3) ∧
  fldT 11 113 = some (4, 2, 0) ∧
  decode (cM m_RingDater_note) 7 = .ok (.bipush 8, 2) ∧
  decode (cM m_RingDater_note) 9 = .ok (.if_icmp .ge 26, 3) ∧
  am_okt 9 26 ∧
  am_tgt 9 26 = 35 ∧
  decode (cM m_RingDater_note) 12 = .ok (.aload_n 0, 1) ∧
  decode (cM m_RingDater_note) 13 = .ok (.getfield 54, 3) ∧
  fldT 11 54 = some (11, 6, 2) ∧
  decode (cM m_RingDater_note) 16 = .ok (.iload_n 1, 1) ∧
  decode (cM m_RingDater_note) 17 = .ok (.invokevirtual 174, 3) ∧
  invT 11 174 = some (m_Stock_has, 0) ∧
  nM m_Stock_has = 2 ∧
  oM m_Stock_has = 8 ∧
  rkM m_Stock_has = 2 ∧
  dM m_Stock_has = 0 ∧
  decode (cM m_RingDater_note) 20 = .ok (.ifCond .eq 15, 3) ∧
  am_okt 20 15 ∧
  am_tgt 20 15 = 35 ∧
  decode (cM m_RingDater_note) 23 = .ok (.iload_n 2, 1) ∧
  decode (cM m_RingDater_note) 24 = .ok (.iconst (-1), 1) ∧
  decode (cM m_RingDater_note) 25 = .ok (.if_icmp .eq 22, 3) ∧
  am_okt 25 22 ∧
  am_tgt 25 22 = 47 ∧
  decode (cM m_RingDater_note) 28 = .ok (.iload_n 2, 1) ∧
  decode (cM m_RingDater_note) 29 = .ok (.invokestatic 323, 3) ∧
  invT 11 323 = some (m_RingDater_isYear, 1) ∧
  nM m_RingDater_isYear = 1 ∧
  oM m_RingDater_isYear = 11 ∧
  rkM m_RingDater_isYear = 2 ∧
  dM m_RingDater_isYear = 0 ∧
  decode (cM m_RingDater_note) 32 = .ok (.ifCond .ne 15, 3) ∧
  am_okt 32 15 ∧
  am_tgt 32 15 = 47 ∧
  decode (cM m_RingDater_note) 35 = .ok (.aload_n 0, 1) ∧
  decode (cM m_RingDater_note) 36 = .ok (.getfield 72, 3) ∧
  fldT 11 72 = some (11, 9, 2) ∧
  decode (cM m_RingDater_note) 39 = .ok (.iconst 2, 1) ∧
  decode (cM m_RingDater_note) 40 = .ok (.dup2, 1) ∧
  decode (cM m_RingDater_note) 41 = .ok (.iaload, 1) ∧
  decode (cM m_RingDater_note) 42 = .ok (.iconst 1, 1) ∧
  decode (cM m_RingDater_note) 43 = .ok (.iadd, 1) ∧
  decode (cM m_RingDater_note) 44 = .ok (.iastore, 1) ∧
  decode (cM m_RingDater_note) 45 = .ok (.iconst (-1), 1) ∧
  decode (cM m_RingDater_note) 46 = .ok (.ireturn, 1) ∧
  decode (cM m_RingDater_note) 47 = .ok (.aload_n 0, 1) ∧
  decode (cM m_RingDater_note) 48 = .ok (.getfield 68, 3) ∧
  decode (cM m_RingDater_note) 51 = .ok (.iload_n 1, 1) ∧
  decode (cM m_RingDater_note) 52 = .ok (.iload_n 2, 1) ∧
  decode (cM m_RingDater_note) 53 = .ok (.invokevirtual 359, 3) ∧
  invT 11 359 = some (m_Notes_add, 0) ∧
  nM m_Notes_add = 3 ∧
  oM m_Notes_add = 4 ∧
  rkM m_Notes_add = 0 ∧
  dM m_Notes_add = 0 ∧
  decode (cM m_RingDater_note) 56 = .ok (.aload_n 0, 1) ∧
  decode (cM m_RingDater_note) 57 = .ok (.getfield 68, 3) ∧
  decode (cM m_RingDater_note) 60 = .ok (.getfield 113, 3) ∧
  decode (cM m_RingDater_note) 63 = .ok (.ireturn, 1) :=
  ⟨rfl, rfl, rfl, rfl, by decide +kernel, by decide +kernel, rfl, by decide +kernel, rfl, by decide +kernel, by decide +kernel, rfl, rfl, by decide +kernel, by decide +kernel, rfl, by decide +kernel, by decide +kernel, rfl, rfl, rfl, rfl, rfl, by decide +kernel, rfl, rfl, by decide +kernel, by decide +kernel, by decide +kernel, rfl, rfl, by decide +kernel, by decide +kernel, rfl, rfl, rfl, rfl, rfl, by decide +kernel, rfl, rfl, by decide +kernel, by decide +kernel, rfl, by decide +kernel, by decide +kernel, by decide +kernel, by decide +kernel, by decide +kernel, by decide +kernel, by decide +kernel, by decide +kernel, by decide +kernel, by decide +kernel, by decide +kernel, by decide +kernel, by decide +kernel, rfl, rfl, rfl, rfl, rfl, by decide +kernel, by decide +kernel, by decide +kernel, by decide +kernel⟩
set_option maxRecDepth 100000 in
set_option maxHeartbeats 4000000 in
theorem C_RingDater_forget : oM m_RingDater_forget = 11 ∧
  rkM m_RingDater_forget = 0 ∧
  dM m_RingDater_forget = 0 ∧
  lM m_RingDater_forget = 1 ∧
  decode (cM m_RingDater_forget) 0 = .ok (.aload_n 0, 1) ∧
  decode (cM m_RingDater_forget) 1 = .ok (.getfield 68, 3) ∧
  fldT 11 68 = some (11, 8, 2) ∧
  decode (cM m_RingDater_forget) 4 = .ok (.iconst 0, 1) ∧
  decode (cM m_RingDater_forget) 5 = .ok (.putfield 113, 3) ∧
  fldT 11 113 = some (4, 2, 0) ∧
  decode (cM m_RingDater_forget) 8 = .ok (.return_, 1) :=
  ⟨rfl, rfl, rfl, rfl, by decide +kernel, by decide +kernel, rfl, by decide +kernel, by decide +kernel, rfl, by decide +kernel⟩
set_option maxRecDepth 100000 in
set_option maxHeartbeats 4000000 in
theorem C_RingDater_image : oM m_RingDater_image = 11 ∧
  rkM m_RingDater_image = 0 ∧
  dM m_RingDater_image = 2 ∧
  lM m_RingDater_image = 1 ∧
  decode (cM m_RingDater_image) 0 = .ok (.aload_n 0, 1) ∧
  decode (cM m_RingDater_image) 1 = .ok (.getfield 76, 3) ∧
  fldT 11 76 = some (11, 10, 2) ∧
  decode (cM m_RingDater_image) 4 = .ok (.aload_n 0, 1) ∧
  decode (cM m_RingDater_image) 5 = .ok (.getfield 54, 3) ∧
  fldT 11 54 = some (11, 6, 2) ∧
  decode (cM m_RingDater_image) 8 = .ok (.invokevirtual 106, 3) ∧
  invT 11 106 = some (m_Stock_copyFrom, 0) ∧
  nM m_Stock_copyFrom = 2 ∧
  oM m_Stock_copyFrom = 8 ∧
  rkM m_Stock_copyFrom = 0 ∧
  dM m_Stock_copyFrom = 1 ∧
  decode (cM m_RingDater_image) 11 = .ok (.aload_n 0, 1) ∧
  decode (cM m_RingDater_image) 12 = .ok (.getfield 79, 3) ∧
  fldT 11 79 = some (11, 11, 2) ∧
  decode (cM m_RingDater_image) 15 = .ok (.aload_n 0, 1) ∧
  decode (cM m_RingDater_image) 16 = .ok (.getfield 61, 3) ∧
  fldT 11 61 = some (11, 7, 2) ∧
  decode (cM m_RingDater_image) 19 = .ok (.invokevirtual 387, 3) ∧
  invT 11 387 = some (m_Ledger_copyFrom, 0) ∧
  nM m_Ledger_copyFrom = 2 ∧
  oM m_Ledger_copyFrom = 3 ∧
  rkM m_Ledger_copyFrom = 0 ∧
  dM m_Ledger_copyFrom = 1 ∧
  decode (cM m_RingDater_image) 22 = .ok (.aload_n 0, 1) ∧
  decode (cM m_RingDater_image) 23 = .ok (.getfield 82, 3) ∧
  fldT 11 82 = some (11, 12, 2) ∧
  decode (cM m_RingDater_image) 26 = .ok (.aload_n 0, 1) ∧
  decode (cM m_RingDater_image) 27 = .ok (.getfield 68, 3) ∧
  fldT 11 68 = some (11, 8, 2) ∧
  decode (cM m_RingDater_image) 30 = .ok (.invokevirtual 390, 3) ∧
  invT 11 390 = some (m_Notes_copyFrom, 0) ∧
  nM m_Notes_copyFrom = 2 ∧
  oM m_Notes_copyFrom = 4 ∧
  rkM m_Notes_copyFrom = 0 ∧
  dM m_Notes_copyFrom = 1 ∧
  decode (cM m_RingDater_image) 33 = .ok (.aload_n 0, 1) ∧
  decode (cM m_RingDater_image) 34 = .ok (.getfield 72, 3) ∧
  fldT 11 72 = some (11, 9, 2) ∧
  decode (cM m_RingDater_image) 37 = .ok (.aload_n 0, 1) ∧
  decode (cM m_RingDater_image) 38 = .ok (.getfield 85, 3) ∧
  fldT 11 85 = some (11, 13, 2) ∧
  decode (cM m_RingDater_image) 41 = .ok (.invokestatic 393, 3) ∧
  invT 11 393 = some (m_RingDater_copyRow, 1) ∧
  nM m_RingDater_copyRow = 2 ∧
  oM m_RingDater_copyRow = 11 ∧
  rkM m_RingDater_copyRow = 0 ∧
  dM m_RingDater_copyRow = 0 ∧
  decode (cM m_RingDater_image) 44 = .ok (.aload_n 0, 1) ∧
  decode (cM m_RingDater_image) 45 = .ok (.iconst 1, 1) ∧
  decode (cM m_RingDater_image) 46 = .ok (.putfield 114, 3) ∧
  fldT 11 114 = some (11, 14, 1) ∧
  decode (cM m_RingDater_image) 49 = .ok (.return_, 1) :=
  ⟨rfl, rfl, rfl, rfl, by decide +kernel, by decide +kernel, rfl, by decide +kernel, by decide +kernel, rfl, by decide +kernel, rfl, rfl, rfl, rfl, rfl, by decide +kernel, by decide +kernel, rfl, by decide +kernel, by decide +kernel, rfl, by decide +kernel, rfl, rfl, rfl, rfl, rfl, by decide +kernel, by decide +kernel, rfl, by decide +kernel, by decide +kernel, rfl, by decide +kernel, rfl, rfl, rfl, rfl, rfl, by decide +kernel, by decide +kernel, rfl, by decide +kernel, by decide +kernel, rfl, by decide +kernel, rfl, rfl, rfl, rfl, rfl, by decide +kernel, by decide +kernel, by decide +kernel, rfl, by decide +kernel⟩
set_option maxRecDepth 100000 in
set_option maxHeartbeats 4000000 in
theorem C_RingDater_restore : oM m_RingDater_restore = 11 ∧
  rkM m_RingDater_restore = 2 ∧
  dM m_RingDater_restore = 2 ∧
  lM m_RingDater_restore = 1 ∧
  decode (cM m_RingDater_restore) 0 = .ok (.aload_n 0, 1) ∧
  decode (cM m_RingDater_restore) 1 = .ok (.getfield 114, 3) ∧
  fldT 11 114 = some (11, 14, 1) ∧
  decode (cM m_RingDater_restore) 4 = .ok (.ifCond .ne 5, 3) ∧
  am_okt 4 5 ∧
  am_tgt 4 5 = 9 ∧
  decode (cM m_RingDater_restore) 7 = .ok (.iconst 0, 1) ∧
  decode (cM m_RingDater_restore) 8 = .ok (.ireturn, 1) ∧
  decode (cM m_RingDater_restore) 9 = .ok (.aload_n 0, 1) ∧
  decode (cM m_RingDater_restore) 10 = .ok (.getfield 54, 3) ∧
  fldT 11 54 = some (11, 6, 2) ∧
  decode (cM m_RingDater_restore) 13 = .ok (.aload_n 0, 1) ∧
  decode (cM m_RingDater_restore) 14 = .ok (.getfield 76, 3) ∧
  fldT 11 76 = some (11, 10, 2) ∧
  decode (cM m_RingDater_restore) 17 = .ok (.invokevirtual 106, 3) ∧
  invT 11 106 = some (m_Stock_copyFrom, 0) ∧
  nM m_Stock_copyFrom = 2 ∧
  oM m_Stock_copyFrom = 8 ∧
  rkM m_Stock_copyFrom = 0 ∧
  dM m_Stock_copyFrom = 1 ∧
  decode (cM m_RingDater_restore) 20 = .ok (.aload_n 0, 1) ∧
  decode (cM m_RingDater_restore) 21 = .ok (.getfield 61, 3) ∧
  fldT 11 61 = some (11, 7, 2) ∧
  decode (cM m_RingDater_restore) 24 = .ok (.aload_n 0, 1) ∧
  decode (cM m_RingDater_restore) 25 = .ok (.getfield 79, 3) ∧
  fldT 11 79 = some (11, 11, 2) ∧
  decode (cM m_RingDater_restore) 28 = .ok (.invokevirtual 387, 3) ∧
  invT 11 387 = some (m_Ledger_copyFrom, 0) ∧
  nM m_Ledger_copyFrom = 2 ∧
  oM m_Ledger_copyFrom = 3 ∧
  rkM m_Ledger_copyFrom = 0 ∧
  dM m_Ledger_copyFrom = 1 ∧
  decode (cM m_RingDater_restore) 31 = .ok (.aload_n 0, 1) ∧
  decode (cM m_RingDater_restore) 32 = .ok (.getfield 68, 3) ∧
  fldT 11 68 = some (11, 8, 2) ∧
  decode (cM m_RingDater_restore) 35 = .ok (.aload_n 0, 1) ∧
  decode (cM m_RingDater_restore) 36 = .ok (.getfield 82, 3) ∧
  fldT 11 82 = some (11, 12, 2) ∧
  decode (cM m_RingDater_restore) 39 = .ok (.invokevirtual 390, 3) ∧
  invT 11 390 = some (m_Notes_copyFrom, 0) ∧
  nM m_Notes_copyFrom = 2 ∧
  oM m_Notes_copyFrom = 4 ∧
  rkM m_Notes_copyFrom = 0 ∧
  dM m_Notes_copyFrom = 1 ∧
  decode (cM m_RingDater_restore) 42 = .ok (.aload_n 0, 1) ∧
  decode (cM m_RingDater_restore) 43 = .ok (.getfield 85, 3) ∧
  fldT 11 85 = some (11, 13, 2) ∧
  decode (cM m_RingDater_restore) 46 = .ok (.aload_n 0, 1) ∧
  decode (cM m_RingDater_restore) 47 = .ok (.getfield 72, 3) ∧
  fldT 11 72 = some (11, 9, 2) ∧
  decode (cM m_RingDater_restore) 50 = .ok (.invokestatic 393, 3) ∧
  invT 11 393 = some (m_RingDater_copyRow, 1) ∧
  nM m_RingDater_copyRow = 2 ∧
  oM m_RingDater_copyRow = 11 ∧
  rkM m_RingDater_copyRow = 0 ∧
  dM m_RingDater_copyRow = 0 ∧
  decode (cM m_RingDater_restore) 53 = .ok (.iconst 1, 1) ∧
  decode (cM m_RingDater_restore) 54 = .ok (.ireturn, 1) :=
  ⟨rfl, rfl, rfl, rfl, by decide +kernel, by decide +kernel, rfl, by decide +kernel, rfl, rfl, by decide +kernel, by decide +kernel, by decide +kernel, by decide +kernel, rfl, by decide +kernel, by decide +kernel, rfl, by decide +kernel, rfl, rfl, rfl, rfl, rfl, by decide +kernel, by decide +kernel, rfl, by decide +kernel, by decide +kernel, rfl, by decide +kernel, rfl, rfl, rfl, rfl, rfl, by decide +kernel, by decide +kernel, rfl, by decide +kernel, by decide +kernel, rfl, by decide +kernel, rfl, rfl, rfl, rfl, rfl, by decide +kernel, by decide +kernel, rfl, by decide +kernel, by decide +kernel, rfl, by decide +kernel, rfl, rfl, rfl, rfl, rfl, by decide +kernel, by decide +kernel⟩
set_option maxRecDepth 100000 in
set_option maxHeartbeats 4000000 in
theorem C_RingDater_yard : oM m_RingDater_yard = 11 ∧
  rkM m_RingDater_yard = 1 ∧
  dM m_RingDater_yard = 12 ∧
  lM m_RingDater_yard = 3 ∧
  decode (cM m_RingDater_yard) 0 = .ok (.iload_n 1, 1) ∧
  decode (cM m_RingDater_yard) 1 = .ok (.ifCond .lt 14, 3) ∧
  am_okt 1 14 ∧
  am_tgt 1 14 = 15 ∧
  decode (cM m_RingDater_yard) 4 = .ok (.iload_n 1, 1) ∧
  decode (cM m_RingDater_yard) 5 = .ok (.aload_n 0, 1) ∧
  decode (cM m_RingDater_yard) 6 = .ok (.getfield 12, 3) ∧
  fldT 11 12 = some (11, 0, 2) ∧
  decode (cM m_RingDater_yard) 9 = .ok (.getfield 88, 3) ∧
  fldT 11 88 = some (5, 2, 0) ∧
  decode (cM m_RingDater_yard) 12 = .ok (.if_icmp .le 11, 3) ∧
  am_okt 12 11 ∧
  am_tgt 12 11 = 23 ∧
  decode (cM m_RingDater_yard) 15 = .ok (.new 96, 3) ∧
  excT 11 96 = some (1, 98) ∧
  decode (cM m_RingDater_yard) 18 = .ok (.dup, 1) ∧
  decode (cM m_RingDater_yard) 19 = .ok (.invokespecial 98, 3) ∧
  decode (cM m_RingDater_yard) 22 = .ok (.athrow, 1) ∧
  decode (cM m_RingDater_yard) 23 = .ok (.aload_n 0, 1) ∧
  decode (cM m_RingDater_yard) 24 = .ok (.getfield 12, 3) ∧
  decode (cM m_RingDater_yard) 27 = .ok (.iload_n 1, 1) ∧
  decode (cM m_RingDater_yard) 28 = .ok (.invokevirtual 99, 3) ∧
  invT 11 99 = some (m_Reader_readText, 0) ∧
  nM m_Reader_readText = 2 ∧
  oM m_Reader_readText = 5 ∧
  rkM m_Reader_readText = 1 ∧
  dM m_Reader_readText = 11 ∧
  decode (cM m_RingDater_yard) 31 = .ok (.istore_n 2, 1) ∧
  decode (cM m_RingDater_yard) 32 = .ok (.iload_n 2, 1) ∧
  decode (cM m_RingDater_yard) 33 = .ok (.ifCond .eq 15, 3) ∧
  am_okt 33 15 ∧
  am_tgt 33 15 = 48 ∧
  decode (cM m_RingDater_yard) 36 = .ok (.aload_n 0, 1) ∧
  decode (cM m_RingDater_yard) 37 = .ok (.getfield 72, 3) ∧
  fldT 11 72 = some (11, 9, 2) ∧
  decode (cM m_RingDater_yard) 40 = .ok (.iconst 0, 1) ∧
  decode (cM m_RingDater_yard) 41 = .ok (.dup2, 1) ∧
  decode (cM m_RingDater_yard) 42 = .ok (.iaload, 1) ∧
  decode (cM m_RingDater_yard) 43 = .ok (.iconst 1, 1) ∧
  decode (cM m_RingDater_yard) 44 = .ok (.iadd, 1) ∧
  decode (cM m_RingDater_yard) 45 = .ok (.iastore, 1) ∧
  decode (cM m_RingDater_yard) 46 = .ok (.iload_n 2, 1) ∧
  decode (cM m_RingDater_yard) 47 = .ok (.ireturn, 1) ∧
  decode (cM m_RingDater_yard) 48 = .ok (.aload_n 0, 1) ∧
  decode (cM m_RingDater_yard) 49 = .ok (.getfield 54, 3) ∧
  fldT 11 54 = some (11, 6, 2) ∧
  decode (cM m_RingDater_yard) 52 = .ok (.aload_n 0, 1) ∧
  decode (cM m_RingDater_yard) 53 = .ok (.getfield 12, 3) ∧
  decode (cM m_RingDater_yard) 56 = .ok (.getfield 103, 3) ∧
  fldT 11 103 = some (5, 1, 2) ∧
  decode (cM m_RingDater_yard) 59 = .ok (.invokevirtual 106, 3) ∧
  invT 11 106 = some (m_Stock_copyFrom, 0) ∧
  nM m_Stock_copyFrom = 2 ∧
  oM m_Stock_copyFrom = 8 ∧
  rkM m_Stock_copyFrom = 0 ∧
  dM m_Stock_copyFrom = 1 ∧
  decode (cM m_RingDater_yard) 62 = .ok (.aload_n 0, 1) ∧
  decode (cM m_RingDater_yard) 63 = .ok (.getfield 61, 3) ∧
  fldT 11 61 = some (11, 7, 2) ∧
  decode (cM m_RingDater_yard) 66 = .ok (.iconst 0, 1) ∧
  decode (cM m_RingDater_yard) 67 = .ok (.putfield 110, 3) ∧
  fldT 11 110 = some (3, 4, 0) ∧
  decode (cM m_RingDater_yard) 70 = .ok (.aload_n 0, 1) ∧
  decode (cM m_RingDater_yard) 71 = .ok (.getfield 68, 3) ∧
  fldT 11 68 = some (11, 8, 2) ∧
  decode (cM m_RingDater_yard) 74 = .ok (.iconst 0, 1) ∧
  decode (cM m_RingDater_yard) 75 = .ok (.putfield 113, 3) ∧
  fldT 11 113 = some (4, 2, 0) ∧
  decode (cM m_RingDater_yard) 78 = .ok (.aload_n 0, 1) ∧
  decode (cM m_RingDater_yard) 79 = .ok (.iconst 0, 1) ∧
  decode (cM m_RingDater_yard) 80 = .ok (.putfield 114, 3) ∧
  fldT 11 114 = some (11, 14, 1) ∧
  decode (cM m_RingDater_yard) 83 = .ok (.iconst 0, 1) ∧
  decode (cM m_RingDater_yard) 84 = .ok (.ireturn, 1) :=
  ⟨rfl, rfl, rfl, rfl, by decide +kernel, by decide +kernel, rfl, rfl, by decide +kernel, by decide +kernel, by decide +kernel, rfl, by decide +kernel, rfl, by decide +kernel, rfl, rfl, by decide +kernel, rfl, by decide +kernel, by decide +kernel, by decide +kernel, by decide +kernel, by decide +kernel, by decide +kernel, by decide +kernel, rfl, rfl, rfl, rfl, rfl, by decide +kernel, by decide +kernel, by decide +kernel, rfl, rfl, by decide +kernel, by decide +kernel, rfl, by decide +kernel, by decide +kernel, by decide +kernel, by decide +kernel, by decide +kernel, by decide +kernel, by decide +kernel, by decide +kernel, by decide +kernel, by decide +kernel, rfl, by decide +kernel, by decide +kernel, by decide +kernel, rfl, by decide +kernel, rfl, rfl, rfl, rfl, rfl, by decide +kernel, by decide +kernel, rfl, by decide +kernel, by decide +kernel, rfl, by decide +kernel, by decide +kernel, rfl, by decide +kernel, by decide +kernel, rfl, by decide +kernel, by decide +kernel, by decide +kernel, rfl, by decide +kernel, by decide +kernel⟩
set_option maxRecDepth 100000 in
set_option maxHeartbeats 4000000 in
theorem C_RingDater_count : oM m_RingDater_count = 11 ∧
  rkM m_RingDater_count = 1 ∧
  dM m_RingDater_count = 7 ∧
  lM m_RingDater_count = 2 ∧
  decode (cM m_RingDater_count) 0 = .ok (.iload_n 1, 1) ∧
  decode (cM m_RingDater_count) 1 = .ok (.tableswitch 321 0 21 #[103, 111, 119, 127, 135, 143, 155, 167, 175, 190, 198, 218, 238, 243, 248, 253, 276, 284, 292, 300, 307, 314], 103) ∧
  am_okt 1 321 ∧
  am_tgt 1 321 = 322 ∧
  am_okt 1 103 ∧
  am_tgt 1 103 = 104 ∧
  am_okt 1 111 ∧
  am_tgt 1 111 = 112 ∧
  am_okt 1 119 ∧
  am_tgt 1 119 = 120 ∧
  am_okt 1 127 ∧
  am_tgt 1 127 = 128 ∧
  am_okt 1 135 ∧
  am_tgt 1 135 = 136 ∧
  am_okt 1 143 ∧
  am_tgt 1 143 = 144 ∧
  am_okt 1 155 ∧
  am_tgt 1 155 = 156 ∧
  am_okt 1 167 ∧
  am_tgt 1 167 = 168 ∧
  am_okt 1 175 ∧
  am_tgt 1 175 = 176 ∧
  am_okt 1 190 ∧
  am_tgt 1 190 = 191 ∧
  am_okt 1 198 ∧
  am_tgt 1 198 = 199 ∧
  am_okt 1 218 ∧
  am_tgt 1 218 = 219 ∧
  am_okt 1 238 ∧
  am_tgt 1 238 = 239 ∧
  am_okt 1 243 ∧
  am_tgt 1 243 = 244 ∧
  am_okt 1 248 ∧
  am_tgt 1 248 = 249 ∧
  am_okt 1 253 ∧
  am_tgt 1 253 = 254 ∧
  am_okt 1 276 ∧
  am_tgt 1 276 = 277 ∧
  am_okt 1 284 ∧
  am_tgt 1 284 = 285 ∧
  am_okt 1 292 ∧
  am_tgt 1 292 = 293 ∧
  am_okt 1 300 ∧
  am_tgt 1 300 = 301 ∧
  am_okt 1 307 ∧
  am_tgt 1 307 = 308 ∧
  am_okt 1 314 ∧
  am_tgt 1 314 = 315 ∧
  decode (cM m_RingDater_count) 104 = .ok (.aload_n 0, 1) ∧
  decode (cM m_RingDater_count) 105 = .ok (.getfield 54, 3) ∧
  fldT 11 54 = some (11, 6, 2) ∧
  decode (cM m_RingDater_count) 108 = .ok (.getfield 121, 3) ∧
  fldT 11 121 = some (8, 3, 0) ∧
  decode (cM m_RingDater_count) 111 = .ok (.ireturn, 1) ∧
  decode (cM m_RingDater_count) 112 = .ok (.aload_n 0, 1) ∧
  decode (cM m_RingDater_count) 113 = .ok (.getfield 54, 3) ∧
  decode (cM m_RingDater_count) 116 = .ok (.getfield 122, 3) ∧
  fldT 11 122 = some (8, 4, 0) ∧
  decode (cM m_RingDater_count) 119 = .ok (.ireturn, 1) ∧
  decode (cM m_RingDater_count) 120 = .ok (.aload_n 0, 1) ∧
  decode (cM m_RingDater_count) 121 = .ok (.getfield 54, 3) ∧
  decode (cM m_RingDater_count) 124 = .ok (.getfield 125, 3) ∧
  fldT 11 125 = some (8, 5, 0) ∧
  decode (cM m_RingDater_count) 127 = .ok (.ireturn, 1) ∧
  decode (cM m_RingDater_count) 128 = .ok (.aload_n 0, 1) ∧
  decode (cM m_RingDater_count) 129 = .ok (.getfield 54, 3) ∧
  decode (cM m_RingDater_count) 132 = .ok (.getfield 128, 3) ∧
  fldT 11 128 = some (8, 6, 0) ∧
  decode (cM m_RingDater_count) 135 = .ok (.ireturn, 1) ∧
  decode (cM m_RingDater_count) 136 = .ok (.aload_n 0, 1) ∧
  decode (cM m_RingDater_count) 137 = .ok (.getfield 54, 3) ∧
  decode (cM m_RingDater_count) 140 = .ok (.invokevirtual 131, 3) ∧
  invT 11 131 = some (m_Stock_datedBits, 0) ∧
  nM m_Stock_datedBits = 1 ∧
  oM m_Stock_datedBits = 8 ∧
  rkM m_Stock_datedBits = 1 ∧
  dM m_Stock_datedBits = 2 ∧
  decode (cM m_RingDater_count) 143 = .ok (.ireturn, 1) ∧
  decode (cM m_RingDater_count) 144 = .ok (.aload_n 0, 1) ∧
  decode (cM m_RingDater_count) 145 = .ok (.invokevirtual 135, 3) ∧
  invT 11 135 = some (m_RingDater_layChronology, 0) ∧
  nM m_RingDater_layChronology = 1 ∧
  oM m_RingDater_layChronology = 11 ∧
  rkM m_RingDater_layChronology = 0 ∧
  dM m_RingDater_layChronology = 4 ∧
  decode (cM m_RingDater_count) 148 = .ok (.aload_n 0, 1) ∧
  decode (cM m_RingDater_count) 149 = .ok (.getfield 19, 3) ∧
  fldT 11 19 = some (11, 1, 2) ∧
  decode (cM m_RingDater_count) 152 = .ok (.getfield 138, 3) ∧
  fldT 11 138 = some (0, 7, 0) ∧
  decode (cM m_RingDater_count) 155 = .ok (.ireturn, 1) ∧
  decode (cM m_RingDater_count) 156 = .ok (.aload_n 0, 1) ∧
  decode (cM m_RingDater_count) 157 = .ok (.invokevirtual 135, 3) ∧
  decode (cM m_RingDater_count) 160 = .ok (.aload_n 0, 1) ∧
  decode (cM m_RingDater_count) 161 = .ok (.getfield 19, 3) ∧
  decode (cM m_RingDater_count) 164 = .ok (.getfield 141, 3) ∧
  fldT 11 141 = some (0, 8, 0) ∧
  decode (cM m_RingDater_count) 167 = .ok (.ireturn, 1) ∧
  decode (cM m_RingDater_count) 168 = .ok (.aload_n 0, 1) ∧
  decode (cM m_RingDater_count) 169 = .ok (.invokevirtual 144, 3) ∧
  invT 11 144 = some (m_RingDater_spunWeb, 0) ∧
  nM m_RingDater_spunWeb = 1 ∧
  oM m_RingDater_spunWeb = 11 ∧
  rkM m_RingDater_spunWeb = 3 ∧
  dM m_RingDater_spunWeb = 6 ∧
  decode (cM m_RingDater_count) 172 = .ok (.getfield 148, 3) ∧
  fldT 11 148 = some (10, 7, 0) ∧
  decode (cM m_RingDater_count) 175 = .ok (.ireturn, 1) ∧
  decode (cM m_RingDater_count) 176 = .ok (.aload_n 0, 1) ∧
  decode (cM m_RingDater_count) 177 = .ok (.invokevirtual 144, 3) ∧
  decode (cM m_RingDater_count) 180 = .ok (.aload_n 0, 1) ∧
  decode (cM m_RingDater_count) 181 = .ok (.getfield 54, 3) ∧
  decode (cM m_RingDater_count) 184 = .ok (.getfield 121, 3) ∧
  decode (cM m_RingDater_count) 187 = .ok (.invokevirtual 149, 3) ∧
  invT 11 149 = some (m_Web_countPieces, 0) ∧
  nM m_Web_countPieces = 2 ∧
  oM m_Web_countPieces = 10 ∧
  rkM m_Web_countPieces = 1 ∧
  dM m_Web_countPieces = 1 ∧
  decode (cM m_RingDater_count) 190 = .ok (.ireturn, 1) ∧
  decode (cM m_RingDater_count) 191 = .ok (.aload_n 0, 1) ∧
  decode (cM m_RingDater_count) 192 = .ok (.invokevirtual 144, 3) ∧
  decode (cM m_RingDater_count) 195 = .ok (.invokevirtual 152, 3) ∧
  invT 11 152 = some (m_Web_countAgainst, 0) ∧
  nM m_Web_countAgainst = 1 ∧
  oM m_Web_countAgainst = 10 ∧
  rkM m_Web_countAgainst = 1 ∧
  dM m_Web_countAgainst = 1 ∧
  decode (cM m_RingDater_count) 198 = .ok (.ireturn, 1) ∧
  decode (cM m_RingDater_count) 199 = .ok (.aload_n 0, 1) ∧
  decode (cM m_RingDater_count) 200 = .ok (.invokevirtual 155, 3) ∧
  invT 11 155 = some (m_RingDater_builtFrom, 0) ∧
  nM m_RingDater_builtFrom = 1 ∧
  oM m_RingDater_builtFrom = 11 ∧
  rkM m_RingDater_builtFrom = 1 ∧
  dM m_RingDater_builtFrom = 3 ∧
  decode (cM m_RingDater_count) 203 = .ok (.aload_n 0, 1) ∧
  decode (cM m_RingDater_count) 204 = .ok (.invokevirtual 158, 3) ∧
  invT 11 158 = some (m_RingDater_builtUntil, 0) ∧
  nM m_RingDater_builtUntil = 1 ∧
  oM m_RingDater_builtUntil = 11 ∧
  rkM m_RingDater_builtUntil = 1 ∧
  dM m_RingDater_builtUntil = 3 ∧
  decode (cM m_RingDater_count) 207 = .ok (.if_icmp .gt 10, 3) ∧
  am_okt 207 10 ∧
  am_tgt 207 10 = 217 ∧
  decode (cM m_RingDater_count) 210 = .ok (.aload_n 0, 1) ∧
  decode (cM m_RingDater_count) 211 = .ok (.invokevirtual 155, 3) ∧
  decode (cM m_RingDater_count) 214 = .ok (.goto 4, 3) ∧
  am_okt 214 4 ∧
  am_tgt 214 4 = 218 ∧
  decode (cM m_RingDater_count) 217 = .ok (.iconst (-1), 1) ∧
  decode (cM m_RingDater_count) 218 = .ok (.ireturn, 1) ∧
  decode (cM m_RingDater_count) 219 = .ok (.aload_n 0, 1) ∧
  decode (cM m_RingDater_count) 220 = .ok (.invokevirtual 155, 3) ∧
  decode (cM m_RingDater_count) 223 = .ok (.aload_n 0, 1) ∧
  decode (cM m_RingDater_count) 224 = .ok (.invokevirtual 158, 3) ∧
  decode (cM m_RingDater_count) 227 = .ok (.if_icmp .gt 10, 3) ∧
  am_okt 227 10 ∧
  am_tgt 227 10 = 237 ∧
  decode (cM m_RingDater_count) 230 = .ok (.aload_n 0, 1) ∧
  decode (cM m_RingDater_count) 231 = .ok (.invokevirtual 158, 3) ∧
  decode (cM m_RingDater_count) 234 = .ok (.goto 4, 3) ∧
  am_okt 234 4 ∧
  am_tgt 234 4 = 238 ∧
  decode (cM m_RingDater_count) 237 = .ok (.iconst (-1), 1) ∧
  decode (cM m_RingDater_count) 238 = .ok (.ireturn, 1) ∧
  decode (cM m_RingDater_count) 239 = .ok (.aload_n 0, 1) ∧
  decode (cM m_RingDater_count) 240 = .ok (.invokevirtual 155, 3) ∧
  decode (cM m_RingDater_count) 243 = .ok (.ireturn, 1) ∧
  decode (cM m_RingDater_count) 244 = .ok (.aload_n 0, 1) ∧
  decode (cM m_RingDater_count) 245 = .ok (.invokevirtual 161, 3) ∧
  invT 11 161 = some (m_RingDater_countPointers, 0) ∧
  nM m_RingDater_countPointers = 1 ∧
  oM m_RingDater_countPointers = 11 ∧
  rkM m_RingDater_countPointers = 1 ∧
  dM m_RingDater_countPointers = 5 ∧
  decode (cM m_RingDater_count) 248 = .ok (.ireturn, 1) ∧
  decode (cM m_RingDater_count) 249 = .ok (.aload_n 0, 1) ∧
  decode (cM m_RingDater_count) 250 = .ok (.invokevirtual 164, 3) ∧
  invT 11 164 = some (m_RingDater_oddTimber, 0) ∧
  nM m_RingDater_oddTimber = 1 ∧
  oM m_RingDater_oddTimber = 11 ∧
  rkM m_RingDater_oddTimber = 1 ∧
  dM m_RingDater_oddTimber = 6 ∧
  decode (cM m_RingDater_count) 253 = .ok (.ireturn, 1) ∧
  decode (cM m_RingDater_count) 254 = .ok (.aload_n 0, 1) ∧
  decode (cM m_RingDater_count) 255 = .ok (.getfield 33, 3) ∧
  fldT 11 33 = some (11, 3, 2) ∧
  decode (cM m_RingDater_count) 258 = .ok (.aload_n 0, 1) ∧
  decode (cM m_RingDater_count) 259 = .ok (.getfield 54, 3) ∧
  decode (cM m_RingDater_count) 262 = .ok (.aload_n 0, 1) ∧
  decode (cM m_RingDater_count) 263 = .ok (.getfield 19, 3) ∧
  decode (cM m_RingDater_count) 266 = .ok (.aload_n 0, 1) ∧
  decode (cM m_RingDater_count) 267 = .ok (.getfield 54, 3) ∧
  decode (cM m_RingDater_count) 270 = .ok (.getfield 122, 3) ∧
  decode (cM m_RingDater_count) 273 = .ok (.invokevirtual 167, 3) ∧
  invT 11 167 = some (m_Growth_run, 0) ∧
  nM m_Growth_run = 4 ∧
  oM m_Growth_run = 2 ∧
  rkM m_Growth_run = 1 ∧
  dM m_Growth_run = 6 ∧
  decode (cM m_RingDater_count) 276 = .ok (.ireturn, 1) ∧
  decode (cM m_RingDater_count) 277 = .ok (.aload_n 0, 1) ∧
  decode (cM m_RingDater_count) 278 = .ok (.getfield 61, 3) ∧
  fldT 11 61 = some (11, 7, 2) ∧
  decode (cM m_RingDater_count) 281 = .ok (.getfield 110, 3) ∧
  fldT 11 110 = some (3, 4, 0) ∧
  decode (cM m_RingDater_count) 284 = .ok (.ireturn, 1) ∧
  decode (cM m_RingDater_count) 285 = .ok (.aload_n 0, 1) ∧
  decode (cM m_RingDater_count) 286 = .ok (.getfield 68, 3) ∧
  fldT 11 68 = some (11, 8, 2) ∧
  decode (cM m_RingDater_count) 289 = .ok (.getfield 113, 3) ∧
  fldT 11 113 = some (4, 2, 0) ∧
  decode (cM m_RingDater_count) 292 = .ok (.ireturn, 1) ∧
  decode (cM m_RingDater_count) 293 = .ok (.aload_n 0, 1) ∧
  decode (cM m_RingDater_count) 294 = .ok (.getfield 12, 3) ∧
  fldT 11 12 = some (11, 0, 2) ∧
  decode (cM m_RingDater_count) 297 = .ok (.getfield 88, 3) ∧
  fldT 11 88 = some (5, 2, 0) ∧
  decode (cM m_RingDater_count) 300 = .ok (.ireturn, 1) ∧
  decode (cM m_RingDater_count) 301 = .ok (.aload_n 0, 1) ∧
  decode (cM m_RingDater_count) 302 = .ok (.getfield 72, 3) ∧
  fldT 11 72 = some (11, 9, 2) ∧
  decode (cM m_RingDater_count) 305 = .ok (.iconst 0, 1) ∧
  decode (cM m_RingDater_count) 306 = .ok (.iaload, 1) ∧
  decode (cM m_RingDater_count) 307 = .ok (.ireturn, 1) ∧
  decode (cM m_RingDater_count) 308 = .ok (.aload_n 0, 1) ∧
  decode (cM m_RingDater_count) 309 = .ok (.getfield 72, 3) ∧
  decode (cM m_RingDater_count) 312 = .ok (.iconst 1, 1) ∧
  decode (cM m_RingDater_count) 313 = .ok (.iaload, 1) ∧
  decode (cM m_RingDater_count) 314 = .ok (.ireturn, 1) ∧
  decode (cM m_RingDater_count) 315 = .ok (.aload_n 0, 1) ∧
  decode (cM m_RingDater_count) 316 = .ok (.getfield 72, 3) ∧
  decode (cM m_RingDater_count) 319 = .ok (.iconst 2, 1) ∧
  decode (cM m_RingDater_count) 320 = .ok (.iaload, 1) ∧
  decode (cM m_RingDater_count) 321 = .ok (.ireturn, 1) ∧
  decode (cM m_RingDater_count) 322 = .ok (.new 171, 3) ∧
  excT 11 171 = some (0, 173) ∧
  decode (cM m_RingDater_count) 325 = .ok (.dup, 1) ∧
  decode (cM m_RingDater_count) 326 = .ok (.invokespecial 173, 3) ∧
  decode (cM m_RingDater_count) 329 = .ok (.athrow, 1) :=
  ⟨rfl, rfl, rfl, rfl, by decide +kernel, by decide +kernel, rfl, rfl, rfl, rfl, rfl, rfl, rfl, rfl, rfl, rfl, rfl, rfl, rfl, rfl, rfl, rfl, rfl, rfl, rfl, rfl, rfl, rfl, rfl, rfl, rfl, rfl, rfl, rfl, rfl, rfl, rfl, rfl, rfl, rfl, rfl, rfl, rfl, rfl, rfl, rfl, rfl, rfl, rfl, rfl, rfl, rfl, by decide +kernel, by decide +kernel, rfl, by decide +kernel, rfl, by decide +kernel, by decide +kernel, by decide +kernel, by decide +kernel, rfl, by decide +kernel, by decide +kernel, by decide +kernel, by decide +kernel, rfl, by decide +kernel, by decide +kernel, by decide +kernel, by decide +kernel, rfl, by decide +kernel, by decide +kernel, by decide +kernel, by decide +kernel, rfl, rfl, rfl, rfl, rfl, by decide +kernel, by decide +kernel, by decide +kernel, rfl, rfl, rfl, rfl, rfl, by decide +kernel, by decide +kernel, rfl, by decide +kernel, rfl, by decide +kernel, by decide +kernel, by decide +kernel, by decide +kernel, by decide +kernel, by decide +kernel, rfl, by decide +kernel, by decide +kernel, by decide +kernel, rfl, rfl, rfl, rfl, rfl, by decide +kernel, rfl, by decide +kernel, by decide +kernel, by decide +kernel, by decide +kernel, by decide +kernel, by decide +kernel, by decide +kernel, rfl, rfl, rfl, rfl, rfl, by decide +kernel, by decide +kernel, by decide +kernel, by decide +kernel, rfl, rfl, rfl, rfl, rfl, by decide +kernel, by decide +kernel, by decide +kernel, rfl, rfl, rfl, rfl, rfl, by decide +kernel, by decide +kernel, rfl, rfl, rfl, rfl, rfl, by decide +kernel, rfl, rfl, by decide +kernel, by decide +kernel, by decide +kernel, rfl, rfl, by decide +kernel, by decide +kernel, by decide +kernel, by decide +kernel, by decide +kernel, by decide +kernel, by decide +kernel, rfl, rfl, by decide +kernel, by decide +kernel, by decide +kernel, rfl, rfl, by decide +kernel, by decide +kernel, by decide +kernel, by decide +kernel, by decide +kernel, by decide +kernel, by decide +kernel, rfl, rfl, rfl, rfl, rfl, by decide +kernel, by decide +kernel, by decide +kernel, rfl, rfl, rfl, rfl, rfl, by decide +kernel, by decide +kernel, by decide +kernel, rfl, by decide +kernel, by decide +kernel, by decide +kernel, by decide +kernel, by decide +kernel, by decide +kernel, by decide +kernel, by decide +kernel, rfl, rfl, rfl, rfl, rfl, by decide +kernel, by decide +kernel, by decide +kernel, rfl, by decide +kernel, rfl, by decide +kernel, by decide +kernel, by decide +kernel, rfl, by decide +kernel, rfl, by decide +kernel, by decide +kernel, by decide +kernel, rfl, by decide +kernel, rfl, by decide +kernel, by decide +kernel, by decide +kernel, rfl, by decide +kernel, by decide +kernel, by decide +kernel, by decide +kernel, by decide +kernel, by decide +kernel, by decide +kernel, by decide +kernel, by decide +kernel, by decide +kernel, by decide +kernel, by decide +kernel, by decide +kernel, by decide +kernel, rfl, by decide +kernel, by decide +kernel, by decide +kernel⟩
set_option maxRecDepth 100000 in
set_option maxHeartbeats 4000000 in
theorem C_RingDater_spunWeb : oM m_RingDater_spunWeb = 11 ∧
  rkM m_RingDater_spunWeb = 3 ∧
  dM m_RingDater_spunWeb = 6 ∧
  lM m_RingDater_spunWeb = 1 ∧
  decode (cM m_RingDater_spunWeb) 0 = .ok (.aload_n 0, 1) ∧
  decode (cM m_RingDater_spunWeb) 1 = .ok (.getfield 26, 3) ∧
  fldT 11 26 = some (11, 2, 2) ∧
  decode (cM m_RingDater_spunWeb) 4 = .ok (.aload_n 0, 1) ∧
  decode (cM m_RingDater_spunWeb) 5 = .ok (.getfield 54, 3) ∧
  fldT 11 54 = some (11, 6, 2) ∧
  decode (cM m_RingDater_spunWeb) 8 = .ok (.aload_n 0, 1) ∧
  decode (cM m_RingDater_spunWeb) 9 = .ok (.getfield 19, 3) ∧
  fldT 11 19 = some (11, 1, 2) ∧
  decode (cM m_RingDater_spunWeb) 12 = .ok (.invokevirtual 403, 3) ∧
  invT 11 403 = some (m_Web_spin, 0) ∧
  nM m_Web_spin = 3 ∧
  oM m_Web_spin = 10 ∧
  rkM m_Web_spin = 0 ∧
  dM m_Web_spin = 5 ∧
  decode (cM m_RingDater_spunWeb) 15 = .ok (.aload_n 0, 1) ∧
  decode (cM m_RingDater_spunWeb) 16 = .ok (.getfield 26, 3) ∧
  decode (cM m_RingDater_spunWeb) 19 = .ok (.areturn, 1) :=
  ⟨rfl, rfl, rfl, rfl, by decide +kernel, by decide +kernel, rfl, by decide +kernel, by decide +kernel, rfl, by decide +kernel, by decide +kernel, rfl, by decide +kernel, rfl, rfl, rfl, rfl, rfl, by decide +kernel, by decide +kernel, by decide +kernel⟩
set_option maxRecDepth 100000 in
set_option maxHeartbeats 4000000 in
theorem C_RingDater_builtFrom : oM m_RingDater_builtFrom = 11 ∧
  rkM m_RingDater_builtFrom = 1 ∧
  dM m_RingDater_builtFrom = 3 ∧
  lM m_RingDater_builtFrom = 3 ∧
  decode (cM m_RingDater_builtFrom) 0 = .ok (.iconst (-1), 1) ∧
  decode (cM m_RingDater_builtFrom) 1 = .ok (.istore_n 1, 1) ∧
  decode (cM m_RingDater_builtFrom) 2 = .ok (.iconst 0, 1) ∧
  decode (cM m_RingDater_builtFrom) 3 = .ok (.istore_n 2, 1) ∧
  decode (cM m_RingDater_builtFrom) 4 = .ok (.iload_n 2, 1) ∧
  decode (cM m_RingDater_builtFrom) 5 = .ok (.aload_n 0, 1) ∧
  decode (cM m_RingDater_builtFrom) 6 = .ok (.getfield 54, 3) ∧
  fldT 11 54 = some (11, 6, 2) ∧
  decode (cM m_RingDater_builtFrom) 9 = .ok (.getfield 121, 3) ∧
  fldT 11 121 = some (8, 3, 0) ∧
  decode (cM m_RingDater_builtFrom) 12 = .ok (.if_icmp .ge 33, 3) ∧
  am_okt 12 33 ∧
  am_tgt 12 33 = 45 ∧
  decode (cM m_RingDater_builtFrom) 15 = .ok (.aload_n 0, 1) ∧
  decode (cM m_RingDater_builtFrom) 16 = .ok (.getfield 54, 3) ∧
  decode (cM m_RingDater_builtFrom) 19 = .ok (.iload_n 2, 1) ∧
  decode (cM m_RingDater_builtFrom) 20 = .ok (.invokevirtual 182, 3) ∧
  invT 11 182 = some (m_Stock_isDated, 0) ∧
  nM m_Stock_isDated = 2 ∧
  oM m_Stock_isDated = 8 ∧
  rkM m_Stock_isDated = 2 ∧
  dM m_Stock_isDated = 1 ∧
  decode (cM m_RingDater_builtFrom) 23 = .ok (.ifCond .eq 16, 3) ∧
  am_okt 23 16 ∧
  am_tgt 23 16 = 39 ∧
  decode (cM m_RingDater_builtFrom) 26 = .ok (.iload_n 1, 1) ∧
  decode (cM m_RingDater_builtFrom) 27 = .ok (.aload_n 0, 1) ∧
  decode (cM m_RingDater_builtFrom) 28 = .ok (.getfield 54, 3) ∧
  decode (cM m_RingDater_builtFrom) 31 = .ok (.iload_n 2, 1) ∧
  decode (cM m_RingDater_builtFrom) 32 = .ok (.invokevirtual 206, 3) ∧
  invT 11 206 = some (m_Stock_felledFrom, 0) ∧
  nM m_Stock_felledFrom = 2 ∧
  oM m_Stock_felledFrom = 8 ∧
  rkM m_Stock_felledFrom = 1 ∧
  dM m_Stock_felledFrom = 2 ∧
  decode (cM m_RingDater_builtFrom) 35 = .ok (.invokestatic 372, 3) ∧
  invT 11 372 = some (0, 3) ∧
  decode (cM m_RingDater_builtFrom) 38 = .ok (.istore_n 1, 1) ∧
  decode (cM m_RingDater_builtFrom) 39 = .ok (.iinc 2 1, 3) ∧
  decode (cM m_RingDater_builtFrom) 42 = .ok (.goto (-38), 3) ∧
  am_okt 42 (-38) ∧
  am_tgt 42 (-38) = 4 ∧
  decode (cM m_RingDater_builtFrom) 45 = .ok (.iload_n 1, 1) ∧
  decode (cM m_RingDater_builtFrom) 46 = .ok (.ireturn, 1) :=
  ⟨rfl, rfl, rfl, rfl, by decide +kernel, by decide +kernel, by decide +kernel, by decide +kernel, by decide +kernel, by decide +kernel, by decide +kernel, rfl, by decide +kernel, rfl, by decide +kernel, rfl, rfl, by decide +kernel, by decide +kernel, by decide +kernel, by decide +kernel, rfl, rfl, rfl, rfl, rfl, by decide +kernel, rfl, rfl, by decide +kernel, by decide +kernel, by decide +kernel, by decide +kernel, by decide +kernel, rfl, rfl, rfl, rfl, rfl, by decide +kernel, rfl, by decide +kernel, by decide +kernel, by decide +kernel, rfl, rfl, by decide +kernel, by decide +kernel⟩
set_option maxRecDepth 100000 in
set_option maxHeartbeats 4000000 in
theorem C_RingDater_builtUntil : oM m_RingDater_builtUntil = 11 ∧
  rkM m_RingDater_builtUntil = 1 ∧
  dM m_RingDater_builtUntil = 3 ∧
  lM m_RingDater_builtUntil = 3 ∧
  decode (cM m_RingDater_builtUntil) 0 = .ok (.iconst (-1), 1) ∧
  decode (cM m_RingDater_builtUntil) 1 = .ok (.istore_n 1, 1) ∧
  decode (cM m_RingDater_builtUntil) 2 = .ok (.iconst 0, 1) ∧
  decode (cM m_RingDater_builtUntil) 3 = .ok (.istore_n 2, 1) ∧
  decode (cM m_RingDater_builtUntil) 4 = .ok (.iload_n 2, 1) ∧
  decode (cM m_RingDater_builtUntil) 5 = .ok (.aload_n 0, 1) ∧
  decode (cM m_RingDater_builtUntil) 6 = .ok (.getfield 54, 3) ∧
  fldT 11 54 = some (11, 6, 2) ∧
  decode (cM m_RingDater_builtUntil) 9 = .ok (.getfield 121, 3) ∧
  fldT 11 121 = some (8, 3, 0) ∧
  decode (cM m_RingDater_builtUntil) 12 = .ok (.if_icmp .ge 46, 3) ∧
  am_okt 12 46 ∧
  am_tgt 12 46 = 58 ∧
  decode (cM m_RingDater_builtUntil) 15 = .ok (.aload_n 0, 1) ∧
  decode (cM m_RingDater_builtUntil) 16 = .ok (.getfield 54, 3) ∧
  decode (cM m_RingDater_builtUntil) 19 = .ok (.iload_n 2, 1) ∧
  decode (cM m_RingDater_builtUntil) 20 = .ok (.invokevirtual 182, 3) ∧
  invT 11 182 = some (m_Stock_isDated, 0) ∧
  nM m_Stock_isDated = 2 ∧
  oM m_Stock_isDated = 8 ∧
  rkM m_Stock_isDated = 2 ∧
  dM m_Stock_isDated = 1 ∧
  decode (cM m_RingDater_builtUntil) 23 = .ok (.ifCond .eq 29, 3) ∧
  am_okt 23 29 ∧
  am_tgt 23 29 = 52 ∧
  decode (cM m_RingDater_builtUntil) 26 = .ok (.iload_n 1, 1) ∧
  decode (cM m_RingDater_builtUntil) 27 = .ok (.iconst (-1), 1) ∧
  decode (cM m_RingDater_builtUntil) 28 = .ok (.if_icmp .eq 15, 3) ∧
  am_okt 28 15 ∧
  am_tgt 28 15 = 43 ∧
  decode (cM m_RingDater_builtUntil) 31 = .ok (.aload_n 0, 1) ∧
  decode (cM m_RingDater_builtUntil) 32 = .ok (.getfield 54, 3) ∧
  decode (cM m_RingDater_builtUntil) 35 = .ok (.iload_n 2, 1) ∧
  decode (cM m_RingDater_builtUntil) 36 = .ok (.invokevirtual 209, 3) ∧
  invT 11 209 = some (m_Stock_felledUntil, 0) ∧
  nM m_Stock_felledUntil = 2 ∧
  oM m_Stock_felledUntil = 8 ∧
  rkM m_Stock_felledUntil = 1 ∧
  dM m_Stock_felledUntil = 2 ∧
  decode (cM m_RingDater_builtUntil) 39 = .ok (.iload_n 1, 1) ∧
  decode (cM m_RingDater_builtUntil) 40 = .ok (.if_icmp .ge 12, 3) ∧
  am_okt 40 12 ∧
  am_tgt 40 12 = 52 ∧
  decode (cM m_RingDater_builtUntil) 43 = .ok (.aload_n 0, 1) ∧
  decode (cM m_RingDater_builtUntil) 44 = .ok (.getfield 54, 3) ∧
  decode (cM m_RingDater_builtUntil) 47 = .ok (.iload_n 2, 1) ∧
  decode (cM m_RingDater_builtUntil) 48 = .ok (.invokevirtual 209, 3) ∧
  decode (cM m_RingDater_builtUntil) 51 = .ok (.istore_n 1, 1) ∧
  decode (cM m_RingDater_builtUntil) 52 = .ok (.iinc 2 1, 3) ∧
  decode (cM m_RingDater_builtUntil) 55 = .ok (.goto (-51), 3) ∧
  am_okt 55 (-51) ∧
  am_tgt 55 (-51) = 4 ∧
  decode (cM m_RingDater_builtUntil) 58 = .ok (.iload_n 1, 1) ∧
  decode (cM m_RingDater_builtUntil) 59 = .ok (.ireturn, 1) :=
  ⟨rfl, rfl, rfl, rfl, by decide +kernel, by decide +kernel, by decide +kernel, by decide +kernel, by decide +kernel, by decide +kernel, by decide +kernel, rfl, by decide +kernel, rfl, by decide +kernel, rfl, rfl, by decide +kernel, by decide +kernel, by decide +kernel, by decide +kernel, rfl, rfl, rfl, rfl, rfl, by decide +kernel, rfl, rfl, by decide +kernel, by decide +kernel, by decide +kernel, rfl, rfl, by decide +kernel, by decide +kernel, by decide +kernel, by decide +kernel, rfl, rfl, rfl, rfl, rfl, by decide +kernel, by decide +kernel, rfl, rfl, by decide +kernel, by decide +kernel, by decide +kernel, by decide +kernel, by decide +kernel, by decide +kernel, by decide +kernel, rfl, rfl, by decide +kernel, by decide +kernel⟩
