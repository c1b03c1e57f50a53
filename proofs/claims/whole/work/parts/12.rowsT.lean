set_option maxRecDepth 100000 in
set_option maxHeartbeats 4000000 in
theorem C_Finding_seek : oM m_Finding_seek = 1 ∧
  rkM m_Finding_seek = 0 ∧
  dM m_Finding_seek = 2 ∧
  lM m_Finding_seek = 5 ∧
  decode (cM m_Finding_seek) 0 = .ok (.aload_n 0, 1) ∧
  decode (cM m_Finding_seek) 1 = .ok (.iconst 0, 1) ∧
  decode (cM m_Finding_seek) 2 = .ok (.putfield 18, 3) ∧
  fldT 1 18 = some (1, 1, 1) ∧
  decode (cM m_Finding_seek) 5 = .ok (.aload_n 0, 1) ∧
  decode (cM m_Finding_seek) 6 = .ok (.iconst (-1), 1) ∧
  decode (cM m_Finding_seek) 7 = .ok (.putfield 22, 3) ∧
  fldT 1 22 = some (1, 5, 0) ∧
  decode (cM m_Finding_seek) 10 = .ok (.iconst 1, 1) ∧
  decode (cM m_Finding_seek) 11 = .ok (.aload_n 2, 1) ∧
  decode (cM m_Finding_seek) 12 = .ok (.getfield 26, 3) ∧
  fldT 1 26 = some (6, 7, 0) ∧
  decode (cM m_Finding_seek) 15 = .ok (.isub, 1) ∧
  decode (cM m_Finding_seek) 16 = .ok (.istore 4, 2) ∧
  decode (cM m_Finding_seek) 18 = .ok (.iload 4, 2) ∧
  decode (cM m_Finding_seek) 20 = .ok (.aload_n 1, 1) ∧
  decode (cM m_Finding_seek) 21 = .ok (.getfield 26, 3) ∧
  decode (cM m_Finding_seek) 24 = .ok (.if_icmp .ge 37, 3) ∧
  am_okt 24 37 ∧
  am_tgt 24 37 = 61 ∧
  decode (cM m_Finding_seek) 27 = .ok (.aload_n 1, 1) ∧
  decode (cM m_Finding_seek) 28 = .ok (.aload_n 2, 1) ∧
  decode (cM m_Finding_seek) 29 = .ok (.iload 4, 2) ∧
  decode (cM m_Finding_seek) 31 = .ok (.invokestatic 31, 3) ∧
  invT 1 31 = some (m_Finding_countPairs, 1) ∧
  nM m_Finding_countPairs = 3 ∧
  oM m_Finding_countPairs = 1 ∧
  rkM m_Finding_countPairs = 1 ∧
  dM m_Finding_countPairs = 1 ∧
  decode (cM m_Finding_seek) 34 = .ok (.iload_n 3, 1) ∧
  decode (cM m_Finding_seek) 35 = .ok (.if_icmp .lt 20, 3) ∧
  am_okt 35 20 ∧
  am_tgt 35 20 = 55 ∧
  decode (cM m_Finding_seek) 38 = .ok (.aload_n 0, 1) ∧
  decode (cM m_Finding_seek) 39 = .ok (.getfield 12, 3) ∧
  fldT 1 12 = some (1, 0, 2) ∧
  decode (cM m_Finding_seek) 42 = .ok (.aload_n 1, 1) ∧
  decode (cM m_Finding_seek) 43 = .ok (.aload_n 2, 1) ∧
  decode (cM m_Finding_seek) 44 = .ok (.iload 4, 2) ∧
  decode (cM m_Finding_seek) 46 = .ok (.invokevirtual 35, 3) ∧
  invT 1 35 = some (m_Slide_measure, 0) ∧
  nM m_Slide_measure = 4 ∧
  oM m_Slide_measure = 7 ∧
  rkM m_Slide_measure = 0 ∧
  dM m_Slide_measure = 1 ∧
  decode (cM m_Finding_seek) 49 = .ok (.aload_n 0, 1) ∧
  decode (cM m_Finding_seek) 50 = .ok (.iload 4, 2) ∧
  decode (cM m_Finding_seek) 52 = .ok (.invokevirtual 39, 3) ∧
  invT 1 39 = some (m_Finding_weigh, 0) ∧
  nM m_Finding_weigh = 2 ∧
  oM m_Finding_weigh = 1 ∧
  rkM m_Finding_weigh = 0 ∧
  dM m_Finding_weigh = 1 ∧
  decode (cM m_Finding_seek) 55 = .ok (.iinc 4 1, 3) ∧
  decode (cM m_Finding_seek) 58 = .ok (.goto (-40), 3) ∧
  am_okt 58 (-40) ∧
  am_tgt 58 (-40) = 18 ∧
  decode (cM m_Finding_seek) 61 = .ok (.return_, 1) :=
  ⟨rfl, rfl, rfl, rfl, by decide +kernel, by decide +kernel, by decide +kernel, rfl, by decide +kernel, by decide +kernel, by decide +kernel, rfl, by decide +kernel, by decide +kernel, by decide +kernel, rfl, by decide +kernel, by decide +kernel, by decide +kernel, by decide +kernel, by decide +kernel, by decide +kernel, rfl, rfl, by decide +kernel, by decide +kernel, by decide +kernel, by decide +kernel, rfl, rfl, rfl, rfl, rfl, by decide +kernel, by decide +kernel, rfl, rfl, by decide +kernel, by decide +kernel, rfl, by decide +kernel, by decide +kernel, by decide +kernel, by decide +kernel, rfl, rfl, rfl, rfl, rfl, by decide +kernel, by decide +kernel, by decide +kernel, rfl, rfl, rfl, rfl, rfl, by decide +kernel, by decide +kernel, rfl, rfl, by decide +kernel⟩

set_option maxRecDepth 100000 in
set_option maxHeartbeats 4000000 in
theorem C_Finding_countPairs : oM m_Finding_countPairs = 1 ∧
  rkM m_Finding_countPairs = 1 ∧
  dM m_Finding_countPairs = 1 ∧
  lM m_Finding_countPairs = 3 ∧
  decode (cM m_Finding_countPairs) 0 = .ok (.aload_n 0, 1) ∧
  decode (cM m_Finding_countPairs) 1 = .ok (.iconst 0, 1) ∧
  decode (cM m_Finding_countPairs) 2 = .ok (.iload_n 2, 1) ∧
  decode (cM m_Finding_countPairs) 3 = .ok (.invokestatic 43, 3) ∧
  invT 1 43 = some (0, 3) ∧
  decode (cM m_Finding_countPairs) 6 = .ok (.aload_n 0, 1) ∧
  decode (cM m_Finding_countPairs) 7 = .ok (.getfield 26, 3) ∧
  fldT 1 26 = some (6, 7, 0) ∧
  decode (cM m_Finding_countPairs) 10 = .ok (.aload_n 1, 1) ∧
  decode (cM m_Finding_countPairs) 11 = .ok (.getfield 26, 3) ∧
  decode (cM m_Finding_countPairs) 14 = .ok (.iload_n 2, 1) ∧
  decode (cM m_Finding_countPairs) 15 = .ok (.iadd, 1) ∧
  decode (cM m_Finding_countPairs) 16 = .ok (.invokestatic 49, 3) ∧
  invT 1 49 = some (0, 4) ∧
  decode (cM m_Finding_countPairs) 19 = .ok (.invokevirtual 52, 3) ∧
  invT 1 52 = some (m_Row_numbersFrom, 0) ∧
  nM m_Row_numbersFrom = 3 ∧
  oM m_Row_numbersFrom = 6 ∧
  rkM m_Row_numbersFrom = 1 ∧
  dM m_Row_numbersFrom = 0 ∧
  decode (cM m_Finding_countPairs) 22 = .ok (.ireturn, 1) :=
  ⟨rfl, rfl, rfl, rfl, by decide +kernel, by decide +kernel, by decide +kernel, by decide +kernel, rfl, by decide +kernel, by decide +kernel, rfl, by decide +kernel, by decide +kernel, by decide +kernel, by decide +kernel, by decide +kernel, rfl, by decide +kernel, rfl, rfl, rfl, rfl, rfl, by decide +kernel⟩

set_option maxRecDepth 100000 in
set_option maxHeartbeats 4000000 in
theorem C_Finding_weigh : oM m_Finding_weigh = 1 ∧
  rkM m_Finding_weigh = 0 ∧
  dM m_Finding_weigh = 1 ∧
  lM m_Finding_weigh = 2 ∧
  decode (cM m_Finding_weigh) 0 = .ok (.aload_n 0, 1) ∧
  decode (cM m_Finding_weigh) 1 = .ok (.getfield 18, 3) ∧
  fldT 1 18 = some (1, 1, 1) ∧
  decode (cM m_Finding_weigh) 4 = .ok (.ifCond .eq 64, 3) ∧
  am_okt 4 64 ∧
  am_tgt 4 64 = 68 ∧
  decode (cM m_Finding_weigh) 7 = .ok (.aload_n 0, 1) ∧
  decode (cM m_Finding_weigh) 8 = .ok (.getfield 12, 3) ∧
  fldT 1 12 = some (1, 0, 2) ∧
  decode (cM m_Finding_weigh) 11 = .ok (.getfield 55, 3) ∧
  fldT 1 55 = some (7, 3, 0) ∧
  decode (cM m_Finding_weigh) 14 = .ok (.aload_n 0, 1) ∧
  decode (cM m_Finding_weigh) 15 = .ok (.getfield 58, 3) ∧
  fldT 1 58 = some (1, 3, 0) ∧
  decode (cM m_Finding_weigh) 18 = .ok (.if_icmp .lt 31, 3) ∧
  am_okt 18 31 ∧
  am_tgt 18 31 = 49 ∧
  decode (cM m_Finding_weigh) 21 = .ok (.aload_n 0, 1) ∧
  decode (cM m_Finding_weigh) 22 = .ok (.getfield 12, 3) ∧
  decode (cM m_Finding_weigh) 25 = .ok (.getfield 55, 3) ∧
  decode (cM m_Finding_weigh) 28 = .ok (.aload_n 0, 1) ∧
  decode (cM m_Finding_weigh) 29 = .ok (.getfield 58, 3) ∧
  decode (cM m_Finding_weigh) 32 = .ok (.if_icmp .ne 36, 3) ∧
  am_okt 32 36 ∧
  am_tgt 32 36 = 68 ∧
  decode (cM m_Finding_weigh) 35 = .ok (.aload_n 0, 1) ∧
  decode (cM m_Finding_weigh) 36 = .ok (.getfield 12, 3) ∧
  decode (cM m_Finding_weigh) 39 = .ok (.getfield 59, 3) ∧
  fldT 1 59 = some (7, 0, 0) ∧
  decode (cM m_Finding_weigh) 42 = .ok (.aload_n 0, 1) ∧
  decode (cM m_Finding_weigh) 43 = .ok (.getfield 62, 3) ∧
  fldT 1 62 = some (1, 4, 0) ∧
  decode (cM m_Finding_weigh) 46 = .ok (.if_icmp .gt 22, 3) ∧
  am_okt 46 22 ∧
  am_tgt 46 22 = 68 ∧
  decode (cM m_Finding_weigh) 49 = .ok (.aload_n 0, 1) ∧
  decode (cM m_Finding_weigh) 50 = .ok (.aload_n 0, 1) ∧
  decode (cM m_Finding_weigh) 51 = .ok (.getfield 22, 3) ∧
  fldT 1 22 = some (1, 5, 0) ∧
  decode (cM m_Finding_weigh) 54 = .ok (.aload_n 0, 1) ∧
  decode (cM m_Finding_weigh) 55 = .ok (.getfield 12, 3) ∧
  decode (cM m_Finding_weigh) 58 = .ok (.getfield 55, 3) ∧
  decode (cM m_Finding_weigh) 61 = .ok (.invokestatic 43, 3) ∧
  invT 1 43 = some (0, 3) ∧
  decode (cM m_Finding_weigh) 64 = .ok (.putfield 22, 3) ∧
  decode (cM m_Finding_weigh) 67 = .ok (.return_, 1) ∧
  decode (cM m_Finding_weigh) 68 = .ok (.aload_n 0, 1) ∧
  decode (cM m_Finding_weigh) 69 = .ok (.aload_n 0, 1) ∧
  decode (cM m_Finding_weigh) 70 = .ok (.getfield 18, 3) ∧
  decode (cM m_Finding_weigh) 73 = .ok (.ifCond .eq 10, 3) ∧
  am_okt 73 10 ∧
  am_tgt 73 10 = 83 ∧
  decode (cM m_Finding_weigh) 76 = .ok (.aload_n 0, 1) ∧
  decode (cM m_Finding_weigh) 77 = .ok (.getfield 58, 3) ∧
  decode (cM m_Finding_weigh) 80 = .ok (.goto 4, 3) ∧
  am_okt 80 4 ∧
  am_tgt 80 4 = 84 ∧
  decode (cM m_Finding_weigh) 83 = .ok (.iconst (-1), 1) ∧
  decode (cM m_Finding_weigh) 84 = .ok (.putfield 22, 3) ∧
  decode (cM m_Finding_weigh) 87 = .ok (.aload_n 0, 1) ∧
  decode (cM m_Finding_weigh) 88 = .ok (.iconst 1, 1) ∧
  decode (cM m_Finding_weigh) 89 = .ok (.putfield 18, 3) ∧
  decode (cM m_Finding_weigh) 92 = .ok (.aload_n 0, 1) ∧
  decode (cM m_Finding_weigh) 93 = .ok (.iload_n 1, 1) ∧
  decode (cM m_Finding_weigh) 94 = .ok (.putfield 63, 3) ∧
  fldT 1 63 = some (1, 2, 0) ∧
  decode (cM m_Finding_weigh) 97 = .ok (.aload_n 0, 1) ∧
  decode (cM m_Finding_weigh) 98 = .ok (.aload_n 0, 1) ∧
  decode (cM m_Finding_weigh) 99 = .ok (.getfield 12, 3) ∧
  decode (cM m_Finding_weigh) 102 = .ok (.getfield 55, 3) ∧
  decode (cM m_Finding_weigh) 105 = .ok (.putfield 58, 3) ∧
  decode (cM m_Finding_weigh) 108 = .ok (.aload_n 0, 1) ∧
  decode (cM m_Finding_weigh) 109 = .ok (.aload_n 0, 1) ∧
  decode (cM m_Finding_weigh) 110 = .ok (.getfield 12, 3) ∧
  decode (cM m_Finding_weigh) 113 = .ok (.getfield 59, 3) ∧
  decode (cM m_Finding_weigh) 116 = .ok (.putfield 62, 3) ∧
  decode (cM m_Finding_weigh) 119 = .ok (.return_, 1) :=
  ⟨rfl, rfl, rfl, rfl, by decide +kernel, by decide +kernel, rfl, by decide +kernel, rfl, rfl, by decide +kernel, by decide +kernel, rfl, by decide +kernel, rfl, by decide +kernel, by decide +kernel, rfl, by decide +kernel, rfl, rfl, by decide +kernel, by decide +kernel, by decide +kernel, by decide +kernel, by decide +kernel, by decide +kernel, rfl, rfl, by decide +kernel, by decide +kernel, by decide +kernel, rfl, by decide +kernel, by decide +kernel, rfl, by decide +kernel, rfl, rfl, by decide +kernel, by decide +kernel, by decide +kernel, rfl, by decide +kernel, by decide +kernel, by decide +kernel, by decide +kernel, rfl, by decide +kernel, by decide +kernel, by decide +kernel, by decide +kernel, by decide +kernel, by decide +kernel, rfl, rfl, by decide +kernel, by decide +kernel, by decide +kernel, rfl, rfl, by decide +kernel, by decide +kernel, by decide +kernel, by decide +kernel, by decide +kernel, by decide +kernel, by decide +kernel, by decide +kernel, rfl, by decide +kernel, by decide +kernel, by decide +kernel, by decide +kernel, by decide +kernel, by decide +kernel, by decide +kernel, by decide +kernel, by decide +kernel, by decide +kernel, by decide +kernel⟩

set_option maxRecDepth 100000 in
set_option maxHeartbeats 4000000 in
theorem C_Finding_whyNotSure : oM m_Finding_whyNotSure = 1 ∧
  rkM m_Finding_whyNotSure = 1 ∧
  dM m_Finding_whyNotSure = 0 ∧
  lM m_Finding_whyNotSure = 3 ∧
  decode (cM m_Finding_whyNotSure) 0 = .ok (.aload_n 0, 1) ∧
  decode (cM m_Finding_whyNotSure) 1 = .ok (.getfield 18, 3) ∧
  fldT 1 18 = some (1, 1, 1) ∧
  decode (cM m_Finding_whyNotSure) 4 = .ok (.ifCond .ne 5, 3) ∧
  am_okt 4 5 ∧
  am_tgt 4 5 = 9 ∧
  decode (cM m_Finding_whyNotSure) 7 = .ok (.iconst 1, 1) ∧
  decode (cM m_Finding_whyNotSure) 8 = .ok (.ireturn, 1) ∧
  decode (cM m_Finding_whyNotSure) 9 = .ok (.aload_n 0, 1) ∧
  decode (cM m_Finding_whyNotSure) 10 = .ok (.getfield 58, 3) ∧
  fldT 1 58 = some (1, 3, 0) ∧
  decode (cM m_Finding_whyNotSure) 13 = .ok (.iload_n 1, 1) ∧
  decode (cM m_Finding_whyNotSure) 14 = .ok (.if_icmp .ge 5, 3) ∧
  am_okt 14 5 ∧
  am_tgt 14 5 = 19 ∧
  decode (cM m_Finding_whyNotSure) 17 = .ok (.iconst 2, 1) ∧
  decode (cM m_Finding_whyNotSure) 18 = .ok (.ireturn, 1) ∧
  decode (cM m_Finding_whyNotSure) 19 = .ok (.aload_n 0, 1) ∧
  decode (cM m_Finding_whyNotSure) 20 = .ok (.getfield 22, 3) ∧
  fldT 1 22 = some (1, 5, 0) ∧
  decode (cM m_Finding_whyNotSure) 23 = .ok (.iconst (-1), 1) ∧
  decode (cM m_Finding_whyNotSure) 24 = .ok (.if_icmp .eq 20, 3) ∧
  am_okt 24 20 ∧
  am_tgt 24 20 = 44 ∧
  decode (cM m_Finding_whyNotSure) 27 = .ok (.aload_n 0, 1) ∧
  decode (cM m_Finding_whyNotSure) 28 = .ok (.getfield 58, 3) ∧
  decode (cM m_Finding_whyNotSure) 31 = .ok (.aload_n 0, 1) ∧
  decode (cM m_Finding_whyNotSure) 32 = .ok (.getfield 22, 3) ∧
  decode (cM m_Finding_whyNotSure) 35 = .ok (.isub, 1) ∧
  decode (cM m_Finding_whyNotSure) 36 = .ok (.iload_n 2, 1) ∧
  decode (cM m_Finding_whyNotSure) 37 = .ok (.if_icmp .ge 7, 3) ∧
  am_okt 37 7 ∧
  am_tgt 37 7 = 44 ∧
  decode (cM m_Finding_whyNotSure) 40 = .ok (.iconst 3, 1) ∧
  decode (cM m_Finding_whyNotSure) 41 = .ok (.goto 4, 3) ∧
  am_okt 41 4 ∧
  am_tgt 41 4 = 45 ∧
  decode (cM m_Finding_whyNotSure) 44 = .ok (.iconst 0, 1) ∧
  decode (cM m_Finding_whyNotSure) 45 = .ok (.ireturn, 1) :=
  ⟨rfl, rfl, rfl, rfl, by decide +kernel, by decide +kernel, rfl, by decide +kernel, rfl, rfl, by decide +kernel, by decide +kernel, by decide +kernel, by decide +kernel, rfl, by decide +kernel, by decide +kernel, rfl, rfl, by decide +kernel, by decide +kernel, by decide +kernel, by decide +kernel, rfl, by decide +kernel, by decide +kernel, rfl, rfl, by decide +kernel, by decide +kernel, by decide +kernel, by decide +kernel, by decide +kernel, by decide +kernel, by decide +kernel, rfl, rfl, by decide +kernel, by decide +kernel, rfl, rfl, by decide +kernel, by decide +kernel⟩

set_option maxRecDepth 100000 in
set_option maxHeartbeats 4000000 in
theorem C_Row_begin : oM m_Row_begin = 6 ∧
  rkM m_Row_begin = 0 ∧
  dM m_Row_begin = 1 ∧
  lM m_Row_begin = 3 ∧
  decode (cM m_Row_begin) 0 = .ok (.aload_n 0, 1) ∧
  decode (cM m_Row_begin) 1 = .ok (.iconst 0, 1) ∧
  decode (cM m_Row_begin) 2 = .ok (.iload_n 1, 1) ∧
  decode (cM m_Row_begin) 3 = .ok (.aload_n 0, 1) ∧
  decode (cM m_Row_begin) 4 = .ok (.getfield 18, 3) ∧
  fldT 6 18 = some (6, 0, 3) ∧
  decode (cM m_Row_begin) 7 = .ok (.invokestatic 9, 3) ∧
  invT 6 9 = some (0, 4) ∧
  decode (cM m_Row_begin) 10 = .ok (.invokestatic 15, 3) ∧
  invT 6 15 = some (0, 3) ∧
  decode (cM m_Row_begin) 13 = .ok (.putfield 44, 3) ∧
  fldT 6 44 = some (6, 7, 0) ∧
  decode (cM m_Row_begin) 16 = .ok (.iconst 0, 1) ∧
  decode (cM m_Row_begin) 17 = .ok (.istore_n 2, 1) ∧
  decode (cM m_Row_begin) 18 = .ok (.iload_n 2, 1) ∧
  decode (cM m_Row_begin) 19 = .ok (.aload_n 0, 1) ∧
  decode (cM m_Row_begin) 20 = .ok (.getfield 44, 3) ∧
  decode (cM m_Row_begin) 23 = .ok (.if_icmp .ge 23, 3) ∧
  am_okt 23 23 ∧
  am_tgt 23 23 = 46 ∧
  decode (cM m_Row_begin) 26 = .ok (.aload_n 0, 1) ∧
  decode (cM m_Row_begin) 27 = .ok (.getfield 24, 3) ∧
  fldT 6 24 = some (6, 1, 2) ∧
  decode (cM m_Row_begin) 30 = .ok (.iload_n 2, 1) ∧
  decode (cM m_Row_begin) 31 = .ok (.iconst 0, 1) ∧
  decode (cM m_Row_begin) 32 = .ok (.iastore, 1) ∧
  decode (cM m_Row_begin) 33 = .ok (.aload_n 0, 1) ∧
  decode (cM m_Row_begin) 34 = .ok (.getfield 28, 3) ∧
  fldT 6 28 = some (6, 2, 2) ∧
  decode (cM m_Row_begin) 37 = .ok (.iload_n 2, 1) ∧
  decode (cM m_Row_begin) 38 = .ok (.iconst 0, 1) ∧
  decode (cM m_Row_begin) 39 = .ok (.bastore, 1) ∧
  decode (cM m_Row_begin) 40 = .ok (.iinc 2 1, 3) ∧
  decode (cM m_Row_begin) 43 = .ok (.goto (-25), 3) ∧
  am_okt 43 (-25) ∧
  am_tgt 43 (-25) = 18 ∧
  decode (cM m_Row_begin) 46 = .ok (.return_, 1) :=
  ⟨rfl, rfl, rfl, rfl, by decide +kernel, by decide +kernel, by decide +kernel, by decide +kernel, by decide +kernel, rfl, by decide +kernel, rfl, by decide +kernel, rfl, by decide +kernel, rfl, by decide +kernel, by decide +kernel, by decide +kernel, by decide +kernel, by decide +kernel, by decide +kernel, rfl, rfl, by decide +kernel, by decide +kernel, rfl, by decide +kernel, by decide +kernel, by decide +kernel, by decide +kernel, by decide +kernel, rfl, by decide +kernel, by decide +kernel, by decide +kernel, by decide +kernel, by decide +kernel, rfl, rfl, by decide +kernel⟩

set_option maxRecDepth 100000 in
set_option maxHeartbeats 4000000 in
theorem C_Row_put : oM m_Row_put = 6 ∧
  rkM m_Row_put = 0 ∧
  dM m_Row_put = 0 ∧
  lM m_Row_put = 4 ∧
  decode (cM m_Row_put) 0 = .ok (.iload_n 1, 1) ∧
  decode (cM m_Row_put) 1 = .ok (.ifCond .lt 25, 3) ∧
  am_okt 1 25 ∧
  am_tgt 1 25 = 26 ∧
  decode (cM m_Row_put) 4 = .ok (.iload_n 1, 1) ∧
  decode (cM m_Row_put) 5 = .ok (.aload_n 0, 1) ∧
  decode (cM m_Row_put) 6 = .ok (.getfield 44, 3) ∧
  fldT 6 44 = some (6, 7, 0) ∧
  decode (cM m_Row_put) 9 = .ok (.if_icmp .ge 17, 3) ∧
  am_okt 9 17 ∧
  am_tgt 9 17 = 26 ∧
  decode (cM m_Row_put) 12 = .ok (.aload_n 0, 1) ∧
  decode (cM m_Row_put) 13 = .ok (.getfield 24, 3) ∧
  fldT 6 24 = some (6, 1, 2) ∧
  decode (cM m_Row_put) 16 = .ok (.iload_n 1, 1) ∧
  decode (cM m_Row_put) 17 = .ok (.iload_n 2, 1) ∧
  decode (cM m_Row_put) 18 = .ok (.iastore, 1) ∧
  decode (cM m_Row_put) 19 = .ok (.aload_n 0, 1) ∧
  decode (cM m_Row_put) 20 = .ok (.getfield 28, 3) ∧
  fldT 6 28 = some (6, 2, 2) ∧
  decode (cM m_Row_put) 23 = .ok (.iload_n 1, 1) ∧
  decode (cM m_Row_put) 24 = .ok (.iload_n 3, 1) ∧
  decode (cM m_Row_put) 25 = .ok (.bastore, 1) ∧
  decode (cM m_Row_put) 26 = .ok (.return_, 1) :=
  ⟨rfl, rfl, rfl, rfl, by decide +kernel, by decide +kernel, rfl, rfl, by decide +kernel, by decide +kernel, by decide +kernel, rfl, by decide +kernel, rfl, rfl, by decide +kernel, by decide +kernel, rfl, by decide +kernel, by decide +kernel, by decide +kernel, by decide +kernel, by decide +kernel, rfl, by decide +kernel, by decide +kernel, by decide +kernel, by decide +kernel⟩

set_option maxRecDepth 100000 in
set_option maxHeartbeats 4000000 in
theorem C_Row_finish : oM m_Row_finish = 6 ∧
  rkM m_Row_finish = 0 ∧
  dM m_Row_finish = 2 ∧
  lM m_Row_finish = 4 ∧
  decode (cM m_Row_finish) 0 = .ok (.aload_n 0, 1) ∧
  decode (cM m_Row_finish) 1 = .ok (.getfield 41, 3) ∧
  fldT 6 41 = some (6, 6, 2) ∧
  decode (cM m_Row_finish) 4 = .ok (.iconst 0, 1) ∧
  decode (cM m_Row_finish) 5 = .ok (.iconst 0, 1) ∧
  decode (cM m_Row_finish) 6 = .ok (.iastore, 1) ∧
  decode (cM m_Row_finish) 7 = .ok (.iconst 0, 1) ∧
  decode (cM m_Row_finish) 8 = .ok (.istore_n 1, 1) ∧
  decode (cM m_Row_finish) 9 = .ok (.iload_n 1, 1) ∧
  decode (cM m_Row_finish) 10 = .ok (.aload_n 0, 1) ∧
  decode (cM m_Row_finish) 11 = .ok (.getfield 44, 3) ∧
  fldT 6 44 = some (6, 7, 0) ∧
  decode (cM m_Row_finish) 14 = .ok (.if_icmp .ge 138, 3) ∧
  am_okt 14 138 ∧
  am_tgt 14 138 = 152 ∧
  decode (cM m_Row_finish) 17 = .ok (.aload_n 0, 1) ∧
  decode (cM m_Row_finish) 18 = .ok (.getfield 24, 3) ∧
  fldT 6 24 = some (6, 1, 2) ∧
  decode (cM m_Row_finish) 21 = .ok (.iload_n 1, 1) ∧
  decode (cM m_Row_finish) 22 = .ok (.iaload, 1) ∧
  decode (cM m_Row_finish) 23 = .ok (.ifCond .eq 7, 3) ∧
  am_okt 23 7 ∧
  am_tgt 23 7 = 30 ∧
  decode (cM m_Row_finish) 26 = .ok (.iconst 1, 1) ∧
  decode (cM m_Row_finish) 27 = .ok (.goto 4, 3) ∧
  am_okt 27 4 ∧
  am_tgt 27 4 = 31 ∧
  decode (cM m_Row_finish) 30 = .ok (.iconst 0, 1) ∧
  decode (cM m_Row_finish) 31 = .ok (.istore_n 2, 1) ∧
  decode (cM m_Row_finish) 32 = .ok (.aload_n 0, 1) ∧
  decode (cM m_Row_finish) 33 = .ok (.iload_n 1, 1) ∧
  decode (cM m_Row_finish) 34 = .ok (.iconst 1, 1) ∧
  decode (cM m_Row_finish) 35 = .ok (.isub, 1) ∧
  decode (cM m_Row_finish) 36 = .ok (.invokevirtual 47, 3) ∧
  invT 6 47 = some (m_Row_numberAt, 0) ∧
  nM m_Row_numberAt = 2 ∧
  oM m_Row_numberAt = 6 ∧
  rkM m_Row_numberAt = 1 ∧
  dM m_Row_numberAt = 0 ∧
  decode (cM m_Row_finish) 39 = .ok (.istore_n 3, 1) ∧
  decode (cM m_Row_finish) 40 = .ok (.aload_n 0, 1) ∧
  decode (cM m_Row_finish) 41 = .ok (.getfield 41, 3) ∧
  decode (cM m_Row_finish) 44 = .ok (.iload_n 1, 1) ∧
  decode (cM m_Row_finish) 45 = .ok (.iconst 1, 1) ∧
  decode (cM m_Row_finish) 46 = .ok (.iadd, 1) ∧
  decode (cM m_Row_finish) 47 = .ok (.aload_n 0, 1) ∧
  decode (cM m_Row_finish) 48 = .ok (.getfield 41, 3) ∧
  decode (cM m_Row_finish) 51 = .ok (.iload_n 1, 1) ∧
  decode (cM m_Row_finish) 52 = .ok (.iaload, 1) ∧
  decode (cM m_Row_finish) 53 = .ok (.iload_n 2, 1) ∧
  decode (cM m_Row_finish) 54 = .ok (.ifCond .eq 7, 3) ∧
  am_okt 54 7 ∧
  am_tgt 54 7 = 61 ∧
  decode (cM m_Row_finish) 57 = .ok (.iconst 1, 1) ∧
  decode (cM m_Row_finish) 58 = .ok (.goto 4, 3) ∧
  am_okt 58 4 ∧
  am_tgt 58 4 = 62 ∧
  decode (cM m_Row_finish) 61 = .ok (.iconst 0, 1) ∧
  decode (cM m_Row_finish) 62 = .ok (.iadd, 1) ∧
  decode (cM m_Row_finish) 63 = .ok (.iastore, 1) ∧
  decode (cM m_Row_finish) 64 = .ok (.aload_n 0, 1) ∧
  decode (cM m_Row_finish) 65 = .ok (.getfield 35, 3) ∧
  fldT 6 35 = some (6, 4, 2) ∧
  decode (cM m_Row_finish) 68 = .ok (.iload_n 1, 1) ∧
  decode (cM m_Row_finish) 69 = .ok (.iload_n 2, 1) ∧
  decode (cM m_Row_finish) 70 = .ok (.ifCond .eq 20, 3) ∧
  am_okt 70 20 ∧
  am_tgt 70 20 = 90 ∧
  decode (cM m_Row_finish) 73 = .ok (.iload_n 3, 1) ∧
  decode (cM m_Row_finish) 74 = .ok (.ifCond .eq 16, 3) ∧
  am_okt 74 16 ∧
  am_tgt 74 16 = 90 ∧
  decode (cM m_Row_finish) 77 = .ok (.aload_n 0, 1) ∧
  decode (cM m_Row_finish) 78 = .ok (.getfield 24, 3) ∧
  decode (cM m_Row_finish) 81 = .ok (.iload_n 1, 1) ∧
  decode (cM m_Row_finish) 82 = .ok (.iaload, 1) ∧
  decode (cM m_Row_finish) 83 = .ok (.iload_n 3, 1) ∧
  decode (cM m_Row_finish) 84 = .ok (.invokestatic 51, 3) ∧
  invT 6 51 = some (m_Integer_compare, 1) ∧
  nM m_Integer_compare = 2 ∧
  oM m_Integer_compare = 13 ∧
  rkM m_Integer_compare = 1 ∧
  dM m_Integer_compare = 0 ∧
  decode (cM m_Row_finish) 87 = .ok (.goto 4, 3) ∧
  am_okt 87 4 ∧
  am_tgt 87 4 = 91 ∧
  decode (cM m_Row_finish) 90 = .ok (.iconst 2, 1) ∧
  decode (cM m_Row_finish) 91 = .ok (.iastore, 1) ∧
  decode (cM m_Row_finish) 92 = .ok (.aload_n 0, 1) ∧
  decode (cM m_Row_finish) 93 = .ok (.getfield 38, 3) ∧
  fldT 6 38 = some (6, 5, 2) ∧
  decode (cM m_Row_finish) 96 = .ok (.iload_n 1, 1) ∧
  decode (cM m_Row_finish) 97 = .ok (.iload_n 2, 1) ∧
  decode (cM m_Row_finish) 98 = .ok (.ifCond .eq 11, 3) ∧
  am_okt 98 11 ∧
  am_tgt 98 11 = 109 ∧
  decode (cM m_Row_finish) 101 = .ok (.aload_n 0, 1) ∧
  decode (cM m_Row_finish) 102 = .ok (.iload_n 1, 1) ∧
  decode (cM m_Row_finish) 103 = .ok (.invokevirtual 56, 3) ∧
  invT 6 56 = some (m_Row_countLess, 0) ∧
  nM m_Row_countLess = 2 ∧
  oM m_Row_countLess = 6 ∧
  rkM m_Row_countLess = 1 ∧
  dM m_Row_countLess = 1 ∧
  decode (cM m_Row_finish) 106 = .ok (.goto 4, 3) ∧
  am_okt 106 4 ∧
  am_tgt 106 4 = 110 ∧
  decode (cM m_Row_finish) 109 = .ok (.iconst (-1), 1) ∧
  decode (cM m_Row_finish) 110 = .ok (.iastore, 1) ∧
  decode (cM m_Row_finish) 111 = .ok (.aload_n 0, 1) ∧
  decode (cM m_Row_finish) 112 = .ok (.getfield 32, 3) ∧
  fldT 6 32 = some (6, 3, 2) ∧
  decode (cM m_Row_finish) 115 = .ok (.iload_n 1, 1) ∧
  decode (cM m_Row_finish) 116 = .ok (.aload_n 0, 1) ∧
  decode (cM m_Row_finish) 117 = .ok (.getfield 28, 3) ∧
  fldT 6 28 = some (6, 2, 2) ∧
  decode (cM m_Row_finish) 120 = .ok (.iload_n 1, 1) ∧
  decode (cM m_Row_finish) 121 = .ok (.baload, 1) ∧
  decode (cM m_Row_finish) 122 = .ok (.ifCond .ne 18, 3) ∧
  am_okt 122 18 ∧
  am_tgt 122 18 = 140 ∧
  decode (cM m_Row_finish) 125 = .ok (.iload_n 1, 1) ∧
  decode (cM m_Row_finish) 126 = .ok (.ifCond .le 18, 3) ∧
  am_okt 126 18 ∧
  am_tgt 126 18 = 144 ∧
  decode (cM m_Row_finish) 129 = .ok (.aload_n 0, 1) ∧
  decode (cM m_Row_finish) 130 = .ok (.getfield 28, 3) ∧
  decode (cM m_Row_finish) 133 = .ok (.iload_n 1, 1) ∧
  decode (cM m_Row_finish) 134 = .ok (.iconst 1, 1) ∧
  decode (cM m_Row_finish) 135 = .ok (.isub, 1) ∧
  decode (cM m_Row_finish) 136 = .ok (.baload, 1) ∧
  decode (cM m_Row_finish) 137 = .ok (.ifCond .eq 7, 3) ∧
  am_okt 137 7 ∧
  am_tgt 137 7 = 144 ∧
  decode (cM m_Row_finish) 140 = .ok (.iconst 1, 1) ∧
  decode (cM m_Row_finish) 141 = .ok (.goto 4, 3) ∧
  am_okt 141 4 ∧
  am_tgt 141 4 = 145 ∧
  decode (cM m_Row_finish) 144 = .ok (.iconst 0, 1) ∧
  decode (cM m_Row_finish) 145 = .ok (.bastore, 1) ∧
  decode (cM m_Row_finish) 146 = .ok (.iinc 1 1, 3) ∧
  decode (cM m_Row_finish) 149 = .ok (.goto (-140), 3) ∧
  am_okt 149 (-140) ∧
  am_tgt 149 (-140) = 9 ∧
  decode (cM m_Row_finish) 152 = .ok (.return_, 1) :=
  ⟨rfl, rfl, rfl, rfl, by decide +kernel, by decide +kernel, rfl, by decide +kernel, by decide +kernel, by decide +kernel, by decide +kernel, by decide +kernel, by decide +kernel, by decide +kernel, by decide +kernel, rfl, by decide +kernel, rfl, rfl, by decide +kernel, by decide +kernel, rfl, by decide +kernel, by decide +kernel, by decide +kernel, rfl, rfl, by decide +kernel, by decide +kernel, rfl, rfl, by decide +kernel, by decide +kernel, by decide +kernel, by decide +kernel, by decide +kernel, by decide +kernel, by decide +kernel, rfl, rfl, rfl, rfl, rfl, by decide +kernel, by decide +kernel, by decide +kernel, by decide +kernel, by decide +kernel, by decide +kernel, by decide +kernel, by decide +kernel, by decide +kernel, by decide +kernel, by decide +kernel, by decide +kernel, rfl, rfl, by decide +kernel, by decide +kernel, rfl, rfl, by decide +kernel, by decide +kernel, by decide +kernel, by decide +kernel, by decide +kernel, rfl, by decide +kernel, by decide +kernel, by decide +kernel, rfl, rfl, by decide +kernel, by decide +kernel, rfl, rfl, by decide +kernel, by decide +kernel, by decide +kernel, by decide +kernel, by decide +kernel, by decide +kernel, rfl, rfl, rfl, rfl, rfl, by decide +kernel, rfl, rfl, by decide +kernel, by decide +kernel, by decide +kernel, by decide +kernel, rfl, by decide +kernel, by decide +kernel, by decide +kernel, rfl, rfl, by decide +kernel, by decide +kernel, by decide +kernel, rfl, rfl, rfl, rfl, rfl, by decide +kernel, rfl, rfl, by decide +kernel, by decide +kernel, by decide +kernel, by decide +kernel, rfl, by decide +kernel, by decide +kernel, by decide +kernel, rfl, by decide +kernel, by decide +kernel, by decide +kernel, rfl, rfl, by decide +kernel, by decide +kernel, rfl, rfl, by decide +kernel, by decide +kernel, by decide +kernel, by decide +kernel, by decide +kernel, by decide +kernel, by decide +kernel, rfl, rfl, by decide +kernel, by decide +kernel, rfl, rfl, by decide +kernel, by decide +kernel, by decide +kernel, by decide +kernel, rfl, rfl, by decide +kernel⟩

set_option maxRecDepth 100000 in
set_option maxHeartbeats 4000000 in
theorem C_Row_numberAt : oM m_Row_numberAt = 6 ∧
  rkM m_Row_numberAt = 1 ∧
  dM m_Row_numberAt = 0 ∧
  lM m_Row_numberAt = 2 ∧
  decode (cM m_Row_numberAt) 0 = .ok (.iload_n 1, 1) ∧
  decode (cM m_Row_numberAt) 1 = .ok (.ifCond .lt 20, 3) ∧
  am_okt 1 20 ∧
  am_tgt 1 20 = 21 ∧
  decode (cM m_Row_numberAt) 4 = .ok (.iload_n 1, 1) ∧
  decode (cM m_Row_numberAt) 5 = .ok (.aload_n 0, 1) ∧
  decode (cM m_Row_numberAt) 6 = .ok (.getfield 44, 3) ∧
  fldT 6 44 = some (6, 7, 0) ∧
  decode (cM m_Row_numberAt) 9 = .ok (.if_icmp .ge 12, 3) ∧
  am_okt 9 12 ∧
  am_tgt 9 12 = 21 ∧
  decode (cM m_Row_numberAt) 12 = .ok (.aload_n 0, 1) ∧
  decode (cM m_Row_numberAt) 13 = .ok (.getfield 24, 3) ∧
  fldT 6 24 = some (6, 1, 2) ∧
  decode (cM m_Row_numberAt) 16 = .ok (.iload_n 1, 1) ∧
  decode (cM m_Row_numberAt) 17 = .ok (.iaload, 1) ∧
  decode (cM m_Row_numberAt) 18 = .ok (.goto 4, 3) ∧
  am_okt 18 4 ∧
  am_tgt 18 4 = 22 ∧
  decode (cM m_Row_numberAt) 21 = .ok (.iconst 0, 1) ∧
  decode (cM m_Row_numberAt) 22 = .ok (.ireturn, 1) :=
  ⟨rfl, rfl, rfl, rfl, by decide +kernel, by decide +kernel, rfl, rfl, by decide +kernel, by decide +kernel, by decide +kernel, rfl, by decide +kernel, rfl, rfl, by decide +kernel, by decide +kernel, rfl, by decide +kernel, by decide +kernel, by decide +kernel, rfl, rfl, by decide +kernel, by decide +kernel⟩

set_option maxRecDepth 100000 in
set_option maxHeartbeats 4000000 in
theorem C_Row_countLess : oM m_Row_countLess = 6 ∧
  rkM m_Row_countLess = 1 ∧
  dM m_Row_countLess = 1 ∧
  lM m_Row_countLess = 5 ∧
  decode (cM m_Row_countLess) 0 = .ok (.iconst 0, 1) ∧
  decode (cM m_Row_countLess) 1 = .ok (.istore_n 2, 1) ∧
  decode (cM m_Row_countLess) 2 = .ok (.iconst 0, 1) ∧
  decode (cM m_Row_countLess) 3 = .ok (.iload_n 1, 1) ∧
  decode (cM m_Row_countLess) 4 = .ok (.iconst 2, 1) ∧
  decode (cM m_Row_countLess) 5 = .ok (.isub, 1) ∧
  decode (cM m_Row_countLess) 6 = .ok (.invokestatic 15, 3) ∧
  invT 6 15 = some (0, 3) ∧
  decode (cM m_Row_countLess) 9 = .ok (.istore_n 3, 1) ∧
  decode (cM m_Row_countLess) 10 = .ok (.iload_n 3, 1) ∧
  decode (cM m_Row_countLess) 11 = .ok (.istore 4, 2) ∧
  decode (cM m_Row_countLess) 13 = .ok (.iload 4, 2) ∧
  decode (cM m_Row_countLess) 15 = .ok (.aload_n 0, 1) ∧
  decode (cM m_Row_countLess) 16 = .ok (.getfield 44, 3) ∧
  fldT 6 44 = some (6, 7, 0) ∧
  decode (cM m_Row_countLess) 19 = .ok (.if_icmp .ge 51, 3) ∧
  am_okt 19 51 ∧
  am_tgt 19 51 = 70 ∧
  decode (cM m_Row_countLess) 22 = .ok (.iload 4, 2) ∧
  decode (cM m_Row_countLess) 24 = .ok (.iload_n 1, 1) ∧
  decode (cM m_Row_countLess) 25 = .ok (.iconst 2, 1) ∧
  decode (cM m_Row_countLess) 26 = .ok (.iadd, 1) ∧
  decode (cM m_Row_countLess) 27 = .ok (.if_icmp .gt 43, 3) ∧
  am_okt 27 43 ∧
  am_tgt 27 43 = 70 ∧
  decode (cM m_Row_countLess) 30 = .ok (.iload_n 2, 1) ∧
  decode (cM m_Row_countLess) 31 = .ok (.aload_n 0, 1) ∧
  decode (cM m_Row_countLess) 32 = .ok (.getfield 24, 3) ∧
  fldT 6 24 = some (6, 1, 2) ∧
  decode (cM m_Row_countLess) 35 = .ok (.iload 4, 2) ∧
  decode (cM m_Row_countLess) 37 = .ok (.iaload, 1) ∧
  decode (cM m_Row_countLess) 38 = .ok (.ifCond .eq 23, 3) ∧
  am_okt 38 23 ∧
  am_tgt 38 23 = 61 ∧
  decode (cM m_Row_countLess) 41 = .ok (.aload_n 0, 1) ∧
  decode (cM m_Row_countLess) 42 = .ok (.getfield 24, 3) ∧
  decode (cM m_Row_countLess) 45 = .ok (.iload 4, 2) ∧
  decode (cM m_Row_countLess) 47 = .ok (.iaload, 1) ∧
  decode (cM m_Row_countLess) 48 = .ok (.aload_n 0, 1) ∧
  decode (cM m_Row_countLess) 49 = .ok (.getfield 24, 3) ∧
  decode (cM m_Row_countLess) 52 = .ok (.iload_n 1, 1) ∧
  decode (cM m_Row_countLess) 53 = .ok (.iaload, 1) ∧
  decode (cM m_Row_countLess) 54 = .ok (.if_icmp .ge 7, 3) ∧
  am_okt 54 7 ∧
  am_tgt 54 7 = 61 ∧
  decode (cM m_Row_countLess) 57 = .ok (.iconst 1, 1) ∧
  decode (cM m_Row_countLess) 58 = .ok (.goto 4, 3) ∧
  am_okt 58 4 ∧
  am_tgt 58 4 = 62 ∧
  decode (cM m_Row_countLess) 61 = .ok (.iconst 0, 1) ∧
  decode (cM m_Row_countLess) 62 = .ok (.iadd, 1) ∧
  decode (cM m_Row_countLess) 63 = .ok (.istore_n 2, 1) ∧
  decode (cM m_Row_countLess) 64 = .ok (.iinc 4 1, 3) ∧
  decode (cM m_Row_countLess) 67 = .ok (.goto (-54), 3) ∧
  am_okt 67 (-54) ∧
  am_tgt 67 (-54) = 13 ∧
  decode (cM m_Row_countLess) 70 = .ok (.iload_n 2, 1) ∧
  decode (cM m_Row_countLess) 71 = .ok (.ireturn, 1) :=
  ⟨rfl, rfl, rfl, rfl, by decide +kernel, by decide +kernel, by decide +kernel, by decide +kernel, by decide +kernel, by decide +kernel, by decide +kernel, rfl, by decide +kernel, by decide +kernel, by decide +kernel, by decide +kernel, by decide +kernel, by decide +kernel, rfl, by decide +kernel, rfl, rfl, by decide +kernel, by decide +kernel, by decide +kernel, by decide +kernel, by decide +kernel, rfl, rfl, by decide +kernel, by decide +kernel, by decide +kernel, rfl, by decide +kernel, by decide +kernel, by decide +kernel, rfl, rfl, by decide +kernel, by decide +kernel, by decide +kernel, by decide +kernel, by decide +kernel, by decide +kernel, by decide +kernel, by decide +kernel, by decide +kernel, rfl, rfl, by decide +kernel, by decide +kernel, rfl, rfl, by decide +kernel, by decide +kernel, by decide +kernel, by decide +kernel, by decide +kernel, rfl, rfl, by decide +kernel, by decide +kernel⟩

set_option maxRecDepth 100000 in
set_option maxHeartbeats 4000000 in
theorem C_Row_numbersFrom : oM m_Row_numbersFrom = 6 ∧
  rkM m_Row_numbersFrom = 1 ∧
  dM m_Row_numbersFrom = 0 ∧
  lM m_Row_numbersFrom = 3 ∧
  decode (cM m_Row_numbersFrom) 0 = .ok (.iload_n 1, 1) ∧
  decode (cM m_Row_numbersFrom) 1 = .ok (.ifCond .lt 16, 3) ∧
  am_okt 1 16 ∧
  am_tgt 1 16 = 17 ∧
  decode (cM m_Row_numbersFrom) 4 = .ok (.iload_n 2, 1) ∧
  decode (cM m_Row_numbersFrom) 5 = .ok (.aload_n 0, 1) ∧
  decode (cM m_Row_numbersFrom) 6 = .ok (.getfield 44, 3) ∧
  fldT 6 44 = some (6, 7, 0) ∧
  decode (cM m_Row_numbersFrom) 9 = .ok (.if_icmp .gt 8, 3) ∧
  am_okt 9 8 ∧
  am_tgt 9 8 = 17 ∧
  decode (cM m_Row_numbersFrom) 12 = .ok (.iload_n 1, 1) ∧
  decode (cM m_Row_numbersFrom) 13 = .ok (.iload_n 2, 1) ∧
  decode (cM m_Row_numbersFrom) 14 = .ok (.if_icmp .lt 5, 3) ∧
  am_okt 14 5 ∧
  am_tgt 14 5 = 19 ∧
  decode (cM m_Row_numbersFrom) 17 = .ok (.iconst 0, 1) ∧
  decode (cM m_Row_numbersFrom) 18 = .ok (.ireturn, 1) ∧
  decode (cM m_Row_numbersFrom) 19 = .ok (.aload_n 0, 1) ∧
  decode (cM m_Row_numbersFrom) 20 = .ok (.getfield 41, 3) ∧
  fldT 6 41 = some (6, 6, 2) ∧
  decode (cM m_Row_numbersFrom) 23 = .ok (.iload_n 2, 1) ∧
  decode (cM m_Row_numbersFrom) 24 = .ok (.iaload, 1) ∧
  decode (cM m_Row_numbersFrom) 25 = .ok (.aload_n 0, 1) ∧
  decode (cM m_Row_numbersFrom) 26 = .ok (.getfield 41, 3) ∧
  decode (cM m_Row_numbersFrom) 29 = .ok (.iload_n 1, 1) ∧
  decode (cM m_Row_numbersFrom) 30 = .ok (.iaload, 1) ∧
  decode (cM m_Row_numbersFrom) 31 = .ok (.isub, 1) ∧
  decode (cM m_Row_numbersFrom) 32 = .ok (.ireturn, 1) :=
  ⟨rfl, rfl, rfl, rfl, by decide +kernel, by decide +kernel, rfl, rfl, by decide +kernel, by decide +kernel, by decide +kernel, rfl, by decide +kernel, rfl, rfl, by decide +kernel, by decide +kernel, by decide +kernel, rfl, rfl, by decide +kernel, by decide +kernel, by decide +kernel, by decide +kernel, rfl, by decide +kernel, by decide +kernel, by decide +kernel, by decide +kernel, by decide +kernel, by decide +kernel, by decide +kernel, by decide +kernel⟩

set_option maxRecDepth 100000 in
set_option maxHeartbeats 4000000 in
theorem C_Row_rankAt : oM m_Row_rankAt = 6 ∧
  rkM m_Row_rankAt = 1 ∧
  dM m_Row_rankAt = 0 ∧
  lM m_Row_rankAt = 2 ∧
  decode (cM m_Row_rankAt) 0 = .ok (.iload_n 1, 1) ∧
  decode (cM m_Row_rankAt) 1 = .ok (.ifCond .lt 20, 3) ∧
  am_okt 1 20 ∧
  am_tgt 1 20 = 21 ∧
  decode (cM m_Row_rankAt) 4 = .ok (.iload_n 1, 1) ∧
  decode (cM m_Row_rankAt) 5 = .ok (.aload_n 0, 1) ∧
  decode (cM m_Row_rankAt) 6 = .ok (.getfield 44, 3) ∧
  fldT 6 44 = some (6, 7, 0) ∧
  decode (cM m_Row_rankAt) 9 = .ok (.if_icmp .ge 12, 3) ∧
  am_okt 9 12 ∧
  am_tgt 9 12 = 21 ∧
  decode (cM m_Row_rankAt) 12 = .ok (.aload_n 0, 1) ∧
  decode (cM m_Row_rankAt) 13 = .ok (.getfield 38, 3) ∧
  fldT 6 38 = some (6, 5, 2) ∧
  decode (cM m_Row_rankAt) 16 = .ok (.iload_n 1, 1) ∧
  decode (cM m_Row_rankAt) 17 = .ok (.iaload, 1) ∧
  decode (cM m_Row_rankAt) 18 = .ok (.goto 4, 3) ∧
  am_okt 18 4 ∧
  am_tgt 18 4 = 22 ∧
  decode (cM m_Row_rankAt) 21 = .ok (.iconst (-1), 1) ∧
  decode (cM m_Row_rankAt) 22 = .ok (.ireturn, 1) :=
  ⟨rfl, rfl, rfl, rfl, by decide +kernel, by decide +kernel, rfl, rfl, by decide +kernel, by decide +kernel, by decide +kernel, rfl, by decide +kernel, rfl, rfl, by decide +kernel, by decide +kernel, rfl, by decide +kernel, by decide +kernel, by decide +kernel, rfl, rfl, by decide +kernel, by decide +kernel⟩

set_option maxRecDepth 100000 in
set_option maxHeartbeats 4000000 in
theorem C_Row_stepAt : oM m_Row_stepAt = 6 ∧
  rkM m_Row_stepAt = 1 ∧
  dM m_Row_stepAt = 0 ∧
  lM m_Row_stepAt = 2 ∧
  decode (cM m_Row_stepAt) 0 = .ok (.iload_n 1, 1) ∧
  decode (cM m_Row_stepAt) 1 = .ok (.ifCond .lt 20, 3) ∧
  am_okt 1 20 ∧
  am_tgt 1 20 = 21 ∧
  decode (cM m_Row_stepAt) 4 = .ok (.iload_n 1, 1) ∧
  decode (cM m_Row_stepAt) 5 = .ok (.aload_n 0, 1) ∧
  decode (cM m_Row_stepAt) 6 = .ok (.getfield 44, 3) ∧
  fldT 6 44 = some (6, 7, 0) ∧
  decode (cM m_Row_stepAt) 9 = .ok (.if_icmp .ge 12, 3) ∧
  am_okt 9 12 ∧
  am_tgt 9 12 = 21 ∧
  decode (cM m_Row_stepAt) 12 = .ok (.aload_n 0, 1) ∧
  decode (cM m_Row_stepAt) 13 = .ok (.getfield 35, 3) ∧
  fldT 6 35 = some (6, 4, 2) ∧
  decode (cM m_Row_stepAt) 16 = .ok (.iload_n 1, 1) ∧
  decode (cM m_Row_stepAt) 17 = .ok (.iaload, 1) ∧
  decode (cM m_Row_stepAt) 18 = .ok (.goto 4, 3) ∧
  am_okt 18 4 ∧
  am_tgt 18 4 = 22 ∧
  decode (cM m_Row_stepAt) 21 = .ok (.iconst 2, 1) ∧
  decode (cM m_Row_stepAt) 22 = .ok (.ireturn, 1) :=
  ⟨rfl, rfl, rfl, rfl, by decide +kernel, by decide +kernel, rfl, rfl, by decide +kernel, by decide +kernel, by decide +kernel, rfl, by decide +kernel, rfl, rfl, by decide +kernel, by decide +kernel, rfl, by decide +kernel, by decide +kernel, by decide +kernel, rfl, rfl, by decide +kernel, by decide +kernel⟩

set_option maxRecDepth 100000 in
set_option maxHeartbeats 4000000 in
theorem C_Row_isShaky : oM m_Row_isShaky = 6 ∧
  rkM m_Row_isShaky = 2 ∧
  dM m_Row_isShaky = 0 ∧
  lM m_Row_isShaky = 2 ∧
  decode (cM m_Row_isShaky) 0 = .ok (.iload_n 1, 1) ∧
  decode (cM m_Row_isShaky) 1 = .ok (.ifCond .lt 24, 3) ∧
  am_okt 1 24 ∧
  am_tgt 1 24 = 25 ∧
  decode (cM m_Row_isShaky) 4 = .ok (.iload_n 1, 1) ∧
  decode (cM m_Row_isShaky) 5 = .ok (.aload_n 0, 1) ∧
  decode (cM m_Row_isShaky) 6 = .ok (.getfield 44, 3) ∧
  fldT 6 44 = some (6, 7, 0) ∧
  decode (cM m_Row_isShaky) 9 = .ok (.if_icmp .ge 16, 3) ∧
  am_okt 9 16 ∧
  am_tgt 9 16 = 25 ∧
  decode (cM m_Row_isShaky) 12 = .ok (.aload_n 0, 1) ∧
  decode (cM m_Row_isShaky) 13 = .ok (.getfield 32, 3) ∧
  fldT 6 32 = some (6, 3, 2) ∧
  decode (cM m_Row_isShaky) 16 = .ok (.iload_n 1, 1) ∧
  decode (cM m_Row_isShaky) 17 = .ok (.baload, 1) ∧
  decode (cM m_Row_isShaky) 18 = .ok (.ifCond .eq 7, 3) ∧
  am_okt 18 7 ∧
  am_tgt 18 7 = 25 ∧
  decode (cM m_Row_isShaky) 21 = .ok (.iconst 1, 1) ∧
  decode (cM m_Row_isShaky) 22 = .ok (.goto 4, 3) ∧
  am_okt 22 4 ∧
  am_tgt 22 4 = 26 ∧
  decode (cM m_Row_isShaky) 25 = .ok (.iconst 0, 1) ∧
  decode (cM m_Row_isShaky) 26 = .ok (.ireturn, 1) :=
  ⟨rfl, rfl, rfl, rfl, by decide +kernel, by decide +kernel, rfl, rfl, by decide +kernel, by decide +kernel, by decide +kernel, rfl, by decide +kernel, rfl, rfl, by decide +kernel, by decide +kernel, rfl, by decide +kernel, by decide +kernel, by decide +kernel, rfl, rfl, by decide +kernel, by decide +kernel, rfl, rfl, by decide +kernel, by decide +kernel⟩

set_option maxRecDepth 100000 in
set_option maxHeartbeats 4000000 in
theorem C_Slide_measure : oM m_Slide_measure = 7 ∧
  rkM m_Slide_measure = 0 ∧
  dM m_Slide_measure = 1 ∧
  lM m_Slide_measure = 14 ∧
  decode (cM m_Slide_measure) 0 = .ok (.iconst 0, 1) ∧
  decode (cM m_Slide_measure) 1 = .ok (.istore 4, 2) ∧
  decode (cM m_Slide_measure) 3 = .ok (.iconst 0, 1) ∧
  decode (cM m_Slide_measure) 4 = .ok (.istore 5, 2) ∧
  decode (cM m_Slide_measure) 6 = .ok (.iconst 0, 1) ∧
  decode (cM m_Slide_measure) 7 = .ok (.istore 6, 2) ∧
  decode (cM m_Slide_measure) 9 = .ok (.aload_n 0, 1) ∧
  decode (cM m_Slide_measure) 10 = .ok (.iconst 0, 1) ∧
  decode (cM m_Slide_measure) 11 = .ok (.putfield 9, 3) ∧
  fldT 7 9 = some (7, 0, 0) ∧
  decode (cM m_Slide_measure) 14 = .ok (.iconst 0, 1) ∧
  decode (cM m_Slide_measure) 15 = .ok (.iload_n 3, 1) ∧
  decode (cM m_Slide_measure) 16 = .ok (.ineg, 1) ∧
  decode (cM m_Slide_measure) 17 = .ok (.invokestatic 15, 3) ∧
  invT 7 15 = some (0, 3) ∧
  decode (cM m_Slide_measure) 20 = .ok (.istore 7, 2) ∧
  decode (cM m_Slide_measure) 22 = .ok (.aload_n 2, 1) ∧
  decode (cM m_Slide_measure) 23 = .ok (.getfield 21, 3) ∧
  fldT 7 21 = some (6, 7, 0) ∧
  decode (cM m_Slide_measure) 26 = .ok (.aload_n 1, 1) ∧
  decode (cM m_Slide_measure) 27 = .ok (.getfield 21, 3) ∧
  decode (cM m_Slide_measure) 30 = .ok (.iload_n 3, 1) ∧
  decode (cM m_Slide_measure) 31 = .ok (.isub, 1) ∧
  decode (cM m_Slide_measure) 32 = .ok (.invokestatic 26, 3) ∧
  invT 7 26 = some (0, 4) ∧
  decode (cM m_Slide_measure) 35 = .ok (.istore 8, 2) ∧
  decode (cM m_Slide_measure) 37 = .ok (.iload 7, 2) ∧
  decode (cM m_Slide_measure) 39 = .ok (.istore 9, 2) ∧
  decode (cM m_Slide_measure) 41 = .ok (.iload 9, 2) ∧
  decode (cM m_Slide_measure) 43 = .ok (.iload 8, 2) ∧
  decode (cM m_Slide_measure) 45 = .ok (.if_icmp .ge 134, 3) ∧
  am_okt 45 134 ∧
  am_tgt 45 134 = 179 ∧
  decode (cM m_Slide_measure) 48 = .ok (.aload_n 1, 1) ∧
  decode (cM m_Slide_measure) 49 = .ok (.iload 9, 2) ∧
  decode (cM m_Slide_measure) 51 = .ok (.iload_n 3, 1) ∧
  decode (cM m_Slide_measure) 52 = .ok (.iadd, 1) ∧
  decode (cM m_Slide_measure) 53 = .ok (.invokevirtual 29, 3) ∧
  invT 7 29 = some (m_Row_rankAt, 0) ∧
  nM m_Row_rankAt = 2 ∧
  oM m_Row_rankAt = 6 ∧
  rkM m_Row_rankAt = 1 ∧
  dM m_Row_rankAt = 0 ∧
  decode (cM m_Slide_measure) 56 = .ok (.istore 10, 2) ∧
  decode (cM m_Slide_measure) 58 = .ok (.aload_n 2, 1) ∧
  decode (cM m_Slide_measure) 59 = .ok (.iload 9, 2) ∧
  decode (cM m_Slide_measure) 61 = .ok (.invokevirtual 29, 3) ∧
  decode (cM m_Slide_measure) 64 = .ok (.istore 11, 2) ∧
  decode (cM m_Slide_measure) 66 = .ok (.iload 10, 2) ∧
  decode (cM m_Slide_measure) 68 = .ok (.iconst (-1), 1) ∧
  decode (cM m_Slide_measure) 69 = .ok (.if_icmp .eq 104, 3) ∧
  am_okt 69 104 ∧
  am_tgt 69 104 = 173 ∧
  decode (cM m_Slide_measure) 72 = .ok (.iload 11, 2) ∧
  decode (cM m_Slide_measure) 74 = .ok (.iconst (-1), 1) ∧
  decode (cM m_Slide_measure) 75 = .ok (.if_icmp .ne 6, 3) ∧
  am_okt 75 6 ∧
  am_tgt 75 6 = 81 ∧
  decode (cM m_Slide_measure) 78 = .ok (.goto 95, 3) ∧
  am_okt 78 95 ∧
  am_tgt 78 95 = 173 ∧
  decode (cM m_Slide_measure) 81 = .ok (.aload_n 0, 1) ∧
  decode (cM m_Slide_measure) 82 = .ok (.dup, 1) ∧
  decode (cM m_Slide_measure) 83 = .ok (.getfield 9, 3) ∧
  decode (cM m_Slide_measure) 86 = .ok (.iconst 1, 1) ∧
  decode (cM m_Slide_measure) 87 = .ok (.iadd, 1) ∧
  decode (cM m_Slide_measure) 88 = .ok (.putfield 9, 3) ∧
  decode (cM m_Slide_measure) 91 = .ok (.iload 4, 2) ∧
  decode (cM m_Slide_measure) 93 = .ok (.iload 10, 2) ∧
  decode (cM m_Slide_measure) 95 = .ok (.iload 11, 2) ∧
  decode (cM m_Slide_measure) 97 = .ok (.isub, 1) ∧
  decode (cM m_Slide_measure) 98 = .ok (.invokestatic 33, 3) ∧
  invT 7 33 = some (0, 5) ∧
  decode (cM m_Slide_measure) 101 = .ok (.iadd, 1) ∧
  decode (cM m_Slide_measure) 102 = .ok (.istore 4, 2) ∧
  decode (cM m_Slide_measure) 104 = .ok (.aload_n 1, 1) ∧
  decode (cM m_Slide_measure) 105 = .ok (.iload 9, 2) ∧
  decode (cM m_Slide_measure) 107 = .ok (.iload_n 3, 1) ∧
  decode (cM m_Slide_measure) 108 = .ok (.iadd, 1) ∧
  decode (cM m_Slide_measure) 109 = .ok (.invokevirtual 36, 3) ∧
  invT 7 36 = some (m_Row_stepAt, 0) ∧
  nM m_Row_stepAt = 2 ∧
  oM m_Row_stepAt = 6 ∧
  rkM m_Row_stepAt = 1 ∧
  dM m_Row_stepAt = 0 ∧
  decode (cM m_Slide_measure) 112 = .ok (.istore 12, 2) ∧
  decode (cM m_Slide_measure) 114 = .ok (.aload_n 2, 1) ∧
  decode (cM m_Slide_measure) 115 = .ok (.iload 9, 2) ∧
  decode (cM m_Slide_measure) 117 = .ok (.invokevirtual 36, 3) ∧
  decode (cM m_Slide_measure) 120 = .ok (.istore 13, 2) ∧
  decode (cM m_Slide_measure) 122 = .ok (.iload 12, 2) ∧
  decode (cM m_Slide_measure) 124 = .ok (.iconst 2, 1) ∧
  decode (cM m_Slide_measure) 125 = .ok (.if_icmp .eq 48, 3) ∧
  am_okt 125 48 ∧
  am_tgt 125 48 = 173 ∧
  decode (cM m_Slide_measure) 128 = .ok (.iload 13, 2) ∧
  decode (cM m_Slide_measure) 130 = .ok (.iconst 2, 1) ∧
  decode (cM m_Slide_measure) 131 = .ok (.if_icmp .eq 42, 3) ∧
  am_okt 131 42 ∧
  am_tgt 131 42 = 173 ∧
  decode (cM m_Slide_measure) 134 = .ok (.iinc 5 1, 3) ∧
  decode (cM m_Slide_measure) 137 = .ok (.iload 6, 2) ∧
  decode (cM m_Slide_measure) 139 = .ok (.aload_n 1, 1) ∧
  decode (cM m_Slide_measure) 140 = .ok (.iload 9, 2) ∧
  decode (cM m_Slide_measure) 142 = .ok (.iload_n 3, 1) ∧
  decode (cM m_Slide_measure) 143 = .ok (.iadd, 1) ∧
  decode (cM m_Slide_measure) 144 = .ok (.invokevirtual 39, 3) ∧
  invT 7 39 = some (m_Row_isShaky, 0) ∧
  nM m_Row_isShaky = 2 ∧
  oM m_Row_isShaky = 6 ∧
  rkM m_Row_isShaky = 2 ∧
  dM m_Row_isShaky = 0 ∧
  decode (cM m_Slide_measure) 147 = .ok (.ifCond .ne 12, 3) ∧
  am_okt 147 12 ∧
  am_tgt 147 12 = 159 ∧
  decode (cM m_Slide_measure) 150 = .ok (.aload_n 2, 1) ∧
  decode (cM m_Slide_measure) 151 = .ok (.iload 9, 2) ∧
  decode (cM m_Slide_measure) 153 = .ok (.invokevirtual 39, 3) ∧
  decode (cM m_Slide_measure) 156 = .ok (.ifCond .eq 7, 3) ∧
  am_okt 156 7 ∧
  am_tgt 156 7 = 163 ∧
  decode (cM m_Slide_measure) 159 = .ok (.iconst 1, 1) ∧
  decode (cM m_Slide_measure) 160 = .ok (.goto 10, 3) ∧
  am_okt 160 10 ∧
  am_tgt 160 10 = 170 ∧
  decode (cM m_Slide_measure) 163 = .ok (.iload 12, 2) ∧
  decode (cM m_Slide_measure) 165 = .ok (.iload 13, 2) ∧
  decode (cM m_Slide_measure) 167 = .ok (.invokestatic 43, 3) ∧
  invT 7 43 = some (m_Slide_likeness, 1) ∧
  nM m_Slide_likeness = 2 ∧
  oM m_Slide_likeness = 7 ∧
  rkM m_Slide_likeness = 1 ∧
  dM m_Slide_likeness = 0 ∧
  decode (cM m_Slide_measure) 170 = .ok (.iadd, 1) ∧
  decode (cM m_Slide_measure) 171 = .ok (.istore 6, 2) ∧
  decode (cM m_Slide_measure) 173 = .ok (.iinc 9 1, 3) ∧
  decode (cM m_Slide_measure) 176 = .ok (.goto (-135), 3) ∧
  am_okt 176 (-135) ∧
  am_tgt 176 (-135) = 41 ∧
  decode (cM m_Slide_measure) 179 = .ok (.aload_n 0, 1) ∧
  decode (cM m_Slide_measure) 180 = .ok (.iload 5, 2) ∧
  decode (cM m_Slide_measure) 182 = .ok (.iconst 1, 1) ∧
  decode (cM m_Slide_measure) 183 = .ok (.if_icmp .ge 7, 3) ∧
  am_okt 183 7 ∧
  am_tgt 183 7 = 190 ∧
  decode (cM m_Slide_measure) 186 = .ok (.iconst 0, 1) ∧
  decode (cM m_Slide_measure) 187 = .ok (.goto 13, 3) ∧
  am_okt 187 13 ∧
  am_tgt 187 13 = 200 ∧
  decode (cM m_Slide_measure) 190 = .ok (.iload 6, 2) ∧
  decode (cM m_Slide_measure) 192 = .ok (.bipush 100, 2) ∧
  decode (cM m_Slide_measure) 194 = .ok (.imul, 1) ∧
  decode (cM m_Slide_measure) 195 = .ok (.iconst 2, 1) ∧
  decode (cM m_Slide_measure) 196 = .ok (.iload 5, 2) ∧
  decode (cM m_Slide_measure) 198 = .ok (.imul, 1) ∧
  decode (cM m_Slide_measure) 199 = .ok (.idiv, 1) ∧
  decode (cM m_Slide_measure) 200 = .ok (.putfield 46, 3) ∧
  fldT 7 46 = some (7, 1, 0) ∧
  decode (cM m_Slide_measure) 203 = .ok (.aload_n 0, 1) ∧
  decode (cM m_Slide_measure) 204 = .ok (.aload_n 0, 1) ∧
  decode (cM m_Slide_measure) 205 = .ok (.getfield 9, 3) ∧
  decode (cM m_Slide_measure) 208 = .ok (.iconst 1, 1) ∧
  decode (cM m_Slide_measure) 209 = .ok (.if_icmp .ge 7, 3) ∧
  am_okt 209 7 ∧
  am_tgt 209 7 = 216 ∧
  decode (cM m_Slide_measure) 212 = .ok (.iconst 0, 1) ∧
  decode (cM m_Slide_measure) 213 = .ok (.goto 16, 3) ∧
  am_okt 213 16 ∧
  am_tgt 213 16 = 229 ∧
  decode (cM m_Slide_measure) 216 = .ok (.bipush 100, 2) ∧
  decode (cM m_Slide_measure) 218 = .ok (.iload 4, 2) ∧
  decode (cM m_Slide_measure) 220 = .ok (.bipush 25, 2) ∧
  decode (cM m_Slide_measure) 222 = .ok (.imul, 1) ∧
  decode (cM m_Slide_measure) 223 = .ok (.aload_n 0, 1) ∧
  decode (cM m_Slide_measure) 224 = .ok (.getfield 9, 3) ∧
  decode (cM m_Slide_measure) 227 = .ok (.idiv, 1) ∧
  decode (cM m_Slide_measure) 228 = .ok (.isub, 1) ∧
  decode (cM m_Slide_measure) 229 = .ok (.putfield 49, 3) ∧
  fldT 7 49 = some (7, 2, 0) ∧
  decode (cM m_Slide_measure) 232 = .ok (.aload_n 0, 1) ∧
  decode (cM m_Slide_measure) 233 = .ok (.iconst 2, 1) ∧
  decode (cM m_Slide_measure) 234 = .ok (.aload_n 0, 1) ∧
  decode (cM m_Slide_measure) 235 = .ok (.getfield 46, 3) ∧
  decode (cM m_Slide_measure) 238 = .ok (.imul, 1) ∧
  decode (cM m_Slide_measure) 239 = .ok (.aload_n 0, 1) ∧
  decode (cM m_Slide_measure) 240 = .ok (.getfield 49, 3) ∧
  decode (cM m_Slide_measure) 243 = .ok (.iadd, 1) ∧
  decode (cM m_Slide_measure) 244 = .ok (.iconst 3, 1) ∧
  decode (cM m_Slide_measure) 245 = .ok (.idiv, 1) ∧
  decode (cM m_Slide_measure) 246 = .ok (.putfield 52, 3) ∧
  fldT 7 52 = some (7, 3, 0) ∧
  decode (cM m_Slide_measure) 249 = .ok (.return_, 1) :=
  ⟨rfl, rfl, rfl, rfl, by decide +kernel, by decide +kernel, by decide +kernel, by decide +kernel, by decide +kernel, by decide +kernel, by decide +kernel, by decide +kernel, by decide +kernel, rfl, by decide +kernel, by decide +kernel, by decide +kernel, by decide +kernel, rfl, by decide +kernel, by decide +kernel, by decide +kernel, rfl, by decide +kernel, by decide +kernel, by decide +kernel, by decide +kernel, by decide +kernel, rfl, by decide +kernel, by decide +kernel, by decide +kernel, by decide +kernel, by decide +kernel, by decide +kernel, rfl, rfl, by decide +kernel, by decide +kernel, by decide +kernel, by decide +kernel, by decide +kernel, rfl, rfl, rfl, rfl, rfl, by decide +kernel, by decide +kernel, by decide +kernel, by decide +kernel, by decide +kernel, by decide +kernel, by decide +kernel, by decide +kernel, rfl, rfl, by decide +kernel, by decide +kernel, by decide +kernel, rfl, rfl, by decide +kernel, rfl, rfl, by decide +kernel, by decide +kernel, by decide +kernel, by decide +kernel, by decide +kernel, by decide +kernel, by decide +kernel, by decide +kernel, by decide +kernel, by decide +kernel, by decide +kernel, rfl, by decide +kernel, by decide +kernel, by decide +kernel, by decide +kernel, by decide +kernel, by decide +kernel, by decide +kernel, rfl, rfl, rfl, rfl, rfl, by decide +kernel, by decide +kernel, by decide +kernel, by decide +kernel, by decide +kernel, by decide +kernel, by decide +kernel, by decide +kernel, rfl, rfl, by decide +kernel, by decide +kernel, by decide +kernel, rfl, rfl, by decide +kernel, by decide +kernel, by decide +kernel, by decide +kernel, by decide +kernel, by decide +kernel, by decide +kernel, rfl, rfl, rfl, rfl, rfl, by decide +kernel, rfl, rfl, by decide +kernel, by decide +kernel, by decide +kernel, by decide +kernel, rfl, rfl, by decide +kernel, by decide +kernel, rfl, rfl, by decide +kernel, by decide +kernel, by decide +kernel, rfl, rfl, rfl, rfl, rfl, by decide +kernel, by decide +kernel, by decide +kernel, by decide +kernel, rfl, rfl, by decide +kernel, by decide +kernel, by decide +kernel, by decide +kernel, rfl, rfl, by decide +kernel, by decide +kernel, rfl, rfl, by decide +kernel, by decide +kernel, by decide +kernel, by decide +kernel, by decide +kernel, by decide +kernel, by decide +kernel, by decide +kernel, rfl, by decide +kernel, by decide +kernel, by decide +kernel, by decide +kernel, by decide +kernel, rfl, rfl, by decide +kernel, by decide +kernel, rfl, rfl, by decide +kernel, by decide +kernel, by decide +kernel, by decide +kernel, by decide +kernel, by decide +kernel, by decide +kernel, by decide +kernel, by decide +kernel, rfl, by decide +kernel, by decide +kernel, by decide +kernel, by decide +kernel, by decide +kernel, by decide +kernel, by decide +kernel, by decide +kernel, by decide +kernel, by decide +kernel, by decide +kernel, rfl, by decide +kernel⟩

set_option maxRecDepth 100000 in
set_option maxHeartbeats 4000000 in
theorem C_Slide_likeness : oM m_Slide_likeness = 7 ∧
  rkM m_Slide_likeness = 1 ∧
  dM m_Slide_likeness = 0 ∧
  lM m_Slide_likeness = 2 ∧
  decode (cM m_Slide_likeness) 0 = .ok (.iload_n 0, 1) ∧
  decode (cM m_Slide_likeness) 1 = .ok (.iload_n 1, 1) ∧
  decode (cM m_Slide_likeness) 2 = .ok (.if_icmp .ne 5, 3) ∧
  am_okt 2 5 ∧
  am_tgt 2 5 = 7 ∧
  decode (cM m_Slide_likeness) 5 = .ok (.iconst 2, 1) ∧
  decode (cM m_Slide_likeness) 6 = .ok (.ireturn, 1) ∧
  decode (cM m_Slide_likeness) 7 = .ok (.iload_n 0, 1) ∧
  decode (cM m_Slide_likeness) 8 = .ok (.ifCond .eq 7, 3) ∧
  am_okt 8 7 ∧
  am_tgt 8 7 = 15 ∧
  decode (cM m_Slide_likeness) 11 = .ok (.iload_n 1, 1) ∧
  decode (cM m_Slide_likeness) 12 = .ok (.ifCond .ne 7, 3) ∧
  am_okt 12 7 ∧
  am_tgt 12 7 = 19 ∧
  decode (cM m_Slide_likeness) 15 = .ok (.iconst 1, 1) ∧
  decode (cM m_Slide_likeness) 16 = .ok (.goto 4, 3) ∧
  am_okt 16 4 ∧
  am_tgt 16 4 = 20 ∧
  decode (cM m_Slide_likeness) 19 = .ok (.iconst 0, 1) ∧
  decode (cM m_Slide_likeness) 20 = .ok (.ireturn, 1) :=
  ⟨rfl, rfl, rfl, rfl, by decide +kernel, by decide +kernel, by decide +kernel, rfl, rfl, by decide +kernel, by decide +kernel, by decide +kernel, by decide +kernel, rfl, rfl, by decide +kernel, by decide +kernel, rfl, rfl, by decide +kernel, by decide +kernel, rfl, rfl, by decide +kernel, by decide +kernel⟩

set_option maxRecDepth 100000 in
set_option maxHeartbeats 4000000 in
theorem C_Timber_allWidths : oM m_Timber_allWidths = 9 ∧
  rkM m_Timber_allWidths = 1 ∧
  dM m_Timber_allWidths = 1 ∧
  lM m_Timber_allWidths = 3 ∧
  decode (cM m_Timber_allWidths) 0 = .ok (.iconst 0, 1) ∧
  decode (cM m_Timber_allWidths) 1 = .ok (.istore_n 1, 1) ∧
  decode (cM m_Timber_allWidths) 2 = .ok (.iconst 0, 1) ∧
  decode (cM m_Timber_allWidths) 3 = .ok (.istore_n 2, 1) ∧
  decode (cM m_Timber_allWidths) 4 = .ok (.iload_n 2, 1) ∧
  decode (cM m_Timber_allWidths) 5 = .ok (.aload_n 0, 1) ∧
  decode (cM m_Timber_allWidths) 6 = .ok (.getfield 19, 3) ∧
  fldT 9 19 = some (9, 2, 0) ∧
  decode (cM m_Timber_allWidths) 9 = .ok (.if_icmp .ge 17, 3) ∧
  am_okt 9 17 ∧
  am_tgt 9 17 = 26 ∧
  decode (cM m_Timber_allWidths) 12 = .ok (.iload_n 1, 1) ∧
  decode (cM m_Timber_allWidths) 13 = .ok (.aload_n 0, 1) ∧
  decode (cM m_Timber_allWidths) 14 = .ok (.iload_n 2, 1) ∧
  decode (cM m_Timber_allWidths) 15 = .ok (.invokevirtual 32, 3) ∧
  invT 9 32 = some (m_Timber_widthOf, 0) ∧
  nM m_Timber_widthOf = 2 ∧
  oM m_Timber_widthOf = 9 ∧
  rkM m_Timber_widthOf = 1 ∧
  dM m_Timber_widthOf = 0 ∧
  decode (cM m_Timber_allWidths) 18 = .ok (.iadd, 1) ∧
  decode (cM m_Timber_allWidths) 19 = .ok (.istore_n 1, 1) ∧
  decode (cM m_Timber_allWidths) 20 = .ok (.iinc 2 1, 3) ∧
  decode (cM m_Timber_allWidths) 23 = .ok (.goto (-19), 3) ∧
  am_okt 23 (-19) ∧
  am_tgt 23 (-19) = 4 ∧
  decode (cM m_Timber_allWidths) 26 = .ok (.iload_n 1, 1) ∧
  decode (cM m_Timber_allWidths) 27 = .ok (.ireturn, 1) :=
  ⟨rfl, rfl, rfl, rfl, by decide +kernel, by decide +kernel, by decide +kernel, by decide +kernel, by decide +kernel, by decide +kernel, by decide +kernel, rfl, by decide +kernel, rfl, rfl, by decide +kernel, by decide +kernel, by decide +kernel, by decide +kernel, rfl, rfl, rfl, rfl, rfl, by decide +kernel, by decide +kernel, by decide +kernel, by decide +kernel, rfl, rfl, by decide +kernel, by decide +kernel⟩

set_option maxRecDepth 100000 in
set_option maxHeartbeats 4000000 in
theorem C_Timber_widthOf : oM m_Timber_widthOf = 9 ∧
  rkM m_Timber_widthOf = 1 ∧
  dM m_Timber_widthOf = 0 ∧
  lM m_Timber_widthOf = 2 ∧
  decode (cM m_Timber_widthOf) 0 = .ok (.iload_n 1, 1) ∧
  decode (cM m_Timber_widthOf) 1 = .ok (.ifCond .lt 26, 3) ∧
  am_okt 1 26 ∧
  am_tgt 1 26 = 27 ∧
  decode (cM m_Timber_widthOf) 4 = .ok (.iload_n 1, 1) ∧
  decode (cM m_Timber_widthOf) 5 = .ok (.aload_n 0, 1) ∧
  decode (cM m_Timber_widthOf) 6 = .ok (.getfield 19, 3) ∧
  fldT 9 19 = some (9, 2, 0) ∧
  decode (cM m_Timber_widthOf) 9 = .ok (.if_icmp .ge 18, 3) ∧
  am_okt 9 18 ∧
  am_tgt 9 18 = 27 ∧
  decode (cM m_Timber_widthOf) 12 = .ok (.iload_n 1, 1) ∧
  decode (cM m_Timber_widthOf) 13 = .ok (.bipush 24, 2) ∧
  decode (cM m_Timber_widthOf) 15 = .ok (.if_icmp .ge 12, 3) ∧
  am_okt 15 12 ∧
  am_tgt 15 12 = 27 ∧
  decode (cM m_Timber_widthOf) 18 = .ok (.aload_n 0, 1) ∧
  decode (cM m_Timber_widthOf) 19 = .ok (.getfield 9, 3) ∧
  fldT 9 9 = some (9, 0, 2) ∧
  decode (cM m_Timber_widthOf) 22 = .ok (.iload_n 1, 1) ∧
  decode (cM m_Timber_widthOf) 23 = .ok (.iaload, 1) ∧
  decode (cM m_Timber_widthOf) 24 = .ok (.goto 4, 3) ∧
  am_okt 24 4 ∧
  am_tgt 24 4 = 28 ∧
  decode (cM m_Timber_widthOf) 27 = .ok (.iconst 0, 1) ∧
  decode (cM m_Timber_widthOf) 28 = .ok (.ireturn, 1) :=
  ⟨rfl, rfl, rfl, rfl, by decide +kernel, by decide +kernel, rfl, rfl, by decide +kernel, by decide +kernel, by decide +kernel, rfl, by decide +kernel, rfl, rfl, by decide +kernel, by decide +kernel, by decide +kernel, rfl, rfl, by decide +kernel, by decide +kernel, rfl, by decide +kernel, by decide +kernel, by decide +kernel, rfl, rfl, by decide +kernel, by decide +kernel⟩

set_option maxRecDepth 100000 in
set_option maxHeartbeats 4000000 in
theorem C_Timber_isDoubtful : oM m_Timber_isDoubtful = 9 ∧
  rkM m_Timber_isDoubtful = 2 ∧
  dM m_Timber_isDoubtful = 0 ∧
  lM m_Timber_isDoubtful = 2 ∧
  decode (cM m_Timber_isDoubtful) 0 = .ok (.iload_n 1, 1) ∧
  decode (cM m_Timber_isDoubtful) 1 = .ok (.ifCond .lt 30, 3) ∧
  am_okt 1 30 ∧
  am_tgt 1 30 = 31 ∧
  decode (cM m_Timber_isDoubtful) 4 = .ok (.iload_n 1, 1) ∧
  decode (cM m_Timber_isDoubtful) 5 = .ok (.aload_n 0, 1) ∧
  decode (cM m_Timber_isDoubtful) 6 = .ok (.getfield 19, 3) ∧
  fldT 9 19 = some (9, 2, 0) ∧
  decode (cM m_Timber_isDoubtful) 9 = .ok (.if_icmp .ge 22, 3) ∧
  am_okt 9 22 ∧
  am_tgt 9 22 = 31 ∧
  decode (cM m_Timber_isDoubtful) 12 = .ok (.iload_n 1, 1) ∧
  decode (cM m_Timber_isDoubtful) 13 = .ok (.bipush 24, 2) ∧
  decode (cM m_Timber_isDoubtful) 15 = .ok (.if_icmp .ge 16, 3) ∧
  am_okt 15 16 ∧
  am_tgt 15 16 = 31 ∧
  decode (cM m_Timber_isDoubtful) 18 = .ok (.aload_n 0, 1) ∧
  decode (cM m_Timber_isDoubtful) 19 = .ok (.getfield 15, 3) ∧
  fldT 9 15 = some (9, 1, 2) ∧
  decode (cM m_Timber_isDoubtful) 22 = .ok (.iload_n 1, 1) ∧
  decode (cM m_Timber_isDoubtful) 23 = .ok (.baload, 1) ∧
  decode (cM m_Timber_isDoubtful) 24 = .ok (.ifCond .eq 7, 3) ∧
  am_okt 24 7 ∧
  am_tgt 24 7 = 31 ∧
  decode (cM m_Timber_isDoubtful) 27 = .ok (.iconst 1, 1) ∧
  decode (cM m_Timber_isDoubtful) 28 = .ok (.goto 4, 3) ∧
  am_okt 28 4 ∧
  am_tgt 28 4 = 32 ∧
  decode (cM m_Timber_isDoubtful) 31 = .ok (.iconst 0, 1) ∧
  decode (cM m_Timber_isDoubtful) 32 = .ok (.ireturn, 1) :=
  ⟨rfl, rfl, rfl, rfl, by decide +kernel, by decide +kernel, rfl, rfl, by decide +kernel, by decide +kernel, by decide +kernel, rfl, by decide +kernel, rfl, rfl, by decide +kernel, by decide +kernel, by decide +kernel, rfl, rfl, by decide +kernel, by decide +kernel, rfl, by decide +kernel, by decide +kernel, by decide +kernel, rfl, rfl, by decide +kernel, by decide +kernel, rfl, rfl, by decide +kernel, by decide +kernel⟩

set_option maxRecDepth 100000 in
set_option maxHeartbeats 4000000 in
theorem C_Timber_canGain : oM m_Timber_canGain = 9 ∧
  rkM m_Timber_canGain = 2 ∧
  dM m_Timber_canGain = 1 ∧
  lM m_Timber_canGain = 2 ∧
  decode (cM m_Timber_canGain) 0 = .ok (.aload_n 0, 1) ∧
  decode (cM m_Timber_canGain) 1 = .ok (.getfield 19, 3) ∧
  fldT 9 19 = some (9, 2, 0) ∧
  decode (cM m_Timber_canGain) 4 = .ok (.bipush 24, 2) ∧
  decode (cM m_Timber_canGain) 6 = .ok (.if_icmp .ge 20, 3) ∧
  am_okt 6 20 ∧
  am_tgt 6 20 = 26 ∧
  decode (cM m_Timber_canGain) 9 = .ok (.iload_n 1, 1) ∧
  decode (cM m_Timber_canGain) 10 = .ok (.iconst 1, 1) ∧
  decode (cM m_Timber_canGain) 11 = .ok (.if_icmp .lt 15, 3) ∧
  am_okt 11 15 ∧
  am_tgt 11 15 = 26 ∧
  decode (cM m_Timber_canGain) 14 = .ok (.aload_n 0, 1) ∧
  decode (cM m_Timber_canGain) 15 = .ok (.iload_n 1, 1) ∧
  decode (cM m_Timber_canGain) 16 = .ok (.invokevirtual 42, 3) ∧
  invT 9 42 = some (m_Timber_has, 0) ∧
  nM m_Timber_has = 2 ∧
  oM m_Timber_has = 9 ∧
  rkM m_Timber_has = 2 ∧
  dM m_Timber_has = 0 ∧
  decode (cM m_Timber_canGain) 19 = .ok (.ifCond .eq 7, 3) ∧
  am_okt 19 7 ∧
  am_tgt 19 7 = 26 ∧
  decode (cM m_Timber_canGain) 22 = .ok (.iconst 1, 1) ∧
  decode (cM m_Timber_canGain) 23 = .ok (.goto 4, 3) ∧
  am_okt 23 4 ∧
  am_tgt 23 4 = 27 ∧
  decode (cM m_Timber_canGain) 26 = .ok (.iconst 0, 1) ∧
  decode (cM m_Timber_canGain) 27 = .ok (.ireturn, 1) :=
  ⟨rfl, rfl, rfl, rfl, by decide +kernel, by decide +kernel, rfl, by decide +kernel, by decide +kernel, rfl, rfl, by decide +kernel, by decide +kernel, by decide +kernel, rfl, rfl, by decide +kernel, by decide +kernel, by decide +kernel, rfl, rfl, rfl, rfl, rfl, by decide +kernel, rfl, rfl, by decide +kernel, by decide +kernel, rfl, rfl, by decide +kernel, by decide +kernel⟩

set_option maxRecDepth 100000 in
set_option maxHeartbeats 4000000 in
theorem C_Timber_has : oM m_Timber_has = 9 ∧
  rkM m_Timber_has = 2 ∧
  dM m_Timber_has = 0 ∧
  lM m_Timber_has = 2 ∧
  decode (cM m_Timber_has) 0 = .ok (.iload_n 1, 1) ∧
  decode (cM m_Timber_has) 1 = .ok (.ifCond .lt 21, 3) ∧
  am_okt 1 21 ∧
  am_tgt 1 21 = 22 ∧
  decode (cM m_Timber_has) 4 = .ok (.iload_n 1, 1) ∧
  decode (cM m_Timber_has) 5 = .ok (.aload_n 0, 1) ∧
  decode (cM m_Timber_has) 6 = .ok (.getfield 19, 3) ∧
  fldT 9 19 = some (9, 2, 0) ∧
  decode (cM m_Timber_has) 9 = .ok (.if_icmp .ge 13, 3) ∧
  am_okt 9 13 ∧
  am_tgt 9 13 = 22 ∧
  decode (cM m_Timber_has) 12 = .ok (.iload_n 1, 1) ∧
  decode (cM m_Timber_has) 13 = .ok (.bipush 24, 2) ∧
  decode (cM m_Timber_has) 15 = .ok (.if_icmp .ge 7, 3) ∧
  am_okt 15 7 ∧
  am_tgt 15 7 = 22 ∧
  decode (cM m_Timber_has) 18 = .ok (.iconst 1, 1) ∧
  decode (cM m_Timber_has) 19 = .ok (.goto 4, 3) ∧
  am_okt 19 4 ∧
  am_tgt 19 4 = 23 ∧
  decode (cM m_Timber_has) 22 = .ok (.iconst 0, 1) ∧
  decode (cM m_Timber_has) 23 = .ok (.ireturn, 1) :=
  ⟨rfl, rfl, rfl, rfl, by decide +kernel, by decide +kernel, rfl, rfl, by decide +kernel, by decide +kernel, by decide +kernel, rfl, by decide +kernel, rfl, rfl, by decide +kernel, by decide +kernel, by decide +kernel, rfl, rfl, by decide +kernel, by decide +kernel, rfl, rfl, by decide +kernel, by decide +kernel⟩

set_option maxRecDepth 100000 in
set_option maxHeartbeats 4000000 in
theorem C_Timber_canLose : oM m_Timber_canLose = 9 ∧
  rkM m_Timber_canLose = 2 ∧
  dM m_Timber_canLose = 1 ∧
  lM m_Timber_canLose = 2 ∧
  decode (cM m_Timber_canLose) 0 = .ok (.aload_n 0, 1) ∧
  decode (cM m_Timber_canLose) 1 = .ok (.getfield 19, 3) ∧
  fldT 9 19 = some (9, 2, 0) ∧
  decode (cM m_Timber_canLose) 4 = .ok (.iconst 3, 1) ∧
  decode (cM m_Timber_canLose) 5 = .ok (.if_icmp .le 15, 3) ∧
  am_okt 5 15 ∧
  am_tgt 5 15 = 20 ∧
  decode (cM m_Timber_canLose) 8 = .ok (.aload_n 0, 1) ∧
  decode (cM m_Timber_canLose) 9 = .ok (.iload_n 1, 1) ∧
  decode (cM m_Timber_canLose) 10 = .ok (.invokevirtual 46, 3) ∧
  invT 9 46 = some (m_Timber_isDoubtful, 0) ∧
  nM m_Timber_isDoubtful = 2 ∧
  oM m_Timber_isDoubtful = 9 ∧
  rkM m_Timber_isDoubtful = 2 ∧
  dM m_Timber_isDoubtful = 0 ∧
  decode (cM m_Timber_canLose) 13 = .ok (.ifCond .eq 7, 3) ∧
  am_okt 13 7 ∧
  am_tgt 13 7 = 20 ∧
  decode (cM m_Timber_canLose) 16 = .ok (.iconst 1, 1) ∧
  decode (cM m_Timber_canLose) 17 = .ok (.goto 4, 3) ∧
  am_okt 17 4 ∧
  am_tgt 17 4 = 21 ∧
  decode (cM m_Timber_canLose) 20 = .ok (.iconst 0, 1) ∧
  decode (cM m_Timber_canLose) 21 = .ok (.ireturn, 1) :=
  ⟨rfl, rfl, rfl, rfl, by decide +kernel, by decide +kernel, rfl, by decide +kernel, by decide +kernel, rfl, rfl, by decide +kernel, by decide +kernel, by decide +kernel, rfl, rfl, rfl, rfl, rfl, by decide +kernel, rfl, rfl, by decide +kernel, by decide +kernel, rfl, rfl, by decide +kernel, by decide +kernel⟩

set_option maxRecDepth 100000 in
set_option maxHeartbeats 4000000 in
theorem C_Timber_insertRing : oM m_Timber_insertRing = 9 ∧
  rkM m_Timber_insertRing = 0 ∧
  dM m_Timber_insertRing = 0 ∧
  lM m_Timber_insertRing = 4 ∧
  decode (cM m_Timber_insertRing) 0 = .ok (.iload_n 1, 1) ∧
  decode (cM m_Timber_insertRing) 1 = .ok (.ifCond .lt 20, 3) ∧
  am_okt 1 20 ∧
  am_tgt 1 20 = 21 ∧
  decode (cM m_Timber_insertRing) 4 = .ok (.iload_n 1, 1) ∧
  decode (cM m_Timber_insertRing) 5 = .ok (.aload_n 0, 1) ∧
  decode (cM m_Timber_insertRing) 6 = .ok (.getfield 19, 3) ∧
  fldT 9 19 = some (9, 2, 0) ∧
  decode (cM m_Timber_insertRing) 9 = .ok (.if_icmp .gt 12, 3) ∧
  am_okt 9 12 ∧
  am_tgt 9 12 = 21 ∧
  decode (cM m_Timber_insertRing) 12 = .ok (.aload_n 0, 1) ∧
  decode (cM m_Timber_insertRing) 13 = .ok (.getfield 19, 3) ∧
  decode (cM m_Timber_insertRing) 16 = .ok (.bipush 24, 2) ∧
  decode (cM m_Timber_insertRing) 18 = .ok (.if_icmp .lt 4, 3) ∧
  am_okt 18 4 ∧
  am_tgt 18 4 = 22 ∧
  decode (cM m_Timber_insertRing) 21 = .ok (.return_, 1) ∧
  decode (cM m_Timber_insertRing) 22 = .ok (.aload_n 0, 1) ∧
  decode (cM m_Timber_insertRing) 23 = .ok (.getfield 19, 3) ∧
  decode (cM m_Timber_insertRing) 26 = .ok (.istore_n 3, 1) ∧
  decode (cM m_Timber_insertRing) 27 = .ok (.iload_n 3, 1) ∧
  decode (cM m_Timber_insertRing) 28 = .ok (.iload_n 1, 1) ∧
  decode (cM m_Timber_insertRing) 29 = .ok (.if_icmp .le 37, 3) ∧
  am_okt 29 37 ∧
  am_tgt 29 37 = 66 ∧
  decode (cM m_Timber_insertRing) 32 = .ok (.aload_n 0, 1) ∧
  decode (cM m_Timber_insertRing) 33 = .ok (.getfield 9, 3) ∧
  fldT 9 9 = some (9, 0, 2) ∧
  decode (cM m_Timber_insertRing) 36 = .ok (.iload_n 3, 1) ∧
  decode (cM m_Timber_insertRing) 37 = .ok (.aload_n 0, 1) ∧
  decode (cM m_Timber_insertRing) 38 = .ok (.getfield 9, 3) ∧
  decode (cM m_Timber_insertRing) 41 = .ok (.iload_n 3, 1) ∧
  decode (cM m_Timber_insertRing) 42 = .ok (.iconst 1, 1) ∧
  decode (cM m_Timber_insertRing) 43 = .ok (.isub, 1) ∧
  decode (cM m_Timber_insertRing) 44 = .ok (.iaload, 1) ∧
  decode (cM m_Timber_insertRing) 45 = .ok (.iastore, 1) ∧
  decode (cM m_Timber_insertRing) 46 = .ok (.aload_n 0, 1) ∧
  decode (cM m_Timber_insertRing) 47 = .ok (.getfield 15, 3) ∧
  fldT 9 15 = some (9, 1, 2) ∧
  decode (cM m_Timber_insertRing) 50 = .ok (.iload_n 3, 1) ∧
  decode (cM m_Timber_insertRing) 51 = .ok (.aload_n 0, 1) ∧
  decode (cM m_Timber_insertRing) 52 = .ok (.getfield 15, 3) ∧
  decode (cM m_Timber_insertRing) 55 = .ok (.iload_n 3, 1) ∧
  decode (cM m_Timber_insertRing) 56 = .ok (.iconst 1, 1) ∧
  decode (cM m_Timber_insertRing) 57 = .ok (.isub, 1) ∧
  decode (cM m_Timber_insertRing) 58 = .ok (.baload, 1) ∧
  decode (cM m_Timber_insertRing) 59 = .ok (.bastore, 1) ∧
  decode (cM m_Timber_insertRing) 60 = .ok (.iinc 3 (-1), 3) ∧
  decode (cM m_Timber_insertRing) 63 = .ok (.goto (-36), 3) ∧
  am_okt 63 (-36) ∧
  am_tgt 63 (-36) = 27 ∧
  decode (cM m_Timber_insertRing) 66 = .ok (.aload_n 0, 1) ∧
  decode (cM m_Timber_insertRing) 67 = .ok (.getfield 9, 3) ∧
  decode (cM m_Timber_insertRing) 70 = .ok (.iload_n 1, 1) ∧
  decode (cM m_Timber_insertRing) 71 = .ok (.iload_n 2, 1) ∧
  decode (cM m_Timber_insertRing) 72 = .ok (.iastore, 1) ∧
  decode (cM m_Timber_insertRing) 73 = .ok (.aload_n 0, 1) ∧
  decode (cM m_Timber_insertRing) 74 = .ok (.getfield 15, 3) ∧
  decode (cM m_Timber_insertRing) 77 = .ok (.iload_n 1, 1) ∧
  decode (cM m_Timber_insertRing) 78 = .ok (.iconst 1, 1) ∧
  decode (cM m_Timber_insertRing) 79 = .ok (.bastore, 1) ∧
  decode (cM m_Timber_insertRing) 80 = .ok (.aload_n 0, 1) ∧
  decode (cM m_Timber_insertRing) 81 = .ok (.dup, 1) ∧
  decode (cM m_Timber_insertRing) 82 = .ok (.getfield 19, 3) ∧
  decode (cM m_Timber_insertRing) 85 = .ok (.iconst 1, 1) ∧
  decode (cM m_Timber_insertRing) 86 = .ok (.iadd, 1) ∧
  decode (cM m_Timber_insertRing) 87 = .ok (.putfield 19, 3) ∧
  decode (cM m_Timber_insertRing) 90 = .ok (.return_, 1) :=
  ⟨rfl, rfl, rfl, rfl, by decide +kernel, by decide +kernel, rfl, rfl, by decide +kernel, by decide +kernel, by decide +kernel, rfl, by decide +kernel, rfl, rfl, by decide +kernel, by decide +kernel, by decide +kernel, by decide +kernel, rfl, rfl, by decide +kernel, by decide +kernel, by decide +kernel, by decide +kernel, by decide +kernel, by decide +kernel, by decide +kernel, rfl, rfl, by decide +kernel, by decide +kernel, rfl, by decide +kernel, by decide +kernel, by decide +kernel, by decide +kernel, by decide +kernel, by decide +kernel, by decide +kernel, by decide +kernel, by decide +kernel, by decide +kernel, rfl, by decide +kernel, by decide +kernel, by decide +kernel, by decide +kernel, by decide +kernel, by decide +kernel, by decide +kernel, by decide +kernel, by decide +kernel, by decide +kernel, rfl, rfl, by decide +kernel, by decide +kernel, by decide +kernel, by decide +kernel, by decide +kernel, by decide +kernel, by decide +kernel, by decide +kernel, by decide +kernel, by decide +kernel, by decide +kernel, by decide +kernel, by decide +kernel, by decide +kernel, by decide +kernel, by decide +kernel, by decide +kernel⟩

set_option maxRecDepth 100000 in
set_option maxHeartbeats 4000000 in
theorem C_Timber_removeRing : oM m_Timber_removeRing = 9 ∧
  rkM m_Timber_removeRing = 0 ∧
  dM m_Timber_removeRing = 1 ∧
  lM m_Timber_removeRing = 3 ∧
  decode (cM m_Timber_removeRing) 0 = .ok (.aload_n 0, 1) ∧
  decode (cM m_Timber_removeRing) 1 = .ok (.iload_n 1, 1) ∧
  decode (cM m_Timber_removeRing) 2 = .ok (.invokevirtual 42, 3) ∧
  invT 9 42 = some (m_Timber_has, 0) ∧
  nM m_Timber_has = 2 ∧
  oM m_Timber_has = 9 ∧
  rkM m_Timber_has = 2 ∧
  dM m_Timber_has = 0 ∧
  decode (cM m_Timber_removeRing) 5 = .ok (.ifCond .ne 4, 3) ∧
  am_okt 5 4 ∧
  am_tgt 5 4 = 9 ∧
  decode (cM m_Timber_removeRing) 8 = .ok (.return_, 1) ∧
  decode (cM m_Timber_removeRing) 9 = .ok (.iload_n 1, 1) ∧
  decode (cM m_Timber_removeRing) 10 = .ok (.iconst 1, 1) ∧
  decode (cM m_Timber_removeRing) 11 = .ok (.iadd, 1) ∧
  decode (cM m_Timber_removeRing) 12 = .ok (.istore_n 2, 1) ∧
  decode (cM m_Timber_removeRing) 13 = .ok (.iload_n 2, 1) ∧
  decode (cM m_Timber_removeRing) 14 = .ok (.aload_n 0, 1) ∧
  decode (cM m_Timber_removeRing) 15 = .ok (.getfield 19, 3) ∧
  fldT 9 19 = some (9, 2, 0) ∧
  decode (cM m_Timber_removeRing) 18 = .ok (.if_icmp .ge 43, 3) ∧
  am_okt 18 43 ∧
  am_tgt 18 43 = 61 ∧
  decode (cM m_Timber_removeRing) 21 = .ok (.iload_n 2, 1) ∧
  decode (cM m_Timber_removeRing) 22 = .ok (.bipush 24, 2) ∧
  decode (cM m_Timber_removeRing) 24 = .ok (.if_icmp .ge 37, 3) ∧
  am_okt 24 37 ∧
  am_tgt 24 37 = 61 ∧
  decode (cM m_Timber_removeRing) 27 = .ok (.aload_n 0, 1) ∧
  decode (cM m_Timber_removeRing) 28 = .ok (.getfield 9, 3) ∧
  fldT 9 9 = some (9, 0, 2) ∧
  decode (cM m_Timber_removeRing) 31 = .ok (.iload_n 2, 1) ∧
  decode (cM m_Timber_removeRing) 32 = .ok (.iconst 1, 1) ∧
  decode (cM m_Timber_removeRing) 33 = .ok (.isub, 1) ∧
  decode (cM m_Timber_removeRing) 34 = .ok (.aload_n 0, 1) ∧
  decode (cM m_Timber_removeRing) 35 = .ok (.getfield 9, 3) ∧
  decode (cM m_Timber_removeRing) 38 = .ok (.iload_n 2, 1) ∧
  decode (cM m_Timber_removeRing) 39 = .ok (.iaload, 1) ∧
  decode (cM m_Timber_removeRing) 40 = .ok (.iastore, 1) ∧
  decode (cM m_Timber_removeRing) 41 = .ok (.aload_n 0, 1) ∧
  decode (cM m_Timber_removeRing) 42 = .ok (.getfield 15, 3) ∧
  fldT 9 15 = some (9, 1, 2) ∧
  decode (cM m_Timber_removeRing) 45 = .ok (.iload_n 2, 1) ∧
  decode (cM m_Timber_removeRing) 46 = .ok (.iconst 1, 1) ∧
  decode (cM m_Timber_removeRing) 47 = .ok (.isub, 1) ∧
  decode (cM m_Timber_removeRing) 48 = .ok (.aload_n 0, 1) ∧
  decode (cM m_Timber_removeRing) 49 = .ok (.getfield 15, 3) ∧
  decode (cM m_Timber_removeRing) 52 = .ok (.iload_n 2, 1) ∧
  decode (cM m_Timber_removeRing) 53 = .ok (.baload, 1) ∧
  decode (cM m_Timber_removeRing) 54 = .ok (.bastore, 1) ∧
  decode (cM m_Timber_removeRing) 55 = .ok (.iinc 2 1, 3) ∧
  decode (cM m_Timber_removeRing) 58 = .ok (.goto (-45), 3) ∧
  am_okt 58 (-45) ∧
  am_tgt 58 (-45) = 13 ∧
  decode (cM m_Timber_removeRing) 61 = .ok (.aload_n 0, 1) ∧
  decode (cM m_Timber_removeRing) 62 = .ok (.dup, 1) ∧
  decode (cM m_Timber_removeRing) 63 = .ok (.getfield 19, 3) ∧
  decode (cM m_Timber_removeRing) 66 = .ok (.iconst 1, 1) ∧
  decode (cM m_Timber_removeRing) 67 = .ok (.isub, 1) ∧
  decode (cM m_Timber_removeRing) 68 = .ok (.putfield 19, 3) ∧
  decode (cM m_Timber_removeRing) 71 = .ok (.return_, 1) :=
  ⟨rfl, rfl, rfl, rfl, by decide +kernel, by decide +kernel, by decide +kernel, rfl, rfl, rfl, rfl, rfl, by decide +kernel, rfl, rfl, by decide +kernel, by decide +kernel, by decide +kernel, by decide +kernel, by decide +kernel, by decide +kernel, by decide +kernel, by decide +kernel, rfl, by decide +kernel, rfl, rfl, by decide +kernel, by decide +kernel, by decide +kernel, rfl, rfl, by decide +kernel, by decide +kernel, rfl, by decide +kernel, by decide +kernel, by decide +kernel, by decide +kernel, by decide +kernel, by decide +kernel, by decide +kernel, by decide +kernel, by decide +kernel, by decide +kernel, rfl, by decide +kernel, by decide +kernel, by decide +kernel, by decide +kernel, by decide +kernel, by decide +kernel, by decide +kernel, by decide +kernel, by decide +kernel, by decide +kernel, rfl, rfl, by decide +kernel, by decide +kernel, by decide +kernel, by decide +kernel, by decide +kernel, by decide +kernel, by decide +kernel⟩

set_option maxRecDepth 100000 in
set_option maxHeartbeats 4000000 in
theorem C_Timber_turnDoubt : oM m_Timber_turnDoubt = 9 ∧
  rkM m_Timber_turnDoubt = 0 ∧
  dM m_Timber_turnDoubt = 1 ∧
  lM m_Timber_turnDoubt = 2 ∧
  decode (cM m_Timber_turnDoubt) 0 = .ok (.aload_n 0, 1) ∧
  decode (cM m_Timber_turnDoubt) 1 = .ok (.iload_n 1, 1) ∧
  decode (cM m_Timber_turnDoubt) 2 = .ok (.invokevirtual 42, 3) ∧
  invT 9 42 = some (m_Timber_has, 0) ∧
  nM m_Timber_has = 2 ∧
  oM m_Timber_has = 9 ∧
  rkM m_Timber_has = 2 ∧
  dM m_Timber_has = 0 ∧
  decode (cM m_Timber_turnDoubt) 5 = .ok (.ifCond .eq 23, 3) ∧
  am_okt 5 23 ∧
  am_tgt 5 23 = 28 ∧
  decode (cM m_Timber_turnDoubt) 8 = .ok (.aload_n 0, 1) ∧
  decode (cM m_Timber_turnDoubt) 9 = .ok (.getfield 15, 3) ∧
  fldT 9 15 = some (9, 1, 2) ∧
  decode (cM m_Timber_turnDoubt) 12 = .ok (.iload_n 1, 1) ∧
  decode (cM m_Timber_turnDoubt) 13 = .ok (.aload_n 0, 1) ∧
  decode (cM m_Timber_turnDoubt) 14 = .ok (.getfield 15, 3) ∧
  decode (cM m_Timber_turnDoubt) 17 = .ok (.iload_n 1, 1) ∧
  decode (cM m_Timber_turnDoubt) 18 = .ok (.baload, 1) ∧
  decode (cM m_Timber_turnDoubt) 19 = .ok (.ifCond .ne 7, 3) ∧
  am_okt 19 7 ∧
  am_tgt 19 7 = 26 ∧
  decode (cM m_Timber_turnDoubt) 22 = .ok (.iconst 1, 1) ∧
  decode (cM m_Timber_turnDoubt) 23 = .ok (.goto 4, 3) ∧
  am_okt 23 4 ∧
  am_tgt 23 4 = 27 ∧
  decode (cM m_Timber_turnDoubt) 26 = .ok (.iconst 0, 1) ∧
  decode (cM m_Timber_turnDoubt) 27 = .ok (.bastore, 1) ∧
  decode (cM m_Timber_turnDoubt) 28 = .ok (.return_, 1) :=
  ⟨rfl, rfl, rfl, rfl, by decide +kernel, by decide +kernel, by decide +kernel, rfl, rfl, rfl, rfl, rfl, by decide +kernel, rfl, rfl, by decide +kernel, by decide +kernel, rfl, by decide +kernel, by decide +kernel, by decide +kernel, by decide +kernel, by decide +kernel, by decide +kernel, rfl, rfl, by decide +kernel, by decide +kernel, rfl, rfl, by decide +kernel, by decide +kernel, by decide +kernel⟩

set_option maxRecDepth 100000 in
set_option maxHeartbeats 4000000 in
theorem C_Timber_copyFrom : oM m_Timber_copyFrom = 9 ∧
  rkM m_Timber_copyFrom = 0 ∧
  dM m_Timber_copyFrom = 0 ∧
  lM m_Timber_copyFrom = 3 ∧
  decode (cM m_Timber_copyFrom) 0 = .ok (.iconst 0, 1) ∧
  decode (cM m_Timber_copyFrom) 1 = .ok (.istore_n 2, 1) ∧
  decode (cM m_Timber_copyFrom) 2 = .ok (.iload_n 2, 1) ∧
  decode (cM m_Timber_copyFrom) 3 = .ok (.bipush 24, 2) ∧
  decode (cM m_Timber_copyFrom) 5 = .ok (.if_icmp .ge 33, 3) ∧
  am_okt 5 33 ∧
  am_tgt 5 33 = 38 ∧
  decode (cM m_Timber_copyFrom) 8 = .ok (.aload_n 0, 1) ∧
  decode (cM m_Timber_copyFrom) 9 = .ok (.getfield 9, 3) ∧
  fldT 9 9 = some (9, 0, 2) ∧
  decode (cM m_Timber_copyFrom) 12 = .ok (.iload_n 2, 1) ∧
  decode (cM m_Timber_copyFrom) 13 = .ok (.aload_n 1, 1) ∧
  decode (cM m_Timber_copyFrom) 14 = .ok (.getfield 9, 3) ∧
  decode (cM m_Timber_copyFrom) 17 = .ok (.iload_n 2, 1) ∧
  decode (cM m_Timber_copyFrom) 18 = .ok (.iaload, 1) ∧
  decode (cM m_Timber_copyFrom) 19 = .ok (.iastore, 1) ∧
  decode (cM m_Timber_copyFrom) 20 = .ok (.aload_n 0, 1) ∧
  decode (cM m_Timber_copyFrom) 21 = .ok (.getfield 15, 3) ∧
  fldT 9 15 = some (9, 1, 2) ∧
  decode (cM m_Timber_copyFrom) 24 = .ok (.iload_n 2, 1) ∧
  decode (cM m_Timber_copyFrom) 25 = .ok (.aload_n 1, 1) ∧
  decode (cM m_Timber_copyFrom) 26 = .ok (.getfield 15, 3) ∧
  decode (cM m_Timber_copyFrom) 29 = .ok (.iload_n 2, 1) ∧
  decode (cM m_Timber_copyFrom) 30 = .ok (.baload, 1) ∧
  decode (cM m_Timber_copyFrom) 31 = .ok (.bastore, 1) ∧
  decode (cM m_Timber_copyFrom) 32 = .ok (.iinc 2 1, 3) ∧
  decode (cM m_Timber_copyFrom) 35 = .ok (.goto (-33), 3) ∧
  am_okt 35 (-33) ∧
  am_tgt 35 (-33) = 2 ∧
  decode (cM m_Timber_copyFrom) 38 = .ok (.aload_n 0, 1) ∧
  decode (cM m_Timber_copyFrom) 39 = .ok (.aload_n 1, 1) ∧
  decode (cM m_Timber_copyFrom) 40 = .ok (.getfield 19, 3) ∧
  fldT 9 19 = some (9, 2, 0) ∧
  decode (cM m_Timber_copyFrom) 43 = .ok (.putfield 19, 3) ∧
  decode (cM m_Timber_copyFrom) 46 = .ok (.aload_n 0, 1) ∧
  decode (cM m_Timber_copyFrom) 47 = .ok (.aload_n 1, 1) ∧
  decode (cM m_Timber_copyFrom) 48 = .ok (.getfield 23, 3) ∧
  fldT 9 23 = some (9, 3, 0) ∧
  decode (cM m_Timber_copyFrom) 51 = .ok (.putfield 23, 3) ∧
  decode (cM m_Timber_copyFrom) 54 = .ok (.aload_n 0, 1) ∧
  decode (cM m_Timber_copyFrom) 55 = .ok (.aload_n 1, 1) ∧
  decode (cM m_Timber_copyFrom) 56 = .ok (.getfield 26, 3) ∧
  fldT 9 26 = some (9, 4, 0) ∧
  decode (cM m_Timber_copyFrom) 59 = .ok (.putfield 26, 3) ∧
  decode (cM m_Timber_copyFrom) 62 = .ok (.aload_n 0, 1) ∧
  decode (cM m_Timber_copyFrom) 63 = .ok (.aload_n 1, 1) ∧
  decode (cM m_Timber_copyFrom) 64 = .ok (.getfield 29, 3) ∧
  fldT 9 29 = some (9, 5, 0) ∧
  decode (cM m_Timber_copyFrom) 67 = .ok (.putfield 29, 3) ∧
  decode (cM m_Timber_copyFrom) 70 = .ok (.return_, 1) :=
  ⟨rfl, rfl, rfl, rfl, by decide +kernel, by decide +kernel, by decide +kernel, by decide +kernel, by decide +kernel, rfl, rfl, by decide +kernel, by decide +kernel, rfl, by decide +kernel, by decide +kernel, by decide +kernel, by decide +kernel, by decide +kernel, by decide +kernel, by decide +kernel, by decide +kernel, rfl, by decide +kernel, by decide +kernel, by decide +kernel, by decide +kernel, by decide +kernel, by decide +kernel, by decide +kernel, by decide +kernel, rfl, rfl, by decide +kernel, by decide +kernel, by decide +kernel, rfl, by decide +kernel, by decide +kernel, by decide +kernel, by decide +kernel, rfl, by decide +kernel, by decide +kernel, by decide +kernel, by decide +kernel, rfl, by decide +kernel, by decide +kernel, by decide +kernel, by decide +kernel, rfl, by decide +kernel, by decide +kernel⟩

set_option maxRecDepth 100000 in
set_option maxHeartbeats 4000000 in
theorem C_Timber_begin : oM m_Timber_begin = 9 ∧
  rkM m_Timber_begin = 0 ∧
  dM m_Timber_begin = 0 ∧
  lM m_Timber_begin = 3 ∧
  decode (cM m_Timber_begin) 0 = .ok (.aload_n 0, 1) ∧
  decode (cM m_Timber_begin) 1 = .ok (.iconst 0, 1) ∧
  decode (cM m_Timber_begin) 2 = .ok (.putfield 19, 3) ∧
  fldT 9 19 = some (9, 2, 0) ∧
  decode (cM m_Timber_begin) 5 = .ok (.aload_n 0, 1) ∧
  decode (cM m_Timber_begin) 6 = .ok (.iload_n 1, 1) ∧
  decode (cM m_Timber_begin) 7 = .ok (.putfield 23, 3) ∧
  fldT 9 23 = some (9, 3, 0) ∧
  decode (cM m_Timber_begin) 10 = .ok (.aload_n 0, 1) ∧
  decode (cM m_Timber_begin) 11 = .ok (.iload_n 2, 1) ∧
  decode (cM m_Timber_begin) 12 = .ok (.putfield 26, 3) ∧
  fldT 9 26 = some (9, 4, 0) ∧
  decode (cM m_Timber_begin) 15 = .ok (.aload_n 0, 1) ∧
  decode (cM m_Timber_begin) 16 = .ok (.iconst 0, 1) ∧
  decode (cM m_Timber_begin) 17 = .ok (.putfield 29, 3) ∧
  fldT 9 29 = some (9, 5, 0) ∧
  decode (cM m_Timber_begin) 20 = .ok (.return_, 1) :=
  ⟨rfl, rfl, rfl, rfl, by decide +kernel, by decide +kernel, by decide +kernel, rfl, by decide +kernel, by decide +kernel, by decide +kernel, rfl, by decide +kernel, by decide +kernel, by decide +kernel, rfl, by decide +kernel, by decide +kernel, by decide +kernel, rfl, by decide +kernel⟩

set_option maxRecDepth 100000 in
set_option maxHeartbeats 4000000 in
theorem C_Timber_addRing : oM m_Timber_addRing = 9 ∧
  rkM m_Timber_addRing = 0 ∧
  dM m_Timber_addRing = 0 ∧
  lM m_Timber_addRing = 3 ∧
  decode (cM m_Timber_addRing) 0 = .ok (.aload_n 0, 1) ∧
  decode (cM m_Timber_addRing) 1 = .ok (.getfield 19, 3) ∧
  fldT 9 19 = some (9, 2, 0) ∧
  decode (cM m_Timber_addRing) 4 = .ok (.ifCond .lt 42, 3) ∧
  am_okt 4 42 ∧
  am_tgt 4 42 = 46 ∧
  decode (cM m_Timber_addRing) 7 = .ok (.aload_n 0, 1) ∧
  decode (cM m_Timber_addRing) 8 = .ok (.getfield 19, 3) ∧
  decode (cM m_Timber_addRing) 11 = .ok (.bipush 24, 2) ∧
  decode (cM m_Timber_addRing) 13 = .ok (.if_icmp .ge 33, 3) ∧
  am_okt 13 33 ∧
  am_tgt 13 33 = 46 ∧
  decode (cM m_Timber_addRing) 16 = .ok (.aload_n 0, 1) ∧
  decode (cM m_Timber_addRing) 17 = .ok (.getfield 9, 3) ∧
  fldT 9 9 = some (9, 0, 2) ∧
  decode (cM m_Timber_addRing) 20 = .ok (.aload_n 0, 1) ∧
  decode (cM m_Timber_addRing) 21 = .ok (.getfield 19, 3) ∧
  decode (cM m_Timber_addRing) 24 = .ok (.iload_n 1, 1) ∧
  decode (cM m_Timber_addRing) 25 = .ok (.iastore, 1) ∧
  decode (cM m_Timber_addRing) 26 = .ok (.aload_n 0, 1) ∧
  decode (cM m_Timber_addRing) 27 = .ok (.getfield 15, 3) ∧
  fldT 9 15 = some (9, 1, 2) ∧
  decode (cM m_Timber_addRing) 30 = .ok (.aload_n 0, 1) ∧
  decode (cM m_Timber_addRing) 31 = .ok (.getfield 19, 3) ∧
  decode (cM m_Timber_addRing) 34 = .ok (.iload_n 2, 1) ∧
  decode (cM m_Timber_addRing) 35 = .ok (.bastore, 1) ∧
  decode (cM m_Timber_addRing) 36 = .ok (.aload_n 0, 1) ∧
  decode (cM m_Timber_addRing) 37 = .ok (.dup, 1) ∧
  decode (cM m_Timber_addRing) 38 = .ok (.getfield 19, 3) ∧
  decode (cM m_Timber_addRing) 41 = .ok (.iconst 1, 1) ∧
  decode (cM m_Timber_addRing) 42 = .ok (.iadd, 1) ∧
  decode (cM m_Timber_addRing) 43 = .ok (.putfield 19, 3) ∧
  decode (cM m_Timber_addRing) 46 = .ok (.return_, 1) :=
  ⟨rfl, rfl, rfl, rfl, by decide +kernel, by decide +kernel, rfl, by decide +kernel, rfl, rfl, by decide +kernel, by decide +kernel, by decide +kernel, by decide +kernel, rfl, rfl, by decide +kernel, by decide +kernel, rfl, by decide +kernel, by decide +kernel, by decide +kernel, by decide +kernel, by decide +kernel, by decide +kernel, rfl, by decide +kernel, by decide +kernel, by decide +kernel, by decide +kernel, by decide +kernel, by decide +kernel, by decide +kernel, by decide +kernel, by decide +kernel, by decide +kernel, by decide +kernel⟩

set_option maxRecDepth 100000 in
set_option maxHeartbeats 4000000 in
theorem C_Timber_stepOf : oM m_Timber_stepOf = 9 ∧
  rkM m_Timber_stepOf = 1 ∧
  dM m_Timber_stepOf = 1 ∧
  lM m_Timber_stepOf = 2 ∧
  decode (cM m_Timber_stepOf) 0 = .ok (.aload_n 0, 1) ∧
  decode (cM m_Timber_stepOf) 1 = .ok (.iload_n 1, 1) ∧
  decode (cM m_Timber_stepOf) 2 = .ok (.invokevirtual 32, 3) ∧
  invT 9 32 = some (m_Timber_widthOf, 0) ∧
  nM m_Timber_widthOf = 2 ∧
  oM m_Timber_widthOf = 9 ∧
  rkM m_Timber_widthOf = 1 ∧
  dM m_Timber_widthOf = 0 ∧
  decode (cM m_Timber_stepOf) 5 = .ok (.aload_n 0, 1) ∧
  decode (cM m_Timber_stepOf) 6 = .ok (.iload_n 1, 1) ∧
  decode (cM m_Timber_stepOf) 7 = .ok (.iconst 1, 1) ∧
  decode (cM m_Timber_stepOf) 8 = .ok (.isub, 1) ∧
  decode (cM m_Timber_stepOf) 9 = .ok (.invokevirtual 32, 3) ∧
  decode (cM m_Timber_stepOf) 12 = .ok (.invokestatic 36, 3) ∧
  invT 9 36 = some (m_Integer_compare, 1) ∧
  nM m_Integer_compare = 2 ∧
  oM m_Integer_compare = 13 ∧
  rkM m_Integer_compare = 1 ∧
  dM m_Integer_compare = 0 ∧
  decode (cM m_Timber_stepOf) 15 = .ok (.ireturn, 1) :=
  ⟨rfl, rfl, rfl, rfl, by decide +kernel, by decide +kernel, by decide +kernel, rfl, rfl, rfl, rfl, rfl, by decide +kernel, by decide +kernel, by decide +kernel, by decide +kernel, by decide +kernel, by decide +kernel, rfl, rfl, rfl, rfl, rfl, by decide +kernel⟩

set_option maxRecDepth 100000 in
set_option maxHeartbeats 4000000 in
theorem C_Timber_countDoubtful : oM m_Timber_countDoubtful = 9 ∧
  rkM m_Timber_countDoubtful = 1 ∧
  dM m_Timber_countDoubtful = 1 ∧
  lM m_Timber_countDoubtful = 3 ∧
  decode (cM m_Timber_countDoubtful) 0 = .ok (.iconst 0, 1) ∧
  decode (cM m_Timber_countDoubtful) 1 = .ok (.istore_n 1, 1) ∧
  decode (cM m_Timber_countDoubtful) 2 = .ok (.iconst 0, 1) ∧
  decode (cM m_Timber_countDoubtful) 3 = .ok (.istore_n 2, 1) ∧
  decode (cM m_Timber_countDoubtful) 4 = .ok (.iload_n 2, 1) ∧
  decode (cM m_Timber_countDoubtful) 5 = .ok (.aload_n 0, 1) ∧
  decode (cM m_Timber_countDoubtful) 6 = .ok (.getfield 19, 3) ∧
  fldT 9 19 = some (9, 2, 0) ∧
  decode (cM m_Timber_countDoubtful) 9 = .ok (.if_icmp .ge 25, 3) ∧
  am_okt 9 25 ∧
  am_tgt 9 25 = 34 ∧
  decode (cM m_Timber_countDoubtful) 12 = .ok (.iload_n 1, 1) ∧
  decode (cM m_Timber_countDoubtful) 13 = .ok (.aload_n 0, 1) ∧
  decode (cM m_Timber_countDoubtful) 14 = .ok (.iload_n 2, 1) ∧
  decode (cM m_Timber_countDoubtful) 15 = .ok (.invokevirtual 46, 3) ∧
  invT 9 46 = some (m_Timber_isDoubtful, 0) ∧
  nM m_Timber_isDoubtful = 2 ∧
  oM m_Timber_isDoubtful = 9 ∧
  rkM m_Timber_isDoubtful = 2 ∧
  dM m_Timber_isDoubtful = 0 ∧
  decode (cM m_Timber_countDoubtful) 18 = .ok (.ifCond .eq 7, 3) ∧
  am_okt 18 7 ∧
  am_tgt 18 7 = 25 ∧
  decode (cM m_Timber_countDoubtful) 21 = .ok (.iconst 1, 1) ∧
  decode (cM m_Timber_countDoubtful) 22 = .ok (.goto 4, 3) ∧
  am_okt 22 4 ∧
  am_tgt 22 4 = 26 ∧
  decode (cM m_Timber_countDoubtful) 25 = .ok (.iconst 0, 1) ∧
  decode (cM m_Timber_countDoubtful) 26 = .ok (.iadd, 1) ∧
  decode (cM m_Timber_countDoubtful) 27 = .ok (.istore_n 1, 1) ∧
  decode (cM m_Timber_countDoubtful) 28 = .ok (.iinc 2 1, 3) ∧
  decode (cM m_Timber_countDoubtful) 31 = .ok (.goto (-27), 3) ∧
  am_okt 31 (-27) ∧
  am_tgt 31 (-27) = 4 ∧
  decode (cM m_Timber_countDoubtful) 34 = .ok (.iload_n 1, 1) ∧
  decode (cM m_Timber_countDoubtful) 35 = .ok (.ireturn, 1) :=
  ⟨rfl, rfl, rfl, rfl, by decide +kernel, by decide +kernel, by decide +kernel, by decide +kernel, by decide +kernel, by decide +kernel, by decide +kernel, rfl, by decide +kernel, rfl, rfl, by decide +kernel, by decide +kernel, by decide +kernel, by decide +kernel, rfl, rfl, rfl, rfl, rfl, by decide +kernel, rfl, rfl, by decide +kernel, by decide +kernel, rfl, rfl, by decide +kernel, by decide +kernel, by decide +kernel, by decide +kernel, by decide +kernel, rfl, rfl, by decide +kernel, by decide +kernel⟩

set_option maxRecDepth 100000 in
set_option maxHeartbeats 4000000 in
theorem C_Timber_drawRings : oM m_Timber_drawRings = 9 ∧
  rkM m_Timber_drawRings = 1 ∧
  dM m_Timber_drawRings = 1 ∧
  lM m_Timber_drawRings = 5 ∧
  decode (cM m_Timber_drawRings) 0 = .ok (.aload_n 0, 1) ∧
  decode (cM m_Timber_drawRings) 1 = .ok (.iconst 0, 1) ∧
  decode (cM m_Timber_drawRings) 2 = .ok (.iconst 0, 1) ∧
  decode (cM m_Timber_drawRings) 3 = .ok (.invokevirtual 49, 3) ∧
  invT 9 49 = some (m_Timber_begin, 0) ∧
  nM m_Timber_begin = 3 ∧
  oM m_Timber_begin = 9 ∧
  rkM m_Timber_begin = 0 ∧
  dM m_Timber_begin = 0 ∧
  decode (cM m_Timber_drawRings) 6 = .ok (.iload_n 2, 1) ∧
  decode (cM m_Timber_drawRings) 7 = .ok (.istore_n 3, 1) ∧
  decode (cM m_Timber_drawRings) 8 = .ok (.iconst 0, 1) ∧
  decode (cM m_Timber_drawRings) 9 = .ok (.istore 4, 2) ∧
  decode (cM m_Timber_drawRings) 11 = .ok (.iload 4, 2) ∧
  decode (cM m_Timber_drawRings) 13 = .ok (.iload_n 1, 1) ∧
  decode (cM m_Timber_drawRings) 14 = .ok (.if_icmp .ge 43, 3) ∧
  am_okt 14 43 ∧
  am_tgt 14 43 = 57 ∧
  decode (cM m_Timber_drawRings) 17 = .ok (.iload 4, 2) ∧
  decode (cM m_Timber_drawRings) 19 = .ok (.bipush 24, 2) ∧
  decode (cM m_Timber_drawRings) 21 = .ok (.if_icmp .ge 36, 3) ∧
  am_okt 21 36 ∧
  am_tgt 21 36 = 57 ∧
  decode (cM m_Timber_drawRings) 24 = .ok (.iload_n 3, 1) ∧
  decode (cM m_Timber_drawRings) 25 = .ok (.ldc 53, 2) ∧
  ldcT 9 53 = some (.inl 1103515245) ∧
  decode (cM m_Timber_drawRings) 27 = .ok (.imul, 1) ∧
  decode (cM m_Timber_drawRings) 28 = .ok (.sipush 12345, 3) ∧
  decode (cM m_Timber_drawRings) 31 = .ok (.iadd, 1) ∧
  decode (cM m_Timber_drawRings) 32 = .ok (.istore_n 3, 1) ∧
  decode (cM m_Timber_drawRings) 33 = .ok (.aload_n 0, 1) ∧
  decode (cM m_Timber_drawRings) 34 = .ok (.iload_n 3, 1) ∧
  decode (cM m_Timber_drawRings) 35 = .ok (.bipush 16, 2) ∧
  decode (cM m_Timber_drawRings) 37 = .ok (.iushr, 1) ∧
  decode (cM m_Timber_drawRings) 38 = .ok (.sipush 32767, 3) ∧
  decode (cM m_Timber_drawRings) 41 = .ok (.iand, 1) ∧
  decode (cM m_Timber_drawRings) 42 = .ok (.bipush 99, 2) ∧
  decode (cM m_Timber_drawRings) 44 = .ok (.irem, 1) ∧
  decode (cM m_Timber_drawRings) 45 = .ok (.iconst 1, 1) ∧
  decode (cM m_Timber_drawRings) 46 = .ok (.iadd, 1) ∧
  decode (cM m_Timber_drawRings) 47 = .ok (.iconst 0, 1) ∧
  decode (cM m_Timber_drawRings) 48 = .ok (.invokevirtual 54, 3) ∧
  invT 9 54 = some (m_Timber_addRing, 0) ∧
  nM m_Timber_addRing = 3 ∧
  oM m_Timber_addRing = 9 ∧
  rkM m_Timber_addRing = 0 ∧
  dM m_Timber_addRing = 0 ∧
  decode (cM m_Timber_drawRings) 51 = .ok (.iinc 4 1, 3) ∧
  decode (cM m_Timber_drawRings) 54 = .ok (.goto (-43), 3) ∧
  am_okt 54 (-43) ∧
  am_tgt 54 (-43) = 11 ∧
  decode (cM m_Timber_drawRings) 57 = .ok (.iload_n 3, 1) ∧
  decode (cM m_Timber_drawRings) 58 = .ok (.ireturn, 1) :=
  ⟨rfl, rfl, rfl, rfl, by decide +kernel, by decide +kernel, by decide +kernel, by decide +kernel, rfl, rfl, rfl, rfl, rfl, by decide +kernel, by decide +kernel, by decide +kernel, by decide +kernel, by decide +kernel, by decide +kernel, by decide +kernel, rfl, rfl, by decide +kernel, by decide +kernel, by decide +kernel, rfl, rfl, by decide +kernel, by decide +kernel, rfl, by decide +kernel, by decide +kernel, by decide +kernel, by decide +kernel, by decide +kernel, by decide +kernel, by decide +kernel, by decide +kernel, by decide +kernel, by decide +kernel, by decide +kernel, by decide +kernel, by decide +kernel, by decide +kernel, by decide +kernel, by decide +kernel, rfl, rfl, rfl, rfl, rfl, by decide +kernel, by decide +kernel, rfl, rfl, by decide +kernel, by decide +kernel⟩

set_option maxRecDepth 100000 in
set_option maxHeartbeats 4000000 in
theorem C_Integer_compare : oM m_Integer_compare = 13 ∧
  rkM m_Integer_compare = 1 ∧
  dM m_Integer_compare = 0 ∧
  lM m_Integer_compare = 2 ∧
  decode (cM m_Integer_compare) 0 = .ok (.iload_n 0, 1) ∧
  decode (cM m_Integer_compare) 1 = .ok (.iload_n 1, 1) ∧
  decode (cM m_Integer_compare) 2 = .ok (.if_icmp .ge 7, 3) ∧
  am_okt 2 7 ∧
  am_tgt 2 7 = 9 ∧
  decode (cM m_Integer_compare) 5 = .ok (.iconst (-1), 1) ∧
  decode (cM m_Integer_compare) 6 = .ok (.goto 13, 3) ∧
  am_okt 6 13 ∧
  am_tgt 6 13 = 19 ∧
  decode (cM m_Integer_compare) 9 = .ok (.iload_n 0, 1) ∧
  decode (cM m_Integer_compare) 10 = .ok (.iload_n 1, 1) ∧
  decode (cM m_Integer_compare) 11 = .ok (.if_icmp .ne 7, 3) ∧
  am_okt 11 7 ∧
  am_tgt 11 7 = 18 ∧
  decode (cM m_Integer_compare) 14 = .ok (.iconst 0, 1) ∧
  decode (cM m_Integer_compare) 15 = .ok (.goto 4, 3) ∧
  am_okt 15 4 ∧
  am_tgt 15 4 = 19 ∧
  decode (cM m_Integer_compare) 18 = .ok (.iconst 1, 1) ∧
  decode (cM m_Integer_compare) 19 = .ok (.ireturn, 1) :=
  ⟨rfl, rfl, rfl, rfl, by decide +kernel, by decide +kernel, by decide +kernel, rfl, rfl, by decide +kernel, by decide +kernel, rfl, rfl, by decide +kernel, by decide +kernel, by decide +kernel, rfl, rfl, by decide +kernel, by decide +kernel, rfl, rfl, by decide +kernel, by decide +kernel⟩

set_option maxRecDepth 100000 in
set_option maxHeartbeats 4000000 in
theorem C_Integer_bitCount : oM m_Integer_bitCount = 13 ∧
  rkM m_Integer_bitCount = 1 ∧
  dM m_Integer_bitCount = 0 ∧
  lM m_Integer_bitCount = 1 ∧
  decode (cM m_Integer_bitCount) 0 = .ok (.iload_n 0, 1) ∧
  decode (cM m_Integer_bitCount) 1 = .ok (.iload_n 0, 1) ∧
  decode (cM m_Integer_bitCount) 2 = .ok (.iconst 1, 1) ∧
  decode (cM m_Integer_bitCount) 3 = .ok (.iushr, 1) ∧
  decode (cM m_Integer_bitCount) 4 = .ok (.ldc_w 265, 3) ∧
  ldcT 13 265 = some (.inl 1431655765) ∧
  decode (cM m_Integer_bitCount) 7 = .ok (.iand, 1) ∧
  decode (cM m_Integer_bitCount) 8 = .ok (.isub, 1) ∧
  decode (cM m_Integer_bitCount) 9 = .ok (.istore_n 0, 1) ∧
  decode (cM m_Integer_bitCount) 10 = .ok (.iload_n 0, 1) ∧
  decode (cM m_Integer_bitCount) 11 = .ok (.ldc_w 266, 3) ∧
  ldcT 13 266 = some (.inl 858993459) ∧
  decode (cM m_Integer_bitCount) 14 = .ok (.iand, 1) ∧
  decode (cM m_Integer_bitCount) 15 = .ok (.iload_n 0, 1) ∧
  decode (cM m_Integer_bitCount) 16 = .ok (.iconst 2, 1) ∧
  decode (cM m_Integer_bitCount) 17 = .ok (.iushr, 1) ∧
  decode (cM m_Integer_bitCount) 18 = .ok (.ldc_w 266, 3) ∧
  decode (cM m_Integer_bitCount) 21 = .ok (.iand, 1) ∧
  decode (cM m_Integer_bitCount) 22 = .ok (.iadd, 1) ∧
  decode (cM m_Integer_bitCount) 23 = .ok (.istore_n 0, 1) ∧
  decode (cM m_Integer_bitCount) 24 = .ok (.iload_n 0, 1) ∧
  decode (cM m_Integer_bitCount) 25 = .ok (.iload_n 0, 1) ∧
  decode (cM m_Integer_bitCount) 26 = .ok (.iconst 4, 1) ∧
  decode (cM m_Integer_bitCount) 27 = .ok (.iushr, 1) ∧
  decode (cM m_Integer_bitCount) 28 = .ok (.iadd, 1) ∧
  decode (cM m_Integer_bitCount) 29 = .ok (.ldc_w 267, 3) ∧
  ldcT 13 267 = some (.inl 252645135) ∧
  decode (cM m_Integer_bitCount) 32 = .ok (.iand, 1) ∧
  decode (cM m_Integer_bitCount) 33 = .ok (.istore_n 0, 1) ∧
  decode (cM m_Integer_bitCount) 34 = .ok (.iload_n 0, 1) ∧
  decode (cM m_Integer_bitCount) 35 = .ok (.iload_n 0, 1) ∧
  decode (cM m_Integer_bitCount) 36 = .ok (.bipush 8, 2) ∧
  decode (cM m_Integer_bitCount) 38 = .ok (.iushr, 1) ∧
  decode (cM m_Integer_bitCount) 39 = .ok (.iadd, 1) ∧
  decode (cM m_Integer_bitCount) 40 = .ok (.istore_n 0, 1) ∧
  decode (cM m_Integer_bitCount) 41 = .ok (.iload_n 0, 1) ∧
  decode (cM m_Integer_bitCount) 42 = .ok (.iload_n 0, 1) ∧
  decode (cM m_Integer_bitCount) 43 = .ok (.bipush 16, 2) ∧
  decode (cM m_Integer_bitCount) 45 = .ok (.iushr, 1) ∧
  decode (cM m_Integer_bitCount) 46 = .ok (.iadd, 1) ∧
  decode (cM m_Integer_bitCount) 47 = .ok (.istore_n 0, 1) ∧
  decode (cM m_Integer_bitCount) 48 = .ok (.iload_n 0, 1) ∧
  decode (cM m_Integer_bitCount) 49 = .ok (.bipush 63, 2) ∧
  decode (cM m_Integer_bitCount) 51 = .ok (.iand, 1) ∧
  decode (cM m_Integer_bitCount) 52 = .ok (.ireturn, 1) :=
  ⟨rfl, rfl, rfl, rfl, by decide +kernel, by decide +kernel, by decide +kernel, by decide +kernel, by decide +kernel, rfl, by decide +kernel, by decide +kernel, by decide +kernel, by decide +kernel, by decide +kernel, rfl, by decide +kernel, by decide +kernel, by decide +kernel, by decide +kernel, by decide +kernel, by decide +kernel, by decide +kernel, by decide +kernel, by decide +kernel, by decide +kernel, by decide +kernel, by decide +kernel, by decide +kernel, by decide +kernel, rfl, by decide +kernel, by decide +kernel, by decide +kernel, by decide +kernel, by decide +kernel, by decide +kernel, by decide +kernel, by decide +kernel, by decide +kernel, by decide +kernel, by decide +kernel, by decide +kernel, by decide +kernel, by decide +kernel, by decide +kernel, by decide +kernel, by decide +kernel, by decide +kernel⟩
