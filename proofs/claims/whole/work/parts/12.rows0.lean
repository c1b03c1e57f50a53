set_option maxRecDepth 100000 in
set_option maxHeartbeats 4000000 in
theorem C_Bench_layChronology : oM m_Bench_layChronology = 0 ∧
  rkM m_Bench_layChronology = 0 ∧
  dM m_Bench_layChronology = 3 ∧
  lM m_Bench_layChronology = 5 ∧
  decode (cM m_Bench_layChronology) 0 = .ok (.aload_n 0, 1) ∧
  decode (cM m_Bench_layChronology) 1 = .ok (.aload_n 1, 1) ∧
  decode (cM m_Bench_layChronology) 2 = .ok (.aload_n 2, 1) ∧
  decode (cM m_Bench_layChronology) 3 = .ok (.iload_n 3, 1) ∧
  decode (cM m_Bench_layChronology) 4 = .ok (.invokevirtual 101, 3) ∧
  invT 0 101 = some (m_Bench_span, 0) ∧
  nM m_Bench_span = 4 ∧
  oM m_Bench_span = 0 ∧
  rkM m_Bench_span = 0 ∧
  dM m_Bench_span = 2 ∧
  decode (cM m_Bench_layChronology) 7 = .ok (.aload_n 0, 1) ∧
  decode (cM m_Bench_layChronology) 8 = .ok (.getfield 23, 3) ∧
  fldT 0 23 = some (0, 2, 2) ∧
  decode (cM m_Bench_layChronology) 11 = .ok (.aload_n 0, 1) ∧
  decode (cM m_Bench_layChronology) 12 = .ok (.getfield 47, 3) ∧
  fldT 0 47 = some (0, 7, 0) ∧
  decode (cM m_Bench_layChronology) 15 = .ok (.iconst (-1), 1) ∧
  decode (cM m_Bench_layChronology) 16 = .ok (.if_icmp .ne 7, 3) ∧
  am_okt 16 7 ∧
  am_tgt 16 7 = 23 ∧
  decode (cM m_Bench_layChronology) 19 = .ok (.iconst 0, 1) ∧
  decode (cM m_Bench_layChronology) 20 = .ok (.goto 14, 3) ∧
  am_okt 20 14 ∧
  am_tgt 20 14 = 34 ∧
  decode (cM m_Bench_layChronology) 23 = .ok (.aload_n 0, 1) ∧
  decode (cM m_Bench_layChronology) 24 = .ok (.getfield 51, 3) ∧
  fldT 0 51 = some (0, 8, 0) ∧
  decode (cM m_Bench_layChronology) 27 = .ok (.aload_n 0, 1) ∧
  decode (cM m_Bench_layChronology) 28 = .ok (.getfield 47, 3) ∧
  decode (cM m_Bench_layChronology) 31 = .ok (.isub, 1) ∧
  decode (cM m_Bench_layChronology) 32 = .ok (.iconst 1, 1) ∧
  decode (cM m_Bench_layChronology) 33 = .ok (.iadd, 1) ∧
  decode (cM m_Bench_layChronology) 34 = .ok (.invokevirtual 63, 3) ∧
  invT 0 63 = some (m_Row_begin, 0) ∧
  nM m_Row_begin = 2 ∧
  oM m_Row_begin = 6 ∧
  rkM m_Row_begin = 0 ∧
  dM m_Row_begin = 1 ∧
  decode (cM m_Bench_layChronology) 37 = .ok (.iconst 0, 1) ∧
  decode (cM m_Bench_layChronology) 38 = .ok (.istore 4, 2) ∧
  decode (cM m_Bench_layChronology) 40 = .ok (.iload 4, 2) ∧
  decode (cM m_Bench_layChronology) 42 = .ok (.aload_n 0, 1) ∧
  decode (cM m_Bench_layChronology) 43 = .ok (.getfield 23, 3) ∧
  decode (cM m_Bench_layChronology) 46 = .ok (.getfield 105, 3) ∧
  fldT 0 105 = some (6, 7, 0) ∧
  decode (cM m_Bench_layChronology) 49 = .ok (.if_icmp .ge 33, 3) ∧
  am_okt 49 33 ∧
  am_tgt 49 33 = 82 ∧
  decode (cM m_Bench_layChronology) 52 = .ok (.iload 4, 2) ∧
  decode (cM m_Bench_layChronology) 54 = .ok (.sipush 924, 3) ∧
  decode (cM m_Bench_layChronology) 57 = .ok (.if_icmp .ge 25, 3) ∧
  am_okt 57 25 ∧
  am_tgt 57 25 = 82 ∧
  decode (cM m_Bench_layChronology) 60 = .ok (.aload_n 0, 1) ∧
  decode (cM m_Bench_layChronology) 61 = .ok (.getfield 26, 3) ∧
  fldT 0 26 = some (0, 3, 2) ∧
  decode (cM m_Bench_layChronology) 64 = .ok (.iload 4, 2) ∧
  decode (cM m_Bench_layChronology) 66 = .ok (.iconst 0, 1) ∧
  decode (cM m_Bench_layChronology) 67 = .ok (.iastore, 1) ∧
  decode (cM m_Bench_layChronology) 68 = .ok (.aload_n 0, 1) ∧
  decode (cM m_Bench_layChronology) 69 = .ok (.getfield 30, 3) ∧
  fldT 0 30 = some (0, 4, 2) ∧
  decode (cM m_Bench_layChronology) 72 = .ok (.iload 4, 2) ∧
  decode (cM m_Bench_layChronology) 74 = .ok (.iconst 0, 1) ∧
  decode (cM m_Bench_layChronology) 75 = .ok (.iastore, 1) ∧
  decode (cM m_Bench_layChronology) 76 = .ok (.iinc 4 1, 3) ∧
  decode (cM m_Bench_layChronology) 79 = .ok (.goto (-39), 3) ∧
  am_okt 79 (-39) ∧
  am_tgt 79 (-39) = 40 ∧
  decode (cM m_Bench_layChronology) 82 = .ok (.iconst 0, 1) ∧
  decode (cM m_Bench_layChronology) 83 = .ok (.istore 4, 2) ∧
  decode (cM m_Bench_layChronology) 85 = .ok (.iload 4, 2) ∧
  decode (cM m_Bench_layChronology) 87 = .ok (.aload_n 1, 1) ∧
  decode (cM m_Bench_layChronology) 88 = .ok (.getfield 108, 3) ∧
  fldT 0 108 = some (8, 3, 0) ∧
  decode (cM m_Bench_layChronology) 91 = .ok (.if_icmp .ge 49, 3) ∧
  am_okt 91 49 ∧
  am_tgt 91 49 = 140 ∧
  decode (cM m_Bench_layChronology) 94 = .ok (.iload 4, 2) ∧
  decode (cM m_Bench_layChronology) 96 = .ok (.aload_n 2, 1) ∧
  decode (cM m_Bench_layChronology) 97 = .ok (.arraylength, 1) ∧
  decode (cM m_Bench_layChronology) 98 = .ok (.if_icmp .ge 42, 3) ∧
  am_okt 98 42 ∧
  am_tgt 98 42 = 140 ∧
  decode (cM m_Bench_layChronology) 101 = .ok (.iload 4, 2) ∧
  decode (cM m_Bench_layChronology) 103 = .ok (.iload_n 3, 1) ∧
  decode (cM m_Bench_layChronology) 104 = .ok (.if_icmp .eq 30, 3) ∧
  am_okt 104 30 ∧
  am_tgt 104 30 = 134 ∧
  decode (cM m_Bench_layChronology) 107 = .ok (.aload_n 2, 1) ∧
  decode (cM m_Bench_layChronology) 108 = .ok (.iload 4, 2) ∧
  decode (cM m_Bench_layChronology) 110 = .ok (.iaload, 1) ∧
  decode (cM m_Bench_layChronology) 111 = .ok (.iconst (-1), 1) ∧
  decode (cM m_Bench_layChronology) 112 = .ok (.if_icmp .eq 22, 3) ∧
  am_okt 112 22 ∧
  am_tgt 112 22 = 134 ∧
  decode (cM m_Bench_layChronology) 115 = .ok (.aload_n 0, 1) ∧
  decode (cM m_Bench_layChronology) 116 = .ok (.aload_n 1, 1) ∧
  decode (cM m_Bench_layChronology) 117 = .ok (.iload 4, 2) ∧
  decode (cM m_Bench_layChronology) 119 = .ok (.invokevirtual 113, 3) ∧
  invT 0 113 = some (m_Stock_timberAt, 0) ∧
  nM m_Stock_timberAt = 2 ∧
  oM m_Stock_timberAt = 8 ∧
  rkM m_Stock_timberAt = 3 ∧
  dM m_Stock_timberAt = 1 ∧
  decode (cM m_Bench_layChronology) 122 = .ok (.aload_n 2, 1) ∧
  decode (cM m_Bench_layChronology) 123 = .ok (.iload 4, 2) ∧
  decode (cM m_Bench_layChronology) 125 = .ok (.iaload, 1) ∧
  decode (cM m_Bench_layChronology) 126 = .ok (.aload_n 0, 1) ∧
  decode (cM m_Bench_layChronology) 127 = .ok (.getfield 47, 3) ∧
  decode (cM m_Bench_layChronology) 130 = .ok (.isub, 1) ∧
  decode (cM m_Bench_layChronology) 131 = .ok (.invokevirtual 117, 3) ∧
  invT 0 117 = some (m_Bench_addIndices, 0) ∧
  nM m_Bench_addIndices = 3 ∧
  oM m_Bench_addIndices = 0 ∧
  rkM m_Bench_addIndices = 0 ∧
  dM m_Bench_addIndices = 2 ∧
  decode (cM m_Bench_layChronology) 134 = .ok (.iinc 4 1, 3) ∧
  decode (cM m_Bench_layChronology) 137 = .ok (.goto (-52), 3) ∧
  am_okt 137 (-52) ∧
  am_tgt 137 (-52) = 85 ∧
  decode (cM m_Bench_layChronology) 140 = .ok (.iconst 0, 1) ∧
  decode (cM m_Bench_layChronology) 141 = .ok (.istore 4, 2) ∧
  decode (cM m_Bench_layChronology) 143 = .ok (.iload 4, 2) ∧
  decode (cM m_Bench_layChronology) 145 = .ok (.aload_n 0, 1) ∧
  decode (cM m_Bench_layChronology) 146 = .ok (.getfield 23, 3) ∧
  decode (cM m_Bench_layChronology) 149 = .ok (.getfield 105, 3) ∧
  decode (cM m_Bench_layChronology) 152 = .ok (.if_icmp .ge 52, 3) ∧
  am_okt 152 52 ∧
  am_tgt 152 52 = 204 ∧
  decode (cM m_Bench_layChronology) 155 = .ok (.iload 4, 2) ∧
  decode (cM m_Bench_layChronology) 157 = .ok (.sipush 924, 3) ∧
  decode (cM m_Bench_layChronology) 160 = .ok (.if_icmp .ge 44, 3) ∧
  am_okt 160 44 ∧
  am_tgt 160 44 = 204 ∧
  decode (cM m_Bench_layChronology) 163 = .ok (.aload_n 0, 1) ∧
  decode (cM m_Bench_layChronology) 164 = .ok (.getfield 30, 3) ∧
  decode (cM m_Bench_layChronology) 167 = .ok (.iload 4, 2) ∧
  decode (cM m_Bench_layChronology) 169 = .ok (.iaload, 1) ∧
  decode (cM m_Bench_layChronology) 170 = .ok (.ifCond .le 28, 3) ∧
  am_okt 170 28 ∧
  am_tgt 170 28 = 198 ∧
  decode (cM m_Bench_layChronology) 173 = .ok (.aload_n 0, 1) ∧
  decode (cM m_Bench_layChronology) 174 = .ok (.getfield 23, 3) ∧
  decode (cM m_Bench_layChronology) 177 = .ok (.iload 4, 2) ∧
  decode (cM m_Bench_layChronology) 179 = .ok (.aload_n 0, 1) ∧
  decode (cM m_Bench_layChronology) 180 = .ok (.getfield 26, 3) ∧
  decode (cM m_Bench_layChronology) 183 = .ok (.iload 4, 2) ∧
  decode (cM m_Bench_layChronology) 185 = .ok (.iaload, 1) ∧
  decode (cM m_Bench_layChronology) 186 = .ok (.aload_n 0, 1) ∧
  decode (cM m_Bench_layChronology) 187 = .ok (.getfield 30, 3) ∧
  decode (cM m_Bench_layChronology) 190 = .ok (.iload 4, 2) ∧
  decode (cM m_Bench_layChronology) 192 = .ok (.iaload, 1) ∧
  decode (cM m_Bench_layChronology) 193 = .ok (.idiv, 1) ∧
  decode (cM m_Bench_layChronology) 194 = .ok (.iconst 0, 1) ∧
  decode (cM m_Bench_layChronology) 195 = .ok (.invokevirtual 74, 3) ∧
  invT 0 74 = some (m_Row_put, 0) ∧
  nM m_Row_put = 4 ∧
  oM m_Row_put = 6 ∧
  rkM m_Row_put = 0 ∧
  dM m_Row_put = 0 ∧
  decode (cM m_Bench_layChronology) 198 = .ok (.iinc 4 1, 3) ∧
  decode (cM m_Bench_layChronology) 201 = .ok (.goto (-58), 3) ∧
  am_okt 201 (-58) ∧
  am_tgt 201 (-58) = 143 ∧
  decode (cM m_Bench_layChronology) 204 = .ok (.aload_n 0, 1) ∧
  decode (cM m_Bench_layChronology) 205 = .ok (.getfield 23, 3) ∧
  decode (cM m_Bench_layChronology) 208 = .ok (.invokevirtual 78, 3) ∧
  invT 0 78 = some (m_Row_finish, 0) ∧
  nM m_Row_finish = 1 ∧
  oM m_Row_finish = 6 ∧
  rkM m_Row_finish = 0 ∧
  dM m_Row_finish = 2 ∧
  decode (cM m_Bench_layChronology) 211 = .ok (.return_, 1) :=
  ⟨rfl, rfl, rfl, rfl, by decide +kernel, by decide +kernel, by decide +kernel, by decide +kernel, by decide +kernel, rfl, rfl, rfl, rfl, rfl, by decide +kernel, by decide +kernel, rfl, by decide +kernel, by decide +kernel, rfl, by decide +kernel, by decide +kernel, rfl, rfl, by decide +kernel, by decide +kernel, rfl, rfl, by decide +kernel, by decide +kernel, rfl, by decide +kernel, by decide +kernel, by decide +kernel, by decide +kernel, by decide +kernel, by decide +kernel, rfl, rfl, rfl, rfl, rfl, by decide +kernel, by decide +kernel, by decide +kernel, by decide +kernel, by decide +kernel, by decide +kernel, rfl, by decide +kernel, rfl, rfl, by decide +kernel, by decide +kernel, by decide +kernel, rfl, rfl, by decide +kernel, by decide +kernel, rfl, by decide +kernel, by decide +kernel, by decide +kernel, by decide +kernel, by decide +kernel, rfl, by decide +kernel, by decide +kernel, by decide +kernel, by decide +kernel, by decide +kernel, rfl, rfl, by decide +kernel, by decide +kernel, by decide +kernel, by decide +kernel, by decide +kernel, rfl, by decide +kernel, rfl, rfl, by decide +kernel, by decide +kernel, by decide +kernel, by decide +kernel, rfl, rfl, by decide +kernel, by decide +kernel, by decide +kernel, rfl, rfl, by decide +kernel, by decide +kernel, by decide +kernel, by decide +kernel, by decide +kernel, rfl, rfl, by decide +kernel, by decide +kernel, by decide +kernel, by decide +kernel, rfl, rfl, rfl, rfl, rfl, by decide +kernel, by decide +kernel, by decide +kernel, by decide +kernel, by decide +kernel, by decide +kernel, by decide +kernel, rfl, rfl, rfl, rfl, rfl, by decide +kernel, by decide +kernel, rfl, rfl, by decide +kernel, by decide +kernel, by decide +kernel, by decide +kernel, by decide +kernel, by decide +kernel, by decide +kernel, rfl, rfl, by decide +kernel, by decide +kernel, by decide +kernel, rfl, rfl, by decide +kernel, by decide +kernel, by decide +kernel, by decide +kernel, by decide +kernel, rfl, rfl, by decide +kernel, by decide +kernel, by decide +kernel, by decide +kernel, by decide +kernel, by decide +kernel, by decide +kernel, by decide +kernel, by decide +kernel, by decide +kernel, by decide +kernel, by decide +kernel, by decide +kernel, by decide +kernel, rfl, rfl, rfl, rfl, rfl, by decide +kernel, by decide +kernel, rfl, rfl, by decide +kernel, by decide +kernel, by decide +kernel, rfl, rfl, rfl, rfl, rfl, by decide +kernel⟩
set_option maxRecDepth 100000 in
set_option maxHeartbeats 4000000 in
theorem C_Bench_span : oM m_Bench_span = 0 ∧
  rkM m_Bench_span = 0 ∧
  dM m_Bench_span = 2 ∧
  lM m_Bench_span = 6 ∧
  decode (cM m_Bench_span) 0 = .ok (.aload_n 0, 1) ∧
  decode (cM m_Bench_span) 1 = .ok (.iconst (-1), 1) ∧
  decode (cM m_Bench_span) 2 = .ok (.putfield 47, 3) ∧
  fldT 0 47 = some (0, 7, 0) ∧
  decode (cM m_Bench_span) 5 = .ok (.aload_n 0, 1) ∧
  decode (cM m_Bench_span) 6 = .ok (.iconst (-1), 1) ∧
  decode (cM m_Bench_span) 7 = .ok (.putfield 51, 3) ∧
  fldT 0 51 = some (0, 8, 0) ∧
  decode (cM m_Bench_span) 10 = .ok (.iconst 0, 1) ∧
  decode (cM m_Bench_span) 11 = .ok (.istore 4, 2) ∧
  decode (cM m_Bench_span) 13 = .ok (.iload 4, 2) ∧
  decode (cM m_Bench_span) 15 = .ok (.aload_n 1, 1) ∧
  decode (cM m_Bench_span) 16 = .ok (.getfield 108, 3) ∧
  fldT 0 108 = some (8, 3, 0) ∧
  decode (cM m_Bench_span) 19 = .ok (.if_icmp .ge 91, 3) ∧
  am_okt 19 91 ∧
  am_tgt 19 91 = 110 ∧
  decode (cM m_Bench_span) 22 = .ok (.iload 4, 2) ∧
  decode (cM m_Bench_span) 24 = .ok (.aload_n 2, 1) ∧
  decode (cM m_Bench_span) 25 = .ok (.arraylength, 1) ∧
  decode (cM m_Bench_span) 26 = .ok (.if_icmp .ge 84, 3) ∧
  am_okt 26 84 ∧
  am_tgt 26 84 = 110 ∧
  decode (cM m_Bench_span) 29 = .ok (.iload 4, 2) ∧
  decode (cM m_Bench_span) 31 = .ok (.iload_n 3, 1) ∧
  decode (cM m_Bench_span) 32 = .ok (.if_icmp .eq 72, 3) ∧
  am_okt 32 72 ∧
  am_tgt 32 72 = 104 ∧
  decode (cM m_Bench_span) 35 = .ok (.aload_n 2, 1) ∧
  decode (cM m_Bench_span) 36 = .ok (.iload 4, 2) ∧
  decode (cM m_Bench_span) 38 = .ok (.iaload, 1) ∧
  decode (cM m_Bench_span) 39 = .ok (.iconst (-1), 1) ∧
  decode (cM m_Bench_span) 40 = .ok (.if_icmp .eq 64, 3) ∧
  am_okt 40 64 ∧
  am_tgt 40 64 = 104 ∧
  decode (cM m_Bench_span) 43 = .ok (.aload_n 2, 1) ∧
  decode (cM m_Bench_span) 44 = .ok (.iload 4, 2) ∧
  decode (cM m_Bench_span) 46 = .ok (.iaload, 1) ∧
  decode (cM m_Bench_span) 47 = .ok (.aload_n 1, 1) ∧
  decode (cM m_Bench_span) 48 = .ok (.iload 4, 2) ∧
  decode (cM m_Bench_span) 50 = .ok (.invokevirtual 113, 3) ∧
  invT 0 113 = some (m_Stock_timberAt, 0) ∧
  nM m_Stock_timberAt = 2 ∧
  oM m_Stock_timberAt = 8 ∧
  rkM m_Stock_timberAt = 3 ∧
  dM m_Stock_timberAt = 1 ∧
  decode (cM m_Bench_span) 53 = .ok (.getfield 58, 3) ∧
  fldT 0 58 = some (9, 2, 0) ∧
  decode (cM m_Bench_span) 56 = .ok (.iadd, 1) ∧
  decode (cM m_Bench_span) 57 = .ok (.iconst 1, 1) ∧
  decode (cM m_Bench_span) 58 = .ok (.isub, 1) ∧
  decode (cM m_Bench_span) 59 = .ok (.istore 5, 2) ∧
  decode (cM m_Bench_span) 61 = .ok (.aload_n 0, 1) ∧
  decode (cM m_Bench_span) 62 = .ok (.aload_n 0, 1) ∧
  decode (cM m_Bench_span) 63 = .ok (.getfield 47, 3) ∧
  decode (cM m_Bench_span) 66 = .ok (.iconst (-1), 1) ∧
  decode (cM m_Bench_span) 67 = .ok (.if_icmp .ne 10, 3) ∧
  am_okt 67 10 ∧
  am_tgt 67 10 = 77 ∧
  decode (cM m_Bench_span) 70 = .ok (.aload_n 2, 1) ∧
  decode (cM m_Bench_span) 71 = .ok (.iload 4, 2) ∧
  decode (cM m_Bench_span) 73 = .ok (.iaload, 1) ∧
  decode (cM m_Bench_span) 74 = .ok (.goto 14, 3) ∧
  am_okt 74 14 ∧
  am_tgt 74 14 = 88 ∧
  decode (cM m_Bench_span) 77 = .ok (.aload_n 0, 1) ∧
  decode (cM m_Bench_span) 78 = .ok (.getfield 47, 3) ∧
  decode (cM m_Bench_span) 81 = .ok (.aload_n 2, 1) ∧
  decode (cM m_Bench_span) 82 = .ok (.iload 4, 2) ∧
  decode (cM m_Bench_span) 84 = .ok (.iaload, 1) ∧
  decode (cM m_Bench_span) 85 = .ok (.invokestatic 85, 3) ∧
  invT 0 85 = some (0, 4) ∧
  decode (cM m_Bench_span) 88 = .ok (.putfield 47, 3) ∧
  decode (cM m_Bench_span) 91 = .ok (.aload_n 0, 1) ∧
  decode (cM m_Bench_span) 92 = .ok (.aload_n 0, 1) ∧
  decode (cM m_Bench_span) 93 = .ok (.getfield 51, 3) ∧
  decode (cM m_Bench_span) 96 = .ok (.iload 5, 2) ∧
  decode (cM m_Bench_span) 98 = .ok (.invokestatic 91, 3) ∧
  invT 0 91 = some (0, 3) ∧
  decode (cM m_Bench_span) 101 = .ok (.putfield 51, 3) ∧
  decode (cM m_Bench_span) 104 = .ok (.iinc 4 1, 3) ∧
  decode (cM m_Bench_span) 107 = .ok (.goto (-94), 3) ∧
  am_okt 107 (-94) ∧
  am_tgt 107 (-94) = 13 ∧
  decode (cM m_Bench_span) 110 = .ok (.return_, 1) :=
  ⟨rfl, rfl, rfl, rfl, by decide +kernel, by decide +kernel, by decide +kernel, rfl, by decide +kernel, by decide +kernel, by decide +kernel, rfl, by decide +kernel, by decide +kernel, by decide +kernel, by decide +kernel, by decide +kernel, rfl, by decide +kernel, rfl, rfl, by decide +kernel, by decide +kernel, by decide +kernel, by decide +kernel, rfl, rfl, by decide +kernel, by decide +kernel, by decide +kernel, rfl, rfl, by decide +kernel, by decide +kernel, by decide +kernel, by decide +kernel, by decide +kernel, rfl, rfl, by decide +kernel, by decide +kernel, by decide +kernel, by decide +kernel, by decide +kernel, by decide +kernel, rfl, rfl, rfl, rfl, rfl, by decide +kernel, rfl, by decide +kernel, by decide +kernel, by decide +kernel, by decide +kernel, by decide +kernel, by decide +kernel, by decide +kernel, by decide +kernel, by decide +kernel, rfl, rfl, by decide +kernel, by decide +kernel, by decide +kernel, by decide +kernel, rfl, rfl, by decide +kernel, by decide +kernel, by decide +kernel, by decide +kernel, by decide +kernel, by decide +kernel, rfl, by decide +kernel, by decide +kernel, by decide +kernel, by decide +kernel, by decide +kernel, by decide +kernel, rfl, by decide +kernel, by decide +kernel, by decide +kernel, rfl, rfl, by decide +kernel⟩
set_option maxRecDepth 100000 in
set_option maxHeartbeats 4000000 in
theorem C_Bench_addIndices : oM m_Bench_addIndices = 0 ∧
  rkM m_Bench_addIndices = 0 ∧
  dM m_Bench_addIndices = 2 ∧
  lM m_Bench_addIndices = 5 ∧
  decode (cM m_Bench_addIndices) 0 = .ok (.aload_n 1, 1) ∧
  decode (cM m_Bench_addIndices) 1 = .ok (.invokevirtual 121, 3) ∧
  invT 0 121 = some (m_Timber_allWidths, 0) ∧
  nM m_Timber_allWidths = 1 ∧
  oM m_Timber_allWidths = 9 ∧
  rkM m_Timber_allWidths = 1 ∧
  dM m_Timber_allWidths = 1 ∧
  decode (cM m_Bench_addIndices) 4 = .ok (.istore_n 3, 1) ∧
  decode (cM m_Bench_addIndices) 5 = .ok (.iload_n 3, 1) ∧
  decode (cM m_Bench_addIndices) 6 = .ok (.iconst 1, 1) ∧
  decode (cM m_Bench_addIndices) 7 = .ok (.if_icmp .lt 7, 3) ∧
  am_okt 7 7 ∧
  am_tgt 7 7 = 14 ∧
  decode (cM m_Bench_addIndices) 10 = .ok (.iload_n 2, 1) ∧
  decode (cM m_Bench_addIndices) 11 = .ok (.ifCond .ge 4, 3) ∧
  am_okt 11 4 ∧
  am_tgt 11 4 = 15 ∧
  decode (cM m_Bench_addIndices) 14 = .ok (.return_, 1) ∧
  decode (cM m_Bench_addIndices) 15 = .ok (.iconst 0, 1) ∧
  decode (cM m_Bench_addIndices) 16 = .ok (.istore 4, 2) ∧
  decode (cM m_Bench_addIndices) 18 = .ok (.iload 4, 2) ∧
  decode (cM m_Bench_addIndices) 20 = .ok (.aload_n 1, 1) ∧
  decode (cM m_Bench_addIndices) 21 = .ok (.getfield 58, 3) ∧
  fldT 0 58 = some (9, 2, 0) ∧
  decode (cM m_Bench_addIndices) 24 = .ok (.if_icmp .ge 61, 3) ∧
  am_okt 24 61 ∧
  am_tgt 24 61 = 85 ∧
  decode (cM m_Bench_addIndices) 27 = .ok (.iload_n 2, 1) ∧
  decode (cM m_Bench_addIndices) 28 = .ok (.iload 4, 2) ∧
  decode (cM m_Bench_addIndices) 30 = .ok (.iadd, 1) ∧
  decode (cM m_Bench_addIndices) 31 = .ok (.sipush 924, 3) ∧
  decode (cM m_Bench_addIndices) 34 = .ok (.if_icmp .ge 51, 3) ∧
  am_okt 34 51 ∧
  am_tgt 34 51 = 85 ∧
  decode (cM m_Bench_addIndices) 37 = .ok (.aload_n 0, 1) ∧
  decode (cM m_Bench_addIndices) 38 = .ok (.getfield 26, 3) ∧
  fldT 0 26 = some (0, 3, 2) ∧
  decode (cM m_Bench_addIndices) 41 = .ok (.iload_n 2, 1) ∧
  decode (cM m_Bench_addIndices) 42 = .ok (.iload 4, 2) ∧
  decode (cM m_Bench_addIndices) 44 = .ok (.iadd, 1) ∧
  decode (cM m_Bench_addIndices) 45 = .ok (.dup2, 1) ∧
  decode (cM m_Bench_addIndices) 46 = .ok (.iaload, 1) ∧
  decode (cM m_Bench_addIndices) 47 = .ok (.sipush 1000, 3) ∧
  decode (cM m_Bench_addIndices) 50 = .ok (.aload_n 1, 1) ∧
  decode (cM m_Bench_addIndices) 51 = .ok (.iload 4, 2) ∧
  decode (cM m_Bench_addIndices) 53 = .ok (.invokevirtual 66, 3) ∧
  invT 0 66 = some (m_Timber_widthOf, 0) ∧
  nM m_Timber_widthOf = 2 ∧
  oM m_Timber_widthOf = 9 ∧
  rkM m_Timber_widthOf = 1 ∧
  dM m_Timber_widthOf = 0 ∧
  decode (cM m_Bench_addIndices) 56 = .ok (.imul, 1) ∧
  decode (cM m_Bench_addIndices) 57 = .ok (.aload_n 1, 1) ∧
  decode (cM m_Bench_addIndices) 58 = .ok (.getfield 58, 3) ∧
  decode (cM m_Bench_addIndices) 61 = .ok (.imul, 1) ∧
  decode (cM m_Bench_addIndices) 62 = .ok (.iload_n 3, 1) ∧
  decode (cM m_Bench_addIndices) 63 = .ok (.idiv, 1) ∧
  decode (cM m_Bench_addIndices) 64 = .ok (.iadd, 1) ∧
  decode (cM m_Bench_addIndices) 65 = .ok (.iastore, 1) ∧
  decode (cM m_Bench_addIndices) 66 = .ok (.aload_n 0, 1) ∧
  decode (cM m_Bench_addIndices) 67 = .ok (.getfield 30, 3) ∧
  fldT 0 30 = some (0, 4, 2) ∧
  decode (cM m_Bench_addIndices) 70 = .ok (.iload_n 2, 1) ∧
  decode (cM m_Bench_addIndices) 71 = .ok (.iload 4, 2) ∧
  decode (cM m_Bench_addIndices) 73 = .ok (.iadd, 1) ∧
  decode (cM m_Bench_addIndices) 74 = .ok (.dup2, 1) ∧
  decode (cM m_Bench_addIndices) 75 = .ok (.iaload, 1) ∧
  decode (cM m_Bench_addIndices) 76 = .ok (.iconst 1, 1) ∧
  decode (cM m_Bench_addIndices) 77 = .ok (.iadd, 1) ∧
  decode (cM m_Bench_addIndices) 78 = .ok (.iastore, 1) ∧
  decode (cM m_Bench_addIndices) 79 = .ok (.iinc 4 1, 3) ∧
  decode (cM m_Bench_addIndices) 82 = .ok (.goto (-64), 3) ∧
  am_okt 82 (-64) ∧
  am_tgt 82 (-64) = 18 ∧
  decode (cM m_Bench_addIndices) 85 = .ok (.return_, 1) :=
  ⟨rfl, rfl, rfl, rfl, by decide +kernel, by decide +kernel, rfl, rfl, rfl, rfl, rfl, by decide +kernel, by decide +kernel, by decide +kernel, by decide +kernel, rfl, rfl, by decide +kernel, by decide +kernel, rfl, rfl, by decide +kernel, by decide +kernel, by decide +kernel, by decide +kernel, by decide +kernel, by decide +kernel, rfl, by decide +kernel, rfl, rfl, by decide +kernel, by decide +kernel, by decide +kernel, by decide +kernel, by decide +kernel, rfl, rfl, by decide +kernel, by decide +kernel, rfl, by decide +kernel, by decide +kernel, by decide +kernel, by decide +kernel, by decide +kernel, by decide +kernel, by decide +kernel, by decide +kernel, by decide +kernel, rfl, rfl, rfl, rfl, rfl, by decide +kernel, by decide +kernel, by decide +kernel, by decide +kernel, by decide +kernel, by decide +kernel, by decide +kernel, by decide +kernel, by decide +kernel, by decide +kernel, rfl, by decide +kernel, by decide +kernel, by decide +kernel, by decide +kernel, by decide +kernel, by decide +kernel, by decide +kernel, by decide +kernel, by decide +kernel, by decide +kernel, rfl, rfl, by decide +kernel⟩
set_option maxRecDepth 100000 in
set_option maxHeartbeats 4000000 in
theorem C_Bench_indexOf : oM m_Bench_indexOf = 0 ∧
  rkM m_Bench_indexOf = 1 ∧
  dM m_Bench_indexOf = 1 ∧
  lM m_Bench_indexOf = 3 ∧
  decode (cM m_Bench_indexOf) 0 = .ok (.aload_n 0, 1) ∧
  decode (cM m_Bench_indexOf) 1 = .ok (.getfield 47, 3) ∧
  fldT 0 47 = some (0, 7, 0) ∧
  decode (cM m_Bench_indexOf) 4 = .ok (.iconst (-1), 1) ∧
  decode (cM m_Bench_indexOf) 5 = .ok (.if_icmp .eq 19, 3) ∧
  am_okt 5 19 ∧
  am_tgt 5 19 = 24 ∧
  decode (cM m_Bench_indexOf) 8 = .ok (.iload_n 1, 1) ∧
  decode (cM m_Bench_indexOf) 9 = .ok (.aload_n 0, 1) ∧
  decode (cM m_Bench_indexOf) 10 = .ok (.getfield 47, 3) ∧
  decode (cM m_Bench_indexOf) 13 = .ok (.if_icmp .lt 11, 3) ∧
  am_okt 13 11 ∧
  am_tgt 13 11 = 24 ∧
  decode (cM m_Bench_indexOf) 16 = .ok (.iload_n 1, 1) ∧
  decode (cM m_Bench_indexOf) 17 = .ok (.aload_n 0, 1) ∧
  decode (cM m_Bench_indexOf) 18 = .ok (.getfield 51, 3) ∧
  fldT 0 51 = some (0, 8, 0) ∧
  decode (cM m_Bench_indexOf) 21 = .ok (.if_icmp .le 5, 3) ∧
  am_okt 21 5 ∧
  am_tgt 21 5 = 26 ∧
  decode (cM m_Bench_indexOf) 24 = .ok (.iconst (-1), 1) ∧
  decode (cM m_Bench_indexOf) 25 = .ok (.ireturn, 1) ∧
  decode (cM m_Bench_indexOf) 26 = .ok (.aload_n 0, 1) ∧
  decode (cM m_Bench_indexOf) 27 = .ok (.getfield 23, 3) ∧
  fldT 0 23 = some (0, 2, 2) ∧
  decode (cM m_Bench_indexOf) 30 = .ok (.iload_n 1, 1) ∧
  decode (cM m_Bench_indexOf) 31 = .ok (.aload_n 0, 1) ∧
  decode (cM m_Bench_indexOf) 32 = .ok (.getfield 47, 3) ∧
  decode (cM m_Bench_indexOf) 35 = .ok (.isub, 1) ∧
  decode (cM m_Bench_indexOf) 36 = .ok (.invokevirtual 125, 3) ∧
  invT 0 125 = some (m_Row_numberAt, 0) ∧
  nM m_Row_numberAt = 2 ∧
  oM m_Row_numberAt = 6 ∧
  rkM m_Row_numberAt = 1 ∧
  dM m_Row_numberAt = 0 ∧
  decode (cM m_Bench_indexOf) 39 = .ok (.istore_n 2, 1) ∧
  decode (cM m_Bench_indexOf) 40 = .ok (.iload_n 2, 1) ∧
  decode (cM m_Bench_indexOf) 41 = .ok (.ifCond .ne 7, 3) ∧
  am_okt 41 7 ∧
  am_tgt 41 7 = 48 ∧
  decode (cM m_Bench_indexOf) 44 = .ok (.iconst (-1), 1) ∧
  decode (cM m_Bench_indexOf) 45 = .ok (.goto 4, 3) ∧
  am_okt 45 4 ∧
  am_tgt 45 4 = 49 ∧
  decode (cM m_Bench_indexOf) 48 = .ok (.iload_n 2, 1) ∧
  decode (cM m_Bench_indexOf) 49 = .ok (.ireturn, 1) :=
  ⟨rfl, rfl, rfl, rfl, by decide +kernel, by decide +kernel, rfl, by decide +kernel, by decide +kernel, rfl, rfl, by decide +kernel, by decide +kernel, by decide +kernel, by decide +kernel, rfl, rfl, by decide +kernel, by decide +kernel, by decide +kernel, rfl, by decide +kernel, rfl, rfl, by decide +kernel, by decide +kernel, by decide +kernel, by decide +kernel, rfl, by decide +kernel, by decide +kernel, by decide +kernel, by decide +kernel, by decide +kernel, rfl, rfl, rfl, rfl, rfl, by decide +kernel, by decide +kernel, by decide +kernel, rfl, rfl, by decide +kernel, by decide +kernel, rfl, rfl, by decide +kernel, by decide +kernel⟩
set_option maxRecDepth 100000 in
set_option maxHeartbeats 4000000 in
theorem C_Bench_seekOnChronology : oM m_Bench_seekOnChronology = 0 ∧
  rkM m_Bench_seekOnChronology = 3 ∧
  dM m_Bench_seekOnChronology = 4 ∧
  lM m_Bench_seekOnChronology = 3 ∧
  decode (cM m_Bench_seekOnChronology) 0 = .ok (.aload_n 0, 1) ∧
  decode (cM m_Bench_seekOnChronology) 1 = .ok (.getfield 20, 3) ∧
  fldT 0 20 = some (0, 1, 2) ∧
  decode (cM m_Bench_seekOnChronology) 4 = .ok (.aload_n 1, 1) ∧
  decode (cM m_Bench_seekOnChronology) 5 = .ok (.invokestatic 54, 3) ∧
  invT 0 54 = some (m_Bench_lay, 1) ∧
  nM m_Bench_lay = 2 ∧
  oM m_Bench_lay = 0 ∧
  rkM m_Bench_lay = 0 ∧
  dM m_Bench_lay = 3 ∧
  decode (cM m_Bench_seekOnChronology) 8 = .ok (.aload_n 0, 1) ∧
  decode (cM m_Bench_seekOnChronology) 9 = .ok (.getfield 43, 3) ∧
  fldT 0 43 = some (0, 6, 2) ∧
  decode (cM m_Bench_seekOnChronology) 12 = .ok (.aload_n 0, 1) ∧
  decode (cM m_Bench_seekOnChronology) 13 = .ok (.getfield 23, 3) ∧
  fldT 0 23 = some (0, 2, 2) ∧
  decode (cM m_Bench_seekOnChronology) 16 = .ok (.aload_n 0, 1) ∧
  decode (cM m_Bench_seekOnChronology) 17 = .ok (.getfield 20, 3) ∧
  decode (cM m_Bench_seekOnChronology) 20 = .ok (.iload_n 2, 1) ∧
  decode (cM m_Bench_seekOnChronology) 21 = .ok (.invokevirtual 98, 3) ∧
  invT 0 98 = some (m_Finding_seek, 0) ∧
  nM m_Finding_seek = 4 ∧
  oM m_Finding_seek = 1 ∧
  rkM m_Finding_seek = 0 ∧
  dM m_Finding_seek = 2 ∧
  decode (cM m_Bench_seekOnChronology) 24 = .ok (.aload_n 0, 1) ∧
  decode (cM m_Bench_seekOnChronology) 25 = .ok (.getfield 43, 3) ∧
  decode (cM m_Bench_seekOnChronology) 28 = .ok (.areturn, 1) :=
  ⟨rfl, rfl, rfl, rfl, by decide +kernel, by decide +kernel, rfl, by decide +kernel, by decide +kernel, rfl, rfl, rfl, rfl, rfl, by decide +kernel, by decide +kernel, rfl, by decide +kernel, by decide +kernel, rfl, by decide +kernel, by decide +kernel, by decide +kernel, by decide +kernel, rfl, rfl, rfl, rfl, rfl, by decide +kernel, by decide +kernel, by decide +kernel⟩
set_option maxRecDepth 100000 in
set_option maxHeartbeats 4000000 in
theorem C_Bench_lay : oM m_Bench_lay = 0 ∧
  rkM m_Bench_lay = 0 ∧
  dM m_Bench_lay = 3 ∧
  lM m_Bench_lay = 3 ∧
  decode (cM m_Bench_lay) 0 = .ok (.aload_n 0, 1) ∧
  decode (cM m_Bench_lay) 1 = .ok (.aload_n 1, 1) ∧
  decode (cM m_Bench_lay) 2 = .ok (.getfield 58, 3) ∧
  fldT 0 58 = some (9, 2, 0) ∧
  decode (cM m_Bench_lay) 5 = .ok (.invokevirtual 63, 3) ∧
  invT 0 63 = some (m_Row_begin, 0) ∧
  nM m_Row_begin = 2 ∧
  oM m_Row_begin = 6 ∧
  rkM m_Row_begin = 0 ∧
  dM m_Row_begin = 1 ∧
  decode (cM m_Bench_lay) 8 = .ok (.iconst 0, 1) ∧
  decode (cM m_Bench_lay) 9 = .ok (.istore_n 2, 1) ∧
  decode (cM m_Bench_lay) 10 = .ok (.iload_n 2, 1) ∧
  decode (cM m_Bench_lay) 11 = .ok (.aload_n 1, 1) ∧
  decode (cM m_Bench_lay) 12 = .ok (.getfield 58, 3) ∧
  decode (cM m_Bench_lay) 15 = .ok (.if_icmp .ge 24, 3) ∧
  am_okt 15 24 ∧
  am_tgt 15 24 = 39 ∧
  decode (cM m_Bench_lay) 18 = .ok (.aload_n 0, 1) ∧
  decode (cM m_Bench_lay) 19 = .ok (.iload_n 2, 1) ∧
  decode (cM m_Bench_lay) 20 = .ok (.aload_n 1, 1) ∧
  decode (cM m_Bench_lay) 21 = .ok (.iload_n 2, 1) ∧
  decode (cM m_Bench_lay) 22 = .ok (.invokevirtual 66, 3) ∧
  invT 0 66 = some (m_Timber_widthOf, 0) ∧
  nM m_Timber_widthOf = 2 ∧
  oM m_Timber_widthOf = 9 ∧
  rkM m_Timber_widthOf = 1 ∧
  dM m_Timber_widthOf = 0 ∧
  decode (cM m_Bench_lay) 25 = .ok (.aload_n 1, 1) ∧
  decode (cM m_Bench_lay) 26 = .ok (.iload_n 2, 1) ∧
  decode (cM m_Bench_lay) 27 = .ok (.invokevirtual 70, 3) ∧
  invT 0 70 = some (m_Timber_isDoubtful, 0) ∧
  nM m_Timber_isDoubtful = 2 ∧
  oM m_Timber_isDoubtful = 9 ∧
  rkM m_Timber_isDoubtful = 2 ∧
  dM m_Timber_isDoubtful = 0 ∧
  decode (cM m_Bench_lay) 30 = .ok (.invokevirtual 74, 3) ∧
  invT 0 74 = some (m_Row_put, 0) ∧
  nM m_Row_put = 4 ∧
  oM m_Row_put = 6 ∧
  rkM m_Row_put = 0 ∧
  dM m_Row_put = 0 ∧
  decode (cM m_Bench_lay) 33 = .ok (.iinc 2 1, 3) ∧
  decode (cM m_Bench_lay) 36 = .ok (.goto (-26), 3) ∧
  am_okt 36 (-26) ∧
  am_tgt 36 (-26) = 10 ∧
  decode (cM m_Bench_lay) 39 = .ok (.aload_n 0, 1) ∧
  decode (cM m_Bench_lay) 40 = .ok (.invokevirtual 78, 3) ∧
  invT 0 78 = some (m_Row_finish, 0) ∧
  nM m_Row_finish = 1 ∧
  oM m_Row_finish = 6 ∧
  rkM m_Row_finish = 0 ∧
  dM m_Row_finish = 2 ∧
  decode (cM m_Bench_lay) 43 = .ok (.return_, 1) :=
  ⟨rfl, rfl, rfl, rfl, by decide +kernel, by decide +kernel, by decide +kernel, rfl, by decide +kernel, rfl, rfl, rfl, rfl, rfl, by decide +kernel, by decide +kernel, by decide +kernel, by decide +kernel, by decide +kernel, by decide +kernel, rfl, rfl, by decide +kernel, by decide +kernel, by decide +kernel, by decide +kernel, by decide +kernel, rfl, rfl, rfl, rfl, rfl, by decide +kernel, by decide +kernel, by decide +kernel, rfl, rfl, rfl, rfl, rfl, by decide +kernel, rfl, rfl, rfl, rfl, rfl, by decide +kernel, by decide +kernel, rfl, rfl, by decide +kernel, by decide +kernel, rfl, rfl, rfl, rfl, rfl, by decide +kernel⟩
set_option maxRecDepth 100000 in
set_option maxHeartbeats 4000000 in
theorem C_Bench_seekOn : oM m_Bench_seekOn = 0 ∧
  rkM m_Bench_seekOn = 3 ∧
  dM m_Bench_seekOn = 4 ∧
  lM m_Bench_seekOn = 4 ∧
  decode (cM m_Bench_seekOn) 0 = .ok (.aload_n 0, 1) ∧
  decode (cM m_Bench_seekOn) 1 = .ok (.getfield 14, 3) ∧
  fldT 0 14 = some (0, 0, 2) ∧
  decode (cM m_Bench_seekOn) 4 = .ok (.aload_n 2, 1) ∧
  decode (cM m_Bench_seekOn) 5 = .ok (.invokestatic 54, 3) ∧
  invT 0 54 = some (m_Bench_lay, 1) ∧
  nM m_Bench_lay = 2 ∧
  oM m_Bench_lay = 0 ∧
  rkM m_Bench_lay = 0 ∧
  dM m_Bench_lay = 3 ∧
  decode (cM m_Bench_seekOn) 8 = .ok (.aload_n 0, 1) ∧
  decode (cM m_Bench_seekOn) 9 = .ok (.getfield 20, 3) ∧
  fldT 0 20 = some (0, 1, 2) ∧
  decode (cM m_Bench_seekOn) 12 = .ok (.aload_n 1, 1) ∧
  decode (cM m_Bench_seekOn) 13 = .ok (.invokestatic 54, 3) ∧
  decode (cM m_Bench_seekOn) 16 = .ok (.aload_n 0, 1) ∧
  decode (cM m_Bench_seekOn) 17 = .ok (.getfield 43, 3) ∧
  fldT 0 43 = some (0, 6, 2) ∧
  decode (cM m_Bench_seekOn) 20 = .ok (.aload_n 0, 1) ∧
  decode (cM m_Bench_seekOn) 21 = .ok (.getfield 14, 3) ∧
  decode (cM m_Bench_seekOn) 24 = .ok (.aload_n 0, 1) ∧
  decode (cM m_Bench_seekOn) 25 = .ok (.getfield 20, 3) ∧
  decode (cM m_Bench_seekOn) 28 = .ok (.iload_n 3, 1) ∧
  decode (cM m_Bench_seekOn) 29 = .ok (.invokevirtual 98, 3) ∧
  invT 0 98 = some (m_Finding_seek, 0) ∧
  nM m_Finding_seek = 4 ∧
  oM m_Finding_seek = 1 ∧
  rkM m_Finding_seek = 0 ∧
  dM m_Finding_seek = 2 ∧
  decode (cM m_Bench_seekOn) 32 = .ok (.aload_n 0, 1) ∧
  decode (cM m_Bench_seekOn) 33 = .ok (.getfield 43, 3) ∧
  decode (cM m_Bench_seekOn) 36 = .ok (.areturn, 1) :=
  ⟨rfl, rfl, rfl, rfl, by decide +kernel, by decide +kernel, rfl, by decide +kernel, by decide +kernel, rfl, rfl, rfl, rfl, rfl, by decide +kernel, by decide +kernel, rfl, by decide +kernel, by decide +kernel, by decide +kernel, by decide +kernel, rfl, by decide +kernel, by decide +kernel, by decide +kernel, by decide +kernel, by decide +kernel, by decide +kernel, rfl, rfl, rfl, rfl, rfl, by decide +kernel, by decide +kernel, by decide +kernel⟩
set_option maxRecDepth 100000 in
set_option maxHeartbeats 4000000 in
theorem C_Bench_slideAlongChronology : oM m_Bench_slideAlongChronology = 0 ∧
  rkM m_Bench_slideAlongChronology = 3 ∧
  dM m_Bench_slideAlongChronology = 4 ∧
  lM m_Bench_slideAlongChronology = 3 ∧
  decode (cM m_Bench_slideAlongChronology) 0 = .ok (.aload_n 0, 1) ∧
  decode (cM m_Bench_slideAlongChronology) 1 = .ok (.getfield 20, 3) ∧
  fldT 0 20 = some (0, 1, 2) ∧
  decode (cM m_Bench_slideAlongChronology) 4 = .ok (.aload_n 1, 1) ∧
  decode (cM m_Bench_slideAlongChronology) 5 = .ok (.invokestatic 54, 3) ∧
  invT 0 54 = some (m_Bench_lay, 1) ∧
  nM m_Bench_lay = 2 ∧
  oM m_Bench_lay = 0 ∧
  rkM m_Bench_lay = 0 ∧
  dM m_Bench_lay = 3 ∧
  decode (cM m_Bench_slideAlongChronology) 8 = .ok (.aload_n 0, 1) ∧
  decode (cM m_Bench_slideAlongChronology) 9 = .ok (.aload_n 0, 1) ∧
  decode (cM m_Bench_slideAlongChronology) 10 = .ok (.getfield 23, 3) ∧
  fldT 0 23 = some (0, 2, 2) ∧
  decode (cM m_Bench_slideAlongChronology) 13 = .ok (.iload_n 2, 1) ∧
  decode (cM m_Bench_slideAlongChronology) 14 = .ok (.invokevirtual 81, 3) ∧
  invT 0 81 = some (m_Bench_measureWithin, 0) ∧
  nM m_Bench_measureWithin = 3 ∧
  oM m_Bench_measureWithin = 0 ∧
  rkM m_Bench_measureWithin = 0 ∧
  dM m_Bench_measureWithin = 2 ∧
  decode (cM m_Bench_slideAlongChronology) 17 = .ok (.aload_n 0, 1) ∧
  decode (cM m_Bench_slideAlongChronology) 18 = .ok (.getfield 36, 3) ∧
  fldT 0 36 = some (0, 5, 2) ∧
  decode (cM m_Bench_slideAlongChronology) 21 = .ok (.areturn, 1) :=
  ⟨rfl, rfl, rfl, rfl, by decide +kernel, by decide +kernel, rfl, by decide +kernel, by decide +kernel, rfl, rfl, rfl, rfl, rfl, by decide +kernel, by decide +kernel, by decide +kernel, rfl, by decide +kernel, by decide +kernel, rfl, rfl, rfl, rfl, rfl, by decide +kernel, by decide +kernel, rfl, by decide +kernel⟩
set_option maxRecDepth 100000 in
set_option maxHeartbeats 4000000 in
theorem C_Bench_measureWithin : oM m_Bench_measureWithin = 0 ∧
  rkM m_Bench_measureWithin = 0 ∧
  dM m_Bench_measureWithin = 2 ∧
  lM m_Bench_measureWithin = 3 ∧
  decode (cM m_Bench_measureWithin) 0 = .ok (.aload_n 0, 1) ∧
  decode (cM m_Bench_measureWithin) 1 = .ok (.getfield 36, 3) ∧
  fldT 0 36 = some (0, 5, 2) ∧
  decode (cM m_Bench_measureWithin) 4 = .ok (.aload_n 1, 1) ∧
  decode (cM m_Bench_measureWithin) 5 = .ok (.aload_n 0, 1) ∧
  decode (cM m_Bench_measureWithin) 6 = .ok (.getfield 20, 3) ∧
  fldT 0 20 = some (0, 1, 2) ∧
  decode (cM m_Bench_measureWithin) 9 = .ok (.bipush (-24), 2) ∧
  decode (cM m_Bench_measureWithin) 11 = .ok (.iload_n 2, 1) ∧
  decode (cM m_Bench_measureWithin) 12 = .ok (.sipush 924, 3) ∧
  decode (cM m_Bench_measureWithin) 15 = .ok (.invokestatic 85, 3) ∧
  invT 0 85 = some (0, 4) ∧
  decode (cM m_Bench_measureWithin) 18 = .ok (.invokestatic 91, 3) ∧
  invT 0 91 = some (0, 3) ∧
  decode (cM m_Bench_measureWithin) 21 = .ok (.invokevirtual 94, 3) ∧
  invT 0 94 = some (m_Slide_measure, 0) ∧
  nM m_Slide_measure = 4 ∧
  oM m_Slide_measure = 7 ∧
  rkM m_Slide_measure = 0 ∧
  dM m_Slide_measure = 1 ∧
  decode (cM m_Bench_measureWithin) 24 = .ok (.return_, 1) :=
  ⟨rfl, rfl, rfl, rfl, by decide +kernel, by decide +kernel, rfl, by decide +kernel, by decide +kernel, by decide +kernel, rfl, by decide +kernel, by decide +kernel, by decide +kernel, by decide +kernel, rfl, by decide +kernel, rfl, by decide +kernel, rfl, rfl, rfl, rfl, rfl, by decide +kernel⟩
set_option maxRecDepth 100000 in
set_option maxHeartbeats 4000000 in
theorem C_Bench_laidOut : oM m_Bench_laidOut = 0 ∧
  rkM m_Bench_laidOut = 3 ∧
  dM m_Bench_laidOut = 4 ∧
  lM m_Bench_laidOut = 2 ∧
  decode (cM m_Bench_laidOut) 0 = .ok (.aload_n 0, 1) ∧
  decode (cM m_Bench_laidOut) 1 = .ok (.getfield 20, 3) ∧
  fldT 0 20 = some (0, 1, 2) ∧
  decode (cM m_Bench_laidOut) 4 = .ok (.aload_n 1, 1) ∧
  decode (cM m_Bench_laidOut) 5 = .ok (.invokestatic 54, 3) ∧
  invT 0 54 = some (m_Bench_lay, 1) ∧
  nM m_Bench_lay = 2 ∧
  oM m_Bench_lay = 0 ∧
  rkM m_Bench_lay = 0 ∧
  dM m_Bench_lay = 3 ∧
  decode (cM m_Bench_laidOut) 8 = .ok (.aload_n 0, 1) ∧
  decode (cM m_Bench_laidOut) 9 = .ok (.getfield 20, 3) ∧
  decode (cM m_Bench_laidOut) 12 = .ok (.areturn, 1) :=
  ⟨rfl, rfl, rfl, rfl, by decide +kernel, by decide +kernel, rfl, by decide +kernel, by decide +kernel, rfl, rfl, rfl, rfl, rfl, by decide +kernel, by decide +kernel, by decide +kernel⟩
set_option maxRecDepth 100000 in
set_option maxHeartbeats 4000000 in
theorem C_Bench_slideAlong : oM m_Bench_slideAlong = 0 ∧
  rkM m_Bench_slideAlong = 3 ∧
  dM m_Bench_slideAlong = 4 ∧
  lM m_Bench_slideAlong = 4 ∧
  decode (cM m_Bench_slideAlong) 0 = .ok (.aload_n 0, 1) ∧
  decode (cM m_Bench_slideAlong) 1 = .ok (.getfield 14, 3) ∧
  fldT 0 14 = some (0, 0, 2) ∧
  decode (cM m_Bench_slideAlong) 4 = .ok (.aload_n 2, 1) ∧
  decode (cM m_Bench_slideAlong) 5 = .ok (.invokestatic 54, 3) ∧
  invT 0 54 = some (m_Bench_lay, 1) ∧
  nM m_Bench_lay = 2 ∧
  oM m_Bench_lay = 0 ∧
  rkM m_Bench_lay = 0 ∧
  dM m_Bench_lay = 3 ∧
  decode (cM m_Bench_slideAlong) 8 = .ok (.aload_n 0, 1) ∧
  decode (cM m_Bench_slideAlong) 9 = .ok (.getfield 20, 3) ∧
  fldT 0 20 = some (0, 1, 2) ∧
  decode (cM m_Bench_slideAlong) 12 = .ok (.aload_n 1, 1) ∧
  decode (cM m_Bench_slideAlong) 13 = .ok (.invokestatic 54, 3) ∧
  decode (cM m_Bench_slideAlong) 16 = .ok (.aload_n 0, 1) ∧
  decode (cM m_Bench_slideAlong) 17 = .ok (.aload_n 0, 1) ∧
  decode (cM m_Bench_slideAlong) 18 = .ok (.getfield 14, 3) ∧
  decode (cM m_Bench_slideAlong) 21 = .ok (.iload_n 3, 1) ∧
  decode (cM m_Bench_slideAlong) 22 = .ok (.invokevirtual 81, 3) ∧
  invT 0 81 = some (m_Bench_measureWithin, 0) ∧
  nM m_Bench_measureWithin = 3 ∧
  oM m_Bench_measureWithin = 0 ∧
  rkM m_Bench_measureWithin = 0 ∧
  dM m_Bench_measureWithin = 2 ∧
  decode (cM m_Bench_slideAlong) 25 = .ok (.aload_n 0, 1) ∧
  decode (cM m_Bench_slideAlong) 26 = .ok (.getfield 36, 3) ∧
  fldT 0 36 = some (0, 5, 2) ∧
  decode (cM m_Bench_slideAlong) 29 = .ok (.areturn, 1) :=
  ⟨rfl, rfl, rfl, rfl, by decide +kernel, by decide +kernel, rfl, by decide +kernel, by decide +kernel, rfl, rfl, rfl, rfl, rfl, by decide +kernel, by decide +kernel, rfl, by decide +kernel, by decide +kernel, by decide +kernel, by decide +kernel, by decide +kernel, by decide +kernel, by decide +kernel, rfl, rfl, rfl, rfl, rfl, by decide +kernel, by decide +kernel, rfl, by decide +kernel⟩
set_option maxRecDepth 100000 in
set_option maxHeartbeats 4000000 in
theorem C_Finding_seek : oM m_Finding_seek = 1 ∧
  rkM m_Finding_seek = 0 ∧
  dM m_Finding_seek = 2 ∧
  lM m_Finding_seek = 5 ∧
  decode (cM m_Finding_seek) 0 = .ok (.aload_n 0, 1) ∧
  decode (cM m_Finding_seek) 1 = .ok (.iconst 0, 1) ∧
  decode (cM m_Finding_seek) 2 = .ok (.putfield 18, 3) ∧
  fldT 1 18 = some (1, 1, 1) ∧
  decode (cM m_Finding_seek) 5 = .ok (.aload_n 0, 1) ∧
  decode (cM m_Finding_seek) 6 = .ok (.iconst (-1), 1) ∧
  decode (cM m_Finding_seek) 7 = .ok (.putfield 22, 3) ∧
  fldT 1 22 = some (1, 5, 0) ∧
  decode (cM m_Finding_seek) 10 = .ok (.iconst 1, 1) ∧
  decode (cM m_Finding_seek) 11 = .ok (.aload_n 2, 1) ∧
  decode (cM m_Finding_seek) 12 = .ok (.getfield 26, 3) ∧
  fldT 1 26 = some (6, 7, 0) ∧
  decode (cM m_Finding_seek) 15 = .ok (.isub, 1) ∧
  decode (cM m_Finding_seek) 16 = .ok (.istore 4, 2) ∧
  decode (cM m_Finding_seek) 18 = .ok (.iload 4, 2) ∧
  decode (cM m_Finding_seek) 20 = .ok (.aload_n 1, 1) ∧
  decode (cM m_Finding_seek) 21 = .ok (.getfield 26, 3) ∧
  decode (cM m_Finding_seek) 24 = .ok (.if_icmp .ge 37, 3) ∧
  am_okt 24 37 ∧
  am_tgt 24 37 = 61 ∧
  decode (cM m_Finding_seek) 27 = .ok (.aload_n 1, 1) ∧
  decode (cM m_Finding_seek) 28 = .ok (.aload_n 2, 1) ∧
  decode (cM m_Finding_seek) 29 = .ok (.iload 4, 2) ∧
  decode (cM m_Finding_seek) 31 = .ok (.invokestatic 31, 3) ∧
  invT 1 31 = some (m_Finding_countPairs, 1) ∧
  nM m_Finding_countPairs = 3 ∧
  oM m_Finding_countPairs = 1 ∧
  rkM m_Finding_countPairs = 1 ∧
  dM m_Finding_countPairs = 1 ∧
  decode (cM m_Finding_seek) 34 = .ok (.iload_n 3, 1) ∧
  decode (cM m_Finding_seek) 35 = .ok (.if_icmp .lt 20, 3) ∧
  am_okt 35 20 ∧
  am_tgt 35 20 = 55 ∧
  decode (cM m_Finding_seek) 38 = .ok (.aload_n 0, 1) ∧
  decode (cM m_Finding_seek) 39 = .ok (.getfield 12, 3) ∧
  fldT 1 12 = some (1, 0, 2) ∧
  decode (cM m_Finding_seek) 42 = .ok (.aload_n 1, 1) ∧
  decode (cM m_Finding_seek) 43 = .ok (.aload_n 2, 1) ∧
  decode (cM m_Finding_seek) 44 = .ok (.iload 4, 2) ∧
  decode (cM m_Finding_seek) 46 = .ok (.invokevirtual 35, 3) ∧
  invT 1 35 = some (m_Slide_measure, 0) ∧
  nM m_Slide_measure = 4 ∧
  oM m_Slide_measure = 7 ∧
  rkM m_Slide_measure = 0 ∧
  dM m_Slide_measure = 1 ∧
  decode (cM m_Finding_seek) 49 = .ok (.aload_n 0, 1) ∧
  decode (cM m_Finding_seek) 50 = .ok (.iload 4, 2) ∧
  decode (cM m_Finding_seek) 52 = .ok (.invokevirtual 39, 3) ∧
  invT 1 39 = some (m_Finding_weigh, 0) ∧
  nM m_Finding_weigh = 2 ∧
  oM m_Finding_weigh = 1 ∧
  rkM m_Finding_weigh = 0 ∧
  dM m_Finding_weigh = 1 ∧
  decode (cM m_Finding_seek) 55 = .ok (.iinc 4 1, 3) ∧
  decode (cM m_Finding_seek) 58 = .ok (.goto (-40), 3) ∧
  am_okt 58 (-40) ∧
  am_tgt 58 (-40) = 18 ∧
  decode (cM m_Finding_seek) 61 = .ok (.return_, 1) :=
  ⟨rfl, rfl, rfl, rfl, by decide +kernel, by decide +kernel, by decide +kernel, rfl, by decide +kernel, by decide +kernel, by decide +kernel, rfl, by decide +kernel, by decide +kernel, by decide +kernel, rfl, by decide +kernel, by decide +kernel, by decide +kernel, by decide +kernel, by decide +kernel, by decide +kernel, rfl, rfl, by decide +kernel, by decide +kernel, by decide +kernel, by decide +kernel, rfl, rfl, rfl, rfl, rfl, by decide +kernel, by decide +kernel, rfl, rfl, by decide +kernel, by decide +kernel, rfl, by decide +kernel, by decide +kernel, by decide +kernel, by decide +kernel, rfl, rfl, rfl, rfl, rfl, by decide +kernel, by decide +kernel, by decide +kernel, rfl, rfl, rfl, rfl, rfl, by decide +kernel, by decide +kernel, rfl, rfl, by decide +kernel⟩
set_option maxRecDepth 100000 in
set_option maxHeartbeats 4000000 in
theorem C_Finding_countPairs : oM m_Finding_countPairs = 1 ∧
  rkM m_Finding_countPairs = 1 ∧
  dM m_Finding_countPairs = 1 ∧
  lM m_Finding_countPairs = 3 ∧
  decode (cM m_Finding_countPairs) 0 = .ok (.aload_n 0, 1) ∧
  decode (cM m_Finding_countPairs) 1 = .ok (.iconst 0, 1) ∧
  decode (cM m_Finding_countPairs) 2 = .ok (.iload_n 2, 1) ∧
  decode (cM m_Finding_countPairs) 3 = .ok (.invokestatic 43, 3) ∧
  invT 1 43 = some (0, 3) ∧
  decode (cM m_Finding_countPairs) 6 = .ok (.aload_n 0, 1) ∧
  decode (cM m_Finding_countPairs) 7 = .ok (.getfield 26, 3) ∧
  fldT 1 26 = some (6, 7, 0) ∧
  decode (cM m_Finding_countPairs) 10 = .ok (.aload_n 1, 1) ∧
  decode (cM m_Finding_countPairs) 11 = .ok (.getfield 26, 3) ∧
  decode (cM m_Finding_countPairs) 14 = .ok (.iload_n 2, 1) ∧
  decode (cM m_Finding_countPairs) 15 = .ok (.iadd, 1) ∧
  decode (cM m_Finding_countPairs) 16 = .ok (.invokestatic 49, 3) ∧
  invT 1 49 = some (0, 4) ∧
  decode (cM m_Finding_countPairs) 19 = .ok (.invokevirtual 52, 3) ∧
  invT 1 52 = some (m_Row_numbersFrom, 0) ∧
  nM m_Row_numbersFrom = 3 ∧
  oM m_Row_numbersFrom = 6 ∧
  rkM m_Row_numbersFrom = 1 ∧
  dM m_Row_numbersFrom = 0 ∧
  decode (cM m_Finding_countPairs) 22 = .ok (.ireturn, 1) :=
  ⟨rfl, rfl, rfl, rfl, by decide +kernel, by decide +kernel, by decide +kernel, by decide +kernel, rfl, by decide +kernel, by decide +kernel, rfl, by decide +kernel, by decide +kernel, by decide +kernel, by decide +kernel, by decide +kernel, rfl, by decide +kernel, rfl, rfl, rfl, rfl, rfl, by decide +kernel⟩
set_option maxRecDepth 100000 in
set_option maxHeartbeats 4000000 in
theorem C_Finding_weigh : oM m_Finding_weigh = 1 ∧
  rkM m_Finding_weigh = 0 ∧
  dM m_Finding_weigh = 1 ∧
  lM m_Finding_weigh = 2 ∧
  decode (cM m_Finding_weigh) 0 = .ok (.aload_n 0, 1) ∧
  decode (cM m_Finding_weigh) 1 = .ok (.getfield 18, 3) ∧
  fldT 1 18 = some (1, 1, 1) ∧
  decode (cM m_Finding_weigh) 4 = .ok (.ifCond .eq 64, 3) ∧
  am_okt 4 64 ∧
  am_tgt 4 64 = 68 ∧
  decode (cM m_Finding_weigh) 7 = .ok (.aload_n 0, 1) ∧
  decode (cM m_Finding_weigh) 8 = .ok (.getfield 12, 3) ∧
  fldT 1 12 = some (1, 0, 2) ∧
  decode (cM m_Finding_weigh) 11 = .ok (.getfield 55, 3) ∧
  fldT 1 55 = some (7, 3, 0) ∧
  decode (cM m_Finding_weigh) 14 = .ok (.aload_n 0, 1) ∧
  decode (cM m_Finding_weigh) 15 = .ok (.getfield 58, 3) ∧
  fldT 1 58 = some (1, 3, 0) ∧
  decode (cM m_Finding_weigh) 18 = .ok (.if_icmp .lt 31, 3) ∧
  am_okt 18 31 ∧
  am_tgt 18 31 = 49 ∧
  decode (cM m_Finding_weigh) 21 = .ok (.aload_n 0, 1) ∧
  decode (cM m_Finding_weigh) 22 = .ok (.getfield 12, 3) ∧
  decode (cM m_Finding_weigh) 25 = .ok (.getfield 55, 3) ∧
  decode (cM m_Finding_weigh) 28 = .ok (.aload_n 0, 1) ∧
  decode (cM m_Finding_weigh) 29 = .ok (.getfield 58, 3) ∧
  decode (cM m_Finding_weigh) 32 = .ok (.if_icmp .ne 36, 3) ∧
  am_okt 32 36 ∧
  am_tgt 32 36 = 68 ∧
  decode (cM m_Finding_weigh) 35 = .ok (.aload_n 0, 1) ∧
  decode (cM m_Finding_weigh) 36 = .ok (.getfield 12, 3) ∧
  decode (cM m_Finding_weigh) 39 = .ok (.getfield 59, 3) ∧
  fldT 1 59 = some (7, 0, 0) ∧
  decode (cM m_Finding_weigh) 42 = .ok (.aload_n 0, 1) ∧
  decode (cM m_Finding_weigh) 43 = .ok (.getfield 62, 3) ∧
  fldT 1 62 = some (1, 4, 0) ∧
  decode (cM m_Finding_weigh) 46 = .ok (.if_icmp .gt 22, 3) ∧
  am_okt 46 22 ∧
  am_tgt 46 22 = 68 ∧
  decode (cM m_Finding_weigh) 49 = .ok (.aload_n 0, 1) ∧
  decode (cM m_Finding_weigh) 50 = .ok (.aload_n 0, 1) ∧
  decode (cM m_Finding_weigh) 51 = .ok (.getfield 22, 3) ∧
  fldT 1 22 = some (1, 5, 0) ∧
  decode (cM m_Finding_weigh) 54 = .ok (.aload_n 0, 1) ∧
  decode (cM m_Finding_weigh) 55 = .ok (.getfield 12, 3) ∧
  decode (cM m_Finding_weigh) 58 = .ok (.getfield 55, 3) ∧
  decode (cM m_Finding_weigh) 61 = .ok (.invokestatic 43, 3) ∧
  invT 1 43 = some (0, 3) ∧
  decode (cM m_Finding_weigh) 64 = .ok (.putfield 22, 3) ∧
  decode (cM m_Finding_weigh) 67 = .ok (.return_, 1) ∧
  decode (cM m_Finding_weigh) 68 = .ok (.aload_n 0, 1) ∧
  decode (cM m_Finding_weigh) 69 = .ok (.aload_n 0, 1) ∧
  decode (cM m_Finding_weigh) 70 = .ok (.getfield 18, 3) ∧
  decode (cM m_Finding_weigh) 73 = .ok (.ifCond .eq 10, 3) ∧
  am_okt 73 10 ∧
  am_tgt 73 10 = 83 ∧
  decode (cM m_Finding_weigh) 76 = .ok (.aload_n 0, 1) ∧
  decode (cM m_Finding_weigh) 77 = .ok (.getfield 58, 3) ∧
  decode (cM m_Finding_weigh) 80 = .ok (.goto 4, 3) ∧
  am_okt 80 4 ∧
  am_tgt 80 4 = 84 ∧
  decode (cM m_Finding_weigh) 83 = .ok (.iconst (-1), 1) ∧
  decode (cM m_Finding_weigh) 84 = .ok (.putfield 22, 3) ∧
  decode (cM m_Finding_weigh) 87 = .ok (.aload_n 0, 1) ∧
  decode (cM m_Finding_weigh) 88 = .ok (.iconst 1, 1) ∧
  decode (cM m_Finding_weigh) 89 = .ok (.putfield 18, 3) ∧
  decode (cM m_Finding_weigh) 92 = .ok (.aload_n 0, 1) ∧
  decode (cM m_Finding_weigh) 93 = .ok (.iload_n 1, 1) ∧
  decode (cM m_Finding_weigh) 94 = .ok (.putfield 63, 3) ∧
  fldT 1 63 = some (1, 2, 0) ∧
  decode (cM m_Finding_weigh) 97 = .ok (.aload_n 0, 1) ∧
  decode (cM m_Finding_weigh) 98 = .ok (.aload_n 0, 1) ∧
  decode (cM m_Finding_weigh) 99 = .ok (.getfield 12, 3) ∧
  decode (cM m_Finding_weigh) 102 = .ok (.getfield 55, 3) ∧
  decode (cM m_Finding_weigh) 105 = .ok (.putfield 58, 3) ∧
  decode (cM m_Finding_weigh) 108 = .ok (.aload_n 0, 1) ∧
  decode (cM m_Finding_weigh) 109 = .ok (.aload_n 0, 1) ∧
  decode (cM m_Finding_weigh) 110 = .ok (.getfield 12, 3) ∧
  decode (cM m_Finding_weigh) 113 = .ok (.getfield 59, 3) ∧
  decode (cM m_Finding_weigh) 116 = .ok (.putfield 62, 3) ∧
  decode (cM m_Finding_weigh) 119 = .ok (.return_, 1) :=
  ⟨rfl, rfl, rfl, rfl, by decide +kernel, by decide +kernel, rfl, by decide +kernel, rfl, rfl, by decide +kernel, by decide +kernel, rfl, by decide +kernel, rfl, by decide +kernel, by decide +kernel, rfl, by decide +kernel, rfl, rfl, by decide +kernel, by decide +kernel, by decide +kernel, by decide +kernel, by decide +kernel, by decide +kernel, rfl, rfl, by decide +kernel, by decide +kernel, by decide +kernel, rfl, by decide +kernel, by decide +kernel, rfl, by decide +kernel, rfl, rfl, by decide +kernel, by decide +kernel, by decide +kernel, rfl, by decide +kernel, by decide +kernel, by decide +kernel, by decide +kernel, rfl, by decide +kernel, by decide +kernel, by decide +kernel, by decide +kernel, by decide +kernel, by decide +kernel, rfl, rfl, by decide +kernel, by decide +kernel, by decide +kernel, rfl, rfl, by decide +kernel, by decide +kernel, by decide +kernel, by decide +kernel, by decide +kernel, by decide +kernel, by decide +kernel, by decide +kernel, rfl, by decide +kernel, by decide +kernel, by decide +kernel, by decide +kernel, by decide +kernel, by decide +kernel, by decide +kernel, by decide +kernel, by decide +kernel, by decide +kernel, by decide +kernel⟩
set_option maxRecDepth 100000 in
set_option maxHeartbeats 4000000 in
theorem C_Finding_whyNotSure : oM m_Finding_whyNotSure = 1 ∧
  rkM m_Finding_whyNotSure = 1 ∧
  dM m_Finding_whyNotSure = 0 ∧
  lM m_Finding_whyNotSure = 3 ∧
  decode (cM m_Finding_whyNotSure) 0 = .ok (.aload_n 0, 1) ∧
  decode (cM m_Finding_whyNotSure) 1 = .ok (.getfield 18, 3) ∧
  fldT 1 18 = some (1, 1, 1) ∧
  decode (cM m_Finding_whyNotSure) 4 = .ok (.ifCond .ne 5, 3) ∧
  am_okt 4 5 ∧
  am_tgt 4 5 = 9 ∧
  decode (cM m_Finding_whyNotSure) 7 = .ok (.iconst 1, 1) ∧
  decode (cM m_Finding_whyNotSure) 8 = .ok (.ireturn, 1) ∧
  decode (cM m_Finding_whyNotSure) 9 = .ok (.aload_n 0, 1) ∧
  decode (cM m_Finding_whyNotSure) 10 = .ok (.getfield 58, 3) ∧
  fldT 1 58 = some (1, 3, 0) ∧
  decode (cM m_Finding_whyNotSure) 13 = .ok (.iload_n 1, 1) ∧
  decode (cM m_Finding_whyNotSure) 14 = .ok (.if_icmp .ge 5, 3) ∧
  am_okt 14 5 ∧
  am_tgt 14 5 = 19 ∧
  decode (cM m_Finding_whyNotSure) 17 = .ok (.iconst 2, 1) ∧
  decode (cM m_Finding_whyNotSure) 18 = .ok (.ireturn, 1) ∧
  decode (cM m_Finding_whyNotSure) 19 = .ok (.aload_n 0, 1) ∧
  decode (cM m_Finding_whyNotSure) 20 = .ok (.getfield 22, 3) ∧
  fldT 1 22 = some (1, 5, 0) ∧
  decode (cM m_Finding_whyNotSure) 23 = .ok (.iconst (-1), 1) ∧
  decode (cM m_Finding_whyNotSure) 24 = .ok (.if_icmp .eq 20, 3) ∧
  am_okt 24 20 ∧
  am_tgt 24 20 = 44 ∧
  decode (cM m_Finding_whyNotSure) 27 = .ok (.aload_n 0, 1) ∧
  decode (cM m_Finding_whyNotSure) 28 = .ok (.getfield 58, 3) ∧
  decode (cM m_Finding_whyNotSure) 31 = .ok (.aload_n 0, 1) ∧
  decode (cM m_Finding_whyNotSure) 32 = .ok (.getfield 22, 3) ∧
  decode (cM m_Finding_whyNotSure) 35 = .ok (.isub, 1) ∧
  decode (cM m_Finding_whyNotSure) 36 = .ok (.iload_n 2, 1) ∧
  decode (cM m_Finding_whyNotSure) 37 = .ok (.if_icmp .ge 7, 3) ∧
  am_okt 37 7 ∧
  am_tgt 37 7 = 44 ∧
  decode (cM m_Finding_whyNotSure) 40 = .ok (.iconst 3, 1) ∧
  decode (cM m_Finding_whyNotSure) 41 = .ok (.goto 4, 3) ∧
  am_okt 41 4 ∧
  am_tgt 41 4 = 45 ∧
  decode (cM m_Finding_whyNotSure) 44 = .ok (.iconst 0, 1) ∧
  decode (cM m_Finding_whyNotSure) 45 = .ok (.ireturn, 1) :=
  ⟨rfl, rfl, rfl, rfl, by decide +kernel, by decide +kernel, rfl, by decide +kernel, rfl, rfl, by decide +kernel, by decide +kernel, by decide +kernel, by decide +kernel, rfl, by decide +kernel, by decide +kernel, rfl, rfl, by decide +kernel, by decide +kernel, by decide +kernel, by decide +kernel, rfl, by decide +kernel, by decide +kernel, rfl, rfl, by decide +kernel, by decide +kernel, by decide +kernel, by decide +kernel, by decide +kernel, by decide +kernel, by decide +kernel, rfl, rfl, by decide +kernel, by decide +kernel, rfl, rfl, by decide +kernel, by decide +kernel⟩
set_option maxRecDepth 100000 in
set_option maxHeartbeats 4000000 in
theorem C_Growth_run : oM m_Growth_run = 2 ∧
  rkM m_Growth_run = 1 ∧
  dM m_Growth_run = 6 ∧
  lM m_Growth_run = 6 ∧
  decode (cM m_Growth_run) 0 = .ok (.aload_n 0, 1) ∧
  decode (cM m_Growth_run) 1 = .ok (.iconst 0, 1) ∧
  decode (cM m_Growth_run) 2 = .ok (.putfield 24, 3) ∧
  fldT 2 24 = some (2, 6, 0) ∧
  decode (cM m_Growth_run) 5 = .ok (.aload_n 1, 1) ∧
  decode (cM m_Growth_run) 6 = .ok (.getfield 28, 3) ∧
  fldT 2 28 = some (8, 2, 2) ∧
  decode (cM m_Growth_run) 9 = .ok (.aload_n 0, 1) ∧
  decode (cM m_Growth_run) 10 = .ok (.getfield 21, 3) ∧
  fldT 2 21 = some (2, 3, 2) ∧
  decode (cM m_Growth_run) 13 = .ok (.invokestatic 31, 3) ∧
  invT 2 31 = some (m_RingDater_copyRow, 2) ∧
  nM m_RingDater_copyRow = 2 ∧
  oM m_RingDater_copyRow = 11 ∧
  rkM m_RingDater_copyRow = 0 ∧
  dM m_RingDater_copyRow = 0 ∧
  decode (cM m_Growth_run) 16 = .ok (.iconst 0, 1) ∧
  decode (cM m_Growth_run) 17 = .ok (.istore 4, 2) ∧
  decode (cM m_Growth_run) 19 = .ok (.iload 4, 2) ∧
  decode (cM m_Growth_run) 21 = .ok (.bipush 8, 2) ∧
  decode (cM m_Growth_run) 23 = .ok (.if_icmp .ge 95, 3) ∧
  am_okt 23 95 ∧
  am_tgt 23 95 = 118 ∧
  decode (cM m_Growth_run) 26 = .ok (.aload_n 2, 1) ∧
  decode (cM m_Growth_run) 27 = .ok (.aload_n 1, 1) ∧
  decode (cM m_Growth_run) 28 = .ok (.aload_n 0, 1) ∧
  decode (cM m_Growth_run) 29 = .ok (.getfield 21, 3) ∧
  decode (cM m_Growth_run) 32 = .ok (.iconst (-1), 1) ∧
  decode (cM m_Growth_run) 33 = .ok (.invokevirtual 35, 3) ∧
  invT 2 35 = some (m_Bench_layChronology, 0) ∧
  nM m_Bench_layChronology = 4 ∧
  oM m_Bench_layChronology = 0 ∧
  rkM m_Bench_layChronology = 0 ∧
  dM m_Bench_layChronology = 3 ∧
  decode (cM m_Growth_run) 36 = .ok (.aload_n 0, 1) ∧
  decode (cM m_Growth_run) 37 = .ok (.aload_n 1, 1) ∧
  decode (cM m_Growth_run) 38 = .ok (.aload_n 2, 1) ∧
  decode (cM m_Growth_run) 39 = .ok (.iload_n 3, 1) ∧
  decode (cM m_Growth_run) 40 = .ok (.invokevirtual 41, 3) ∧
  invT 2 41 = some (m_Growth_pick, 0) ∧
  nM m_Growth_pick = 4 ∧
  oM m_Growth_pick = 2 ∧
  rkM m_Growth_pick = 1 ∧
  dM m_Growth_pick = 5 ∧
  decode (cM m_Growth_run) 43 = .ok (.istore 5, 2) ∧
  decode (cM m_Growth_run) 45 = .ok (.iload 5, 2) ∧
  decode (cM m_Growth_run) 47 = .ok (.ifCond .lt 71, 3) ∧
  am_okt 47 71 ∧
  am_tgt 47 71 = 118 ∧
  decode (cM m_Growth_run) 50 = .ok (.iload 5, 2) ∧
  decode (cM m_Growth_run) 52 = .ok (.bipush 8, 2) ∧
  decode (cM m_Growth_run) 54 = .ok (.if_icmp .lt 6, 3) ∧
  am_okt 54 6 ∧
  am_tgt 54 6 = 60 ∧
  decode (cM m_Growth_run) 57 = .ok (.goto 61, 3) ∧
  am_okt 57 61 ∧
  am_tgt 57 61 = 118 ∧
  decode (cM m_Growth_run) 60 = .ok (.aload_n 0, 1) ∧
  decode (cM m_Growth_run) 61 = .ok (.getfield 21, 3) ∧
  decode (cM m_Growth_run) 64 = .ok (.iload 5, 2) ∧
  decode (cM m_Growth_run) 66 = .ok (.aload_n 0, 1) ∧
  decode (cM m_Growth_run) 67 = .ok (.getfield 45, 3) ∧
  fldT 2 45 = some (2, 4, 0) ∧
  decode (cM m_Growth_run) 70 = .ok (.iastore, 1) ∧
  decode (cM m_Growth_run) 71 = .ok (.aload_n 0, 1) ∧
  decode (cM m_Growth_run) 72 = .ok (.getfield 9, 3) ∧
  fldT 2 9 = some (2, 0, 2) ∧
  decode (cM m_Growth_run) 75 = .ok (.iload 4, 2) ∧
  decode (cM m_Growth_run) 77 = .ok (.iload 5, 2) ∧
  decode (cM m_Growth_run) 79 = .ok (.iastore, 1) ∧
  decode (cM m_Growth_run) 80 = .ok (.aload_n 0, 1) ∧
  decode (cM m_Growth_run) 81 = .ok (.getfield 15, 3) ∧
  fldT 2 15 = some (2, 1, 2) ∧
  decode (cM m_Growth_run) 84 = .ok (.iload 4, 2) ∧
  decode (cM m_Growth_run) 86 = .ok (.aload_n 0, 1) ∧
  decode (cM m_Growth_run) 87 = .ok (.getfield 45, 3) ∧
  decode (cM m_Growth_run) 90 = .ok (.iastore, 1) ∧
  decode (cM m_Growth_run) 91 = .ok (.aload_n 0, 1) ∧
  decode (cM m_Growth_run) 92 = .ok (.getfield 18, 3) ∧
  fldT 2 18 = some (2, 2, 2) ∧
  decode (cM m_Growth_run) 95 = .ok (.iload 4, 2) ∧
  decode (cM m_Growth_run) 97 = .ok (.aload_n 0, 1) ∧
  decode (cM m_Growth_run) 98 = .ok (.getfield 48, 3) ∧
  fldT 2 48 = some (2, 5, 0) ∧
  decode (cM m_Growth_run) 101 = .ok (.iastore, 1) ∧
  decode (cM m_Growth_run) 102 = .ok (.aload_n 0, 1) ∧
  decode (cM m_Growth_run) 103 = .ok (.dup, 1) ∧
  decode (cM m_Growth_run) 104 = .ok (.getfield 24, 3) ∧
  decode (cM m_Growth_run) 107 = .ok (.iconst 1, 1) ∧
  decode (cM m_Growth_run) 108 = .ok (.iadd, 1) ∧
  decode (cM m_Growth_run) 109 = .ok (.putfield 24, 3) ∧
  decode (cM m_Growth_run) 112 = .ok (.iinc 4 1, 3) ∧
  decode (cM m_Growth_run) 115 = .ok (.goto (-96), 3) ∧
  am_okt 115 (-96) ∧
  am_tgt 115 (-96) = 19 ∧
  decode (cM m_Growth_run) 118 = .ok (.aload_n 0, 1) ∧
  decode (cM m_Growth_run) 119 = .ok (.getfield 24, 3) ∧
  decode (cM m_Growth_run) 122 = .ok (.ireturn, 1) :=
  ⟨rfl, rfl, rfl, rfl, by decide +kernel, by decide +kernel, by decide +kernel, rfl, by decide +kernel, by decide +kernel, rfl, by decide +kernel, by decide +kernel, rfl, by decide +kernel, rfl, rfl, rfl, rfl, rfl, by decide +kernel, by decide +kernel, by decide +kernel, by decide +kernel, by decide +kernel, rfl, rfl, by decide +kernel, by decide +kernel, by decide +kernel, by decide +kernel, by decide +kernel, by decide +kernel, rfl, rfl, rfl, rfl, rfl, by decide +kernel, by decide +kernel, by decide +kernel, by decide +kernel, by decide +kernel, rfl, rfl, rfl, rfl, rfl, by decide +kernel, by decide +kernel, by decide +kernel, rfl, rfl, by decide +kernel, by decide +kernel, by decide +kernel, rfl, rfl, by decide +kernel, rfl, rfl, by decide +kernel, by decide +kernel, by decide +kernel, by decide +kernel, by decide +kernel, rfl, by decide +kernel, by decide +kernel, by decide +kernel, rfl, by decide +kernel, by decide +kernel, by decide +kernel, by decide +kernel, by decide +kernel, rfl, by decide +kernel, by decide +kernel, by decide +kernel, by decide +kernel, by decide +kernel, by decide +kernel, rfl, by decide +kernel, by decide +kernel, by decide +kernel, rfl, by decide +kernel, by decide +kernel, by decide +kernel, by decide +kernel, by decide +kernel, by decide +kernel, by decide +kernel, by decide +kernel, by decide +kernel, rfl, rfl, by decide +kernel, by decide +kernel, by decide +kernel⟩
set_option maxRecDepth 100000 in
set_option maxHeartbeats 4000000 in
theorem C_Growth_pick : oM m_Growth_pick = 2 ∧
  rkM m_Growth_pick = 1 ∧
  dM m_Growth_pick = 5 ∧
  lM m_Growth_pick = 9 ∧
  decode (cM m_Growth_pick) 0 = .ok (.iconst (-1), 1) ∧
  decode (cM m_Growth_pick) 1 = .ok (.istore 4, 2) ∧
  decode (cM m_Growth_pick) 3 = .ok (.iconst 0, 1) ∧
  decode (cM m_Growth_pick) 4 = .ok (.istore 5, 2) ∧
  decode (cM m_Growth_pick) 6 = .ok (.iload 5, 2) ∧
  decode (cM m_Growth_pick) 8 = .ok (.aload_n 1, 1) ∧
  decode (cM m_Growth_pick) 9 = .ok (.getfield 51, 3) ∧
  fldT 2 51 = some (8, 3, 0) ∧
  decode (cM m_Growth_pick) 12 = .ok (.if_icmp .ge 128, 3) ∧
  am_okt 12 128 ∧
  am_tgt 12 128 = 140 ∧
  decode (cM m_Growth_pick) 15 = .ok (.iload 5, 2) ∧
  decode (cM m_Growth_pick) 17 = .ok (.bipush 8, 2) ∧
  decode (cM m_Growth_pick) 19 = .ok (.if_icmp .ge 121, 3) ∧
  am_okt 19 121 ∧
  am_tgt 19 121 = 140 ∧
  decode (cM m_Growth_pick) 22 = .ok (.aload_n 0, 1) ∧
  decode (cM m_Growth_pick) 23 = .ok (.getfield 21, 3) ∧
  fldT 2 21 = some (2, 3, 2) ∧
  decode (cM m_Growth_pick) 26 = .ok (.iload 5, 2) ∧
  decode (cM m_Growth_pick) 28 = .ok (.iaload, 1) ∧
  decode (cM m_Growth_pick) 29 = .ok (.iconst (-1), 1) ∧
  decode (cM m_Growth_pick) 30 = .ok (.if_icmp .eq 6, 3) ∧
  am_okt 30 6 ∧
  am_tgt 30 6 = 36 ∧
  decode (cM m_Growth_pick) 33 = .ok (.goto 101, 3) ∧
  am_okt 33 101 ∧
  am_tgt 33 101 = 134 ∧
  decode (cM m_Growth_pick) 36 = .ok (.aload_n 2, 1) ∧
  decode (cM m_Growth_pick) 37 = .ok (.aload_n 1, 1) ∧
  decode (cM m_Growth_pick) 38 = .ok (.iload 5, 2) ∧
  decode (cM m_Growth_pick) 40 = .ok (.invokevirtual 52, 3) ∧
  invT 2 52 = some (m_Stock_timberAt, 0) ∧
  nM m_Stock_timberAt = 2 ∧
  oM m_Stock_timberAt = 8 ∧
  rkM m_Stock_timberAt = 3 ∧
  dM m_Stock_timberAt = 1 ∧
  decode (cM m_Growth_pick) 43 = .ok (.aload_n 1, 1) ∧
  decode (cM m_Growth_pick) 44 = .ok (.getfield 56, 3) ∧
  fldT 2 56 = some (8, 5, 0) ∧
  decode (cM m_Growth_pick) 47 = .ok (.invokevirtual 59, 3) ∧
  invT 2 59 = some (m_Bench_seekOnChronology, 0) ∧
  nM m_Bench_seekOnChronology = 3 ∧
  oM m_Bench_seekOnChronology = 0 ∧
  rkM m_Bench_seekOnChronology = 3 ∧
  dM m_Bench_seekOnChronology = 4 ∧
  decode (cM m_Growth_pick) 50 = .ok (.astore 6, 2) ∧
  decode (cM m_Growth_pick) 52 = .ok (.aload 6, 2) ∧
  decode (cM m_Growth_pick) 54 = .ok (.iload_n 3, 1) ∧
  decode (cM m_Growth_pick) 55 = .ok (.aload_n 1, 1) ∧
  decode (cM m_Growth_pick) 56 = .ok (.getfield 63, 3) ∧
  fldT 2 63 = some (8, 6, 0) ∧
  decode (cM m_Growth_pick) 59 = .ok (.invokevirtual 66, 3) ∧
  invT 2 66 = some (m_Finding_whyNotSure, 0) ∧
  nM m_Finding_whyNotSure = 3 ∧
  oM m_Finding_whyNotSure = 1 ∧
  rkM m_Finding_whyNotSure = 1 ∧
  dM m_Finding_whyNotSure = 0 ∧
  decode (cM m_Growth_pick) 62 = .ok (.ifCond .ne 7, 3) ∧
  am_okt 62 7 ∧
  am_tgt 62 7 = 69 ∧
  decode (cM m_Growth_pick) 65 = .ok (.iconst 1, 1) ∧
  decode (cM m_Growth_pick) 66 = .ok (.goto 4, 3) ∧
  am_okt 66 4 ∧
  am_tgt 66 4 = 70 ∧
  decode (cM m_Growth_pick) 69 = .ok (.iconst 0, 1) ∧
  decode (cM m_Growth_pick) 70 = .ok (.istore 7, 2) ∧
  decode (cM m_Growth_pick) 72 = .ok (.aload_n 2, 1) ∧
  decode (cM m_Growth_pick) 73 = .ok (.getfield 72, 3) ∧
  fldT 2 72 = some (0, 7, 0) ∧
  decode (cM m_Growth_pick) 76 = .ok (.aload 6, 2) ∧
  decode (cM m_Growth_pick) 78 = .ok (.getfield 75, 3) ∧
  fldT 2 75 = some (1, 2, 0) ∧
  decode (cM m_Growth_pick) 81 = .ok (.iadd, 1) ∧
  decode (cM m_Growth_pick) 82 = .ok (.istore 8, 2) ∧
  decode (cM m_Growth_pick) 84 = .ok (.iload 7, 2) ∧
  decode (cM m_Growth_pick) 86 = .ok (.ifCond .eq 48, 3) ∧
  am_okt 86 48 ∧
  am_tgt 86 48 = 134 ∧
  decode (cM m_Growth_pick) 89 = .ok (.iload 8, 2) ∧
  decode (cM m_Growth_pick) 91 = .ok (.invokestatic 78, 3) ∧
  invT 2 78 = some (m_RingDater_isYear, 2) ∧
  nM m_RingDater_isYear = 1 ∧
  oM m_RingDater_isYear = 11 ∧
  rkM m_RingDater_isYear = 2 ∧
  dM m_RingDater_isYear = 0 ∧
  decode (cM m_Growth_pick) 94 = .ok (.ifCond .eq 40, 3) ∧
  am_okt 94 40 ∧
  am_tgt 94 40 = 134 ∧
  decode (cM m_Growth_pick) 97 = .ok (.iload 4, 2) ∧
  decode (cM m_Growth_pick) 99 = .ok (.iconst (-1), 1) ∧
  decode (cM m_Growth_pick) 100 = .ok (.if_icmp .eq 15, 3) ∧
  am_okt 100 15 ∧
  am_tgt 100 15 = 115 ∧
  decode (cM m_Growth_pick) 103 = .ok (.aload 6, 2) ∧
  decode (cM m_Growth_pick) 105 = .ok (.getfield 82, 3) ∧
  fldT 2 82 = some (1, 3, 0) ∧
  decode (cM m_Growth_pick) 108 = .ok (.aload_n 0, 1) ∧
  decode (cM m_Growth_pick) 109 = .ok (.getfield 48, 3) ∧
  fldT 2 48 = some (2, 5, 0) ∧
  decode (cM m_Growth_pick) 112 = .ok (.if_icmp .le 22, 3) ∧
  am_okt 112 22 ∧
  am_tgt 112 22 = 134 ∧
  decode (cM m_Growth_pick) 115 = .ok (.iload 5, 2) ∧
  decode (cM m_Growth_pick) 117 = .ok (.istore 4, 2) ∧
  decode (cM m_Growth_pick) 119 = .ok (.aload_n 0, 1) ∧
  decode (cM m_Growth_pick) 120 = .ok (.iload 8, 2) ∧
  decode (cM m_Growth_pick) 122 = .ok (.putfield 45, 3) ∧
  fldT 2 45 = some (2, 4, 0) ∧
  decode (cM m_Growth_pick) 125 = .ok (.aload_n 0, 1) ∧
  decode (cM m_Growth_pick) 126 = .ok (.aload 6, 2) ∧
  decode (cM m_Growth_pick) 128 = .ok (.getfield 82, 3) ∧
  decode (cM m_Growth_pick) 131 = .ok (.putfield 48, 3) ∧
  decode (cM m_Growth_pick) 134 = .ok (.iinc 5 1, 3) ∧
  decode (cM m_Growth_pick) 137 = .ok (.goto (-131), 3) ∧
  am_okt 137 (-131) ∧
  am_tgt 137 (-131) = 6 ∧
  decode (cM m_Growth_pick) 140 = .ok (.iload 4, 2) ∧
  decode (cM m_Growth_pick) 142 = .ok (.ireturn, 1) :=
  ⟨rfl, rfl, rfl, rfl, by decide +kernel, by decide +kernel, by decide +kernel, by decide +kernel, by decide +kernel, by decide +kernel, by decide +kernel, rfl, by decide +kernel, rfl, rfl, by decide +kernel, by decide +kernel, by decide +kernel, rfl, rfl, by decide +kernel, by decide +kernel, rfl, by decide +kernel, by decide +kernel, by decide +kernel, by decide +kernel, rfl, rfl, by decide +kernel, rfl, rfl, by decide +kernel, by decide +kernel, by decide +kernel, by decide +kernel, rfl, rfl, rfl, rfl, rfl, by decide +kernel, by decide +kernel, rfl, by decide +kernel, rfl, rfl, rfl, rfl, rfl, by decide +kernel, by decide +kernel, by decide +kernel, by decide +kernel, by decide +kernel, rfl, by decide +kernel, rfl, rfl, rfl, rfl, rfl, by decide +kernel, rfl, rfl, by decide +kernel, by decide +kernel, rfl, rfl, by decide +kernel, by decide +kernel, by decide +kernel, by decide +kernel, rfl, by decide +kernel, by decide +kernel, rfl, by decide +kernel, by decide +kernel, by decide +kernel, by decide +kernel, rfl, rfl, by decide +kernel, by decide +kernel, rfl, rfl, rfl, rfl, rfl, by decide +kernel, rfl, rfl, by decide +kernel, by decide +kernel, by decide +kernel, rfl, rfl, by decide +kernel, by decide +kernel, rfl, by decide +kernel, by decide +kernel, rfl, by decide +kernel, rfl, rfl, by decide +kernel, by decide +kernel, by decide +kernel, by decide +kernel, by decide +kernel, rfl, by decide +kernel, by decide +kernel, by decide +kernel, by decide +kernel, by decide +kernel, by decide +kernel, rfl, rfl, by decide +kernel, by decide +kernel⟩
set_option maxRecDepth 100000 in
set_option maxHeartbeats 4000000 in
theorem C_Growth_bits : oM m_Growth_bits = 2 ∧
  rkM m_Growth_bits = 1 ∧
  dM m_Growth_bits = 1 ∧
  lM m_Growth_bits = 3 ∧
  decode (cM m_Growth_bits) 0 = .ok (.iconst 0, 1) ∧
  decode (cM m_Growth_bits) 1 = .ok (.istore_n 1, 1) ∧
  decode (cM m_Growth_bits) 2 = .ok (.iconst 0, 1) ∧
  decode (cM m_Growth_bits) 3 = .ok (.istore_n 2, 1) ∧
  decode (cM m_Growth_bits) 4 = .ok (.iload_n 2, 1) ∧
  decode (cM m_Growth_bits) 5 = .ok (.aload_n 0, 1) ∧
  decode (cM m_Growth_bits) 6 = .ok (.getfield 24, 3) ∧
  fldT 2 24 = some (2, 6, 0) ∧
  decode (cM m_Growth_bits) 9 = .ok (.if_icmp .ge 20, 3) ∧
  am_okt 9 20 ∧
  am_tgt 9 20 = 29 ∧
  decode (cM m_Growth_bits) 12 = .ok (.iload_n 1, 1) ∧
  decode (cM m_Growth_bits) 13 = .ok (.iconst 1, 1) ∧
  decode (cM m_Growth_bits) 14 = .ok (.aload_n 0, 1) ∧
  decode (cM m_Growth_bits) 15 = .ok (.iload_n 2, 1) ∧
  decode (cM m_Growth_bits) 16 = .ok (.iconst 0, 1) ∧
  decode (cM m_Growth_bits) 17 = .ok (.invokevirtual 85, 3) ∧
  invT 2 85 = some (m_Growth_tell, 0) ∧
  nM m_Growth_tell = 3 ∧
  oM m_Growth_tell = 2 ∧
  rkM m_Growth_tell = 1 ∧
  dM m_Growth_tell = 0 ∧
  decode (cM m_Growth_bits) 20 = .ok (.ishl, 1) ∧
  decode (cM m_Growth_bits) 21 = .ok (.ior, 1) ∧
  decode (cM m_Growth_bits) 22 = .ok (.istore_n 1, 1) ∧
  decode (cM m_Growth_bits) 23 = .ok (.iinc 2 1, 3) ∧
  decode (cM m_Growth_bits) 26 = .ok (.goto (-22), 3) ∧
  am_okt 26 (-22) ∧
  am_tgt 26 (-22) = 4 ∧
  decode (cM m_Growth_bits) 29 = .ok (.iload_n 1, 1) ∧
  decode (cM m_Growth_bits) 30 = .ok (.ireturn, 1) :=
  ⟨rfl, rfl, rfl, rfl, by decide +kernel, by decide +kernel, by decide +kernel, by decide +kernel, by decide +kernel, by decide +kernel, by decide +kernel, rfl, by decide +kernel, rfl, rfl, by decide +kernel, by decide +kernel, by decide +kernel, by decide +kernel, by decide +kernel, by decide +kernel, rfl, rfl, rfl, rfl, rfl, by decide +kernel, by decide +kernel, by decide +kernel, by decide +kernel, by decide +kernel, rfl, rfl, by decide +kernel, by decide +kernel⟩
set_option maxRecDepth 100000 in
set_option maxHeartbeats 4000000 in
theorem C_Growth_tell : oM m_Growth_tell = 2 ∧
  rkM m_Growth_tell = 1 ∧
  dM m_Growth_tell = 0 ∧
  lM m_Growth_tell = 3 ∧
  decode (cM m_Growth_tell) 0 = .ok (.iload_n 1, 1) ∧
  decode (cM m_Growth_tell) 1 = .ok (.ifCond .lt 17, 3) ∧
  am_okt 1 17 ∧
  am_tgt 1 17 = 18 ∧
  decode (cM m_Growth_tell) 4 = .ok (.iload_n 1, 1) ∧
  decode (cM m_Growth_tell) 5 = .ok (.aload_n 0, 1) ∧
  decode (cM m_Growth_tell) 6 = .ok (.getfield 24, 3) ∧
  fldT 2 24 = some (2, 6, 0) ∧
  decode (cM m_Growth_tell) 9 = .ok (.if_icmp .ge 9, 3) ∧
  am_okt 9 9 ∧
  am_tgt 9 9 = 18 ∧
  decode (cM m_Growth_tell) 12 = .ok (.iload_n 1, 1) ∧
  decode (cM m_Growth_tell) 13 = .ok (.bipush 8, 2) ∧
  decode (cM m_Growth_tell) 15 = .ok (.if_icmp .lt 5, 3) ∧
  am_okt 15 5 ∧
  am_tgt 15 5 = 20 ∧
  decode (cM m_Growth_tell) 18 = .ok (.iconst (-1), 1) ∧
  decode (cM m_Growth_tell) 19 = .ok (.ireturn, 1) ∧
  decode (cM m_Growth_tell) 20 = .ok (.iload_n 2, 1) ∧
  decode (cM m_Growth_tell) 21 = .ok (.ifCond .ne 12, 3) ∧
  am_okt 21 12 ∧
  am_tgt 21 12 = 33 ∧
  decode (cM m_Growth_tell) 24 = .ok (.aload_n 0, 1) ∧
  decode (cM m_Growth_tell) 25 = .ok (.getfield 9, 3) ∧
  fldT 2 9 = some (2, 0, 2) ∧
  decode (cM m_Growth_tell) 28 = .ok (.iload_n 1, 1) ∧
  decode (cM m_Growth_tell) 29 = .ok (.iaload, 1) ∧
  decode (cM m_Growth_tell) 30 = .ok (.goto 23, 3) ∧
  am_okt 30 23 ∧
  am_tgt 30 23 = 53 ∧
  decode (cM m_Growth_tell) 33 = .ok (.iload_n 2, 1) ∧
  decode (cM m_Growth_tell) 34 = .ok (.iconst 1, 1) ∧
  decode (cM m_Growth_tell) 35 = .ok (.if_icmp .ne 12, 3) ∧
  am_okt 35 12 ∧
  am_tgt 35 12 = 47 ∧
  decode (cM m_Growth_tell) 38 = .ok (.aload_n 0, 1) ∧
  decode (cM m_Growth_tell) 39 = .ok (.getfield 15, 3) ∧
  fldT 2 15 = some (2, 1, 2) ∧
  decode (cM m_Growth_tell) 42 = .ok (.iload_n 1, 1) ∧
  decode (cM m_Growth_tell) 43 = .ok (.iaload, 1) ∧
  decode (cM m_Growth_tell) 44 = .ok (.goto 9, 3) ∧
  am_okt 44 9 ∧
  am_tgt 44 9 = 53 ∧
  decode (cM m_Growth_tell) 47 = .ok (.aload_n 0, 1) ∧
  decode (cM m_Growth_tell) 48 = .ok (.getfield 18, 3) ∧
  fldT 2 18 = some (2, 2, 2) ∧
  decode (cM m_Growth_tell) 51 = .ok (.iload_n 1, 1) ∧
  decode (cM m_Growth_tell) 52 = .ok (.iaload, 1) ∧
  decode (cM m_Growth_tell) 53 = .ok (.ireturn, 1) :=
  ⟨rfl, rfl, rfl, rfl, by decide +kernel, by decide +kernel, rfl, rfl, by decide +kernel, by decide +kernel, by decide +kernel, rfl, by decide +kernel, rfl, rfl, by decide +kernel, by decide +kernel, by decide +kernel, rfl, rfl, by decide +kernel, by decide +kernel, by decide +kernel, by decide +kernel, rfl, rfl, by decide +kernel, by decide +kernel, rfl, by decide +kernel, by decide +kernel, by decide +kernel, rfl, rfl, by decide +kernel, by decide +kernel, by decide +kernel, rfl, rfl, by decide +kernel, by decide +kernel, rfl, by decide +kernel, by decide +kernel, by decide +kernel, rfl, rfl, by decide +kernel, by decide +kernel, rfl, by decide +kernel, by decide +kernel, by decide +kernel⟩
set_option maxRecDepth 100000 in
set_option maxHeartbeats 4000000 in
theorem C_Growth_yearBy : oM m_Growth_yearBy = 2 ∧
  rkM m_Growth_yearBy = 1 ∧
  dM m_Growth_yearBy = 2 ∧
  lM m_Growth_yearBy = 5 ∧
  decode (cM m_Growth_yearBy) 0 = .ok (.aload_n 1, 1) ∧
  decode (cM m_Growth_yearBy) 1 = .ok (.iload_n 2, 1) ∧
  decode (cM m_Growth_yearBy) 2 = .ok (.invokevirtual 88, 3) ∧
  invT 2 88 = some (m_Stock_isDated, 0) ∧
  nM m_Stock_isDated = 2 ∧
  oM m_Stock_isDated = 8 ∧
  rkM m_Stock_isDated = 2 ∧
  dM m_Stock_isDated = 1 ∧
  decode (cM m_Growth_yearBy) 5 = .ok (.ifCond .eq 9, 3) ∧
  am_okt 5 9 ∧
  am_tgt 5 9 = 14 ∧
  decode (cM m_Growth_yearBy) 8 = .ok (.aload_n 1, 1) ∧
  decode (cM m_Growth_yearBy) 9 = .ok (.iload_n 2, 1) ∧
  decode (cM m_Growth_yearBy) 10 = .ok (.invokevirtual 91, 3) ∧
  invT 2 91 = some (m_Stock_yearOf, 0) ∧
  nM m_Stock_yearOf = 2 ∧
  oM m_Stock_yearOf = 8 ∧
  rkM m_Stock_yearOf = 1 ∧
  dM m_Stock_yearOf = 0 ∧
  decode (cM m_Growth_yearBy) 13 = .ok (.ireturn, 1) ∧
  decode (cM m_Growth_yearBy) 14 = .ok (.iconst 0, 1) ∧
  decode (cM m_Growth_yearBy) 15 = .ok (.istore 4, 2) ∧
  decode (cM m_Growth_yearBy) 17 = .ok (.iload 4, 2) ∧
  decode (cM m_Growth_yearBy) 19 = .ok (.aload_n 0, 1) ∧
  decode (cM m_Growth_yearBy) 20 = .ok (.getfield 24, 3) ∧
  fldT 2 24 = some (2, 6, 0) ∧
  decode (cM m_Growth_yearBy) 23 = .ok (.if_icmp .ge 39, 3) ∧
  am_okt 23 39 ∧
  am_tgt 23 39 = 62 ∧
  decode (cM m_Growth_yearBy) 26 = .ok (.aload_n 0, 1) ∧
  decode (cM m_Growth_yearBy) 27 = .ok (.iload 4, 2) ∧
  decode (cM m_Growth_yearBy) 29 = .ok (.iconst 2, 1) ∧
  decode (cM m_Growth_yearBy) 30 = .ok (.invokevirtual 85, 3) ∧
  invT 2 85 = some (m_Growth_tell, 0) ∧
  nM m_Growth_tell = 3 ∧
  oM m_Growth_tell = 2 ∧
  rkM m_Growth_tell = 1 ∧
  dM m_Growth_tell = 0 ∧
  decode (cM m_Growth_yearBy) 33 = .ok (.iload_n 3, 1) ∧
  decode (cM m_Growth_yearBy) 34 = .ok (.if_icmp .lt 28, 3) ∧
  am_okt 34 28 ∧
  am_tgt 34 28 = 62 ∧
  decode (cM m_Growth_yearBy) 37 = .ok (.aload_n 0, 1) ∧
  decode (cM m_Growth_yearBy) 38 = .ok (.iload 4, 2) ∧
  decode (cM m_Growth_yearBy) 40 = .ok (.iconst 0, 1) ∧
  decode (cM m_Growth_yearBy) 41 = .ok (.invokevirtual 85, 3) ∧
  decode (cM m_Growth_yearBy) 44 = .ok (.iload_n 2, 1) ∧
  decode (cM m_Growth_yearBy) 45 = .ok (.if_icmp .ne 11, 3) ∧
  am_okt 45 11 ∧
  am_tgt 45 11 = 56 ∧
  decode (cM m_Growth_yearBy) 48 = .ok (.aload_n 0, 1) ∧
  decode (cM m_Growth_yearBy) 49 = .ok (.iload 4, 2) ∧
  decode (cM m_Growth_yearBy) 51 = .ok (.iconst 1, 1) ∧
  decode (cM m_Growth_yearBy) 52 = .ok (.invokevirtual 85, 3) ∧
  decode (cM m_Growth_yearBy) 55 = .ok (.ireturn, 1) ∧
  decode (cM m_Growth_yearBy) 56 = .ok (.iinc 4 1, 3) ∧
  decode (cM m_Growth_yearBy) 59 = .ok (.goto (-42), 3) ∧
  am_okt 59 (-42) ∧
  am_tgt 59 (-42) = 17 ∧
  decode (cM m_Growth_yearBy) 62 = .ok (.iconst (-1), 1) ∧
  decode (cM m_Growth_yearBy) 63 = .ok (.ireturn, 1) :=
  ⟨rfl, rfl, rfl, rfl, by decide +kernel, by decide +kernel, by decide +kernel, rfl, rfl, rfl, rfl, rfl, by decide +kernel, rfl, rfl, by decide +kernel, by decide +kernel, by decide +kernel, rfl, rfl, rfl, rfl, rfl, by decide +kernel, by decide +kernel, by decide +kernel, by decide +kernel, by decide +kernel, by decide +kernel, rfl, by decide +kernel, rfl, rfl, by decide +kernel, by decide +kernel, by decide +kernel, by decide +kernel, rfl, rfl, rfl, rfl, rfl, by decide +kernel, by decide +kernel, rfl, rfl, by decide +kernel, by decide +kernel, by decide +kernel, by decide +kernel, by decide +kernel, by decide +kernel, rfl, rfl, by decide +kernel, by decide +kernel, by decide +kernel, by decide +kernel, by decide +kernel, by decide +kernel, by decide +kernel, rfl, rfl, by decide +kernel, by decide +kernel⟩
set_option maxRecDepth 100000 in
set_option maxHeartbeats 4000000 in
theorem C_Ledger_record : oM m_Ledger_record = 3 ∧
  rkM m_Ledger_record = 0 ∧
  dM m_Ledger_record = 1 ∧
  lM m_Ledger_record = 5 ∧
  decode (cM m_Ledger_record) 0 = .ok (.aload_n 0, 1) ∧
  decode (cM m_Ledger_record) 1 = .ok (.getfield 28, 3) ∧
  fldT 3 28 = some (3, 4, 0) ∧
  decode (cM m_Ledger_record) 4 = .ok (.bipush 40, 2) ∧
  decode (cM m_Ledger_record) 6 = .ok (.if_icmp .lt 7, 3) ∧
  am_okt 6 7 ∧
  am_tgt 6 7 = 13 ∧
  decode (cM m_Ledger_record) 9 = .ok (.aload_n 0, 1) ∧
  decode (cM m_Ledger_record) 10 = .ok (.invokevirtual 32, 3) ∧
  invT 3 32 = some (m_Ledger_dropFirst, 0) ∧
  nM m_Ledger_dropFirst = 1 ∧
  oM m_Ledger_dropFirst = 3 ∧
  rkM m_Ledger_dropFirst = 0 ∧
  dM m_Ledger_dropFirst = 0 ∧
  decode (cM m_Ledger_record) 13 = .ok (.aload_n 0, 1) ∧
  decode (cM m_Ledger_record) 14 = .ok (.getfield 28, 3) ∧
  decode (cM m_Ledger_record) 17 = .ok (.ifCond .lt 63, 3) ∧
  am_okt 17 63 ∧
  am_tgt 17 63 = 80 ∧
  decode (cM m_Ledger_record) 20 = .ok (.aload_n 0, 1) ∧
  decode (cM m_Ledger_record) 21 = .ok (.getfield 28, 3) ∧
  decode (cM m_Ledger_record) 24 = .ok (.bipush 40, 2) ∧
  decode (cM m_Ledger_record) 26 = .ok (.if_icmp .ge 54, 3) ∧
  am_okt 26 54 ∧
  am_tgt 26 54 = 80 ∧
  decode (cM m_Ledger_record) 29 = .ok (.aload_n 0, 1) ∧
  decode (cM m_Ledger_record) 30 = .ok (.getfield 9, 3) ∧
  fldT 3 9 = some (3, 0, 2) ∧
  decode (cM m_Ledger_record) 33 = .ok (.aload_n 0, 1) ∧
  decode (cM m_Ledger_record) 34 = .ok (.getfield 28, 3) ∧
  decode (cM m_Ledger_record) 37 = .ok (.iload_n 1, 1) ∧
  decode (cM m_Ledger_record) 38 = .ok (.iastore, 1) ∧
  decode (cM m_Ledger_record) 39 = .ok (.aload_n 0, 1) ∧
  decode (cM m_Ledger_record) 40 = .ok (.getfield 15, 3) ∧
  fldT 3 15 = some (3, 1, 2) ∧
  decode (cM m_Ledger_record) 43 = .ok (.aload_n 0, 1) ∧
  decode (cM m_Ledger_record) 44 = .ok (.getfield 28, 3) ∧
  decode (cM m_Ledger_record) 47 = .ok (.iload_n 2, 1) ∧
  decode (cM m_Ledger_record) 48 = .ok (.iastore, 1) ∧
  decode (cM m_Ledger_record) 49 = .ok (.aload_n 0, 1) ∧
  decode (cM m_Ledger_record) 50 = .ok (.getfield 18, 3) ∧
  fldT 3 18 = some (3, 2, 2) ∧
  decode (cM m_Ledger_record) 53 = .ok (.aload_n 0, 1) ∧
  decode (cM m_Ledger_record) 54 = .ok (.getfield 28, 3) ∧
  decode (cM m_Ledger_record) 57 = .ok (.iload_n 3, 1) ∧
  decode (cM m_Ledger_record) 58 = .ok (.iastore, 1) ∧
  decode (cM m_Ledger_record) 59 = .ok (.aload_n 0, 1) ∧
  decode (cM m_Ledger_record) 60 = .ok (.getfield 21, 3) ∧
  fldT 3 21 = some (3, 3, 2) ∧
  decode (cM m_Ledger_record) 63 = .ok (.aload_n 0, 1) ∧
  decode (cM m_Ledger_record) 64 = .ok (.getfield 28, 3) ∧
  decode (cM m_Ledger_record) 67 = .ok (.iload 4, 2) ∧
  decode (cM m_Ledger_record) 69 = .ok (.iastore, 1) ∧
  decode (cM m_Ledger_record) 70 = .ok (.aload_n 0, 1) ∧
  decode (cM m_Ledger_record) 71 = .ok (.dup, 1) ∧
  decode (cM m_Ledger_record) 72 = .ok (.getfield 28, 3) ∧
  decode (cM m_Ledger_record) 75 = .ok (.iconst 1, 1) ∧
  decode (cM m_Ledger_record) 76 = .ok (.iadd, 1) ∧
  decode (cM m_Ledger_record) 77 = .ok (.putfield 28, 3) ∧
  decode (cM m_Ledger_record) 80 = .ok (.return_, 1) :=
  ⟨rfl, rfl, rfl, rfl, by decide +kernel, by decide +kernel, rfl, by decide +kernel, by decide +kernel, rfl, rfl, by decide +kernel, by decide +kernel, rfl, rfl, rfl, rfl, rfl, by decide +kernel, by decide +kernel, by decide +kernel, rfl, rfl, by decide +kernel, by decide +kernel, by decide +kernel, by decide +kernel, rfl, rfl, by decide +kernel, by decide +kernel, rfl, by decide +kernel, by decide +kernel, by decide +kernel, by decide +kernel, by decide +kernel, by decide +kernel, rfl, by decide +kernel, by decide +kernel, by decide +kernel, by decide +kernel, by decide +kernel, by decide +kernel, rfl, by decide +kernel, by decide +kernel, by decide +kernel, by decide +kernel, by decide +kernel, by decide +kernel, rfl, by decide +kernel, by decide +kernel, by decide +kernel, by decide +kernel, by decide +kernel, by decide +kernel, by decide +kernel, by decide +kernel, by decide +kernel, by decide +kernel, by decide +kernel⟩
set_option maxRecDepth 100000 in
set_option maxHeartbeats 4000000 in
theorem C_Ledger_dropFirst : oM m_Ledger_dropFirst = 3 ∧
  rkM m_Ledger_dropFirst = 0 ∧
  dM m_Ledger_dropFirst = 0 ∧
  lM m_Ledger_dropFirst = 2 ∧
  decode (cM m_Ledger_dropFirst) 0 = .ok (.iconst 1, 1) ∧
  decode (cM m_Ledger_dropFirst) 1 = .ok (.istore_n 1, 1) ∧
  decode (cM m_Ledger_dropFirst) 2 = .ok (.iload_n 1, 1) ∧
  decode (cM m_Ledger_dropFirst) 3 = .ok (.bipush 40, 2) ∧
  decode (cM m_Ledger_dropFirst) 5 = .ok (.if_icmp .ge 65, 3) ∧
  am_okt 5 65 ∧
  am_tgt 5 65 = 70 ∧
  decode (cM m_Ledger_dropFirst) 8 = .ok (.aload_n 0, 1) ∧
  decode (cM m_Ledger_dropFirst) 9 = .ok (.getfield 9, 3) ∧
  fldT 3 9 = some (3, 0, 2) ∧
  decode (cM m_Ledger_dropFirst) 12 = .ok (.iload_n 1, 1) ∧
  decode (cM m_Ledger_dropFirst) 13 = .ok (.iconst 1, 1) ∧
  decode (cM m_Ledger_dropFirst) 14 = .ok (.isub, 1) ∧
  decode (cM m_Ledger_dropFirst) 15 = .ok (.aload_n 0, 1) ∧
  decode (cM m_Ledger_dropFirst) 16 = .ok (.getfield 9, 3) ∧
  decode (cM m_Ledger_dropFirst) 19 = .ok (.iload_n 1, 1) ∧
  decode (cM m_Ledger_dropFirst) 20 = .ok (.iaload, 1) ∧
  decode (cM m_Ledger_dropFirst) 21 = .ok (.iastore, 1) ∧
  decode (cM m_Ledger_dropFirst) 22 = .ok (.aload_n 0, 1) ∧
  decode (cM m_Ledger_dropFirst) 23 = .ok (.getfield 15, 3) ∧
  fldT 3 15 = some (3, 1, 2) ∧
  decode (cM m_Ledger_dropFirst) 26 = .ok (.iload_n 1, 1) ∧
  decode (cM m_Ledger_dropFirst) 27 = .ok (.iconst 1, 1) ∧
  decode (cM m_Ledger_dropFirst) 28 = .ok (.isub, 1) ∧
  decode (cM m_Ledger_dropFirst) 29 = .ok (.aload_n 0, 1) ∧
  decode (cM m_Ledger_dropFirst) 30 = .ok (.getfield 15, 3) ∧
  decode (cM m_Ledger_dropFirst) 33 = .ok (.iload_n 1, 1) ∧
  decode (cM m_Ledger_dropFirst) 34 = .ok (.iaload, 1) ∧
  decode (cM m_Ledger_dropFirst) 35 = .ok (.iastore, 1) ∧
  decode (cM m_Ledger_dropFirst) 36 = .ok (.aload_n 0, 1) ∧
  decode (cM m_Ledger_dropFirst) 37 = .ok (.getfield 18, 3) ∧
  fldT 3 18 = some (3, 2, 2) ∧
  decode (cM m_Ledger_dropFirst) 40 = .ok (.iload_n 1, 1) ∧
  decode (cM m_Ledger_dropFirst) 41 = .ok (.iconst 1, 1) ∧
  decode (cM m_Ledger_dropFirst) 42 = .ok (.isub, 1) ∧
  decode (cM m_Ledger_dropFirst) 43 = .ok (.aload_n 0, 1) ∧
  decode (cM m_Ledger_dropFirst) 44 = .ok (.getfield 18, 3) ∧
  decode (cM m_Ledger_dropFirst) 47 = .ok (.iload_n 1, 1) ∧
  decode (cM m_Ledger_dropFirst) 48 = .ok (.iaload, 1) ∧
  decode (cM m_Ledger_dropFirst) 49 = .ok (.iastore, 1) ∧
  decode (cM m_Ledger_dropFirst) 50 = .ok (.aload_n 0, 1) ∧
  decode (cM m_Ledger_dropFirst) 51 = .ok (.getfield 21, 3) ∧
  fldT 3 21 = some (3, 3, 2) ∧
  decode (cM m_Ledger_dropFirst) 54 = .ok (.iload_n 1, 1) ∧
  decode (cM m_Ledger_dropFirst) 55 = .ok (.iconst 1, 1) ∧
  decode (cM m_Ledger_dropFirst) 56 = .ok (.isub, 1) ∧
  decode (cM m_Ledger_dropFirst) 57 = .ok (.aload_n 0, 1) ∧
  decode (cM m_Ledger_dropFirst) 58 = .ok (.getfield 21, 3) ∧
  decode (cM m_Ledger_dropFirst) 61 = .ok (.iload_n 1, 1) ∧
  decode (cM m_Ledger_dropFirst) 62 = .ok (.iaload, 1) ∧
  decode (cM m_Ledger_dropFirst) 63 = .ok (.iastore, 1) ∧
  decode (cM m_Ledger_dropFirst) 64 = .ok (.iinc 1 1, 3) ∧
  decode (cM m_Ledger_dropFirst) 67 = .ok (.goto (-65), 3) ∧
  am_okt 67 (-65) ∧
  am_tgt 67 (-65) = 2 ∧
  decode (cM m_Ledger_dropFirst) 70 = .ok (.aload_n 0, 1) ∧
  decode (cM m_Ledger_dropFirst) 71 = .ok (.bipush 39, 2) ∧
  decode (cM m_Ledger_dropFirst) 73 = .ok (.putfield 28, 3) ∧
  fldT 3 28 = some (3, 4, 0) ∧
  decode (cM m_Ledger_dropFirst) 76 = .ok (.return_, 1) :=
  ⟨rfl, rfl, rfl, rfl, by decide +kernel, by decide +kernel, by decide +kernel, by decide +kernel, by decide +kernel, rfl, rfl, by decide +kernel, by decide +kernel, rfl, by decide +kernel, by decide +kernel, by decide +kernel, by decide +kernel, by decide +kernel, by decide +kernel, by decide +kernel, by decide +kernel, by decide +kernel, by decide +kernel, rfl, by decide +kernel, by decide +kernel, by decide +kernel, by decide +kernel, by decide +kernel, by decide +kernel, by decide +kernel, by decide +kernel, by decide +kernel, by decide +kernel, rfl, by decide +kernel, by decide +kernel, by decide +kernel, by decide +kernel, by decide +kernel, by decide +kernel, by decide +kernel, by decide +kernel, by decide +kernel, by decide +kernel, rfl, by decide +kernel, by decide +kernel, by decide +kernel, by decide +kernel, by decide +kernel, by decide +kernel, by decide +kernel, by decide +kernel, by decide +kernel, by decide +kernel, rfl, rfl, by decide +kernel, by decide +kernel, by decide +kernel, rfl, by decide +kernel⟩
set_option maxRecDepth 100000 in
set_option maxHeartbeats 4000000 in
theorem C_Ledger_takeBack : oM m_Ledger_takeBack = 3 ∧
  rkM m_Ledger_takeBack = 1 ∧
  dM m_Ledger_takeBack = 3 ∧
  lM m_Ledger_takeBack = 4 ∧
  decode (cM m_Ledger_takeBack) 0 = .ok (.aload_n 0, 1) ∧
  decode (cM m_Ledger_takeBack) 1 = .ok (.getfield 28, 3) ∧
  fldT 3 28 = some (3, 4, 0) ∧
  decode (cM m_Ledger_takeBack) 4 = .ok (.iconst 1, 1) ∧
  decode (cM m_Ledger_takeBack) 5 = .ok (.if_icmp .lt 12, 3) ∧
  am_okt 5 12 ∧
  am_tgt 5 12 = 17 ∧
  decode (cM m_Ledger_takeBack) 8 = .ok (.aload_n 0, 1) ∧
  decode (cM m_Ledger_takeBack) 9 = .ok (.getfield 28, 3) ∧
  decode (cM m_Ledger_takeBack) 12 = .ok (.bipush 40, 2) ∧
  decode (cM m_Ledger_takeBack) 14 = .ok (.if_icmp .le 5, 3) ∧
  am_okt 14 5 ∧
  am_tgt 14 5 = 19 ∧
  decode (cM m_Ledger_takeBack) 17 = .ok (.iconst (-1), 1) ∧
  decode (cM m_Ledger_takeBack) 18 = .ok (.ireturn, 1) ∧
  decode (cM m_Ledger_takeBack) 19 = .ok (.aload_n 0, 1) ∧
  decode (cM m_Ledger_takeBack) 20 = .ok (.dup, 1) ∧
  decode (cM m_Ledger_takeBack) 21 = .ok (.getfield 28, 3) ∧
  decode (cM m_Ledger_takeBack) 24 = .ok (.iconst 1, 1) ∧
  decode (cM m_Ledger_takeBack) 25 = .ok (.isub, 1) ∧
  decode (cM m_Ledger_takeBack) 26 = .ok (.putfield 28, 3) ∧
  decode (cM m_Ledger_takeBack) 29 = .ok (.aload_n 0, 1) ∧
  decode (cM m_Ledger_takeBack) 30 = .ok (.getfield 15, 3) ∧
  fldT 3 15 = some (3, 1, 2) ∧
  decode (cM m_Ledger_takeBack) 33 = .ok (.aload_n 0, 1) ∧
  decode (cM m_Ledger_takeBack) 34 = .ok (.getfield 28, 3) ∧
  decode (cM m_Ledger_takeBack) 37 = .ok (.iaload, 1) ∧
  decode (cM m_Ledger_takeBack) 38 = .ok (.istore_n 2, 1) ∧
  decode (cM m_Ledger_takeBack) 39 = .ok (.aload_n 1, 1) ∧
  decode (cM m_Ledger_takeBack) 40 = .ok (.iload_n 2, 1) ∧
  decode (cM m_Ledger_takeBack) 41 = .ok (.invokevirtual 35, 3) ∧
  invT 3 35 = some (m_Stock_timberAt, 0) ∧
  nM m_Stock_timberAt = 2 ∧
  oM m_Stock_timberAt = 8 ∧
  rkM m_Stock_timberAt = 3 ∧
  dM m_Stock_timberAt = 1 ∧
  decode (cM m_Ledger_takeBack) 44 = .ok (.astore_n 3, 1) ∧
  decode (cM m_Ledger_takeBack) 45 = .ok (.aload_n 0, 1) ∧
  decode (cM m_Ledger_takeBack) 46 = .ok (.getfield 9, 3) ∧
  fldT 3 9 = some (3, 0, 2) ∧
  decode (cM m_Ledger_takeBack) 49 = .ok (.aload_n 0, 1) ∧
  decode (cM m_Ledger_takeBack) 50 = .ok (.getfield 28, 3) ∧
  decode (cM m_Ledger_takeBack) 53 = .ok (.iaload, 1) ∧
  decode (cM m_Ledger_takeBack) 54 = .ok (.tableswitch 116 0 4 #[34, 51, 59, 75, 100], 34) ∧
  am_okt 54 116 ∧
  am_tgt 54 116 = 170 ∧
  am_okt 54 34 ∧
  am_tgt 54 34 = 88 ∧
  am_okt 54 51 ∧
  am_tgt 54 51 = 105 ∧
  am_okt 54 59 ∧
  am_tgt 54 59 = 113 ∧
  am_okt 54 75 ∧
  am_tgt 54 75 = 129 ∧
  am_okt 54 100 ∧
  am_tgt 54 100 = 154 ∧
  decode (cM m_Ledger_takeBack) 88 = .ok (.aload_n 1, 1) ∧
  decode (cM m_Ledger_takeBack) 89 = .ok (.iload_n 2, 1) ∧
  decode (cM m_Ledger_takeBack) 90 = .ok (.aload_n 0, 1) ∧
  decode (cM m_Ledger_takeBack) 91 = .ok (.getfield 21, 3) ∧
  fldT 3 21 = some (3, 3, 2) ∧
  decode (cM m_Ledger_takeBack) 94 = .ok (.aload_n 0, 1) ∧
  decode (cM m_Ledger_takeBack) 95 = .ok (.getfield 28, 3) ∧
  decode (cM m_Ledger_takeBack) 98 = .ok (.iaload, 1) ∧
  decode (cM m_Ledger_takeBack) 99 = .ok (.invokevirtual 41, 3) ∧
  invT 3 41 = some (m_Stock_setYear, 0) ∧
  nM m_Stock_setYear = 3 ∧
  oM m_Stock_setYear = 8 ∧
  rkM m_Stock_setYear = 0 ∧
  dM m_Stock_setYear = 1 ∧
  decode (cM m_Ledger_takeBack) 102 = .ok (.goto 81, 3) ∧
  am_okt 102 81 ∧
  am_tgt 102 81 = 183 ∧
  decode (cM m_Ledger_takeBack) 105 = .ok (.aload_n 1, 1) ∧
  decode (cM m_Ledger_takeBack) 106 = .ok (.iload_n 2, 1) ∧
  decode (cM m_Ledger_takeBack) 107 = .ok (.invokestatic 45, 3) ∧
  invT 3 45 = some (m_Ledger_undateAll, 1) ∧
  nM m_Ledger_undateAll = 2 ∧
  oM m_Ledger_undateAll = 3 ∧
  rkM m_Ledger_undateAll = 0 ∧
  dM m_Ledger_undateAll = 2 ∧
  decode (cM m_Ledger_takeBack) 110 = .ok (.goto 73, 3) ∧
  am_okt 110 73 ∧
  am_tgt 110 73 = 183 ∧
  decode (cM m_Ledger_takeBack) 113 = .ok (.aload_n 3, 1) ∧
  decode (cM m_Ledger_takeBack) 114 = .ok (.aload_n 0, 1) ∧
  decode (cM m_Ledger_takeBack) 115 = .ok (.getfield 18, 3) ∧
  fldT 3 18 = some (3, 2, 2) ∧
  decode (cM m_Ledger_takeBack) 118 = .ok (.aload_n 0, 1) ∧
  decode (cM m_Ledger_takeBack) 119 = .ok (.getfield 28, 3) ∧
  decode (cM m_Ledger_takeBack) 122 = .ok (.iaload, 1) ∧
  decode (cM m_Ledger_takeBack) 123 = .ok (.invokevirtual 49, 3) ∧
  invT 3 49 = some (m_Timber_removeRing, 0) ∧
  nM m_Timber_removeRing = 2 ∧
  oM m_Timber_removeRing = 9 ∧
  rkM m_Timber_removeRing = 0 ∧
  dM m_Timber_removeRing = 1 ∧
  decode (cM m_Ledger_takeBack) 126 = .ok (.goto 57, 3) ∧
  am_okt 126 57 ∧
  am_tgt 126 57 = 183 ∧
  decode (cM m_Ledger_takeBack) 129 = .ok (.aload_n 3, 1) ∧
  decode (cM m_Ledger_takeBack) 130 = .ok (.aload_n 0, 1) ∧
  decode (cM m_Ledger_takeBack) 131 = .ok (.getfield 18, 3) ∧
  decode (cM m_Ledger_takeBack) 134 = .ok (.aload_n 0, 1) ∧
  decode (cM m_Ledger_takeBack) 135 = .ok (.getfield 28, 3) ∧
  decode (cM m_Ledger_takeBack) 138 = .ok (.iaload, 1) ∧
  decode (cM m_Ledger_takeBack) 139 = .ok (.aload_n 0, 1) ∧
  decode (cM m_Ledger_takeBack) 140 = .ok (.getfield 21, 3) ∧
  decode (cM m_Ledger_takeBack) 143 = .ok (.aload_n 0, 1) ∧
  decode (cM m_Ledger_takeBack) 144 = .ok (.getfield 28, 3) ∧
  decode (cM m_Ledger_takeBack) 147 = .ok (.iaload, 1) ∧
  decode (cM m_Ledger_takeBack) 148 = .ok (.invokevirtual 55, 3) ∧
  invT 3 55 = some (m_Timber_insertRing, 0) ∧
  nM m_Timber_insertRing = 3 ∧
  oM m_Timber_insertRing = 9 ∧
  rkM m_Timber_insertRing = 0 ∧
  dM m_Timber_insertRing = 0 ∧
  decode (cM m_Ledger_takeBack) 151 = .ok (.goto 32, 3) ∧
  am_okt 151 32 ∧
  am_tgt 151 32 = 183 ∧
  decode (cM m_Ledger_takeBack) 154 = .ok (.aload_n 3, 1) ∧
  decode (cM m_Ledger_takeBack) 155 = .ok (.aload_n 0, 1) ∧
  decode (cM m_Ledger_takeBack) 156 = .ok (.getfield 18, 3) ∧
  decode (cM m_Ledger_takeBack) 159 = .ok (.aload_n 0, 1) ∧
  decode (cM m_Ledger_takeBack) 160 = .ok (.getfield 28, 3) ∧
  decode (cM m_Ledger_takeBack) 163 = .ok (.iaload, 1) ∧
  decode (cM m_Ledger_takeBack) 164 = .ok (.invokevirtual 58, 3) ∧
  invT 3 58 = some (m_Timber_turnDoubt, 0) ∧
  nM m_Timber_turnDoubt = 2 ∧
  oM m_Timber_turnDoubt = 9 ∧
  rkM m_Timber_turnDoubt = 0 ∧
  dM m_Timber_turnDoubt = 1 ∧
  decode (cM m_Ledger_takeBack) 167 = .ok (.goto 16, 3) ∧
  am_okt 167 16 ∧
  am_tgt 167 16 = 183 ∧
  decode (cM m_Ledger_takeBack) 170 = .ok (.aload_n 3, 1) ∧
  decode (cM m_Ledger_takeBack) 171 = .ok (.aload_n 0, 1) ∧
  decode (cM m_Ledger_takeBack) 172 = .ok (.getfield 21, 3) ∧
  decode (cM m_Ledger_takeBack) 175 = .ok (.aload_n 0, 1) ∧
  decode (cM m_Ledger_takeBack) 176 = .ok (.getfield 28, 3) ∧
  decode (cM m_Ledger_takeBack) 179 = .ok (.iaload, 1) ∧
  decode (cM m_Ledger_takeBack) 180 = .ok (.putfield 61, 3) ∧
  fldT 3 61 = some (9, 5, 0) ∧
  decode (cM m_Ledger_takeBack) 183 = .ok (.aload_n 0, 1) ∧
  decode (cM m_Ledger_takeBack) 184 = .ok (.getfield 28, 3) ∧
  decode (cM m_Ledger_takeBack) 187 = .ok (.ireturn, 1) :=
  ⟨rfl, rfl, rfl, rfl, by decide +kernel, by decide +kernel, rfl, by decide +kernel, by decide +kernel, rfl, rfl, by decide +kernel, by decide +kernel, by decide +kernel, by decide +kernel, rfl, rfl, by decide +kernel, by decide +kernel, by decide +kernel, by decide +kernel, by decide +kernel, by decide +kernel, by decide +kernel, by decide +kernel, by decide +kernel, by decide +kernel, rfl, by decide +kernel, by decide +kernel, by decide +kernel, by decide +kernel, by decide +kernel, by decide +kernel, by decide +kernel, rfl, rfl, rfl, rfl, rfl, by decide +kernel, by decide +kernel, by decide +kernel, rfl, by decide +kernel, by decide +kernel, by decide +kernel, by decide +kernel, rfl, rfl, rfl, rfl, rfl, rfl, rfl, rfl, rfl, rfl, rfl, rfl, by decide +kernel, by decide +kernel, by decide +kernel, by decide +kernel, rfl, by decide +kernel, by decide +kernel, by decide +kernel, by decide +kernel, rfl, rfl, rfl, rfl, rfl, by decide +kernel, rfl, rfl, by decide +kernel, by decide +kernel, by decide +kernel, rfl, rfl, rfl, rfl, rfl, by decide +kernel, rfl, rfl, by decide +kernel, by decide +kernel, by decide +kernel, rfl, by decide +kernel, by decide +kernel, by decide +kernel, by decide +kernel, rfl, rfl, rfl, rfl, rfl, by decide +kernel, rfl, rfl, by decide +kernel, by decide +kernel, by decide +kernel, by decide +kernel, by decide +kernel, by decide +kernel, by decide +kernel, by decide +kernel, by decide +kernel, by decide +kernel, by decide +kernel, by decide +kernel, rfl, rfl, rfl, rfl, rfl, by decide +kernel, rfl, rfl, by decide +kernel, by decide +kernel, by decide +kernel, by decide +kernel, by decide +kernel, by decide +kernel, by decide +kernel, rfl, rfl, rfl, rfl, rfl, by decide +kernel, rfl, rfl, by decide +kernel, by decide +kernel, by decide +kernel, by decide +kernel, by decide +kernel, by decide +kernel, by decide +kernel, rfl, by decide +kernel, by decide +kernel, by decide +kernel⟩
set_option maxRecDepth 100000 in
set_option maxHeartbeats 4000000 in
theorem C_Ledger_undateAll : oM m_Ledger_undateAll = 3 ∧
  rkM m_Ledger_undateAll = 0 ∧
  dM m_Ledger_undateAll = 2 ∧
  lM m_Ledger_undateAll = 3 ∧
  decode (cM m_Ledger_undateAll) 0 = .ok (.iconst 0, 1) ∧
  decode (cM m_Ledger_undateAll) 1 = .ok (.istore_n 2, 1) ∧
  decode (cM m_Ledger_undateAll) 2 = .ok (.iload_n 2, 1) ∧
  decode (cM m_Ledger_undateAll) 3 = .ok (.bipush 8, 2) ∧
  decode (cM m_Ledger_undateAll) 5 = .ok (.if_icmp .ge 23, 3) ∧
  am_okt 5 23 ∧
  am_tgt 5 23 = 28 ∧
  decode (cM m_Ledger_undateAll) 8 = .ok (.iload_n 1, 1) ∧
  decode (cM m_Ledger_undateAll) 9 = .ok (.iload_n 2, 1) ∧
  decode (cM m_Ledger_undateAll) 10 = .ok (.ishr, 1) ∧
  decode (cM m_Ledger_undateAll) 11 = .ok (.iconst 1, 1) ∧
  decode (cM m_Ledger_undateAll) 12 = .ok (.iand, 1) ∧
  decode (cM m_Ledger_undateAll) 13 = .ok (.ifCond .eq 9, 3) ∧
  am_okt 13 9 ∧
  am_tgt 13 9 = 22 ∧
  decode (cM m_Ledger_undateAll) 16 = .ok (.aload_n 0, 1) ∧
  decode (cM m_Ledger_undateAll) 17 = .ok (.iload_n 2, 1) ∧
  decode (cM m_Ledger_undateAll) 18 = .ok (.iconst (-1), 1) ∧
  decode (cM m_Ledger_undateAll) 19 = .ok (.invokevirtual 41, 3) ∧
  invT 3 41 = some (m_Stock_setYear, 0) ∧
  nM m_Stock_setYear = 3 ∧
  oM m_Stock_setYear = 8 ∧
  rkM m_Stock_setYear = 0 ∧
  dM m_Stock_setYear = 1 ∧
  decode (cM m_Ledger_undateAll) 22 = .ok (.iinc 2 1, 3) ∧
  decode (cM m_Ledger_undateAll) 25 = .ok (.goto (-23), 3) ∧
  am_okt 25 (-23) ∧
  am_tgt 25 (-23) = 2 ∧
  decode (cM m_Ledger_undateAll) 28 = .ok (.return_, 1) :=
  ⟨rfl, rfl, rfl, rfl, by decide +kernel, by decide +kernel, by decide +kernel, by decide +kernel, by decide +kernel, rfl, rfl, by decide +kernel, by decide +kernel, by decide +kernel, by decide +kernel, by decide +kernel, by decide +kernel, rfl, rfl, by decide +kernel, by decide +kernel, by decide +kernel, by decide +kernel, rfl, rfl, rfl, rfl, rfl, by decide +kernel, by decide +kernel, rfl, rfl, by decide +kernel⟩
set_option maxRecDepth 100000 in
set_option maxHeartbeats 4000000 in
theorem C_Ledger_copyFrom : oM m_Ledger_copyFrom = 3 ∧
  rkM m_Ledger_copyFrom = 0 ∧
  dM m_Ledger_copyFrom = 1 ∧
  lM m_Ledger_copyFrom = 2 ∧
  decode (cM m_Ledger_copyFrom) 0 = .ok (.aload_n 1, 1) ∧
  decode (cM m_Ledger_copyFrom) 1 = .ok (.getfield 9, 3) ∧
  fldT 3 9 = some (3, 0, 2) ∧
  decode (cM m_Ledger_copyFrom) 4 = .ok (.aload_n 0, 1) ∧
  decode (cM m_Ledger_copyFrom) 5 = .ok (.getfield 9, 3) ∧
  decode (cM m_Ledger_copyFrom) 8 = .ok (.invokestatic 24, 3) ∧
  invT 3 24 = some (m_RingDater_copyRow, 2) ∧
  nM m_RingDater_copyRow = 2 ∧
  oM m_RingDater_copyRow = 11 ∧
  rkM m_RingDater_copyRow = 0 ∧
  dM m_RingDater_copyRow = 0 ∧
  decode (cM m_Ledger_copyFrom) 11 = .ok (.aload_n 1, 1) ∧
  decode (cM m_Ledger_copyFrom) 12 = .ok (.getfield 15, 3) ∧
  fldT 3 15 = some (3, 1, 2) ∧
  decode (cM m_Ledger_copyFrom) 15 = .ok (.aload_n 0, 1) ∧
  decode (cM m_Ledger_copyFrom) 16 = .ok (.getfield 15, 3) ∧
  decode (cM m_Ledger_copyFrom) 19 = .ok (.invokestatic 24, 3) ∧
  decode (cM m_Ledger_copyFrom) 22 = .ok (.aload_n 1, 1) ∧
  decode (cM m_Ledger_copyFrom) 23 = .ok (.getfield 18, 3) ∧
  fldT 3 18 = some (3, 2, 2) ∧
  decode (cM m_Ledger_copyFrom) 26 = .ok (.aload_n 0, 1) ∧
  decode (cM m_Ledger_copyFrom) 27 = .ok (.getfield 18, 3) ∧
  decode (cM m_Ledger_copyFrom) 30 = .ok (.invokestatic 24, 3) ∧
  decode (cM m_Ledger_copyFrom) 33 = .ok (.aload_n 1, 1) ∧
  decode (cM m_Ledger_copyFrom) 34 = .ok (.getfield 21, 3) ∧
  fldT 3 21 = some (3, 3, 2) ∧
  decode (cM m_Ledger_copyFrom) 37 = .ok (.aload_n 0, 1) ∧
  decode (cM m_Ledger_copyFrom) 38 = .ok (.getfield 21, 3) ∧
  decode (cM m_Ledger_copyFrom) 41 = .ok (.invokestatic 24, 3) ∧
  decode (cM m_Ledger_copyFrom) 44 = .ok (.aload_n 0, 1) ∧
  decode (cM m_Ledger_copyFrom) 45 = .ok (.aload_n 1, 1) ∧
  decode (cM m_Ledger_copyFrom) 46 = .ok (.getfield 28, 3) ∧
  fldT 3 28 = some (3, 4, 0) ∧
  decode (cM m_Ledger_copyFrom) 49 = .ok (.putfield 28, 3) ∧
  decode (cM m_Ledger_copyFrom) 52 = .ok (.return_, 1) :=
  ⟨rfl, rfl, rfl, rfl, by decide +kernel, by decide +kernel, rfl, by decide +kernel, by decide +kernel, by decide +kernel, rfl, rfl, rfl, rfl, rfl, by decide +kernel, by decide +kernel, rfl, by decide +kernel, by decide +kernel, by decide +kernel, by decide +kernel, by decide +kernel, rfl, by decide +kernel, by decide +kernel, by decide +kernel, by decide +kernel, by decide +kernel, rfl, by decide +kernel, by decide +kernel, by decide +kernel, by decide +kernel, by decide +kernel, by decide +kernel, rfl, by decide +kernel, by decide +kernel⟩
set_option maxRecDepth 100000 in
set_option maxHeartbeats 4000000 in
theorem C_Notes_add : oM m_Notes_add = 4 ∧
  rkM m_Notes_add = 0 ∧
  dM m_Notes_add = 0 ∧
  lM m_Notes_add = 3 ∧
  decode (cM m_Notes_add) 0 = .ok (.aload_n 0, 1) ∧
  decode (cM m_Notes_add) 1 = .ok (.getfield 22, 3) ∧
  fldT 4 22 = some (4, 2, 0) ∧
  decode (cM m_Notes_add) 4 = .ok (.ifCond .lt 42, 3) ∧
  am_okt 4 42 ∧
  am_tgt 4 42 = 46 ∧
  decode (cM m_Notes_add) 7 = .ok (.aload_n 0, 1) ∧
  decode (cM m_Notes_add) 8 = .ok (.getfield 22, 3) ∧
  decode (cM m_Notes_add) 11 = .ok (.bipush 8, 2) ∧
  decode (cM m_Notes_add) 13 = .ok (.if_icmp .ge 33, 3) ∧
  am_okt 13 33 ∧
  am_tgt 13 33 = 46 ∧
  decode (cM m_Notes_add) 16 = .ok (.aload_n 0, 1) ∧
  decode (cM m_Notes_add) 17 = .ok (.getfield 9, 3) ∧
  fldT 4 9 = some (4, 0, 2) ∧
  decode (cM m_Notes_add) 20 = .ok (.aload_n 0, 1) ∧
  decode (cM m_Notes_add) 21 = .ok (.getfield 22, 3) ∧
  decode (cM m_Notes_add) 24 = .ok (.iload_n 1, 1) ∧
  decode (cM m_Notes_add) 25 = .ok (.iastore, 1) ∧
  decode (cM m_Notes_add) 26 = .ok (.aload_n 0, 1) ∧
  decode (cM m_Notes_add) 27 = .ok (.getfield 15, 3) ∧
  fldT 4 15 = some (4, 1, 2) ∧
  decode (cM m_Notes_add) 30 = .ok (.aload_n 0, 1) ∧
  decode (cM m_Notes_add) 31 = .ok (.getfield 22, 3) ∧
  decode (cM m_Notes_add) 34 = .ok (.iload_n 2, 1) ∧
  decode (cM m_Notes_add) 35 = .ok (.iastore, 1) ∧
  decode (cM m_Notes_add) 36 = .ok (.aload_n 0, 1) ∧
  decode (cM m_Notes_add) 37 = .ok (.dup, 1) ∧
  decode (cM m_Notes_add) 38 = .ok (.getfield 22, 3) ∧
  decode (cM m_Notes_add) 41 = .ok (.iconst 1, 1) ∧
  decode (cM m_Notes_add) 42 = .ok (.iadd, 1) ∧
  decode (cM m_Notes_add) 43 = .ok (.putfield 22, 3) ∧
  decode (cM m_Notes_add) 46 = .ok (.return_, 1) :=
  ⟨rfl, rfl, rfl, rfl, by decide +kernel, by decide +kernel, rfl, by decide +kernel, rfl, rfl, by decide +kernel, by decide +kernel, by decide +kernel, by decide +kernel, rfl, rfl, by decide +kernel, by decide +kernel, rfl, by decide +kernel, by decide +kernel, by decide +kernel, by decide +kernel, by decide +kernel, by decide +kernel, rfl, by decide +kernel, by decide +kernel, by decide +kernel, by decide +kernel, by decide +kernel, by decide +kernel, by decide +kernel, by decide +kernel, by decide +kernel, by decide +kernel, by decide +kernel⟩
set_option maxRecDepth 100000 in
set_option maxHeartbeats 4000000 in
theorem C_Notes_copyFrom : oM m_Notes_copyFrom = 4 ∧
  rkM m_Notes_copyFrom = 0 ∧
  dM m_Notes_copyFrom = 1 ∧
  lM m_Notes_copyFrom = 2 ∧
  decode (cM m_Notes_copyFrom) 0 = .ok (.aload_n 1, 1) ∧
  decode (cM m_Notes_copyFrom) 1 = .ok (.getfield 9, 3) ∧
  fldT 4 9 = some (4, 0, 2) ∧
  decode (cM m_Notes_copyFrom) 4 = .ok (.aload_n 0, 1) ∧
  decode (cM m_Notes_copyFrom) 5 = .ok (.getfield 9, 3) ∧
  decode (cM m_Notes_copyFrom) 8 = .ok (.invokestatic 18, 3) ∧
  invT 4 18 = some (m_RingDater_copyRow, 2) ∧
  nM m_RingDater_copyRow = 2 ∧
  oM m_RingDater_copyRow = 11 ∧
  rkM m_RingDater_copyRow = 0 ∧
  dM m_RingDater_copyRow = 0 ∧
  decode (cM m_Notes_copyFrom) 11 = .ok (.aload_n 1, 1) ∧
  decode (cM m_Notes_copyFrom) 12 = .ok (.getfield 15, 3) ∧
  fldT 4 15 = some (4, 1, 2) ∧
  decode (cM m_Notes_copyFrom) 15 = .ok (.aload_n 0, 1) ∧
  decode (cM m_Notes_copyFrom) 16 = .ok (.getfield 15, 3) ∧
  decode (cM m_Notes_copyFrom) 19 = .ok (.invokestatic 18, 3) ∧
  decode (cM m_Notes_copyFrom) 22 = .ok (.aload_n 0, 1) ∧
  decode (cM m_Notes_copyFrom) 23 = .ok (.aload_n 1, 1) ∧
  decode (cM m_Notes_copyFrom) 24 = .ok (.getfield 22, 3) ∧
  fldT 4 22 = some (4, 2, 0) ∧
  decode (cM m_Notes_copyFrom) 27 = .ok (.putfield 22, 3) ∧
  decode (cM m_Notes_copyFrom) 30 = .ok (.return_, 1) :=
  ⟨rfl, rfl, rfl, rfl, by decide +kernel, by decide +kernel, rfl, by decide +kernel, by decide +kernel, by decide +kernel, rfl, rfl, rfl, rfl, rfl, by decide +kernel, by decide +kernel, rfl, by decide +kernel, by decide +kernel, by decide +kernel, by decide +kernel, by decide +kernel, by decide +kernel, rfl, by decide +kernel, by decide +kernel⟩
set_option maxRecDepth 100000 in
set_option maxHeartbeats 4000000 in
theorem C_Notes_agree : oM m_Notes_agree = 4 ∧
  rkM m_Notes_agree = 2 ∧
  dM m_Notes_agree = 3 ∧
  lM m_Notes_agree = 5 ∧
  decode (cM m_Notes_agree) 0 = .ok (.iconst 0, 1) ∧
  decode (cM m_Notes_agree) 1 = .ok (.istore 4, 2) ∧
  decode (cM m_Notes_agree) 3 = .ok (.iload 4, 2) ∧
  decode (cM m_Notes_agree) 5 = .ok (.aload_n 0, 1) ∧
  decode (cM m_Notes_agree) 6 = .ok (.getfield 22, 3) ∧
  fldT 4 22 = some (4, 2, 0) ∧
  decode (cM m_Notes_agree) 9 = .ok (.if_icmp .ge 41, 3) ∧
  am_okt 9 41 ∧
  am_tgt 9 41 = 50 ∧
  decode (cM m_Notes_agree) 12 = .ok (.iload 4, 2) ∧
  decode (cM m_Notes_agree) 14 = .ok (.bipush 8, 2) ∧
  decode (cM m_Notes_agree) 16 = .ok (.if_icmp .ge 34, 3) ∧
  am_okt 16 34 ∧
  am_tgt 16 34 = 50 ∧
  decode (cM m_Notes_agree) 19 = .ok (.aload_n 2, 1) ∧
  decode (cM m_Notes_agree) 20 = .ok (.aload_n 1, 1) ∧
  decode (cM m_Notes_agree) 21 = .ok (.aload_n 0, 1) ∧
  decode (cM m_Notes_agree) 22 = .ok (.getfield 9, 3) ∧
  fldT 4 9 = some (4, 0, 2) ∧
  decode (cM m_Notes_agree) 25 = .ok (.iload 4, 2) ∧
  decode (cM m_Notes_agree) 27 = .ok (.iaload, 1) ∧
  decode (cM m_Notes_agree) 28 = .ok (.iload_n 3, 1) ∧
  decode (cM m_Notes_agree) 29 = .ok (.invokevirtual 26, 3) ∧
  invT 4 26 = some (m_Growth_yearBy, 0) ∧
  nM m_Growth_yearBy = 4 ∧
  oM m_Growth_yearBy = 2 ∧
  rkM m_Growth_yearBy = 1 ∧
  dM m_Growth_yearBy = 2 ∧
  decode (cM m_Notes_agree) 32 = .ok (.aload_n 0, 1) ∧
  decode (cM m_Notes_agree) 33 = .ok (.getfield 15, 3) ∧
  fldT 4 15 = some (4, 1, 2) ∧
  decode (cM m_Notes_agree) 36 = .ok (.iload 4, 2) ∧
  decode (cM m_Notes_agree) 38 = .ok (.iaload, 1) ∧
  decode (cM m_Notes_agree) 39 = .ok (.if_icmp .eq 5, 3) ∧
  am_okt 39 5 ∧
  am_tgt 39 5 = 44 ∧
  decode (cM m_Notes_agree) 42 = .ok (.iconst 0, 1) ∧
  decode (cM m_Notes_agree) 43 = .ok (.ireturn, 1) ∧
  decode (cM m_Notes_agree) 44 = .ok (.iinc 4 1, 3) ∧
  decode (cM m_Notes_agree) 47 = .ok (.goto (-44), 3) ∧
  am_okt 47 (-44) ∧
  am_tgt 47 (-44) = 3 ∧
  decode (cM m_Notes_agree) 50 = .ok (.iconst 1, 1) ∧
  decode (cM m_Notes_agree) 51 = .ok (.ireturn, 1) :=
  ⟨rfl, rfl, rfl, rfl, by decide +kernel, by decide +kernel, by decide +kernel, by decide +kernel, by decide +kernel, rfl, by decide +kernel, rfl, rfl, by decide +kernel, by decide +kernel, by decide +kernel, rfl, rfl, by decide +kernel, by decide +kernel, by decide +kernel, by decide +kernel, rfl, by decide +kernel, by decide +kernel, by decide +kernel, by decide +kernel, rfl, rfl, rfl, rfl, rfl, by decide +kernel, by decide +kernel, rfl, by decide +kernel, by decide +kernel, by decide +kernel, rfl, rfl, by decide +kernel, by decide +kernel, by decide +kernel, by decide +kernel, rfl, rfl, by decide +kernel, by decide +kernel⟩
set_option maxRecDepth 100000 in
set_option maxHeartbeats 4000000 in
theorem C_Reader_putFour : oM m_Reader_putFour = 5 ∧
  rkM m_Reader_putFour = 0 ∧
  dM m_Reader_putFour = 0 ∧
  lM m_Reader_putFour = 3 ∧
  decode (cM m_Reader_putFour) 0 = .ok (.bipush 24, 2) ∧
  decode (cM m_Reader_putFour) 2 = .ok (.istore_n 2, 1) ∧
  decode (cM m_Reader_putFour) 3 = .ok (.iload_n 2, 1) ∧
  decode (cM m_Reader_putFour) 4 = .ok (.ifCond .lt 52, 3) ∧
  am_okt 4 52 ∧
  am_tgt 4 52 = 56 ∧
  decode (cM m_Reader_putFour) 7 = .ok (.aload_n 0, 1) ∧
  decode (cM m_Reader_putFour) 8 = .ok (.getfield 26, 3) ∧
  fldT 5 26 = some (5, 2, 0) ∧
  decode (cM m_Reader_putFour) 11 = .ok (.ifCond .lt 45, 3) ∧
  am_okt 11 45 ∧
  am_tgt 11 45 = 56 ∧
  decode (cM m_Reader_putFour) 14 = .ok (.aload_n 0, 1) ∧
  decode (cM m_Reader_putFour) 15 = .ok (.getfield 26, 3) ∧
  decode (cM m_Reader_putFour) 18 = .ok (.sipush 900, 3) ∧
  decode (cM m_Reader_putFour) 21 = .ok (.if_icmp .ge 35, 3) ∧
  am_okt 21 35 ∧
  am_tgt 21 35 = 56 ∧
  decode (cM m_Reader_putFour) 24 = .ok (.aload_n 0, 1) ∧
  decode (cM m_Reader_putFour) 25 = .ok (.getfield 9, 3) ∧
  fldT 5 9 = some (5, 0, 2) ∧
  decode (cM m_Reader_putFour) 28 = .ok (.aload_n 0, 1) ∧
  decode (cM m_Reader_putFour) 29 = .ok (.getfield 26, 3) ∧
  decode (cM m_Reader_putFour) 32 = .ok (.iload_n 1, 1) ∧
  decode (cM m_Reader_putFour) 33 = .ok (.iload_n 2, 1) ∧
  decode (cM m_Reader_putFour) 34 = .ok (.iushr, 1) ∧
  decode (cM m_Reader_putFour) 35 = .ok (.sipush 255, 3) ∧
  decode (cM m_Reader_putFour) 38 = .ok (.iand, 1) ∧
  decode (cM m_Reader_putFour) 39 = .ok (.iastore, 1) ∧
  decode (cM m_Reader_putFour) 40 = .ok (.aload_n 0, 1) ∧
  decode (cM m_Reader_putFour) 41 = .ok (.dup, 1) ∧
  decode (cM m_Reader_putFour) 42 = .ok (.getfield 26, 3) ∧
  decode (cM m_Reader_putFour) 45 = .ok (.iconst 1, 1) ∧
  decode (cM m_Reader_putFour) 46 = .ok (.iadd, 1) ∧
  decode (cM m_Reader_putFour) 47 = .ok (.putfield 26, 3) ∧
  decode (cM m_Reader_putFour) 50 = .ok (.iinc 2 (-8), 3) ∧
  decode (cM m_Reader_putFour) 53 = .ok (.goto (-50), 3) ∧
  am_okt 53 (-50) ∧
  am_tgt 53 (-50) = 3 ∧
  decode (cM m_Reader_putFour) 56 = .ok (.return_, 1) :=
  ⟨rfl, rfl, rfl, rfl, by decide +kernel, by decide +kernel, by decide +kernel, by decide +kernel, rfl, rfl, by decide +kernel, by decide +kernel, rfl, by decide +kernel, rfl, rfl, by decide +kernel, by decide +kernel, by decide +kernel, by decide +kernel, rfl, rfl, by decide +kernel, by decide +kernel, rfl, by decide +kernel, by decide +kernel, by decide +kernel, by decide +kernel, by decide +kernel, by decide +kernel, by decide +kernel, by decide +kernel, by decide +kernel, by decide +kernel, by decide +kernel, by decide +kernel, by decide +kernel, by decide +kernel, by decide +kernel, by decide +kernel, rfl, rfl, by decide +kernel⟩
set_option maxRecDepth 100000 in
set_option maxHeartbeats 4000000 in
theorem C_Reader_readText : oM m_Reader_readText = 5 ∧
  rkM m_Reader_readText = 1 ∧
  dM m_Reader_readText = 11 ∧
  lM m_Reader_readText = 4 ∧
  decode (cM m_Reader_readText) 0 = .ok (.aload_n 0, 1) ∧
  decode (cM m_Reader_readText) 1 = .ok (.iload_n 1, 1) ∧
  decode (cM m_Reader_readText) 2 = .ok (.aload_n 0, 1) ∧
  decode (cM m_Reader_readText) 3 = .ok (.getfield 26, 3) ∧
  fldT 5 26 = some (5, 2, 0) ∧
  decode (cM m_Reader_readText) 6 = .ok (.invokestatic 29, 3) ∧
  invT 5 29 = some (0, 4) ∧
  decode (cM m_Reader_readText) 9 = .ok (.putfield 35, 3) ∧
  fldT 5 35 = some (5, 4, 0) ∧
  decode (cM m_Reader_readText) 12 = .ok (.aload_n 0, 1) ∧
  decode (cM m_Reader_readText) 13 = .ok (.iconst 0, 1) ∧
  decode (cM m_Reader_readText) 14 = .ok (.putfield 38, 3) ∧
  fldT 5 38 = some (5, 6, 0) ∧
  decode (cM m_Reader_readText) 17 = .ok (.aload_n 0, 1) ∧
  decode (cM m_Reader_readText) 18 = .ok (.getfield 18, 3) ∧
  fldT 5 18 = some (5, 1, 2) ∧
  decode (cM m_Reader_readText) 21 = .ok (.invokevirtual 41, 3) ∧
  invT 5 41 = some (m_Stock_wipe, 0) ∧
  nM m_Stock_wipe = 1 ∧
  oM m_Stock_wipe = 8 ∧
  rkM m_Stock_wipe = 0 ∧
  dM m_Stock_wipe = 0 ∧
  decode (cM m_Reader_readText) 24 = .ok (.aload_n 0, 1) ∧
  decode (cM m_Reader_readText) 25 = .ok (.iconst 0, 1) ∧
  decode (cM m_Reader_readText) 26 = .ok (.putfield 44, 3) ∧
  fldT 5 44 = some (5, 9, 0) ∧
  decode (cM m_Reader_readText) 29 = .ok (.aload_n 0, 1) ∧
  decode (cM m_Reader_readText) 30 = .ok (.iconst 0, 1) ∧
  decode (cM m_Reader_readText) 31 = .ok (.putfield 47, 3) ∧
  fldT 5 47 = some (5, 10, 0) ∧
  decode (cM m_Reader_readText) 34 = .ok (.aload_n 0, 1) ∧
  decode (cM m_Reader_readText) 35 = .ok (.iconst 0, 1) ∧
  decode (cM m_Reader_readText) 36 = .ok (.putfield 50, 3) ∧
  fldT 5 50 = some (5, 11, 0) ∧
  decode (cM m_Reader_readText) 39 = .ok (.aload_n 0, 1) ∧
  decode (cM m_Reader_readText) 40 = .ok (.invokevirtual 53, 3) ∧
  invT 5 53 = some (m_Reader_advance, 0) ∧
  nM m_Reader_advance = 1 ∧
  oM m_Reader_advance = 5 ∧
  rkM m_Reader_advance = 0 ∧
  dM m_Reader_advance = 2 ∧
  decode (cM m_Reader_readText) 43 = .ok (.iconst 0, 1) ∧
  decode (cM m_Reader_readText) 44 = .ok (.istore_n 2, 1) ∧
  decode (cM m_Reader_readText) 45 = .ok (.iconst 0, 1) ∧
  decode (cM m_Reader_readText) 46 = .ok (.istore_n 3, 1) ∧
  decode (cM m_Reader_readText) 47 = .ok (.iload_n 3, 1) ∧
  decode (cM m_Reader_readText) 48 = .ok (.sipush 900, 3) ∧
  decode (cM m_Reader_readText) 51 = .ok (.if_icmp .ge 25, 3) ∧
  am_okt 51 25 ∧
  am_tgt 51 25 = 76 ∧
  decode (cM m_Reader_readText) 54 = .ok (.iload_n 2, 1) ∧
  decode (cM m_Reader_readText) 55 = .ok (.ifCond .ne 21, 3) ∧
  am_okt 55 21 ∧
  am_tgt 55 21 = 76 ∧
  decode (cM m_Reader_readText) 58 = .ok (.aload_n 0, 1) ∧
  decode (cM m_Reader_readText) 59 = .ok (.getfield 56, 3) ∧
  fldT 5 56 = some (5, 7, 0) ∧
  decode (cM m_Reader_readText) 62 = .ok (.ifCond .eq 14, 3) ∧
  am_okt 62 14 ∧
  am_tgt 62 14 = 76 ∧
  decode (cM m_Reader_readText) 65 = .ok (.aload_n 0, 1) ∧
  decode (cM m_Reader_readText) 66 = .ok (.invokevirtual 59, 3) ∧
  invT 5 59 = some (m_Reader_readClause, 0) ∧
  nM m_Reader_readClause = 1 ∧
  oM m_Reader_readClause = 5 ∧
  rkM m_Reader_readClause = 1 ∧
  dM m_Reader_readClause = 10 ∧
  decode (cM m_Reader_readText) 69 = .ok (.istore_n 2, 1) ∧
  decode (cM m_Reader_readText) 70 = .ok (.iinc 3 1, 3) ∧
  decode (cM m_Reader_readText) 73 = .ok (.goto (-26), 3) ∧
  am_okt 73 (-26) ∧
  am_tgt 73 (-26) = 47 ∧
  decode (cM m_Reader_readText) 76 = .ok (.aload_n 0, 1) ∧
  decode (cM m_Reader_readText) 77 = .ok (.iload_n 2, 1) ∧
  decode (cM m_Reader_readText) 78 = .ok (.ifCond .ne 7, 3) ∧
  am_okt 78 7 ∧
  am_tgt 78 7 = 85 ∧
  decode (cM m_Reader_readText) 81 = .ok (.iconst (-1), 1) ∧
  decode (cM m_Reader_readText) 82 = .ok (.goto 7, 3) ∧
  am_okt 82 7 ∧
  am_tgt 82 7 = 89 ∧
  decode (cM m_Reader_readText) 85 = .ok (.aload_n 0, 1) ∧
  decode (cM m_Reader_readText) 86 = .ok (.getfield 63, 3) ∧
  fldT 5 63 = some (5, 5, 0) ∧
  decode (cM m_Reader_readText) 89 = .ok (.putfield 22, 3) ∧
  fldT 5 22 = some (5, 3, 0) ∧
  decode (cM m_Reader_readText) 92 = .ok (.aload_n 0, 1) ∧
  decode (cM m_Reader_readText) 93 = .ok (.iconst 0, 1) ∧
  decode (cM m_Reader_readText) 94 = .ok (.putfield 26, 3) ∧
  decode (cM m_Reader_readText) 97 = .ok (.iload_n 2, 1) ∧
  decode (cM m_Reader_readText) 98 = .ok (.ireturn, 1) :=
  ⟨rfl, rfl, rfl, rfl, by decide +kernel, by decide +kernel, by decide +kernel, by decide +kernel, rfl, by decide +kernel, rfl, by decide +kernel, rfl, by decide +kernel, by decide +kernel, by decide +kernel, rfl, by decide +kernel, by decide +kernel, rfl, by decide +kernel, rfl, rfl, rfl, rfl, rfl, by decide +kernel, by decide +kernel, by decide +kernel, rfl, by decide +kernel, by decide +kernel, by decide +kernel, rfl, by decide +kernel, by decide +kernel, by decide +kernel, rfl, by decide +kernel, by decide +kernel, rfl, rfl, rfl, rfl, rfl, by decide +kernel, by decide +kernel, by decide +kernel, by decide +kernel, by decide +kernel, by decide +kernel, by decide +kernel, rfl, rfl, by decide +kernel, by decide +kernel, rfl, rfl, by decide +kernel, by decide +kernel, rfl, by decide +kernel, rfl, rfl, by decide +kernel, by decide +kernel, rfl, rfl, rfl, rfl, rfl, by decide +kernel, by decide +kernel, by decide +kernel, rfl, rfl, by decide +kernel, by decide +kernel, by decide +kernel, rfl, rfl, by decide +kernel, by decide +kernel, rfl, rfl, by decide +kernel, by decide +kernel, rfl, by decide +kernel, rfl, by decide +kernel, by decide +kernel, by decide +kernel, by decide +kernel, by decide +kernel⟩
set_option maxRecDepth 100000 in
set_option maxHeartbeats 4000000 in
theorem C_Reader_advance : oM m_Reader_advance = 5 ∧
  rkM m_Reader_advance = 0 ∧
  dM m_Reader_advance = 2 ∧
  lM m_Reader_advance = 2 ∧
  decode (cM m_Reader_advance) 0 = .ok (.aload_n 0, 1) ∧
  decode (cM m_Reader_advance) 1 = .ok (.aload_n 0, 1) ∧
  decode (cM m_Reader_advance) 2 = .ok (.getfield 38, 3) ∧
  fldT 5 38 = some (5, 6, 0) ∧
  decode (cM m_Reader_advance) 5 = .ok (.putfield 63, 3) ∧
  fldT 5 63 = some (5, 5, 0) ∧
  decode (cM m_Reader_advance) 8 = .ok (.aload_n 0, 1) ∧
  decode (cM m_Reader_advance) 9 = .ok (.getfield 38, 3) ∧
  decode (cM m_Reader_advance) 12 = .ok (.istore_n 1, 1) ∧
  decode (cM m_Reader_advance) 13 = .ok (.iload_n 1, 1) ∧
  decode (cM m_Reader_advance) 14 = .ok (.aload_n 0, 1) ∧
  decode (cM m_Reader_advance) 15 = .ok (.getfield 35, 3) ∧
  fldT 5 35 = some (5, 4, 0) ∧
  decode (cM m_Reader_advance) 18 = .ok (.if_icmp .ge 36, 3) ∧
  am_okt 18 36 ∧
  am_tgt 18 36 = 54 ∧
  decode (cM m_Reader_advance) 21 = .ok (.aload_n 0, 1) ∧
  decode (cM m_Reader_advance) 22 = .ok (.iload_n 1, 1) ∧
  decode (cM m_Reader_advance) 23 = .ok (.invokevirtual 66, 3) ∧
  invT 5 66 = some (m_Reader_byteAt, 0) ∧
  nM m_Reader_byteAt = 2 ∧
  oM m_Reader_byteAt = 5 ∧
  rkM m_Reader_byteAt = 1 ∧
  dM m_Reader_byteAt = 0 ∧
  decode (cM m_Reader_advance) 26 = .ok (.bipush 32, 2) ∧
  decode (cM m_Reader_advance) 28 = .ok (.if_icmp .eq 13, 3) ∧
  am_okt 28 13 ∧
  am_tgt 28 13 = 41 ∧
  decode (cM m_Reader_advance) 31 = .ok (.aload_n 0, 1) ∧
  decode (cM m_Reader_advance) 32 = .ok (.iload_n 1, 1) ∧
  decode (cM m_Reader_advance) 33 = .ok (.invokevirtual 66, 3) ∧
  decode (cM m_Reader_advance) 36 = .ok (.bipush 10, 2) ∧
  decode (cM m_Reader_advance) 38 = .ok (.if_icmp .ne 16, 3) ∧
  am_okt 38 16 ∧
  am_tgt 38 16 = 54 ∧
  decode (cM m_Reader_advance) 41 = .ok (.aload_n 0, 1) ∧
  decode (cM m_Reader_advance) 42 = .ok (.iload_n 1, 1) ∧
  decode (cM m_Reader_advance) 43 = .ok (.iconst 1, 1) ∧
  decode (cM m_Reader_advance) 44 = .ok (.iadd, 1) ∧
  decode (cM m_Reader_advance) 45 = .ok (.putfield 63, 3) ∧
  decode (cM m_Reader_advance) 48 = .ok (.iinc 1 1, 3) ∧
  decode (cM m_Reader_advance) 51 = .ok (.goto (-38), 3) ∧
  am_okt 51 (-38) ∧
  am_tgt 51 (-38) = 13 ∧
  decode (cM m_Reader_advance) 54 = .ok (.aload_n 0, 1) ∧
  decode (cM m_Reader_advance) 55 = .ok (.aload_n 0, 1) ∧
  decode (cM m_Reader_advance) 56 = .ok (.getfield 63, 3) ∧
  decode (cM m_Reader_advance) 59 = .ok (.invokevirtual 66, 3) ∧
  decode (cM m_Reader_advance) 62 = .ok (.istore_n 1, 1) ∧
  decode (cM m_Reader_advance) 63 = .ok (.aload_n 0, 1) ∧
  decode (cM m_Reader_advance) 64 = .ok (.aload_n 0, 1) ∧
  decode (cM m_Reader_advance) 65 = .ok (.getfield 63, 3) ∧
  decode (cM m_Reader_advance) 68 = .ok (.iconst 1, 1) ∧
  decode (cM m_Reader_advance) 69 = .ok (.iadd, 1) ∧
  decode (cM m_Reader_advance) 70 = .ok (.putfield 38, 3) ∧
  decode (cM m_Reader_advance) 73 = .ok (.iload_n 1, 1) ∧
  decode (cM m_Reader_advance) 74 = .ok (.iconst (-1), 1) ∧
  decode (cM m_Reader_advance) 75 = .ok (.if_icmp .ne 19, 3) ∧
  am_okt 75 19 ∧
  am_tgt 75 19 = 94 ∧
  decode (cM m_Reader_advance) 78 = .ok (.aload_n 0, 1) ∧
  decode (cM m_Reader_advance) 79 = .ok (.iconst 0, 1) ∧
  decode (cM m_Reader_advance) 80 = .ok (.putfield 56, 3) ∧
  fldT 5 56 = some (5, 7, 0) ∧
  decode (cM m_Reader_advance) 83 = .ok (.aload_n 0, 1) ∧
  decode (cM m_Reader_advance) 84 = .ok (.aload_n 0, 1) ∧
  decode (cM m_Reader_advance) 85 = .ok (.getfield 63, 3) ∧
  decode (cM m_Reader_advance) 88 = .ok (.putfield 38, 3) ∧
  decode (cM m_Reader_advance) 91 = .ok (.goto 66, 3) ∧
  am_okt 91 66 ∧
  am_tgt 91 66 = 157 ∧
  decode (cM m_Reader_advance) 94 = .ok (.iload_n 1, 1) ∧
  decode (cM m_Reader_advance) 95 = .ok (.invokestatic 70, 3) ∧
  invT 5 70 = some (m_Reader_isLetter, 1) ∧
  nM m_Reader_isLetter = 1 ∧
  oM m_Reader_isLetter = 5 ∧
  rkM m_Reader_isLetter = 2 ∧
  dM m_Reader_isLetter = 0 ∧
  decode (cM m_Reader_advance) 98 = .ok (.ifCond .eq 15, 3) ∧
  am_okt 98 15 ∧
  am_tgt 98 15 = 113 ∧
  decode (cM m_Reader_advance) 101 = .ok (.aload_n 0, 1) ∧
  decode (cM m_Reader_advance) 102 = .ok (.iconst 1, 1) ∧
  decode (cM m_Reader_advance) 103 = .ok (.putfield 56, 3) ∧
  decode (cM m_Reader_advance) 106 = .ok (.aload_n 0, 1) ∧
  decode (cM m_Reader_advance) 107 = .ok (.invokevirtual 74, 3) ∧
  invT 5 74 = some (m_Reader_passWord, 0) ∧
  nM m_Reader_passWord = 1 ∧
  oM m_Reader_passWord = 5 ∧
  rkM m_Reader_passWord = 0 ∧
  dM m_Reader_passWord = 1 ∧
  decode (cM m_Reader_advance) 110 = .ok (.goto 47, 3) ∧
  am_okt 110 47 ∧
  am_tgt 110 47 = 157 ∧
  decode (cM m_Reader_advance) 113 = .ok (.iload_n 1, 1) ∧
  decode (cM m_Reader_advance) 114 = .ok (.invokestatic 77, 3) ∧
  invT 5 77 = some (m_Reader_isDigit, 1) ∧
  nM m_Reader_isDigit = 1 ∧
  oM m_Reader_isDigit = 5 ∧
  rkM m_Reader_isDigit = 2 ∧
  dM m_Reader_isDigit = 0 ∧
  decode (cM m_Reader_advance) 117 = .ok (.ifCond .eq 15, 3) ∧
  am_okt 117 15 ∧
  am_tgt 117 15 = 132 ∧
  decode (cM m_Reader_advance) 120 = .ok (.aload_n 0, 1) ∧
  decode (cM m_Reader_advance) 121 = .ok (.iconst 2, 1) ∧
  decode (cM m_Reader_advance) 122 = .ok (.putfield 56, 3) ∧
  decode (cM m_Reader_advance) 125 = .ok (.aload_n 0, 1) ∧
  decode (cM m_Reader_advance) 126 = .ok (.invokevirtual 80, 3) ∧
  invT 5 80 = some (m_Reader_passNumber, 0) ∧
  nM m_Reader_passNumber = 1 ∧
  oM m_Reader_passNumber = 5 ∧
  rkM m_Reader_passNumber = 0 ∧
  dM m_Reader_passNumber = 1 ∧
  decode (cM m_Reader_advance) 129 = .ok (.goto 28, 3) ∧
  am_okt 129 28 ∧
  am_tgt 129 28 = 157 ∧
  decode (cM m_Reader_advance) 132 = .ok (.aload_n 0, 1) ∧
  decode (cM m_Reader_advance) 133 = .ok (.iload_n 1, 1) ∧
  decode (cM m_Reader_advance) 134 = .ok (.bipush 59, 2) ∧
  decode (cM m_Reader_advance) 136 = .ok (.if_icmp .ne 7, 3) ∧
  am_okt 136 7 ∧
  am_tgt 136 7 = 143 ∧
  decode (cM m_Reader_advance) 139 = .ok (.iconst 3, 1) ∧
  decode (cM m_Reader_advance) 140 = .ok (.goto 14, 3) ∧
  am_okt 140 14 ∧
  am_tgt 140 14 = 154 ∧
  decode (cM m_Reader_advance) 143 = .ok (.iload_n 1, 1) ∧
  decode (cM m_Reader_advance) 144 = .ok (.bipush 63, 2) ∧
  decode (cM m_Reader_advance) 146 = .ok (.if_icmp .ne 7, 3) ∧
  am_okt 146 7 ∧
  am_tgt 146 7 = 153 ∧
  decode (cM m_Reader_advance) 149 = .ok (.iconst 4, 1) ∧
  decode (cM m_Reader_advance) 150 = .ok (.goto 4, 3) ∧
  am_okt 150 4 ∧
  am_tgt 150 4 = 154 ∧
  decode (cM m_Reader_advance) 153 = .ok (.iconst 5, 1) ∧
  decode (cM m_Reader_advance) 154 = .ok (.putfield 56, 3) ∧
  decode (cM m_Reader_advance) 157 = .ok (.return_, 1) :=
  ⟨rfl, rfl, rfl, rfl, by decide +kernel, by decide +kernel, by decide +kernel, rfl, by decide +kernel, rfl, by decide +kernel, by decide +kernel, by decide +kernel, by decide +kernel, by decide +kernel, by decide +kernel, rfl, by decide +kernel, rfl, rfl, by decide +kernel, by decide +kernel, by decide +kernel, rfl, rfl, rfl, rfl, rfl, by decide +kernel, by decide +kernel, rfl, rfl, by decide +kernel, by decide +kernel, by decide +kernel, by decide +kernel, by decide +kernel, rfl, rfl, by decide +kernel, by decide +kernel, by decide +kernel, by decide +kernel, by decide +kernel, by decide +kernel, by decide +kernel, rfl, rfl, by decide +kernel, by decide +kernel, by decide +kernel, by decide +kernel, by decide +kernel, by decide +kernel, by decide +kernel, by decide +kernel, by decide +kernel, by decide +kernel, by decide +kernel, by decide +kernel, by decide +kernel, by decide +kernel, rfl, rfl, by decide +kernel, by decide +kernel, by decide +kernel, rfl, by decide +kernel, by decide +kernel, by decide +kernel, by decide +kernel, by decide +kernel, rfl, rfl, by decide +kernel, by decide +kernel, rfl, rfl, rfl, rfl, rfl, by decide +kernel, rfl, rfl, by decide +kernel, by decide +kernel, by decide +kernel, by decide +kernel, by decide +kernel, rfl, rfl, rfl, rfl, rfl, by decide +kernel, rfl, rfl, by decide +kernel, by decide +kernel, rfl, rfl, rfl, rfl, rfl, by decide +kernel, rfl, rfl, by decide +kernel, by decide +kernel, by decide +kernel, by decide +kernel, by decide +kernel, rfl, rfl, rfl, rfl, rfl, by decide +kernel, rfl, rfl, by decide +kernel, by decide +kernel, by decide +kernel, by decide +kernel, rfl, rfl, by decide +kernel, by decide +kernel, rfl, rfl, by decide +kernel, by decide +kernel, by decide +kernel, rfl, rfl, by decide +kernel, by decide +kernel, rfl, rfl, by decide +kernel, by decide +kernel, by decide +kernel⟩
set_option maxRecDepth 100000 in
set_option maxHeartbeats 4000000 in
theorem C_Reader_byteAt : oM m_Reader_byteAt = 5 ∧
  rkM m_Reader_byteAt = 1 ∧
  dM m_Reader_byteAt = 0 ∧
  lM m_Reader_byteAt = 2 ∧
  decode (cM m_Reader_byteAt) 0 = .ok (.iload_n 1, 1) ∧
  decode (cM m_Reader_byteAt) 1 = .ok (.ifCond .lt 27, 3) ∧
  am_okt 1 27 ∧
  am_tgt 1 27 = 28 ∧
  decode (cM m_Reader_byteAt) 4 = .ok (.iload_n 1, 1) ∧
  decode (cM m_Reader_byteAt) 5 = .ok (.aload_n 0, 1) ∧
  decode (cM m_Reader_byteAt) 6 = .ok (.getfield 35, 3) ∧
  fldT 5 35 = some (5, 4, 0) ∧
  decode (cM m_Reader_byteAt) 9 = .ok (.if_icmp .ge 19, 3) ∧
  am_okt 9 19 ∧
  am_tgt 9 19 = 28 ∧
  decode (cM m_Reader_byteAt) 12 = .ok (.iload_n 1, 1) ∧
  decode (cM m_Reader_byteAt) 13 = .ok (.sipush 900, 3) ∧
  decode (cM m_Reader_byteAt) 16 = .ok (.if_icmp .ge 12, 3) ∧
  am_okt 16 12 ∧
  am_tgt 16 12 = 28 ∧
  decode (cM m_Reader_byteAt) 19 = .ok (.aload_n 0, 1) ∧
  decode (cM m_Reader_byteAt) 20 = .ok (.getfield 9, 3) ∧
  fldT 5 9 = some (5, 0, 2) ∧
  decode (cM m_Reader_byteAt) 23 = .ok (.iload_n 1, 1) ∧
  decode (cM m_Reader_byteAt) 24 = .ok (.iaload, 1) ∧
  decode (cM m_Reader_byteAt) 25 = .ok (.goto 4, 3) ∧
  am_okt 25 4 ∧
  am_tgt 25 4 = 29 ∧
  decode (cM m_Reader_byteAt) 28 = .ok (.iconst (-1), 1) ∧
  decode (cM m_Reader_byteAt) 29 = .ok (.ireturn, 1) :=
  ⟨rfl, rfl, rfl, rfl, by decide +kernel, by decide +kernel, rfl, rfl, by decide +kernel, by decide +kernel, by decide +kernel, rfl, by decide +kernel, rfl, rfl, by decide +kernel, by decide +kernel, by decide +kernel, rfl, rfl, by decide +kernel, by decide +kernel, rfl, by decide +kernel, by decide +kernel, by decide +kernel, rfl, rfl, by decide +kernel, by decide +kernel⟩
set_option maxRecDepth 100000 in
set_option maxHeartbeats 4000000 in
theorem C_Reader_isLetter : oM m_Reader_isLetter = 5 ∧
  rkM m_Reader_isLetter = 2 ∧
  dM m_Reader_isLetter = 0 ∧
  lM m_Reader_isLetter = 1 ∧
  decode (cM m_Reader_isLetter) 0 = .ok (.iload_n 0, 1) ∧
  decode (cM m_Reader_isLetter) 1 = .ok (.bipush 97, 2) ∧
  decode (cM m_Reader_isLetter) 3 = .ok (.if_icmp .lt 13, 3) ∧
  am_okt 3 13 ∧
  am_tgt 3 13 = 16 ∧
  decode (cM m_Reader_isLetter) 6 = .ok (.iload_n 0, 1) ∧
  decode (cM m_Reader_isLetter) 7 = .ok (.bipush 122, 2) ∧
  decode (cM m_Reader_isLetter) 9 = .ok (.if_icmp .gt 7, 3) ∧
  am_okt 9 7 ∧
  am_tgt 9 7 = 16 ∧
  decode (cM m_Reader_isLetter) 12 = .ok (.iconst 1, 1) ∧
  decode (cM m_Reader_isLetter) 13 = .ok (.goto 4, 3) ∧
  am_okt 13 4 ∧
  am_tgt 13 4 = 17 ∧
  decode (cM m_Reader_isLetter) 16 = .ok (.iconst 0, 1) ∧
  decode (cM m_Reader_isLetter) 17 = .ok (.ireturn, 1) :=
  ⟨rfl, rfl, rfl, rfl, by decide +kernel, by decide +kernel, by decide +kernel, rfl, rfl, by decide +kernel, by decide +kernel, by decide +kernel, rfl, rfl, by decide +kernel, by decide +kernel, rfl, rfl, by decide +kernel, by decide +kernel⟩
set_option maxRecDepth 100000 in
set_option maxHeartbeats 4000000 in
theorem C_Reader_passWord : oM m_Reader_passWord = 5 ∧
  rkM m_Reader_passWord = 0 ∧
  dM m_Reader_passWord = 1 ∧
  lM m_Reader_passWord = 2 ∧
  decode (cM m_Reader_passWord) 0 = .ok (.aload_n 0, 1) ∧
  decode (cM m_Reader_passWord) 1 = .ok (.getfield 63, 3) ∧
  fldT 5 63 = some (5, 5, 0) ∧
  decode (cM m_Reader_passWord) 4 = .ok (.istore_n 1, 1) ∧
  decode (cM m_Reader_passWord) 5 = .ok (.iload_n 1, 1) ∧
  decode (cM m_Reader_passWord) 6 = .ok (.aload_n 0, 1) ∧
  decode (cM m_Reader_passWord) 7 = .ok (.getfield 35, 3) ∧
  fldT 5 35 = some (5, 4, 0) ∧
  decode (cM m_Reader_passWord) 10 = .ok (.if_icmp .ge 27, 3) ∧
  am_okt 10 27 ∧
  am_tgt 10 27 = 37 ∧
  decode (cM m_Reader_passWord) 13 = .ok (.aload_n 0, 1) ∧
  decode (cM m_Reader_passWord) 14 = .ok (.iload_n 1, 1) ∧
  decode (cM m_Reader_passWord) 15 = .ok (.invokevirtual 66, 3) ∧
  invT 5 66 = some (m_Reader_byteAt, 0) ∧
  nM m_Reader_byteAt = 2 ∧
  oM m_Reader_byteAt = 5 ∧
  rkM m_Reader_byteAt = 1 ∧
  dM m_Reader_byteAt = 0 ∧
  decode (cM m_Reader_passWord) 18 = .ok (.invokestatic 70, 3) ∧
  invT 5 70 = some (m_Reader_isLetter, 1) ∧
  nM m_Reader_isLetter = 1 ∧
  oM m_Reader_isLetter = 5 ∧
  rkM m_Reader_isLetter = 2 ∧
  dM m_Reader_isLetter = 0 ∧
  decode (cM m_Reader_passWord) 21 = .ok (.ifCond .eq 16, 3) ∧
  am_okt 21 16 ∧
  am_tgt 21 16 = 37 ∧
  decode (cM m_Reader_passWord) 24 = .ok (.aload_n 0, 1) ∧
  decode (cM m_Reader_passWord) 25 = .ok (.iload_n 1, 1) ∧
  decode (cM m_Reader_passWord) 26 = .ok (.iconst 1, 1) ∧
  decode (cM m_Reader_passWord) 27 = .ok (.iadd, 1) ∧
  decode (cM m_Reader_passWord) 28 = .ok (.putfield 38, 3) ∧
  fldT 5 38 = some (5, 6, 0) ∧
  decode (cM m_Reader_passWord) 31 = .ok (.iinc 1 1, 3) ∧
  decode (cM m_Reader_passWord) 34 = .ok (.goto (-29), 3) ∧
  am_okt 34 (-29) ∧
  am_tgt 34 (-29) = 5 ∧
  decode (cM m_Reader_passWord) 37 = .ok (.return_, 1) :=
  ⟨rfl, rfl, rfl, rfl, by decide +kernel, by decide +kernel, rfl, by decide +kernel, by decide +kernel, by decide +kernel, by decide +kernel, rfl, by decide +kernel, rfl, rfl, by decide +kernel, by decide +kernel, by decide +kernel, rfl, rfl, rfl, rfl, rfl, by decide +kernel, rfl, rfl, rfl, rfl, rfl, by decide +kernel, rfl, rfl, by decide +kernel, by decide +kernel, by decide +kernel, by decide +kernel, by decide +kernel, rfl, by decide +kernel, by decide +kernel, rfl, rfl, by decide +kernel⟩
set_option maxRecDepth 100000 in
set_option maxHeartbeats 4000000 in
theorem C_Reader_isDigit : oM m_Reader_isDigit = 5 ∧
  rkM m_Reader_isDigit = 2 ∧
  dM m_Reader_isDigit = 0 ∧
  lM m_Reader_isDigit = 1 ∧
  decode (cM m_Reader_isDigit) 0 = .ok (.iload_n 0, 1) ∧
  decode (cM m_Reader_isDigit) 1 = .ok (.bipush 48, 2) ∧
  decode (cM m_Reader_isDigit) 3 = .ok (.if_icmp .lt 13, 3) ∧
  am_okt 3 13 ∧
  am_tgt 3 13 = 16 ∧
  decode (cM m_Reader_isDigit) 6 = .ok (.iload_n 0, 1) ∧
  decode (cM m_Reader_isDigit) 7 = .ok (.bipush 57, 2) ∧
  decode (cM m_Reader_isDigit) 9 = .ok (.if_icmp .gt 7, 3) ∧
  am_okt 9 7 ∧
  am_tgt 9 7 = 16 ∧
  decode (cM m_Reader_isDigit) 12 = .ok (.iconst 1, 1) ∧
  decode (cM m_Reader_isDigit) 13 = .ok (.goto 4, 3) ∧
  am_okt 13 4 ∧
  am_tgt 13 4 = 17 ∧
  decode (cM m_Reader_isDigit) 16 = .ok (.iconst 0, 1) ∧
  decode (cM m_Reader_isDigit) 17 = .ok (.ireturn, 1) :=
  ⟨rfl, rfl, rfl, rfl, by decide +kernel, by decide +kernel, by decide +kernel, rfl, rfl, by decide +kernel, by decide +kernel, by decide +kernel, rfl, rfl, by decide +kernel, by decide +kernel, rfl, rfl, by decide +kernel, by decide +kernel⟩
set_option maxRecDepth 100000 in
set_option maxHeartbeats 4000000 in
theorem C_Reader_passNumber : oM m_Reader_passNumber = 5 ∧
  rkM m_Reader_passNumber = 0 ∧
  dM m_Reader_passNumber = 1 ∧
  lM m_Reader_passNumber = 2 ∧
  decode (cM m_Reader_passNumber) 0 = .ok (.aload_n 0, 1) ∧
  decode (cM m_Reader_passNumber) 1 = .ok (.iconst 0, 1) ∧
  decode (cM m_Reader_passNumber) 2 = .ok (.putfield 83, 3) ∧
  fldT 5 83 = some (5, 8, 0) ∧
  decode (cM m_Reader_passNumber) 5 = .ok (.aload_n 0, 1) ∧
  decode (cM m_Reader_passNumber) 6 = .ok (.getfield 63, 3) ∧
  fldT 5 63 = some (5, 5, 0) ∧
  decode (cM m_Reader_passNumber) 9 = .ok (.istore_n 1, 1) ∧
  decode (cM m_Reader_passNumber) 10 = .ok (.iload_n 1, 1) ∧
  decode (cM m_Reader_passNumber) 11 = .ok (.aload_n 0, 1) ∧
  decode (cM m_Reader_passNumber) 12 = .ok (.getfield 35, 3) ∧
  fldT 5 35 = some (5, 4, 0) ∧
  decode (cM m_Reader_passNumber) 15 = .ok (.if_icmp .ge 57, 3) ∧
  am_okt 15 57 ∧
  am_tgt 15 57 = 72 ∧
  decode (cM m_Reader_passNumber) 18 = .ok (.aload_n 0, 1) ∧
  decode (cM m_Reader_passNumber) 19 = .ok (.iload_n 1, 1) ∧
  decode (cM m_Reader_passNumber) 20 = .ok (.invokevirtual 66, 3) ∧
  invT 5 66 = some (m_Reader_byteAt, 0) ∧
  nM m_Reader_byteAt = 2 ∧
  oM m_Reader_byteAt = 5 ∧
  rkM m_Reader_byteAt = 1 ∧
  dM m_Reader_byteAt = 0 ∧
  decode (cM m_Reader_passNumber) 23 = .ok (.invokestatic 77, 3) ∧
  invT 5 77 = some (m_Reader_isDigit, 1) ∧
  nM m_Reader_isDigit = 1 ∧
  oM m_Reader_isDigit = 5 ∧
  rkM m_Reader_isDigit = 2 ∧
  dM m_Reader_isDigit = 0 ∧
  decode (cM m_Reader_passNumber) 26 = .ok (.ifCond .eq 46, 3) ∧
  am_okt 26 46 ∧
  am_tgt 26 46 = 72 ∧
  decode (cM m_Reader_passNumber) 29 = .ok (.aload_n 0, 1) ∧
  decode (cM m_Reader_passNumber) 30 = .ok (.iload_n 1, 1) ∧
  decode (cM m_Reader_passNumber) 31 = .ok (.iconst 1, 1) ∧
  decode (cM m_Reader_passNumber) 32 = .ok (.iadd, 1) ∧
  decode (cM m_Reader_passNumber) 33 = .ok (.putfield 38, 3) ∧
  fldT 5 38 = some (5, 6, 0) ∧
  decode (cM m_Reader_passNumber) 36 = .ok (.iload_n 1, 1) ∧
  decode (cM m_Reader_passNumber) 37 = .ok (.aload_n 0, 1) ∧
  decode (cM m_Reader_passNumber) 38 = .ok (.getfield 63, 3) ∧
  decode (cM m_Reader_passNumber) 41 = .ok (.iconst 3, 1) ∧
  decode (cM m_Reader_passNumber) 42 = .ok (.iadd, 1) ∧
  decode (cM m_Reader_passNumber) 43 = .ok (.if_icmp .ge 23, 3) ∧
  am_okt 43 23 ∧
  am_tgt 43 23 = 66 ∧
  decode (cM m_Reader_passNumber) 46 = .ok (.aload_n 0, 1) ∧
  decode (cM m_Reader_passNumber) 47 = .ok (.aload_n 0, 1) ∧
  decode (cM m_Reader_passNumber) 48 = .ok (.getfield 83, 3) ∧
  decode (cM m_Reader_passNumber) 51 = .ok (.bipush 10, 2) ∧
  decode (cM m_Reader_passNumber) 53 = .ok (.imul, 1) ∧
  decode (cM m_Reader_passNumber) 54 = .ok (.aload_n 0, 1) ∧
  decode (cM m_Reader_passNumber) 55 = .ok (.iload_n 1, 1) ∧
  decode (cM m_Reader_passNumber) 56 = .ok (.invokevirtual 66, 3) ∧
  decode (cM m_Reader_passNumber) 59 = .ok (.iadd, 1) ∧
  decode (cM m_Reader_passNumber) 60 = .ok (.bipush 48, 2) ∧
  decode (cM m_Reader_passNumber) 62 = .ok (.isub, 1) ∧
  decode (cM m_Reader_passNumber) 63 = .ok (.putfield 83, 3) ∧
  decode (cM m_Reader_passNumber) 66 = .ok (.iinc 1 1, 3) ∧
  decode (cM m_Reader_passNumber) 69 = .ok (.goto (-59), 3) ∧
  am_okt 69 (-59) ∧
  am_tgt 69 (-59) = 10 ∧
  decode (cM m_Reader_passNumber) 72 = .ok (.return_, 1) :=
  ⟨rfl, rfl, rfl, rfl, by decide +kernel, by decide +kernel, by decide +kernel, rfl, by decide +kernel, by decide +kernel, rfl, by decide +kernel, by decide +kernel, by decide +kernel, by decide +kernel, rfl, by decide +kernel, rfl, rfl, by decide +kernel, by decide +kernel, by decide +kernel, rfl, rfl, rfl, rfl, rfl, by decide +kernel, rfl, rfl, rfl, rfl, rfl, by decide +kernel, rfl, rfl, by decide +kernel, by decide +kernel, by decide +kernel, by decide +kernel, by decide +kernel, rfl, by decide +kernel, by decide +kernel, by decide +kernel, by decide +kernel, by decide +kernel, by decide +kernel, rfl, rfl, by decide +kernel, by decide +kernel, by decide +kernel, by decide +kernel, by decide +kernel, by decide +kernel, by decide +kernel, by decide +kernel, by decide +kernel, by decide +kernel, by decide +kernel, by decide +kernel, by decide +kernel, by decide +kernel, rfl, rfl, by decide +kernel⟩
set_option maxRecDepth 100000 in
set_option maxHeartbeats 4000000 in
theorem C_Reader_readClause : oM m_Reader_readClause = 5 ∧
  rkM m_Reader_readClause = 1 ∧
  dM m_Reader_readClause = 10 ∧
  lM m_Reader_readClause = 1 ∧
  decode (cM m_Reader_readClause) 0 = .ok (.aload_n 0, 1) ∧
  decode (cM m_Reader_readClause) 1 = .ok (.getfield 56, 3) ∧
  fldT 5 56 = some (5, 7, 0) ∧
  decode (cM m_Reader_readClause) 4 = .ok (.iconst 1, 1) ∧
  decode (cM m_Reader_readClause) 5 = .ok (.if_icmp .eq 5, 3) ∧
  am_okt 5 5 ∧
  am_tgt 5 5 = 10 ∧
  decode (cM m_Reader_readClause) 8 = .ok (.iconst 1, 1) ∧
  decode (cM m_Reader_readClause) 9 = .ok (.ireturn, 1) ∧
  decode (cM m_Reader_readClause) 10 = .ok (.aload_n 0, 1) ∧
  decode (cM m_Reader_readClause) 11 = .ok (.ldc 94, 2) ∧
  ldcT 5 94 = some (.inr 191) ∧
  decode (cM m_Reader_readClause) 13 = .ok (.invokevirtual 96, 3) ∧
  invT 5 96 = some (m_Reader_isWord, 0) ∧
  nM m_Reader_isWord = 2 ∧
  oM m_Reader_isWord = 5 ∧
  rkM m_Reader_isWord = 2 ∧
  dM m_Reader_isWord = 9 ∧
  decode (cM m_Reader_readClause) 16 = .ok (.ifCond .eq 8, 3) ∧
  am_okt 16 8 ∧
  am_tgt 16 8 = 24 ∧
  decode (cM m_Reader_readClause) 19 = .ok (.aload_n 0, 1) ∧
  decode (cM m_Reader_readClause) 20 = .ok (.invokevirtual 100, 3) ∧
  invT 5 100 = some (m_Reader_readTimber, 0) ∧
  nM m_Reader_readTimber = 1 ∧
  oM m_Reader_readTimber = 5 ∧
  rkM m_Reader_readTimber = 1 ∧
  dM m_Reader_readTimber = 4 ∧
  decode (cM m_Reader_readClause) 23 = .ok (.ireturn, 1) ∧
  decode (cM m_Reader_readClause) 24 = .ok (.aload_n 0, 1) ∧
  decode (cM m_Reader_readClause) 25 = .ok (.ldc 103, 2) ∧
  ldcT 5 103 = some (.inr 192) ∧
  decode (cM m_Reader_readClause) 27 = .ok (.invokevirtual 96, 3) ∧
  decode (cM m_Reader_readClause) 30 = .ok (.ifCond .eq 13, 3) ∧
  am_okt 30 13 ∧
  am_tgt 30 13 = 43 ∧
  decode (cM m_Reader_readClause) 33 = .ok (.aload_n 0, 1) ∧
  decode (cM m_Reader_readClause) 34 = .ok (.iconst 0, 1) ∧
  decode (cM m_Reader_readClause) 35 = .ok (.bipush 50, 2) ∧
  decode (cM m_Reader_readClause) 37 = .ok (.bipush 100, 2) ∧
  decode (cM m_Reader_readClause) 39 = .ok (.invokevirtual 105, 3) ∧
  invT 5 105 = some (m_Reader_readSetting, 0) ∧
  nM m_Reader_readSetting = 4 ∧
  oM m_Reader_readSetting = 5 ∧
  rkM m_Reader_readSetting = 1 ∧
  dM m_Reader_readSetting = 4 ∧
  decode (cM m_Reader_readClause) 42 = .ok (.ireturn, 1) ∧
  decode (cM m_Reader_readClause) 43 = .ok (.aload_n 0, 1) ∧
  decode (cM m_Reader_readClause) 44 = .ok (.ldc 109, 2) ∧
  ldcT 5 109 = some (.inr 193) ∧
  decode (cM m_Reader_readClause) 46 = .ok (.invokevirtual 96, 3) ∧
  decode (cM m_Reader_readClause) 49 = .ok (.ifCond .eq 12, 3) ∧
  am_okt 49 12 ∧
  am_tgt 49 12 = 61 ∧
  decode (cM m_Reader_readClause) 52 = .ok (.aload_n 0, 1) ∧
  decode (cM m_Reader_readClause) 53 = .ok (.iconst 1, 1) ∧
  decode (cM m_Reader_readClause) 54 = .ok (.iconst 3, 1) ∧
  decode (cM m_Reader_readClause) 55 = .ok (.bipush 24, 2) ∧
  decode (cM m_Reader_readClause) 57 = .ok (.invokevirtual 105, 3) ∧
  decode (cM m_Reader_readClause) 60 = .ok (.ireturn, 1) ∧
  decode (cM m_Reader_readClause) 61 = .ok (.aload_n 0, 1) ∧
  decode (cM m_Reader_readClause) 62 = .ok (.ldc 111, 2) ∧
  ldcT 5 111 = some (.inr 194) ∧
  decode (cM m_Reader_readClause) 64 = .ok (.invokevirtual 96, 3) ∧
  decode (cM m_Reader_readClause) 67 = .ok (.ifCond .eq 12, 3) ∧
  am_okt 67 12 ∧
  am_tgt 67 12 = 79 ∧
  decode (cM m_Reader_readClause) 70 = .ok (.aload_n 0, 1) ∧
  decode (cM m_Reader_readClause) 71 = .ok (.iconst 2, 1) ∧
  decode (cM m_Reader_readClause) 72 = .ok (.iconst 0, 1) ∧
  decode (cM m_Reader_readClause) 73 = .ok (.bipush 50, 2) ∧
  decode (cM m_Reader_readClause) 75 = .ok (.invokevirtual 105, 3) ∧
  decode (cM m_Reader_readClause) 78 = .ok (.ireturn, 1) ∧
  decode (cM m_Reader_readClause) 79 = .ok (.aload_n 0, 1) ∧
  decode (cM m_Reader_readClause) 80 = .ok (.ldc 113, 2) ∧
  ldcT 5 113 = some (.inr 195) ∧
  decode (cM m_Reader_readClause) 82 = .ok (.invokevirtual 96, 3) ∧
  decode (cM m_Reader_readClause) 85 = .ok (.ifCond .eq 8, 3) ∧
  am_okt 85 8 ∧
  am_tgt 85 8 = 93 ∧
  decode (cM m_Reader_readClause) 88 = .ok (.aload_n 0, 1) ∧
  decode (cM m_Reader_readClause) 89 = .ok (.invokevirtual 115, 3) ∧
  invT 5 115 = some (m_Reader_readKnown, 0) ∧
  nM m_Reader_readKnown = 1 ∧
  oM m_Reader_readKnown = 5 ∧
  rkM m_Reader_readKnown = 1 ∧
  dM m_Reader_readKnown = 4 ∧
  decode (cM m_Reader_readClause) 92 = .ok (.ireturn, 1) ∧
  decode (cM m_Reader_readClause) 93 = .ok (.aload_n 0, 1) ∧
  decode (cM m_Reader_readClause) 94 = .ok (.ldc 118, 2) ∧
  ldcT 5 118 = some (.inr 196) ∧
  decode (cM m_Reader_readClause) 96 = .ok (.invokevirtual 96, 3) ∧
  decode (cM m_Reader_readClause) 99 = .ok (.ifCond .eq 10, 3) ∧
  am_okt 99 10 ∧
  am_tgt 99 10 = 109 ∧
  decode (cM m_Reader_readClause) 102 = .ok (.aload_n 0, 1) ∧
  decode (cM m_Reader_readClause) 103 = .ok (.invokevirtual 120, 3) ∧
  invT 5 120 = some (m_Reader_readHouse, 0) ∧
  nM m_Reader_readHouse = 1 ∧
  oM m_Reader_readHouse = 5 ∧
  rkM m_Reader_readHouse = 1 ∧
  dM m_Reader_readHouse = 4 ∧
  decode (cM m_Reader_readClause) 106 = .ok (.goto 4, 3) ∧
  am_okt 106 4 ∧
  am_tgt 106 4 = 110 ∧
  decode (cM m_Reader_readClause) 109 = .ok (.iconst 1, 1) ∧
  decode (cM m_Reader_readClause) 110 = .ok (.ireturn, 1) :=
  ⟨rfl, rfl, rfl, rfl, by decide +kernel, by decide +kernel, rfl, by decide +kernel, by decide +kernel, rfl, rfl, by decide +kernel, by decide +kernel, by decide +kernel, by decide +kernel, rfl, by decide +kernel, rfl, rfl, rfl, rfl, rfl, by decide +kernel, rfl, rfl, by decide +kernel, by decide +kernel, rfl, rfl, rfl, rfl, rfl, by decide +kernel, by decide +kernel, by decide +kernel, rfl, by decide +kernel, by decide +kernel, rfl, rfl, by decide +kernel, by decide +kernel, by decide +kernel, by decide +kernel, by decide +kernel, rfl, rfl, rfl, rfl, rfl, by decide +kernel, by decide +kernel, by decide +kernel, rfl, by decide +kernel, by decide +kernel, rfl, rfl, by decide +kernel, by decide +kernel, by decide +kernel, by decide +kernel, by decide +kernel, by decide +kernel, by decide +kernel, by decide +kernel, rfl, by decide +kernel, by decide +kernel, rfl, rfl, by decide +kernel, by decide +kernel, by decide +kernel, by decide +kernel, by decide +kernel, by decide +kernel, by decide +kernel, by decide +kernel, rfl, by decide +kernel, by decide +kernel, rfl, rfl, by decide +kernel, by decide +kernel, rfl, rfl, rfl, rfl, rfl, by decide +kernel, by decide +kernel, by decide +kernel, rfl, by decide +kernel, by decide +kernel, rfl, rfl, by decide +kernel, by decide +kernel, rfl, rfl, rfl, rfl, rfl, by decide +kernel, rfl, rfl, by decide +kernel, by decide +kernel⟩
set_option maxRecDepth 100000 in
set_option maxHeartbeats 4000000 in
theorem C_Reader_isWord : oM m_Reader_isWord = 5 ∧
  rkM m_Reader_isWord = 2 ∧
  dM m_Reader_isWord = 9 ∧
  lM m_Reader_isWord = 3 ∧
  decode (cM m_Reader_isWord) 0 = .ok (.aload_n 0, 1) ∧
  decode (cM m_Reader_isWord) 1 = .ok (.getfield 38, 3) ∧
  fldT 5 38 = some (5, 6, 0) ∧
  decode (cM m_Reader_isWord) 4 = .ok (.aload_n 0, 1) ∧
  decode (cM m_Reader_isWord) 5 = .ok (.getfield 63, 3) ∧
  fldT 5 63 = some (5, 5, 0) ∧
  decode (cM m_Reader_isWord) 8 = .ok (.isub, 1) ∧
  decode (cM m_Reader_isWord) 9 = .ok (.aload_n 1, 1) ∧
  decode (cM m_Reader_isWord) 10 = .ok (.invokevirtual 86, 3) ∧
  invT 5 86 = some (m_String_length, 0) ∧
  nM m_String_length = 1 ∧
  oM m_String_length = 15 ∧
  rkM m_String_length = 1 ∧
  dM m_String_length = 8 ∧
  decode (cM m_Reader_isWord) 13 = .ok (.if_icmp .eq 5, 3) ∧
  am_okt 13 5 ∧
  am_tgt 13 5 = 18 ∧
  decode (cM m_Reader_isWord) 16 = .ok (.iconst 0, 1) ∧
  decode (cM m_Reader_isWord) 17 = .ok (.ireturn, 1) ∧
  decode (cM m_Reader_isWord) 18 = .ok (.iconst 0, 1) ∧
  decode (cM m_Reader_isWord) 19 = .ok (.istore_n 2, 1) ∧
  decode (cM m_Reader_isWord) 20 = .ok (.iload_n 2, 1) ∧
  decode (cM m_Reader_isWord) 21 = .ok (.aload_n 1, 1) ∧
  decode (cM m_Reader_isWord) 22 = .ok (.invokevirtual 86, 3) ∧
  decode (cM m_Reader_isWord) 25 = .ok (.if_icmp .ge 29, 3) ∧
  am_okt 25 29 ∧
  am_tgt 25 29 = 54 ∧
  decode (cM m_Reader_isWord) 28 = .ok (.aload_n 0, 1) ∧
  decode (cM m_Reader_isWord) 29 = .ok (.aload_n 0, 1) ∧
  decode (cM m_Reader_isWord) 30 = .ok (.getfield 63, 3) ∧
  decode (cM m_Reader_isWord) 33 = .ok (.iload_n 2, 1) ∧
  decode (cM m_Reader_isWord) 34 = .ok (.iadd, 1) ∧
  decode (cM m_Reader_isWord) 35 = .ok (.invokevirtual 66, 3) ∧
  invT 5 66 = some (m_Reader_byteAt, 0) ∧
  nM m_Reader_byteAt = 2 ∧
  oM m_Reader_byteAt = 5 ∧
  rkM m_Reader_byteAt = 1 ∧
  dM m_Reader_byteAt = 0 ∧
  decode (cM m_Reader_isWord) 38 = .ok (.aload_n 1, 1) ∧
  decode (cM m_Reader_isWord) 39 = .ok (.iload_n 2, 1) ∧
  decode (cM m_Reader_isWord) 40 = .ok (.invokevirtual 90, 3) ∧
  invT 5 90 = some (m_String_charAt, 0) ∧
  nM m_String_charAt = 2 ∧
  oM m_String_charAt = 15 ∧
  rkM m_String_charAt = 1 ∧
  dM m_String_charAt = 8 ∧
  decode (cM m_Reader_isWord) 43 = .ok (.if_icmp .eq 5, 3) ∧
  am_okt 43 5 ∧
  am_tgt 43 5 = 48 ∧
  decode (cM m_Reader_isWord) 46 = .ok (.iconst 0, 1) ∧
  decode (cM m_Reader_isWord) 47 = .ok (.ireturn, 1) ∧
  decode (cM m_Reader_isWord) 48 = .ok (.iinc 2 1, 3) ∧
  decode (cM m_Reader_isWord) 51 = .ok (.goto (-31), 3) ∧
  am_okt 51 (-31) ∧
  am_tgt 51 (-31) = 20 ∧
  decode (cM m_Reader_isWord) 54 = .ok (.iconst 1, 1) ∧
  decode (cM m_Reader_isWord) 55 = .ok (.ireturn, 1) :=
  ⟨rfl, rfl, rfl, rfl, by decide +kernel, by decide +kernel, rfl, by decide +kernel, by decide +kernel, rfl, by decide +kernel, by decide +kernel, by decide +kernel, rfl, rfl, rfl, rfl, rfl, by decide +kernel, rfl, rfl, by decide +kernel, by decide +kernel, by decide +kernel, by decide +kernel, by decide +kernel, by decide +kernel, by decide +kernel, by decide +kernel, rfl, rfl, by decide +kernel, by decide +kernel, by decide +kernel, by decide +kernel, by decide +kernel, by decide +kernel, rfl, rfl, rfl, rfl, rfl, by decide +kernel, by decide +kernel, by decide +kernel, rfl, rfl, rfl, rfl, rfl, by decide +kernel, rfl, rfl, by decide +kernel, by decide +kernel, by decide +kernel, by decide +kernel, rfl, rfl, by decide +kernel, by decide +kernel⟩
set_option maxRecDepth 100000 in
set_option maxHeartbeats 4000000 in
theorem C_Reader_readTimber : oM m_Reader_readTimber = 5 ∧
  rkM m_Reader_readTimber = 1 ∧
  dM m_Reader_readTimber = 4 ∧
  lM m_Reader_readTimber = 3 ∧
  decode (cM m_Reader_readTimber) 0 = .ok (.aload_n 0, 1) ∧
  decode (cM m_Reader_readTimber) 1 = .ok (.getfield 18, 3) ∧
  fldT 5 18 = some (5, 1, 2) ∧
  decode (cM m_Reader_readTimber) 4 = .ok (.getfield 123, 3) ∧
  fldT 5 123 = some (8, 3, 0) ∧
  decode (cM m_Reader_readTimber) 7 = .ok (.bipush 8, 2) ∧
  decode (cM m_Reader_readTimber) 9 = .ok (.if_icmp .lt 5, 3) ∧
  am_okt 9 5 ∧
  am_tgt 9 5 = 14 ∧
  decode (cM m_Reader_readTimber) 12 = .ok (.iconst 2, 1) ∧
  decode (cM m_Reader_readTimber) 13 = .ok (.ireturn, 1) ∧
  decode (cM m_Reader_readTimber) 14 = .ok (.aload_n 0, 1) ∧
  decode (cM m_Reader_readTimber) 15 = .ok (.iconst 0, 1) ∧
  decode (cM m_Reader_readTimber) 16 = .ok (.bipush 30, 2) ∧
  decode (cM m_Reader_readTimber) 18 = .ok (.invokevirtual 126, 3) ∧
  invT 5 126 = some (m_Reader_readNumber, 0) ∧
  nM m_Reader_readNumber = 3 ∧
  oM m_Reader_readNumber = 5 ∧
  rkM m_Reader_readNumber = 1 ∧
  dM m_Reader_readNumber = 3 ∧
  decode (cM m_Reader_readTimber) 21 = .ok (.istore_n 1, 1) ∧
  decode (cM m_Reader_readTimber) 22 = .ok (.iload_n 1, 1) ∧
  decode (cM m_Reader_readTimber) 23 = .ok (.ifCond .eq 5, 3) ∧
  am_okt 23 5 ∧
  am_tgt 23 5 = 28 ∧
  decode (cM m_Reader_readTimber) 26 = .ok (.iload_n 1, 1) ∧
  decode (cM m_Reader_readTimber) 27 = .ok (.ireturn, 1) ∧
  decode (cM m_Reader_readTimber) 28 = .ok (.aload_n 0, 1) ∧
  decode (cM m_Reader_readTimber) 29 = .ok (.getfield 83, 3) ∧
  fldT 5 83 = some (5, 8, 0) ∧
  decode (cM m_Reader_readTimber) 32 = .ok (.istore_n 2, 1) ∧
  decode (cM m_Reader_readTimber) 33 = .ok (.aload_n 0, 1) ∧
  decode (cM m_Reader_readTimber) 34 = .ok (.iconst 0, 1) ∧
  decode (cM m_Reader_readTimber) 35 = .ok (.bipush 30, 2) ∧
  decode (cM m_Reader_readTimber) 37 = .ok (.invokevirtual 126, 3) ∧
  decode (cM m_Reader_readTimber) 40 = .ok (.istore_n 1, 1) ∧
  decode (cM m_Reader_readTimber) 41 = .ok (.iload_n 1, 1) ∧
  decode (cM m_Reader_readTimber) 42 = .ok (.ifCond .eq 5, 3) ∧
  am_okt 42 5 ∧
  am_tgt 42 5 = 47 ∧
  decode (cM m_Reader_readTimber) 45 = .ok (.iload_n 1, 1) ∧
  decode (cM m_Reader_readTimber) 46 = .ok (.ireturn, 1) ∧
  decode (cM m_Reader_readTimber) 47 = .ok (.aload_n 0, 1) ∧
  decode (cM m_Reader_readTimber) 48 = .ok (.getfield 83, 3) ∧
  decode (cM m_Reader_readTimber) 51 = .ok (.iload_n 2, 1) ∧
  decode (cM m_Reader_readTimber) 52 = .ok (.if_icmp .ge 5, 3) ∧
  am_okt 52 5 ∧
  am_tgt 52 5 = 57 ∧
  decode (cM m_Reader_readTimber) 55 = .ok (.iconst 5, 1) ∧
  decode (cM m_Reader_readTimber) 56 = .ok (.ireturn, 1) ∧
  decode (cM m_Reader_readTimber) 57 = .ok (.aload_n 0, 1) ∧
  decode (cM m_Reader_readTimber) 58 = .ok (.aload_n 0, 1) ∧
  decode (cM m_Reader_readTimber) 59 = .ok (.getfield 18, 3) ∧
  decode (cM m_Reader_readTimber) 62 = .ok (.iload_n 2, 1) ∧
  decode (cM m_Reader_readTimber) 63 = .ok (.aload_n 0, 1) ∧
  decode (cM m_Reader_readTimber) 64 = .ok (.getfield 83, 3) ∧
  decode (cM m_Reader_readTimber) 67 = .ok (.invokevirtual 129, 3) ∧
  invT 5 129 = some (m_Stock_addTimber, 0) ∧
  nM m_Stock_addTimber = 3 ∧
  oM m_Stock_addTimber = 8 ∧
  rkM m_Stock_addTimber = 3 ∧
  dM m_Stock_addTimber = 1 ∧
  decode (cM m_Reader_readTimber) 70 = .ok (.invokevirtual 133, 3) ∧
  invT 5 133 = some (m_Reader_readRings, 0) ∧
  nM m_Reader_readRings = 2 ∧
  oM m_Reader_readRings = 5 ∧
  rkM m_Reader_readRings = 1 ∧
  dM m_Reader_readRings = 3 ∧
  decode (cM m_Reader_readTimber) 73 = .ok (.ireturn, 1) :=
  ⟨rfl, rfl, rfl, rfl, by decide +kernel, by decide +kernel, rfl, by decide +kernel, rfl, by decide +kernel, by decide +kernel, rfl, rfl, by decide +kernel, by decide +kernel, by decide +kernel, by decide +kernel, by decide +kernel, by decide +kernel, rfl, rfl, rfl, rfl, rfl, by decide +kernel, by decide +kernel, by decide +kernel, rfl, rfl, by decide +kernel, by decide +kernel, by decide +kernel, by decide +kernel, rfl, by decide +kernel, by decide +kernel, by decide +kernel, by decide +kernel, by decide +kernel, by decide +kernel, by decide +kernel, by decide +kernel, rfl, rfl, by decide +kernel, by decide +kernel, by decide +kernel, by decide +kernel, by decide +kernel, by decide +kernel, rfl, rfl, by decide +kernel, by decide +kernel, by decide +kernel, by decide +kernel, by decide +kernel, by decide +kernel, by decide +kernel, by decide +kernel, by decide +kernel, rfl, rfl, rfl, rfl, rfl, by decide +kernel, rfl, rfl, rfl, rfl, rfl, by decide +kernel⟩
set_option maxRecDepth 100000 in
set_option maxHeartbeats 4000000 in
theorem C_Reader_readNumber : oM m_Reader_readNumber = 5 ∧
  rkM m_Reader_readNumber = 1 ∧
  dM m_Reader_readNumber = 3 ∧
  lM m_Reader_readNumber = 3 ∧
  decode (cM m_Reader_readNumber) 0 = .ok (.aload_n 0, 1) ∧
  decode (cM m_Reader_readNumber) 1 = .ok (.invokevirtual 53, 3) ∧
  invT 5 53 = some (m_Reader_advance, 0) ∧
  nM m_Reader_advance = 1 ∧
  oM m_Reader_advance = 5 ∧
  rkM m_Reader_advance = 0 ∧
  dM m_Reader_advance = 2 ∧
  decode (cM m_Reader_readNumber) 4 = .ok (.aload_n 0, 1) ∧
  decode (cM m_Reader_readNumber) 5 = .ok (.getfield 56, 3) ∧
  fldT 5 56 = some (5, 7, 0) ∧
  decode (cM m_Reader_readNumber) 8 = .ok (.iconst 2, 1) ∧
  decode (cM m_Reader_readNumber) 9 = .ok (.if_icmp .eq 5, 3) ∧
  am_okt 9 5 ∧
  am_tgt 9 5 = 14 ∧
  decode (cM m_Reader_readNumber) 12 = .ok (.iconst 1, 1) ∧
  decode (cM m_Reader_readNumber) 13 = .ok (.ireturn, 1) ∧
  decode (cM m_Reader_readNumber) 14 = .ok (.aload_n 0, 1) ∧
  decode (cM m_Reader_readNumber) 15 = .ok (.getfield 38, 3) ∧
  fldT 5 38 = some (5, 6, 0) ∧
  decode (cM m_Reader_readNumber) 18 = .ok (.aload_n 0, 1) ∧
  decode (cM m_Reader_readNumber) 19 = .ok (.getfield 63, 3) ∧
  fldT 5 63 = some (5, 5, 0) ∧
  decode (cM m_Reader_readNumber) 22 = .ok (.isub, 1) ∧
  decode (cM m_Reader_readNumber) 23 = .ok (.iconst 3, 1) ∧
  decode (cM m_Reader_readNumber) 24 = .ok (.if_icmp .gt 19, 3) ∧
  am_okt 24 19 ∧
  am_tgt 24 19 = 43 ∧
  decode (cM m_Reader_readNumber) 27 = .ok (.aload_n 0, 1) ∧
  decode (cM m_Reader_readNumber) 28 = .ok (.getfield 83, 3) ∧
  fldT 5 83 = some (5, 8, 0) ∧
  decode (cM m_Reader_readNumber) 31 = .ok (.iload_n 1, 1) ∧
  decode (cM m_Reader_readNumber) 32 = .ok (.if_icmp .lt 11, 3) ∧
  am_okt 32 11 ∧
  am_tgt 32 11 = 43 ∧
  decode (cM m_Reader_readNumber) 35 = .ok (.aload_n 0, 1) ∧
  decode (cM m_Reader_readNumber) 36 = .ok (.getfield 83, 3) ∧
  decode (cM m_Reader_readNumber) 39 = .ok (.iload_n 2, 1) ∧
  decode (cM m_Reader_readNumber) 40 = .ok (.if_icmp .le 7, 3) ∧
  am_okt 40 7 ∧
  am_tgt 40 7 = 47 ∧
  decode (cM m_Reader_readNumber) 43 = .ok (.iconst 2, 1) ∧
  decode (cM m_Reader_readNumber) 44 = .ok (.goto 4, 3) ∧
  am_okt 44 4 ∧
  am_tgt 44 4 = 48 ∧
  decode (cM m_Reader_readNumber) 47 = .ok (.iconst 0, 1) ∧
  decode (cM m_Reader_readNumber) 48 = .ok (.ireturn, 1) :=
  ⟨rfl, rfl, rfl, rfl, by decide +kernel, by decide +kernel, rfl, rfl, rfl, rfl, rfl, by decide +kernel, by decide +kernel, rfl, by decide +kernel, by decide +kernel, rfl, rfl, by decide +kernel, by decide +kernel, by decide +kernel, by decide +kernel, rfl, by decide +kernel, by decide +kernel, rfl, by decide +kernel, by decide +kernel, by decide +kernel, rfl, rfl, by decide +kernel, by decide +kernel, rfl, by decide +kernel, by decide +kernel, rfl, rfl, by decide +kernel, by decide +kernel, by decide +kernel, by decide +kernel, rfl, rfl, by decide +kernel, by decide +kernel, rfl, rfl, by decide +kernel, by decide +kernel⟩
set_option maxRecDepth 100000 in
set_option maxHeartbeats 4000000 in
theorem C_Reader_readRings : oM m_Reader_readRings = 5 ∧
  rkM m_Reader_readRings = 1 ∧
  dM m_Reader_readRings = 3 ∧
  lM m_Reader_readRings = 4 ∧
  decode (cM m_Reader_readRings) 0 = .ok (.aload_n 0, 1) ∧
  decode (cM m_Reader_readRings) 1 = .ok (.invokevirtual 53, 3) ∧
  invT 5 53 = some (m_Reader_advance, 0) ∧
  nM m_Reader_advance = 1 ∧
  oM m_Reader_advance = 5 ∧
  rkM m_Reader_advance = 0 ∧
  dM m_Reader_advance = 2 ∧
  decode (cM m_Reader_readRings) 4 = .ok (.iconst 0, 1) ∧
  decode (cM m_Reader_readRings) 5 = .ok (.istore_n 2, 1) ∧
  decode (cM m_Reader_readRings) 6 = .ok (.iload_n 2, 1) ∧
  decode (cM m_Reader_readRings) 7 = .ok (.bipush 24, 2) ∧
  decode (cM m_Reader_readRings) 9 = .ok (.if_icmp .gt 115, 3) ∧
  am_okt 9 115 ∧
  am_tgt 9 115 = 124 ∧
  decode (cM m_Reader_readRings) 12 = .ok (.iload_n 2, 1) ∧
  decode (cM m_Reader_readRings) 13 = .ok (.iconst 3, 1) ∧
  decode (cM m_Reader_readRings) 14 = .ok (.if_icmp .lt 17, 3) ∧
  am_okt 14 17 ∧
  am_tgt 14 17 = 31 ∧
  decode (cM m_Reader_readRings) 17 = .ok (.aload_n 0, 1) ∧
  decode (cM m_Reader_readRings) 18 = .ok (.getfield 56, 3) ∧
  fldT 5 56 = some (5, 7, 0) ∧
  decode (cM m_Reader_readRings) 21 = .ok (.iconst 3, 1) ∧
  decode (cM m_Reader_readRings) 22 = .ok (.if_icmp .ne 9, 3) ∧
  am_okt 22 9 ∧
  am_tgt 22 9 = 31 ∧
  decode (cM m_Reader_readRings) 25 = .ok (.aload_n 0, 1) ∧
  decode (cM m_Reader_readRings) 26 = .ok (.invokevirtual 53, 3) ∧
  decode (cM m_Reader_readRings) 29 = .ok (.iconst 0, 1) ∧
  decode (cM m_Reader_readRings) 30 = .ok (.ireturn, 1) ∧
  decode (cM m_Reader_readRings) 31 = .ok (.aload_n 0, 1) ∧
  decode (cM m_Reader_readRings) 32 = .ok (.getfield 56, 3) ∧
  decode (cM m_Reader_readRings) 35 = .ok (.iconst 2, 1) ∧
  decode (cM m_Reader_readRings) 36 = .ok (.if_icmp .eq 5, 3) ∧
  am_okt 36 5 ∧
  am_tgt 36 5 = 41 ∧
  decode (cM m_Reader_readRings) 39 = .ok (.iconst 1, 1) ∧
  decode (cM m_Reader_readRings) 40 = .ok (.ireturn, 1) ∧
  decode (cM m_Reader_readRings) 41 = .ok (.iload_n 2, 1) ∧
  decode (cM m_Reader_readRings) 42 = .ok (.bipush 24, 2) ∧
  decode (cM m_Reader_readRings) 44 = .ok (.if_icmp .eq 33, 3) ∧
  am_okt 44 33 ∧
  am_tgt 44 33 = 77 ∧
  decode (cM m_Reader_readRings) 47 = .ok (.aload_n 0, 1) ∧
  decode (cM m_Reader_readRings) 48 = .ok (.getfield 38, 3) ∧
  fldT 5 38 = some (5, 6, 0) ∧
  decode (cM m_Reader_readRings) 51 = .ok (.aload_n 0, 1) ∧
  decode (cM m_Reader_readRings) 52 = .ok (.getfield 63, 3) ∧
  fldT 5 63 = some (5, 5, 0) ∧
  decode (cM m_Reader_readRings) 55 = .ok (.isub, 1) ∧
  decode (cM m_Reader_readRings) 56 = .ok (.iconst 3, 1) ∧
  decode (cM m_Reader_readRings) 57 = .ok (.if_icmp .gt 20, 3) ∧
  am_okt 57 20 ∧
  am_tgt 57 20 = 77 ∧
  decode (cM m_Reader_readRings) 60 = .ok (.aload_n 0, 1) ∧
  decode (cM m_Reader_readRings) 61 = .ok (.getfield 83, 3) ∧
  fldT 5 83 = some (5, 8, 0) ∧
  decode (cM m_Reader_readRings) 64 = .ok (.iconst 1, 1) ∧
  decode (cM m_Reader_readRings) 65 = .ok (.if_icmp .lt 12, 3) ∧
  am_okt 65 12 ∧
  am_tgt 65 12 = 77 ∧
  decode (cM m_Reader_readRings) 68 = .ok (.aload_n 0, 1) ∧
  decode (cM m_Reader_readRings) 69 = .ok (.getfield 83, 3) ∧
  decode (cM m_Reader_readRings) 72 = .ok (.bipush 99, 2) ∧
  decode (cM m_Reader_readRings) 74 = .ok (.if_icmp .le 5, 3) ∧
  am_okt 74 5 ∧
  am_tgt 74 5 = 79 ∧
  decode (cM m_Reader_readRings) 77 = .ok (.iconst 2, 1) ∧
  decode (cM m_Reader_readRings) 78 = .ok (.ireturn, 1) ∧
  decode (cM m_Reader_readRings) 79 = .ok (.aload_n 0, 1) ∧
  decode (cM m_Reader_readRings) 80 = .ok (.getfield 83, 3) ∧
  decode (cM m_Reader_readRings) 83 = .ok (.istore_n 3, 1) ∧
  decode (cM m_Reader_readRings) 84 = .ok (.aload_n 0, 1) ∧
  decode (cM m_Reader_readRings) 85 = .ok (.invokevirtual 53, 3) ∧
  decode (cM m_Reader_readRings) 88 = .ok (.aload_n 1, 1) ∧
  decode (cM m_Reader_readRings) 89 = .ok (.iload_n 3, 1) ∧
  decode (cM m_Reader_readRings) 90 = .ok (.aload_n 0, 1) ∧
  decode (cM m_Reader_readRings) 91 = .ok (.getfield 56, 3) ∧
  decode (cM m_Reader_readRings) 94 = .ok (.iconst 4, 1) ∧
  decode (cM m_Reader_readRings) 95 = .ok (.if_icmp .ne 7, 3) ∧
  am_okt 95 7 ∧
  am_tgt 95 7 = 102 ∧
  decode (cM m_Reader_readRings) 98 = .ok (.iconst 1, 1) ∧
  decode (cM m_Reader_readRings) 99 = .ok (.goto 4, 3) ∧
  am_okt 99 4 ∧
  am_tgt 99 4 = 103 ∧
  decode (cM m_Reader_readRings) 102 = .ok (.iconst 0, 1) ∧
  decode (cM m_Reader_readRings) 103 = .ok (.invokevirtual 137, 3) ∧
  invT 5 137 = some (m_Timber_addRing, 0) ∧
  nM m_Timber_addRing = 3 ∧
  oM m_Timber_addRing = 9 ∧
  rkM m_Timber_addRing = 0 ∧
  dM m_Timber_addRing = 0 ∧
  decode (cM m_Reader_readRings) 106 = .ok (.aload_n 0, 1) ∧
  decode (cM m_Reader_readRings) 107 = .ok (.getfield 56, 3) ∧
  decode (cM m_Reader_readRings) 110 = .ok (.iconst 4, 1) ∧
  decode (cM m_Reader_readRings) 111 = .ok (.if_icmp .ne 7, 3) ∧
  am_okt 111 7 ∧
  am_tgt 111 7 = 118 ∧
  decode (cM m_Reader_readRings) 114 = .ok (.aload_n 0, 1) ∧
  decode (cM m_Reader_readRings) 115 = .ok (.invokevirtual 53, 3) ∧
  decode (cM m_Reader_readRings) 118 = .ok (.iinc 2 1, 3) ∧
  decode (cM m_Reader_readRings) 121 = .ok (.goto (-115), 3) ∧
  am_okt 121 (-115) ∧
  am_tgt 121 (-115) = 6 ∧
  decode (cM m_Reader_readRings) 124 = .ok (.iconst 2, 1) ∧
  decode (cM m_Reader_readRings) 125 = .ok (.ireturn, 1) :=
  ⟨rfl, rfl, rfl, rfl, by decide +kernel, by decide +kernel, rfl, rfl, rfl, rfl, rfl, by decide +kernel, by decide +kernel, by decide +kernel, by decide +kernel, by decide +kernel, rfl, rfl, by decide +kernel, by decide +kernel, by decide +kernel, rfl, rfl, by decide +kernel, by decide +kernel, rfl, by decide +kernel, by decide +kernel, rfl, rfl, by decide +kernel, by decide +kernel, by decide +kernel, by decide +kernel, by decide +kernel, by decide +kernel, by decide +kernel, by decide +kernel, rfl, rfl, by decide +kernel, by decide +kernel, by decide +kernel, by decide +kernel, by decide +kernel, rfl, rfl, by decide +kernel, by decide +kernel, rfl, by decide +kernel, by decide +kernel, rfl, by decide +kernel, by decide +kernel, by decide +kernel, rfl, rfl, by decide +kernel, by decide +kernel, rfl, by decide +kernel, by decide +kernel, rfl, rfl, by decide +kernel, by decide +kernel, by decide +kernel, by decide +kernel, rfl, rfl, by decide +kernel, by decide +kernel, by decide +kernel, by decide +kernel, by decide +kernel, by decide +kernel, by decide +kernel, by decide +kernel, by decide +kernel, by decide +kernel, by decide +kernel, by decide +kernel, by decide +kernel, rfl, rfl, by decide +kernel, by decide +kernel, rfl, rfl, by decide +kernel, by decide +kernel, rfl, rfl, rfl, rfl, rfl, by decide +kernel, by decide +kernel, by decide +kernel, by decide +kernel, rfl, rfl, by decide +kernel, by decide +kernel, by decide +kernel, by decide +kernel, rfl, rfl, by decide +kernel, by decide +kernel⟩
set_option maxRecDepth 100000 in
set_option maxHeartbeats 4000000 in
theorem C_Reader_readSetting : oM m_Reader_readSetting = 5 ∧
  rkM m_Reader_readSetting = 1 ∧
  dM m_Reader_readSetting = 4 ∧
  lM m_Reader_readSetting = 5 ∧
  decode (cM m_Reader_readSetting) 0 = .ok (.aload_n 0, 1) ∧
  decode (cM m_Reader_readSetting) 1 = .ok (.getfield 44, 3) ∧
  fldT 5 44 = some (5, 9, 0) ∧
  decode (cM m_Reader_readSetting) 4 = .ok (.iload_n 1, 1) ∧
  decode (cM m_Reader_readSetting) 5 = .ok (.ishr, 1) ∧
  decode (cM m_Reader_readSetting) 6 = .ok (.iconst 1, 1) ∧
  decode (cM m_Reader_readSetting) 7 = .ok (.iand, 1) ∧
  decode (cM m_Reader_readSetting) 8 = .ok (.ifCond .eq 5, 3) ∧
  am_okt 8 5 ∧
  am_tgt 8 5 = 13 ∧
  decode (cM m_Reader_readSetting) 11 = .ok (.iconst 4, 1) ∧
  decode (cM m_Reader_readSetting) 12 = .ok (.ireturn, 1) ∧
  decode (cM m_Reader_readSetting) 13 = .ok (.aload_n 0, 1) ∧
  decode (cM m_Reader_readSetting) 14 = .ok (.iload_n 2, 1) ∧
  decode (cM m_Reader_readSetting) 15 = .ok (.iload_n 3, 1) ∧
  decode (cM m_Reader_readSetting) 16 = .ok (.invokevirtual 126, 3) ∧
  invT 5 126 = some (m_Reader_readNumber, 0) ∧
  nM m_Reader_readNumber = 3 ∧
  oM m_Reader_readNumber = 5 ∧
  rkM m_Reader_readNumber = 1 ∧
  dM m_Reader_readNumber = 3 ∧
  decode (cM m_Reader_readSetting) 19 = .ok (.istore 4, 2) ∧
  decode (cM m_Reader_readSetting) 21 = .ok (.iload 4, 2) ∧
  decode (cM m_Reader_readSetting) 23 = .ok (.ifCond .eq 6, 3) ∧
  am_okt 23 6 ∧
  am_tgt 23 6 = 29 ∧
  decode (cM m_Reader_readSetting) 26 = .ok (.iload 4, 2) ∧
  decode (cM m_Reader_readSetting) 28 = .ok (.ireturn, 1) ∧
  decode (cM m_Reader_readSetting) 29 = .ok (.aload_n 0, 1) ∧
  decode (cM m_Reader_readSetting) 30 = .ok (.dup, 1) ∧
  decode (cM m_Reader_readSetting) 31 = .ok (.getfield 44, 3) ∧
  decode (cM m_Reader_readSetting) 34 = .ok (.iconst 1, 1) ∧
  decode (cM m_Reader_readSetting) 35 = .ok (.iload_n 1, 1) ∧
  decode (cM m_Reader_readSetting) 36 = .ok (.ishl, 1) ∧
  decode (cM m_Reader_readSetting) 37 = .ok (.ior, 1) ∧
  decode (cM m_Reader_readSetting) 38 = .ok (.putfield 44, 3) ∧
  decode (cM m_Reader_readSetting) 41 = .ok (.aload_n 0, 1) ∧
  decode (cM m_Reader_readSetting) 42 = .ok (.getfield 18, 3) ∧
  fldT 5 18 = some (5, 1, 2) ∧
  decode (cM m_Reader_readSetting) 45 = .ok (.iload_n 1, 1) ∧
  decode (cM m_Reader_readSetting) 46 = .ok (.aload_n 0, 1) ∧
  decode (cM m_Reader_readSetting) 47 = .ok (.getfield 83, 3) ∧
  fldT 5 83 = some (5, 8, 0) ∧
  decode (cM m_Reader_readSetting) 50 = .ok (.invokevirtual 143, 3) ∧
  invT 5 143 = some (m_Stock_change, 0) ∧
  nM m_Stock_change = 3 ∧
  oM m_Stock_change = 8 ∧
  rkM m_Stock_change = 0 ∧
  dM m_Stock_change = 0 ∧
  decode (cM m_Reader_readSetting) 53 = .ok (.aload_n 0, 1) ∧
  decode (cM m_Reader_readSetting) 54 = .ok (.invokevirtual 147, 3) ∧
  invT 5 147 = some (m_Reader_readClauseEnd, 0) ∧
  nM m_Reader_readClauseEnd = 1 ∧
  oM m_Reader_readClauseEnd = 5 ∧
  rkM m_Reader_readClauseEnd = 1 ∧
  dM m_Reader_readClauseEnd = 3 ∧
  decode (cM m_Reader_readSetting) 57 = .ok (.ireturn, 1) :=
  ⟨rfl, rfl, rfl, rfl, by decide +kernel, by decide +kernel, rfl, by decide +kernel, by decide +kernel, by decide +kernel, by decide +kernel, by decide +kernel, rfl, rfl, by decide +kernel, by decide +kernel, by decide +kernel, by decide +kernel, by decide +kernel, by decide +kernel, rfl, rfl, rfl, rfl, rfl, by decide +kernel, by decide +kernel, by decide +kernel, rfl, rfl, by decide +kernel, by decide +kernel, by decide +kernel, by decide +kernel, by decide +kernel, by decide +kernel, by decide +kernel, by decide +kernel, by decide +kernel, by decide +kernel, by decide +kernel, by decide +kernel, rfl, by decide +kernel, by decide +kernel, by decide +kernel, rfl, by decide +kernel, rfl, rfl, rfl, rfl, rfl, by decide +kernel, by decide +kernel, rfl, rfl, rfl, rfl, rfl, by decide +kernel⟩
set_option maxRecDepth 100000 in
set_option maxHeartbeats 4000000 in
theorem C_Reader_readClauseEnd : oM m_Reader_readClauseEnd = 5 ∧
  rkM m_Reader_readClauseEnd = 1 ∧
  dM m_Reader_readClauseEnd = 3 ∧
  lM m_Reader_readClauseEnd = 1 ∧
  decode (cM m_Reader_readClauseEnd) 0 = .ok (.aload_n 0, 1) ∧
  decode (cM m_Reader_readClauseEnd) 1 = .ok (.invokevirtual 53, 3) ∧
  invT 5 53 = some (m_Reader_advance, 0) ∧
  nM m_Reader_advance = 1 ∧
  oM m_Reader_advance = 5 ∧
  rkM m_Reader_advance = 0 ∧
  dM m_Reader_advance = 2 ∧
  decode (cM m_Reader_readClauseEnd) 4 = .ok (.aload_n 0, 1) ∧
  decode (cM m_Reader_readClauseEnd) 5 = .ok (.getfield 56, 3) ∧
  fldT 5 56 = some (5, 7, 0) ∧
  decode (cM m_Reader_readClauseEnd) 8 = .ok (.iconst 3, 1) ∧
  decode (cM m_Reader_readClauseEnd) 9 = .ok (.if_icmp .eq 5, 3) ∧
  am_okt 9 5 ∧
  am_tgt 9 5 = 14 ∧
  decode (cM m_Reader_readClauseEnd) 12 = .ok (.iconst 1, 1) ∧
  decode (cM m_Reader_readClauseEnd) 13 = .ok (.ireturn, 1) ∧
  decode (cM m_Reader_readClauseEnd) 14 = .ok (.aload_n 0, 1) ∧
  decode (cM m_Reader_readClauseEnd) 15 = .ok (.invokevirtual 53, 3) ∧
  decode (cM m_Reader_readClauseEnd) 18 = .ok (.iconst 0, 1) ∧
  decode (cM m_Reader_readClauseEnd) 19 = .ok (.ireturn, 1) :=
  ⟨rfl, rfl, rfl, rfl, by decide +kernel, by decide +kernel, rfl, rfl, rfl, rfl, rfl, by decide +kernel, by decide +kernel, rfl, by decide +kernel, by decide +kernel, rfl, rfl, by decide +kernel, by decide +kernel, by decide +kernel, by decide +kernel, by decide +kernel, by decide +kernel⟩
set_option maxRecDepth 100000 in
set_option maxHeartbeats 4000000 in
theorem C_Reader_readKnown : oM m_Reader_readKnown = 5 ∧
  rkM m_Reader_readKnown = 1 ∧
  dM m_Reader_readKnown = 4 ∧
  lM m_Reader_readKnown = 3 ∧
  decode (cM m_Reader_readKnown) 0 = .ok (.aload_n 0, 1) ∧
  decode (cM m_Reader_readKnown) 1 = .ok (.iconst 0, 1) ∧
  decode (cM m_Reader_readKnown) 2 = .ok (.bipush 7, 2) ∧
  decode (cM m_Reader_readKnown) 4 = .ok (.invokevirtual 126, 3) ∧
  invT 5 126 = some (m_Reader_readNumber, 0) ∧
  nM m_Reader_readNumber = 3 ∧
  oM m_Reader_readNumber = 5 ∧
  rkM m_Reader_readNumber = 1 ∧
  dM m_Reader_readNumber = 3 ∧
  decode (cM m_Reader_readKnown) 7 = .ok (.istore_n 1, 1) ∧
  decode (cM m_Reader_readKnown) 8 = .ok (.iload_n 1, 1) ∧
  decode (cM m_Reader_readKnown) 9 = .ok (.ifCond .eq 7, 3) ∧
  am_okt 9 7 ∧
  am_tgt 9 7 = 16 ∧
  decode (cM m_Reader_readKnown) 12 = .ok (.iload_n 1, 1) ∧
  decode (cM m_Reader_readKnown) 13 = .ok (.goto 11, 3) ∧
  am_okt 13 11 ∧
  am_tgt 13 11 = 24 ∧
  decode (cM m_Reader_readKnown) 16 = .ok (.aload_n 0, 1) ∧
  decode (cM m_Reader_readKnown) 17 = .ok (.aload_n 0, 1) ∧
  decode (cM m_Reader_readKnown) 18 = .ok (.getfield 47, 3) ∧
  fldT 5 47 = some (5, 10, 0) ∧
  decode (cM m_Reader_readKnown) 21 = .ok (.invokevirtual 153, 3) ∧
  invT 5 153 = some (m_Reader_whyNotTimber, 0) ∧
  nM m_Reader_whyNotTimber = 2 ∧
  oM m_Reader_whyNotTimber = 5 ∧
  rkM m_Reader_whyNotTimber = 1 ∧
  dM m_Reader_whyNotTimber = 1 ∧
  decode (cM m_Reader_readKnown) 24 = .ok (.istore_n 1, 1) ∧
  decode (cM m_Reader_readKnown) 25 = .ok (.iload_n 1, 1) ∧
  decode (cM m_Reader_readKnown) 26 = .ok (.ifCond .eq 5, 3) ∧
  am_okt 26 5 ∧
  am_tgt 26 5 = 31 ∧
  decode (cM m_Reader_readKnown) 29 = .ok (.iload_n 1, 1) ∧
  decode (cM m_Reader_readKnown) 30 = .ok (.ireturn, 1) ∧
  decode (cM m_Reader_readKnown) 31 = .ok (.aload_n 0, 1) ∧
  decode (cM m_Reader_readKnown) 32 = .ok (.getfield 83, 3) ∧
  fldT 5 83 = some (5, 8, 0) ∧
  decode (cM m_Reader_readKnown) 35 = .ok (.istore_n 2, 1) ∧
  decode (cM m_Reader_readKnown) 36 = .ok (.aload_n 0, 1) ∧
  decode (cM m_Reader_readKnown) 37 = .ok (.iconst 0, 1) ∧
  decode (cM m_Reader_readKnown) 38 = .ok (.sipush 900, 3) ∧
  decode (cM m_Reader_readKnown) 41 = .ok (.invokevirtual 126, 3) ∧
  decode (cM m_Reader_readKnown) 44 = .ok (.istore_n 1, 1) ∧
  decode (cM m_Reader_readKnown) 45 = .ok (.iload_n 1, 1) ∧
  decode (cM m_Reader_readKnown) 46 = .ok (.ifCond .eq 5, 3) ∧
  am_okt 46 5 ∧
  am_tgt 46 5 = 51 ∧
  decode (cM m_Reader_readKnown) 49 = .ok (.iload_n 1, 1) ∧
  decode (cM m_Reader_readKnown) 50 = .ok (.ireturn, 1) ∧
  decode (cM m_Reader_readKnown) 51 = .ok (.aload_n 0, 1) ∧
  decode (cM m_Reader_readKnown) 52 = .ok (.dup, 1) ∧
  decode (cM m_Reader_readKnown) 53 = .ok (.getfield 47, 3) ∧
  decode (cM m_Reader_readKnown) 56 = .ok (.iconst 1, 1) ∧
  decode (cM m_Reader_readKnown) 57 = .ok (.iload_n 2, 1) ∧
  decode (cM m_Reader_readKnown) 58 = .ok (.ishl, 1) ∧
  decode (cM m_Reader_readKnown) 59 = .ok (.ior, 1) ∧
  decode (cM m_Reader_readKnown) 60 = .ok (.putfield 47, 3) ∧
  decode (cM m_Reader_readKnown) 63 = .ok (.aload_n 0, 1) ∧
  decode (cM m_Reader_readKnown) 64 = .ok (.getfield 18, 3) ∧
  fldT 5 18 = some (5, 1, 2) ∧
  decode (cM m_Reader_readKnown) 67 = .ok (.iload_n 2, 1) ∧
  decode (cM m_Reader_readKnown) 68 = .ok (.aload_n 0, 1) ∧
  decode (cM m_Reader_readKnown) 69 = .ok (.getfield 83, 3) ∧
  decode (cM m_Reader_readKnown) 72 = .ok (.invokevirtual 156, 3) ∧
  invT 5 156 = some (m_Stock_setYear, 0) ∧
  nM m_Stock_setYear = 3 ∧
  oM m_Stock_setYear = 8 ∧
  rkM m_Stock_setYear = 0 ∧
  dM m_Stock_setYear = 1 ∧
  decode (cM m_Reader_readKnown) 75 = .ok (.aload_n 0, 1) ∧
  decode (cM m_Reader_readKnown) 76 = .ok (.invokevirtual 147, 3) ∧
  invT 5 147 = some (m_Reader_readClauseEnd, 0) ∧
  nM m_Reader_readClauseEnd = 1 ∧
  oM m_Reader_readClauseEnd = 5 ∧
  rkM m_Reader_readClauseEnd = 1 ∧
  dM m_Reader_readClauseEnd = 3 ∧
  decode (cM m_Reader_readKnown) 79 = .ok (.ireturn, 1) :=
  ⟨rfl, rfl, rfl, rfl, by decide +kernel, by decide +kernel, by decide +kernel, by decide +kernel, rfl, rfl, rfl, rfl, rfl, by decide +kernel, by decide +kernel, by decide +kernel, rfl, rfl, by decide +kernel, by decide +kernel, rfl, rfl, by decide +kernel, by decide +kernel, by decide +kernel, rfl, by decide +kernel, rfl, rfl, rfl, rfl, rfl, by decide +kernel, by decide +kernel, by decide +kernel, rfl, rfl, by decide +kernel, by decide +kernel, by decide +kernel, by decide +kernel, rfl, by decide +kernel, by decide +kernel, by decide +kernel, by decide +kernel, by decide +kernel, by decide +kernel, by decide +kernel, by decide +kernel, rfl, rfl, by decide +kernel, by decide +kernel, by decide +kernel, by decide +kernel, by decide +kernel, by decide +kernel, by decide +kernel, by decide +kernel, by decide +kernel, by decide +kernel, by decide +kernel, by decide +kernel, rfl, by decide +kernel, by decide +kernel, by decide +kernel, by decide +kernel, rfl, rfl, rfl, rfl, rfl, by decide +kernel, by decide +kernel, rfl, rfl, rfl, rfl, rfl, by decide +kernel⟩
set_option maxRecDepth 100000 in
set_option maxHeartbeats 4000000 in
theorem C_Reader_whyNotTimber : oM m_Reader_whyNotTimber = 5 ∧
  rkM m_Reader_whyNotTimber = 1 ∧
  dM m_Reader_whyNotTimber = 1 ∧
  lM m_Reader_whyNotTimber = 2 ∧
  decode (cM m_Reader_whyNotTimber) 0 = .ok (.aload_n 0, 1) ∧
  decode (cM m_Reader_whyNotTimber) 1 = .ok (.getfield 18, 3) ∧
  fldT 5 18 = some (5, 1, 2) ∧
  decode (cM m_Reader_whyNotTimber) 4 = .ok (.aload_n 0, 1) ∧
  decode (cM m_Reader_whyNotTimber) 5 = .ok (.getfield 83, 3) ∧
  fldT 5 83 = some (5, 8, 0) ∧
  decode (cM m_Reader_whyNotTimber) 8 = .ok (.invokevirtual 150, 3) ∧
  invT 5 150 = some (m_Stock_has, 0) ∧
  nM m_Stock_has = 2 ∧
  oM m_Stock_has = 8 ∧
  rkM m_Stock_has = 2 ∧
  dM m_Stock_has = 0 ∧
  decode (cM m_Reader_whyNotTimber) 11 = .ok (.ifCond .ne 5, 3) ∧
  am_okt 11 5 ∧
  am_tgt 11 5 = 16 ∧
  decode (cM m_Reader_whyNotTimber) 14 = .ok (.iconst 3, 1) ∧
  decode (cM m_Reader_whyNotTimber) 15 = .ok (.ireturn, 1) ∧
  decode (cM m_Reader_whyNotTimber) 16 = .ok (.iload_n 1, 1) ∧
  decode (cM m_Reader_whyNotTimber) 17 = .ok (.aload_n 0, 1) ∧
  decode (cM m_Reader_whyNotTimber) 18 = .ok (.getfield 83, 3) ∧
  decode (cM m_Reader_whyNotTimber) 21 = .ok (.ishr, 1) ∧
  decode (cM m_Reader_whyNotTimber) 22 = .ok (.iconst 1, 1) ∧
  decode (cM m_Reader_whyNotTimber) 23 = .ok (.iand, 1) ∧
  decode (cM m_Reader_whyNotTimber) 24 = .ok (.ifCond .eq 7, 3) ∧
  am_okt 24 7 ∧
  am_tgt 24 7 = 31 ∧
  decode (cM m_Reader_whyNotTimber) 27 = .ok (.iconst 4, 1) ∧
  decode (cM m_Reader_whyNotTimber) 28 = .ok (.goto 4, 3) ∧
  am_okt 28 4 ∧
  am_tgt 28 4 = 32 ∧
  decode (cM m_Reader_whyNotTimber) 31 = .ok (.iconst 0, 1) ∧
  decode (cM m_Reader_whyNotTimber) 32 = .ok (.ireturn, 1) :=
  ⟨rfl, rfl, rfl, rfl, by decide +kernel, by decide +kernel, rfl, by decide +kernel, by decide +kernel, rfl, by decide +kernel, rfl, rfl, rfl, rfl, rfl, by decide +kernel, rfl, rfl, by decide +kernel, by decide +kernel, by decide +kernel, by decide +kernel, by decide +kernel, by decide +kernel, by decide +kernel, by decide +kernel, by decide +kernel, rfl, rfl, by decide +kernel, by decide +kernel, rfl, rfl, by decide +kernel, by decide +kernel⟩
set_option maxRecDepth 100000 in
set_option maxHeartbeats 4000000 in
theorem C_Reader_readHouse : oM m_Reader_readHouse = 5 ∧
  rkM m_Reader_readHouse = 1 ∧
  dM m_Reader_readHouse = 4 ∧
  lM m_Reader_readHouse = 3 ∧
  decode (cM m_Reader_readHouse) 0 = .ok (.aload_n 0, 1) ∧
  decode (cM m_Reader_readHouse) 1 = .ok (.iconst 0, 1) ∧
  decode (cM m_Reader_readHouse) 2 = .ok (.bipush 7, 2) ∧
  decode (cM m_Reader_readHouse) 4 = .ok (.invokevirtual 126, 3) ∧
  invT 5 126 = some (m_Reader_readNumber, 0) ∧
  nM m_Reader_readNumber = 3 ∧
  oM m_Reader_readNumber = 5 ∧
  rkM m_Reader_readNumber = 1 ∧
  dM m_Reader_readNumber = 3 ∧
  decode (cM m_Reader_readHouse) 7 = .ok (.istore_n 1, 1) ∧
  decode (cM m_Reader_readHouse) 8 = .ok (.iload_n 1, 1) ∧
  decode (cM m_Reader_readHouse) 9 = .ok (.ifCond .eq 7, 3) ∧
  am_okt 9 7 ∧
  am_tgt 9 7 = 16 ∧
  decode (cM m_Reader_readHouse) 12 = .ok (.iload_n 1, 1) ∧
  decode (cM m_Reader_readHouse) 13 = .ok (.goto 11, 3) ∧
  am_okt 13 11 ∧
  am_tgt 13 11 = 24 ∧
  decode (cM m_Reader_readHouse) 16 = .ok (.aload_n 0, 1) ∧
  decode (cM m_Reader_readHouse) 17 = .ok (.aload_n 0, 1) ∧
  decode (cM m_Reader_readHouse) 18 = .ok (.getfield 50, 3) ∧
  fldT 5 50 = some (5, 11, 0) ∧
  decode (cM m_Reader_readHouse) 21 = .ok (.invokevirtual 153, 3) ∧
  invT 5 153 = some (m_Reader_whyNotTimber, 0) ∧
  nM m_Reader_whyNotTimber = 2 ∧
  oM m_Reader_whyNotTimber = 5 ∧
  rkM m_Reader_whyNotTimber = 1 ∧
  dM m_Reader_whyNotTimber = 1 ∧
  decode (cM m_Reader_readHouse) 24 = .ok (.istore_n 1, 1) ∧
  decode (cM m_Reader_readHouse) 25 = .ok (.iload_n 1, 1) ∧
  decode (cM m_Reader_readHouse) 26 = .ok (.ifCond .eq 5, 3) ∧
  am_okt 26 5 ∧
  am_tgt 26 5 = 31 ∧
  decode (cM m_Reader_readHouse) 29 = .ok (.iload_n 1, 1) ∧
  decode (cM m_Reader_readHouse) 30 = .ok (.ireturn, 1) ∧
  decode (cM m_Reader_readHouse) 31 = .ok (.aload_n 0, 1) ∧
  decode (cM m_Reader_readHouse) 32 = .ok (.getfield 83, 3) ∧
  fldT 5 83 = some (5, 8, 0) ∧
  decode (cM m_Reader_readHouse) 35 = .ok (.istore_n 2, 1) ∧
  decode (cM m_Reader_readHouse) 36 = .ok (.aload_n 0, 1) ∧
  decode (cM m_Reader_readHouse) 37 = .ok (.iconst 0, 1) ∧
  decode (cM m_Reader_readHouse) 38 = .ok (.iconst 3, 1) ∧
  decode (cM m_Reader_readHouse) 39 = .ok (.invokevirtual 126, 3) ∧
  decode (cM m_Reader_readHouse) 42 = .ok (.istore_n 1, 1) ∧
  decode (cM m_Reader_readHouse) 43 = .ok (.iload_n 1, 1) ∧
  decode (cM m_Reader_readHouse) 44 = .ok (.ifCond .eq 5, 3) ∧
  am_okt 44 5 ∧
  am_tgt 44 5 = 49 ∧
  decode (cM m_Reader_readHouse) 47 = .ok (.iload_n 1, 1) ∧
  decode (cM m_Reader_readHouse) 48 = .ok (.ireturn, 1) ∧
  decode (cM m_Reader_readHouse) 49 = .ok (.aload_n 0, 1) ∧
  decode (cM m_Reader_readHouse) 50 = .ok (.dup, 1) ∧
  decode (cM m_Reader_readHouse) 51 = .ok (.getfield 50, 3) ∧
  decode (cM m_Reader_readHouse) 54 = .ok (.iconst 1, 1) ∧
  decode (cM m_Reader_readHouse) 55 = .ok (.iload_n 2, 1) ∧
  decode (cM m_Reader_readHouse) 56 = .ok (.ishl, 1) ∧
  decode (cM m_Reader_readHouse) 57 = .ok (.ior, 1) ∧
  decode (cM m_Reader_readHouse) 58 = .ok (.putfield 50, 3) ∧
  decode (cM m_Reader_readHouse) 61 = .ok (.aload_n 0, 1) ∧
  decode (cM m_Reader_readHouse) 62 = .ok (.getfield 18, 3) ∧
  fldT 5 18 = some (5, 1, 2) ∧
  decode (cM m_Reader_readHouse) 65 = .ok (.iload_n 2, 1) ∧
  decode (cM m_Reader_readHouse) 66 = .ok (.invokevirtual 159, 3) ∧
  invT 5 159 = some (m_Stock_timberAt, 0) ∧
  nM m_Stock_timberAt = 2 ∧
  oM m_Stock_timberAt = 8 ∧
  rkM m_Stock_timberAt = 3 ∧
  dM m_Stock_timberAt = 1 ∧
  decode (cM m_Reader_readHouse) 69 = .ok (.aload_n 0, 1) ∧
  decode (cM m_Reader_readHouse) 70 = .ok (.getfield 83, 3) ∧
  decode (cM m_Reader_readHouse) 73 = .ok (.putfield 163, 3) ∧
  fldT 5 163 = some (9, 5, 0) ∧
  decode (cM m_Reader_readHouse) 76 = .ok (.aload_n 0, 1) ∧
  decode (cM m_Reader_readHouse) 77 = .ok (.invokevirtual 147, 3) ∧
  invT 5 147 = some (m_Reader_readClauseEnd, 0) ∧
  nM m_Reader_readClauseEnd = 1 ∧
  oM m_Reader_readClauseEnd = 5 ∧
  rkM m_Reader_readClauseEnd = 1 ∧
  dM m_Reader_readClauseEnd = 3 ∧
  decode (cM m_Reader_readHouse) 80 = .ok (.ireturn, 1) :=
  ⟨rfl, rfl, rfl, rfl, by decide +kernel, by decide +kernel, by decide +kernel, by decide +kernel, rfl, rfl, rfl, rfl, rfl, by decide +kernel, by decide +kernel, by decide +kernel, rfl, rfl, by decide +kernel, by decide +kernel, rfl, rfl, by decide +kernel, by decide +kernel, by decide +kernel, rfl, by decide +kernel, rfl, rfl, rfl, rfl, rfl, by decide +kernel, by decide +kernel, by decide +kernel, rfl, rfl, by decide +kernel, by decide +kernel, by decide +kernel, by decide +kernel, rfl, by decide +kernel, by decide +kernel, by decide +kernel, by decide +kernel, by decide +kernel, by decide +kernel, by decide +kernel, by decide +kernel, rfl, rfl, by decide +kernel, by decide +kernel, by decide +kernel, by decide +kernel, by decide +kernel, by decide +kernel, by decide +kernel, by decide +kernel, by decide +kernel, by decide +kernel, by decide +kernel, by decide +kernel, rfl, by decide +kernel, by decide +kernel, rfl, rfl, rfl, rfl, rfl, by decide +kernel, by decide +kernel, by decide +kernel, rfl, by decide +kernel, by decide +kernel, rfl, rfl, rfl, rfl, rfl, by decide +kernel⟩
set_option maxRecDepth 100000 in
set_option maxHeartbeats 4000000 in
theorem C_Row_begin : oM m_Row_begin = 6 ∧
  rkM m_Row_begin = 0 ∧
  dM m_Row_begin = 1 ∧
  lM m_Row_begin = 3 ∧
  decode (cM m_Row_begin) 0 = .ok (.aload_n 0, 1) ∧
  decode (cM m_Row_begin) 1 = .ok (.iconst 0, 1) ∧
  decode (cM m_Row_begin) 2 = .ok (.iload_n 1, 1) ∧
  decode (cM m_Row_begin) 3 = .ok (.aload_n 0, 1) ∧
  decode (cM m_Row_begin) 4 = .ok (.getfield 18, 3) ∧
  fldT 6 18 = some (6, 0, 3) ∧
  decode (cM m_Row_begin) 7 = .ok (.invokestatic 9, 3) ∧
  invT 6 9 = some (0, 4) ∧
  decode (cM m_Row_begin) 10 = .ok (.invokestatic 15, 3) ∧
  invT 6 15 = some (0, 3) ∧
  decode (cM m_Row_begin) 13 = .ok (.putfield 44, 3) ∧
  fldT 6 44 = some (6, 7, 0) ∧
  decode (cM m_Row_begin) 16 = .ok (.iconst 0, 1) ∧
  decode (cM m_Row_begin) 17 = .ok (.istore_n 2, 1) ∧
  decode (cM m_Row_begin) 18 = .ok (.iload_n 2, 1) ∧
  decode (cM m_Row_begin) 19 = .ok (.aload_n 0, 1) ∧
  decode (cM m_Row_begin) 20 = .ok (.getfield 44, 3) ∧
  decode (cM m_Row_begin) 23 = .ok (.if_icmp .ge 23, 3) ∧
  am_okt 23 23 ∧
  am_tgt 23 23 = 46 ∧
  decode (cM m_Row_begin) 26 = .ok (.aload_n 0, 1) ∧
  decode (cM m_Row_begin) 27 = .ok (.getfield 24, 3) ∧
  fldT 6 24 = some (6, 1, 2) ∧
  decode (cM m_Row_begin) 30 = .ok (.iload_n 2, 1) ∧
  decode (cM m_Row_begin) 31 = .ok (.iconst 0, 1) ∧
  decode (cM m_Row_begin) 32 = .ok (.iastore, 1) ∧
  decode (cM m_Row_begin) 33 = .ok (.aload_n 0, 1) ∧
  decode (cM m_Row_begin) 34 = .ok (.getfield 28, 3) ∧
  fldT 6 28 = some (6, 2, 2) ∧
  decode (cM m_Row_begin) 37 = .ok (.iload_n 2, 1) ∧
  decode (cM m_Row_begin) 38 = .ok (.iconst 0, 1) ∧
  decode (cM m_Row_begin) 39 = .ok (.bastore, 1) ∧
  decode (cM m_Row_begin) 40 = .ok (.iinc 2 1, 3) ∧
  decode (cM m_Row_begin) 43 = .ok (.goto (-25), 3) ∧
  am_okt 43 (-25) ∧
  am_tgt 43 (-25) = 18 ∧
  decode (cM m_Row_begin) 46 = .ok (.return_, 1) :=
  ⟨rfl, rfl, rfl, rfl, by decide +kernel, by decide +kernel, by decide +kernel, by decide +kernel, by decide +kernel, rfl, by decide +kernel, rfl, by decide +kernel, rfl, by decide +kernel, rfl, by decide +kernel, by decide +kernel, by decide +kernel, by decide +kernel, by decide +kernel, by decide +kernel, rfl, rfl, by decide +kernel, by decide +kernel, rfl, by decide +kernel, by decide +kernel, by decide +kernel, by decide +kernel, by decide +kernel, rfl, by decide +kernel, by decide +kernel, by decide +kernel, by decide +kernel, by decide +kernel, rfl, rfl, by decide +kernel⟩
set_option maxRecDepth 100000 in
set_option maxHeartbeats 4000000 in
theorem C_Row_put : oM m_Row_put = 6 ∧
  rkM m_Row_put = 0 ∧
  dM m_Row_put = 0 ∧
  lM m_Row_put = 4 ∧
  decode (cM m_Row_put) 0 = .ok (.iload_n 1, 1) ∧
  decode (cM m_Row_put) 1 = .ok (.ifCond .lt 25, 3) ∧
  am_okt 1 25 ∧
  am_tgt 1 25 = 26 ∧
  decode (cM m_Row_put) 4 = .ok (.iload_n 1, 1) ∧
  decode (cM m_Row_put) 5 = .ok (.aload_n 0, 1) ∧
  decode (cM m_Row_put) 6 = .ok (.getfield 44, 3) ∧
  fldT 6 44 = some (6, 7, 0) ∧
  decode (cM m_Row_put) 9 = .ok (.if_icmp .ge 17, 3) ∧
  am_okt 9 17 ∧
  am_tgt 9 17 = 26 ∧
  decode (cM m_Row_put) 12 = .ok (.aload_n 0, 1) ∧
  decode (cM m_Row_put) 13 = .ok (.getfield 24, 3) ∧
  fldT 6 24 = some (6, 1, 2) ∧
  decode (cM m_Row_put) 16 = .ok (.iload_n 1, 1) ∧
  decode (cM m_Row_put) 17 = .ok (.iload_n 2, 1) ∧
  decode (cM m_Row_put) 18 = .ok (.iastore, 1) ∧
  decode (cM m_Row_put) 19 = .ok (.aload_n 0, 1) ∧
  decode (cM m_Row_put) 20 = .ok (.getfield 28, 3) ∧
  fldT 6 28 = some (6, 2, 2) ∧
  decode (cM m_Row_put) 23 = .ok (.iload_n 1, 1) ∧
  decode (cM m_Row_put) 24 = .ok (.iload_n 3, 1) ∧
  decode (cM m_Row_put) 25 = .ok (.bastore, 1) ∧
  decode (cM m_Row_put) 26 = .ok (.return_, 1) :=
  ⟨rfl, rfl, rfl, rfl, by decide +kernel, by decide +kernel, rfl, rfl, by decide +kernel, by decide +kernel, by decide +kernel, rfl, by decide +kernel, rfl, rfl, by decide +kernel, by decide +kernel, rfl, by decide +kernel, by decide +kernel, by decide +kernel, by decide +kernel, by decide +kernel, rfl, by decide +kernel, by decide +kernel, by decide +kernel, by decide +kernel⟩
set_option maxRecDepth 100000 in
set_option maxHeartbeats 4000000 in
theorem C_Row_finish : oM m_Row_finish = 6 ∧
  rkM m_Row_finish = 0 ∧
  dM m_Row_finish = 2 ∧
  lM m_Row_finish = 4 ∧
  decode (cM m_Row_finish) 0 = .ok (.aload_n 0, 1) ∧
  decode (cM m_Row_finish) 1 = .ok (.getfield 41, 3) ∧
  fldT 6 41 = some (6, 6, 2) ∧
  decode (cM m_Row_finish) 4 = .ok (.iconst 0, 1) ∧
  decode (cM m_Row_finish) 5 = .ok (.iconst 0, 1) ∧
  decode (cM m_Row_finish) 6 = .ok (.iastore, 1) ∧
  decode (cM m_Row_finish) 7 = .ok (.iconst 0, 1) ∧
  decode (cM m_Row_finish) 8 = .ok (.istore_n 1, 1) ∧
  decode (cM m_Row_finish) 9 = .ok (.iload_n 1, 1) ∧
  decode (cM m_Row_finish) 10 = .ok (.aload_n 0, 1) ∧
  decode (cM m_Row_finish) 11 = .ok (.getfield 44, 3) ∧
  fldT 6 44 = some (6, 7, 0) ∧
  decode (cM m_Row_finish) 14 = .ok (.if_icmp .ge 138, 3) ∧
  am_okt 14 138 ∧
  am_tgt 14 138 = 152 ∧
  decode (cM m_Row_finish) 17 = .ok (.aload_n 0, 1) ∧
  decode (cM m_Row_finish) 18 = .ok (.getfield 24, 3) ∧
  fldT 6 24 = some (6, 1, 2) ∧
  decode (cM m_Row_finish) 21 = .ok (.iload_n 1, 1) ∧
  decode (cM m_Row_finish) 22 = .ok (.iaload, 1) ∧
  decode (cM m_Row_finish) 23 = .ok (.ifCond .eq 7, 3) ∧
  am_okt 23 7 ∧
  am_tgt 23 7 = 30 ∧
  decode (cM m_Row_finish) 26 = .ok (.iconst 1, 1) ∧
  decode (cM m_Row_finish) 27 = .ok (.goto 4, 3) ∧
  am_okt 27 4 ∧
  am_tgt 27 4 = 31 ∧
  decode (cM m_Row_finish) 30 = .ok (.iconst 0, 1) ∧
  decode (cM m_Row_finish) 31 = .ok (.istore_n 2, 1) ∧
  decode (cM m_Row_finish) 32 = .ok (.aload_n 0, 1) ∧
  decode (cM m_Row_finish) 33 = .ok (.iload_n 1, 1) ∧
  decode (cM m_Row_finish) 34 = .ok (.iconst 1, 1) ∧
  decode (cM m_Row_finish) 35 = .ok (.isub, 1) ∧
  decode (cM m_Row_finish) 36 = .ok (.invokevirtual 47, 3) ∧
  invT 6 47 = some (m_Row_numberAt, 0) ∧
  nM m_Row_numberAt = 2 ∧
  oM m_Row_numberAt = 6 ∧
  rkM m_Row_numberAt = 1 ∧
  dM m_Row_numberAt = 0 ∧
  decode (cM m_Row_finish) 39 = .ok (.istore_n 3, 1) ∧
  decode (cM m_Row_finish) 40 = .ok (.aload_n 0, 1) ∧
  decode (cM m_Row_finish) 41 = .ok (.getfield 41, 3) ∧
  decode (cM m_Row_finish) 44 = .ok (.iload_n 1, 1) ∧
  decode (cM m_Row_finish) 45 = .ok (.iconst 1, 1) ∧
  decode (cM m_Row_finish) 46 = .ok (.iadd, 1) ∧
  decode (cM m_Row_finish) 47 = .ok (.aload_n 0, 1) ∧
  decode (cM m_Row_finish) 48 = .ok (.getfield 41, 3) ∧
  decode (cM m_Row_finish) 51 = .ok (.iload_n 1, 1) ∧
  decode (cM m_Row_finish) 52 = .ok (.iaload, 1) ∧
  decode (cM m_Row_finish) 53 = .ok (.iload_n 2, 1) ∧
  decode (cM m_Row_finish) 54 = .ok (.ifCond .eq 7, 3) ∧
  am_okt 54 7 ∧
  am_tgt 54 7 = 61 ∧
  decode (cM m_Row_finish) 57 = .ok (.iconst 1, 1) ∧
  decode (cM m_Row_finish) 58 = .ok (.goto 4, 3) ∧
  am_okt 58 4 ∧
  am_tgt 58 4 = 62 ∧
  decode (cM m_Row_finish) 61 = .ok (.iconst 0, 1) ∧
  decode (cM m_Row_finish) 62 = .ok (.iadd, 1) ∧
  decode (cM m_Row_finish) 63 = .ok (.iastore, 1) ∧
  decode (cM m_Row_finish) 64 = .ok (.aload_n 0, 1) ∧
  decode (cM m_Row_finish) 65 = .ok (.getfield 35, 3) ∧
  fldT 6 35 = some (6, 4, 2) ∧
  decode (cM m_Row_finish) 68 = .ok (.iload_n 1, 1) ∧
  decode (cM m_Row_finish) 69 = .ok (.iload_n 2, 1) ∧
  decode (cM m_Row_finish) 70 = .ok (.ifCond .eq 20, 3) ∧
  am_okt 70 20 ∧
  am_tgt 70 20 = 90 ∧
  decode (cM m_Row_finish) 73 = .ok (.iload_n 3, 1) ∧
  decode (cM m_Row_finish) 74 = .ok (.ifCond .eq 16, 3) ∧
  am_okt 74 16 ∧
  am_tgt 74 16 = 90 ∧
  decode (cM m_Row_finish) 77 = .ok (.aload_n 0, 1) ∧
  decode (cM m_Row_finish) 78 = .ok (.getfield 24, 3) ∧
  decode (cM m_Row_finish) 81 = .ok (.iload_n 1, 1) ∧
  decode (cM m_Row_finish) 82 = .ok (.iaload, 1) ∧
  decode (cM m_Row_finish) 83 = .ok (.iload_n 3, 1) ∧
  decode (cM m_Row_finish) 84 = .ok (.invokestatic 51, 3) ∧
  invT 6 51 = some (m_Integer_compare, 1) ∧
  nM m_Integer_compare = 2 ∧
  oM m_Integer_compare = 13 ∧
  rkM m_Integer_compare = 1 ∧
  dM m_Integer_compare = 0 ∧
  decode (cM m_Row_finish) 87 = .ok (.goto 4, 3) ∧
  am_okt 87 4 ∧
  am_tgt 87 4 = 91 ∧
  decode (cM m_Row_finish) 90 = .ok (.iconst 2, 1) ∧
  decode (cM m_Row_finish) 91 = .ok (.iastore, 1) ∧
  decode (cM m_Row_finish) 92 = .ok (.aload_n 0, 1) ∧
  decode (cM m_Row_finish) 93 = .ok (.getfield 38, 3) ∧
  fldT 6 38 = some (6, 5, 2) ∧
  decode (cM m_Row_finish) 96 = .ok (.iload_n 1, 1) ∧
  decode (cM m_Row_finish) 97 = .ok (.iload_n 2, 1) ∧
  decode (cM m_Row_finish) 98 = .ok (.ifCond .eq 11, 3) ∧
  am_okt 98 11 ∧
  am_tgt 98 11 = 109 ∧
  decode (cM m_Row_finish) 101 = .ok (.aload_n 0, 1) ∧
  decode (cM m_Row_finish) 102 = .ok (.iload_n 1, 1) ∧
  decode (cM m_Row_finish) 103 = .ok (.invokevirtual 56, 3) ∧
  invT 6 56 = some (m_Row_countLess, 0) ∧
  nM m_Row_countLess = 2 ∧
  oM m_Row_countLess = 6 ∧
  rkM m_Row_countLess = 1 ∧
  dM m_Row_countLess = 1 ∧
  decode (cM m_Row_finish) 106 = .ok (.goto 4, 3) ∧
  am_okt 106 4 ∧
  am_tgt 106 4 = 110 ∧
  decode (cM m_Row_finish) 109 = .ok (.iconst (-1), 1) ∧
  decode (cM m_Row_finish) 110 = .ok (.iastore, 1) ∧
  decode (cM m_Row_finish) 111 = .ok (.aload_n 0, 1) ∧
  decode (cM m_Row_finish) 112 = .ok (.getfield 32, 3) ∧
  fldT 6 32 = some (6, 3, 2) ∧
  decode (cM m_Row_finish) 115 = .ok (.iload_n 1, 1) ∧
  decode (cM m_Row_finish) 116 = .ok (.aload_n 0, 1) ∧
  decode (cM m_Row_finish) 117 = .ok (.getfield 28, 3) ∧
  fldT 6 28 = some (6, 2, 2) ∧
  decode (cM m_Row_finish) 120 = .ok (.iload_n 1, 1) ∧
  decode (cM m_Row_finish) 121 = .ok (.baload, 1) ∧
  decode (cM m_Row_finish) 122 = .ok (.ifCond .ne 18, 3) ∧
  am_okt 122 18 ∧
  am_tgt 122 18 = 140 ∧
  decode (cM m_Row_finish) 125 = .ok (.iload_n 1, 1) ∧
  decode (cM m_Row_finish) 126 = .ok (.ifCond .le 18, 3) ∧
  am_okt 126 18 ∧
  am_tgt 126 18 = 144 ∧
  decode (cM m_Row_finish) 129 = .ok (.aload_n 0, 1) ∧
  decode (cM m_Row_finish) 130 = .ok (.getfield 28, 3) ∧
  decode (cM m_Row_finish) 133 = .ok (.iload_n 1, 1) ∧
  decode (cM m_Row_finish) 134 = .ok (.iconst 1, 1) ∧
  decode (cM m_Row_finish) 135 = .ok (.isub, 1) ∧
  decode (cM m_Row_finish) 136 = .ok (.baload, 1) ∧
  decode (cM m_Row_finish) 137 = .ok (.ifCond .eq 7, 3) ∧
  am_okt 137 7 ∧
  am_tgt 137 7 = 144 ∧
  decode (cM m_Row_finish) 140 = .ok (.iconst 1, 1) ∧
  decode (cM m_Row_finish) 141 = .ok (.goto 4, 3) ∧
  am_okt 141 4 ∧
  am_tgt 141 4 = 145 ∧
  decode (cM m_Row_finish) 144 = .ok (.iconst 0, 1) ∧
  decode (cM m_Row_finish) 145 = .ok (.bastore, 1) ∧
  decode (cM m_Row_finish) 146 = .ok (.iinc 1 1, 3) ∧
  decode (cM m_Row_finish) 149 = .ok (.goto (-140), 3) ∧
  am_okt 149 (-140) ∧
  am_tgt 149 (-140) = 9 ∧
  decode (cM m_Row_finish) 152 = .ok (.return_, 1) :=
  ⟨rfl, rfl, rfl, rfl, by decide +kernel, by decide +kernel, rfl, by decide +kernel, by decide +kernel, by decide +kernel, by decide +kernel, by decide +kernel, by decide +kernel, by decide +kernel, by decide +kernel, rfl, by decide +kernel, rfl, rfl, by decide +kernel, by decide +kernel, rfl, by decide +kernel, by decide +kernel, by decide +kernel, rfl, rfl, by decide +kernel, by decide +kernel, rfl, rfl, by decide +kernel, by decide +kernel, by decide +kernel, by decide +kernel, by decide +kernel, by decide +kernel, by decide +kernel, rfl, rfl, rfl, rfl, rfl, by decide +kernel, by decide +kernel, by decide +kernel, by decide +kernel, by decide +kernel, by decide +kernel, by decide +kernel, by decide +kernel, by decide +kernel, by decide +kernel, by decide +kernel, by decide +kernel, rfl, rfl, by decide +kernel, by decide +kernel, rfl, rfl, by decide +kernel, by decide +kernel, by decide +kernel, by decide +kernel, by decide +kernel, rfl, by decide +kernel, by decide +kernel, by decide +kernel, rfl, rfl, by decide +kernel, by decide +kernel, rfl, rfl, by decide +kernel, by decide +kernel, by decide +kernel, by decide +kernel, by decide +kernel, by decide +kernel, rfl, rfl, rfl, rfl, rfl, by decide +kernel, rfl, rfl, by decide +kernel, by decide +kernel, by decide +kernel, by decide +kernel, rfl, by decide +kernel, by decide +kernel, by decide +kernel, rfl, rfl, by decide +kernel, by decide +kernel, by decide +kernel, rfl, rfl, rfl, rfl, rfl, by decide +kernel, rfl, rfl, by decide +kernel, by decide +kernel, by decide +kernel, by decide +kernel, rfl, by decide +kernel, by decide +kernel, by decide +kernel, rfl, by decide +kernel, by decide +kernel, by decide +kernel, rfl, rfl, by decide +kernel, by decide +kernel, rfl, rfl, by decide +kernel, by decide +kernel, by decide +kernel, by decide +kernel, by decide +kernel, by decide +kernel, by decide +kernel, rfl, rfl, by decide +kernel, by decide +kernel, rfl, rfl, by decide +kernel, by decide +kernel, by decide +kernel, by decide +kernel, rfl, rfl, by decide +kernel⟩
set_option maxRecDepth 100000 in
set_option maxHeartbeats 4000000 in
theorem C_Row_numberAt : oM m_Row_numberAt = 6 ∧
  rkM m_Row_numberAt = 1 ∧
  dM m_Row_numberAt = 0 ∧
  lM m_Row_numberAt = 2 ∧
  decode (cM m_Row_numberAt) 0 = .ok (.iload_n 1, 1) ∧
  decode (cM m_Row_numberAt) 1 = .ok (.ifCond .lt 20, 3) ∧
  am_okt 1 20 ∧
  am_tgt 1 20 = 21 ∧
  decode (cM m_Row_numberAt) 4 = .ok (.iload_n 1, 1) ∧
  decode (cM m_Row_numberAt) 5 = .ok (.aload_n 0, 1) ∧
  decode (cM m_Row_numberAt) 6 = .ok (.getfield 44, 3) ∧
  fldT 6 44 = some (6, 7, 0) ∧
  decode (cM m_Row_numberAt) 9 = .ok (.if_icmp .ge 12, 3) ∧
  am_okt 9 12 ∧
  am_tgt 9 12 = 21 ∧
  decode (cM m_Row_numberAt) 12 = .ok (.aload_n 0, 1) ∧
  decode (cM m_Row_numberAt) 13 = .ok (.getfield 24, 3) ∧
  fldT 6 24 = some (6, 1, 2) ∧
  decode (cM m_Row_numberAt) 16 = .ok (.iload_n 1, 1) ∧
  decode (cM m_Row_numberAt) 17 = .ok (.iaload, 1) ∧
  decode (cM m_Row_numberAt) 18 = .ok (.goto 4, 3) ∧
  am_okt 18 4 ∧
  am_tgt 18 4 = 22 ∧
  decode (cM m_Row_numberAt) 21 = .ok (.iconst 0, 1) ∧
  decode (cM m_Row_numberAt) 22 = .ok (.ireturn, 1) :=
  ⟨rfl, rfl, rfl, rfl, by decide +kernel, by decide +kernel, rfl, rfl, by decide +kernel, by decide +kernel, by decide +kernel, rfl, by decide +kernel, rfl, rfl, by decide +kernel, by decide +kernel, rfl, by decide +kernel, by decide +kernel, by decide +kernel, rfl, rfl, by decide +kernel, by decide +kernel⟩
set_option maxRecDepth 100000 in
set_option maxHeartbeats 4000000 in
theorem C_Row_countLess : oM m_Row_countLess = 6 ∧
  rkM m_Row_countLess = 1 ∧
  dM m_Row_countLess = 1 ∧
  lM m_Row_countLess = 5 ∧
  decode (cM m_Row_countLess) 0 = .ok (.iconst 0, 1) ∧
  decode (cM m_Row_countLess) 1 = .ok (.istore_n 2, 1) ∧
  decode (cM m_Row_countLess) 2 = .ok (.iconst 0, 1) ∧
  decode (cM m_Row_countLess) 3 = .ok (.iload_n 1, 1) ∧
  decode (cM m_Row_countLess) 4 = .ok (.iconst 2, 1) ∧
  decode (cM m_Row_countLess) 5 = .ok (.isub, 1) ∧
  decode (cM m_Row_countLess) 6 = .ok (.invokestatic 15, 3) ∧
  invT 6 15 = some (0, 3) ∧
  decode (cM m_Row_countLess) 9 = .ok (.istore_n 3, 1) ∧
  decode (cM m_Row_countLess) 10 = .ok (.iload_n 3, 1) ∧
  decode (cM m_Row_countLess) 11 = .ok (.istore 4, 2) ∧
  decode (cM m_Row_countLess) 13 = .ok (.iload 4, 2) ∧
  decode (cM m_Row_countLess) 15 = .ok (.aload_n 0, 1) ∧
  decode (cM m_Row_countLess) 16 = .ok (.getfield 44, 3) ∧
  fldT 6 44 = some (6, 7, 0) ∧
  decode (cM m_Row_countLess) 19 = .ok (.if_icmp .ge 51, 3) ∧
  am_okt 19 51 ∧
  am_tgt 19 51 = 70 ∧
  decode (cM m_Row_countLess) 22 = .ok (.iload 4, 2) ∧
  decode (cM m_Row_countLess) 24 = .ok (.iload_n 1, 1) ∧
  decode (cM m_Row_countLess) 25 = .ok (.iconst 2, 1) ∧
  decode (cM m_Row_countLess) 26 = .ok (.iadd, 1) ∧
  decode (cM m_Row_countLess) 27 = .ok (.if_icmp .gt 43, 3) ∧
  am_okt 27 43 ∧
  am_tgt 27 43 = 70 ∧
  decode (cM m_Row_countLess) 30 = .ok (.iload_n 2, 1) ∧
  decode (cM m_Row_countLess) 31 = .ok (.aload_n 0, 1) ∧
  decode (cM m_Row_countLess) 32 = .ok (.getfield 24, 3) ∧
  fldT 6 24 = some (6, 1, 2) ∧
  decode (cM m_Row_countLess) 35 = .ok (.iload 4, 2) ∧
  decode (cM m_Row_countLess) 37 = .ok (.iaload, 1) ∧
  decode (cM m_Row_countLess) 38 = .ok (.ifCond .eq 23, 3) ∧
  am_okt 38 23 ∧
  am_tgt 38 23 = 61 ∧
  decode (cM m_Row_countLess) 41 = .ok (.aload_n 0, 1) ∧
  decode (cM m_Row_countLess) 42 = .ok (.getfield 24, 3) ∧
  decode (cM m_Row_countLess) 45 = .ok (.iload 4, 2) ∧
  decode (cM m_Row_countLess) 47 = .ok (.iaload, 1) ∧
  decode (cM m_Row_countLess) 48 = .ok (.aload_n 0, 1) ∧
  decode (cM m_Row_countLess) 49 = .ok (.getfield 24, 3) ∧
  decode (cM m_Row_countLess) 52 = .ok (.iload_n 1, 1) ∧
  decode (cM m_Row_countLess) 53 = .ok (.iaload, 1) ∧
  decode (cM m_Row_countLess) 54 = .ok (.if_icmp .ge 7, 3) ∧
  am_okt 54 7 ∧
  am_tgt 54 7 = 61 ∧
  decode (cM m_Row_countLess) 57 = .ok (.iconst 1, 1) ∧
  decode (cM m_Row_countLess) 58 = .ok (.goto 4, 3) ∧
  am_okt 58 4 ∧
  am_tgt 58 4 = 62 ∧
  decode (cM m_Row_countLess) 61 = .ok (.iconst 0, 1) ∧
  decode (cM m_Row_countLess) 62 = .ok (.iadd, 1) ∧
  decode (cM m_Row_countLess) 63 = .ok (.istore_n 2, 1) ∧
  decode (cM m_Row_countLess) 64 = .ok (.iinc 4 1, 3) ∧
  decode (cM m_Row_countLess) 67 = .ok (.goto (-54), 3) ∧
  am_okt 67 (-54) ∧
  am_tgt 67 (-54) = 13 ∧
  decode (cM m_Row_countLess) 70 = .ok (.iload_n 2, 1) ∧
  decode (cM m_Row_countLess) 71 = .ok (.ireturn, 1) :=
  ⟨rfl, rfl, rfl, rfl, by decide +kernel, by decide +kernel, by decide +kernel, by decide +kernel, by decide +kernel, by decide +kernel, by decide +kernel, rfl, by decide +kernel, by decide +kernel, by decide +kernel, by decide +kernel, by decide +kernel, by decide +kernel, rfl, by decide +kernel, rfl, rfl, by decide +kernel, by decide +kernel, by decide +kernel, by decide +kernel, by decide +kernel, rfl, rfl, by decide +kernel, by decide +kernel, by decide +kernel, rfl, by decide +kernel, by decide +kernel, by decide +kernel, rfl, rfl, by decide +kernel, by decide +kernel, by decide +kernel, by decide +kernel, by decide +kernel, by decide +kernel, by decide +kernel, by decide +kernel, by decide +kernel, rfl, rfl, by decide +kernel, by decide +kernel, rfl, rfl, by decide +kernel, by decide +kernel, by decide +kernel, by decide +kernel, by decide +kernel, rfl, rfl, by decide +kernel, by decide +kernel⟩
set_option maxRecDepth 100000 in
set_option maxHeartbeats 4000000 in
theorem C_Row_numbersFrom : oM m_Row_numbersFrom = 6 ∧
  rkM m_Row_numbersFrom = 1 ∧
  dM m_Row_numbersFrom = 0 ∧
  lM m_Row_numbersFrom = 3 ∧
  decode (cM m_Row_numbersFrom) 0 = .ok (.iload_n 1, 1) ∧
  decode (cM m_Row_numbersFrom) 1 = .ok (.ifCond .lt 16, 3) ∧
  am_okt 1 16 ∧
  am_tgt 1 16 = 17 ∧
  decode (cM m_Row_numbersFrom) 4 = .ok (.iload_n 2, 1) ∧
  decode (cM m_Row_numbersFrom) 5 = .ok (.aload_n 0, 1) ∧
  decode (cM m_Row_numbersFrom) 6 = .ok (.getfield 44, 3) ∧
  fldT 6 44 = some (6, 7, 0) ∧
  decode (cM m_Row_numbersFrom) 9 = .ok (.if_icmp .gt 8, 3) ∧
  am_okt 9 8 ∧
  am_tgt 9 8 = 17 ∧
  decode (cM m_Row_numbersFrom) 12 = .ok (.iload_n 1, 1) ∧
  decode (cM m_Row_numbersFrom) 13 = .ok (.iload_n 2, 1) ∧
  decode (cM m_Row_numbersFrom) 14 = .ok (.if_icmp .lt 5, 3) ∧
  am_okt 14 5 ∧
  am_tgt 14 5 = 19 ∧
  decode (cM m_Row_numbersFrom) 17 = .ok (.iconst 0, 1) ∧
  decode (cM m_Row_numbersFrom) 18 = .ok (.ireturn, 1) ∧
  decode (cM m_Row_numbersFrom) 19 = .ok (.aload_n 0, 1) ∧
  decode (cM m_Row_numbersFrom) 20 = .ok (.getfield 41, 3) ∧
  fldT 6 41 = some (6, 6, 2) ∧
  decode (cM m_Row_numbersFrom) 23 = .ok (.iload_n 2, 1) ∧
  decode (cM m_Row_numbersFrom) 24 = .ok (.iaload, 1) ∧
  decode (cM m_Row_numbersFrom) 25 = .ok (.aload_n 0, 1) ∧
  decode (cM m_Row_numbersFrom) 26 = .ok (.getfield 41, 3) ∧
  decode (cM m_Row_numbersFrom) 29 = .ok (.iload_n 1, 1) ∧
  decode (cM m_Row_numbersFrom) 30 = .ok (.iaload, 1) ∧
  decode (cM m_Row_numbersFrom) 31 = .ok (.isub, 1) ∧
  decode (cM m_Row_numbersFrom) 32 = .ok (.ireturn, 1) :=
  ⟨rfl, rfl, rfl, rfl, by decide +kernel, by decide +kernel, rfl, rfl, by decide +kernel, by decide +kernel, by decide +kernel, rfl, by decide +kernel, rfl, rfl, by decide +kernel, by decide +kernel, by decide +kernel, rfl, rfl, by decide +kernel, by decide +kernel, by decide +kernel, by decide +kernel, rfl, by decide +kernel, by decide +kernel, by decide +kernel, by decide +kernel, by decide +kernel, by decide +kernel, by decide +kernel, by decide +kernel⟩
set_option maxRecDepth 100000 in
set_option maxHeartbeats 4000000 in
theorem C_Row_rankAt : oM m_Row_rankAt = 6 ∧
  rkM m_Row_rankAt = 1 ∧
  dM m_Row_rankAt = 0 ∧
  lM m_Row_rankAt = 2 ∧
  decode (cM m_Row_rankAt) 0 = .ok (.iload_n 1, 1) ∧
  decode (cM m_Row_rankAt) 1 = .ok (.ifCond .lt 20, 3) ∧
  am_okt 1 20 ∧
  am_tgt 1 20 = 21 ∧
  decode (cM m_Row_rankAt) 4 = .ok (.iload_n 1, 1) ∧
  decode (cM m_Row_rankAt) 5 = .ok (.aload_n 0, 1) ∧
  decode (cM m_Row_rankAt) 6 = .ok (.getfield 44, 3) ∧
  fldT 6 44 = some (6, 7, 0) ∧
  decode (cM m_Row_rankAt) 9 = .ok (.if_icmp .ge 12, 3) ∧
  am_okt 9 12 ∧
  am_tgt 9 12 = 21 ∧
  decode (cM m_Row_rankAt) 12 = .ok (.aload_n 0, 1) ∧
  decode (cM m_Row_rankAt) 13 = .ok (.getfield 38, 3) ∧
  fldT 6 38 = some (6, 5, 2) ∧
  decode (cM m_Row_rankAt) 16 = .ok (.iload_n 1, 1) ∧
  decode (cM m_Row_rankAt) 17 = .ok (.iaload, 1) ∧
  decode (cM m_Row_rankAt) 18 = .ok (.goto 4, 3) ∧
  am_okt 18 4 ∧
  am_tgt 18 4 = 22 ∧
  decode (cM m_Row_rankAt) 21 = .ok (.iconst (-1), 1) ∧
  decode (cM m_Row_rankAt) 22 = .ok (.ireturn, 1) :=
  ⟨rfl, rfl, rfl, rfl, by decide +kernel, by decide +kernel, rfl, rfl, by decide +kernel, by decide +kernel, by decide +kernel, rfl, by decide +kernel, rfl, rfl, by decide +kernel, by decide +kernel, rfl, by decide +kernel, by decide +kernel, by decide +kernel, rfl, rfl, by decide +kernel, by decide +kernel⟩
set_option maxRecDepth 100000 in
set_option maxHeartbeats 4000000 in
theorem C_Row_stepAt : oM m_Row_stepAt = 6 ∧
  rkM m_Row_stepAt = 1 ∧
  dM m_Row_stepAt = 0 ∧
  lM m_Row_stepAt = 2 ∧
  decode (cM m_Row_stepAt) 0 = .ok (.iload_n 1, 1) ∧
  decode (cM m_Row_stepAt) 1 = .ok (.ifCond .lt 20, 3) ∧
  am_okt 1 20 ∧
  am_tgt 1 20 = 21 ∧
  decode (cM m_Row_stepAt) 4 = .ok (.iload_n 1, 1) ∧
  decode (cM m_Row_stepAt) 5 = .ok (.aload_n 0, 1) ∧
  decode (cM m_Row_stepAt) 6 = .ok (.getfield 44, 3) ∧
  fldT 6 44 = some (6, 7, 0) ∧
  decode (cM m_Row_stepAt) 9 = .ok (.if_icmp .ge 12, 3) ∧
  am_okt 9 12 ∧
  am_tgt 9 12 = 21 ∧
  decode (cM m_Row_stepAt) 12 = .ok (.aload_n 0, 1) ∧
  decode (cM m_Row_stepAt) 13 = .ok (.getfield 35, 3) ∧
  fldT 6 35 = some (6, 4, 2) ∧
  decode (cM m_Row_stepAt) 16 = .ok (.iload_n 1, 1) ∧
  decode (cM m_Row_stepAt) 17 = .ok (.iaload, 1) ∧
  decode (cM m_Row_stepAt) 18 = .ok (.goto 4, 3) ∧
  am_okt 18 4 ∧
  am_tgt 18 4 = 22 ∧
  decode (cM m_Row_stepAt) 21 = .ok (.iconst 2, 1) ∧
  decode (cM m_Row_stepAt) 22 = .ok (.ireturn, 1) :=
  ⟨rfl, rfl, rfl, rfl, by decide +kernel, by decide +kernel, rfl, rfl, by decide +kernel, by decide +kernel, by decide +kernel, rfl, by decide +kernel, rfl, rfl, by decide +kernel, by decide +kernel, rfl, by decide +kernel, by decide +kernel, by decide +kernel, rfl, rfl, by decide +kernel, by decide +kernel⟩
set_option maxRecDepth 100000 in
set_option maxHeartbeats 4000000 in
theorem C_Row_isShaky : oM m_Row_isShaky = 6 ∧
  rkM m_Row_isShaky = 2 ∧
  dM m_Row_isShaky = 0 ∧
  lM m_Row_isShaky = 2 ∧
  decode (cM m_Row_isShaky) 0 = .ok (.iload_n 1, 1) ∧
  decode (cM m_Row_isShaky) 1 = .ok (.ifCond .lt 24, 3) ∧
  am_okt 1 24 ∧
  am_tgt 1 24 = 25 ∧
  decode (cM m_Row_isShaky) 4 = .ok (.iload_n 1, 1) ∧
  decode (cM m_Row_isShaky) 5 = .ok (.aload_n 0, 1) ∧
  decode (cM m_Row_isShaky) 6 = .ok (.getfield 44, 3) ∧
  fldT 6 44 = some (6, 7, 0) ∧
  decode (cM m_Row_isShaky) 9 = .ok (.if_icmp .ge 16, 3) ∧
  am_okt 9 16 ∧
  am_tgt 9 16 = 25 ∧
  decode (cM m_Row_isShaky) 12 = .ok (.aload_n 0, 1) ∧
  decode (cM m_Row_isShaky) 13 = .ok (.getfield 32, 3) ∧
  fldT 6 32 = some (6, 3, 2) ∧
  decode (cM m_Row_isShaky) 16 = .ok (.iload_n 1, 1) ∧
  decode (cM m_Row_isShaky) 17 = .ok (.baload, 1) ∧
  decode (cM m_Row_isShaky) 18 = .ok (.ifCond .eq 7, 3) ∧
  am_okt 18 7 ∧
  am_tgt 18 7 = 25 ∧
  decode (cM m_Row_isShaky) 21 = .ok (.iconst 1, 1) ∧
  decode (cM m_Row_isShaky) 22 = .ok (.goto 4, 3) ∧
  am_okt 22 4 ∧
  am_tgt 22 4 = 26 ∧
  decode (cM m_Row_isShaky) 25 = .ok (.iconst 0, 1) ∧
  decode (cM m_Row_isShaky) 26 = .ok (.ireturn, 1) :=
  ⟨rfl, rfl, rfl, rfl, by decide +kernel, by decide +kernel, rfl, rfl, by decide +kernel, by decide +kernel, by decide +kernel, rfl, by decide +kernel, rfl, rfl, by decide +kernel, by decide +kernel, rfl, by decide +kernel, by decide +kernel, by decide +kernel, rfl, rfl, by decide +kernel, by decide +kernel, rfl, rfl, by decide +kernel, by decide +kernel⟩
set_option maxRecDepth 100000 in
set_option maxHeartbeats 4000000 in
theorem C_Slide_measure : oM m_Slide_measure = 7 ∧
  rkM m_Slide_measure = 0 ∧
  dM m_Slide_measure = 1 ∧
  lM m_Slide_measure = 14 ∧
  decode (cM m_Slide_measure) 0 = .ok (.iconst 0, 1) ∧
  decode (cM m_Slide_measure) 1 = .ok (.istore 4, 2) ∧
  decode (cM m_Slide_measure) 3 = .ok (.iconst 0, 1) ∧
  decode (cM m_Slide_measure) 4 = .ok (.istore 5, 2) ∧
  decode (cM m_Slide_measure) 6 = .ok (.iconst 0, 1) ∧
  decode (cM m_Slide_measure) 7 = .ok (.istore 6, 2) ∧
  decode (cM m_Slide_measure) 9 = .ok (.aload_n 0, 1) ∧
  decode (cM m_Slide_measure) 10 = .ok (.iconst 0, 1) ∧
  decode (cM m_Slide_measure) 11 = .ok (.putfield 9, 3) ∧
  fldT 7 9 = some (7, 0, 0) ∧
  decode (cM m_Slide_measure) 14 = .ok (.iconst 0, 1) ∧
  decode (cM m_Slide_measure) 15 = .ok (.iload_n 3, 1) ∧
  decode (cM m_Slide_measure) 16 = .ok (.ineg, 1) ∧
  decode (cM m_Slide_measure) 17 = .ok (.invokestatic 15, 3) ∧
  invT 7 15 = some (0, 3) ∧
  decode (cM m_Slide_measure) 20 = .ok (.istore 7, 2) ∧
  decode (cM m_Slide_measure) 22 = .ok (.aload_n 2, 1) ∧
  decode (cM m_Slide_measure) 23 = .ok (.getfield 21, 3) ∧
  fldT 7 21 = some (6, 7, 0) ∧
  decode (cM m_Slide_measure) 26 = .ok (.aload_n 1, 1) ∧
  decode (cM m_Slide_measure) 27 = .ok (.getfield 21, 3) ∧
  decode (cM m_Slide_measure) 30 = .ok (.iload_n 3, 1) ∧
  decode (cM m_Slide_measure) 31 = .ok (.isub, 1) ∧
  decode (cM m_Slide_measure) 32 = .ok (.invokestatic 26, 3) ∧
  invT 7 26 = some (0, 4) ∧
  decode (cM m_Slide_measure) 35 = .ok (.istore 8, 2) ∧
  decode (cM m_Slide_measure) 37 = .ok (.iload 7, 2) ∧
  decode (cM m_Slide_measure) 39 = .ok (.istore 9, 2) ∧
  decode (cM m_Slide_measure) 41 = .ok (.iload 9, 2) ∧
  decode (cM m_Slide_measure) 43 = .ok (.iload 8, 2) ∧
  decode (cM m_Slide_measure) 45 = .ok (.if_icmp .ge 134, 3) ∧
  am_okt 45 134 ∧
  am_tgt 45 134 = 179 ∧
  decode (cM m_Slide_measure) 48 = .ok (.aload_n 1, 1) ∧
  decode (cM m_Slide_measure) 49 = .ok (.iload 9, 2) ∧
  decode (cM m_Slide_measure) 51 = .ok (.iload_n 3, 1) ∧
  decode (cM m_Slide_measure) 52 = .ok (.iadd, 1) ∧
  decode (cM m_Slide_measure) 53 = .ok (.invokevirtual 29, 3) ∧
  invT 7 29 = some (m_Row_rankAt, 0) ∧
  nM m_Row_rankAt = 2 ∧
  oM m_Row_rankAt = 6 ∧
  rkM m_Row_rankAt = 1 ∧
  dM m_Row_rankAt = 0 ∧
  decode (cM m_Slide_measure) 56 = .ok (.istore 10, 2) ∧
  decode (cM m_Slide_measure) 58 = .ok (.aload_n 2, 1) ∧
  decode (cM m_Slide_measure) 59 = .ok (.iload 9, 2) ∧
  decode (cM m_Slide_measure) 61 = .ok (.invokevirtual 29, 3) ∧
  decode (cM m_Slide_measure) 64 = .ok (.istore 11, 2) ∧
  decode (cM m_Slide_measure) 66 = .ok (.iload 10, 2) ∧
  decode (cM m_Slide_measure) 68 = .ok (.iconst (-1), 1) ∧
  decode (cM m_Slide_measure) 69 = .ok (.if_icmp .eq 104, 3) ∧
  am_okt 69 104 ∧
  am_tgt 69 104 = 173 ∧
  decode (cM m_Slide_measure) 72 = .ok (.iload 11, 2) ∧
  decode (cM m_Slide_measure) 74 = .ok (.iconst (-1), 1) ∧
  decode (cM m_Slide_measure) 75 = .ok (.if_icmp .ne 6, 3) ∧
  am_okt 75 6 ∧
  am_tgt 75 6 = 81 ∧
  decode (cM m_Slide_measure) 78 = .ok (.goto 95, 3) ∧
  am_okt 78 95 ∧
  am_tgt 78 95 = 173 ∧
  decode (cM m_Slide_measure) 81 = .ok (.aload_n 0, 1) ∧
  decode (cM m_Slide_measure) 82 = .ok (.dup, 1) ∧
  decode (cM m_Slide_measure) 83 = .ok (.getfield 9, 3) ∧
  decode (cM m_Slide_measure) 86 = .ok (.iconst 1, 1) ∧
  decode (cM m_Slide_measure) 87 = .ok (.iadd, 1) ∧
  decode (cM m_Slide_measure) 88 = .ok (.putfield 9, 3) ∧
  decode (cM m_Slide_measure) 91 = .ok (.iload 4, 2) ∧
  decode (cM m_Slide_measure) 93 = .ok (.iload 10, 2) ∧
  decode (cM m_Slide_measure) 95 = .ok (.iload 11, 2) ∧
  decode (cM m_Slide_measure) 97 = .ok (.isub, 1) ∧
  decode (cM m_Slide_measure) 98 = .ok (.invokestatic 33, 3) ∧
  invT 7 33 = some (0, 5) ∧
  decode (cM m_Slide_measure) 101 = .ok (.iadd, 1) ∧
  decode (cM m_Slide_measure) 102 = .ok (.istore 4, 2) ∧
  decode (cM m_Slide_measure) 104 = .ok (.aload_n 1, 1) ∧
  decode (cM m_Slide_measure) 105 = .ok (.iload 9, 2) ∧
  decode (cM m_Slide_measure) 107 = .ok (.iload_n 3, 1) ∧
  decode (cM m_Slide_measure) 108 = .ok (.iadd, 1) ∧
  decode (cM m_Slide_measure) 109 = .ok (.invokevirtual 36, 3) ∧
  invT 7 36 = some (m_Row_stepAt, 0) ∧
  nM m_Row_stepAt = 2 ∧
  oM m_Row_stepAt = 6 ∧
  rkM m_Row_stepAt = 1 ∧
  dM m_Row_stepAt = 0 ∧
  decode (cM m_Slide_measure) 112 = .ok (.istore 12, 2) ∧
  decode (cM m_Slide_measure) 114 = .ok (.aload_n 2, 1) ∧
  decode (cM m_Slide_measure) 115 = .ok (.iload 9, 2) ∧
  decode (cM m_Slide_measure) 117 = .ok (.invokevirtual 36, 3) ∧
  decode (cM m_Slide_measure) 120 = .ok (.istore 13, 2) ∧
  decode (cM m_Slide_measure) 122 = .ok (.iload 12, 2) ∧
  decode (cM m_Slide_measure) 124 = .ok (.iconst 2, 1) ∧
  decode (cM m_Slide_measure) 125 = .ok (.if_icmp .eq 48, 3) ∧
  am_okt 125 48 ∧
  am_tgt 125 48 = 173 ∧
  decode (cM m_Slide_measure) 128 = .ok (.iload 13, 2) ∧
  decode (cM m_Slide_measure) 130 = .ok (.iconst 2, 1) ∧
  decode (cM m_Slide_measure) 131 = .ok (.if_icmp .eq 42, 3) ∧
  am_okt 131 42 ∧
  am_tgt 131 42 = 173 ∧
  decode (cM m_Slide_measure) 134 = .ok (.iinc 5 1, 3) ∧
  decode (cM m_Slide_measure) 137 = .ok (.iload 6, 2) ∧
  decode (cM m_Slide_measure) 139 = .ok (.aload_n 1, 1) ∧
  decode (cM m_Slide_measure) 140 = .ok (.iload 9, 2) ∧
  decode (cM m_Slide_measure) 142 = .ok (.iload_n 3, 1) ∧
  decode (cM m_Slide_measure) 143 = .ok (.iadd, 1) ∧
  decode (cM m_Slide_measure) 144 = .ok (.invokevirtual 39, 3) ∧
  invT 7 39 = some (m_Row_isShaky, 0) ∧
  nM m_Row_isShaky = 2 ∧
  oM m_Row_isShaky = 6 ∧
  rkM m_Row_isShaky = 2 ∧
  dM m_Row_isShaky = 0 ∧
  decode (cM m_Slide_measure) 147 = .ok (.ifCond .ne 12, 3) ∧
  am_okt 147 12 ∧
  am_tgt 147 12 = 159 ∧
  decode (cM m_Slide_measure) 150 = .ok (.aload_n 2, 1) ∧
  decode (cM m_Slide_measure) 151 = .ok (.iload 9, 2) ∧
  decode (cM m_Slide_measure) 153 = .ok (.invokevirtual 39, 3) ∧
  decode (cM m_Slide_measure) 156 = .ok (.ifCond .eq 7, 3) ∧
  am_okt 156 7 ∧
  am_tgt 156 7 = 163 ∧
  decode (cM m_Slide_measure) 159 = .ok (.iconst 1, 1) ∧
  decode (cM m_Slide_measure) 160 = .ok (.goto 10, 3) ∧
  am_okt 160 10 ∧
  am_tgt 160 10 = 170 ∧
  decode (cM m_Slide_measure) 163 = .ok (.iload 12, 2) ∧
  decode (cM m_Slide_measure) 165 = .ok (.iload 13, 2) ∧
  decode (cM m_Slide_measure) 167 = .ok (.invokestatic 43, 3) ∧
  invT 7 43 = some (m_Slide_likeness, 1) ∧
  nM m_Slide_likeness = 2 ∧
  oM m_Slide_likeness = 7 ∧
  rkM m_Slide_likeness = 1 ∧
  dM m_Slide_likeness = 0 ∧
  decode (cM m_Slide_measure) 170 = .ok (.iadd, 1) ∧
  decode (cM m_Slide_measure) 171 = .ok (.istore 6, 2) ∧
  decode (cM m_Slide_measure) 173 = .ok (.iinc 9 1, 3) ∧
  decode (cM m_Slide_measure) 176 = .ok (.goto (-135), 3) ∧
  am_okt 176 (-135) ∧
  am_tgt 176 (-135) = 41 ∧
  decode (cM m_Slide_measure) 179 = .ok (.aload_n 0, 1) ∧
  decode (cM m_Slide_measure) 180 = .ok (.iload 5, 2) ∧
  decode (cM m_Slide_measure) 182 = .ok (.iconst 1, 1) ∧
  decode (cM m_Slide_measure) 183 = .ok (.if_icmp .ge 7, 3) ∧
  am_okt 183 7 ∧
  am_tgt 183 7 = 190 ∧
  decode (cM m_Slide_measure) 186 = .ok (.iconst 0, 1) ∧
  decode (cM m_Slide_measure) 187 = .ok (.goto 13, 3) ∧
  am_okt 187 13 ∧
  am_tgt 187 13 = 200 ∧
  decode (cM m_Slide_measure) 190 = .ok (.iload 6, 2) ∧
  decode (cM m_Slide_measure) 192 = .ok (.bipush 100, 2) ∧
  decode (cM m_Slide_measure) 194 = .ok (.imul, 1) ∧
  decode (cM m_Slide_measure) 195 = .ok (.iconst 2, 1) ∧
  decode (cM m_Slide_measure) 196 = .ok (.iload 5, 2) ∧
  decode (cM m_Slide_measure) 198 = .ok (.imul, 1) ∧
  decode (cM m_Slide_measure) 199 = .ok (.idiv, 1) ∧
  decode (cM m_Slide_measure) 200 = .ok (.putfield 46, 3) ∧
  fldT 7 46 = some (7, 1, 0) ∧
  decode (cM m_Slide_measure) 203 = .ok (.aload_n 0, 1) ∧
  decode (cM m_Slide_measure) 204 = .ok (.aload_n 0, 1) ∧
  decode (cM m_Slide_measure) 205 = .ok (.getfield 9, 3) ∧
  decode (cM m_Slide_measure) 208 = .ok (.iconst 1, 1) ∧
  decode (cM m_Slide_measure) 209 = .ok (.if_icmp .ge 7, 3) ∧
  am_okt 209 7 ∧
  am_tgt 209 7 = 216 ∧
  decode (cM m_Slide_measure) 212 = .ok (.iconst 0, 1) ∧
  decode (cM m_Slide_measure) 213 = .ok (.goto 16, 3) ∧
  am_okt 213 16 ∧
  am_tgt 213 16 = 229 ∧
  decode (cM m_Slide_measure) 216 = .ok (.bipush 100, 2) ∧
  decode (cM m_Slide_measure) 218 = .ok (.iload 4, 2) ∧
  decode (cM m_Slide_measure) 220 = .ok (.bipush 25, 2) ∧
  decode (cM m_Slide_measure) 222 = .ok (.imul, 1) ∧
  decode (cM m_Slide_measure) 223 = .ok (.aload_n 0, 1) ∧
  decode (cM m_Slide_measure) 224 = .ok (.getfield 9, 3) ∧
  decode (cM m_Slide_measure) 227 = .ok (.idiv, 1) ∧
  decode (cM m_Slide_measure) 228 = .ok (.isub, 1) ∧
  decode (cM m_Slide_measure) 229 = .ok (.putfield 49, 3) ∧
  fldT 7 49 = some (7, 2, 0) ∧
  decode (cM m_Slide_measure) 232 = .ok (.aload_n 0, 1) ∧
  decode (cM m_Slide_measure) 233 = .ok (.iconst 2, 1) ∧
  decode (cM m_Slide_measure) 234 = .ok (.aload_n 0, 1) ∧
  decode (cM m_Slide_measure) 235 = .ok (.getfield 46, 3) ∧
  decode (cM m_Slide_measure) 238 = .ok (.imul, 1) ∧
  decode (cM m_Slide_measure) 239 = .ok (.aload_n 0, 1) ∧
  decode (cM m_Slide_measure) 240 = .ok (.getfield 49, 3) ∧
  decode (cM m_Slide_measure) 243 = .ok (.iadd, 1) ∧
  decode (cM m_Slide_measure) 244 = .ok (.iconst 3, 1) ∧
  decode (cM m_Slide_measure) 245 = .ok (.idiv, 1) ∧
  decode (cM m_Slide_measure) 246 = .ok (.putfield 52, 3) ∧
  fldT 7 52 = some (7, 3, 0) ∧
  decode (cM m_Slide_measure) 249 = .ok (.return_, 1) :=
  ⟨rfl, rfl, rfl, rfl, by decide +kernel, by decide +kernel, by decide +kernel, by decide +kernel, by decide +kernel, by decide +kernel, by decide +kernel, by decide +kernel, by decide +kernel, rfl, by decide +kernel, by decide +kernel, by decide +kernel, by decide +kernel, rfl, by decide +kernel, by decide +kernel, by decide +kernel, rfl, by decide +kernel, by decide +kernel, by decide +kernel, by decide +kernel, by decide +kernel, rfl, by decide +kernel, by decide +kernel, by decide +kernel, by decide +kernel, by decide +kernel, by decide +kernel, rfl, rfl, by decide +kernel, by decide +kernel, by decide +kernel, by decide +kernel, by decide +kernel, rfl, rfl, rfl, rfl, rfl, by decide +kernel, by decide +kernel, by decide +kernel, by decide +kernel, by decide +kernel, by decide +kernel, by decide +kernel, by decide +kernel, rfl, rfl, by decide +kernel, by decide +kernel, by decide +kernel, rfl, rfl, by decide +kernel, rfl, rfl, by decide +kernel, by decide +kernel, by decide +kernel, by decide +kernel, by decide +kernel, by decide +kernel, by decide +kernel, by decide +kernel, by decide +kernel, by decide +kernel, by decide +kernel, rfl, by decide +kernel, by decide +kernel, by decide +kernel, by decide +kernel, by decide +kernel, by decide +kernel, by decide +kernel, rfl, rfl, rfl, rfl, rfl, by decide +kernel, by decide +kernel, by decide +kernel, by decide +kernel, by decide +kernel, by decide +kernel, by decide +kernel, by decide +kernel, rfl, rfl, by decide +kernel, by decide +kernel, by decide +kernel, rfl, rfl, by decide +kernel, by decide +kernel, by decide +kernel, by decide +kernel, by decide +kernel, by decide +kernel, by decide +kernel, rfl, rfl, rfl, rfl, rfl, by decide +kernel, rfl, rfl, by decide +kernel, by decide +kernel, by decide +kernel, by decide +kernel, rfl, rfl, by decide +kernel, by decide +kernel, rfl, rfl, by decide +kernel, by decide +kernel, by decide +kernel, rfl, rfl, rfl, rfl, rfl, by decide +kernel, by decide +kernel, by decide +kernel, by decide +kernel, rfl, rfl, by decide +kernel, by decide +kernel, by decide +kernel, by decide +kernel, rfl, rfl, by decide +kernel, by decide +kernel, rfl, rfl, by decide +kernel, by decide +kernel, by decide +kernel, by decide +kernel, by decide +kernel, by decide +kernel, by decide +kernel, by decide +kernel, rfl, by decide +kernel, by decide +kernel, by decide +kernel, by decide +kernel, by decide +kernel, rfl, rfl, by decide +kernel, by decide +kernel, rfl, rfl, by decide +kernel, by decide +kernel, by decide +kernel, by decide +kernel, by decide +kernel, by decide +kernel, by decide +kernel, by decide +kernel, by decide +kernel, rfl, by decide +kernel, by decide +kernel, by decide +kernel, by decide +kernel, by decide +kernel, by decide +kernel, by decide +kernel, by decide +kernel, by decide +kernel, by decide +kernel, by decide +kernel, rfl, by decide +kernel⟩
set_option maxRecDepth 100000 in
set_option maxHeartbeats 4000000 in
theorem C_Slide_likeness : oM m_Slide_likeness = 7 ∧
  rkM m_Slide_likeness = 1 ∧
  dM m_Slide_likeness = 0 ∧
  lM m_Slide_likeness = 2 ∧
  decode (cM m_Slide_likeness) 0 = .ok (.iload_n 0, 1) ∧
  decode (cM m_Slide_likeness) 1 = .ok (.iload_n 1, 1) ∧
  decode (cM m_Slide_likeness) 2 = .ok (.if_icmp .ne 5, 3) ∧
  am_okt 2 5 ∧
  am_tgt 2 5 = 7 ∧
  decode (cM m_Slide_likeness) 5 = .ok (.iconst 2, 1) ∧
  decode (cM m_Slide_likeness) 6 = .ok (.ireturn, 1) ∧
  decode (cM m_Slide_likeness) 7 = .ok (.iload_n 0, 1) ∧
  decode (cM m_Slide_likeness) 8 = .ok (.ifCond .eq 7, 3) ∧
  am_okt 8 7 ∧
  am_tgt 8 7 = 15 ∧
  decode (cM m_Slide_likeness) 11 = .ok (.iload_n 1, 1) ∧
  decode (cM m_Slide_likeness) 12 = .ok (.ifCond .ne 7, 3) ∧
  am_okt 12 7 ∧
  am_tgt 12 7 = 19 ∧
  decode (cM m_Slide_likeness) 15 = .ok (.iconst 1, 1) ∧
  decode (cM m_Slide_likeness) 16 = .ok (.goto 4, 3) ∧
  am_okt 16 4 ∧
  am_tgt 16 4 = 20 ∧
  decode (cM m_Slide_likeness) 19 = .ok (.iconst 0, 1) ∧
  decode (cM m_Slide_likeness) 20 = .ok (.ireturn, 1) :=
  ⟨rfl, rfl, rfl, rfl, by decide +kernel, by decide +kernel, by decide +kernel, rfl, rfl, by decide +kernel, by decide +kernel, by decide +kernel, by decide +kernel, rfl, rfl, by decide +kernel, by decide +kernel, rfl, rfl, by decide +kernel, by decide +kernel, rfl, rfl, by decide +kernel, by decide +kernel⟩
set_option maxRecDepth 100000 in
set_option maxHeartbeats 4000000 in
theorem C_Stock_wipe : oM m_Stock_wipe = 8 ∧
  rkM m_Stock_wipe = 0 ∧
  dM m_Stock_wipe = 0 ∧
  lM m_Stock_wipe = 2 ∧
  decode (cM m_Stock_wipe) 0 = .ok (.iconst 0, 1) ∧
  decode (cM m_Stock_wipe) 1 = .ok (.istore_n 1, 1) ∧
  decode (cM m_Stock_wipe) 2 = .ok (.iload_n 1, 1) ∧
  decode (cM m_Stock_wipe) 3 = .ok (.bipush 8, 2) ∧
  decode (cM m_Stock_wipe) 5 = .ok (.if_icmp .ge 16, 3) ∧
  am_okt 5 16 ∧
  am_tgt 5 16 = 21 ∧
  decode (cM m_Stock_wipe) 8 = .ok (.aload_n 0, 1) ∧
  decode (cM m_Stock_wipe) 9 = .ok (.getfield 22, 3) ∧
  fldT 8 22 = some (8, 2, 2) ∧
  decode (cM m_Stock_wipe) 12 = .ok (.iload_n 1, 1) ∧
  decode (cM m_Stock_wipe) 13 = .ok (.iconst (-1), 1) ∧
  decode (cM m_Stock_wipe) 14 = .ok (.iastore, 1) ∧
  decode (cM m_Stock_wipe) 15 = .ok (.iinc 1 1, 3) ∧
  decode (cM m_Stock_wipe) 18 = .ok (.goto (-16), 3) ∧
  am_okt 18 (-16) ∧
  am_tgt 18 (-16) = 2 ∧
  decode (cM m_Stock_wipe) 21 = .ok (.aload_n 0, 1) ∧
  decode (cM m_Stock_wipe) 22 = .ok (.iconst 0, 1) ∧
  decode (cM m_Stock_wipe) 23 = .ok (.putfield 29, 3) ∧
  fldT 8 29 = some (8, 3, 0) ∧
  decode (cM m_Stock_wipe) 26 = .ok (.aload_n 0, 1) ∧
  decode (cM m_Stock_wipe) 27 = .ok (.bipush 70, 2) ∧
  decode (cM m_Stock_wipe) 29 = .ok (.putfield 33, 3) ∧
  fldT 8 33 = some (8, 4, 0) ∧
  decode (cM m_Stock_wipe) 32 = .ok (.aload_n 0, 1) ∧
  decode (cM m_Stock_wipe) 33 = .ok (.bipush 6, 2) ∧
  decode (cM m_Stock_wipe) 35 = .ok (.putfield 36, 3) ∧
  fldT 8 36 = some (8, 5, 0) ∧
  decode (cM m_Stock_wipe) 38 = .ok (.aload_n 0, 1) ∧
  decode (cM m_Stock_wipe) 39 = .ok (.iconst 5, 1) ∧
  decode (cM m_Stock_wipe) 40 = .ok (.putfield 39, 3) ∧
  fldT 8 39 = some (8, 6, 0) ∧
  decode (cM m_Stock_wipe) 43 = .ok (.return_, 1) :=
  ⟨rfl, rfl, rfl, rfl, by decide +kernel, by decide +kernel, by decide +kernel, by decide +kernel, by decide +kernel, rfl, rfl, by decide +kernel, by decide +kernel, rfl, by decide +kernel, by decide +kernel, by decide +kernel, by decide +kernel, by decide +kernel, rfl, rfl, by decide +kernel, by decide +kernel, by decide +kernel, rfl, by decide +kernel, by decide +kernel, by decide +kernel, rfl, by decide +kernel, by decide +kernel, by decide +kernel, rfl, by decide +kernel, by decide +kernel, by decide +kernel, rfl, by decide +kernel⟩
set_option maxRecDepth 100000 in
set_option maxHeartbeats 4000000 in
theorem C_Stock_timberAt : oM m_Stock_timberAt = 8 ∧
  rkM m_Stock_timberAt = 3 ∧
  dM m_Stock_timberAt = 1 ∧
  lM m_Stock_timberAt = 2 ∧
  decode (cM m_Stock_timberAt) 0 = .ok (.aload_n 0, 1) ∧
  decode (cM m_Stock_timberAt) 1 = .ok (.iload_n 1, 1) ∧
  decode (cM m_Stock_timberAt) 2 = .ok (.invokevirtual 46, 3) ∧
  invT 8 46 = some (m_Stock_has, 0) ∧
  nM m_Stock_has = 2 ∧
  oM m_Stock_has = 8 ∧
  rkM m_Stock_has = 2 ∧
  dM m_Stock_has = 0 ∧
  decode (cM m_Stock_timberAt) 5 = .ok (.ifCond .eq 12, 3) ∧
  am_okt 5 12 ∧
  am_tgt 5 12 = 17 ∧
  decode (cM m_Stock_timberAt) 8 = .ok (.aload_n 0, 1) ∧
  decode (cM m_Stock_timberAt) 9 = .ok (.getfield 11, 3) ∧
  fldT 8 11 = some (8, 0, 2) ∧
  decode (cM m_Stock_timberAt) 12 = .ok (.iload_n 1, 1) ∧
  decode (cM m_Stock_timberAt) 13 = .ok (.aaload, 1) ∧
  decode (cM m_Stock_timberAt) 14 = .ok (.goto 7, 3) ∧
  am_okt 14 7 ∧
  am_tgt 14 7 = 21 ∧
  decode (cM m_Stock_timberAt) 17 = .ok (.aload_n 0, 1) ∧
  decode (cM m_Stock_timberAt) 18 = .ok (.getfield 18, 3) ∧
  fldT 8 18 = some (8, 1, 2) ∧
  decode (cM m_Stock_timberAt) 21 = .ok (.areturn, 1) :=
  ⟨rfl, rfl, rfl, rfl, by decide +kernel, by decide +kernel, by decide +kernel, rfl, rfl, rfl, rfl, rfl, by decide +kernel, rfl, rfl, by decide +kernel, by decide +kernel, rfl, by decide +kernel, by decide +kernel, by decide +kernel, rfl, rfl, by decide +kernel, by decide +kernel, rfl, by decide +kernel⟩
set_option maxRecDepth 100000 in
set_option maxHeartbeats 4000000 in
theorem C_Stock_has : oM m_Stock_has = 8 ∧
  rkM m_Stock_has = 2 ∧
  dM m_Stock_has = 0 ∧
  lM m_Stock_has = 2 ∧
  decode (cM m_Stock_has) 0 = .ok (.iload_n 1, 1) ∧
  decode (cM m_Stock_has) 1 = .ok (.ifCond .lt 21, 3) ∧
  am_okt 1 21 ∧
  am_tgt 1 21 = 22 ∧
  decode (cM m_Stock_has) 4 = .ok (.iload_n 1, 1) ∧
  decode (cM m_Stock_has) 5 = .ok (.aload_n 0, 1) ∧
  decode (cM m_Stock_has) 6 = .ok (.getfield 29, 3) ∧
  fldT 8 29 = some (8, 3, 0) ∧
  decode (cM m_Stock_has) 9 = .ok (.if_icmp .ge 13, 3) ∧
  am_okt 9 13 ∧
  am_tgt 9 13 = 22 ∧
  decode (cM m_Stock_has) 12 = .ok (.iload_n 1, 1) ∧
  decode (cM m_Stock_has) 13 = .ok (.bipush 8, 2) ∧
  decode (cM m_Stock_has) 15 = .ok (.if_icmp .ge 7, 3) ∧
  am_okt 15 7 ∧
  am_tgt 15 7 = 22 ∧
  decode (cM m_Stock_has) 18 = .ok (.iconst 1, 1) ∧
  decode (cM m_Stock_has) 19 = .ok (.goto 4, 3) ∧
  am_okt 19 4 ∧
  am_tgt 19 4 = 23 ∧
  decode (cM m_Stock_has) 22 = .ok (.iconst 0, 1) ∧
  decode (cM m_Stock_has) 23 = .ok (.ireturn, 1) :=
  ⟨rfl, rfl, rfl, rfl, by decide +kernel, by decide +kernel, rfl, rfl, by decide +kernel, by decide +kernel, by decide +kernel, rfl, by decide +kernel, rfl, rfl, by decide +kernel, by decide +kernel, by decide +kernel, rfl, rfl, by decide +kernel, by decide +kernel, rfl, rfl, by decide +kernel, by decide +kernel⟩
set_option maxRecDepth 100000 in
set_option maxHeartbeats 4000000 in
theorem C_Stock_hasRingIn : oM m_Stock_hasRingIn = 8 ∧
  rkM m_Stock_hasRingIn = 2 ∧
  dM m_Stock_hasRingIn = 2 ∧
  lM m_Stock_hasRingIn = 4 ∧
  decode (cM m_Stock_hasRingIn) 0 = .ok (.aload_n 0, 1) ∧
  decode (cM m_Stock_hasRingIn) 1 = .ok (.iload_n 1, 1) ∧
  decode (cM m_Stock_hasRingIn) 2 = .ok (.invokevirtual 54, 3) ∧
  invT 8 54 = some (m_Stock_yearOf, 0) ∧
  nM m_Stock_yearOf = 2 ∧
  oM m_Stock_yearOf = 8 ∧
  rkM m_Stock_yearOf = 1 ∧
  dM m_Stock_yearOf = 0 ∧
  decode (cM m_Stock_hasRingIn) 5 = .ok (.istore_n 3, 1) ∧
  decode (cM m_Stock_hasRingIn) 6 = .ok (.iload_n 3, 1) ∧
  decode (cM m_Stock_hasRingIn) 7 = .ok (.iconst (-1), 1) ∧
  decode (cM m_Stock_hasRingIn) 8 = .ok (.if_icmp .eq 26, 3) ∧
  am_okt 8 26 ∧
  am_tgt 8 26 = 34 ∧
  decode (cM m_Stock_hasRingIn) 11 = .ok (.iload_n 2, 1) ∧
  decode (cM m_Stock_hasRingIn) 12 = .ok (.iload_n 3, 1) ∧
  decode (cM m_Stock_hasRingIn) 13 = .ok (.if_icmp .lt 21, 3) ∧
  am_okt 13 21 ∧
  am_tgt 13 21 = 34 ∧
  decode (cM m_Stock_hasRingIn) 16 = .ok (.iload_n 2, 1) ∧
  decode (cM m_Stock_hasRingIn) 17 = .ok (.iload_n 3, 1) ∧
  decode (cM m_Stock_hasRingIn) 18 = .ok (.aload_n 0, 1) ∧
  decode (cM m_Stock_hasRingIn) 19 = .ok (.iload_n 1, 1) ∧
  decode (cM m_Stock_hasRingIn) 20 = .ok (.invokevirtual 61, 3) ∧
  invT 8 61 = some (m_Stock_timberAt, 0) ∧
  nM m_Stock_timberAt = 2 ∧
  oM m_Stock_timberAt = 8 ∧
  rkM m_Stock_timberAt = 3 ∧
  dM m_Stock_timberAt = 1 ∧
  decode (cM m_Stock_hasRingIn) 23 = .ok (.getfield 65, 3) ∧
  fldT 8 65 = some (9, 2, 0) ∧
  decode (cM m_Stock_hasRingIn) 26 = .ok (.iadd, 1) ∧
  decode (cM m_Stock_hasRingIn) 27 = .ok (.if_icmp .ge 7, 3) ∧
  am_okt 27 7 ∧
  am_tgt 27 7 = 34 ∧
  decode (cM m_Stock_hasRingIn) 30 = .ok (.iconst 1, 1) ∧
  decode (cM m_Stock_hasRingIn) 31 = .ok (.goto 4, 3) ∧
  am_okt 31 4 ∧
  am_tgt 31 4 = 35 ∧
  decode (cM m_Stock_hasRingIn) 34 = .ok (.iconst 0, 1) ∧
  decode (cM m_Stock_hasRingIn) 35 = .ok (.ireturn, 1) :=
  ⟨rfl, rfl, rfl, rfl, by decide +kernel, by decide +kernel, by decide +kernel, rfl, rfl, rfl, rfl, rfl, by decide +kernel, by decide +kernel, by decide +kernel, by decide +kernel, rfl, rfl, by decide +kernel, by decide +kernel, by decide +kernel, rfl, rfl, by decide +kernel, by decide +kernel, by decide +kernel, by decide +kernel, by decide +kernel, rfl, rfl, rfl, rfl, rfl, by decide +kernel, rfl, by decide +kernel, by decide +kernel, rfl, rfl, by decide +kernel, by decide +kernel, rfl, rfl, by decide +kernel, by decide +kernel⟩
set_option maxRecDepth 100000 in
set_option maxHeartbeats 4000000 in
theorem C_Stock_yearOf : oM m_Stock_yearOf = 8 ∧
  rkM m_Stock_yearOf = 1 ∧
  dM m_Stock_yearOf = 0 ∧
  lM m_Stock_yearOf = 2 ∧
  decode (cM m_Stock_yearOf) 0 = .ok (.iload_n 1, 1) ∧
  decode (cM m_Stock_yearOf) 1 = .ok (.ifCond .lt 26, 3) ∧
  am_okt 1 26 ∧
  am_tgt 1 26 = 27 ∧
  decode (cM m_Stock_yearOf) 4 = .ok (.iload_n 1, 1) ∧
  decode (cM m_Stock_yearOf) 5 = .ok (.aload_n 0, 1) ∧
  decode (cM m_Stock_yearOf) 6 = .ok (.getfield 29, 3) ∧
  fldT 8 29 = some (8, 3, 0) ∧
  decode (cM m_Stock_yearOf) 9 = .ok (.if_icmp .ge 18, 3) ∧
  am_okt 9 18 ∧
  am_tgt 9 18 = 27 ∧
  decode (cM m_Stock_yearOf) 12 = .ok (.iload_n 1, 1) ∧
  decode (cM m_Stock_yearOf) 13 = .ok (.bipush 8, 2) ∧
  decode (cM m_Stock_yearOf) 15 = .ok (.if_icmp .ge 12, 3) ∧
  am_okt 15 12 ∧
  am_tgt 15 12 = 27 ∧
  decode (cM m_Stock_yearOf) 18 = .ok (.aload_n 0, 1) ∧
  decode (cM m_Stock_yearOf) 19 = .ok (.getfield 22, 3) ∧
  fldT 8 22 = some (8, 2, 2) ∧
  decode (cM m_Stock_yearOf) 22 = .ok (.iload_n 1, 1) ∧
  decode (cM m_Stock_yearOf) 23 = .ok (.iaload, 1) ∧
  decode (cM m_Stock_yearOf) 24 = .ok (.goto 4, 3) ∧
  am_okt 24 4 ∧
  am_tgt 24 4 = 28 ∧
  decode (cM m_Stock_yearOf) 27 = .ok (.iconst (-1), 1) ∧
  decode (cM m_Stock_yearOf) 28 = .ok (.ireturn, 1) :=
  ⟨rfl, rfl, rfl, rfl, by decide +kernel, by decide +kernel, rfl, rfl, by decide +kernel, by decide +kernel, by decide +kernel, rfl, by decide +kernel, rfl, rfl, by decide +kernel, by decide +kernel, by decide +kernel, rfl, rfl, by decide +kernel, by decide +kernel, rfl, by decide +kernel, by decide +kernel, by decide +kernel, rfl, rfl, by decide +kernel, by decide +kernel⟩
set_option maxRecDepth 100000 in
set_option maxHeartbeats 4000000 in
theorem C_Stock_setYear : oM m_Stock_setYear = 8 ∧
  rkM m_Stock_setYear = 0 ∧
  dM m_Stock_setYear = 1 ∧
  lM m_Stock_setYear = 3 ∧
  decode (cM m_Stock_setYear) 0 = .ok (.aload_n 0, 1) ∧
  decode (cM m_Stock_setYear) 1 = .ok (.iload_n 1, 1) ∧
  decode (cM m_Stock_setYear) 2 = .ok (.invokevirtual 46, 3) ∧
  invT 8 46 = some (m_Stock_has, 0) ∧
  nM m_Stock_has = 2 ∧
  oM m_Stock_has = 8 ∧
  rkM m_Stock_has = 2 ∧
  dM m_Stock_has = 0 ∧
  decode (cM m_Stock_setYear) 5 = .ok (.ifCond .eq 10, 3) ∧
  am_okt 5 10 ∧
  am_tgt 5 10 = 15 ∧
  decode (cM m_Stock_setYear) 8 = .ok (.aload_n 0, 1) ∧
  decode (cM m_Stock_setYear) 9 = .ok (.getfield 22, 3) ∧
  fldT 8 22 = some (8, 2, 2) ∧
  decode (cM m_Stock_setYear) 12 = .ok (.iload_n 1, 1) ∧
  decode (cM m_Stock_setYear) 13 = .ok (.iload_n 2, 1) ∧
  decode (cM m_Stock_setYear) 14 = .ok (.iastore, 1) ∧
  decode (cM m_Stock_setYear) 15 = .ok (.return_, 1) :=
  ⟨rfl, rfl, rfl, rfl, by decide +kernel, by decide +kernel, by decide +kernel, rfl, rfl, rfl, rfl, rfl, by decide +kernel, rfl, rfl, by decide +kernel, by decide +kernel, rfl, by decide +kernel, by decide +kernel, by decide +kernel, by decide +kernel⟩
