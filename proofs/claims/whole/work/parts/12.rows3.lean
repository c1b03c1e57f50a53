set_option maxRecDepth 100000 in
set_option maxHeartbeats 4000000 in
theorem C_Model_keepLink : oM m_Model_keepLink = 12 ∧
  rkM m_Model_keepLink = 0 ∧
  dM m_Model_keepLink = 0 ∧
  lM m_Model_keepLink = 4 ∧
  decode (cM m_Model_keepLink) 0 = .ok (.aload_n 0, 1) ∧
  decode (cM m_Model_keepLink) 1 = .ok (.getfield 356, 3) ∧
  fldT 12 356 = some (12, 49, 0) ∧
  decode (cM m_Model_keepLink) 4 = .ok (.istore_n 3, 1) ∧
  decode (cM m_Model_keepLink) 5 = .ok (.iload_n 3, 1) ∧
  decode (cM m_Model_keepLink) 6 = .ok (.ifCond .le 80, 3) ∧
  am_okt 6 80 ∧
  am_tgt 6 80 = 86 ∧
  decode (cM m_Model_keepLink) 9 = .ok (.aload_n 0, 1) ∧
  decode (cM m_Model_keepLink) 10 = .ok (.getfield 80, 3) ∧
  fldT 12 80 = some (12, 45, 2) ∧
  decode (cM m_Model_keepLink) 13 = .ok (.iload_n 3, 1) ∧
  decode (cM m_Model_keepLink) 14 = .ok (.iconst 1, 1) ∧
  decode (cM m_Model_keepLink) 15 = .ok (.isub, 1) ∧
  decode (cM m_Model_keepLink) 16 = .ok (.iaload, 1) ∧
  decode (cM m_Model_keepLink) 17 = .ok (.aload_n 0, 1) ∧
  decode (cM m_Model_keepLink) 18 = .ok (.getfield 342, 3) ∧
  fldT 12 342 = some (12, 37, 0) ∧
  decode (cM m_Model_keepLink) 21 = .ok (.if_icmp .ge 65, 3) ∧
  am_okt 21 65 ∧
  am_tgt 21 65 = 86 ∧
  decode (cM m_Model_keepLink) 24 = .ok (.aload_n 0, 1) ∧
  decode (cM m_Model_keepLink) 25 = .ok (.getfield 71, 3) ∧
  fldT 12 71 = some (12, 42, 2) ∧
  decode (cM m_Model_keepLink) 28 = .ok (.iload_n 3, 1) ∧
  decode (cM m_Model_keepLink) 29 = .ok (.aload_n 0, 1) ∧
  decode (cM m_Model_keepLink) 30 = .ok (.getfield 71, 3) ∧
  decode (cM m_Model_keepLink) 33 = .ok (.iload_n 3, 1) ∧
  decode (cM m_Model_keepLink) 34 = .ok (.iconst 1, 1) ∧
  decode (cM m_Model_keepLink) 35 = .ok (.isub, 1) ∧
  decode (cM m_Model_keepLink) 36 = .ok (.iaload, 1) ∧
  decode (cM m_Model_keepLink) 37 = .ok (.iastore, 1) ∧
  decode (cM m_Model_keepLink) 38 = .ok (.aload_n 0, 1) ∧
  decode (cM m_Model_keepLink) 39 = .ok (.getfield 74, 3) ∧
  fldT 12 74 = some (12, 43, 2) ∧
  decode (cM m_Model_keepLink) 42 = .ok (.iload_n 3, 1) ∧
  decode (cM m_Model_keepLink) 43 = .ok (.aload_n 0, 1) ∧
  decode (cM m_Model_keepLink) 44 = .ok (.getfield 74, 3) ∧
  decode (cM m_Model_keepLink) 47 = .ok (.iload_n 3, 1) ∧
  decode (cM m_Model_keepLink) 48 = .ok (.iconst 1, 1) ∧
  decode (cM m_Model_keepLink) 49 = .ok (.isub, 1) ∧
  decode (cM m_Model_keepLink) 50 = .ok (.iaload, 1) ∧
  decode (cM m_Model_keepLink) 51 = .ok (.iastore, 1) ∧
  decode (cM m_Model_keepLink) 52 = .ok (.aload_n 0, 1) ∧
  decode (cM m_Model_keepLink) 53 = .ok (.getfield 77, 3) ∧
  fldT 12 77 = some (12, 44, 2) ∧
  decode (cM m_Model_keepLink) 56 = .ok (.iload_n 3, 1) ∧
  decode (cM m_Model_keepLink) 57 = .ok (.aload_n 0, 1) ∧
  decode (cM m_Model_keepLink) 58 = .ok (.getfield 77, 3) ∧
  decode (cM m_Model_keepLink) 61 = .ok (.iload_n 3, 1) ∧
  decode (cM m_Model_keepLink) 62 = .ok (.iconst 1, 1) ∧
  decode (cM m_Model_keepLink) 63 = .ok (.isub, 1) ∧
  decode (cM m_Model_keepLink) 64 = .ok (.iaload, 1) ∧
  decode (cM m_Model_keepLink) 65 = .ok (.iastore, 1) ∧
  decode (cM m_Model_keepLink) 66 = .ok (.aload_n 0, 1) ∧
  decode (cM m_Model_keepLink) 67 = .ok (.getfield 80, 3) ∧
  decode (cM m_Model_keepLink) 70 = .ok (.iload_n 3, 1) ∧
  decode (cM m_Model_keepLink) 71 = .ok (.aload_n 0, 1) ∧
  decode (cM m_Model_keepLink) 72 = .ok (.getfield 80, 3) ∧
  decode (cM m_Model_keepLink) 75 = .ok (.iload_n 3, 1) ∧
  decode (cM m_Model_keepLink) 76 = .ok (.iconst 1, 1) ∧
  decode (cM m_Model_keepLink) 77 = .ok (.isub, 1) ∧
  decode (cM m_Model_keepLink) 78 = .ok (.iaload, 1) ∧
  decode (cM m_Model_keepLink) 79 = .ok (.iastore, 1) ∧
  decode (cM m_Model_keepLink) 80 = .ok (.iinc 3 (-1), 3) ∧
  decode (cM m_Model_keepLink) 83 = .ok (.goto (-78), 3) ∧
  am_okt 83 (-78) ∧
  am_tgt 83 (-78) = 5 ∧
  decode (cM m_Model_keepLink) 86 = .ok (.aload_n 0, 1) ∧
  decode (cM m_Model_keepLink) 87 = .ok (.getfield 71, 3) ∧
  decode (cM m_Model_keepLink) 90 = .ok (.iload_n 3, 1) ∧
  decode (cM m_Model_keepLink) 91 = .ok (.iload_n 1, 1) ∧
  decode (cM m_Model_keepLink) 92 = .ok (.iastore, 1) ∧
  decode (cM m_Model_keepLink) 93 = .ok (.aload_n 0, 1) ∧
  decode (cM m_Model_keepLink) 94 = .ok (.getfield 74, 3) ∧
  decode (cM m_Model_keepLink) 97 = .ok (.iload_n 3, 1) ∧
  decode (cM m_Model_keepLink) 98 = .ok (.iload_n 2, 1) ∧
  decode (cM m_Model_keepLink) 99 = .ok (.iastore, 1) ∧
  decode (cM m_Model_keepLink) 100 = .ok (.aload_n 0, 1) ∧
  decode (cM m_Model_keepLink) 101 = .ok (.getfield 77, 3) ∧
  decode (cM m_Model_keepLink) 104 = .ok (.iload_n 3, 1) ∧
  decode (cM m_Model_keepLink) 105 = .ok (.aload_n 0, 1) ∧
  decode (cM m_Model_keepLink) 106 = .ok (.getfield 348, 3) ∧
  fldT 12 348 = some (12, 36, 0) ∧
  decode (cM m_Model_keepLink) 109 = .ok (.iastore, 1) ∧
  decode (cM m_Model_keepLink) 110 = .ok (.aload_n 0, 1) ∧
  decode (cM m_Model_keepLink) 111 = .ok (.getfield 80, 3) ∧
  decode (cM m_Model_keepLink) 114 = .ok (.iload_n 3, 1) ∧
  decode (cM m_Model_keepLink) 115 = .ok (.aload_n 0, 1) ∧
  decode (cM m_Model_keepLink) 116 = .ok (.getfield 342, 3) ∧
  decode (cM m_Model_keepLink) 119 = .ok (.iastore, 1) ∧
  decode (cM m_Model_keepLink) 120 = .ok (.aload_n 0, 1) ∧
  decode (cM m_Model_keepLink) 121 = .ok (.dup, 1) ∧
  decode (cM m_Model_keepLink) 122 = .ok (.getfield 356, 3) ∧
  decode (cM m_Model_keepLink) 125 = .ok (.iconst 1, 1) ∧
  decode (cM m_Model_keepLink) 126 = .ok (.iadd, 1) ∧
  decode (cM m_Model_keepLink) 127 = .ok (.putfield 356, 3) ∧
  decode (cM m_Model_keepLink) 130 = .ok (.return_, 1) :=
  ⟨rfl, rfl, rfl, rfl, by decide +kernel, by decide +kernel, rfl, by decide +kernel, by decide +kernel, by decide +kernel, rfl, rfl, by decide +kernel, by decide +kernel, rfl, by decide +kernel, by decide +kernel, by decide +kernel, by decide +kernel, by decide +kernel, by decide +kernel, rfl, by decide +kernel, rfl, rfl, by decide +kernel, by decide +kernel, rfl, by decide +kernel, by decide +kernel, by decide +kernel, by decide +kernel, by decide +kernel, by decide +kernel, by decide +kernel, by decide +kernel, by decide +kernel, by decide +kernel, rfl, by decide +kernel, by decide +kernel, by decide +kernel, by decide +kernel, by decide +kernel, by decide +kernel, by decide +kernel, by decide +kernel, by decide +kernel, by decide +kernel, rfl, by decide +kernel, by decide +kernel, by decide +kernel, by decide +kernel, by decide +kernel, by decide +kernel, by decide +kernel, by decide +kernel, by decide +kernel, by decide +kernel, by decide +kernel, by decide +kernel, by decide +kernel, by decide +kernel, by decide +kernel, by decide +kernel, by decide +kernel, by decide +kernel, by decide +kernel, by decide +kernel, rfl, rfl, by decide +kernel, by decide +kernel, by decide +kernel, by decide +kernel, by decide +kernel, by decide +kernel, by decide +kernel, by decide +kernel, by decide +kernel, by decide +kernel, by decide +kernel, by decide +kernel, by decide +kernel, by decide +kernel, by decide +kernel, rfl, by decide +kernel, by decide +kernel, by decide +kernel, by decide +kernel, by decide +kernel, by decide +kernel, by decide +kernel, by decide +kernel, by decide +kernel, by decide +kernel, by decide +kernel, by decide +kernel, by decide +kernel, by decide +kernel⟩
set_option maxRecDepth 100000 in
set_option maxHeartbeats 4000000 in
theorem C_Model_joins : oM m_Model_joins = 12 ∧
  rkM m_Model_joins = 0 ∧
  dM m_Model_joins = 0 ∧
  lM m_Model_joins = 6 ∧
  decode (cM m_Model_joins) 0 = .ok (.aload_n 0, 1) ∧
  decode (cM m_Model_joins) 1 = .ok (.getfield 83, 3) ∧
  fldT 12 83 = some (12, 46, 2) ∧
  decode (cM m_Model_joins) 4 = .ok (.aload_n 0, 1) ∧
  decode (cM m_Model_joins) 5 = .ok (.getfield 71, 3) ∧
  fldT 12 71 = some (12, 42, 2) ∧
  decode (cM m_Model_joins) 8 = .ok (.iload_n 1, 1) ∧
  decode (cM m_Model_joins) 9 = .ok (.iaload, 1) ∧
  decode (cM m_Model_joins) 10 = .ok (.iaload, 1) ∧
  decode (cM m_Model_joins) 11 = .ok (.istore_n 2, 1) ∧
  decode (cM m_Model_joins) 12 = .ok (.aload_n 0, 1) ∧
  decode (cM m_Model_joins) 13 = .ok (.getfield 83, 3) ∧
  decode (cM m_Model_joins) 16 = .ok (.aload_n 0, 1) ∧
  decode (cM m_Model_joins) 17 = .ok (.getfield 74, 3) ∧
  fldT 12 74 = some (12, 43, 2) ∧
  decode (cM m_Model_joins) 20 = .ok (.iload_n 1, 1) ∧
  decode (cM m_Model_joins) 21 = .ok (.iaload, 1) ∧
  decode (cM m_Model_joins) 22 = .ok (.iaload, 1) ∧
  decode (cM m_Model_joins) 23 = .ok (.istore_n 3, 1) ∧
  decode (cM m_Model_joins) 24 = .ok (.aload_n 0, 1) ∧
  decode (cM m_Model_joins) 25 = .ok (.getfield 86, 3) ∧
  fldT 12 86 = some (12, 47, 2) ∧
  decode (cM m_Model_joins) 28 = .ok (.aload_n 0, 1) ∧
  decode (cM m_Model_joins) 29 = .ok (.getfield 71, 3) ∧
  decode (cM m_Model_joins) 32 = .ok (.iload_n 1, 1) ∧
  decode (cM m_Model_joins) 33 = .ok (.iaload, 1) ∧
  decode (cM m_Model_joins) 34 = .ok (.iaload, 1) ∧
  decode (cM m_Model_joins) 35 = .ok (.aload_n 0, 1) ∧
  decode (cM m_Model_joins) 36 = .ok (.getfield 77, 3) ∧
  fldT 12 77 = some (12, 44, 2) ∧
  decode (cM m_Model_joins) 39 = .ok (.iload_n 1, 1) ∧
  decode (cM m_Model_joins) 40 = .ok (.iaload, 1) ∧
  decode (cM m_Model_joins) 41 = .ok (.iadd, 1) ∧
  decode (cM m_Model_joins) 42 = .ok (.aload_n 0, 1) ∧
  decode (cM m_Model_joins) 43 = .ok (.getfield 86, 3) ∧
  decode (cM m_Model_joins) 46 = .ok (.aload_n 0, 1) ∧
  decode (cM m_Model_joins) 47 = .ok (.getfield 74, 3) ∧
  decode (cM m_Model_joins) 50 = .ok (.iload_n 1, 1) ∧
  decode (cM m_Model_joins) 51 = .ok (.iaload, 1) ∧
  decode (cM m_Model_joins) 52 = .ok (.iaload, 1) ∧
  decode (cM m_Model_joins) 53 = .ok (.isub, 1) ∧
  decode (cM m_Model_joins) 54 = .ok (.istore 4, 2) ∧
  decode (cM m_Model_joins) 56 = .ok (.iconst 0, 1) ∧
  decode (cM m_Model_joins) 57 = .ok (.istore 5, 2) ∧
  decode (cM m_Model_joins) 59 = .ok (.iload 5, 2) ∧
  decode (cM m_Model_joins) 61 = .ok (.aload_n 0, 1) ∧
  decode (cM m_Model_joins) 62 = .ok (.getfield 27, 3) ∧
  fldT 12 27 = some (12, 2, 2) ∧
  decode (cM m_Model_joins) 65 = .ok (.iconst 0, 1) ∧
  decode (cM m_Model_joins) 66 = .ok (.iaload, 1) ∧
  decode (cM m_Model_joins) 67 = .ok (.if_icmp .ge 43, 3) ∧
  am_okt 67 43 ∧
  am_tgt 67 43 = 110 ∧
  decode (cM m_Model_joins) 70 = .ok (.aload_n 0, 1) ∧
  decode (cM m_Model_joins) 71 = .ok (.getfield 83, 3) ∧
  decode (cM m_Model_joins) 74 = .ok (.iload 5, 2) ∧
  decode (cM m_Model_joins) 76 = .ok (.iaload, 1) ∧
  decode (cM m_Model_joins) 77 = .ok (.iload_n 3, 1) ∧
  decode (cM m_Model_joins) 78 = .ok (.if_icmp .eq 6, 3) ∧
  am_okt 78 6 ∧
  am_tgt 78 6 = 84 ∧
  decode (cM m_Model_joins) 81 = .ok (.goto 23, 3) ∧
  am_okt 81 23 ∧
  am_tgt 81 23 = 104 ∧
  decode (cM m_Model_joins) 84 = .ok (.aload_n 0, 1) ∧
  decode (cM m_Model_joins) 85 = .ok (.getfield 83, 3) ∧
  decode (cM m_Model_joins) 88 = .ok (.iload 5, 2) ∧
  decode (cM m_Model_joins) 90 = .ok (.iload_n 2, 1) ∧
  decode (cM m_Model_joins) 91 = .ok (.iastore, 1) ∧
  decode (cM m_Model_joins) 92 = .ok (.aload_n 0, 1) ∧
  decode (cM m_Model_joins) 93 = .ok (.getfield 86, 3) ∧
  decode (cM m_Model_joins) 96 = .ok (.iload 5, 2) ∧
  decode (cM m_Model_joins) 98 = .ok (.dup2, 1) ∧
  decode (cM m_Model_joins) 99 = .ok (.iaload, 1) ∧
  decode (cM m_Model_joins) 100 = .ok (.iload 4, 2) ∧
  decode (cM m_Model_joins) 102 = .ok (.iadd, 1) ∧
  decode (cM m_Model_joins) 103 = .ok (.iastore, 1) ∧
  decode (cM m_Model_joins) 104 = .ok (.iinc 5 1, 3) ∧
  decode (cM m_Model_joins) 107 = .ok (.goto (-48), 3) ∧
  am_okt 107 (-48) ∧
  am_tgt 107 (-48) = 59 ∧
  decode (cM m_Model_joins) 110 = .ok (.return_, 1) :=
  ⟨rfl, rfl, rfl, rfl, by decide +kernel, by decide +kernel, rfl, by decide +kernel, by decide +kernel, rfl, by decide +kernel, by decide +kernel, by decide +kernel, by decide +kernel, by decide +kernel, by decide +kernel, by decide +kernel, by decide +kernel, rfl, by decide +kernel, by decide +kernel, by decide +kernel, by decide +kernel, by decide +kernel, by decide +kernel, rfl, by decide +kernel, by decide +kernel, by decide +kernel, by decide +kernel, by decide +kernel, by decide +kernel, by decide +kernel, rfl, by decide +kernel, by decide +kernel, by decide +kernel, by decide +kernel, by decide +kernel, by decide +kernel, by decide +kernel, by decide +kernel, by decide +kernel, by decide +kernel, by decide +kernel, by decide +kernel, by decide +kernel, by decide +kernel, by decide +kernel, by decide +kernel, by decide +kernel, rfl, by decide +kernel, by decide +kernel, by decide +kernel, rfl, rfl, by decide +kernel, by decide +kernel, by decide +kernel, by decide +kernel, by decide +kernel, by decide +kernel, rfl, rfl, by decide +kernel, rfl, rfl, by decide +kernel, by decide +kernel, by decide +kernel, by decide +kernel, by decide +kernel, by decide +kernel, by decide +kernel, by decide +kernel, by decide +kernel, by decide +kernel, by decide +kernel, by decide +kernel, by decide +kernel, by decide +kernel, by decide +kernel, rfl, rfl, by decide +kernel⟩
set_option maxRecDepth 100000 in
set_option maxHeartbeats 4000000 in
theorem C_Model_pieces : oM m_Model_pieces = 12 ∧
  rkM m_Model_pieces = 1 ∧
  dM m_Model_pieces = 6 ∧
  lM m_Model_pieces = 3 ∧
  decode (cM m_Model_pieces) 0 = .ok (.aload_n 0, 1) ∧
  decode (cM m_Model_pieces) 1 = .ok (.invokevirtual 377, 3) ∧
  invT 12 377 = some (m_Model_tellLinks, 0) ∧
  nM m_Model_tellLinks = 1 ∧
  oM m_Model_tellLinks = 12 ∧
  rkM m_Model_tellLinks = 0 ∧
  dM m_Model_tellLinks = 5 ∧
  decode (cM m_Model_pieces) 4 = .ok (.iconst 0, 1) ∧
  decode (cM m_Model_pieces) 5 = .ok (.istore_n 1, 1) ∧
  decode (cM m_Model_pieces) 6 = .ok (.iconst 0, 1) ∧
  decode (cM m_Model_pieces) 7 = .ok (.istore_n 2, 1) ∧
  decode (cM m_Model_pieces) 8 = .ok (.iload_n 2, 1) ∧
  decode (cM m_Model_pieces) 9 = .ok (.aload_n 0, 1) ∧
  decode (cM m_Model_pieces) 10 = .ok (.getfield 27, 3) ∧
  fldT 12 27 = some (12, 2, 2) ∧
  decode (cM m_Model_pieces) 13 = .ok (.iconst 0, 1) ∧
  decode (cM m_Model_pieces) 14 = .ok (.iaload, 1) ∧
  decode (cM m_Model_pieces) 15 = .ok (.if_icmp .ge 27, 3) ∧
  am_okt 15 27 ∧
  am_tgt 15 27 = 42 ∧
  decode (cM m_Model_pieces) 18 = .ok (.iload_n 1, 1) ∧
  decode (cM m_Model_pieces) 19 = .ok (.aload_n 0, 1) ∧
  decode (cM m_Model_pieces) 20 = .ok (.getfield 93, 3) ∧
  fldT 12 93 = some (12, 50, 2) ∧
  decode (cM m_Model_pieces) 23 = .ok (.iload_n 2, 1) ∧
  decode (cM m_Model_pieces) 24 = .ok (.iaload, 1) ∧
  decode (cM m_Model_pieces) 25 = .ok (.iload_n 2, 1) ∧
  decode (cM m_Model_pieces) 26 = .ok (.if_icmp .ne 7, 3) ∧
  am_okt 26 7 ∧
  am_tgt 26 7 = 33 ∧
  decode (cM m_Model_pieces) 29 = .ok (.iconst 1, 1) ∧
  decode (cM m_Model_pieces) 30 = .ok (.goto 4, 3) ∧
  am_okt 30 4 ∧
  am_tgt 30 4 = 34 ∧
  decode (cM m_Model_pieces) 33 = .ok (.iconst 0, 1) ∧
  decode (cM m_Model_pieces) 34 = .ok (.iadd, 1) ∧
  decode (cM m_Model_pieces) 35 = .ok (.istore_n 1, 1) ∧
  decode (cM m_Model_pieces) 36 = .ok (.iinc 2 1, 3) ∧
  decode (cM m_Model_pieces) 39 = .ok (.goto (-31), 3) ∧
  am_okt 39 (-31) ∧
  am_tgt 39 (-31) = 8 ∧
  decode (cM m_Model_pieces) 42 = .ok (.iload_n 1, 1) ∧
  decode (cM m_Model_pieces) 43 = .ok (.ireturn, 1) :=
  ⟨rfl, rfl, rfl, rfl, by decide +kernel, by decide +kernel, rfl, rfl, rfl, rfl, rfl, by decide +kernel, by decide +kernel, by decide +kernel, by decide +kernel, by decide +kernel, by decide +kernel, by decide +kernel, rfl, by decide +kernel, by decide +kernel, by decide +kernel, rfl, rfl, by decide +kernel, by decide +kernel, by decide +kernel, rfl, by decide +kernel, by decide +kernel, by decide +kernel, by decide +kernel, rfl, rfl, by decide +kernel, by decide +kernel, rfl, rfl, by decide +kernel, by decide +kernel, by decide +kernel, by decide +kernel, by decide +kernel, rfl, rfl, by decide +kernel, by decide +kernel⟩
set_option maxRecDepth 100000 in
set_option maxHeartbeats 4000000 in
theorem C_Model_against : oM m_Model_against = 12 ∧
  rkM m_Model_against = 1 ∧
  dM m_Model_against = 6 ∧
  lM m_Model_against = 3 ∧
  decode (cM m_Model_against) 0 = .ok (.aload_n 0, 1) ∧
  decode (cM m_Model_against) 1 = .ok (.invokevirtual 377, 3) ∧
  invT 12 377 = some (m_Model_tellLinks, 0) ∧
  nM m_Model_tellLinks = 1 ∧
  oM m_Model_tellLinks = 12 ∧
  rkM m_Model_tellLinks = 0 ∧
  dM m_Model_tellLinks = 5 ∧
  decode (cM m_Model_against) 4 = .ok (.iconst 0, 1) ∧
  decode (cM m_Model_against) 5 = .ok (.istore_n 1, 1) ∧
  decode (cM m_Model_against) 6 = .ok (.iconst 0, 1) ∧
  decode (cM m_Model_against) 7 = .ok (.istore_n 2, 1) ∧
  decode (cM m_Model_against) 8 = .ok (.iload_n 2, 1) ∧
  decode (cM m_Model_against) 9 = .ok (.aload_n 0, 1) ∧
  decode (cM m_Model_against) 10 = .ok (.getfield 356, 3) ∧
  fldT 12 356 = some (12, 49, 0) ∧
  decode (cM m_Model_against) 13 = .ok (.if_icmp .ge 58, 3) ∧
  am_okt 13 58 ∧
  am_tgt 13 58 = 71 ∧
  decode (cM m_Model_against) 16 = .ok (.iload_n 1, 1) ∧
  decode (cM m_Model_against) 17 = .ok (.aload_n 0, 1) ∧
  decode (cM m_Model_against) 18 = .ok (.getfield 89, 3) ∧
  fldT 12 89 = some (12, 48, 2) ∧
  decode (cM m_Model_against) 21 = .ok (.iload_n 2, 1) ∧
  decode (cM m_Model_against) 22 = .ok (.baload, 1) ∧
  decode (cM m_Model_against) 23 = .ok (.ifCond .ne 39, 3) ∧
  am_okt 23 39 ∧
  am_tgt 23 39 = 62 ∧
  decode (cM m_Model_against) 26 = .ok (.aload_n 0, 1) ∧
  decode (cM m_Model_against) 27 = .ok (.getfield 86, 3) ∧
  fldT 12 86 = some (12, 47, 2) ∧
  decode (cM m_Model_against) 30 = .ok (.aload_n 0, 1) ∧
  decode (cM m_Model_against) 31 = .ok (.getfield 74, 3) ∧
  fldT 12 74 = some (12, 43, 2) ∧
  decode (cM m_Model_against) 34 = .ok (.iload_n 2, 1) ∧
  decode (cM m_Model_against) 35 = .ok (.iaload, 1) ∧
  decode (cM m_Model_against) 36 = .ok (.iaload, 1) ∧
  decode (cM m_Model_against) 37 = .ok (.aload_n 0, 1) ∧
  decode (cM m_Model_against) 38 = .ok (.getfield 86, 3) ∧
  decode (cM m_Model_against) 41 = .ok (.aload_n 0, 1) ∧
  decode (cM m_Model_against) 42 = .ok (.getfield 71, 3) ∧
  fldT 12 71 = some (12, 42, 2) ∧
  decode (cM m_Model_against) 45 = .ok (.iload_n 2, 1) ∧
  decode (cM m_Model_against) 46 = .ok (.iaload, 1) ∧
  decode (cM m_Model_against) 47 = .ok (.iaload, 1) ∧
  decode (cM m_Model_against) 48 = .ok (.isub, 1) ∧
  decode (cM m_Model_against) 49 = .ok (.aload_n 0, 1) ∧
  decode (cM m_Model_against) 50 = .ok (.getfield 77, 3) ∧
  fldT 12 77 = some (12, 44, 2) ∧
  decode (cM m_Model_against) 53 = .ok (.iload_n 2, 1) ∧
  decode (cM m_Model_against) 54 = .ok (.iaload, 1) ∧
  decode (cM m_Model_against) 55 = .ok (.if_icmp .eq 7, 3) ∧
  am_okt 55 7 ∧
  am_tgt 55 7 = 62 ∧
  decode (cM m_Model_against) 58 = .ok (.iconst 1, 1) ∧
  decode (cM m_Model_against) 59 = .ok (.goto 4, 3) ∧
  am_okt 59 4 ∧
  am_tgt 59 4 = 63 ∧
  decode (cM m_Model_against) 62 = .ok (.iconst 0, 1) ∧
  decode (cM m_Model_against) 63 = .ok (.iadd, 1) ∧
  decode (cM m_Model_against) 64 = .ok (.istore_n 1, 1) ∧
  decode (cM m_Model_against) 65 = .ok (.iinc 2 1, 3) ∧
  decode (cM m_Model_against) 68 = .ok (.goto (-60), 3) ∧
  am_okt 68 (-60) ∧
  am_tgt 68 (-60) = 8 ∧
  decode (cM m_Model_against) 71 = .ok (.iload_n 1, 1) ∧
  decode (cM m_Model_against) 72 = .ok (.ireturn, 1) :=
  ⟨rfl, rfl, rfl, rfl, by decide +kernel, by decide +kernel, rfl, rfl, rfl, rfl, rfl, by decide +kernel, by decide +kernel, by decide +kernel, by decide +kernel, by decide +kernel, by decide +kernel, by decide +kernel, rfl, by decide +kernel, rfl, rfl, by decide +kernel, by decide +kernel, by decide +kernel, rfl, by decide +kernel, by decide +kernel, by decide +kernel, rfl, rfl, by decide +kernel, by decide +kernel, rfl, by decide +kernel, by decide +kernel, rfl, by decide +kernel, by decide +kernel, by decide +kernel, by decide +kernel, by decide +kernel, by decide +kernel, by decide +kernel, rfl, by decide +kernel, by decide +kernel, by decide +kernel, by decide +kernel, by decide +kernel, by decide +kernel, rfl, by decide +kernel, by decide +kernel, by decide +kernel, rfl, rfl, by decide +kernel, by decide +kernel, rfl, rfl, by decide +kernel, by decide +kernel, by decide +kernel, by decide +kernel, by decide +kernel, rfl, rfl, by decide +kernel, by decide +kernel⟩
set_option maxRecDepth 100000 in
set_option maxHeartbeats 4000000 in
theorem C_Model_built : oM m_Model_built = 12 ∧
  rkM m_Model_built = 1 ∧
  dM m_Model_built = 3 ∧
  lM m_Model_built = 3 ∧
  decode (cM m_Model_built) 0 = .ok (.aload_n 0, 1) ∧
  decode (cM m_Model_built) 1 = .ok (.invokevirtual 392, 3) ∧
  invT 12 392 = some (m_Model_datedSet, 0) ∧
  nM m_Model_datedSet = 1 ∧
  oM m_Model_datedSet = 12 ∧
  rkM m_Model_datedSet = 1 ∧
  dM m_Model_datedSet = 2 ∧
  decode (cM m_Model_built) 4 = .ok (.istore_n 2, 1) ∧
  decode (cM m_Model_built) 5 = .ok (.aload_n 0, 1) ∧
  decode (cM m_Model_built) 6 = .ok (.iload_n 2, 1) ∧
  decode (cM m_Model_built) 7 = .ok (.invokevirtual 395, 3) ∧
  invT 12 395 = some (m_Model_edgeOf, 0) ∧
  nM m_Model_edgeOf = 2 ∧
  oM m_Model_edgeOf = 12 ∧
  rkM m_Model_edgeOf = 1 ∧
  dM m_Model_edgeOf = 2 ∧
  decode (cM m_Model_built) 10 = .ok (.aload_n 0, 1) ∧
  decode (cM m_Model_built) 11 = .ok (.iload_n 2, 1) ∧
  decode (cM m_Model_built) 12 = .ok (.invokevirtual 398, 3) ∧
  invT 12 398 = some (m_Model_lastOf, 0) ∧
  nM m_Model_lastOf = 2 ∧
  oM m_Model_lastOf = 12 ∧
  rkM m_Model_lastOf = 1 ∧
  dM m_Model_lastOf = 2 ∧
  decode (cM m_Model_built) 15 = .ok (.if_icmp .le 7, 3) ∧
  am_okt 15 7 ∧
  am_tgt 15 7 = 22 ∧
  decode (cM m_Model_built) 18 = .ok (.iconst (-1), 1) ∧
  decode (cM m_Model_built) 19 = .ok (.goto 20, 3) ∧
  am_okt 19 20 ∧
  am_tgt 19 20 = 39 ∧
  decode (cM m_Model_built) 22 = .ok (.iload_n 1, 1) ∧
  decode (cM m_Model_built) 23 = .ok (.ifCond .eq 11, 3) ∧
  am_okt 23 11 ∧
  am_tgt 23 11 = 34 ∧
  decode (cM m_Model_built) 26 = .ok (.aload_n 0, 1) ∧
  decode (cM m_Model_built) 27 = .ok (.iload_n 2, 1) ∧
  decode (cM m_Model_built) 28 = .ok (.invokevirtual 398, 3) ∧
  decode (cM m_Model_built) 31 = .ok (.goto 8, 3) ∧
  am_okt 31 8 ∧
  am_tgt 31 8 = 39 ∧
  decode (cM m_Model_built) 34 = .ok (.aload_n 0, 1) ∧
  decode (cM m_Model_built) 35 = .ok (.iload_n 2, 1) ∧
  decode (cM m_Model_built) 36 = .ok (.invokevirtual 395, 3) ∧
  decode (cM m_Model_built) 39 = .ok (.ireturn, 1) :=
  ⟨rfl, rfl, rfl, rfl, by decide +kernel, by decide +kernel, rfl, rfl, rfl, rfl, rfl, by decide +kernel, by decide +kernel, by decide +kernel, by decide +kernel, rfl, rfl, rfl, rfl, rfl, by decide +kernel, by decide +kernel, by decide +kernel, rfl, rfl, rfl, rfl, rfl, by decide +kernel, rfl, rfl, by decide +kernel, by decide +kernel, rfl, rfl, by decide +kernel, by decide +kernel, rfl, rfl, by decide +kernel, by decide +kernel, by decide +kernel, by decide +kernel, rfl, rfl, by decide +kernel, by decide +kernel, by decide +kernel, by decide +kernel⟩
set_option maxRecDepth 100000 in
set_option maxHeartbeats 4000000 in
theorem C_Model_edgeOf : oM m_Model_edgeOf = 12 ∧
  rkM m_Model_edgeOf = 1 ∧
  dM m_Model_edgeOf = 2 ∧
  lM m_Model_edgeOf = 4 ∧
  decode (cM m_Model_edgeOf) 0 = .ok (.iconst (-1), 1) ∧
  decode (cM m_Model_edgeOf) 1 = .ok (.istore_n 2, 1) ∧
  decode (cM m_Model_edgeOf) 2 = .ok (.iconst 0, 1) ∧
  decode (cM m_Model_edgeOf) 3 = .ok (.istore_n 3, 1) ∧
  decode (cM m_Model_edgeOf) 4 = .ok (.iload_n 3, 1) ∧
  decode (cM m_Model_edgeOf) 5 = .ok (.aload_n 0, 1) ∧
  decode (cM m_Model_edgeOf) 6 = .ok (.getfield 27, 3) ∧
  fldT 12 27 = some (12, 2, 2) ∧
  decode (cM m_Model_edgeOf) 9 = .ok (.iconst 0, 1) ∧
  decode (cM m_Model_edgeOf) 10 = .ok (.iaload, 1) ∧
  decode (cM m_Model_edgeOf) 11 = .ok (.if_icmp .ge 37, 3) ∧
  am_okt 11 37 ∧
  am_tgt 11 37 = 48 ∧
  decode (cM m_Model_edgeOf) 14 = .ok (.iload_n 1, 1) ∧
  decode (cM m_Model_edgeOf) 15 = .ok (.iload_n 3, 1) ∧
  decode (cM m_Model_edgeOf) 16 = .ok (.ishr, 1) ∧
  decode (cM m_Model_edgeOf) 17 = .ok (.iconst 1, 1) ∧
  decode (cM m_Model_edgeOf) 18 = .ok (.iand, 1) ∧
  decode (cM m_Model_edgeOf) 19 = .ok (.iconst 1, 1) ∧
  decode (cM m_Model_edgeOf) 20 = .ok (.if_icmp .ne 22, 3) ∧
  am_okt 20 22 ∧
  am_tgt 20 22 = 42 ∧
  decode (cM m_Model_edgeOf) 23 = .ok (.aload_n 0, 1) ∧
  decode (cM m_Model_edgeOf) 24 = .ok (.iload_n 3, 1) ∧
  decode (cM m_Model_edgeOf) 25 = .ok (.invokevirtual 297, 3) ∧
  invT 12 297 = some (m_Model_isDated, 0) ∧
  nM m_Model_isDated = 2 ∧
  oM m_Model_isDated = 12 ∧
  rkM m_Model_isDated = 2 ∧
  dM m_Model_isDated = 1 ∧
  decode (cM m_Model_edgeOf) 28 = .ok (.ifCond .eq 14, 3) ∧
  am_okt 28 14 ∧
  am_tgt 28 14 = 42 ∧
  decode (cM m_Model_edgeOf) 31 = .ok (.iload_n 2, 1) ∧
  decode (cM m_Model_edgeOf) 32 = .ok (.aload_n 0, 1) ∧
  decode (cM m_Model_edgeOf) 33 = .ok (.iload_n 3, 1) ∧
  decode (cM m_Model_edgeOf) 34 = .ok (.iconst 1, 1) ∧
  decode (cM m_Model_edgeOf) 35 = .ok (.invokevirtual 389, 3) ∧
  invT 12 389 = some (m_Model_felled, 0) ∧
  nM m_Model_felled = 3 ∧
  oM m_Model_felled = 12 ∧
  rkM m_Model_felled = 1 ∧
  dM m_Model_felled = 1 ∧
  decode (cM m_Model_edgeOf) 38 = .ok (.invokestatic 306, 3) ∧
  invT 12 306 = some (0, 3) ∧
  decode (cM m_Model_edgeOf) 41 = .ok (.istore_n 2, 1) ∧
  decode (cM m_Model_edgeOf) 42 = .ok (.iinc 3 1, 3) ∧
  decode (cM m_Model_edgeOf) 45 = .ok (.goto (-41), 3) ∧
  am_okt 45 (-41) ∧
  am_tgt 45 (-41) = 4 ∧
  decode (cM m_Model_edgeOf) 48 = .ok (.iload_n 2, 1) ∧
  decode (cM m_Model_edgeOf) 49 = .ok (.ireturn, 1) :=
  ⟨rfl, rfl, rfl, rfl, by decide +kernel, by decide +kernel, by decide +kernel, by decide +kernel, by decide +kernel, by decide +kernel, by decide +kernel, rfl, by decide +kernel, by decide +kernel, by decide +kernel, rfl, rfl, by decide +kernel, by decide +kernel, by decide +kernel, by decide +kernel, by decide +kernel, by decide +kernel, by decide +kernel, rfl, rfl, by decide +kernel, by decide +kernel, by decide +kernel, rfl, rfl, rfl, rfl, rfl, by decide +kernel, rfl, rfl, by decide +kernel, by decide +kernel, by decide +kernel, by decide +kernel, by decide +kernel, rfl, rfl, rfl, rfl, rfl, by decide +kernel, rfl, by decide +kernel, by decide +kernel, by decide +kernel, rfl, rfl, by decide +kernel, by decide +kernel⟩
set_option maxRecDepth 100000 in
set_option maxHeartbeats 4000000 in
theorem C_Model_felled : oM m_Model_felled = 12 ∧
  rkM m_Model_felled = 1 ∧
  dM m_Model_felled = 1 ∧
  lM m_Model_felled = 3 ∧
  decode (cM m_Model_felled) 0 = .ok (.aload_n 0, 1) ∧
  decode (cM m_Model_felled) 1 = .ok (.iload_n 1, 1) ∧
  decode (cM m_Model_felled) 2 = .ok (.iconst 4, 1) ∧
  decode (cM m_Model_felled) 3 = .ok (.invokevirtual 257, 3) ∧
  invT 12 257 = some (m_Model_of, 0) ∧
  nM m_Model_of = 3 ∧
  oM m_Model_of = 12 ∧
  rkM m_Model_of = 1 ∧
  dM m_Model_of = 0 ∧
  decode (cM m_Model_felled) 6 = .ok (.aload_n 0, 1) ∧
  decode (cM m_Model_felled) 7 = .ok (.iload_n 1, 1) ∧
  decode (cM m_Model_felled) 8 = .ok (.iconst 0, 1) ∧
  decode (cM m_Model_felled) 9 = .ok (.invokevirtual 257, 3) ∧
  decode (cM m_Model_felled) 12 = .ok (.iadd, 1) ∧
  decode (cM m_Model_felled) 13 = .ok (.iconst 1, 1) ∧
  decode (cM m_Model_felled) 14 = .ok (.isub, 1) ∧
  decode (cM m_Model_felled) 15 = .ok (.aload_n 0, 1) ∧
  decode (cM m_Model_felled) 16 = .ok (.iload_n 1, 1) ∧
  decode (cM m_Model_felled) 17 = .ok (.iload_n 2, 1) ∧
  decode (cM m_Model_felled) 18 = .ok (.invokevirtual 257, 3) ∧
  decode (cM m_Model_felled) 21 = .ok (.iadd, 1) ∧
  decode (cM m_Model_felled) 22 = .ok (.ireturn, 1) :=
  ⟨rfl, rfl, rfl, rfl, by decide +kernel, by decide +kernel, by decide +kernel, by decide +kernel, rfl, rfl, rfl, rfl, rfl, by decide +kernel, by decide +kernel, by decide +kernel, by decide +kernel, by decide +kernel, by decide +kernel, by decide +kernel, by decide +kernel, by decide +kernel, by decide +kernel, by decide +kernel, by decide +kernel, by decide +kernel⟩
set_option maxRecDepth 100000 in
set_option maxHeartbeats 4000000 in
theorem C_Model_lastOf : oM m_Model_lastOf = 12 ∧
  rkM m_Model_lastOf = 1 ∧
  dM m_Model_lastOf = 2 ∧
  lM m_Model_lastOf = 4 ∧
  decode (cM m_Model_lastOf) 0 = .ok (.iconst (-1), 1) ∧
  decode (cM m_Model_lastOf) 1 = .ok (.istore_n 2, 1) ∧
  decode (cM m_Model_lastOf) 2 = .ok (.iconst 0, 1) ∧
  decode (cM m_Model_lastOf) 3 = .ok (.istore_n 3, 1) ∧
  decode (cM m_Model_lastOf) 4 = .ok (.iload_n 3, 1) ∧
  decode (cM m_Model_lastOf) 5 = .ok (.aload_n 0, 1) ∧
  decode (cM m_Model_lastOf) 6 = .ok (.getfield 27, 3) ∧
  fldT 12 27 = some (12, 2, 2) ∧
  decode (cM m_Model_lastOf) 9 = .ok (.iconst 0, 1) ∧
  decode (cM m_Model_lastOf) 10 = .ok (.iaload, 1) ∧
  decode (cM m_Model_lastOf) 11 = .ok (.if_icmp .ge 53, 3) ∧
  am_okt 11 53 ∧
  am_tgt 11 53 = 64 ∧
  decode (cM m_Model_lastOf) 14 = .ok (.iload_n 1, 1) ∧
  decode (cM m_Model_lastOf) 15 = .ok (.iload_n 3, 1) ∧
  decode (cM m_Model_lastOf) 16 = .ok (.ishr, 1) ∧
  decode (cM m_Model_lastOf) 17 = .ok (.iconst 1, 1) ∧
  decode (cM m_Model_lastOf) 18 = .ok (.iand, 1) ∧
  decode (cM m_Model_lastOf) 19 = .ok (.ifCond .eq 39, 3) ∧
  am_okt 19 39 ∧
  am_tgt 19 39 = 58 ∧
  decode (cM m_Model_lastOf) 22 = .ok (.aload_n 0, 1) ∧
  decode (cM m_Model_lastOf) 23 = .ok (.iload_n 3, 1) ∧
  decode (cM m_Model_lastOf) 24 = .ok (.invokevirtual 297, 3) ∧
  invT 12 297 = some (m_Model_isDated, 0) ∧
  nM m_Model_isDated = 2 ∧
  oM m_Model_isDated = 12 ∧
  rkM m_Model_isDated = 2 ∧
  dM m_Model_isDated = 1 ∧
  decode (cM m_Model_lastOf) 27 = .ok (.ifCond .ne 6, 3) ∧
  am_okt 27 6 ∧
  am_tgt 27 6 = 33 ∧
  decode (cM m_Model_lastOf) 30 = .ok (.goto 28, 3) ∧
  am_okt 30 28 ∧
  am_tgt 30 28 = 58 ∧
  decode (cM m_Model_lastOf) 33 = .ok (.iload_n 2, 1) ∧
  decode (cM m_Model_lastOf) 34 = .ok (.iconst (-1), 1) ∧
  decode (cM m_Model_lastOf) 35 = .ok (.if_icmp .ne 12, 3) ∧
  am_okt 35 12 ∧
  am_tgt 35 12 = 47 ∧
  decode (cM m_Model_lastOf) 38 = .ok (.aload_n 0, 1) ∧
  decode (cM m_Model_lastOf) 39 = .ok (.iload_n 3, 1) ∧
  decode (cM m_Model_lastOf) 40 = .ok (.iconst 2, 1) ∧
  decode (cM m_Model_lastOf) 41 = .ok (.invokevirtual 389, 3) ∧
  invT 12 389 = some (m_Model_felled, 0) ∧
  nM m_Model_felled = 3 ∧
  oM m_Model_felled = 12 ∧
  rkM m_Model_felled = 1 ∧
  dM m_Model_felled = 1 ∧
  decode (cM m_Model_lastOf) 44 = .ok (.goto 13, 3) ∧
  am_okt 44 13 ∧
  am_tgt 44 13 = 57 ∧
  decode (cM m_Model_lastOf) 47 = .ok (.iload_n 2, 1) ∧
  decode (cM m_Model_lastOf) 48 = .ok (.aload_n 0, 1) ∧
  decode (cM m_Model_lastOf) 49 = .ok (.iload_n 3, 1) ∧
  decode (cM m_Model_lastOf) 50 = .ok (.iconst 2, 1) ∧
  decode (cM m_Model_lastOf) 51 = .ok (.invokevirtual 389, 3) ∧
  decode (cM m_Model_lastOf) 54 = .ok (.invokestatic 175, 3) ∧
  invT 12 175 = some (0, 4) ∧
  decode (cM m_Model_lastOf) 57 = .ok (.istore_n 2, 1) ∧
  decode (cM m_Model_lastOf) 58 = .ok (.iinc 3 1, 3) ∧
  decode (cM m_Model_lastOf) 61 = .ok (.goto (-57), 3) ∧
  am_okt 61 (-57) ∧
  am_tgt 61 (-57) = 4 ∧
  decode (cM m_Model_lastOf) 64 = .ok (.iload_n 2, 1) ∧
  decode (cM m_Model_lastOf) 65 = .ok (.ireturn, 1) :=
  ⟨rfl, rfl, rfl, rfl, by decide +kernel, by decide +kernel, by decide +kernel, by decide +kernel, by decide +kernel, by decide +kernel, by decide +kernel, rfl, by decide +kernel, by decide +kernel, by decide +kernel, rfl, rfl, by decide +kernel, by decide +kernel, by decide +kernel, by decide +kernel, by decide +kernel, by decide +kernel, rfl, rfl, by decide +kernel, by decide +kernel, by decide +kernel, rfl, rfl, rfl, rfl, rfl, by decide +kernel, rfl, rfl, by decide +kernel, rfl, rfl, by decide +kernel, by decide +kernel, by decide +kernel, rfl, rfl, by decide +kernel, by decide +kernel, by decide +kernel, by decide +kernel, rfl, rfl, rfl, rfl, rfl, by decide +kernel, rfl, rfl, by decide +kernel, by decide +kernel, by decide +kernel, by decide +kernel, by decide +kernel, by decide +kernel, rfl, by decide +kernel, by decide +kernel, by decide +kernel, rfl, rfl, by decide +kernel, by decide +kernel⟩
set_option maxRecDepth 100000 in
set_option maxHeartbeats 4000000 in
theorem C_Model_pointers : oM m_Model_pointers = 12 ∧
  rkM m_Model_pointers = 1 ∧
  dM m_Model_pointers = 5 ∧
  lM m_Model_pointers = 3 ∧
  decode (cM m_Model_pointers) 0 = .ok (.iconst 0, 1) ∧
  decode (cM m_Model_pointers) 1 = .ok (.istore_n 1, 1) ∧
  decode (cM m_Model_pointers) 2 = .ok (.iconst 0, 1) ∧
  decode (cM m_Model_pointers) 3 = .ok (.istore_n 2, 1) ∧
  decode (cM m_Model_pointers) 4 = .ok (.iload_n 2, 1) ∧
  decode (cM m_Model_pointers) 5 = .ok (.sipush 1000, 3) ∧
  decode (cM m_Model_pointers) 8 = .ok (.if_icmp .ge 25, 3) ∧
  am_okt 8 25 ∧
  am_tgt 8 25 = 33 ∧
  decode (cM m_Model_pointers) 11 = .ok (.iload_n 1, 1) ∧
  decode (cM m_Model_pointers) 12 = .ok (.aload_n 0, 1) ∧
  decode (cM m_Model_pointers) 13 = .ok (.iload_n 2, 1) ∧
  decode (cM m_Model_pointers) 14 = .ok (.invokevirtual 407, 3) ∧
  invT 12 407 = some (m_Model_pointerIn, 0) ∧
  nM m_Model_pointerIn = 2 ∧
  oM m_Model_pointerIn = 12 ∧
  rkM m_Model_pointerIn = 1 ∧
  dM m_Model_pointerIn = 4 ∧
  decode (cM m_Model_pointers) 17 = .ok (.ifCond .eq 7, 3) ∧
  am_okt 17 7 ∧
  am_tgt 17 7 = 24 ∧
  decode (cM m_Model_pointers) 20 = .ok (.iconst 1, 1) ∧
  decode (cM m_Model_pointers) 21 = .ok (.goto 4, 3) ∧
  am_okt 21 4 ∧
  am_tgt 21 4 = 25 ∧
  decode (cM m_Model_pointers) 24 = .ok (.iconst 0, 1) ∧
  decode (cM m_Model_pointers) 25 = .ok (.iadd, 1) ∧
  decode (cM m_Model_pointers) 26 = .ok (.istore_n 1, 1) ∧
  decode (cM m_Model_pointers) 27 = .ok (.iinc 2 1, 3) ∧
  decode (cM m_Model_pointers) 30 = .ok (.goto (-26), 3) ∧
  am_okt 30 (-26) ∧
  am_tgt 30 (-26) = 4 ∧
  decode (cM m_Model_pointers) 33 = .ok (.iload_n 1, 1) ∧
  decode (cM m_Model_pointers) 34 = .ok (.ireturn, 1) :=
  ⟨rfl, rfl, rfl, rfl, by decide +kernel, by decide +kernel, by decide +kernel, by decide +kernel, by decide +kernel, by decide +kernel, by decide +kernel, rfl, rfl, by decide +kernel, by decide +kernel, by decide +kernel, by decide +kernel, rfl, rfl, rfl, rfl, rfl, by decide +kernel, rfl, rfl, by decide +kernel, by decide +kernel, rfl, rfl, by decide +kernel, by decide +kernel, by decide +kernel, by decide +kernel, by decide +kernel, rfl, rfl, by decide +kernel, by decide +kernel⟩
set_option maxRecDepth 100000 in
set_option maxHeartbeats 4000000 in
theorem C_Model_pointerIn : oM m_Model_pointerIn = 12 ∧
  rkM m_Model_pointerIn = 1 ∧
  dM m_Model_pointerIn = 4 ∧
  lM m_Model_pointerIn = 7 ∧
  decode (cM m_Model_pointerIn) 0 = .ok (.iconst 0, 1) ∧
  decode (cM m_Model_pointerIn) 1 = .ok (.istore_n 2, 1) ∧
  decode (cM m_Model_pointerIn) 2 = .ok (.iconst 0, 1) ∧
  decode (cM m_Model_pointerIn) 3 = .ok (.istore_n 3, 1) ∧
  decode (cM m_Model_pointerIn) 4 = .ok (.iconst 0, 1) ∧
  decode (cM m_Model_pointerIn) 5 = .ok (.istore 4, 2) ∧
  decode (cM m_Model_pointerIn) 7 = .ok (.iconst 0, 1) ∧
  decode (cM m_Model_pointerIn) 8 = .ok (.istore 5, 2) ∧
  decode (cM m_Model_pointerIn) 10 = .ok (.iload 5, 2) ∧
  decode (cM m_Model_pointerIn) 12 = .ok (.aload_n 0, 1) ∧
  decode (cM m_Model_pointerIn) 13 = .ok (.getfield 27, 3) ∧
  fldT 12 27 = some (12, 2, 2) ∧
  decode (cM m_Model_pointerIn) 16 = .ok (.iconst 0, 1) ∧
  decode (cM m_Model_pointerIn) 17 = .ok (.iaload, 1) ∧
  decode (cM m_Model_pointerIn) 18 = .ok (.if_icmp .ge 62, 3) ∧
  am_okt 18 62 ∧
  am_tgt 18 62 = 80 ∧
  decode (cM m_Model_pointerIn) 21 = .ok (.aload_n 0, 1) ∧
  decode (cM m_Model_pointerIn) 22 = .ok (.iload 5, 2) ∧
  decode (cM m_Model_pointerIn) 24 = .ok (.iload_n 1, 1) ∧
  decode (cM m_Model_pointerIn) 25 = .ok (.invokevirtual 404, 3) ∧
  invT 12 404 = some (m_Model_stepIn, 0) ∧
  nM m_Model_stepIn = 3 ∧
  oM m_Model_stepIn = 12 ∧
  rkM m_Model_stepIn = 1 ∧
  dM m_Model_stepIn = 3 ∧
  decode (cM m_Model_pointerIn) 28 = .ok (.istore 6, 2) ∧
  decode (cM m_Model_pointerIn) 30 = .ok (.iload_n 2, 1) ∧
  decode (cM m_Model_pointerIn) 31 = .ok (.iload 6, 2) ∧
  decode (cM m_Model_pointerIn) 33 = .ok (.iconst 1, 1) ∧
  decode (cM m_Model_pointerIn) 34 = .ok (.if_icmp .ne 7, 3) ∧
  am_okt 34 7 ∧
  am_tgt 34 7 = 41 ∧
  decode (cM m_Model_pointerIn) 37 = .ok (.iconst 1, 1) ∧
  decode (cM m_Model_pointerIn) 38 = .ok (.goto 4, 3) ∧
  am_okt 38 4 ∧
  am_tgt 38 4 = 42 ∧
  decode (cM m_Model_pointerIn) 41 = .ok (.iconst 0, 1) ∧
  decode (cM m_Model_pointerIn) 42 = .ok (.iadd, 1) ∧
  decode (cM m_Model_pointerIn) 43 = .ok (.istore_n 2, 1) ∧
  decode (cM m_Model_pointerIn) 44 = .ok (.iload_n 3, 1) ∧
  decode (cM m_Model_pointerIn) 45 = .ok (.iload 6, 2) ∧
  decode (cM m_Model_pointerIn) 47 = .ok (.iconst (-1), 1) ∧
  decode (cM m_Model_pointerIn) 48 = .ok (.if_icmp .ne 7, 3) ∧
  am_okt 48 7 ∧
  am_tgt 48 7 = 55 ∧
  decode (cM m_Model_pointerIn) 51 = .ok (.iconst 1, 1) ∧
  decode (cM m_Model_pointerIn) 52 = .ok (.goto 4, 3) ∧
  am_okt 52 4 ∧
  am_tgt 52 4 = 56 ∧
  decode (cM m_Model_pointerIn) 55 = .ok (.iconst 0, 1) ∧
  decode (cM m_Model_pointerIn) 56 = .ok (.iadd, 1) ∧
  decode (cM m_Model_pointerIn) 57 = .ok (.istore_n 3, 1) ∧
  decode (cM m_Model_pointerIn) 58 = .ok (.iload 4, 2) ∧
  decode (cM m_Model_pointerIn) 60 = .ok (.iload 6, 2) ∧
  decode (cM m_Model_pointerIn) 62 = .ok (.iconst 2, 1) ∧
  decode (cM m_Model_pointerIn) 63 = .ok (.if_icmp .ne 7, 3) ∧
  am_okt 63 7 ∧
  am_tgt 63 7 = 70 ∧
  decode (cM m_Model_pointerIn) 66 = .ok (.iconst 0, 1) ∧
  decode (cM m_Model_pointerIn) 67 = .ok (.goto 4, 3) ∧
  am_okt 67 4 ∧
  am_tgt 67 4 = 71 ∧
  decode (cM m_Model_pointerIn) 70 = .ok (.iconst 1, 1) ∧
  decode (cM m_Model_pointerIn) 71 = .ok (.iadd, 1) ∧
  decode (cM m_Model_pointerIn) 72 = .ok (.istore 4, 2) ∧
  decode (cM m_Model_pointerIn) 74 = .ok (.iinc 5 1, 3) ∧
  decode (cM m_Model_pointerIn) 77 = .ok (.goto (-67), 3) ∧
  am_okt 77 (-67) ∧
  am_tgt 77 (-67) = 10 ∧
  decode (cM m_Model_pointerIn) 80 = .ok (.iload 4, 2) ∧
  decode (cM m_Model_pointerIn) 82 = .ok (.iconst 3, 1) ∧
  decode (cM m_Model_pointerIn) 83 = .ok (.if_icmp .ge 7, 3) ∧
  am_okt 83 7 ∧
  am_tgt 83 7 = 90 ∧
  decode (cM m_Model_pointerIn) 86 = .ok (.iconst 0, 1) ∧
  decode (cM m_Model_pointerIn) 87 = .ok (.goto 32, 3) ∧
  am_okt 87 32 ∧
  am_tgt 87 32 = 119 ∧
  decode (cM m_Model_pointerIn) 90 = .ok (.iconst 4, 1) ∧
  decode (cM m_Model_pointerIn) 91 = .ok (.iload_n 2, 1) ∧
  decode (cM m_Model_pointerIn) 92 = .ok (.imul, 1) ∧
  decode (cM m_Model_pointerIn) 93 = .ok (.iconst 3, 1) ∧
  decode (cM m_Model_pointerIn) 94 = .ok (.iload 4, 2) ∧
  decode (cM m_Model_pointerIn) 96 = .ok (.imul, 1) ∧
  decode (cM m_Model_pointerIn) 97 = .ok (.if_icmp .lt 7, 3) ∧
  am_okt 97 7 ∧
  am_tgt 97 7 = 104 ∧
  decode (cM m_Model_pointerIn) 100 = .ok (.iconst 1, 1) ∧
  decode (cM m_Model_pointerIn) 101 = .ok (.goto 18, 3) ∧
  am_okt 101 18 ∧
  am_tgt 101 18 = 119 ∧
  decode (cM m_Model_pointerIn) 104 = .ok (.iconst 4, 1) ∧
  decode (cM m_Model_pointerIn) 105 = .ok (.iload_n 3, 1) ∧
  decode (cM m_Model_pointerIn) 106 = .ok (.imul, 1) ∧
  decode (cM m_Model_pointerIn) 107 = .ok (.iconst 3, 1) ∧
  decode (cM m_Model_pointerIn) 108 = .ok (.iload 4, 2) ∧
  decode (cM m_Model_pointerIn) 110 = .ok (.imul, 1) ∧
  decode (cM m_Model_pointerIn) 111 = .ok (.if_icmp .lt 7, 3) ∧
  am_okt 111 7 ∧
  am_tgt 111 7 = 118 ∧
  decode (cM m_Model_pointerIn) 114 = .ok (.iconst (-1), 1) ∧
  decode (cM m_Model_pointerIn) 115 = .ok (.goto 4, 3) ∧
  am_okt 115 4 ∧
  am_tgt 115 4 = 119 ∧
  decode (cM m_Model_pointerIn) 118 = .ok (.iconst 0, 1) ∧
  decode (cM m_Model_pointerIn) 119 = .ok (.ireturn, 1) :=
  ⟨rfl, rfl, rfl, rfl, by decide +kernel, by decide +kernel, by decide +kernel, by decide +kernel, by decide +kernel, by decide +kernel, by decide +kernel, by decide +kernel, by decide +kernel, by decide +kernel, by decide +kernel, rfl, by decide +kernel, by decide +kernel, by decide +kernel, rfl, rfl, by decide +kernel, by decide +kernel, by decide +kernel, by decide +kernel, rfl, rfl, rfl, rfl, rfl, by decide +kernel, by decide +kernel, by decide +kernel, by decide +kernel, by decide +kernel, rfl, rfl, by decide +kernel, by decide +kernel, rfl, rfl, by decide +kernel, by decide +kernel, by decide +kernel, by decide +kernel, by decide +kernel, by decide +kernel, by decide +kernel, rfl, rfl, by decide +kernel, by decide +kernel, rfl, rfl, by decide +kernel, by decide +kernel, by decide +kernel, by decide +kernel, by decide +kernel, by decide +kernel, by decide +kernel, rfl, rfl, by decide +kernel, by decide +kernel, rfl, rfl, by decide +kernel, by decide +kernel, by decide +kernel, by decide +kernel, by decide +kernel, rfl, rfl, by decide +kernel, by decide +kernel, by decide +kernel, rfl, rfl, by decide +kernel, by decide +kernel, rfl, rfl, by decide +kernel, by decide +kernel, by decide +kernel, by decide +kernel, by decide +kernel, by decide +kernel, by decide +kernel, rfl, rfl, by decide +kernel, by decide +kernel, rfl, rfl, by decide +kernel, by decide +kernel, by decide +kernel, by decide +kernel, by decide +kernel, by decide +kernel, by decide +kernel, rfl, rfl, by decide +kernel, by decide +kernel, rfl, rfl, by decide +kernel, by decide +kernel⟩
set_option maxRecDepth 100000 in
set_option maxHeartbeats 4000000 in
theorem C_Model_stepIn : oM m_Model_stepIn = 12 ∧
  rkM m_Model_stepIn = 1 ∧
  dM m_Model_stepIn = 3 ∧
  lM m_Model_stepIn = 4 ∧
  decode (cM m_Model_stepIn) 0 = .ok (.aload_n 0, 1) ∧
  decode (cM m_Model_stepIn) 1 = .ok (.iload_n 1, 1) ∧
  decode (cM m_Model_stepIn) 2 = .ok (.iload_n 2, 1) ∧
  decode (cM m_Model_stepIn) 3 = .ok (.invokevirtual 300, 3) ∧
  invT 12 300 = some (m_Model_ringIn, 0) ∧
  nM m_Model_ringIn = 3 ∧
  oM m_Model_ringIn = 12 ∧
  rkM m_Model_ringIn = 1 ∧
  dM m_Model_ringIn = 2 ∧
  decode (cM m_Model_stepIn) 6 = .ok (.istore_n 3, 1) ∧
  decode (cM m_Model_stepIn) 7 = .ok (.iload_n 3, 1) ∧
  decode (cM m_Model_stepIn) 8 = .ok (.iconst 1, 1) ∧
  decode (cM m_Model_stepIn) 9 = .ok (.if_icmp .ge 7, 3) ∧
  am_okt 9 7 ∧
  am_tgt 9 7 = 16 ∧
  decode (cM m_Model_stepIn) 12 = .ok (.iconst 2, 1) ∧
  decode (cM m_Model_stepIn) 13 = .ok (.goto 26, 3) ∧
  am_okt 13 26 ∧
  am_tgt 13 26 = 39 ∧
  decode (cM m_Model_stepIn) 16 = .ok (.aload_n 0, 1) ∧
  decode (cM m_Model_stepIn) 17 = .ok (.iload_n 1, 1) ∧
  decode (cM m_Model_stepIn) 18 = .ok (.bipush 6, 2) ∧
  decode (cM m_Model_stepIn) 20 = .ok (.iload_n 3, 1) ∧
  decode (cM m_Model_stepIn) 21 = .ok (.iadd, 1) ∧
  decode (cM m_Model_stepIn) 22 = .ok (.invokevirtual 257, 3) ∧
  invT 12 257 = some (m_Model_of, 0) ∧
  nM m_Model_of = 3 ∧
  oM m_Model_of = 12 ∧
  rkM m_Model_of = 1 ∧
  dM m_Model_of = 0 ∧
  decode (cM m_Model_stepIn) 25 = .ok (.aload_n 0, 1) ∧
  decode (cM m_Model_stepIn) 26 = .ok (.iload_n 1, 1) ∧
  decode (cM m_Model_stepIn) 27 = .ok (.bipush 6, 2) ∧
  decode (cM m_Model_stepIn) 29 = .ok (.iload_n 3, 1) ∧
  decode (cM m_Model_stepIn) 30 = .ok (.iadd, 1) ∧
  decode (cM m_Model_stepIn) 31 = .ok (.iconst 1, 1) ∧
  decode (cM m_Model_stepIn) 32 = .ok (.isub, 1) ∧
  decode (cM m_Model_stepIn) 33 = .ok (.invokevirtual 257, 3) ∧
  decode (cM m_Model_stepIn) 36 = .ok (.invokestatic 264, 3) ∧
  invT 12 264 = some (m_Integer_compare, 1) ∧
  nM m_Integer_compare = 2 ∧
  oM m_Integer_compare = 13 ∧
  rkM m_Integer_compare = 1 ∧
  dM m_Integer_compare = 0 ∧
  decode (cM m_Model_stepIn) 39 = .ok (.ireturn, 1) :=
  ⟨rfl, rfl, rfl, rfl, by decide +kernel, by decide +kernel, by decide +kernel, by decide +kernel, rfl, rfl, rfl, rfl, rfl, by decide +kernel, by decide +kernel, by decide +kernel, by decide +kernel, rfl, rfl, by decide +kernel, by decide +kernel, rfl, rfl, by decide +kernel, by decide +kernel, by decide +kernel, by decide +kernel, by decide +kernel, by decide +kernel, rfl, rfl, rfl, rfl, rfl, by decide +kernel, by decide +kernel, by decide +kernel, by decide +kernel, by decide +kernel, by decide +kernel, by decide +kernel, by decide +kernel, by decide +kernel, rfl, rfl, rfl, rfl, rfl, by decide +kernel⟩
set_option maxRecDepth 100000 in
set_option maxHeartbeats 4000000 in
theorem C_Model_odd : oM m_Model_odd = 12 ∧
  rkM m_Model_odd = 1 ∧
  dM m_Model_odd = 6 ∧
  lM m_Model_odd = 5 ∧
  decode (cM m_Model_odd) 0 = .ok (.iconst (-1), 1) ∧
  decode (cM m_Model_odd) 1 = .ok (.istore_n 1, 1) ∧
  decode (cM m_Model_odd) 2 = .ok (.iconst 0, 1) ∧
  decode (cM m_Model_odd) 3 = .ok (.istore_n 2, 1) ∧
  decode (cM m_Model_odd) 4 = .ok (.iconst 0, 1) ∧
  decode (cM m_Model_odd) 5 = .ok (.istore_n 3, 1) ∧
  decode (cM m_Model_odd) 6 = .ok (.iload_n 3, 1) ∧
  decode (cM m_Model_odd) 7 = .ok (.aload_n 0, 1) ∧
  decode (cM m_Model_odd) 8 = .ok (.getfield 27, 3) ∧
  fldT 12 27 = some (12, 2, 2) ∧
  decode (cM m_Model_odd) 11 = .ok (.iconst 0, 1) ∧
  decode (cM m_Model_odd) 12 = .ok (.iaload, 1) ∧
  decode (cM m_Model_odd) 13 = .ok (.if_icmp .ge 46, 3) ∧
  am_okt 13 46 ∧
  am_tgt 13 46 = 59 ∧
  decode (cM m_Model_odd) 16 = .ok (.aload_n 0, 1) ∧
  decode (cM m_Model_odd) 17 = .ok (.iload_n 3, 1) ∧
  decode (cM m_Model_odd) 18 = .ok (.invokevirtual 297, 3) ∧
  invT 12 297 = some (m_Model_isDated, 0) ∧
  nM m_Model_isDated = 2 ∧
  oM m_Model_isDated = 12 ∧
  rkM m_Model_isDated = 2 ∧
  dM m_Model_isDated = 1 ∧
  decode (cM m_Model_odd) 21 = .ok (.ifCond .ne 6, 3) ∧
  am_okt 21 6 ∧
  am_tgt 21 6 = 27 ∧
  decode (cM m_Model_odd) 24 = .ok (.goto 29, 3) ∧
  am_okt 24 29 ∧
  am_tgt 24 29 = 53 ∧
  decode (cM m_Model_odd) 27 = .ok (.aload_n 0, 1) ∧
  decode (cM m_Model_odd) 28 = .ok (.iload_n 3, 1) ∧
  decode (cM m_Model_odd) 29 = .ok (.invokevirtual 410, 3) ∧
  invT 12 410 = some (m_Model_fitOf, 0) ∧
  nM m_Model_fitOf = 2 ∧
  oM m_Model_fitOf = 12 ∧
  rkM m_Model_fitOf = 1 ∧
  dM m_Model_fitOf = 5 ∧
  decode (cM m_Model_odd) 32 = .ok (.istore 4, 2) ∧
  decode (cM m_Model_odd) 34 = .ok (.iload_n 1, 1) ∧
  decode (cM m_Model_odd) 35 = .ok (.iconst (-1), 1) ∧
  decode (cM m_Model_odd) 36 = .ok (.if_icmp .eq 12, 3) ∧
  am_okt 36 12 ∧
  am_tgt 36 12 = 48 ∧
  decode (cM m_Model_odd) 39 = .ok (.iload 4, 2) ∧
  decode (cM m_Model_odd) 41 = .ok (.iload_n 2, 1) ∧
  decode (cM m_Model_odd) 42 = .ok (.if_icmp .lt 6, 3) ∧
  am_okt 42 6 ∧
  am_tgt 42 6 = 48 ∧
  decode (cM m_Model_odd) 45 = .ok (.goto 8, 3) ∧
  am_okt 45 8 ∧
  am_tgt 45 8 = 53 ∧
  decode (cM m_Model_odd) 48 = .ok (.iload_n 3, 1) ∧
  decode (cM m_Model_odd) 49 = .ok (.istore_n 1, 1) ∧
  decode (cM m_Model_odd) 50 = .ok (.iload 4, 2) ∧
  decode (cM m_Model_odd) 52 = .ok (.istore_n 2, 1) ∧
  decode (cM m_Model_odd) 53 = .ok (.iinc 3 1, 3) ∧
  decode (cM m_Model_odd) 56 = .ok (.goto (-50), 3) ∧
  am_okt 56 (-50) ∧
  am_tgt 56 (-50) = 6 ∧
  decode (cM m_Model_odd) 59 = .ok (.iload_n 1, 1) ∧
  decode (cM m_Model_odd) 60 = .ok (.ireturn, 1) :=
  ⟨rfl, rfl, rfl, rfl, by decide +kernel, by decide +kernel, by decide +kernel, by decide +kernel, by decide +kernel, by decide +kernel, by decide +kernel, by decide +kernel, by decide +kernel, rfl, by decide +kernel, by decide +kernel, by decide +kernel, rfl, rfl, by decide +kernel, by decide +kernel, by decide +kernel, rfl, rfl, rfl, rfl, rfl, by decide +kernel, rfl, rfl, by decide +kernel, rfl, rfl, by decide +kernel, by decide +kernel, by decide +kernel, rfl, rfl, rfl, rfl, rfl, by decide +kernel, by decide +kernel, by decide +kernel, by decide +kernel, rfl, rfl, by decide +kernel, by decide +kernel, by decide +kernel, rfl, rfl, by decide +kernel, rfl, rfl, by decide +kernel, by decide +kernel, by decide +kernel, by decide +kernel, by decide +kernel, by decide +kernel, rfl, rfl, by decide +kernel, by decide +kernel⟩
set_option maxRecDepth 100000 in
set_option maxHeartbeats 4000000 in
theorem C_Model_fitOf : oM m_Model_fitOf = 12 ∧
  rkM m_Model_fitOf = 1 ∧
  dM m_Model_fitOf = 5 ∧
  lM m_Model_fitOf = 2 ∧
  decode (cM m_Model_fitOf) 0 = .ok (.aload_n 0, 1) ∧
  decode (cM m_Model_fitOf) 1 = .ok (.iload_n 1, 1) ∧
  decode (cM m_Model_fitOf) 2 = .ok (.invokevirtual 383, 3) ∧
  invT 12 383 = some (m_Model_layChronology, 0) ∧
  nM m_Model_layChronology = 2 ∧
  oM m_Model_layChronology = 12 ∧
  rkM m_Model_layChronology = 0 ∧
  dM m_Model_layChronology = 4 ∧
  decode (cM m_Model_fitOf) 5 = .ok (.aload_n 0, 1) ∧
  decode (cM m_Model_fitOf) 6 = .ok (.iload_n 1, 1) ∧
  decode (cM m_Model_fitOf) 7 = .ok (.invokevirtual 362, 3) ∧
  invT 12 362 = some (m_Model_layB, 0) ∧
  nM m_Model_layB = 2 ∧
  oM m_Model_layB = 12 ∧
  rkM m_Model_layB = 0 ∧
  dM m_Model_layB = 4 ∧
  decode (cM m_Model_fitOf) 10 = .ok (.aload_n 0, 1) ∧
  decode (cM m_Model_fitOf) 11 = .ok (.aload_n 0, 1) ∧
  decode (cM m_Model_fitOf) 12 = .ok (.iload_n 1, 1) ∧
  decode (cM m_Model_fitOf) 13 = .ok (.iconst 4, 1) ∧
  decode (cM m_Model_fitOf) 14 = .ok (.invokevirtual 257, 3) ∧
  invT 12 257 = some (m_Model_of, 0) ∧
  nM m_Model_of = 3 ∧
  oM m_Model_of = 12 ∧
  rkM m_Model_of = 1 ∧
  dM m_Model_of = 0 ∧
  decode (cM m_Model_fitOf) 17 = .ok (.aload_n 0, 1) ∧
  decode (cM m_Model_fitOf) 18 = .ok (.getfield 281, 3) ∧
  fldT 12 281 = some (12, 30, 0) ∧
  decode (cM m_Model_fitOf) 21 = .ok (.isub, 1) ∧
  decode (cM m_Model_fitOf) 22 = .ok (.invokevirtual 337, 3) ∧
  invT 12 337 = some (m_Model_slide, 0) ∧
  nM m_Model_slide = 2 ∧
  oM m_Model_slide = 12 ∧
  rkM m_Model_slide = 0 ∧
  dM m_Model_slide = 1 ∧
  decode (cM m_Model_fitOf) 25 = .ok (.aload_n 0, 1) ∧
  decode (cM m_Model_fitOf) 26 = .ok (.getfield 275, 3) ∧
  fldT 12 275 = some (12, 26, 0) ∧
  decode (cM m_Model_fitOf) 29 = .ok (.ifCond .ne 7, 3) ∧
  am_okt 29 7 ∧
  am_tgt 29 7 = 36 ∧
  decode (cM m_Model_fitOf) 32 = .ok (.iconst 0, 1) ∧
  decode (cM m_Model_fitOf) 33 = .ok (.goto 7, 3) ∧
  am_okt 33 7 ∧
  am_tgt 33 7 = 40 ∧
  decode (cM m_Model_fitOf) 36 = .ok (.aload_n 0, 1) ∧
  decode (cM m_Model_fitOf) 37 = .ok (.getfield 328, 3) ∧
  fldT 12 328 = some (12, 35, 0) ∧
  decode (cM m_Model_fitOf) 40 = .ok (.ireturn, 1) :=
  ⟨rfl, rfl, rfl, rfl, by decide +kernel, by decide +kernel, by decide +kernel, rfl, rfl, rfl, rfl, rfl, by decide +kernel, by decide +kernel, by decide +kernel, rfl, rfl, rfl, rfl, rfl, by decide +kernel, by decide +kernel, by decide +kernel, by decide +kernel, by decide +kernel, rfl, rfl, rfl, rfl, rfl, by decide +kernel, by decide +kernel, rfl, by decide +kernel, by decide +kernel, rfl, rfl, rfl, rfl, rfl, by decide +kernel, by decide +kernel, rfl, by decide +kernel, rfl, rfl, by decide +kernel, by decide +kernel, rfl, rfl, by decide +kernel, by decide +kernel, rfl, by decide +kernel⟩
set_option maxRecDepth 100000 in
set_option maxHeartbeats 4000000 in
theorem C_Model_tellGrown : oM m_Model_tellGrown = 12 ∧
  rkM m_Model_tellGrown = 0 ∧
  dM m_Model_tellGrown = 6 ∧
  lM m_Model_tellGrown = 1 ∧
  decode (cM m_Model_tellGrown) 0 = .ok (.aload_n 0, 1) ∧
  decode (cM m_Model_tellGrown) 1 = .ok (.getfield 105, 3) ∧
  fldT 12 105 = some (12, 54, 2) ∧
  decode (cM m_Model_tellGrown) 4 = .ok (.aload_n 0, 1) ∧
  decode (cM m_Model_tellGrown) 5 = .ok (.getfield 34, 3) ∧
  fldT 12 34 = some (12, 4, 2) ∧
  decode (cM m_Model_tellGrown) 8 = .ok (.invokestatic 243, 3) ∧
  invT 12 243 = some (m_Model_copyTo, 1) ∧
  nM m_Model_copyTo = 2 ∧
  oM m_Model_copyTo = 12 ∧
  rkM m_Model_copyTo = 0 ∧
  dM m_Model_copyTo = 0 ∧
  decode (cM m_Model_tellGrown) 11 = .ok (.aload_n 0, 1) ∧
  decode (cM m_Model_tellGrown) 12 = .ok (.aload_n 0, 1) ∧
  decode (cM m_Model_tellGrown) 13 = .ok (.invokevirtual 365, 3) ∧
  invT 12 365 = some (m_Model_bound, 0) ∧
  nM m_Model_bound = 1 ∧
  oM m_Model_bound = 12 ∧
  rkM m_Model_bound = 1 ∧
  dM m_Model_bound = 0 ∧
  decode (cM m_Model_tellGrown) 16 = .ok (.invokevirtual 386, 3) ∧
  invT 12 386 = some (m_Model_growNow, 0) ∧
  nM m_Model_growNow = 2 ∧
  oM m_Model_growNow = 12 ∧
  rkM m_Model_growNow = 0 ∧
  dM m_Model_growNow = 5 ∧
  decode (cM m_Model_tellGrown) 19 = .ok (.aload_n 0, 1) ∧
  decode (cM m_Model_tellGrown) 20 = .ok (.getfield 34, 3) ∧
  decode (cM m_Model_tellGrown) 23 = .ok (.aload_n 0, 1) ∧
  decode (cM m_Model_tellGrown) 24 = .ok (.getfield 105, 3) ∧
  decode (cM m_Model_tellGrown) 27 = .ok (.invokestatic 243, 3) ∧
  decode (cM m_Model_tellGrown) 30 = .ok (.return_, 1) :=
  ⟨rfl, rfl, rfl, rfl, by decide +kernel, by decide +kernel, rfl, by decide +kernel, by decide +kernel, rfl, by decide +kernel, rfl, rfl, rfl, rfl, rfl, by decide +kernel, by decide +kernel, by decide +kernel, rfl, rfl, rfl, rfl, rfl, by decide +kernel, rfl, rfl, rfl, rfl, rfl, by decide +kernel, by decide +kernel, by decide +kernel, by decide +kernel, by decide +kernel, by decide +kernel⟩
set_option maxRecDepth 100000 in
set_option maxHeartbeats 4000000 in
theorem C_Model_growNow : oM m_Model_growNow = 12 ∧
  rkM m_Model_growNow = 0 ∧
  dM m_Model_growNow = 5 ∧
  lM m_Model_growNow = 7 ∧
  decode (cM m_Model_growNow) 0 = .ok (.aload_n 0, 1) ∧
  decode (cM m_Model_growNow) 1 = .ok (.iconst 0, 1) ∧
  decode (cM m_Model_growNow) 2 = .ok (.putfield 380, 3) ∧
  fldT 12 380 = some (12, 55, 0) ∧
  decode (cM m_Model_growNow) 5 = .ok (.iconst 1, 1) ∧
  decode (cM m_Model_growNow) 6 = .ok (.istore_n 2, 1) ∧
  decode (cM m_Model_growNow) 7 = .ok (.iload_n 2, 1) ∧
  decode (cM m_Model_growNow) 8 = .ok (.ifCond .eq 193, 3) ∧
  am_okt 8 193 ∧
  am_tgt 8 193 = 201 ∧
  decode (cM m_Model_growNow) 11 = .ok (.iconst (-1), 1) ∧
  decode (cM m_Model_growNow) 12 = .ok (.istore_n 3, 1) ∧
  decode (cM m_Model_growNow) 13 = .ok (.iconst 0, 1) ∧
  decode (cM m_Model_growNow) 14 = .ok (.istore 4, 2) ∧
  decode (cM m_Model_growNow) 16 = .ok (.iconst (-1), 1) ∧
  decode (cM m_Model_growNow) 17 = .ok (.istore 5, 2) ∧
  decode (cM m_Model_growNow) 19 = .ok (.aload_n 0, 1) ∧
  decode (cM m_Model_growNow) 20 = .ok (.iconst (-1), 1) ∧
  decode (cM m_Model_growNow) 21 = .ok (.invokevirtual 383, 3) ∧
  invT 12 383 = some (m_Model_layChronology, 0) ∧
  nM m_Model_layChronology = 2 ∧
  oM m_Model_layChronology = 12 ∧
  rkM m_Model_layChronology = 0 ∧
  dM m_Model_layChronology = 4 ∧
  decode (cM m_Model_growNow) 24 = .ok (.iconst 0, 1) ∧
  decode (cM m_Model_growNow) 25 = .ok (.istore 6, 2) ∧
  decode (cM m_Model_growNow) 27 = .ok (.iload 6, 2) ∧
  decode (cM m_Model_growNow) 29 = .ok (.aload_n 0, 1) ∧
  decode (cM m_Model_growNow) 30 = .ok (.getfield 27, 3) ∧
  fldT 12 27 = some (12, 2, 2) ∧
  decode (cM m_Model_growNow) 33 = .ok (.iconst 0, 1) ∧
  decode (cM m_Model_growNow) 34 = .ok (.iaload, 1) ∧
  decode (cM m_Model_growNow) 35 = .ok (.if_icmp .ge 90, 3) ∧
  am_okt 35 90 ∧
  am_tgt 35 90 = 125 ∧
  decode (cM m_Model_growNow) 38 = .ok (.aload_n 0, 1) ∧
  decode (cM m_Model_growNow) 39 = .ok (.iload 6, 2) ∧
  decode (cM m_Model_growNow) 41 = .ok (.invokevirtual 297, 3) ∧
  invT 12 297 = some (m_Model_isDated, 0) ∧
  nM m_Model_isDated = 2 ∧
  oM m_Model_isDated = 12 ∧
  rkM m_Model_isDated = 2 ∧
  dM m_Model_isDated = 1 ∧
  decode (cM m_Model_growNow) 44 = .ok (.ifCond .eq 6, 3) ∧
  am_okt 44 6 ∧
  am_tgt 44 6 = 50 ∧
  decode (cM m_Model_growNow) 47 = .ok (.goto 72, 3) ∧
  am_okt 47 72 ∧
  am_tgt 47 72 = 119 ∧
  decode (cM m_Model_growNow) 50 = .ok (.aload_n 0, 1) ∧
  decode (cM m_Model_growNow) 51 = .ok (.iload 6, 2) ∧
  decode (cM m_Model_growNow) 53 = .ok (.invokevirtual 362, 3) ∧
  invT 12 362 = some (m_Model_layB, 0) ∧
  nM m_Model_layB = 2 ∧
  oM m_Model_layB = 12 ∧
  rkM m_Model_layB = 0 ∧
  dM m_Model_layB = 4 ∧
  decode (cM m_Model_growNow) 56 = .ok (.aload_n 0, 1) ∧
  decode (cM m_Model_growNow) 57 = .ok (.iload_n 1, 1) ∧
  decode (cM m_Model_growNow) 58 = .ok (.invokevirtual 367, 3) ∧
  invT 12 367 = some (m_Model_tellBest, 0) ∧
  nM m_Model_tellBest = 2 ∧
  oM m_Model_tellBest = 12 ∧
  rkM m_Model_tellBest = 0 ∧
  dM m_Model_tellBest = 2 ∧
  decode (cM m_Model_growNow) 61 = .ok (.aload_n 0, 1) ∧
  decode (cM m_Model_growNow) 62 = .ok (.getfield 353, 3) ∧
  fldT 12 353 = some (12, 40, 0) ∧
  decode (cM m_Model_growNow) 65 = .ok (.ifCond .ne 54, 3) ∧
  am_okt 65 54 ∧
  am_tgt 65 54 = 119 ∧
  decode (cM m_Model_growNow) 68 = .ok (.aload_n 0, 1) ∧
  decode (cM m_Model_growNow) 69 = .ok (.getfield 281, 3) ∧
  fldT 12 281 = some (12, 30, 0) ∧
  decode (cM m_Model_growNow) 72 = .ok (.aload_n 0, 1) ∧
  decode (cM m_Model_growNow) 73 = .ok (.getfield 348, 3) ∧
  fldT 12 348 = some (12, 36, 0) ∧
  decode (cM m_Model_growNow) 76 = .ok (.iadd, 1) ∧
  decode (cM m_Model_growNow) 77 = .ok (.iconst 0, 1) ∧
  decode (cM m_Model_growNow) 78 = .ok (.sipush 900, 3) ∧
  decode (cM m_Model_growNow) 81 = .ok (.invokestatic 221, 3) ∧
  invT 12 221 = some (m_Model_isIn, 1) ∧
  nM m_Model_isIn = 3 ∧
  oM m_Model_isIn = 12 ∧
  rkM m_Model_isIn = 2 ∧
  dM m_Model_isIn = 0 ∧
  decode (cM m_Model_growNow) 84 = .ok (.ifCond .eq 35, 3) ∧
  am_okt 84 35 ∧
  am_tgt 84 35 = 119 ∧
  decode (cM m_Model_growNow) 87 = .ok (.aload_n 0, 1) ∧
  decode (cM m_Model_growNow) 88 = .ok (.getfield 342, 3) ∧
  fldT 12 342 = some (12, 37, 0) ∧
  decode (cM m_Model_growNow) 91 = .ok (.iload 5, 2) ∧
  decode (cM m_Model_growNow) 93 = .ok (.if_icmp .gt 6, 3) ∧
  am_okt 93 6 ∧
  am_tgt 93 6 = 99 ∧
  decode (cM m_Model_growNow) 96 = .ok (.goto 23, 3) ∧
  am_okt 96 23 ∧
  am_tgt 96 23 = 119 ∧
  decode (cM m_Model_growNow) 99 = .ok (.iload 6, 2) ∧
  decode (cM m_Model_growNow) 101 = .ok (.istore_n 3, 1) ∧
  decode (cM m_Model_growNow) 102 = .ok (.aload_n 0, 1) ∧
  decode (cM m_Model_growNow) 103 = .ok (.getfield 281, 3) ∧
  decode (cM m_Model_growNow) 106 = .ok (.aload_n 0, 1) ∧
  decode (cM m_Model_growNow) 107 = .ok (.getfield 348, 3) ∧
  decode (cM m_Model_growNow) 110 = .ok (.iadd, 1) ∧
  decode (cM m_Model_growNow) 111 = .ok (.istore 4, 2) ∧
  decode (cM m_Model_growNow) 113 = .ok (.aload_n 0, 1) ∧
  decode (cM m_Model_growNow) 114 = .ok (.getfield 342, 3) ∧
  decode (cM m_Model_growNow) 117 = .ok (.istore 5, 2) ∧
  decode (cM m_Model_growNow) 119 = .ok (.iinc 6 1, 3) ∧
  decode (cM m_Model_growNow) 122 = .ok (.goto (-95), 3) ∧
  am_okt 122 (-95) ∧
  am_tgt 122 (-95) = 27 ∧
  decode (cM m_Model_growNow) 125 = .ok (.iload_n 3, 1) ∧
  decode (cM m_Model_growNow) 126 = .ok (.iconst (-1), 1) ∧
  decode (cM m_Model_growNow) 127 = .ok (.if_icmp .eq 7, 3) ∧
  am_okt 127 7 ∧
  am_tgt 127 7 = 134 ∧
  decode (cM m_Model_growNow) 130 = .ok (.iconst 1, 1) ∧
  decode (cM m_Model_growNow) 131 = .ok (.goto 4, 3) ∧
  am_okt 131 4 ∧
  am_tgt 131 4 = 135 ∧
  decode (cM m_Model_growNow) 134 = .ok (.iconst 0, 1) ∧
  decode (cM m_Model_growNow) 135 = .ok (.istore_n 2, 1) ∧
  decode (cM m_Model_growNow) 136 = .ok (.iload_n 2, 1) ∧
  decode (cM m_Model_growNow) 137 = .ok (.ifCond .ne 6, 3) ∧
  am_okt 137 6 ∧
  am_tgt 137 6 = 143 ∧
  decode (cM m_Model_growNow) 140 = .ok (.goto (-133), 3) ∧
  am_okt 140 (-133) ∧
  am_tgt 140 (-133) = 7 ∧
  decode (cM m_Model_growNow) 143 = .ok (.aload_n 0, 1) ∧
  decode (cM m_Model_growNow) 144 = .ok (.getfield 34, 3) ∧
  fldT 12 34 = some (12, 4, 2) ∧
  decode (cM m_Model_growNow) 147 = .ok (.bipush 30, 2) ∧
  decode (cM m_Model_growNow) 149 = .ok (.iload_n 3, 1) ∧
  decode (cM m_Model_growNow) 150 = .ok (.imul, 1) ∧
  decode (cM m_Model_growNow) 151 = .ok (.iconst 4, 1) ∧
  decode (cM m_Model_growNow) 152 = .ok (.iadd, 1) ∧
  decode (cM m_Model_growNow) 153 = .ok (.iload 4, 2) ∧
  decode (cM m_Model_growNow) 155 = .ok (.iastore, 1) ∧
  decode (cM m_Model_growNow) 156 = .ok (.aload_n 0, 1) ∧
  decode (cM m_Model_growNow) 157 = .ok (.getfield 96, 3) ∧
  fldT 12 96 = some (12, 51, 2) ∧
  decode (cM m_Model_growNow) 160 = .ok (.aload_n 0, 1) ∧
  decode (cM m_Model_growNow) 161 = .ok (.getfield 380, 3) ∧
  decode (cM m_Model_growNow) 164 = .ok (.iload_n 3, 1) ∧
  decode (cM m_Model_growNow) 165 = .ok (.iastore, 1) ∧
  decode (cM m_Model_growNow) 166 = .ok (.aload_n 0, 1) ∧
  decode (cM m_Model_growNow) 167 = .ok (.getfield 99, 3) ∧
  fldT 12 99 = some (12, 52, 2) ∧
  decode (cM m_Model_growNow) 170 = .ok (.aload_n 0, 1) ∧
  decode (cM m_Model_growNow) 171 = .ok (.getfield 380, 3) ∧
  decode (cM m_Model_growNow) 174 = .ok (.iload 4, 2) ∧
  decode (cM m_Model_growNow) 176 = .ok (.iastore, 1) ∧
  decode (cM m_Model_growNow) 177 = .ok (.aload_n 0, 1) ∧
  decode (cM m_Model_growNow) 178 = .ok (.getfield 102, 3) ∧
  fldT 12 102 = some (12, 53, 2) ∧
  decode (cM m_Model_growNow) 181 = .ok (.aload_n 0, 1) ∧
  decode (cM m_Model_growNow) 182 = .ok (.getfield 380, 3) ∧
  decode (cM m_Model_growNow) 185 = .ok (.iload 5, 2) ∧
  decode (cM m_Model_growNow) 187 = .ok (.iastore, 1) ∧
  decode (cM m_Model_growNow) 188 = .ok (.aload_n 0, 1) ∧
  decode (cM m_Model_growNow) 189 = .ok (.dup, 1) ∧
  decode (cM m_Model_growNow) 190 = .ok (.getfield 380, 3) ∧
  decode (cM m_Model_growNow) 193 = .ok (.iconst 1, 1) ∧
  decode (cM m_Model_growNow) 194 = .ok (.iadd, 1) ∧
  decode (cM m_Model_growNow) 195 = .ok (.putfield 380, 3) ∧
  decode (cM m_Model_growNow) 198 = .ok (.goto (-191), 3) ∧
  am_okt 198 (-191) ∧
  am_tgt 198 (-191) = 7 ∧
  decode (cM m_Model_growNow) 201 = .ok (.return_, 1) :=
  ⟨rfl, rfl, rfl, rfl, by decide +kernel, by decide +kernel, by decide +kernel, rfl, by decide +kernel, by decide +kernel, by decide +kernel, by decide +kernel, rfl, rfl, by decide +kernel, by decide +kernel, by decide +kernel, by decide +kernel, by decide +kernel, by decide +kernel, by decide +kernel, by decide +kernel, by decide +kernel, rfl, rfl, rfl, rfl, rfl, by decide +kernel, by decide +kernel, by decide +kernel, by decide +kernel, by decide +kernel, rfl, by decide +kernel, by decide +kernel, by decide +kernel, rfl, rfl, by decide +kernel, by decide +kernel, by decide +kernel, rfl, rfl, rfl, rfl, rfl, by decide +kernel, rfl, rfl, by decide +kernel, rfl, rfl, by decide +kernel, by decide +kernel, by decide +kernel, rfl, rfl, rfl, rfl, rfl, by decide +kernel, by decide +kernel, by decide +kernel, rfl, rfl, rfl, rfl, rfl, by decide +kernel, by decide +kernel, rfl, by decide +kernel, rfl, rfl, by decide +kernel, by decide +kernel, rfl, by decide +kernel, by decide +kernel, rfl, by decide +kernel, by decide +kernel, by decide +kernel, by decide +kernel, rfl, rfl, rfl, rfl, rfl, by decide +kernel, rfl, rfl, by decide +kernel, by decide +kernel, rfl, by decide +kernel, by decide +kernel, rfl, rfl, by decide +kernel, rfl, rfl, by decide +kernel, by decide +kernel, by decide +kernel, by decide +kernel, by decide +kernel, by decide +kernel, by decide +kernel, by decide +kernel, by decide +kernel, by decide +kernel, by decide +kernel, by decide +kernel, by decide +kernel, rfl, rfl, by decide +kernel, by decide +kernel, by decide +kernel, rfl, rfl, by decide +kernel, by decide +kernel, rfl, rfl, by decide +kernel, by decide +kernel, by decide +kernel, by decide +kernel, rfl, rfl, by decide +kernel, rfl, rfl, by decide +kernel, by decide +kernel, rfl, by decide +kernel, by decide +kernel, by decide +kernel, by decide +kernel, by decide +kernel, by decide +kernel, by decide +kernel, by decide +kernel, by decide +kernel, rfl, by decide +kernel, by decide +kernel, by decide +kernel, by decide +kernel, by decide +kernel, by decide +kernel, rfl, by decide +kernel, by decide +kernel, by decide +kernel, by decide +kernel, by decide +kernel, by decide +kernel, rfl, by decide +kernel, by decide +kernel, by decide +kernel, by decide +kernel, by decide +kernel, by decide +kernel, by decide +kernel, by decide +kernel, by decide +kernel, by decide +kernel, by decide +kernel, rfl, rfl, by decide +kernel⟩
set_option maxRecDepth 100000 in
set_option maxHeartbeats 4000000 in
theorem C_Model_timber : oM m_Model_timber = 12 ∧
  rkM m_Model_timber = 1 ∧
  dM m_Model_timber = 6 ∧
  lM m_Model_timber = 3 ∧
  decode (cM m_Model_timber) 0 = .ok (.aload_n 0, 1) ∧
  decode (cM m_Model_timber) 1 = .ok (.iconst 0, 1) ∧
  decode (cM m_Model_timber) 2 = .ok (.putfield 142, 3) ∧
  fldT 12 142 = some (12, 1, 0) ∧
  decode (cM m_Model_timber) 5 = .ok (.aload_n 0, 1) ∧
  decode (cM m_Model_timber) 6 = .ok (.iload_n 1, 1) ∧
  decode (cM m_Model_timber) 7 = .ok (.invokevirtual 432, 3) ∧
  invT 12 432 = some (m_Model_isTimber, 0) ∧
  nM m_Model_isTimber = 2 ∧
  oM m_Model_isTimber = 12 ∧
  rkM m_Model_isTimber = 2 ∧
  dM m_Model_isTimber = 1 ∧
  decode (cM m_Model_timber) 10 = .ok (.ifCond .ne 9, 3) ∧
  am_okt 10 9 ∧
  am_tgt 10 9 = 19 ∧
  decode (cM m_Model_timber) 13 = .ok (.aload_n 0, 1) ∧
  decode (cM m_Model_timber) 14 = .ok (.iconst 1, 1) ∧
  decode (cM m_Model_timber) 15 = .ok (.invokevirtual 237, 3) ∧
  invT 12 237 = some (m_Model_fail, 0) ∧
  nM m_Model_fail = 2 ∧
  oM m_Model_fail = 12 ∧
  rkM m_Model_fail = 1 ∧
  dM m_Model_fail = 0 ∧
  decode (cM m_Model_timber) 18 = .ok (.ireturn, 1) ∧
  decode (cM m_Model_timber) 19 = .ok (.iload_n 2, 1) ∧
  decode (cM m_Model_timber) 20 = .ok (.tableswitch 203 0 12 #[68, 68, 68, 75, 89, 96, 106, 106, 131, 131, 160, 178, 185], 68) ∧
  am_okt 20 203 ∧
  am_tgt 20 203 = 223 ∧
  am_okt 20 68 ∧
  am_tgt 20 68 = 88 ∧
  am_okt 20 75 ∧
  am_tgt 20 75 = 95 ∧
  am_okt 20 89 ∧
  am_tgt 20 89 = 109 ∧
  am_okt 20 96 ∧
  am_tgt 20 96 = 116 ∧
  am_okt 20 106 ∧
  am_tgt 20 106 = 126 ∧
  am_okt 20 131 ∧
  am_tgt 20 131 = 151 ∧
  am_okt 20 160 ∧
  am_tgt 20 160 = 180 ∧
  am_okt 20 178 ∧
  am_tgt 20 178 = 198 ∧
  am_okt 20 185 ∧
  am_tgt 20 185 = 205 ∧
  decode (cM m_Model_timber) 88 = .ok (.aload_n 0, 1) ∧
  decode (cM m_Model_timber) 89 = .ok (.iload_n 1, 1) ∧
  decode (cM m_Model_timber) 90 = .ok (.iload_n 2, 1) ∧
  decode (cM m_Model_timber) 91 = .ok (.invokevirtual 257, 3) ∧
  invT 12 257 = some (m_Model_of, 0) ∧
  nM m_Model_of = 3 ∧
  oM m_Model_of = 12 ∧
  rkM m_Model_of = 1 ∧
  dM m_Model_of = 0 ∧
  decode (cM m_Model_timber) 94 = .ok (.ireturn, 1) ∧
  decode (cM m_Model_timber) 95 = .ok (.aload_n 0, 1) ∧
  decode (cM m_Model_timber) 96 = .ok (.iload_n 1, 1) ∧
  decode (cM m_Model_timber) 97 = .ok (.invokevirtual 297, 3) ∧
  invT 12 297 = some (m_Model_isDated, 0) ∧
  nM m_Model_isDated = 2 ∧
  oM m_Model_isDated = 12 ∧
  rkM m_Model_isDated = 2 ∧
  dM m_Model_isDated = 1 ∧
  decode (cM m_Model_timber) 100 = .ok (.ifCond .eq 7, 3) ∧
  am_okt 100 7 ∧
  am_tgt 100 7 = 107 ∧
  decode (cM m_Model_timber) 103 = .ok (.iconst 1, 1) ∧
  decode (cM m_Model_timber) 104 = .ok (.goto 4, 3) ∧
  am_okt 104 4 ∧
  am_tgt 104 4 = 108 ∧
  decode (cM m_Model_timber) 107 = .ok (.iconst 0, 1) ∧
  decode (cM m_Model_timber) 108 = .ok (.ireturn, 1) ∧
  decode (cM m_Model_timber) 109 = .ok (.aload_n 0, 1) ∧
  decode (cM m_Model_timber) 110 = .ok (.iload_n 1, 1) ∧
  decode (cM m_Model_timber) 111 = .ok (.iconst 4, 1) ∧
  decode (cM m_Model_timber) 112 = .ok (.invokevirtual 257, 3) ∧
  decode (cM m_Model_timber) 115 = .ok (.ireturn, 1) ∧
  decode (cM m_Model_timber) 116 = .ok (.aload_n 0, 1) ∧
  decode (cM m_Model_timber) 117 = .ok (.iload_n 1, 1) ∧
  decode (cM m_Model_timber) 118 = .ok (.iconst 5, 1) ∧
  decode (cM m_Model_timber) 119 = .ok (.invokevirtual 257, 3) ∧
  decode (cM m_Model_timber) 122 = .ok (.invokestatic 435, 3) ∧
  invT 12 435 = some (m_Integer_bitCount, 1) ∧
  nM m_Integer_bitCount = 1 ∧
  oM m_Integer_bitCount = 13 ∧
  rkM m_Integer_bitCount = 1 ∧
  dM m_Integer_bitCount = 0 ∧
  decode (cM m_Model_timber) 125 = .ok (.ireturn, 1) ∧
  decode (cM m_Model_timber) 126 = .ok (.aload_n 0, 1) ∧
  decode (cM m_Model_timber) 127 = .ok (.invokevirtual 377, 3) ∧
  invT 12 377 = some (m_Model_tellLinks, 0) ∧
  nM m_Model_tellLinks = 1 ∧
  oM m_Model_tellLinks = 12 ∧
  rkM m_Model_tellLinks = 0 ∧
  dM m_Model_tellLinks = 5 ∧
  decode (cM m_Model_timber) 130 = .ok (.iload_n 2, 1) ∧
  decode (cM m_Model_timber) 131 = .ok (.bipush 6, 2) ∧
  decode (cM m_Model_timber) 133 = .ok (.if_icmp .ne 12, 3) ∧
  am_okt 133 12 ∧
  am_tgt 133 12 = 145 ∧
  decode (cM m_Model_timber) 136 = .ok (.aload_n 0, 1) ∧
  decode (cM m_Model_timber) 137 = .ok (.getfield 93, 3) ∧
  fldT 12 93 = some (12, 50, 2) ∧
  decode (cM m_Model_timber) 140 = .ok (.iload_n 1, 1) ∧
  decode (cM m_Model_timber) 141 = .ok (.iaload, 1) ∧
  decode (cM m_Model_timber) 142 = .ok (.goto 8, 3) ∧
  am_okt 142 8 ∧
  am_tgt 142 8 = 150 ∧
  decode (cM m_Model_timber) 145 = .ok (.aload_n 0, 1) ∧
  decode (cM m_Model_timber) 146 = .ok (.iload_n 1, 1) ∧
  decode (cM m_Model_timber) 147 = .ok (.invokevirtual 438, 3) ∧
  invT 12 438 = some (m_Model_placeOf, 0) ∧
  nM m_Model_placeOf = 2 ∧
  oM m_Model_placeOf = 12 ∧
  rkM m_Model_placeOf = 1 ∧
  dM m_Model_placeOf = 0 ∧
  decode (cM m_Model_timber) 150 = .ok (.ireturn, 1) ∧
  decode (cM m_Model_timber) 151 = .ok (.aload_n 0, 1) ∧
  decode (cM m_Model_timber) 152 = .ok (.iload_n 1, 1) ∧
  decode (cM m_Model_timber) 153 = .ok (.invokevirtual 297, 3) ∧
  decode (cM m_Model_timber) 156 = .ok (.ifCond .eq 22, 3) ∧
  am_okt 156 22 ∧
  am_tgt 156 22 = 178 ∧
  decode (cM m_Model_timber) 159 = .ok (.aload_n 0, 1) ∧
  decode (cM m_Model_timber) 160 = .ok (.iload_n 1, 1) ∧
  decode (cM m_Model_timber) 161 = .ok (.iload_n 2, 1) ∧
  decode (cM m_Model_timber) 162 = .ok (.bipush 8, 2) ∧
  decode (cM m_Model_timber) 164 = .ok (.if_icmp .ne 7, 3) ∧
  am_okt 164 7 ∧
  am_tgt 164 7 = 171 ∧
  decode (cM m_Model_timber) 167 = .ok (.iconst 1, 1) ∧
  decode (cM m_Model_timber) 168 = .ok (.goto 4, 3) ∧
  am_okt 168 4 ∧
  am_tgt 168 4 = 172 ∧
  decode (cM m_Model_timber) 171 = .ok (.iconst 2, 1) ∧
  decode (cM m_Model_timber) 172 = .ok (.invokevirtual 389, 3) ∧
  invT 12 389 = some (m_Model_felled, 0) ∧
  nM m_Model_felled = 3 ∧
  oM m_Model_felled = 12 ∧
  rkM m_Model_felled = 1 ∧
  dM m_Model_felled = 1 ∧
  decode (cM m_Model_timber) 175 = .ok (.goto 4, 3) ∧
  am_okt 175 4 ∧
  am_tgt 175 4 = 179 ∧
  decode (cM m_Model_timber) 178 = .ok (.iconst (-1), 1) ∧
  decode (cM m_Model_timber) 179 = .ok (.ireturn, 1) ∧
  decode (cM m_Model_timber) 180 = .ok (.aload_n 0, 1) ∧
  decode (cM m_Model_timber) 181 = .ok (.iload_n 1, 1) ∧
  decode (cM m_Model_timber) 182 = .ok (.invokevirtual 297, 3) ∧
  decode (cM m_Model_timber) 185 = .ok (.ifCond .eq 11, 3) ∧
  am_okt 185 11 ∧
  am_tgt 185 11 = 196 ∧
  decode (cM m_Model_timber) 188 = .ok (.aload_n 0, 1) ∧
  decode (cM m_Model_timber) 189 = .ok (.iload_n 1, 1) ∧
  decode (cM m_Model_timber) 190 = .ok (.invokevirtual 410, 3) ∧
  invT 12 410 = some (m_Model_fitOf, 0) ∧
  nM m_Model_fitOf = 2 ∧
  oM m_Model_fitOf = 12 ∧
  rkM m_Model_fitOf = 1 ∧
  dM m_Model_fitOf = 5 ∧
  decode (cM m_Model_timber) 193 = .ok (.goto 4, 3) ∧
  am_okt 193 4 ∧
  am_tgt 193 4 = 197 ∧
  decode (cM m_Model_timber) 196 = .ok (.iconst (-1), 1) ∧
  decode (cM m_Model_timber) 197 = .ok (.ireturn, 1) ∧
  decode (cM m_Model_timber) 198 = .ok (.aload_n 0, 1) ∧
  decode (cM m_Model_timber) 199 = .ok (.iload_n 1, 1) ∧
  decode (cM m_Model_timber) 200 = .ok (.iconst 3, 1) ∧
  decode (cM m_Model_timber) 201 = .ok (.invokevirtual 257, 3) ∧
  decode (cM m_Model_timber) 204 = .ok (.ireturn, 1) ∧
  decode (cM m_Model_timber) 205 = .ok (.aload_n 0, 1) ∧
  decode (cM m_Model_timber) 206 = .ok (.iload_n 1, 1) ∧
  decode (cM m_Model_timber) 207 = .ok (.invokevirtual 297, 3) ∧
  decode (cM m_Model_timber) 210 = .ok (.ifCond .eq 7, 3) ∧
  am_okt 210 7 ∧
  am_tgt 210 7 = 217 ∧
  decode (cM m_Model_timber) 213 = .ok (.iconst (-1), 1) ∧
  decode (cM m_Model_timber) 214 = .ok (.goto 8, 3) ∧
  am_okt 214 8 ∧
  am_tgt 214 8 = 222 ∧
  decode (cM m_Model_timber) 217 = .ok (.aload_n 0, 1) ∧
  decode (cM m_Model_timber) 218 = .ok (.iload_n 1, 1) ∧
  decode (cM m_Model_timber) 219 = .ok (.invokevirtual 441, 3) ∧
  invT 12 441 = some (m_Model_whyNot, 0) ∧
  nM m_Model_whyNot = 2 ∧
  oM m_Model_whyNot = 12 ∧
  rkM m_Model_whyNot = 1 ∧
  dM m_Model_whyNot = 5 ∧
  decode (cM m_Model_timber) 222 = .ok (.ireturn, 1) ∧
  decode (cM m_Model_timber) 223 = .ok (.aload_n 0, 1) ∧
  decode (cM m_Model_timber) 224 = .ok (.iconst 1, 1) ∧
  decode (cM m_Model_timber) 225 = .ok (.invokevirtual 237, 3) ∧
  decode (cM m_Model_timber) 228 = .ok (.ireturn, 1) :=
  ⟨rfl, rfl, rfl, rfl, by decide +kernel, by decide +kernel, by decide +kernel, rfl, by decide +kernel, by decide +kernel, by decide +kernel, rfl, rfl, rfl, rfl, rfl, by decide +kernel, rfl, rfl, by decide +kernel, by decide +kernel, by decide +kernel, rfl, rfl, rfl, rfl, rfl, by decide +kernel, by decide +kernel, by decide +kernel, rfl, rfl, rfl, rfl, rfl, rfl, rfl, rfl, rfl, rfl, rfl, rfl, rfl, rfl, rfl, rfl, rfl, rfl, rfl, rfl, by decide +kernel, by decide +kernel, by decide +kernel, by decide +kernel, rfl, rfl, rfl, rfl, rfl, by decide +kernel, by decide +kernel, by decide +kernel, by decide +kernel, rfl, rfl, rfl, rfl, rfl, by decide +kernel, rfl, rfl, by decide +kernel, by decide +kernel, rfl, rfl, by decide +kernel, by decide +kernel, by decide +kernel, by decide +kernel, by decide +kernel, by decide +kernel, by decide +kernel, by decide +kernel, by decide +kernel, by decide +kernel, by decide +kernel, by decide +kernel, rfl, rfl, rfl, rfl, rfl, by decide +kernel, by decide +kernel, by decide +kernel, rfl, rfl, rfl, rfl, rfl, by decide +kernel, by decide +kernel, by decide +kernel, rfl, rfl, by decide +kernel, by decide +kernel, rfl, by decide +kernel, by decide +kernel, by decide +kernel, rfl, rfl, by decide +kernel, by decide +kernel, by decide +kernel, rfl, rfl, rfl, rfl, rfl, by decide +kernel, by decide +kernel, by decide +kernel, by decide +kernel, by decide +kernel, rfl, rfl, by decide +kernel, by decide +kernel, by decide +kernel, by decide +kernel, by decide +kernel, rfl, rfl, by decide +kernel, by decide +kernel, rfl, rfl, by decide +kernel, by decide +kernel, rfl, rfl, rfl, rfl, rfl, by decide +kernel, rfl, rfl, by decide +kernel, by decide +kernel, by decide +kernel, by decide +kernel, by decide +kernel, by decide +kernel, rfl, rfl, by decide +kernel, by decide +kernel, by decide +kernel, rfl, rfl, rfl, rfl, rfl, by decide +kernel, rfl, rfl, by decide +kernel, by decide +kernel, by decide +kernel, by decide +kernel, by decide +kernel, by decide +kernel, by decide +kernel, by decide +kernel, by decide +kernel, by decide +kernel, by decide +kernel, rfl, rfl, by decide +kernel, by decide +kernel, rfl, rfl, by decide +kernel, by decide +kernel, by decide +kernel, rfl, rfl, rfl, rfl, rfl, by decide +kernel, by decide +kernel, by decide +kernel, by decide +kernel, by decide +kernel⟩
set_option maxRecDepth 100000 in
set_option maxHeartbeats 4000000 in
theorem C_Model_isTimber : oM m_Model_isTimber = 12 ∧
  rkM m_Model_isTimber = 2 ∧
  dM m_Model_isTimber = 1 ∧
  lM m_Model_isTimber = 2 ∧
  decode (cM m_Model_isTimber) 0 = .ok (.iload_n 1, 1) ∧
  decode (cM m_Model_isTimber) 1 = .ok (.iconst 0, 1) ∧
  decode (cM m_Model_isTimber) 2 = .ok (.aload_n 0, 1) ∧
  decode (cM m_Model_isTimber) 3 = .ok (.getfield 27, 3) ∧
  fldT 12 27 = some (12, 2, 2) ∧
  decode (cM m_Model_isTimber) 6 = .ok (.iconst 0, 1) ∧
  decode (cM m_Model_isTimber) 7 = .ok (.iaload, 1) ∧
  decode (cM m_Model_isTimber) 8 = .ok (.iconst 1, 1) ∧
  decode (cM m_Model_isTimber) 9 = .ok (.isub, 1) ∧
  decode (cM m_Model_isTimber) 10 = .ok (.invokestatic 221, 3) ∧
  invT 12 221 = some (m_Model_isIn, 1) ∧
  nM m_Model_isIn = 3 ∧
  oM m_Model_isIn = 12 ∧
  rkM m_Model_isIn = 2 ∧
  dM m_Model_isIn = 0 ∧
  decode (cM m_Model_isTimber) 13 = .ok (.ireturn, 1) :=
  ⟨rfl, rfl, rfl, rfl, by decide +kernel, by decide +kernel, by decide +kernel, by decide +kernel, rfl, by decide +kernel, by decide +kernel, by decide +kernel, by decide +kernel, by decide +kernel, rfl, rfl, rfl, rfl, rfl, by decide +kernel⟩
set_option maxRecDepth 100000 in
set_option maxHeartbeats 4000000 in
theorem C_Model_placeOf : oM m_Model_placeOf = 12 ∧
  rkM m_Model_placeOf = 1 ∧
  dM m_Model_placeOf = 0 ∧
  lM m_Model_placeOf = 2 ∧
  decode (cM m_Model_placeOf) 0 = .ok (.aload_n 0, 1) ∧
  decode (cM m_Model_placeOf) 1 = .ok (.getfield 86, 3) ∧
  fldT 12 86 = some (12, 47, 2) ∧
  decode (cM m_Model_placeOf) 4 = .ok (.iload_n 1, 1) ∧
  decode (cM m_Model_placeOf) 5 = .ok (.iaload, 1) ∧
  decode (cM m_Model_placeOf) 6 = .ok (.aload_n 0, 1) ∧
  decode (cM m_Model_placeOf) 7 = .ok (.getfield 86, 3) ∧
  decode (cM m_Model_placeOf) 10 = .ok (.aload_n 0, 1) ∧
  decode (cM m_Model_placeOf) 11 = .ok (.getfield 93, 3) ∧
  fldT 12 93 = some (12, 50, 2) ∧
  decode (cM m_Model_placeOf) 14 = .ok (.iload_n 1, 1) ∧
  decode (cM m_Model_placeOf) 15 = .ok (.iaload, 1) ∧
  decode (cM m_Model_placeOf) 16 = .ok (.iaload, 1) ∧
  decode (cM m_Model_placeOf) 17 = .ok (.isub, 1) ∧
  decode (cM m_Model_placeOf) 18 = .ok (.ireturn, 1) :=
  ⟨rfl, rfl, rfl, rfl, by decide +kernel, by decide +kernel, rfl, by decide +kernel, by decide +kernel, by decide +kernel, by decide +kernel, by decide +kernel, by decide +kernel, rfl, by decide +kernel, by decide +kernel, by decide +kernel, by decide +kernel, by decide +kernel⟩
set_option maxRecDepth 100000 in
set_option maxHeartbeats 4000000 in
theorem C_Model_whyNot : oM m_Model_whyNot = 12 ∧
  rkM m_Model_whyNot = 1 ∧
  dM m_Model_whyNot = 5 ∧
  lM m_Model_whyNot = 2 ∧
  decode (cM m_Model_whyNot) 0 = .ok (.aload_n 0, 1) ∧
  decode (cM m_Model_whyNot) 1 = .ok (.iload_n 1, 1) ∧
  decode (cM m_Model_whyNot) 2 = .ok (.invokevirtual 383, 3) ∧
  invT 12 383 = some (m_Model_layChronology, 0) ∧
  nM m_Model_layChronology = 2 ∧
  oM m_Model_layChronology = 12 ∧
  rkM m_Model_layChronology = 0 ∧
  dM m_Model_layChronology = 4 ∧
  decode (cM m_Model_whyNot) 5 = .ok (.aload_n 0, 1) ∧
  decode (cM m_Model_whyNot) 6 = .ok (.iload_n 1, 1) ∧
  decode (cM m_Model_whyNot) 7 = .ok (.invokevirtual 362, 3) ∧
  invT 12 362 = some (m_Model_layB, 0) ∧
  nM m_Model_layB = 2 ∧
  oM m_Model_layB = 12 ∧
  rkM m_Model_layB = 0 ∧
  dM m_Model_layB = 4 ∧
  decode (cM m_Model_whyNot) 10 = .ok (.aload_n 0, 1) ∧
  decode (cM m_Model_whyNot) 11 = .ok (.aload_n 0, 1) ∧
  decode (cM m_Model_whyNot) 12 = .ok (.invokevirtual 365, 3) ∧
  invT 12 365 = some (m_Model_bound, 0) ∧
  nM m_Model_bound = 1 ∧
  oM m_Model_bound = 12 ∧
  rkM m_Model_bound = 1 ∧
  dM m_Model_bound = 0 ∧
  decode (cM m_Model_whyNot) 15 = .ok (.invokevirtual 367, 3) ∧
  invT 12 367 = some (m_Model_tellBest, 0) ∧
  nM m_Model_tellBest = 2 ∧
  oM m_Model_tellBest = 12 ∧
  rkM m_Model_tellBest = 0 ∧
  dM m_Model_tellBest = 2 ∧
  decode (cM m_Model_whyNot) 18 = .ok (.aload_n 0, 1) ∧
  decode (cM m_Model_whyNot) 19 = .ok (.getfield 353, 3) ∧
  fldT 12 353 = some (12, 40, 0) ∧
  decode (cM m_Model_whyNot) 22 = .ok (.ifCond .eq 10, 3) ∧
  am_okt 22 10 ∧
  am_tgt 22 10 = 32 ∧
  decode (cM m_Model_whyNot) 25 = .ok (.aload_n 0, 1) ∧
  decode (cM m_Model_whyNot) 26 = .ok (.getfield 353, 3) ∧
  decode (cM m_Model_whyNot) 29 = .ok (.goto 27, 3) ∧
  am_okt 29 27 ∧
  am_tgt 29 27 = 56 ∧
  decode (cM m_Model_whyNot) 32 = .ok (.aload_n 0, 1) ∧
  decode (cM m_Model_whyNot) 33 = .ok (.getfield 281, 3) ∧
  fldT 12 281 = some (12, 30, 0) ∧
  decode (cM m_Model_whyNot) 36 = .ok (.aload_n 0, 1) ∧
  decode (cM m_Model_whyNot) 37 = .ok (.getfield 348, 3) ∧
  fldT 12 348 = some (12, 36, 0) ∧
  decode (cM m_Model_whyNot) 40 = .ok (.iadd, 1) ∧
  decode (cM m_Model_whyNot) 41 = .ok (.iconst 0, 1) ∧
  decode (cM m_Model_whyNot) 42 = .ok (.sipush 900, 3) ∧
  decode (cM m_Model_whyNot) 45 = .ok (.invokestatic 221, 3) ∧
  invT 12 221 = some (m_Model_isIn, 1) ∧
  nM m_Model_isIn = 3 ∧
  oM m_Model_isIn = 12 ∧
  rkM m_Model_isIn = 2 ∧
  dM m_Model_isIn = 0 ∧
  decode (cM m_Model_whyNot) 48 = .ok (.ifCond .eq 7, 3) ∧
  am_okt 48 7 ∧
  am_tgt 48 7 = 55 ∧
  decode (cM m_Model_whyNot) 51 = .ok (.iconst 0, 1) ∧
  decode (cM m_Model_whyNot) 52 = .ok (.goto 4, 3) ∧
  am_okt 52 4 ∧
  am_tgt 52 4 = 56 ∧
  decode (cM m_Model_whyNot) 55 = .ok (.iconst 4, 1) ∧
  decode (cM m_Model_whyNot) 56 = .ok (.ireturn, 1) :=
  ⟨rfl, rfl, rfl, rfl, by decide +kernel, by decide +kernel, by decide +kernel, rfl, rfl, rfl, rfl, rfl, by decide +kernel, by decide +kernel, by decide +kernel, rfl, rfl, rfl, rfl, rfl, by decide +kernel, by decide +kernel, by decide +kernel, rfl, rfl, rfl, rfl, rfl, by decide +kernel, rfl, rfl, rfl, rfl, rfl, by decide +kernel, by decide +kernel, rfl, by decide +kernel, rfl, rfl, by decide +kernel, by decide +kernel, by decide +kernel, rfl, rfl, by decide +kernel, by decide +kernel, rfl, by decide +kernel, by decide +kernel, rfl, by decide +kernel, by decide +kernel, by decide +kernel, by decide +kernel, rfl, rfl, rfl, rfl, rfl, by decide +kernel, rfl, rfl, by decide +kernel, by decide +kernel, rfl, rfl, by decide +kernel, by decide +kernel⟩
set_option maxRecDepth 100000 in
set_option maxHeartbeats 4000000 in
theorem C_Model_house : oM m_Model_house = 12 ∧
  rkM m_Model_house = 1 ∧
  dM m_Model_house = 4 ∧
  lM m_Model_house = 4 ∧
  decode (cM m_Model_house) 0 = .ok (.aload_n 0, 1) ∧
  decode (cM m_Model_house) 1 = .ok (.iconst 0, 1) ∧
  decode (cM m_Model_house) 2 = .ok (.putfield 142, 3) ∧
  fldT 12 142 = some (12, 1, 0) ∧
  decode (cM m_Model_house) 5 = .ok (.iload_n 1, 1) ∧
  decode (cM m_Model_house) 6 = .ok (.iconst 0, 1) ∧
  decode (cM m_Model_house) 7 = .ok (.iconst 3, 1) ∧
  decode (cM m_Model_house) 8 = .ok (.invokestatic 221, 3) ∧
  invT 12 221 = some (m_Model_isIn, 1) ∧
  nM m_Model_isIn = 3 ∧
  oM m_Model_isIn = 12 ∧
  rkM m_Model_isIn = 2 ∧
  dM m_Model_isIn = 0 ∧
  decode (cM m_Model_house) 11 = .ok (.ifCond .eq 12, 3) ∧
  am_okt 11 12 ∧
  am_tgt 11 12 = 23 ∧
  decode (cM m_Model_house) 14 = .ok (.iload_n 2, 1) ∧
  decode (cM m_Model_house) 15 = .ok (.iconst 0, 1) ∧
  decode (cM m_Model_house) 16 = .ok (.iconst 3, 1) ∧
  decode (cM m_Model_house) 17 = .ok (.invokestatic 221, 3) ∧
  decode (cM m_Model_house) 20 = .ok (.ifCond .ne 9, 3) ∧
  am_okt 20 9 ∧
  am_tgt 20 9 = 29 ∧
  decode (cM m_Model_house) 23 = .ok (.aload_n 0, 1) ∧
  decode (cM m_Model_house) 24 = .ok (.iconst 1, 1) ∧
  decode (cM m_Model_house) 25 = .ok (.invokevirtual 237, 3) ∧
  invT 12 237 = some (m_Model_fail, 0) ∧
  nM m_Model_fail = 2 ∧
  oM m_Model_fail = 12 ∧
  rkM m_Model_fail = 1 ∧
  dM m_Model_fail = 0 ∧
  decode (cM m_Model_house) 28 = .ok (.ireturn, 1) ∧
  decode (cM m_Model_house) 29 = .ok (.aload_n 0, 1) ∧
  decode (cM m_Model_house) 30 = .ok (.iload_n 1, 1) ∧
  decode (cM m_Model_house) 31 = .ok (.invokevirtual 401, 3) ∧
  invT 12 401 = some (m_Model_housed, 0) ∧
  nM m_Model_housed = 2 ∧
  oM m_Model_housed = 12 ∧
  rkM m_Model_housed = 1 ∧
  dM m_Model_housed = 1 ∧
  decode (cM m_Model_house) 34 = .ok (.istore_n 3, 1) ∧
  decode (cM m_Model_house) 35 = .ok (.iload_n 2, 1) ∧
  decode (cM m_Model_house) 36 = .ok (.ifCond .ne 7, 3) ∧
  am_okt 36 7 ∧
  am_tgt 36 7 = 43 ∧
  decode (cM m_Model_house) 39 = .ok (.iload_n 3, 1) ∧
  decode (cM m_Model_house) 40 = .ok (.goto 42, 3) ∧
  am_okt 40 42 ∧
  am_tgt 40 42 = 82 ∧
  decode (cM m_Model_house) 43 = .ok (.iload_n 2, 1) ∧
  decode (cM m_Model_house) 44 = .ok (.iconst 1, 1) ∧
  decode (cM m_Model_house) 45 = .ok (.if_icmp .ne 11, 3) ∧
  am_okt 45 11 ∧
  am_tgt 45 11 = 56 ∧
  decode (cM m_Model_house) 48 = .ok (.aload_n 0, 1) ∧
  decode (cM m_Model_house) 49 = .ok (.iload_n 3, 1) ∧
  decode (cM m_Model_house) 50 = .ok (.invokevirtual 395, 3) ∧
  invT 12 395 = some (m_Model_edgeOf, 0) ∧
  nM m_Model_edgeOf = 2 ∧
  oM m_Model_edgeOf = 12 ∧
  rkM m_Model_edgeOf = 1 ∧
  dM m_Model_edgeOf = 2 ∧
  decode (cM m_Model_house) 53 = .ok (.goto 29, 3) ∧
  am_okt 53 29 ∧
  am_tgt 53 29 = 82 ∧
  decode (cM m_Model_house) 56 = .ok (.iload_n 2, 1) ∧
  decode (cM m_Model_house) 57 = .ok (.iconst 2, 1) ∧
  decode (cM m_Model_house) 58 = .ok (.if_icmp .ne 19, 3) ∧
  am_okt 58 19 ∧
  am_tgt 58 19 = 77 ∧
  decode (cM m_Model_house) 61 = .ok (.aload_n 0, 1) ∧
  decode (cM m_Model_house) 62 = .ok (.iload_n 3, 1) ∧
  decode (cM m_Model_house) 63 = .ok (.aload_n 0, 1) ∧
  decode (cM m_Model_house) 64 = .ok (.iload_n 1, 1) ∧
  decode (cM m_Model_house) 65 = .ok (.invokevirtual 444, 3) ∧
  invT 12 444 = some (m_Model_reused, 0) ∧
  nM m_Model_reused = 2 ∧
  oM m_Model_reused = 12 ∧
  rkM m_Model_reused = 1 ∧
  dM m_Model_reused = 3 ∧
  decode (cM m_Model_house) 68 = .ok (.iconst (-1), 1) ∧
  decode (cM m_Model_house) 69 = .ok (.ixor, 1) ∧
  decode (cM m_Model_house) 70 = .ok (.iand, 1) ∧
  decode (cM m_Model_house) 71 = .ok (.invokevirtual 398, 3) ∧
  invT 12 398 = some (m_Model_lastOf, 0) ∧
  nM m_Model_lastOf = 2 ∧
  oM m_Model_lastOf = 12 ∧
  rkM m_Model_lastOf = 1 ∧
  dM m_Model_lastOf = 2 ∧
  decode (cM m_Model_house) 74 = .ok (.goto 8, 3) ∧
  am_okt 74 8 ∧
  am_tgt 74 8 = 82 ∧
  decode (cM m_Model_house) 77 = .ok (.aload_n 0, 1) ∧
  decode (cM m_Model_house) 78 = .ok (.iload_n 1, 1) ∧
  decode (cM m_Model_house) 79 = .ok (.invokevirtual 444, 3) ∧
  decode (cM m_Model_house) 82 = .ok (.ireturn, 1) :=
  ⟨rfl, rfl, rfl, rfl, by decide +kernel, by decide +kernel, by decide +kernel, rfl, by decide +kernel, by decide +kernel, by decide +kernel, by decide +kernel, rfl, rfl, rfl, rfl, rfl, by decide +kernel, rfl, rfl, by decide +kernel, by decide +kernel, by decide +kernel, by decide +kernel, by decide +kernel, rfl, rfl, by decide +kernel, by decide +kernel, by decide +kernel, rfl, rfl, rfl, rfl, rfl, by decide +kernel, by decide +kernel, by decide +kernel, by decide +kernel, rfl, rfl, rfl, rfl, rfl, by decide +kernel, by decide +kernel, by decide +kernel, rfl, rfl, by decide +kernel, by decide +kernel, rfl, rfl, by decide +kernel, by decide +kernel, by decide +kernel, rfl, rfl, by decide +kernel, by decide +kernel, by decide +kernel, rfl, rfl, rfl, rfl, rfl, by decide +kernel, rfl, rfl, by decide +kernel, by decide +kernel, by decide +kernel, rfl, rfl, by decide +kernel, by decide +kernel, by decide +kernel, by decide +kernel, by decide +kernel, rfl, rfl, rfl, rfl, rfl, by decide +kernel, by decide +kernel, by decide +kernel, by decide +kernel, rfl, rfl, rfl, rfl, rfl, by decide +kernel, rfl, rfl, by decide +kernel, by decide +kernel, by decide +kernel, by decide +kernel⟩
set_option maxRecDepth 100000 in
set_option maxHeartbeats 4000000 in
theorem C_Model_housed : oM m_Model_housed = 12 ∧
  rkM m_Model_housed = 1 ∧
  dM m_Model_housed = 1 ∧
  lM m_Model_housed = 4 ∧
  decode (cM m_Model_housed) 0 = .ok (.iconst 0, 1) ∧
  decode (cM m_Model_housed) 1 = .ok (.istore_n 2, 1) ∧
  decode (cM m_Model_housed) 2 = .ok (.iconst 0, 1) ∧
  decode (cM m_Model_housed) 3 = .ok (.istore_n 3, 1) ∧
  decode (cM m_Model_housed) 4 = .ok (.iload_n 3, 1) ∧
  decode (cM m_Model_housed) 5 = .ok (.aload_n 0, 1) ∧
  decode (cM m_Model_housed) 6 = .ok (.getfield 27, 3) ∧
  fldT 12 27 = some (12, 2, 2) ∧
  decode (cM m_Model_housed) 9 = .ok (.iconst 0, 1) ∧
  decode (cM m_Model_housed) 10 = .ok (.iaload, 1) ∧
  decode (cM m_Model_housed) 11 = .ok (.if_icmp .ge 29, 3) ∧
  am_okt 11 29 ∧
  am_tgt 11 29 = 40 ∧
  decode (cM m_Model_housed) 14 = .ok (.iload_n 2, 1) ∧
  decode (cM m_Model_housed) 15 = .ok (.aload_n 0, 1) ∧
  decode (cM m_Model_housed) 16 = .ok (.iload_n 3, 1) ∧
  decode (cM m_Model_housed) 17 = .ok (.iconst 3, 1) ∧
  decode (cM m_Model_housed) 18 = .ok (.invokevirtual 257, 3) ∧
  invT 12 257 = some (m_Model_of, 0) ∧
  nM m_Model_of = 3 ∧
  oM m_Model_of = 12 ∧
  rkM m_Model_of = 1 ∧
  dM m_Model_of = 0 ∧
  decode (cM m_Model_housed) 21 = .ok (.iload_n 1, 1) ∧
  decode (cM m_Model_housed) 22 = .ok (.if_icmp .ne 9, 3) ∧
  am_okt 22 9 ∧
  am_tgt 22 9 = 31 ∧
  decode (cM m_Model_housed) 25 = .ok (.iconst 1, 1) ∧
  decode (cM m_Model_housed) 26 = .ok (.iload_n 3, 1) ∧
  decode (cM m_Model_housed) 27 = .ok (.ishl, 1) ∧
  decode (cM m_Model_housed) 28 = .ok (.goto 4, 3) ∧
  am_okt 28 4 ∧
  am_tgt 28 4 = 32 ∧
  decode (cM m_Model_housed) 31 = .ok (.iconst 0, 1) ∧
  decode (cM m_Model_housed) 32 = .ok (.ior, 1) ∧
  decode (cM m_Model_housed) 33 = .ok (.istore_n 2, 1) ∧
  decode (cM m_Model_housed) 34 = .ok (.iinc 3 1, 3) ∧
  decode (cM m_Model_housed) 37 = .ok (.goto (-33), 3) ∧
  am_okt 37 (-33) ∧
  am_tgt 37 (-33) = 4 ∧
  decode (cM m_Model_housed) 40 = .ok (.iload_n 2, 1) ∧
  decode (cM m_Model_housed) 41 = .ok (.ireturn, 1) :=
  ⟨rfl, rfl, rfl, rfl, by decide +kernel, by decide +kernel, by decide +kernel, by decide +kernel, by decide +kernel, by decide +kernel, by decide +kernel, rfl, by decide +kernel, by decide +kernel, by decide +kernel, rfl, rfl, by decide +kernel, by decide +kernel, by decide +kernel, by decide +kernel, by decide +kernel, rfl, rfl, rfl, rfl, rfl, by decide +kernel, by decide +kernel, rfl, rfl, by decide +kernel, by decide +kernel, by decide +kernel, by decide +kernel, rfl, rfl, by decide +kernel, by decide +kernel, by decide +kernel, by decide +kernel, by decide +kernel, rfl, rfl, by decide +kernel, by decide +kernel⟩
set_option maxRecDepth 100000 in
set_option maxHeartbeats 4000000 in
theorem C_Model_reused : oM m_Model_reused = 12 ∧
  rkM m_Model_reused = 1 ∧
  dM m_Model_reused = 3 ∧
  lM m_Model_reused = 5 ∧
  decode (cM m_Model_reused) 0 = .ok (.aload_n 0, 1) ∧
  decode (cM m_Model_reused) 1 = .ok (.iload_n 1, 1) ∧
  decode (cM m_Model_reused) 2 = .ok (.invokevirtual 401, 3) ∧
  invT 12 401 = some (m_Model_housed, 0) ∧
  nM m_Model_housed = 2 ∧
  oM m_Model_housed = 12 ∧
  rkM m_Model_housed = 1 ∧
  dM m_Model_housed = 1 ∧
  decode (cM m_Model_reused) 5 = .ok (.istore_n 2, 1) ∧
  decode (cM m_Model_reused) 6 = .ok (.iconst 0, 1) ∧
  decode (cM m_Model_reused) 7 = .ok (.istore_n 3, 1) ∧
  decode (cM m_Model_reused) 8 = .ok (.iconst 0, 1) ∧
  decode (cM m_Model_reused) 9 = .ok (.istore 4, 2) ∧
  decode (cM m_Model_reused) 11 = .ok (.iload 4, 2) ∧
  decode (cM m_Model_reused) 13 = .ok (.aload_n 0, 1) ∧
  decode (cM m_Model_reused) 14 = .ok (.getfield 27, 3) ∧
  fldT 12 27 = some (12, 2, 2) ∧
  decode (cM m_Model_reused) 17 = .ok (.iconst 0, 1) ∧
  decode (cM m_Model_reused) 18 = .ok (.iaload, 1) ∧
  decode (cM m_Model_reused) 19 = .ok (.if_icmp .ge 54, 3) ∧
  am_okt 19 54 ∧
  am_tgt 19 54 = 73 ∧
  decode (cM m_Model_reused) 22 = .ok (.iload_n 3, 1) ∧
  decode (cM m_Model_reused) 23 = .ok (.iload_n 2, 1) ∧
  decode (cM m_Model_reused) 24 = .ok (.iload 4, 2) ∧
  decode (cM m_Model_reused) 26 = .ok (.ishr, 1) ∧
  decode (cM m_Model_reused) 27 = .ok (.iconst 1, 1) ∧
  decode (cM m_Model_reused) 28 = .ok (.iand, 1) ∧
  decode (cM m_Model_reused) 29 = .ok (.iconst 1, 1) ∧
  decode (cM m_Model_reused) 30 = .ok (.if_icmp .ne 34, 3) ∧
  am_okt 30 34 ∧
  am_tgt 30 34 = 64 ∧
  decode (cM m_Model_reused) 33 = .ok (.aload_n 0, 1) ∧
  decode (cM m_Model_reused) 34 = .ok (.iload 4, 2) ∧
  decode (cM m_Model_reused) 36 = .ok (.invokevirtual 297, 3) ∧
  invT 12 297 = some (m_Model_isDated, 0) ∧
  nM m_Model_isDated = 2 ∧
  oM m_Model_isDated = 12 ∧
  rkM m_Model_isDated = 2 ∧
  dM m_Model_isDated = 1 ∧
  decode (cM m_Model_reused) 39 = .ok (.ifCond .eq 25, 3) ∧
  am_okt 39 25 ∧
  am_tgt 39 25 = 64 ∧
  decode (cM m_Model_reused) 42 = .ok (.aload_n 0, 1) ∧
  decode (cM m_Model_reused) 43 = .ok (.iload 4, 2) ∧
  decode (cM m_Model_reused) 45 = .ok (.iconst 2, 1) ∧
  decode (cM m_Model_reused) 46 = .ok (.invokevirtual 389, 3) ∧
  invT 12 389 = some (m_Model_felled, 0) ∧
  nM m_Model_felled = 3 ∧
  oM m_Model_felled = 12 ∧
  rkM m_Model_felled = 1 ∧
  dM m_Model_felled = 1 ∧
  decode (cM m_Model_reused) 49 = .ok (.aload_n 0, 1) ∧
  decode (cM m_Model_reused) 50 = .ok (.iload_n 2, 1) ∧
  decode (cM m_Model_reused) 51 = .ok (.invokevirtual 395, 3) ∧
  invT 12 395 = some (m_Model_edgeOf, 0) ∧
  nM m_Model_edgeOf = 2 ∧
  oM m_Model_edgeOf = 12 ∧
  rkM m_Model_edgeOf = 1 ∧
  dM m_Model_edgeOf = 2 ∧
  decode (cM m_Model_reused) 54 = .ok (.if_icmp .ge 10, 3) ∧
  am_okt 54 10 ∧
  am_tgt 54 10 = 64 ∧
  decode (cM m_Model_reused) 57 = .ok (.iconst 1, 1) ∧
  decode (cM m_Model_reused) 58 = .ok (.iload 4, 2) ∧
  decode (cM m_Model_reused) 60 = .ok (.ishl, 1) ∧
  decode (cM m_Model_reused) 61 = .ok (.goto 4, 3) ∧
  am_okt 61 4 ∧
  am_tgt 61 4 = 65 ∧
  decode (cM m_Model_reused) 64 = .ok (.iconst 0, 1) ∧
  decode (cM m_Model_reused) 65 = .ok (.ior, 1) ∧
  decode (cM m_Model_reused) 66 = .ok (.istore_n 3, 1) ∧
  decode (cM m_Model_reused) 67 = .ok (.iinc 4 1, 3) ∧
  decode (cM m_Model_reused) 70 = .ok (.goto (-59), 3) ∧
  am_okt 70 (-59) ∧
  am_tgt 70 (-59) = 11 ∧
  decode (cM m_Model_reused) 73 = .ok (.iload_n 3, 1) ∧
  decode (cM m_Model_reused) 74 = .ok (.ireturn, 1) :=
  ⟨rfl, rfl, rfl, rfl, by decide +kernel, by decide +kernel, by decide +kernel, rfl, rfl, rfl, rfl, rfl, by decide +kernel, by decide +kernel, by decide +kernel, by decide +kernel, by decide +kernel, by decide +kernel, by decide +kernel, by decide +kernel, rfl, by decide +kernel, by decide +kernel, by decide +kernel, rfl, rfl, by decide +kernel, by decide +kernel, by decide +kernel, by decide +kernel, by decide +kernel, by decide +kernel, by decide +kernel, by decide +kernel, rfl, rfl, by decide +kernel, by decide +kernel, by decide +kernel, rfl, rfl, rfl, rfl, rfl, by decide +kernel, rfl, rfl, by decide +kernel, by decide +kernel, by decide +kernel, by decide +kernel, rfl, rfl, rfl, rfl, rfl, by decide +kernel, by decide +kernel, by decide +kernel, rfl, rfl, rfl, rfl, rfl, by decide +kernel, rfl, rfl, by decide +kernel, by decide +kernel, by decide +kernel, by decide +kernel, rfl, rfl, by decide +kernel, by decide +kernel, by decide +kernel, by decide +kernel, by decide +kernel, rfl, rfl, by decide +kernel, by decide +kernel⟩
set_option maxRecDepth 100000 in
set_option maxHeartbeats 4000000 in
theorem C_Model_ring : oM m_Model_ring = 12 ∧
  rkM m_Model_ring = 1 ∧
  dM m_Model_ring = 5 ∧
  lM m_Model_ring = 4 ∧
  decode (cM m_Model_ring) 0 = .ok (.aload_n 0, 1) ∧
  decode (cM m_Model_ring) 1 = .ok (.iconst 0, 1) ∧
  decode (cM m_Model_ring) 2 = .ok (.putfield 142, 3) ∧
  fldT 12 142 = some (12, 1, 0) ∧
  decode (cM m_Model_ring) 5 = .ok (.aload_n 0, 1) ∧
  decode (cM m_Model_ring) 6 = .ok (.iload_n 1, 1) ∧
  decode (cM m_Model_ring) 7 = .ok (.iload_n 2, 1) ∧
  decode (cM m_Model_ring) 8 = .ok (.invokevirtual 447, 3) ∧
  invT 12 447 = some (m_Model_isRing, 0) ∧
  nM m_Model_isRing = 3 ∧
  oM m_Model_isRing = 12 ∧
  rkM m_Model_isRing = 2 ∧
  dM m_Model_isRing = 2 ∧
  decode (cM m_Model_ring) 11 = .ok (.ifCond .eq 21, 3) ∧
  am_okt 11 21 ∧
  am_tgt 11 21 = 32 ∧
  decode (cM m_Model_ring) 14 = .ok (.iload_n 3, 1) ∧
  decode (cM m_Model_ring) 15 = .ok (.iconst 0, 1) ∧
  decode (cM m_Model_ring) 16 = .ok (.iconst 3, 1) ∧
  decode (cM m_Model_ring) 17 = .ok (.invokestatic 221, 3) ∧
  invT 12 221 = some (m_Model_isIn, 1) ∧
  nM m_Model_isIn = 3 ∧
  oM m_Model_isIn = 12 ∧
  rkM m_Model_isIn = 2 ∧
  dM m_Model_isIn = 0 ∧
  decode (cM m_Model_ring) 20 = .ok (.ifCond .eq 12, 3) ∧
  am_okt 20 12 ∧
  am_tgt 20 12 = 32 ∧
  decode (cM m_Model_ring) 23 = .ok (.iload_n 2, 1) ∧
  decode (cM m_Model_ring) 24 = .ok (.ifCond .ne 14, 3) ∧
  am_okt 24 14 ∧
  am_tgt 24 14 = 38 ∧
  decode (cM m_Model_ring) 27 = .ok (.iload_n 3, 1) ∧
  decode (cM m_Model_ring) 28 = .ok (.iconst 2, 1) ∧
  decode (cM m_Model_ring) 29 = .ok (.if_icmp .ne 9, 3) ∧
  am_okt 29 9 ∧
  am_tgt 29 9 = 38 ∧
  decode (cM m_Model_ring) 32 = .ok (.aload_n 0, 1) ∧
  decode (cM m_Model_ring) 33 = .ok (.iconst 1, 1) ∧
  decode (cM m_Model_ring) 34 = .ok (.invokevirtual 237, 3) ∧
  invT 12 237 = some (m_Model_fail, 0) ∧
  nM m_Model_fail = 2 ∧
  oM m_Model_fail = 12 ∧
  rkM m_Model_fail = 1 ∧
  dM m_Model_fail = 0 ∧
  decode (cM m_Model_ring) 37 = .ok (.ireturn, 1) ∧
  decode (cM m_Model_ring) 38 = .ok (.iload_n 3, 1) ∧
  decode (cM m_Model_ring) 39 = .ok (.iconst 2, 1) ∧
  decode (cM m_Model_ring) 40 = .ok (.if_icmp .ge 30, 3) ∧
  am_okt 40 30 ∧
  am_tgt 40 30 = 70 ∧
  decode (cM m_Model_ring) 43 = .ok (.iload_n 3, 1) ∧
  decode (cM m_Model_ring) 44 = .ok (.ifCond .ne 15, 3) ∧
  am_okt 44 15 ∧
  am_tgt 44 15 = 59 ∧
  decode (cM m_Model_ring) 47 = .ok (.aload_n 0, 1) ∧
  decode (cM m_Model_ring) 48 = .ok (.iload_n 1, 1) ∧
  decode (cM m_Model_ring) 49 = .ok (.bipush 6, 2) ∧
  decode (cM m_Model_ring) 51 = .ok (.iload_n 2, 1) ∧
  decode (cM m_Model_ring) 52 = .ok (.iadd, 1) ∧
  decode (cM m_Model_ring) 53 = .ok (.invokevirtual 257, 3) ∧
  invT 12 257 = some (m_Model_of, 0) ∧
  nM m_Model_of = 3 ∧
  oM m_Model_of = 12 ∧
  rkM m_Model_of = 1 ∧
  dM m_Model_of = 0 ∧
  decode (cM m_Model_ring) 56 = .ok (.goto 13, 3) ∧
  am_okt 56 13 ∧
  am_tgt 56 13 = 69 ∧
  decode (cM m_Model_ring) 59 = .ok (.aload_n 0, 1) ∧
  decode (cM m_Model_ring) 60 = .ok (.iload_n 1, 1) ∧
  decode (cM m_Model_ring) 61 = .ok (.iconst 5, 1) ∧
  decode (cM m_Model_ring) 62 = .ok (.invokevirtual 257, 3) ∧
  decode (cM m_Model_ring) 65 = .ok (.iload_n 2, 1) ∧
  decode (cM m_Model_ring) 66 = .ok (.ishr, 1) ∧
  decode (cM m_Model_ring) 67 = .ok (.iconst 1, 1) ∧
  decode (cM m_Model_ring) 68 = .ok (.iand, 1) ∧
  decode (cM m_Model_ring) 69 = .ok (.ireturn, 1) ∧
  decode (cM m_Model_ring) 70 = .ok (.aload_n 0, 1) ∧
  decode (cM m_Model_ring) 71 = .ok (.iload_n 1, 1) ∧
  decode (cM m_Model_ring) 72 = .ok (.invokevirtual 362, 3) ∧
  invT 12 362 = some (m_Model_layB, 0) ∧
  nM m_Model_layB = 2 ∧
  oM m_Model_layB = 12 ∧
  rkM m_Model_layB = 0 ∧
  dM m_Model_layB = 4 ∧
  decode (cM m_Model_ring) 75 = .ok (.iload_n 3, 1) ∧
  decode (cM m_Model_ring) 76 = .ok (.iconst 2, 1) ∧
  decode (cM m_Model_ring) 77 = .ok (.if_icmp .ne 12, 3) ∧
  am_okt 77 12 ∧
  am_tgt 77 12 = 89 ∧
  decode (cM m_Model_ring) 80 = .ok (.aload_n 0, 1) ∧
  decode (cM m_Model_ring) 81 = .ok (.getfield 62, 3) ∧
  fldT 12 62 = some (12, 24, 2) ∧
  decode (cM m_Model_ring) 84 = .ok (.iload_n 2, 1) ∧
  decode (cM m_Model_ring) 85 = .ok (.iaload, 1) ∧
  decode (cM m_Model_ring) 86 = .ok (.goto 9, 3) ∧
  am_okt 86 9 ∧
  am_tgt 86 9 = 95 ∧
  decode (cM m_Model_ring) 89 = .ok (.aload_n 0, 1) ∧
  decode (cM m_Model_ring) 90 = .ok (.getfield 65, 3) ∧
  fldT 12 65 = some (12, 25, 2) ∧
  decode (cM m_Model_ring) 93 = .ok (.iload_n 2, 1) ∧
  decode (cM m_Model_ring) 94 = .ok (.iaload, 1) ∧
  decode (cM m_Model_ring) 95 = .ok (.ireturn, 1) :=
  ⟨rfl, rfl, rfl, rfl, by decide +kernel, by decide +kernel, by decide +kernel, rfl, by decide +kernel, by decide +kernel, by decide +kernel, by decide +kernel, rfl, rfl, rfl, rfl, rfl, by decide +kernel, rfl, rfl, by decide +kernel, by decide +kernel, by decide +kernel, by decide +kernel, rfl, rfl, rfl, rfl, rfl, by decide +kernel, rfl, rfl, by decide +kernel, by decide +kernel, rfl, rfl, by decide +kernel, by decide +kernel, by decide +kernel, rfl, rfl, by decide +kernel, by decide +kernel, by decide +kernel, rfl, rfl, rfl, rfl, rfl, by decide +kernel, by decide +kernel, by decide +kernel, by decide +kernel, rfl, rfl, by decide +kernel, by decide +kernel, rfl, rfl, by decide +kernel, by decide +kernel, by decide +kernel, by decide +kernel, by decide +kernel, by decide +kernel, rfl, rfl, rfl, rfl, rfl, by decide +kernel, rfl, rfl, by decide +kernel, by decide +kernel, by decide +kernel, by decide +kernel, by decide +kernel, by decide +kernel, by decide +kernel, by decide +kernel, by decide +kernel, by decide +kernel, by decide +kernel, by decide +kernel, rfl, rfl, rfl, rfl, rfl, by decide +kernel, by decide +kernel, by decide +kernel, rfl, rfl, by decide +kernel, by decide +kernel, rfl, by decide +kernel, by decide +kernel, by decide +kernel, rfl, rfl, by decide +kernel, by decide +kernel, rfl, by decide +kernel, by decide +kernel, by decide +kernel⟩
set_option maxRecDepth 100000 in
set_option maxHeartbeats 4000000 in
theorem C_Model_isRing : oM m_Model_isRing = 12 ∧
  rkM m_Model_isRing = 2 ∧
  dM m_Model_isRing = 2 ∧
  lM m_Model_isRing = 3 ∧
  decode (cM m_Model_isRing) 0 = .ok (.aload_n 0, 1) ∧
  decode (cM m_Model_isRing) 1 = .ok (.iload_n 1, 1) ∧
  decode (cM m_Model_isRing) 2 = .ok (.invokevirtual 432, 3) ∧
  invT 12 432 = some (m_Model_isTimber, 0) ∧
  nM m_Model_isTimber = 2 ∧
  oM m_Model_isTimber = 12 ∧
  rkM m_Model_isTimber = 2 ∧
  dM m_Model_isTimber = 1 ∧
  decode (cM m_Model_isRing) 5 = .ok (.ifCond .eq 23, 3) ∧
  am_okt 5 23 ∧
  am_tgt 5 23 = 28 ∧
  decode (cM m_Model_isRing) 8 = .ok (.iload_n 2, 1) ∧
  decode (cM m_Model_isRing) 9 = .ok (.iconst 0, 1) ∧
  decode (cM m_Model_isRing) 10 = .ok (.aload_n 0, 1) ∧
  decode (cM m_Model_isRing) 11 = .ok (.iload_n 1, 1) ∧
  decode (cM m_Model_isRing) 12 = .ok (.iconst 0, 1) ∧
  decode (cM m_Model_isRing) 13 = .ok (.invokevirtual 257, 3) ∧
  invT 12 257 = some (m_Model_of, 0) ∧
  nM m_Model_of = 3 ∧
  oM m_Model_of = 12 ∧
  rkM m_Model_of = 1 ∧
  dM m_Model_of = 0 ∧
  decode (cM m_Model_isRing) 16 = .ok (.iconst 1, 1) ∧
  decode (cM m_Model_isRing) 17 = .ok (.isub, 1) ∧
  decode (cM m_Model_isRing) 18 = .ok (.invokestatic 221, 3) ∧
  invT 12 221 = some (m_Model_isIn, 1) ∧
  nM m_Model_isIn = 3 ∧
  oM m_Model_isIn = 12 ∧
  rkM m_Model_isIn = 2 ∧
  dM m_Model_isIn = 0 ∧
  decode (cM m_Model_isRing) 21 = .ok (.ifCond .eq 7, 3) ∧
  am_okt 21 7 ∧
  am_tgt 21 7 = 28 ∧
  decode (cM m_Model_isRing) 24 = .ok (.iconst 1, 1) ∧
  decode (cM m_Model_isRing) 25 = .ok (.goto 4, 3) ∧
  am_okt 25 4 ∧
  am_tgt 25 4 = 29 ∧
  decode (cM m_Model_isRing) 28 = .ok (.iconst 0, 1) ∧
  decode (cM m_Model_isRing) 29 = .ok (.ireturn, 1) :=
  ⟨rfl, rfl, rfl, rfl, by decide +kernel, by decide +kernel, by decide +kernel, rfl, rfl, rfl, rfl, rfl, by decide +kernel, rfl, rfl, by decide +kernel, by decide +kernel, by decide +kernel, by decide +kernel, by decide +kernel, by decide +kernel, rfl, rfl, rfl, rfl, rfl, by decide +kernel, by decide +kernel, by decide +kernel, rfl, rfl, rfl, rfl, rfl, by decide +kernel, rfl, rfl, by decide +kernel, by decide +kernel, rfl, rfl, by decide +kernel, by decide +kernel⟩
set_option maxRecDepth 100000 in
set_option maxHeartbeats 4000000 in
theorem C_Model_index : oM m_Model_index = 12 ∧
  rkM m_Model_index = 1 ∧
  dM m_Model_index = 4 ∧
  lM m_Model_index = 3 ∧
  decode (cM m_Model_index) 0 = .ok (.aload_n 0, 1) ∧
  decode (cM m_Model_index) 1 = .ok (.iconst 0, 1) ∧
  decode (cM m_Model_index) 2 = .ok (.putfield 142, 3) ∧
  fldT 12 142 = some (12, 1, 0) ∧
  decode (cM m_Model_index) 5 = .ok (.iconst 0, 1) ∧
  decode (cM m_Model_index) 6 = .ok (.istore_n 2, 1) ∧
  decode (cM m_Model_index) 7 = .ok (.iload_n 2, 1) ∧
  decode (cM m_Model_index) 8 = .ok (.aload_n 0, 1) ∧
  decode (cM m_Model_index) 9 = .ok (.getfield 27, 3) ∧
  fldT 12 27 = some (12, 2, 2) ∧
  decode (cM m_Model_index) 12 = .ok (.iconst 0, 1) ∧
  decode (cM m_Model_index) 13 = .ok (.iaload, 1) ∧
  decode (cM m_Model_index) 14 = .ok (.if_icmp .ge 20, 3) ∧
  am_okt 14 20 ∧
  am_tgt 14 20 = 34 ∧
  decode (cM m_Model_index) 17 = .ok (.aload_n 0, 1) ∧
  decode (cM m_Model_index) 18 = .ok (.getfield 68, 3) ∧
  fldT 12 68 = some (12, 31, 2) ∧
  decode (cM m_Model_index) 21 = .ok (.iload_n 2, 1) ∧
  decode (cM m_Model_index) 22 = .ok (.aload_n 0, 1) ∧
  decode (cM m_Model_index) 23 = .ok (.iload_n 2, 1) ∧
  decode (cM m_Model_index) 24 = .ok (.invokevirtual 303, 3) ∧
  invT 12 303 = some (m_Model_widths, 0) ∧
  nM m_Model_widths = 2 ∧
  oM m_Model_widths = 12 ∧
  rkM m_Model_widths = 1 ∧
  dM m_Model_widths = 1 ∧
  decode (cM m_Model_index) 27 = .ok (.iastore, 1) ∧
  decode (cM m_Model_index) 28 = .ok (.iinc 2 1, 3) ∧
  decode (cM m_Model_index) 31 = .ok (.goto (-24), 3) ∧
  am_okt 31 (-24) ∧
  am_tgt 31 (-24) = 7 ∧
  decode (cM m_Model_index) 34 = .ok (.aload_n 0, 1) ∧
  decode (cM m_Model_index) 35 = .ok (.iload_n 1, 1) ∧
  decode (cM m_Model_index) 36 = .ok (.iconst (-1), 1) ∧
  decode (cM m_Model_index) 37 = .ok (.invokevirtual 309, 3) ∧
  invT 12 309 = some (m_Model_indexOf, 0) ∧
  nM m_Model_indexOf = 3 ∧
  oM m_Model_indexOf = 12 ∧
  rkM m_Model_indexOf = 1 ∧
  dM m_Model_indexOf = 3 ∧
  decode (cM m_Model_index) 40 = .ok (.ireturn, 1) :=
  ⟨rfl, rfl, rfl, rfl, by decide +kernel, by decide +kernel, by decide +kernel, rfl, by decide +kernel, by decide +kernel, by decide +kernel, by decide +kernel, by decide +kernel, rfl, by decide +kernel, by decide +kernel, by decide +kernel, rfl, rfl, by decide +kernel, by decide +kernel, rfl, by decide +kernel, by decide +kernel, by decide +kernel, by decide +kernel, rfl, rfl, rfl, rfl, rfl, by decide +kernel, by decide +kernel, by decide +kernel, rfl, rfl, by decide +kernel, by decide +kernel, by decide +kernel, by decide +kernel, rfl, rfl, rfl, rfl, rfl, by decide +kernel⟩
set_option maxRecDepth 100000 in
set_option maxHeartbeats 4000000 in
theorem C_Model_depth : oM m_Model_depth = 12 ∧
  rkM m_Model_depth = 1 ∧
  dM m_Model_depth = 3 ∧
  lM m_Model_depth = 4 ∧
  decode (cM m_Model_depth) 0 = .ok (.aload_n 0, 1) ∧
  decode (cM m_Model_depth) 1 = .ok (.iconst 0, 1) ∧
  decode (cM m_Model_depth) 2 = .ok (.putfield 142, 3) ∧
  fldT 12 142 = some (12, 1, 0) ∧
  decode (cM m_Model_depth) 5 = .ok (.iconst 0, 1) ∧
  decode (cM m_Model_depth) 6 = .ok (.istore_n 2, 1) ∧
  decode (cM m_Model_depth) 7 = .ok (.iconst 0, 1) ∧
  decode (cM m_Model_depth) 8 = .ok (.istore_n 3, 1) ∧
  decode (cM m_Model_depth) 9 = .ok (.iload_n 3, 1) ∧
  decode (cM m_Model_depth) 10 = .ok (.aload_n 0, 1) ∧
  decode (cM m_Model_depth) 11 = .ok (.getfield 27, 3) ∧
  fldT 12 27 = some (12, 2, 2) ∧
  decode (cM m_Model_depth) 14 = .ok (.iconst 0, 1) ∧
  decode (cM m_Model_depth) 15 = .ok (.iaload, 1) ∧
  decode (cM m_Model_depth) 16 = .ok (.if_icmp .ge 27, 3) ∧
  am_okt 16 27 ∧
  am_tgt 16 27 = 43 ∧
  decode (cM m_Model_depth) 19 = .ok (.iload_n 2, 1) ∧
  decode (cM m_Model_depth) 20 = .ok (.aload_n 0, 1) ∧
  decode (cM m_Model_depth) 21 = .ok (.iload_n 3, 1) ∧
  decode (cM m_Model_depth) 22 = .ok (.iload_n 1, 1) ∧
  decode (cM m_Model_depth) 23 = .ok (.invokevirtual 300, 3) ∧
  invT 12 300 = some (m_Model_ringIn, 0) ∧
  nM m_Model_ringIn = 3 ∧
  oM m_Model_ringIn = 12 ∧
  rkM m_Model_ringIn = 1 ∧
  dM m_Model_ringIn = 2 ∧
  decode (cM m_Model_depth) 26 = .ok (.iconst (-1), 1) ∧
  decode (cM m_Model_depth) 27 = .ok (.if_icmp .eq 7, 3) ∧
  am_okt 27 7 ∧
  am_tgt 27 7 = 34 ∧
  decode (cM m_Model_depth) 30 = .ok (.iconst 1, 1) ∧
  decode (cM m_Model_depth) 31 = .ok (.goto 4, 3) ∧
  am_okt 31 4 ∧
  am_tgt 31 4 = 35 ∧
  decode (cM m_Model_depth) 34 = .ok (.iconst 0, 1) ∧
  decode (cM m_Model_depth) 35 = .ok (.iadd, 1) ∧
  decode (cM m_Model_depth) 36 = .ok (.istore_n 2, 1) ∧
  decode (cM m_Model_depth) 37 = .ok (.iinc 3 1, 3) ∧
  decode (cM m_Model_depth) 40 = .ok (.goto (-31), 3) ∧
  am_okt 40 (-31) ∧
  am_tgt 40 (-31) = 9 ∧
  decode (cM m_Model_depth) 43 = .ok (.iload_n 2, 1) ∧
  decode (cM m_Model_depth) 44 = .ok (.ireturn, 1) :=
  ⟨rfl, rfl, rfl, rfl, by decide +kernel, by decide +kernel, by decide +kernel, rfl, by decide +kernel, by decide +kernel, by decide +kernel, by decide +kernel, by decide +kernel, by decide +kernel, by decide +kernel, rfl, by decide +kernel, by decide +kernel, by decide +kernel, rfl, rfl, by decide +kernel, by decide +kernel, by decide +kernel, by decide +kernel, by decide +kernel, rfl, rfl, rfl, rfl, rfl, by decide +kernel, by decide +kernel, rfl, rfl, by decide +kernel, by decide +kernel, rfl, rfl, by decide +kernel, by decide +kernel, by decide +kernel, by decide +kernel, by decide +kernel, rfl, rfl, by decide +kernel, by decide +kernel⟩
set_option maxRecDepth 100000 in
set_option maxHeartbeats 4000000 in
theorem C_Model_pointer : oM m_Model_pointer = 12 ∧
  rkM m_Model_pointer = 1 ∧
  dM m_Model_pointer = 5 ∧
  lM m_Model_pointer = 6 ∧
  decode (cM m_Model_pointer) 0 = .ok (.aload_n 0, 1) ∧
  decode (cM m_Model_pointer) 1 = .ok (.iconst 0, 1) ∧
  decode (cM m_Model_pointer) 2 = .ok (.putfield 142, 3) ∧
  fldT 12 142 = some (12, 1, 0) ∧
  decode (cM m_Model_pointer) 5 = .ok (.iload_n 1, 1) ∧
  decode (cM m_Model_pointer) 6 = .ok (.ifCond .lt 12, 3) ∧
  am_okt 6 12 ∧
  am_tgt 6 12 = 18 ∧
  decode (cM m_Model_pointer) 9 = .ok (.iload_n 2, 1) ∧
  decode (cM m_Model_pointer) 10 = .ok (.iconst 0, 1) ∧
  decode (cM m_Model_pointer) 11 = .ok (.iconst 1, 1) ∧
  decode (cM m_Model_pointer) 12 = .ok (.invokestatic 221, 3) ∧
  invT 12 221 = some (m_Model_isIn, 1) ∧
  nM m_Model_isIn = 3 ∧
  oM m_Model_isIn = 12 ∧
  rkM m_Model_isIn = 2 ∧
  dM m_Model_isIn = 0 ∧
  decode (cM m_Model_pointer) 15 = .ok (.ifCond .ne 9, 3) ∧
  am_okt 15 9 ∧
  am_tgt 15 9 = 24 ∧
  decode (cM m_Model_pointer) 18 = .ok (.aload_n 0, 1) ∧
  decode (cM m_Model_pointer) 19 = .ok (.iconst 1, 1) ∧
  decode (cM m_Model_pointer) 20 = .ok (.invokevirtual 237, 3) ∧
  invT 12 237 = some (m_Model_fail, 0) ∧
  nM m_Model_fail = 2 ∧
  oM m_Model_fail = 12 ∧
  rkM m_Model_fail = 1 ∧
  dM m_Model_fail = 0 ∧
  decode (cM m_Model_pointer) 23 = .ok (.ireturn, 1) ∧
  decode (cM m_Model_pointer) 24 = .ok (.iconst 0, 1) ∧
  decode (cM m_Model_pointer) 25 = .ok (.istore_n 3, 1) ∧
  decode (cM m_Model_pointer) 26 = .ok (.iconst 0, 1) ∧
  decode (cM m_Model_pointer) 27 = .ok (.istore 4, 2) ∧
  decode (cM m_Model_pointer) 29 = .ok (.iload 4, 2) ∧
  decode (cM m_Model_pointer) 31 = .ok (.sipush 1000, 3) ∧
  decode (cM m_Model_pointer) 34 = .ok (.if_icmp .ge 45, 3) ∧
  am_okt 34 45 ∧
  am_tgt 34 45 = 79 ∧
  decode (cM m_Model_pointer) 37 = .ok (.aload_n 0, 1) ∧
  decode (cM m_Model_pointer) 38 = .ok (.iload 4, 2) ∧
  decode (cM m_Model_pointer) 40 = .ok (.invokevirtual 407, 3) ∧
  invT 12 407 = some (m_Model_pointerIn, 0) ∧
  nM m_Model_pointerIn = 2 ∧
  oM m_Model_pointerIn = 12 ∧
  rkM m_Model_pointerIn = 1 ∧
  dM m_Model_pointerIn = 4 ∧
  decode (cM m_Model_pointer) 43 = .ok (.istore 5, 2) ∧
  decode (cM m_Model_pointer) 45 = .ok (.iload 5, 2) ∧
  decode (cM m_Model_pointer) 47 = .ok (.ifCond .ne 6, 3) ∧
  am_okt 47 6 ∧
  am_tgt 47 6 = 53 ∧
  decode (cM m_Model_pointer) 50 = .ok (.goto 23, 3) ∧
  am_okt 50 23 ∧
  am_tgt 50 23 = 73 ∧
  decode (cM m_Model_pointer) 53 = .ok (.iload_n 3, 1) ∧
  decode (cM m_Model_pointer) 54 = .ok (.iload_n 1, 1) ∧
  decode (cM m_Model_pointer) 55 = .ok (.if_icmp .ne 15, 3) ∧
  am_okt 55 15 ∧
  am_tgt 55 15 = 70 ∧
  decode (cM m_Model_pointer) 58 = .ok (.iload_n 2, 1) ∧
  decode (cM m_Model_pointer) 59 = .ok (.ifCond .ne 8, 3) ∧
  am_okt 59 8 ∧
  am_tgt 59 8 = 67 ∧
  decode (cM m_Model_pointer) 62 = .ok (.iload 4, 2) ∧
  decode (cM m_Model_pointer) 64 = .ok (.goto 5, 3) ∧
  am_okt 64 5 ∧
  am_tgt 64 5 = 69 ∧
  decode (cM m_Model_pointer) 67 = .ok (.iload 5, 2) ∧
  decode (cM m_Model_pointer) 69 = .ok (.ireturn, 1) ∧
  decode (cM m_Model_pointer) 70 = .ok (.iinc 3 1, 3) ∧
  decode (cM m_Model_pointer) 73 = .ok (.iinc 4 1, 3) ∧
  decode (cM m_Model_pointer) 76 = .ok (.goto (-47), 3) ∧
  am_okt 76 (-47) ∧
  am_tgt 76 (-47) = 29 ∧
  decode (cM m_Model_pointer) 79 = .ok (.aload_n 0, 1) ∧
  decode (cM m_Model_pointer) 80 = .ok (.iconst 1, 1) ∧
  decode (cM m_Model_pointer) 81 = .ok (.invokevirtual 237, 3) ∧
  decode (cM m_Model_pointer) 84 = .ok (.ireturn, 1) :=
  ⟨rfl, rfl, rfl, rfl, by decide +kernel, by decide +kernel, by decide +kernel, rfl, by decide +kernel, by decide +kernel, rfl, rfl, by decide +kernel, by decide +kernel, by decide +kernel, by decide +kernel, rfl, rfl, rfl, rfl, rfl, by decide +kernel, rfl, rfl, by decide +kernel, by decide +kernel, by decide +kernel, rfl, rfl, rfl, rfl, rfl, by decide +kernel, by decide +kernel, by decide +kernel, by decide +kernel, by decide +kernel, by decide +kernel, by decide +kernel, by decide +kernel, rfl, rfl, by decide +kernel, by decide +kernel, by decide +kernel, rfl, rfl, rfl, rfl, rfl, by decide +kernel, by decide +kernel, by decide +kernel, rfl, rfl, by decide +kernel, rfl, rfl, by decide +kernel, by decide +kernel, by decide +kernel, rfl, rfl, by decide +kernel, by decide +kernel, rfl, rfl, by decide +kernel, by decide +kernel, rfl, rfl, by decide +kernel, by decide +kernel, by decide +kernel, by decide +kernel, by decide +kernel, rfl, rfl, by decide +kernel, by decide +kernel, by decide +kernel, by decide +kernel⟩
set_option maxRecDepth 100000 in
set_option maxHeartbeats 4000000 in
theorem C_Model_slid : oM m_Model_slid = 12 ∧
  rkM m_Model_slid = 1 ∧
  dM m_Model_slid = 5 ∧
  lM m_Model_slid = 5 ∧
  decode (cM m_Model_slid) 0 = .ok (.aload_n 0, 1) ∧
  decode (cM m_Model_slid) 1 = .ok (.iconst 0, 1) ∧
  decode (cM m_Model_slid) 2 = .ok (.putfield 142, 3) ∧
  fldT 12 142 = some (12, 1, 0) ∧
  decode (cM m_Model_slid) 5 = .ok (.aload_n 0, 1) ∧
  decode (cM m_Model_slid) 6 = .ok (.iload_n 1, 1) ∧
  decode (cM m_Model_slid) 7 = .ok (.invokevirtual 432, 3) ∧
  invT 12 432 = some (m_Model_isTimber, 0) ∧
  nM m_Model_isTimber = 2 ∧
  oM m_Model_isTimber = 12 ∧
  rkM m_Model_isTimber = 2 ∧
  dM m_Model_isTimber = 1 ∧
  decode (cM m_Model_slid) 10 = .ok (.ifCond .eq 21, 3) ∧
  am_okt 10 21 ∧
  am_tgt 10 21 = 31 ∧
  decode (cM m_Model_slid) 13 = .ok (.aload_n 0, 1) ∧
  decode (cM m_Model_slid) 14 = .ok (.iload_n 2, 1) ∧
  decode (cM m_Model_slid) 15 = .ok (.invokevirtual 432, 3) ∧
  decode (cM m_Model_slid) 18 = .ok (.ifCond .eq 13, 3) ∧
  am_okt 18 13 ∧
  am_tgt 18 13 = 31 ∧
  decode (cM m_Model_slid) 21 = .ok (.iload 4, 2) ∧
  decode (cM m_Model_slid) 23 = .ok (.iconst 0, 1) ∧
  decode (cM m_Model_slid) 24 = .ok (.iconst 3, 1) ∧
  decode (cM m_Model_slid) 25 = .ok (.invokestatic 221, 3) ∧
  invT 12 221 = some (m_Model_isIn, 1) ∧
  nM m_Model_isIn = 3 ∧
  oM m_Model_isIn = 12 ∧
  rkM m_Model_isIn = 2 ∧
  dM m_Model_isIn = 0 ∧
  decode (cM m_Model_slid) 28 = .ok (.ifCond .ne 9, 3) ∧
  am_okt 28 9 ∧
  am_tgt 28 9 = 37 ∧
  decode (cM m_Model_slid) 31 = .ok (.aload_n 0, 1) ∧
  decode (cM m_Model_slid) 32 = .ok (.iconst 1, 1) ∧
  decode (cM m_Model_slid) 33 = .ok (.invokevirtual 237, 3) ∧
  invT 12 237 = some (m_Model_fail, 0) ∧
  nM m_Model_fail = 2 ∧
  oM m_Model_fail = 12 ∧
  rkM m_Model_fail = 1 ∧
  dM m_Model_fail = 0 ∧
  decode (cM m_Model_slid) 36 = .ok (.ireturn, 1) ∧
  decode (cM m_Model_slid) 37 = .ok (.iload_n 1, 1) ∧
  decode (cM m_Model_slid) 38 = .ok (.iload_n 2, 1) ∧
  decode (cM m_Model_slid) 39 = .ok (.if_icmp .ne 9, 3) ∧
  am_okt 39 9 ∧
  am_tgt 39 9 = 48 ∧
  decode (cM m_Model_slid) 42 = .ok (.aload_n 0, 1) ∧
  decode (cM m_Model_slid) 43 = .ok (.iconst 2, 1) ∧
  decode (cM m_Model_slid) 44 = .ok (.invokevirtual 237, 3) ∧
  decode (cM m_Model_slid) 47 = .ok (.ireturn, 1) ∧
  decode (cM m_Model_slid) 48 = .ok (.iload_n 3, 1) ∧
  decode (cM m_Model_slid) 49 = .ok (.bipush (-24), 2) ∧
  decode (cM m_Model_slid) 51 = .ok (.bipush 24, 2) ∧
  decode (cM m_Model_slid) 53 = .ok (.invokestatic 221, 3) ∧
  decode (cM m_Model_slid) 56 = .ok (.ifCond .ne 5, 3) ∧
  am_okt 56 5 ∧
  am_tgt 56 5 = 61 ∧
  decode (cM m_Model_slid) 59 = .ok (.iconst (-1), 1) ∧
  decode (cM m_Model_slid) 60 = .ok (.ireturn, 1) ∧
  decode (cM m_Model_slid) 61 = .ok (.aload_n 0, 1) ∧
  decode (cM m_Model_slid) 62 = .ok (.iload_n 2, 1) ∧
  decode (cM m_Model_slid) 63 = .ok (.invokevirtual 359, 3) ∧
  invT 12 359 = some (m_Model_layA, 0) ∧
  nM m_Model_layA = 2 ∧
  oM m_Model_layA = 12 ∧
  rkM m_Model_layA = 0 ∧
  dM m_Model_layA = 3 ∧
  decode (cM m_Model_slid) 66 = .ok (.aload_n 0, 1) ∧
  decode (cM m_Model_slid) 67 = .ok (.iload_n 1, 1) ∧
  decode (cM m_Model_slid) 68 = .ok (.invokevirtual 362, 3) ∧
  invT 12 362 = some (m_Model_layB, 0) ∧
  nM m_Model_layB = 2 ∧
  oM m_Model_layB = 12 ∧
  rkM m_Model_layB = 0 ∧
  dM m_Model_layB = 4 ∧
  decode (cM m_Model_slid) 71 = .ok (.aload_n 0, 1) ∧
  decode (cM m_Model_slid) 72 = .ok (.iload_n 3, 1) ∧
  decode (cM m_Model_slid) 73 = .ok (.invokevirtual 337, 3) ∧
  invT 12 337 = some (m_Model_slide, 0) ∧
  nM m_Model_slide = 2 ∧
  oM m_Model_slide = 12 ∧
  rkM m_Model_slide = 0 ∧
  dM m_Model_slide = 1 ∧
  decode (cM m_Model_slid) 76 = .ok (.aload_n 0, 1) ∧
  decode (cM m_Model_slid) 77 = .ok (.getfield 312, 3) ∧
  fldT 12 312 = some (12, 32, 0) ∧
  decode (cM m_Model_slid) 80 = .ok (.ifCond .ne 7, 3) ∧
  am_okt 80 7 ∧
  am_tgt 80 7 = 87 ∧
  decode (cM m_Model_slid) 83 = .ok (.iconst (-1), 1) ∧
  decode (cM m_Model_slid) 84 = .ok (.goto 45, 3) ∧
  am_okt 84 45 ∧
  am_tgt 84 45 = 129 ∧
  decode (cM m_Model_slid) 87 = .ok (.iload 4, 2) ∧
  decode (cM m_Model_slid) 89 = .ok (.ifCond .ne 10, 3) ∧
  am_okt 89 10 ∧
  am_tgt 89 10 = 99 ∧
  decode (cM m_Model_slid) 92 = .ok (.aload_n 0, 1) ∧
  decode (cM m_Model_slid) 93 = .ok (.getfield 328, 3) ∧
  fldT 12 328 = some (12, 35, 0) ∧
  decode (cM m_Model_slid) 96 = .ok (.goto 33, 3) ∧
  am_okt 96 33 ∧
  am_tgt 96 33 = 129 ∧
  decode (cM m_Model_slid) 99 = .ok (.iload 4, 2) ∧
  decode (cM m_Model_slid) 101 = .ok (.iconst 1, 1) ∧
  decode (cM m_Model_slid) 102 = .ok (.if_icmp .ne 10, 3) ∧
  am_okt 102 10 ∧
  am_tgt 102 10 = 112 ∧
  decode (cM m_Model_slid) 105 = .ok (.aload_n 0, 1) ∧
  decode (cM m_Model_slid) 106 = .ok (.getfield 312, 3) ∧
  decode (cM m_Model_slid) 109 = .ok (.goto 20, 3) ∧
  am_okt 109 20 ∧
  am_tgt 109 20 = 129 ∧
  decode (cM m_Model_slid) 112 = .ok (.iload 4, 2) ∧
  decode (cM m_Model_slid) 114 = .ok (.iconst 2, 1) ∧
  decode (cM m_Model_slid) 115 = .ok (.if_icmp .ne 10, 3) ∧
  am_okt 115 10 ∧
  am_tgt 115 10 = 125 ∧
  decode (cM m_Model_slid) 118 = .ok (.aload_n 0, 1) ∧
  decode (cM m_Model_slid) 119 = .ok (.getfield 322, 3) ∧
  fldT 12 322 = some (12, 33, 0) ∧
  decode (cM m_Model_slid) 122 = .ok (.goto 7, 3) ∧
  am_okt 122 7 ∧
  am_tgt 122 7 = 129 ∧
  decode (cM m_Model_slid) 125 = .ok (.aload_n 0, 1) ∧
  decode (cM m_Model_slid) 126 = .ok (.getfield 325, 3) ∧
  fldT 12 325 = some (12, 34, 0) ∧
  decode (cM m_Model_slid) 129 = .ok (.ireturn, 1) :=
  ⟨rfl, rfl, rfl, rfl, by decide +kernel, by decide +kernel, by decide +kernel, rfl, by decide +kernel, by decide +kernel, by decide +kernel, rfl, rfl, rfl, rfl, rfl, by decide +kernel, rfl, rfl, by decide +kernel, by decide +kernel, by decide +kernel, by decide +kernel, rfl, rfl, by decide +kernel, by decide +kernel, by decide +kernel, by decide +kernel, rfl, rfl, rfl, rfl, rfl, by decide +kernel, rfl, rfl, by decide +kernel, by decide +kernel, by decide +kernel, rfl, rfl, rfl, rfl, rfl, by decide +kernel, by decide +kernel, by decide +kernel, by decide +kernel, rfl, rfl, by decide +kernel, by decide +kernel, by decide +kernel, by decide +kernel, by decide +kernel, by decide +kernel, by decide +kernel, by decide +kernel, by decide +kernel, rfl, rfl, by decide +kernel, by decide +kernel, by decide +kernel, by decide +kernel, by decide +kernel, rfl, rfl, rfl, rfl, rfl, by decide +kernel, by decide +kernel, by decide +kernel, rfl, rfl, rfl, rfl, rfl, by decide +kernel, by decide +kernel, by decide +kernel, rfl, rfl, rfl, rfl, rfl, by decide +kernel, by decide +kernel, rfl, by decide +kernel, rfl, rfl, by decide +kernel, by decide +kernel, rfl, rfl, by decide +kernel, by decide +kernel, rfl, rfl, by decide +kernel, by decide +kernel, rfl, by decide +kernel, rfl, rfl, by decide +kernel, by decide +kernel, by decide +kernel, rfl, rfl, by decide +kernel, by decide +kernel, by decide +kernel, rfl, rfl, by decide +kernel, by decide +kernel, by decide +kernel, rfl, rfl, by decide +kernel, by decide +kernel, rfl, by decide +kernel, rfl, rfl, by decide +kernel, by decide +kernel, rfl, by decide +kernel⟩
set_option maxRecDepth 100000 in
set_option maxHeartbeats 4000000 in
theorem C_Model_best : oM m_Model_best = 12 ∧
  rkM m_Model_best = 1 ∧
  dM m_Model_best = 5 ∧
  lM m_Model_best = 4 ∧
  decode (cM m_Model_best) 0 = .ok (.aload_n 0, 1) ∧
  decode (cM m_Model_best) 1 = .ok (.iconst 0, 1) ∧
  decode (cM m_Model_best) 2 = .ok (.putfield 142, 3) ∧
  fldT 12 142 = some (12, 1, 0) ∧
  decode (cM m_Model_best) 5 = .ok (.aload_n 0, 1) ∧
  decode (cM m_Model_best) 6 = .ok (.iload_n 1, 1) ∧
  decode (cM m_Model_best) 7 = .ok (.invokevirtual 432, 3) ∧
  invT 12 432 = some (m_Model_isTimber, 0) ∧
  nM m_Model_isTimber = 2 ∧
  oM m_Model_isTimber = 12 ∧
  rkM m_Model_isTimber = 2 ∧
  dM m_Model_isTimber = 1 ∧
  decode (cM m_Model_best) 10 = .ok (.ifCond .eq 25, 3) ∧
  am_okt 10 25 ∧
  am_tgt 10 25 = 35 ∧
  decode (cM m_Model_best) 13 = .ok (.iload_n 2, 1) ∧
  decode (cM m_Model_best) 14 = .ok (.iconst (-1), 1) ∧
  decode (cM m_Model_best) 15 = .ok (.if_icmp .eq 11, 3) ∧
  am_okt 15 11 ∧
  am_tgt 15 11 = 26 ∧
  decode (cM m_Model_best) 18 = .ok (.aload_n 0, 1) ∧
  decode (cM m_Model_best) 19 = .ok (.iload_n 2, 1) ∧
  decode (cM m_Model_best) 20 = .ok (.invokevirtual 432, 3) ∧
  decode (cM m_Model_best) 23 = .ok (.ifCond .eq 12, 3) ∧
  am_okt 23 12 ∧
  am_tgt 23 12 = 35 ∧
  decode (cM m_Model_best) 26 = .ok (.iload_n 3, 1) ∧
  decode (cM m_Model_best) 27 = .ok (.iconst 0, 1) ∧
  decode (cM m_Model_best) 28 = .ok (.iconst 4, 1) ∧
  decode (cM m_Model_best) 29 = .ok (.invokestatic 221, 3) ∧
  invT 12 221 = some (m_Model_isIn, 1) ∧
  nM m_Model_isIn = 3 ∧
  oM m_Model_isIn = 12 ∧
  rkM m_Model_isIn = 2 ∧
  dM m_Model_isIn = 0 ∧
  decode (cM m_Model_best) 32 = .ok (.ifCond .ne 9, 3) ∧
  am_okt 32 9 ∧
  am_tgt 32 9 = 41 ∧
  decode (cM m_Model_best) 35 = .ok (.aload_n 0, 1) ∧
  decode (cM m_Model_best) 36 = .ok (.iconst 1, 1) ∧
  decode (cM m_Model_best) 37 = .ok (.invokevirtual 237, 3) ∧
  invT 12 237 = some (m_Model_fail, 0) ∧
  nM m_Model_fail = 2 ∧
  oM m_Model_fail = 12 ∧
  rkM m_Model_fail = 1 ∧
  dM m_Model_fail = 0 ∧
  decode (cM m_Model_best) 40 = .ok (.ireturn, 1) ∧
  decode (cM m_Model_best) 41 = .ok (.iload_n 1, 1) ∧
  decode (cM m_Model_best) 42 = .ok (.iload_n 2, 1) ∧
  decode (cM m_Model_best) 43 = .ok (.if_icmp .ne 9, 3) ∧
  am_okt 43 9 ∧
  am_tgt 43 9 = 52 ∧
  decode (cM m_Model_best) 46 = .ok (.aload_n 0, 1) ∧
  decode (cM m_Model_best) 47 = .ok (.iconst 2, 1) ∧
  decode (cM m_Model_best) 48 = .ok (.invokevirtual 237, 3) ∧
  decode (cM m_Model_best) 51 = .ok (.ireturn, 1) ∧
  decode (cM m_Model_best) 52 = .ok (.iload_n 2, 1) ∧
  decode (cM m_Model_best) 53 = .ok (.iconst (-1), 1) ∧
  decode (cM m_Model_best) 54 = .ok (.if_icmp .ne 11, 3) ∧
  am_okt 54 11 ∧
  am_tgt 54 11 = 65 ∧
  decode (cM m_Model_best) 57 = .ok (.aload_n 0, 1) ∧
  decode (cM m_Model_best) 58 = .ok (.iload_n 1, 1) ∧
  decode (cM m_Model_best) 59 = .ok (.invokevirtual 383, 3) ∧
  invT 12 383 = some (m_Model_layChronology, 0) ∧
  nM m_Model_layChronology = 2 ∧
  oM m_Model_layChronology = 12 ∧
  rkM m_Model_layChronology = 0 ∧
  dM m_Model_layChronology = 4 ∧
  decode (cM m_Model_best) 62 = .ok (.goto 8, 3) ∧
  am_okt 62 8 ∧
  am_tgt 62 8 = 70 ∧
  decode (cM m_Model_best) 65 = .ok (.aload_n 0, 1) ∧
  decode (cM m_Model_best) 66 = .ok (.iload_n 2, 1) ∧
  decode (cM m_Model_best) 67 = .ok (.invokevirtual 359, 3) ∧
  invT 12 359 = some (m_Model_layA, 0) ∧
  nM m_Model_layA = 2 ∧
  oM m_Model_layA = 12 ∧
  rkM m_Model_layA = 0 ∧
  dM m_Model_layA = 3 ∧
  decode (cM m_Model_best) 70 = .ok (.aload_n 0, 1) ∧
  decode (cM m_Model_best) 71 = .ok (.iload_n 1, 1) ∧
  decode (cM m_Model_best) 72 = .ok (.invokevirtual 362, 3) ∧
  invT 12 362 = some (m_Model_layB, 0) ∧
  nM m_Model_layB = 2 ∧
  oM m_Model_layB = 12 ∧
  rkM m_Model_layB = 0 ∧
  dM m_Model_layB = 4 ∧
  decode (cM m_Model_best) 75 = .ok (.aload_n 0, 1) ∧
  decode (cM m_Model_best) 76 = .ok (.aload_n 0, 1) ∧
  decode (cM m_Model_best) 77 = .ok (.invokevirtual 365, 3) ∧
  invT 12 365 = some (m_Model_bound, 0) ∧
  nM m_Model_bound = 1 ∧
  oM m_Model_bound = 12 ∧
  rkM m_Model_bound = 1 ∧
  dM m_Model_bound = 0 ∧
  decode (cM m_Model_best) 80 = .ok (.invokevirtual 367, 3) ∧
  invT 12 367 = some (m_Model_tellBest, 0) ∧
  nM m_Model_tellBest = 2 ∧
  oM m_Model_tellBest = 12 ∧
  rkM m_Model_tellBest = 0 ∧
  dM m_Model_tellBest = 2 ∧
  decode (cM m_Model_best) 83 = .ok (.iload_n 3, 1) ∧
  decode (cM m_Model_best) 84 = .ok (.iconst 4, 1) ∧
  decode (cM m_Model_best) 85 = .ok (.if_icmp .ne 8, 3) ∧
  am_okt 85 8 ∧
  am_tgt 85 8 = 93 ∧
  decode (cM m_Model_best) 88 = .ok (.aload_n 0, 1) ∧
  decode (cM m_Model_best) 89 = .ok (.getfield 353, 3) ∧
  fldT 12 353 = some (12, 40, 0) ∧
  decode (cM m_Model_best) 92 = .ok (.ireturn, 1) ∧
  decode (cM m_Model_best) 93 = .ok (.aload_n 0, 1) ∧
  decode (cM m_Model_best) 94 = .ok (.getfield 331, 3) ∧
  fldT 12 331 = some (12, 41, 1) ∧
  decode (cM m_Model_best) 97 = .ok (.ifCond .ne 9, 3) ∧
  am_okt 97 9 ∧
  am_tgt 97 9 = 106 ∧
  decode (cM m_Model_best) 100 = .ok (.sipush (-1000), 3) ∧
  decode (cM m_Model_best) 103 = .ok (.goto 42, 3) ∧
  am_okt 103 42 ∧
  am_tgt 103 42 = 145 ∧
  decode (cM m_Model_best) 106 = .ok (.iload_n 3, 1) ∧
  decode (cM m_Model_best) 107 = .ok (.ifCond .ne 10, 3) ∧
  am_okt 107 10 ∧
  am_tgt 107 10 = 117 ∧
  decode (cM m_Model_best) 110 = .ok (.aload_n 0, 1) ∧
  decode (cM m_Model_best) 111 = .ok (.getfield 348, 3) ∧
  fldT 12 348 = some (12, 36, 0) ∧
  decode (cM m_Model_best) 114 = .ok (.goto 31, 3) ∧
  am_okt 114 31 ∧
  am_tgt 114 31 = 145 ∧
  decode (cM m_Model_best) 117 = .ok (.iload_n 3, 1) ∧
  decode (cM m_Model_best) 118 = .ok (.iconst 1, 1) ∧
  decode (cM m_Model_best) 119 = .ok (.if_icmp .ne 10, 3) ∧
  am_okt 119 10 ∧
  am_tgt 119 10 = 129 ∧
  decode (cM m_Model_best) 122 = .ok (.aload_n 0, 1) ∧
  decode (cM m_Model_best) 123 = .ok (.getfield 342, 3) ∧
  fldT 12 342 = some (12, 37, 0) ∧
  decode (cM m_Model_best) 126 = .ok (.goto 19, 3) ∧
  am_okt 126 19 ∧
  am_tgt 126 19 = 145 ∧
  decode (cM m_Model_best) 129 = .ok (.iload_n 3, 1) ∧
  decode (cM m_Model_best) 130 = .ok (.iconst 2, 1) ∧
  decode (cM m_Model_best) 131 = .ok (.if_icmp .ne 10, 3) ∧
  am_okt 131 10 ∧
  am_tgt 131 10 = 141 ∧
  decode (cM m_Model_best) 134 = .ok (.aload_n 0, 1) ∧
  decode (cM m_Model_best) 135 = .ok (.getfield 345, 3) ∧
  fldT 12 345 = some (12, 38, 0) ∧
  decode (cM m_Model_best) 138 = .ok (.goto 7, 3) ∧
  am_okt 138 7 ∧
  am_tgt 138 7 = 145 ∧
  decode (cM m_Model_best) 141 = .ok (.aload_n 0, 1) ∧
  decode (cM m_Model_best) 142 = .ok (.getfield 334, 3) ∧
  fldT 12 334 = some (12, 39, 0) ∧
  decode (cM m_Model_best) 145 = .ok (.ireturn, 1) :=
  ⟨rfl, rfl, rfl, rfl, by decide +kernel, by decide +kernel, by decide +kernel, rfl, by decide +kernel, by decide +kernel, by decide +kernel, rfl, rfl, rfl, rfl, rfl, by decide +kernel, rfl, rfl, by decide +kernel, by decide +kernel, by decide +kernel, rfl, rfl, by decide +kernel, by decide +kernel, by decide +kernel, by decide +kernel, rfl, rfl, by decide +kernel, by decide +kernel, by decide +kernel, by decide +kernel, rfl, rfl, rfl, rfl, rfl, by decide +kernel, rfl, rfl, by decide +kernel, by decide +kernel, by decide +kernel, rfl, rfl, rfl, rfl, rfl, by decide +kernel, by decide +kernel, by decide +kernel, by decide +kernel, rfl, rfl, by decide +kernel, by decide +kernel, by decide +kernel, by decide +kernel, by decide +kernel, by decide +kernel, by decide +kernel, rfl, rfl, by decide +kernel, by decide +kernel, by decide +kernel, rfl, rfl, rfl, rfl, rfl, by decide +kernel, rfl, rfl, by decide +kernel, by decide +kernel, by decide +kernel, rfl, rfl, rfl, rfl, rfl, by decide +kernel, by decide +kernel, by decide +kernel, rfl, rfl, rfl, rfl, rfl, by decide +kernel, by decide +kernel, by decide +kernel, rfl, rfl, rfl, rfl, rfl, by decide +kernel, rfl, rfl, rfl, rfl, rfl, by decide +kernel, by decide +kernel, by decide +kernel, rfl, rfl, by decide +kernel, by decide +kernel, rfl, by decide +kernel, by decide +kernel, by decide +kernel, rfl, by decide +kernel, rfl, rfl, by decide +kernel, by decide +kernel, rfl, rfl, by decide +kernel, by decide +kernel, rfl, rfl, by decide +kernel, by decide +kernel, rfl, by decide +kernel, rfl, rfl, by decide +kernel, by decide +kernel, by decide +kernel, rfl, rfl, by decide +kernel, by decide +kernel, rfl, by decide +kernel, rfl, rfl, by decide +kernel, by decide +kernel, by decide +kernel, rfl, rfl, by decide +kernel, by decide +kernel, rfl, by decide +kernel, rfl, rfl, by decide +kernel, by decide +kernel, rfl, by decide +kernel⟩
set_option maxRecDepth 100000 in
set_option maxHeartbeats 4000000 in
theorem C_Model_link : oM m_Model_link = 12 ∧
  rkM m_Model_link = 1 ∧
  dM m_Model_link = 6 ∧
  lM m_Model_link = 3 ∧
  decode (cM m_Model_link) 0 = .ok (.aload_n 0, 1) ∧
  decode (cM m_Model_link) 1 = .ok (.iconst 0, 1) ∧
  decode (cM m_Model_link) 2 = .ok (.putfield 142, 3) ∧
  fldT 12 142 = some (12, 1, 0) ∧
  decode (cM m_Model_link) 5 = .ok (.aload_n 0, 1) ∧
  decode (cM m_Model_link) 6 = .ok (.invokevirtual 377, 3) ∧
  invT 12 377 = some (m_Model_tellLinks, 0) ∧
  nM m_Model_tellLinks = 1 ∧
  oM m_Model_tellLinks = 12 ∧
  rkM m_Model_tellLinks = 0 ∧
  dM m_Model_tellLinks = 5 ∧
  decode (cM m_Model_link) 9 = .ok (.iload_n 1, 1) ∧
  decode (cM m_Model_link) 10 = .ok (.iconst 0, 1) ∧
  decode (cM m_Model_link) 11 = .ok (.aload_n 0, 1) ∧
  decode (cM m_Model_link) 12 = .ok (.getfield 356, 3) ∧
  fldT 12 356 = some (12, 49, 0) ∧
  decode (cM m_Model_link) 15 = .ok (.iconst 1, 1) ∧
  decode (cM m_Model_link) 16 = .ok (.isub, 1) ∧
  decode (cM m_Model_link) 17 = .ok (.invokestatic 221, 3) ∧
  invT 12 221 = some (m_Model_isIn, 1) ∧
  nM m_Model_isIn = 3 ∧
  oM m_Model_isIn = 12 ∧
  rkM m_Model_isIn = 2 ∧
  dM m_Model_isIn = 0 ∧
  decode (cM m_Model_link) 20 = .ok (.ifCond .eq 12, 3) ∧
  am_okt 20 12 ∧
  am_tgt 20 12 = 32 ∧
  decode (cM m_Model_link) 23 = .ok (.iload_n 2, 1) ∧
  decode (cM m_Model_link) 24 = .ok (.iconst 0, 1) ∧
  decode (cM m_Model_link) 25 = .ok (.iconst 4, 1) ∧
  decode (cM m_Model_link) 26 = .ok (.invokestatic 221, 3) ∧
  decode (cM m_Model_link) 29 = .ok (.ifCond .ne 9, 3) ∧
  am_okt 29 9 ∧
  am_tgt 29 9 = 38 ∧
  decode (cM m_Model_link) 32 = .ok (.aload_n 0, 1) ∧
  decode (cM m_Model_link) 33 = .ok (.iconst 1, 1) ∧
  decode (cM m_Model_link) 34 = .ok (.invokevirtual 237, 3) ∧
  invT 12 237 = some (m_Model_fail, 0) ∧
  nM m_Model_fail = 2 ∧
  oM m_Model_fail = 12 ∧
  rkM m_Model_fail = 1 ∧
  dM m_Model_fail = 0 ∧
  decode (cM m_Model_link) 37 = .ok (.ireturn, 1) ∧
  decode (cM m_Model_link) 38 = .ok (.iload_n 2, 1) ∧
  decode (cM m_Model_link) 39 = .ok (.ifCond .ne 12, 3) ∧
  am_okt 39 12 ∧
  am_tgt 39 12 = 51 ∧
  decode (cM m_Model_link) 42 = .ok (.aload_n 0, 1) ∧
  decode (cM m_Model_link) 43 = .ok (.getfield 71, 3) ∧
  fldT 12 71 = some (12, 42, 2) ∧
  decode (cM m_Model_link) 46 = .ok (.iload_n 1, 1) ∧
  decode (cM m_Model_link) 47 = .ok (.iaload, 1) ∧
  decode (cM m_Model_link) 48 = .ok (.goto 59, 3) ∧
  am_okt 48 59 ∧
  am_tgt 48 59 = 107 ∧
  decode (cM m_Model_link) 51 = .ok (.iload_n 2, 1) ∧
  decode (cM m_Model_link) 52 = .ok (.iconst 1, 1) ∧
  decode (cM m_Model_link) 53 = .ok (.if_icmp .ne 12, 3) ∧
  am_okt 53 12 ∧
  am_tgt 53 12 = 65 ∧
  decode (cM m_Model_link) 56 = .ok (.aload_n 0, 1) ∧
  decode (cM m_Model_link) 57 = .ok (.getfield 74, 3) ∧
  fldT 12 74 = some (12, 43, 2) ∧
  decode (cM m_Model_link) 60 = .ok (.iload_n 1, 1) ∧
  decode (cM m_Model_link) 61 = .ok (.iaload, 1) ∧
  decode (cM m_Model_link) 62 = .ok (.goto 45, 3) ∧
  am_okt 62 45 ∧
  am_tgt 62 45 = 107 ∧
  decode (cM m_Model_link) 65 = .ok (.iload_n 2, 1) ∧
  decode (cM m_Model_link) 66 = .ok (.iconst 2, 1) ∧
  decode (cM m_Model_link) 67 = .ok (.if_icmp .ne 12, 3) ∧
  am_okt 67 12 ∧
  am_tgt 67 12 = 79 ∧
  decode (cM m_Model_link) 70 = .ok (.aload_n 0, 1) ∧
  decode (cM m_Model_link) 71 = .ok (.getfield 77, 3) ∧
  fldT 12 77 = some (12, 44, 2) ∧
  decode (cM m_Model_link) 74 = .ok (.iload_n 1, 1) ∧
  decode (cM m_Model_link) 75 = .ok (.iaload, 1) ∧
  decode (cM m_Model_link) 76 = .ok (.goto 31, 3) ∧
  am_okt 76 31 ∧
  am_tgt 76 31 = 107 ∧
  decode (cM m_Model_link) 79 = .ok (.iload_n 2, 1) ∧
  decode (cM m_Model_link) 80 = .ok (.iconst 3, 1) ∧
  decode (cM m_Model_link) 81 = .ok (.if_icmp .ne 12, 3) ∧
  am_okt 81 12 ∧
  am_tgt 81 12 = 93 ∧
  decode (cM m_Model_link) 84 = .ok (.aload_n 0, 1) ∧
  decode (cM m_Model_link) 85 = .ok (.getfield 80, 3) ∧
  fldT 12 80 = some (12, 45, 2) ∧
  decode (cM m_Model_link) 88 = .ok (.iload_n 1, 1) ∧
  decode (cM m_Model_link) 89 = .ok (.iaload, 1) ∧
  decode (cM m_Model_link) 90 = .ok (.goto 17, 3) ∧
  am_okt 90 17 ∧
  am_tgt 90 17 = 107 ∧
  decode (cM m_Model_link) 93 = .ok (.aload_n 0, 1) ∧
  decode (cM m_Model_link) 94 = .ok (.getfield 89, 3) ∧
  fldT 12 89 = some (12, 48, 2) ∧
  decode (cM m_Model_link) 97 = .ok (.iload_n 1, 1) ∧
  decode (cM m_Model_link) 98 = .ok (.baload, 1) ∧
  decode (cM m_Model_link) 99 = .ok (.ifCond .eq 7, 3) ∧
  am_okt 99 7 ∧
  am_tgt 99 7 = 106 ∧
  decode (cM m_Model_link) 102 = .ok (.iconst 1, 1) ∧
  decode (cM m_Model_link) 103 = .ok (.goto 4, 3) ∧
  am_okt 103 4 ∧
  am_tgt 103 4 = 107 ∧
  decode (cM m_Model_link) 106 = .ok (.iconst 0, 1) ∧
  decode (cM m_Model_link) 107 = .ok (.ireturn, 1) :=
  ⟨rfl, rfl, rfl, rfl, by decide +kernel, by decide +kernel, by decide +kernel, rfl, by decide +kernel, by decide +kernel, rfl, rfl, rfl, rfl, rfl, by decide +kernel, by decide +kernel, by decide +kernel, by decide +kernel, rfl, by decide +kernel, by decide +kernel, by decide +kernel, rfl, rfl, rfl, rfl, rfl, by decide +kernel, rfl, rfl, by decide +kernel, by decide +kernel, by decide +kernel, by decide +kernel, by decide +kernel, rfl, rfl, by decide +kernel, by decide +kernel, by decide +kernel, rfl, rfl, rfl, rfl, rfl, by decide +kernel, by decide +kernel, by decide +kernel, rfl, rfl, by decide +kernel, by decide +kernel, rfl, by decide +kernel, by decide +kernel, by decide +kernel, rfl, rfl, by decide +kernel, by decide +kernel, by decide +kernel, rfl, rfl, by decide +kernel, by decide +kernel, rfl, by decide +kernel, by decide +kernel, by decide +kernel, rfl, rfl, by decide +kernel, by decide +kernel, by decide +kernel, rfl, rfl, by decide +kernel, by decide +kernel, rfl, by decide +kernel, by decide +kernel, by decide +kernel, rfl, rfl, by decide +kernel, by decide +kernel, by decide +kernel, rfl, rfl, by decide +kernel, by decide +kernel, rfl, by decide +kernel, by decide +kernel, by decide +kernel, rfl, rfl, by decide +kernel, by decide +kernel, rfl, by decide +kernel, by decide +kernel, by decide +kernel, rfl, rfl, by decide +kernel, by decide +kernel, rfl, rfl, by decide +kernel, by decide +kernel⟩
set_option maxRecDepth 100000 in
set_option maxHeartbeats 4000000 in
theorem C_Model_grown : oM m_Model_grown = 12 ∧
  rkM m_Model_grown = 1 ∧
  dM m_Model_grown = 7 ∧
  lM m_Model_grown = 3 ∧
  decode (cM m_Model_grown) 0 = .ok (.aload_n 0, 1) ∧
  decode (cM m_Model_grown) 1 = .ok (.iconst 0, 1) ∧
  decode (cM m_Model_grown) 2 = .ok (.putfield 142, 3) ∧
  fldT 12 142 = some (12, 1, 0) ∧
  decode (cM m_Model_grown) 5 = .ok (.aload_n 0, 1) ∧
  decode (cM m_Model_grown) 6 = .ok (.invokevirtual 429, 3) ∧
  invT 12 429 = some (m_Model_tellGrown, 0) ∧
  nM m_Model_tellGrown = 1 ∧
  oM m_Model_tellGrown = 12 ∧
  rkM m_Model_tellGrown = 0 ∧
  dM m_Model_tellGrown = 6 ∧
  decode (cM m_Model_grown) 9 = .ok (.iload_n 1, 1) ∧
  decode (cM m_Model_grown) 10 = .ok (.iconst 0, 1) ∧
  decode (cM m_Model_grown) 11 = .ok (.aload_n 0, 1) ∧
  decode (cM m_Model_grown) 12 = .ok (.getfield 380, 3) ∧
  fldT 12 380 = some (12, 55, 0) ∧
  decode (cM m_Model_grown) 15 = .ok (.iconst 1, 1) ∧
  decode (cM m_Model_grown) 16 = .ok (.isub, 1) ∧
  decode (cM m_Model_grown) 17 = .ok (.invokestatic 221, 3) ∧
  invT 12 221 = some (m_Model_isIn, 1) ∧
  nM m_Model_isIn = 3 ∧
  oM m_Model_isIn = 12 ∧
  rkM m_Model_isIn = 2 ∧
  dM m_Model_isIn = 0 ∧
  decode (cM m_Model_grown) 20 = .ok (.ifCond .eq 12, 3) ∧
  am_okt 20 12 ∧
  am_tgt 20 12 = 32 ∧
  decode (cM m_Model_grown) 23 = .ok (.iload_n 2, 1) ∧
  decode (cM m_Model_grown) 24 = .ok (.iconst 0, 1) ∧
  decode (cM m_Model_grown) 25 = .ok (.iconst 2, 1) ∧
  decode (cM m_Model_grown) 26 = .ok (.invokestatic 221, 3) ∧
  decode (cM m_Model_grown) 29 = .ok (.ifCond .ne 9, 3) ∧
  am_okt 29 9 ∧
  am_tgt 29 9 = 38 ∧
  decode (cM m_Model_grown) 32 = .ok (.aload_n 0, 1) ∧
  decode (cM m_Model_grown) 33 = .ok (.iconst 1, 1) ∧
  decode (cM m_Model_grown) 34 = .ok (.invokevirtual 237, 3) ∧
  invT 12 237 = some (m_Model_fail, 0) ∧
  nM m_Model_fail = 2 ∧
  oM m_Model_fail = 12 ∧
  rkM m_Model_fail = 1 ∧
  dM m_Model_fail = 0 ∧
  decode (cM m_Model_grown) 37 = .ok (.ireturn, 1) ∧
  decode (cM m_Model_grown) 38 = .ok (.iload_n 2, 1) ∧
  decode (cM m_Model_grown) 39 = .ok (.ifCond .ne 12, 3) ∧
  am_okt 39 12 ∧
  am_tgt 39 12 = 51 ∧
  decode (cM m_Model_grown) 42 = .ok (.aload_n 0, 1) ∧
  decode (cM m_Model_grown) 43 = .ok (.getfield 96, 3) ∧
  fldT 12 96 = some (12, 51, 2) ∧
  decode (cM m_Model_grown) 46 = .ok (.iload_n 1, 1) ∧
  decode (cM m_Model_grown) 47 = .ok (.iaload, 1) ∧
  decode (cM m_Model_grown) 48 = .ok (.goto 23, 3) ∧
  am_okt 48 23 ∧
  am_tgt 48 23 = 71 ∧
  decode (cM m_Model_grown) 51 = .ok (.iload_n 2, 1) ∧
  decode (cM m_Model_grown) 52 = .ok (.iconst 1, 1) ∧
  decode (cM m_Model_grown) 53 = .ok (.if_icmp .ne 12, 3) ∧
  am_okt 53 12 ∧
  am_tgt 53 12 = 65 ∧
  decode (cM m_Model_grown) 56 = .ok (.aload_n 0, 1) ∧
  decode (cM m_Model_grown) 57 = .ok (.getfield 99, 3) ∧
  fldT 12 99 = some (12, 52, 2) ∧
  decode (cM m_Model_grown) 60 = .ok (.iload_n 1, 1) ∧
  decode (cM m_Model_grown) 61 = .ok (.iaload, 1) ∧
  decode (cM m_Model_grown) 62 = .ok (.goto 9, 3) ∧
  am_okt 62 9 ∧
  am_tgt 62 9 = 71 ∧
  decode (cM m_Model_grown) 65 = .ok (.aload_n 0, 1) ∧
  decode (cM m_Model_grown) 66 = .ok (.getfield 102, 3) ∧
  fldT 12 102 = some (12, 53, 2) ∧
  decode (cM m_Model_grown) 69 = .ok (.iload_n 1, 1) ∧
  decode (cM m_Model_grown) 70 = .ok (.iaload, 1) ∧
  decode (cM m_Model_grown) 71 = .ok (.ireturn, 1) :=
  ⟨rfl, rfl, rfl, rfl, by decide +kernel, by decide +kernel, by decide +kernel, rfl, by decide +kernel, by decide +kernel, rfl, rfl, rfl, rfl, rfl, by decide +kernel, by decide +kernel, by decide +kernel, by decide +kernel, rfl, by decide +kernel, by decide +kernel, by decide +kernel, rfl, rfl, rfl, rfl, rfl, by decide +kernel, rfl, rfl, by decide +kernel, by decide +kernel, by decide +kernel, by decide +kernel, by decide +kernel, rfl, rfl, by decide +kernel, by decide +kernel, by decide +kernel, rfl, rfl, rfl, rfl, rfl, by decide +kernel, by decide +kernel, by decide +kernel, rfl, rfl, by decide +kernel, by decide +kernel, rfl, by decide +kernel, by decide +kernel, by decide +kernel, rfl, rfl, by decide +kernel, by decide +kernel, by decide +kernel, rfl, rfl, by decide +kernel, by decide +kernel, rfl, by decide +kernel, by decide +kernel, by decide +kernel, rfl, rfl, by decide +kernel, by decide +kernel, rfl, by decide +kernel, by decide +kernel, by decide +kernel⟩
set_option maxRecDepth 100000 in
set_option maxHeartbeats 4000000 in
theorem C_Model_help : oM m_Model_help = 12 ∧
  rkM m_Model_help = 1 ∧
  dM m_Model_help = 7 ∧
  lM m_Model_help = 3 ∧
  decode (cM m_Model_help) 0 = .ok (.aload_n 0, 1) ∧
  decode (cM m_Model_help) 1 = .ok (.iconst 0, 1) ∧
  decode (cM m_Model_help) 2 = .ok (.putfield 142, 3) ∧
  fldT 12 142 = some (12, 1, 0) ∧
  decode (cM m_Model_help) 5 = .ok (.aload_n 0, 1) ∧
  decode (cM m_Model_help) 6 = .ok (.iload_n 1, 1) ∧
  decode (cM m_Model_help) 7 = .ok (.invokevirtual 432, 3) ∧
  invT 12 432 = some (m_Model_isTimber, 0) ∧
  nM m_Model_isTimber = 2 ∧
  oM m_Model_isTimber = 12 ∧
  rkM m_Model_isTimber = 2 ∧
  dM m_Model_isTimber = 1 ∧
  decode (cM m_Model_help) 10 = .ok (.ifCond .eq 12, 3) ∧
  am_okt 10 12 ∧
  am_tgt 10 12 = 22 ∧
  decode (cM m_Model_help) 13 = .ok (.iload_n 2, 1) ∧
  decode (cM m_Model_help) 14 = .ok (.iconst 0, 1) ∧
  decode (cM m_Model_help) 15 = .ok (.iconst 1, 1) ∧
  decode (cM m_Model_help) 16 = .ok (.invokestatic 221, 3) ∧
  invT 12 221 = some (m_Model_isIn, 1) ∧
  nM m_Model_isIn = 3 ∧
  oM m_Model_isIn = 12 ∧
  rkM m_Model_isIn = 2 ∧
  dM m_Model_isIn = 0 ∧
  decode (cM m_Model_help) 19 = .ok (.ifCond .ne 9, 3) ∧
  am_okt 19 9 ∧
  am_tgt 19 9 = 28 ∧
  decode (cM m_Model_help) 22 = .ok (.aload_n 0, 1) ∧
  decode (cM m_Model_help) 23 = .ok (.iconst 1, 1) ∧
  decode (cM m_Model_help) 24 = .ok (.invokevirtual 237, 3) ∧
  invT 12 237 = some (m_Model_fail, 0) ∧
  nM m_Model_fail = 2 ∧
  oM m_Model_fail = 12 ∧
  rkM m_Model_fail = 1 ∧
  dM m_Model_fail = 0 ∧
  decode (cM m_Model_help) 27 = .ok (.ireturn, 1) ∧
  decode (cM m_Model_help) 28 = .ok (.aload_n 0, 1) ∧
  decode (cM m_Model_help) 29 = .ok (.iload_n 1, 1) ∧
  decode (cM m_Model_help) 30 = .ok (.invokevirtual 297, 3) ∧
  invT 12 297 = some (m_Model_isDated, 0) ∧
  nM m_Model_isDated = 2 ∧
  oM m_Model_isDated = 12 ∧
  rkM m_Model_isDated = 2 ∧
  dM m_Model_isDated = 1 ∧
  decode (cM m_Model_help) 33 = .ok (.ifCond .eq 9, 3) ∧
  am_okt 33 9 ∧
  am_tgt 33 9 = 42 ∧
  decode (cM m_Model_help) 36 = .ok (.aload_n 0, 1) ∧
  decode (cM m_Model_help) 37 = .ok (.iconst 2, 1) ∧
  decode (cM m_Model_help) 38 = .ok (.invokevirtual 237, 3) ∧
  decode (cM m_Model_help) 41 = .ok (.ireturn, 1) ∧
  decode (cM m_Model_help) 42 = .ok (.aload_n 0, 1) ∧
  decode (cM m_Model_help) 43 = .ok (.getfield 105, 3) ∧
  fldT 12 105 = some (12, 54, 2) ∧
  decode (cM m_Model_help) 46 = .ok (.aload_n 0, 1) ∧
  decode (cM m_Model_help) 47 = .ok (.getfield 34, 3) ∧
  fldT 12 34 = some (12, 4, 2) ∧
  decode (cM m_Model_help) 50 = .ok (.invokestatic 243, 3) ∧
  invT 12 243 = some (m_Model_copyTo, 1) ∧
  nM m_Model_copyTo = 2 ∧
  oM m_Model_copyTo = 12 ∧
  rkM m_Model_copyTo = 0 ∧
  dM m_Model_copyTo = 0 ∧
  decode (cM m_Model_help) 53 = .ok (.aload_n 0, 1) ∧
  decode (cM m_Model_help) 54 = .ok (.iconst (-1), 1) ∧
  decode (cM m_Model_help) 55 = .ok (.invokevirtual 383, 3) ∧
  invT 12 383 = some (m_Model_layChronology, 0) ∧
  nM m_Model_layChronology = 2 ∧
  oM m_Model_layChronology = 12 ∧
  rkM m_Model_layChronology = 0 ∧
  dM m_Model_layChronology = 4 ∧
  decode (cM m_Model_help) 58 = .ok (.aload_n 0, 1) ∧
  decode (cM m_Model_help) 59 = .ok (.iconst 0, 1) ∧
  decode (cM m_Model_help) 60 = .ok (.putfield 453, 3) ∧
  fldT 12 453 = some (12, 56, 0) ∧
  decode (cM m_Model_help) 63 = .ok (.aload_n 0, 1) ∧
  decode (cM m_Model_help) 64 = .ok (.iconst (-1), 1) ∧
  decode (cM m_Model_help) 65 = .ok (.putfield 450, 3) ∧
  fldT 12 450 = some (12, 57, 0) ∧
  decode (cM m_Model_help) 68 = .ok (.aload_n 0, 1) ∧
  decode (cM m_Model_help) 69 = .ok (.iload_n 1, 1) ∧
  decode (cM m_Model_help) 70 = .ok (.iconst 0, 1) ∧
  decode (cM m_Model_help) 71 = .ok (.invokevirtual 464, 3) ∧
  invT 12 464 = some (m_Model_tries, 0) ∧
  nM m_Model_tries = 3 ∧
  oM m_Model_tries = 12 ∧
  rkM m_Model_tries = 0 ∧
  dM m_Model_tries = 5 ∧
  decode (cM m_Model_help) 74 = .ok (.aload_n 0, 1) ∧
  decode (cM m_Model_help) 75 = .ok (.iload_n 1, 1) ∧
  decode (cM m_Model_help) 76 = .ok (.iconst 0, 1) ∧
  decode (cM m_Model_help) 77 = .ok (.invokevirtual 467, 3) ∧
  invT 12 467 = some (m_Model_triesMended, 0) ∧
  nM m_Model_triesMended = 3 ∧
  oM m_Model_triesMended = 12 ∧
  rkM m_Model_triesMended = 0 ∧
  dM m_Model_triesMended = 6 ∧
  decode (cM m_Model_help) 80 = .ok (.aload_n 0, 1) ∧
  decode (cM m_Model_help) 81 = .ok (.iload_n 1, 1) ∧
  decode (cM m_Model_help) 82 = .ok (.iconst 1, 1) ∧
  decode (cM m_Model_help) 83 = .ok (.invokevirtual 467, 3) ∧
  decode (cM m_Model_help) 86 = .ok (.iload_n 2, 1) ∧
  decode (cM m_Model_help) 87 = .ok (.ifCond .ne 10, 3) ∧
  am_okt 87 10 ∧
  am_tgt 87 10 = 97 ∧
  decode (cM m_Model_help) 90 = .ok (.aload_n 0, 1) ∧
  decode (cM m_Model_help) 91 = .ok (.getfield 453, 3) ∧
  decode (cM m_Model_help) 94 = .ok (.goto 7, 3) ∧
  am_okt 94 7 ∧
  am_tgt 94 7 = 101 ∧
  decode (cM m_Model_help) 97 = .ok (.aload_n 0, 1) ∧
  decode (cM m_Model_help) 98 = .ok (.getfield 450, 3) ∧
  decode (cM m_Model_help) 101 = .ok (.ireturn, 1) :=
  ⟨rfl, rfl, rfl, rfl, by decide +kernel, by decide +kernel, by decide +kernel, rfl, by decide +kernel, by decide +kernel, by decide +kernel, rfl, rfl, rfl, rfl, rfl, by decide +kernel, rfl, rfl, by decide +kernel, by decide +kernel, by decide +kernel, by decide +kernel, rfl, rfl, rfl, rfl, rfl, by decide +kernel, rfl, rfl, by decide +kernel, by decide +kernel, by decide +kernel, rfl, rfl, rfl, rfl, rfl, by decide +kernel, by decide +kernel, by decide +kernel, by decide +kernel, rfl, rfl, rfl, rfl, rfl, by decide +kernel, rfl, rfl, by decide +kernel, by decide +kernel, by decide +kernel, by decide +kernel, by decide +kernel, by decide +kernel, rfl, by decide +kernel, by decide +kernel, rfl, by decide +kernel, rfl, rfl, rfl, rfl, rfl, by decide +kernel, by decide +kernel, by decide +kernel, rfl, rfl, rfl, rfl, rfl, by decide +kernel, by decide +kernel, by decide +kernel, rfl, by decide +kernel, by decide +kernel, by decide +kernel, rfl, by decide +kernel, by decide +kernel, by decide +kernel, by decide +kernel, rfl, rfl, rfl, rfl, rfl, by decide +kernel, by decide +kernel, by decide +kernel, by decide +kernel, rfl, rfl, rfl, rfl, rfl, by decide +kernel, by decide +kernel, by decide +kernel, by decide +kernel, by decide +kernel, by decide +kernel, rfl, rfl, by decide +kernel, by decide +kernel, by decide +kernel, rfl, rfl, by decide +kernel, by decide +kernel, by decide +kernel⟩
set_option maxRecDepth 100000 in
set_option maxHeartbeats 4000000 in
theorem C_Model_tries : oM m_Model_tries = 12 ∧
  rkM m_Model_tries = 0 ∧
  dM m_Model_tries = 5 ∧
  lM m_Model_tries = 4 ∧
  decode (cM m_Model_tries) 0 = .ok (.aload_n 0, 1) ∧
  decode (cM m_Model_tries) 1 = .ok (.iload_n 1, 1) ∧
  decode (cM m_Model_tries) 2 = .ok (.invokevirtual 362, 3) ∧
  invT 12 362 = some (m_Model_layB, 0) ∧
  nM m_Model_layB = 2 ∧
  oM m_Model_layB = 12 ∧
  rkM m_Model_layB = 0 ∧
  dM m_Model_layB = 4 ∧
  decode (cM m_Model_tries) 5 = .ok (.aload_n 0, 1) ∧
  decode (cM m_Model_tries) 6 = .ok (.aload_n 0, 1) ∧
  decode (cM m_Model_tries) 7 = .ok (.invokevirtual 365, 3) ∧
  invT 12 365 = some (m_Model_bound, 0) ∧
  nM m_Model_bound = 1 ∧
  oM m_Model_bound = 12 ∧
  rkM m_Model_bound = 1 ∧
  dM m_Model_bound = 0 ∧
  decode (cM m_Model_tries) 10 = .ok (.invokevirtual 367, 3) ∧
  invT 12 367 = some (m_Model_tellBest, 0) ∧
  nM m_Model_tellBest = 2 ∧
  oM m_Model_tellBest = 12 ∧
  rkM m_Model_tellBest = 0 ∧
  dM m_Model_tellBest = 2 ∧
  decode (cM m_Model_tries) 13 = .ok (.aload_n 0, 1) ∧
  decode (cM m_Model_tries) 14 = .ok (.getfield 331, 3) ∧
  fldT 12 331 = some (12, 41, 1) ∧
  decode (cM m_Model_tries) 17 = .ok (.ifCond .eq 10, 3) ∧
  am_okt 17 10 ∧
  am_tgt 17 10 = 27 ∧
  decode (cM m_Model_tries) 20 = .ok (.aload_n 0, 1) ∧
  decode (cM m_Model_tries) 21 = .ok (.getfield 342, 3) ∧
  fldT 12 342 = some (12, 37, 0) ∧
  decode (cM m_Model_tries) 24 = .ok (.goto 4, 3) ∧
  am_okt 24 4 ∧
  am_tgt 24 4 = 28 ∧
  decode (cM m_Model_tries) 27 = .ok (.iconst 0, 1) ∧
  decode (cM m_Model_tries) 28 = .ok (.istore_n 3, 1) ∧
  decode (cM m_Model_tries) 29 = .ok (.iload_n 3, 1) ∧
  decode (cM m_Model_tries) 30 = .ok (.aload_n 0, 1) ∧
  decode (cM m_Model_tries) 31 = .ok (.getfield 450, 3) ∧
  fldT 12 450 = some (12, 57, 0) ∧
  decode (cM m_Model_tries) 34 = .ok (.if_icmp .gt 4, 3) ∧
  am_okt 34 4 ∧
  am_tgt 34 4 = 38 ∧
  decode (cM m_Model_tries) 37 = .ok (.return_, 1) ∧
  decode (cM m_Model_tries) 38 = .ok (.aload_n 0, 1) ∧
  decode (cM m_Model_tries) 39 = .ok (.iload_n 2, 1) ∧
  decode (cM m_Model_tries) 40 = .ok (.putfield 453, 3) ∧
  fldT 12 453 = some (12, 56, 0) ∧
  decode (cM m_Model_tries) 43 = .ok (.aload_n 0, 1) ∧
  decode (cM m_Model_tries) 44 = .ok (.iload_n 3, 1) ∧
  decode (cM m_Model_tries) 45 = .ok (.putfield 450, 3) ∧
  decode (cM m_Model_tries) 48 = .ok (.return_, 1) :=
  ⟨rfl, rfl, rfl, rfl, by decide +kernel, by decide +kernel, by decide +kernel, rfl, rfl, rfl, rfl, rfl, by decide +kernel, by decide +kernel, by decide +kernel, rfl, rfl, rfl, rfl, rfl, by decide +kernel, rfl, rfl, rfl, rfl, rfl, by decide +kernel, by decide +kernel, rfl, by decide +kernel, rfl, rfl, by decide +kernel, by decide +kernel, rfl, by decide +kernel, rfl, rfl, by decide +kernel, by decide +kernel, by decide +kernel, by decide +kernel, by decide +kernel, rfl, by decide +kernel, rfl, rfl, by decide +kernel, by decide +kernel, by decide +kernel, by decide +kernel, rfl, by decide +kernel, by decide +kernel, by decide +kernel, by decide +kernel⟩
set_option maxRecDepth 100000 in
set_option maxHeartbeats 4000000 in
theorem C_Model_triesMended : oM m_Model_triesMended = 12 ∧
  rkM m_Model_triesMended = 0 ∧
  dM m_Model_triesMended = 6 ∧
  lM m_Model_triesMended = 4 ∧
  decode (cM m_Model_triesMended) 0 = .ok (.iconst 0, 1) ∧
  decode (cM m_Model_triesMended) 1 = .ok (.istore_n 3, 1) ∧
  decode (cM m_Model_triesMended) 2 = .ok (.iload_n 3, 1) ∧
  decode (cM m_Model_triesMended) 3 = .ok (.bipush 24, 2) ∧
  decode (cM m_Model_triesMended) 5 = .ok (.if_icmp .ge 59, 3) ∧
  am_okt 5 59 ∧
  am_tgt 5 59 = 64 ∧
  decode (cM m_Model_triesMended) 8 = .ok (.aload_n 0, 1) ∧
  decode (cM m_Model_triesMended) 9 = .ok (.iload_n 1, 1) ∧
  decode (cM m_Model_triesMended) 10 = .ok (.iload_n 3, 1) ∧
  decode (cM m_Model_triesMended) 11 = .ok (.iload_n 2, 1) ∧
  decode (cM m_Model_triesMended) 12 = .ok (.invokevirtual 456, 3) ∧
  invT 12 456 = some (m_Model_canMend, 0) ∧
  nM m_Model_canMend = 4 ∧
  oM m_Model_canMend = 12 ∧
  rkM m_Model_canMend = 2 ∧
  dM m_Model_canMend = 1 ∧
  decode (cM m_Model_triesMended) 15 = .ok (.ifCond .ne 6, 3) ∧
  am_okt 15 6 ∧
  am_tgt 15 6 = 21 ∧
  decode (cM m_Model_triesMended) 18 = .ok (.goto 40, 3) ∧
  am_okt 18 40 ∧
  am_tgt 18 40 = 58 ∧
  decode (cM m_Model_triesMended) 21 = .ok (.aload_n 0, 1) ∧
  decode (cM m_Model_triesMended) 22 = .ok (.iload_n 1, 1) ∧
  decode (cM m_Model_triesMended) 23 = .ok (.iload_n 3, 1) ∧
  decode (cM m_Model_triesMended) 24 = .ok (.iload_n 2, 1) ∧
  decode (cM m_Model_triesMended) 25 = .ok (.invokevirtual 460, 3) ∧
  invT 12 460 = some (m_Model_mendNow, 0) ∧
  nM m_Model_mendNow = 4 ∧
  oM m_Model_mendNow = 12 ∧
  rkM m_Model_mendNow = 0 ∧
  dM m_Model_mendNow = 0 ∧
  decode (cM m_Model_triesMended) 28 = .ok (.aload_n 0, 1) ∧
  decode (cM m_Model_triesMended) 29 = .ok (.iload_n 1, 1) ∧
  decode (cM m_Model_triesMended) 30 = .ok (.iload_n 2, 1) ∧
  decode (cM m_Model_triesMended) 31 = .ok (.ifCond .eq 9, 3) ∧
  am_okt 31 9 ∧
  am_tgt 31 9 = 40 ∧
  decode (cM m_Model_triesMended) 34 = .ok (.sipush 200, 3) ∧
  decode (cM m_Model_triesMended) 37 = .ok (.goto 5, 3) ∧
  am_okt 37 5 ∧
  am_tgt 37 5 = 42 ∧
  decode (cM m_Model_triesMended) 40 = .ok (.bipush 100, 2) ∧
  decode (cM m_Model_triesMended) 42 = .ok (.iload_n 3, 1) ∧
  decode (cM m_Model_triesMended) 43 = .ok (.iadd, 1) ∧
  decode (cM m_Model_triesMended) 44 = .ok (.invokevirtual 464, 3) ∧
  invT 12 464 = some (m_Model_tries, 0) ∧
  nM m_Model_tries = 3 ∧
  oM m_Model_tries = 12 ∧
  rkM m_Model_tries = 0 ∧
  dM m_Model_tries = 5 ∧
  decode (cM m_Model_triesMended) 47 = .ok (.aload_n 0, 1) ∧
  decode (cM m_Model_triesMended) 48 = .ok (.getfield 34, 3) ∧
  fldT 12 34 = some (12, 4, 2) ∧
  decode (cM m_Model_triesMended) 51 = .ok (.aload_n 0, 1) ∧
  decode (cM m_Model_triesMended) 52 = .ok (.getfield 105, 3) ∧
  fldT 12 105 = some (12, 54, 2) ∧
  decode (cM m_Model_triesMended) 55 = .ok (.invokestatic 243, 3) ∧
  invT 12 243 = some (m_Model_copyTo, 1) ∧
  nM m_Model_copyTo = 2 ∧
  oM m_Model_copyTo = 12 ∧
  rkM m_Model_copyTo = 0 ∧
  dM m_Model_copyTo = 0 ∧
  decode (cM m_Model_triesMended) 58 = .ok (.iinc 3 1, 3) ∧
  decode (cM m_Model_triesMended) 61 = .ok (.goto (-59), 3) ∧
  am_okt 61 (-59) ∧
  am_tgt 61 (-59) = 2 ∧
  decode (cM m_Model_triesMended) 64 = .ok (.return_, 1) :=
  ⟨rfl, rfl, rfl, rfl, by decide +kernel, by decide +kernel, by decide +kernel, by decide +kernel, by decide +kernel, rfl, rfl, by decide +kernel, by decide +kernel, by decide +kernel, by decide +kernel, by decide +kernel, rfl, rfl, rfl, rfl, rfl, by decide +kernel, rfl, rfl, by decide +kernel, rfl, rfl, by decide +kernel, by decide +kernel, by decide +kernel, by decide +kernel, by decide +kernel, rfl, rfl, rfl, rfl, rfl, by decide +kernel, by decide +kernel, by decide +kernel, by decide +kernel, rfl, rfl, by decide +kernel, by decide +kernel, rfl, rfl, by decide +kernel, by decide +kernel, by decide +kernel, by decide +kernel, rfl, rfl, rfl, rfl, rfl, by decide +kernel, by decide +kernel, rfl, by decide +kernel, by decide +kernel, rfl, by decide +kernel, rfl, rfl, rfl, rfl, rfl, by decide +kernel, by decide +kernel, rfl, rfl, by decide +kernel⟩
set_option maxRecDepth 100000 in
set_option maxHeartbeats 4000000 in
theorem C_Model_canMend : oM m_Model_canMend = 12 ∧
  rkM m_Model_canMend = 2 ∧
  dM m_Model_canMend = 1 ∧
  lM m_Model_canMend = 5 ∧
  decode (cM m_Model_canMend) 0 = .ok (.aload_n 0, 1) ∧
  decode (cM m_Model_canMend) 1 = .ok (.iload_n 1, 1) ∧
  decode (cM m_Model_canMend) 2 = .ok (.iconst 0, 1) ∧
  decode (cM m_Model_canMend) 3 = .ok (.invokevirtual 257, 3) ∧
  invT 12 257 = some (m_Model_of, 0) ∧
  nM m_Model_of = 3 ∧
  oM m_Model_of = 12 ∧
  rkM m_Model_of = 1 ∧
  dM m_Model_of = 0 ∧
  decode (cM m_Model_canMend) 6 = .ok (.istore 4, 2) ∧
  decode (cM m_Model_canMend) 8 = .ok (.iload_n 3, 1) ∧
  decode (cM m_Model_canMend) 9 = .ok (.ifCond .eq 30, 3) ∧
  am_okt 9 30 ∧
  am_tgt 9 30 = 39 ∧
  decode (cM m_Model_canMend) 12 = .ok (.iload 4, 2) ∧
  decode (cM m_Model_canMend) 14 = .ok (.bipush 24, 2) ∧
  decode (cM m_Model_canMend) 16 = .ok (.if_icmp .ge 19, 3) ∧
  am_okt 16 19 ∧
  am_tgt 16 19 = 35 ∧
  decode (cM m_Model_canMend) 19 = .ok (.iload_n 2, 1) ∧
  decode (cM m_Model_canMend) 20 = .ok (.iconst 1, 1) ∧
  decode (cM m_Model_canMend) 21 = .ok (.iload 4, 2) ∧
  decode (cM m_Model_canMend) 23 = .ok (.iconst 1, 1) ∧
  decode (cM m_Model_canMend) 24 = .ok (.isub, 1) ∧
  decode (cM m_Model_canMend) 25 = .ok (.invokestatic 221, 3) ∧
  invT 12 221 = some (m_Model_isIn, 1) ∧
  nM m_Model_isIn = 3 ∧
  oM m_Model_isIn = 12 ∧
  rkM m_Model_isIn = 2 ∧
  dM m_Model_isIn = 0 ∧
  decode (cM m_Model_canMend) 28 = .ok (.ifCond .eq 7, 3) ∧
  am_okt 28 7 ∧
  am_tgt 28 7 = 35 ∧
  decode (cM m_Model_canMend) 31 = .ok (.iconst 1, 1) ∧
  decode (cM m_Model_canMend) 32 = .ok (.goto 44, 3) ∧
  am_okt 32 44 ∧
  am_tgt 32 44 = 76 ∧
  decode (cM m_Model_canMend) 35 = .ok (.iconst 0, 1) ∧
  decode (cM m_Model_canMend) 36 = .ok (.goto 40, 3) ∧
  am_okt 36 40 ∧
  am_tgt 36 40 = 76 ∧
  decode (cM m_Model_canMend) 39 = .ok (.iload 4, 2) ∧
  decode (cM m_Model_canMend) 41 = .ok (.iconst 3, 1) ∧
  decode (cM m_Model_canMend) 42 = .ok (.if_icmp .le 33, 3) ∧
  am_okt 42 33 ∧
  am_tgt 42 33 = 75 ∧
  decode (cM m_Model_canMend) 45 = .ok (.iload_n 2, 1) ∧
  decode (cM m_Model_canMend) 46 = .ok (.iconst 0, 1) ∧
  decode (cM m_Model_canMend) 47 = .ok (.iload 4, 2) ∧
  decode (cM m_Model_canMend) 49 = .ok (.iconst 1, 1) ∧
  decode (cM m_Model_canMend) 50 = .ok (.isub, 1) ∧
  decode (cM m_Model_canMend) 51 = .ok (.invokestatic 221, 3) ∧
  decode (cM m_Model_canMend) 54 = .ok (.ifCond .eq 21, 3) ∧
  am_okt 54 21 ∧
  am_tgt 54 21 = 75 ∧
  decode (cM m_Model_canMend) 57 = .ok (.aload_n 0, 1) ∧
  decode (cM m_Model_canMend) 58 = .ok (.iload_n 1, 1) ∧
  decode (cM m_Model_canMend) 59 = .ok (.iconst 5, 1) ∧
  decode (cM m_Model_canMend) 60 = .ok (.invokevirtual 257, 3) ∧
  decode (cM m_Model_canMend) 63 = .ok (.iload_n 2, 1) ∧
  decode (cM m_Model_canMend) 64 = .ok (.ishr, 1) ∧
  decode (cM m_Model_canMend) 65 = .ok (.iconst 1, 1) ∧
  decode (cM m_Model_canMend) 66 = .ok (.iand, 1) ∧
  decode (cM m_Model_canMend) 67 = .ok (.iconst 1, 1) ∧
  decode (cM m_Model_canMend) 68 = .ok (.if_icmp .ne 7, 3) ∧
  am_okt 68 7 ∧
  am_tgt 68 7 = 75 ∧
  decode (cM m_Model_canMend) 71 = .ok (.iconst 1, 1) ∧
  decode (cM m_Model_canMend) 72 = .ok (.goto 4, 3) ∧
  am_okt 72 4 ∧
  am_tgt 72 4 = 76 ∧
  decode (cM m_Model_canMend) 75 = .ok (.iconst 0, 1) ∧
  decode (cM m_Model_canMend) 76 = .ok (.ireturn, 1) :=
  ⟨rfl, rfl, rfl, rfl, by decide +kernel, by decide +kernel, by decide +kernel, by decide +kernel, rfl, rfl, rfl, rfl, rfl, by decide +kernel, by decide +kernel, by decide +kernel, rfl, rfl, by decide +kernel, by decide +kernel, by decide +kernel, rfl, rfl, by decide +kernel, by decide +kernel, by decide +kernel, by decide +kernel, by decide +kernel, by decide +kernel, rfl, rfl, rfl, rfl, rfl, by decide +kernel, rfl, rfl, by decide +kernel, by decide +kernel, rfl, rfl, by decide +kernel, by decide +kernel, rfl, rfl, by decide +kernel, by decide +kernel, by decide +kernel, rfl, rfl, by decide +kernel, by decide +kernel, by decide +kernel, by decide +kernel, by decide +kernel, by decide +kernel, by decide +kernel, rfl, rfl, by decide +kernel, by decide +kernel, by decide +kernel, by decide +kernel, by decide +kernel, by decide +kernel, by decide +kernel, by decide +kernel, by decide +kernel, by decide +kernel, rfl, rfl, by decide +kernel, by decide +kernel, rfl, rfl, by decide +kernel, by decide +kernel⟩
set_option maxRecDepth 100000 in
set_option maxHeartbeats 4000000 in
theorem C_Model_mendNow : oM m_Model_mendNow = 12 ∧
  rkM m_Model_mendNow = 0 ∧
  dM m_Model_mendNow = 0 ∧
  lM m_Model_mendNow = 8 ∧
  decode (cM m_Model_mendNow) 0 = .ok (.bipush 30, 2) ∧
  decode (cM m_Model_mendNow) 2 = .ok (.iload_n 1, 1) ∧
  decode (cM m_Model_mendNow) 3 = .ok (.imul, 1) ∧
  decode (cM m_Model_mendNow) 4 = .ok (.istore 4, 2) ∧
  decode (cM m_Model_mendNow) 6 = .ok (.aload_n 0, 1) ∧
  decode (cM m_Model_mendNow) 7 = .ok (.getfield 34, 3) ∧
  fldT 12 34 = some (12, 4, 2) ∧
  decode (cM m_Model_mendNow) 10 = .ok (.iload 4, 2) ∧
  decode (cM m_Model_mendNow) 12 = .ok (.iconst 0, 1) ∧
  decode (cM m_Model_mendNow) 13 = .ok (.iadd, 1) ∧
  decode (cM m_Model_mendNow) 14 = .ok (.iaload, 1) ∧
  decode (cM m_Model_mendNow) 15 = .ok (.istore 5, 2) ∧
  decode (cM m_Model_mendNow) 17 = .ok (.aload_n 0, 1) ∧
  decode (cM m_Model_mendNow) 18 = .ok (.getfield 34, 3) ∧
  decode (cM m_Model_mendNow) 21 = .ok (.iload 4, 2) ∧
  decode (cM m_Model_mendNow) 23 = .ok (.iconst 5, 1) ∧
  decode (cM m_Model_mendNow) 24 = .ok (.iadd, 1) ∧
  decode (cM m_Model_mendNow) 25 = .ok (.iaload, 1) ∧
  decode (cM m_Model_mendNow) 26 = .ok (.iconst 1, 1) ∧
  decode (cM m_Model_mendNow) 27 = .ok (.iload_n 2, 1) ∧
  decode (cM m_Model_mendNow) 28 = .ok (.ishl, 1) ∧
  decode (cM m_Model_mendNow) 29 = .ok (.iconst 1, 1) ∧
  decode (cM m_Model_mendNow) 30 = .ok (.isub, 1) ∧
  decode (cM m_Model_mendNow) 31 = .ok (.iand, 1) ∧
  decode (cM m_Model_mendNow) 32 = .ok (.istore 6, 2) ∧
  decode (cM m_Model_mendNow) 34 = .ok (.iload_n 3, 1) ∧
  decode (cM m_Model_mendNow) 35 = .ok (.ifCond .eq 94, 3) ∧
  am_okt 35 94 ∧
  am_tgt 35 94 = 129 ∧
  decode (cM m_Model_mendNow) 38 = .ok (.iload 5, 2) ∧
  decode (cM m_Model_mendNow) 40 = .ok (.istore 7, 2) ∧
  decode (cM m_Model_mendNow) 42 = .ok (.iload 7, 2) ∧
  decode (cM m_Model_mendNow) 44 = .ok (.iload_n 2, 1) ∧
  decode (cM m_Model_mendNow) 45 = .ok (.if_icmp .le 37, 3) ∧
  am_okt 45 37 ∧
  am_tgt 45 37 = 82 ∧
  decode (cM m_Model_mendNow) 48 = .ok (.aload_n 0, 1) ∧
  decode (cM m_Model_mendNow) 49 = .ok (.getfield 34, 3) ∧
  decode (cM m_Model_mendNow) 52 = .ok (.iload 4, 2) ∧
  decode (cM m_Model_mendNow) 54 = .ok (.bipush 6, 2) ∧
  decode (cM m_Model_mendNow) 56 = .ok (.iadd, 1) ∧
  decode (cM m_Model_mendNow) 57 = .ok (.iload 7, 2) ∧
  decode (cM m_Model_mendNow) 59 = .ok (.iadd, 1) ∧
  decode (cM m_Model_mendNow) 60 = .ok (.aload_n 0, 1) ∧
  decode (cM m_Model_mendNow) 61 = .ok (.getfield 34, 3) ∧
  decode (cM m_Model_mendNow) 64 = .ok (.iload 4, 2) ∧
  decode (cM m_Model_mendNow) 66 = .ok (.bipush 6, 2) ∧
  decode (cM m_Model_mendNow) 68 = .ok (.iadd, 1) ∧
  decode (cM m_Model_mendNow) 69 = .ok (.iload 7, 2) ∧
  decode (cM m_Model_mendNow) 71 = .ok (.iadd, 1) ∧
  decode (cM m_Model_mendNow) 72 = .ok (.iconst 1, 1) ∧
  decode (cM m_Model_mendNow) 73 = .ok (.isub, 1) ∧
  decode (cM m_Model_mendNow) 74 = .ok (.iaload, 1) ∧
  decode (cM m_Model_mendNow) 75 = .ok (.iastore, 1) ∧
  decode (cM m_Model_mendNow) 76 = .ok (.iinc 7 (-1), 3) ∧
  decode (cM m_Model_mendNow) 79 = .ok (.goto (-37), 3) ∧
  am_okt 79 (-37) ∧
  am_tgt 79 (-37) = 42 ∧
  decode (cM m_Model_mendNow) 82 = .ok (.aload_n 0, 1) ∧
  decode (cM m_Model_mendNow) 83 = .ok (.getfield 34, 3) ∧
  decode (cM m_Model_mendNow) 86 = .ok (.iload 4, 2) ∧
  decode (cM m_Model_mendNow) 88 = .ok (.bipush 6, 2) ∧
  decode (cM m_Model_mendNow) 90 = .ok (.iadd, 1) ∧
  decode (cM m_Model_mendNow) 91 = .ok (.iload_n 2, 1) ∧
  decode (cM m_Model_mendNow) 92 = .ok (.iadd, 1) ∧
  decode (cM m_Model_mendNow) 93 = .ok (.iconst 1, 1) ∧
  decode (cM m_Model_mendNow) 94 = .ok (.iastore, 1) ∧
  decode (cM m_Model_mendNow) 95 = .ok (.aload_n 0, 1) ∧
  decode (cM m_Model_mendNow) 96 = .ok (.getfield 34, 3) ∧
  decode (cM m_Model_mendNow) 99 = .ok (.iload 4, 2) ∧
  decode (cM m_Model_mendNow) 101 = .ok (.iconst 5, 1) ∧
  decode (cM m_Model_mendNow) 102 = .ok (.iadd, 1) ∧
  decode (cM m_Model_mendNow) 103 = .ok (.iload 6, 2) ∧
  decode (cM m_Model_mendNow) 105 = .ok (.iconst 1, 1) ∧
  decode (cM m_Model_mendNow) 106 = .ok (.iload_n 2, 1) ∧
  decode (cM m_Model_mendNow) 107 = .ok (.ishl, 1) ∧
  decode (cM m_Model_mendNow) 108 = .ok (.ior, 1) ∧
  decode (cM m_Model_mendNow) 109 = .ok (.aload_n 0, 1) ∧
  decode (cM m_Model_mendNow) 110 = .ok (.getfield 34, 3) ∧
  decode (cM m_Model_mendNow) 113 = .ok (.iload 4, 2) ∧
  decode (cM m_Model_mendNow) 115 = .ok (.iconst 5, 1) ∧
  decode (cM m_Model_mendNow) 116 = .ok (.iadd, 1) ∧
  decode (cM m_Model_mendNow) 117 = .ok (.iaload, 1) ∧
  decode (cM m_Model_mendNow) 118 = .ok (.iload_n 2, 1) ∧
  decode (cM m_Model_mendNow) 119 = .ok (.ishr, 1) ∧
  decode (cM m_Model_mendNow) 120 = .ok (.iload_n 2, 1) ∧
  decode (cM m_Model_mendNow) 121 = .ok (.iconst 1, 1) ∧
  decode (cM m_Model_mendNow) 122 = .ok (.iadd, 1) ∧
  decode (cM m_Model_mendNow) 123 = .ok (.ishl, 1) ∧
  decode (cM m_Model_mendNow) 124 = .ok (.ior, 1) ∧
  decode (cM m_Model_mendNow) 125 = .ok (.iastore, 1) ∧
  decode (cM m_Model_mendNow) 126 = .ok (.goto 92, 3) ∧
  am_okt 126 92 ∧
  am_tgt 126 92 = 218 ∧
  decode (cM m_Model_mendNow) 129 = .ok (.iload_n 2, 1) ∧
  decode (cM m_Model_mendNow) 130 = .ok (.iconst 1, 1) ∧
  decode (cM m_Model_mendNow) 131 = .ok (.iadd, 1) ∧
  decode (cM m_Model_mendNow) 132 = .ok (.istore 7, 2) ∧
  decode (cM m_Model_mendNow) 134 = .ok (.iload 7, 2) ∧
  decode (cM m_Model_mendNow) 136 = .ok (.iload 5, 2) ∧
  decode (cM m_Model_mendNow) 138 = .ok (.if_icmp .ge 37, 3) ∧
  am_okt 138 37 ∧
  am_tgt 138 37 = 175 ∧
  decode (cM m_Model_mendNow) 141 = .ok (.aload_n 0, 1) ∧
  decode (cM m_Model_mendNow) 142 = .ok (.getfield 34, 3) ∧
  decode (cM m_Model_mendNow) 145 = .ok (.iload 4, 2) ∧
  decode (cM m_Model_mendNow) 147 = .ok (.bipush 6, 2) ∧
  decode (cM m_Model_mendNow) 149 = .ok (.iadd, 1) ∧
  decode (cM m_Model_mendNow) 150 = .ok (.iload 7, 2) ∧
  decode (cM m_Model_mendNow) 152 = .ok (.iadd, 1) ∧
  decode (cM m_Model_mendNow) 153 = .ok (.iconst 1, 1) ∧
  decode (cM m_Model_mendNow) 154 = .ok (.isub, 1) ∧
  decode (cM m_Model_mendNow) 155 = .ok (.aload_n 0, 1) ∧
  decode (cM m_Model_mendNow) 156 = .ok (.getfield 34, 3) ∧
  decode (cM m_Model_mendNow) 159 = .ok (.iload 4, 2) ∧
  decode (cM m_Model_mendNow) 161 = .ok (.bipush 6, 2) ∧
  decode (cM m_Model_mendNow) 163 = .ok (.iadd, 1) ∧
  decode (cM m_Model_mendNow) 164 = .ok (.iload 7, 2) ∧
  decode (cM m_Model_mendNow) 166 = .ok (.iadd, 1) ∧
  decode (cM m_Model_mendNow) 167 = .ok (.iaload, 1) ∧
  decode (cM m_Model_mendNow) 168 = .ok (.iastore, 1) ∧
  decode (cM m_Model_mendNow) 169 = .ok (.iinc 7 1, 3) ∧
  decode (cM m_Model_mendNow) 172 = .ok (.goto (-38), 3) ∧
  am_okt 172 (-38) ∧
  am_tgt 172 (-38) = 134 ∧
  decode (cM m_Model_mendNow) 175 = .ok (.aload_n 0, 1) ∧
  decode (cM m_Model_mendNow) 176 = .ok (.getfield 34, 3) ∧
  decode (cM m_Model_mendNow) 179 = .ok (.iload 4, 2) ∧
  decode (cM m_Model_mendNow) 181 = .ok (.bipush 6, 2) ∧
  decode (cM m_Model_mendNow) 183 = .ok (.iadd, 1) ∧
  decode (cM m_Model_mendNow) 184 = .ok (.iload 5, 2) ∧
  decode (cM m_Model_mendNow) 186 = .ok (.iadd, 1) ∧
  decode (cM m_Model_mendNow) 187 = .ok (.iconst 1, 1) ∧
  decode (cM m_Model_mendNow) 188 = .ok (.isub, 1) ∧
  decode (cM m_Model_mendNow) 189 = .ok (.iconst 0, 1) ∧
  decode (cM m_Model_mendNow) 190 = .ok (.iastore, 1) ∧
  decode (cM m_Model_mendNow) 191 = .ok (.aload_n 0, 1) ∧
  decode (cM m_Model_mendNow) 192 = .ok (.getfield 34, 3) ∧
  decode (cM m_Model_mendNow) 195 = .ok (.iload 4, 2) ∧
  decode (cM m_Model_mendNow) 197 = .ok (.iconst 5, 1) ∧
  decode (cM m_Model_mendNow) 198 = .ok (.iadd, 1) ∧
  decode (cM m_Model_mendNow) 199 = .ok (.iload 6, 2) ∧
  decode (cM m_Model_mendNow) 201 = .ok (.aload_n 0, 1) ∧
  decode (cM m_Model_mendNow) 202 = .ok (.getfield 34, 3) ∧
  decode (cM m_Model_mendNow) 205 = .ok (.iload 4, 2) ∧
  decode (cM m_Model_mendNow) 207 = .ok (.iconst 5, 1) ∧
  decode (cM m_Model_mendNow) 208 = .ok (.iadd, 1) ∧
  decode (cM m_Model_mendNow) 209 = .ok (.iaload, 1) ∧
  decode (cM m_Model_mendNow) 210 = .ok (.iload_n 2, 1) ∧
  decode (cM m_Model_mendNow) 211 = .ok (.iconst 1, 1) ∧
  decode (cM m_Model_mendNow) 212 = .ok (.iadd, 1) ∧
  decode (cM m_Model_mendNow) 213 = .ok (.ishr, 1) ∧
  decode (cM m_Model_mendNow) 214 = .ok (.iload_n 2, 1) ∧
  decode (cM m_Model_mendNow) 215 = .ok (.ishl, 1) ∧
  decode (cM m_Model_mendNow) 216 = .ok (.ior, 1) ∧
  decode (cM m_Model_mendNow) 217 = .ok (.iastore, 1) ∧
  decode (cM m_Model_mendNow) 218 = .ok (.aload_n 0, 1) ∧
  decode (cM m_Model_mendNow) 219 = .ok (.getfield 34, 3) ∧
  decode (cM m_Model_mendNow) 222 = .ok (.iload 4, 2) ∧
  decode (cM m_Model_mendNow) 224 = .ok (.iconst 0, 1) ∧
  decode (cM m_Model_mendNow) 225 = .ok (.iadd, 1) ∧
  decode (cM m_Model_mendNow) 226 = .ok (.iload_n 3, 1) ∧
  decode (cM m_Model_mendNow) 227 = .ok (.ifCond .eq 10, 3) ∧
  am_okt 227 10 ∧
  am_tgt 227 10 = 237 ∧
  decode (cM m_Model_mendNow) 230 = .ok (.iload 5, 2) ∧
  decode (cM m_Model_mendNow) 232 = .ok (.iconst 1, 1) ∧
  decode (cM m_Model_mendNow) 233 = .ok (.iadd, 1) ∧
  decode (cM m_Model_mendNow) 234 = .ok (.goto 7, 3) ∧
  am_okt 234 7 ∧
  am_tgt 234 7 = 241 ∧
  decode (cM m_Model_mendNow) 237 = .ok (.iload 5, 2) ∧
  decode (cM m_Model_mendNow) 239 = .ok (.iconst 1, 1) ∧
  decode (cM m_Model_mendNow) 240 = .ok (.isub, 1) ∧
  decode (cM m_Model_mendNow) 241 = .ok (.iastore, 1) ∧
  decode (cM m_Model_mendNow) 242 = .ok (.return_, 1) :=
  ⟨rfl, rfl, rfl, rfl, by decide +kernel, by decide +kernel, by decide +kernel, by decide +kernel, by decide +kernel, by decide +kernel, rfl, by decide +kernel, by decide +kernel, by decide +kernel, by decide +kernel, by decide +kernel, by decide +kernel, by decide +kernel, by decide +kernel, by decide +kernel, by decide +kernel, by decide +kernel, by decide +kernel, by decide +kernel, by decide +kernel, by decide +kernel, by decide +kernel, by decide +kernel, by decide +kernel, by decide +kernel, by decide +kernel, rfl, rfl, by decide +kernel, by decide +kernel, by decide +kernel, by decide +kernel, by decide +kernel, rfl, rfl, by decide +kernel, by decide +kernel, by decide +kernel, by decide +kernel, by decide +kernel, by decide +kernel, by decide +kernel, by decide +kernel, by decide +kernel, by decide +kernel, by decide +kernel, by decide +kernel, by decide +kernel, by decide +kernel, by decide +kernel, by decide +kernel, by decide +kernel, by decide +kernel, by decide +kernel, by decide +kernel, rfl, rfl, by decide +kernel, by decide +kernel, by decide +kernel, by decide +kernel, by decide +kernel, by decide +kernel, by decide +kernel, by decide +kernel, by decide +kernel, by decide +kernel, by decide +kernel, by decide +kernel, by decide +kernel, by decide +kernel, by decide +kernel, by decide +kernel, by decide +kernel, by decide +kernel, by decide +kernel, by decide +kernel, by decide +kernel, by decide +kernel, by decide +kernel, by decide +kernel, by decide +kernel, by decide +kernel, by decide +kernel, by decide +kernel, by decide +kernel, by decide +kernel, by decide +kernel, by decide +kernel, by decide +kernel, by decide +kernel, rfl, rfl, by decide +kernel, by decide +kernel, by decide +kernel, by decide +kernel, by decide +kernel, by decide +kernel, by decide +kernel, rfl, rfl, by decide +kernel, by decide +kernel, by decide +kernel, by decide +kernel, by decide +kernel, by decide +kernel, by decide +kernel, by decide +kernel, by decide +kernel, by decide +kernel, by decide +kernel, by decide +kernel, by decide +kernel, by decide +kernel, by decide +kernel, by decide +kernel, by decide +kernel, by decide +kernel, by decide +kernel, by decide +kernel, rfl, rfl, by decide +kernel, by decide +kernel, by decide +kernel, by decide +kernel, by decide +kernel, by decide +kernel, by decide +kernel, by decide +kernel, by decide +kernel, by decide +kernel, by decide +kernel, by decide +kernel, by decide +kernel, by decide +kernel, by decide +kernel, by decide +kernel, by decide +kernel, by decide +kernel, by decide +kernel, by decide +kernel, by decide +kernel, by decide +kernel, by decide +kernel, by decide +kernel, by decide +kernel, by decide +kernel, by decide +kernel, by decide +kernel, by decide +kernel, by decide +kernel, by decide +kernel, by decide +kernel, by decide +kernel, by decide +kernel, by decide +kernel, by decide +kernel, by decide +kernel, by decide +kernel, rfl, rfl, by decide +kernel, by decide +kernel, by decide +kernel, by decide +kernel, rfl, rfl, by decide +kernel, by decide +kernel, by decide +kernel, by decide +kernel, by decide +kernel⟩
set_option maxRecDepth 100000 in
set_option maxHeartbeats 4000000 in
theorem C_Model_date : oM m_Model_date = 12 ∧
  rkM m_Model_date = 1 ∧
  dM m_Model_date = 2 ∧
  lM m_Model_date = 4 ∧
  decode (cM m_Model_date) 0 = .ok (.aload_n 0, 1) ∧
  decode (cM m_Model_date) 1 = .ok (.iconst 0, 1) ∧
  decode (cM m_Model_date) 2 = .ok (.putfield 142, 3) ∧
  fldT 12 142 = some (12, 1, 0) ∧
  decode (cM m_Model_date) 5 = .ok (.aload_n 0, 1) ∧
  decode (cM m_Model_date) 6 = .ok (.iload_n 1, 1) ∧
  decode (cM m_Model_date) 7 = .ok (.invokevirtual 432, 3) ∧
  invT 12 432 = some (m_Model_isTimber, 0) ∧
  nM m_Model_isTimber = 2 ∧
  oM m_Model_isTimber = 12 ∧
  rkM m_Model_isTimber = 2 ∧
  dM m_Model_isTimber = 1 ∧
  decode (cM m_Model_date) 10 = .ok (.ifCond .eq 24, 3) ∧
  am_okt 10 24 ∧
  am_tgt 10 24 = 34 ∧
  decode (cM m_Model_date) 13 = .ok (.iload_n 2, 1) ∧
  decode (cM m_Model_date) 14 = .ok (.iconst (-1), 1) ∧
  decode (cM m_Model_date) 15 = .ok (.sipush 900, 3) ∧
  decode (cM m_Model_date) 18 = .ok (.invokestatic 221, 3) ∧
  invT 12 221 = some (m_Model_isIn, 1) ∧
  nM m_Model_isIn = 3 ∧
  oM m_Model_isIn = 12 ∧
  rkM m_Model_isIn = 2 ∧
  dM m_Model_isIn = 0 ∧
  decode (cM m_Model_date) 21 = .ok (.ifCond .eq 13, 3) ∧
  am_okt 21 13 ∧
  am_tgt 21 13 = 34 ∧
  decode (cM m_Model_date) 24 = .ok (.aload_n 0, 1) ∧
  decode (cM m_Model_date) 25 = .ok (.iload_n 1, 1) ∧
  decode (cM m_Model_date) 26 = .ok (.iconst 4, 1) ∧
  decode (cM m_Model_date) 27 = .ok (.invokevirtual 257, 3) ∧
  invT 12 257 = some (m_Model_of, 0) ∧
  nM m_Model_of = 3 ∧
  oM m_Model_of = 12 ∧
  rkM m_Model_of = 1 ∧
  dM m_Model_of = 0 ∧
  decode (cM m_Model_date) 30 = .ok (.iload_n 2, 1) ∧
  decode (cM m_Model_date) 31 = .ok (.if_icmp .ne 11, 3) ∧
  am_okt 31 11 ∧
  am_tgt 31 11 = 42 ∧
  decode (cM m_Model_date) 34 = .ok (.aload_n 0, 1) ∧
  decode (cM m_Model_date) 35 = .ok (.iconst 1, 1) ∧
  decode (cM m_Model_date) 36 = .ok (.invokevirtual 471, 3) ∧
  invT 12 471 = some (m_Model_refuse, 0) ∧
  nM m_Model_refuse = 2 ∧
  oM m_Model_refuse = 12 ∧
  rkM m_Model_refuse = 1 ∧
  dM m_Model_refuse = 0 ∧
  decode (cM m_Model_date) 39 = .ok (.iconst 1, 1) ∧
  decode (cM m_Model_date) 40 = .ok (.isub, 1) ∧
  decode (cM m_Model_date) 41 = .ok (.ireturn, 1) ∧
  decode (cM m_Model_date) 42 = .ok (.aload_n 0, 1) ∧
  decode (cM m_Model_date) 43 = .ok (.invokevirtual 474, 3) ∧
  invT 12 474 = some (m_Model_keep, 0) ∧
  nM m_Model_keep = 1 ∧
  oM m_Model_keep = 12 ∧
  rkM m_Model_keep = 0 ∧
  dM m_Model_keep = 0 ∧
  decode (cM m_Model_date) 46 = .ok (.aload_n 0, 1) ∧
  decode (cM m_Model_date) 47 = .ok (.iload_n 1, 1) ∧
  decode (cM m_Model_date) 48 = .ok (.iconst 4, 1) ∧
  decode (cM m_Model_date) 49 = .ok (.invokevirtual 257, 3) ∧
  decode (cM m_Model_date) 52 = .ok (.istore_n 3, 1) ∧
  decode (cM m_Model_date) 53 = .ok (.aload_n 0, 1) ∧
  decode (cM m_Model_date) 54 = .ok (.getfield 34, 3) ∧
  fldT 12 34 = some (12, 4, 2) ∧
  decode (cM m_Model_date) 57 = .ok (.bipush 30, 2) ∧
  decode (cM m_Model_date) 59 = .ok (.iload_n 1, 1) ∧
  decode (cM m_Model_date) 60 = .ok (.imul, 1) ∧
  decode (cM m_Model_date) 61 = .ok (.iconst 4, 1) ∧
  decode (cM m_Model_date) 62 = .ok (.iadd, 1) ∧
  decode (cM m_Model_date) 63 = .ok (.iload_n 2, 1) ∧
  decode (cM m_Model_date) 64 = .ok (.iastore, 1) ∧
  decode (cM m_Model_date) 65 = .ok (.iload_n 3, 1) ∧
  decode (cM m_Model_date) 66 = .ok (.ireturn, 1) :=
  ⟨rfl, rfl, rfl, rfl, by decide +kernel, by decide +kernel, by decide +kernel, rfl, by decide +kernel, by decide +kernel, by decide +kernel, rfl, rfl, rfl, rfl, rfl, by decide +kernel, rfl, rfl, by decide +kernel, by decide +kernel, by decide +kernel, by decide +kernel, rfl, rfl, rfl, rfl, rfl, by decide +kernel, rfl, rfl, by decide +kernel, by decide +kernel, by decide +kernel, by decide +kernel, rfl, rfl, rfl, rfl, rfl, by decide +kernel, by decide +kernel, rfl, rfl, by decide +kernel, by decide +kernel, by decide +kernel, rfl, rfl, rfl, rfl, rfl, by decide +kernel, by decide +kernel, by decide +kernel, by decide +kernel, by decide +kernel, rfl, rfl, rfl, rfl, rfl, by decide +kernel, by decide +kernel, by decide +kernel, by decide +kernel, by decide +kernel, by decide +kernel, by decide +kernel, rfl, by decide +kernel, by decide +kernel, by decide +kernel, by decide +kernel, by decide +kernel, by decide +kernel, by decide +kernel, by decide +kernel, by decide +kernel⟩
set_option maxRecDepth 100000 in
set_option maxHeartbeats 4000000 in
theorem C_Model_refuse : oM m_Model_refuse = 12 ∧
  rkM m_Model_refuse = 1 ∧
  dM m_Model_refuse = 0 ∧
  lM m_Model_refuse = 2 ∧
  decode (cM m_Model_refuse) 0 = .ok (.aload_n 0, 1) ∧
  decode (cM m_Model_refuse) 1 = .ok (.getfield 40, 3) ∧
  fldT 12 40 = some (12, 6, 2) ∧
  decode (cM m_Model_refuse) 4 = .ok (.iload_n 1, 1) ∧
  decode (cM m_Model_refuse) 5 = .ok (.dup2, 1) ∧
  decode (cM m_Model_refuse) 6 = .ok (.iaload, 1) ∧
  decode (cM m_Model_refuse) 7 = .ok (.iconst 1, 1) ∧
  decode (cM m_Model_refuse) 8 = .ok (.iadd, 1) ∧
  decode (cM m_Model_refuse) 9 = .ok (.iastore, 1) ∧
  decode (cM m_Model_refuse) 10 = .ok (.iconst (-1), 1) ∧
  decode (cM m_Model_refuse) 11 = .ok (.ireturn, 1) :=
  ⟨rfl, rfl, rfl, rfl, by decide +kernel, by decide +kernel, rfl, by decide +kernel, by decide +kernel, by decide +kernel, by decide +kernel, by decide +kernel, by decide +kernel, by decide +kernel, by decide +kernel⟩
set_option maxRecDepth 100000 in
set_option maxHeartbeats 4000000 in
theorem C_Model_keep : oM m_Model_keep = 12 ∧
  rkM m_Model_keep = 0 ∧
  dM m_Model_keep = 0 ∧
  lM m_Model_keep = 2 ∧
  decode (cM m_Model_keep) 0 = .ok (.aload_n 0, 1) ∧
  decode (cM m_Model_keep) 1 = .ok (.getfield 247, 3) ∧
  fldT 12 247 = some (12, 58, 0) ∧
  decode (cM m_Model_keep) 4 = .ok (.bipush 40, 2) ∧
  decode (cM m_Model_keep) 6 = .ok (.if_icmp .ne 48, 3) ∧
  am_okt 6 48 ∧
  am_tgt 6 48 = 54 ∧
  decode (cM m_Model_keep) 9 = .ok (.sipush 240, 3) ∧
  decode (cM m_Model_keep) 12 = .ok (.istore_n 1, 1) ∧
  decode (cM m_Model_keep) 13 = .ok (.iload_n 1, 1) ∧
  decode (cM m_Model_keep) 14 = .ok (.aload_n 0, 1) ∧
  decode (cM m_Model_keep) 15 = .ok (.getfield 108, 3) ∧
  fldT 12 108 = some (12, 59, 2) ∧
  decode (cM m_Model_keep) 18 = .ok (.arraylength, 1) ∧
  decode (cM m_Model_keep) 19 = .ok (.if_icmp .ge 25, 3) ∧
  am_okt 19 25 ∧
  am_tgt 19 25 = 44 ∧
  decode (cM m_Model_keep) 22 = .ok (.aload_n 0, 1) ∧
  decode (cM m_Model_keep) 23 = .ok (.getfield 108, 3) ∧
  decode (cM m_Model_keep) 26 = .ok (.iload_n 1, 1) ∧
  decode (cM m_Model_keep) 27 = .ok (.sipush 240, 3) ∧
  decode (cM m_Model_keep) 30 = .ok (.isub, 1) ∧
  decode (cM m_Model_keep) 31 = .ok (.aload_n 0, 1) ∧
  decode (cM m_Model_keep) 32 = .ok (.getfield 108, 3) ∧
  decode (cM m_Model_keep) 35 = .ok (.iload_n 1, 1) ∧
  decode (cM m_Model_keep) 36 = .ok (.iaload, 1) ∧
  decode (cM m_Model_keep) 37 = .ok (.iastore, 1) ∧
  decode (cM m_Model_keep) 38 = .ok (.iinc 1 1, 3) ∧
  decode (cM m_Model_keep) 41 = .ok (.goto (-28), 3) ∧
  am_okt 41 (-28) ∧
  am_tgt 41 (-28) = 13 ∧
  decode (cM m_Model_keep) 44 = .ok (.aload_n 0, 1) ∧
  decode (cM m_Model_keep) 45 = .ok (.dup, 1) ∧
  decode (cM m_Model_keep) 46 = .ok (.getfield 247, 3) ∧
  decode (cM m_Model_keep) 49 = .ok (.iconst 1, 1) ∧
  decode (cM m_Model_keep) 50 = .ok (.isub, 1) ∧
  decode (cM m_Model_keep) 51 = .ok (.putfield 247, 3) ∧
  decode (cM m_Model_keep) 54 = .ok (.iconst 0, 1) ∧
  decode (cM m_Model_keep) 55 = .ok (.istore_n 1, 1) ∧
  decode (cM m_Model_keep) 56 = .ok (.iload_n 1, 1) ∧
  decode (cM m_Model_keep) 57 = .ok (.sipush 240, 3) ∧
  decode (cM m_Model_keep) 60 = .ok (.if_icmp .ge 30, 3) ∧
  am_okt 60 30 ∧
  am_tgt 60 30 = 90 ∧
  decode (cM m_Model_keep) 63 = .ok (.aload_n 0, 1) ∧
  decode (cM m_Model_keep) 64 = .ok (.getfield 108, 3) ∧
  decode (cM m_Model_keep) 67 = .ok (.sipush 240, 3) ∧
  decode (cM m_Model_keep) 70 = .ok (.aload_n 0, 1) ∧
  decode (cM m_Model_keep) 71 = .ok (.getfield 247, 3) ∧
  decode (cM m_Model_keep) 74 = .ok (.imul, 1) ∧
  decode (cM m_Model_keep) 75 = .ok (.iload_n 1, 1) ∧
  decode (cM m_Model_keep) 76 = .ok (.iadd, 1) ∧
  decode (cM m_Model_keep) 77 = .ok (.aload_n 0, 1) ∧
  decode (cM m_Model_keep) 78 = .ok (.getfield 34, 3) ∧
  fldT 12 34 = some (12, 4, 2) ∧
  decode (cM m_Model_keep) 81 = .ok (.iload_n 1, 1) ∧
  decode (cM m_Model_keep) 82 = .ok (.iaload, 1) ∧
  decode (cM m_Model_keep) 83 = .ok (.iastore, 1) ∧
  decode (cM m_Model_keep) 84 = .ok (.iinc 1 1, 3) ∧
  decode (cM m_Model_keep) 87 = .ok (.goto (-31), 3) ∧
  am_okt 87 (-31) ∧
  am_tgt 87 (-31) = 56 ∧
  decode (cM m_Model_keep) 90 = .ok (.aload_n 0, 1) ∧
  decode (cM m_Model_keep) 91 = .ok (.dup, 1) ∧
  decode (cM m_Model_keep) 92 = .ok (.getfield 247, 3) ∧
  decode (cM m_Model_keep) 95 = .ok (.iconst 1, 1) ∧
  decode (cM m_Model_keep) 96 = .ok (.iadd, 1) ∧
  decode (cM m_Model_keep) 97 = .ok (.putfield 247, 3) ∧
  decode (cM m_Model_keep) 100 = .ok (.return_, 1) :=
  ⟨rfl, rfl, rfl, rfl, by decide +kernel, by decide +kernel, rfl, by decide +kernel, by decide +kernel, rfl, rfl, by decide +kernel, by decide +kernel, by decide +kernel, by decide +kernel, by decide +kernel, rfl, by decide +kernel, by decide +kernel, rfl, rfl, by decide +kernel, by decide +kernel, by decide +kernel, by decide +kernel, by decide +kernel, by decide +kernel, by decide +kernel, by decide +kernel, by decide +kernel, by decide +kernel, by decide +kernel, by decide +kernel, rfl, rfl, by decide +kernel, by decide +kernel, by decide +kernel, by decide +kernel, by decide +kernel, by decide +kernel, by decide +kernel, by decide +kernel, by decide +kernel, by decide +kernel, by decide +kernel, rfl, rfl, by decide +kernel, by decide +kernel, by decide +kernel, by decide +kernel, by decide +kernel, by decide +kernel, by decide +kernel, by decide +kernel, by decide +kernel, by decide +kernel, rfl, by decide +kernel, by decide +kernel, by decide +kernel, by decide +kernel, by decide +kernel, rfl, rfl, by decide +kernel, by decide +kernel, by decide +kernel, by decide +kernel, by decide +kernel, by decide +kernel, by decide +kernel⟩
set_option maxRecDepth 100000 in
set_option maxHeartbeats 4000000 in
theorem C_Model_settle : oM m_Model_settle = 12 ∧
  rkM m_Model_settle = 1 ∧
  dM m_Model_settle = 6 ∧
  lM m_Model_settle = 2 ∧
  decode (cM m_Model_settle) 0 = .ok (.aload_n 0, 1) ∧
  decode (cM m_Model_settle) 1 = .ok (.iconst 0, 1) ∧
  decode (cM m_Model_settle) 2 = .ok (.putfield 142, 3) ∧
  fldT 12 142 = some (12, 1, 0) ∧
  decode (cM m_Model_settle) 5 = .ok (.aload_n 0, 1) ∧
  decode (cM m_Model_settle) 6 = .ok (.iload_n 1, 1) ∧
  decode (cM m_Model_settle) 7 = .ok (.invokevirtual 432, 3) ∧
  invT 12 432 = some (m_Model_isTimber, 0) ∧
  nM m_Model_isTimber = 2 ∧
  oM m_Model_isTimber = 12 ∧
  rkM m_Model_isTimber = 2 ∧
  dM m_Model_isTimber = 1 ∧
  decode (cM m_Model_settle) 10 = .ok (.ifCond .eq 19, 3) ∧
  am_okt 10 19 ∧
  am_tgt 10 19 = 29 ∧
  decode (cM m_Model_settle) 13 = .ok (.aload_n 0, 1) ∧
  decode (cM m_Model_settle) 14 = .ok (.iload_n 1, 1) ∧
  decode (cM m_Model_settle) 15 = .ok (.invokevirtual 297, 3) ∧
  invT 12 297 = some (m_Model_isDated, 0) ∧
  nM m_Model_isDated = 2 ∧
  oM m_Model_isDated = 12 ∧
  rkM m_Model_isDated = 2 ∧
  dM m_Model_isDated = 1 ∧
  decode (cM m_Model_settle) 18 = .ok (.ifCond .ne 11, 3) ∧
  am_okt 18 11 ∧
  am_tgt 18 11 = 29 ∧
  decode (cM m_Model_settle) 21 = .ok (.aload_n 0, 1) ∧
  decode (cM m_Model_settle) 22 = .ok (.iload_n 1, 1) ∧
  decode (cM m_Model_settle) 23 = .ok (.invokevirtual 441, 3) ∧
  invT 12 441 = some (m_Model_whyNot, 0) ∧
  nM m_Model_whyNot = 2 ∧
  oM m_Model_whyNot = 12 ∧
  rkM m_Model_whyNot = 1 ∧
  dM m_Model_whyNot = 5 ∧
  decode (cM m_Model_settle) 26 = .ok (.ifCond .eq 9, 3) ∧
  am_okt 26 9 ∧
  am_tgt 26 9 = 35 ∧
  decode (cM m_Model_settle) 29 = .ok (.aload_n 0, 1) ∧
  decode (cM m_Model_settle) 30 = .ok (.iconst 1, 1) ∧
  decode (cM m_Model_settle) 31 = .ok (.invokevirtual 471, 3) ∧
  invT 12 471 = some (m_Model_refuse, 0) ∧
  nM m_Model_refuse = 2 ∧
  oM m_Model_refuse = 12 ∧
  rkM m_Model_refuse = 1 ∧
  dM m_Model_refuse = 0 ∧
  decode (cM m_Model_settle) 34 = .ok (.ireturn, 1) ∧
  decode (cM m_Model_settle) 35 = .ok (.aload_n 0, 1) ∧
  decode (cM m_Model_settle) 36 = .ok (.invokevirtual 474, 3) ∧
  invT 12 474 = some (m_Model_keep, 0) ∧
  nM m_Model_keep = 1 ∧
  oM m_Model_keep = 12 ∧
  rkM m_Model_keep = 0 ∧
  dM m_Model_keep = 0 ∧
  decode (cM m_Model_settle) 39 = .ok (.aload_n 0, 1) ∧
  decode (cM m_Model_settle) 40 = .ok (.getfield 34, 3) ∧
  fldT 12 34 = some (12, 4, 2) ∧
  decode (cM m_Model_settle) 43 = .ok (.bipush 30, 2) ∧
  decode (cM m_Model_settle) 45 = .ok (.iload_n 1, 1) ∧
  decode (cM m_Model_settle) 46 = .ok (.imul, 1) ∧
  decode (cM m_Model_settle) 47 = .ok (.iconst 4, 1) ∧
  decode (cM m_Model_settle) 48 = .ok (.iadd, 1) ∧
  decode (cM m_Model_settle) 49 = .ok (.aload_n 0, 1) ∧
  decode (cM m_Model_settle) 50 = .ok (.getfield 281, 3) ∧
  fldT 12 281 = some (12, 30, 0) ∧
  decode (cM m_Model_settle) 53 = .ok (.aload_n 0, 1) ∧
  decode (cM m_Model_settle) 54 = .ok (.getfield 348, 3) ∧
  fldT 12 348 = some (12, 36, 0) ∧
  decode (cM m_Model_settle) 57 = .ok (.iadd, 1) ∧
  decode (cM m_Model_settle) 58 = .ok (.iastore, 1) ∧
  decode (cM m_Model_settle) 59 = .ok (.aload_n 0, 1) ∧
  decode (cM m_Model_settle) 60 = .ok (.iload_n 1, 1) ∧
  decode (cM m_Model_settle) 61 = .ok (.iconst 4, 1) ∧
  decode (cM m_Model_settle) 62 = .ok (.invokevirtual 257, 3) ∧
  invT 12 257 = some (m_Model_of, 0) ∧
  nM m_Model_of = 3 ∧
  oM m_Model_of = 12 ∧
  rkM m_Model_of = 1 ∧
  dM m_Model_of = 0 ∧
  decode (cM m_Model_settle) 65 = .ok (.ireturn, 1) :=
  ⟨rfl, rfl, rfl, rfl, by decide +kernel, by decide +kernel, by decide +kernel, rfl, by decide +kernel, by decide +kernel, by decide +kernel, rfl, rfl, rfl, rfl, rfl, by decide +kernel, rfl, rfl, by decide +kernel, by decide +kernel, by decide +kernel, rfl, rfl, rfl, rfl, rfl, by decide +kernel, rfl, rfl, by decide +kernel, by decide +kernel, by decide +kernel, rfl, rfl, rfl, rfl, rfl, by decide +kernel, rfl, rfl, by decide +kernel, by decide +kernel, by decide +kernel, rfl, rfl, rfl, rfl, rfl, by decide +kernel, by decide +kernel, by decide +kernel, rfl, rfl, rfl, rfl, rfl, by decide +kernel, by decide +kernel, rfl, by decide +kernel, by decide +kernel, by decide +kernel, by decide +kernel, by decide +kernel, by decide +kernel, by decide +kernel, rfl, by decide +kernel, by decide +kernel, rfl, by decide +kernel, by decide +kernel, by decide +kernel, by decide +kernel, by decide +kernel, by decide +kernel, rfl, rfl, rfl, rfl, rfl, by decide +kernel⟩
set_option maxRecDepth 100000 in
set_option maxHeartbeats 4000000 in
theorem C_Model_grow : oM m_Model_grow = 12 ∧
  rkM m_Model_grow = 1 ∧
  dM m_Model_grow = 7 ∧
  lM m_Model_grow = 1 ∧
  decode (cM m_Model_grow) 0 = .ok (.aload_n 0, 1) ∧
  decode (cM m_Model_grow) 1 = .ok (.iconst 0, 1) ∧
  decode (cM m_Model_grow) 2 = .ok (.putfield 142, 3) ∧
  fldT 12 142 = some (12, 1, 0) ∧
  decode (cM m_Model_grow) 5 = .ok (.aload_n 0, 1) ∧
  decode (cM m_Model_grow) 6 = .ok (.invokevirtual 429, 3) ∧
  invT 12 429 = some (m_Model_tellGrown, 0) ∧
  nM m_Model_tellGrown = 1 ∧
  oM m_Model_tellGrown = 12 ∧
  rkM m_Model_tellGrown = 0 ∧
  dM m_Model_tellGrown = 6 ∧
  decode (cM m_Model_grow) 9 = .ok (.aload_n 0, 1) ∧
  decode (cM m_Model_grow) 10 = .ok (.getfield 380, 3) ∧
  fldT 12 380 = some (12, 55, 0) ∧
  decode (cM m_Model_grow) 13 = .ok (.ifCond .ne 9, 3) ∧
  am_okt 13 9 ∧
  am_tgt 13 9 = 22 ∧
  decode (cM m_Model_grow) 16 = .ok (.aload_n 0, 1) ∧
  decode (cM m_Model_grow) 17 = .ok (.iconst 1, 1) ∧
  decode (cM m_Model_grow) 18 = .ok (.invokevirtual 471, 3) ∧
  invT 12 471 = some (m_Model_refuse, 0) ∧
  nM m_Model_refuse = 2 ∧
  oM m_Model_refuse = 12 ∧
  rkM m_Model_refuse = 1 ∧
  dM m_Model_refuse = 0 ∧
  decode (cM m_Model_grow) 21 = .ok (.ireturn, 1) ∧
  decode (cM m_Model_grow) 22 = .ok (.aload_n 0, 1) ∧
  decode (cM m_Model_grow) 23 = .ok (.invokevirtual 474, 3) ∧
  invT 12 474 = some (m_Model_keep, 0) ∧
  nM m_Model_keep = 1 ∧
  oM m_Model_keep = 12 ∧
  rkM m_Model_keep = 0 ∧
  dM m_Model_keep = 0 ∧
  decode (cM m_Model_grow) 26 = .ok (.aload_n 0, 1) ∧
  decode (cM m_Model_grow) 27 = .ok (.aload_n 0, 1) ∧
  decode (cM m_Model_grow) 28 = .ok (.invokevirtual 365, 3) ∧
  invT 12 365 = some (m_Model_bound, 0) ∧
  nM m_Model_bound = 1 ∧
  oM m_Model_bound = 12 ∧
  rkM m_Model_bound = 1 ∧
  dM m_Model_bound = 0 ∧
  decode (cM m_Model_grow) 31 = .ok (.invokevirtual 386, 3) ∧
  invT 12 386 = some (m_Model_growNow, 0) ∧
  nM m_Model_growNow = 2 ∧
  oM m_Model_growNow = 12 ∧
  rkM m_Model_growNow = 0 ∧
  dM m_Model_growNow = 5 ∧
  decode (cM m_Model_grow) 34 = .ok (.aload_n 0, 1) ∧
  decode (cM m_Model_grow) 35 = .ok (.getfield 380, 3) ∧
  decode (cM m_Model_grow) 38 = .ok (.ireturn, 1) :=
  ⟨rfl, rfl, rfl, rfl, by decide +kernel, by decide +kernel, by decide +kernel, rfl, by decide +kernel, by decide +kernel, rfl, rfl, rfl, rfl, rfl, by decide +kernel, by decide +kernel, rfl, by decide +kernel, rfl, rfl, by decide +kernel, by decide +kernel, by decide +kernel, rfl, rfl, rfl, rfl, rfl, by decide +kernel, by decide +kernel, by decide +kernel, rfl, rfl, rfl, rfl, rfl, by decide +kernel, by decide +kernel, by decide +kernel, rfl, rfl, rfl, rfl, rfl, by decide +kernel, rfl, rfl, rfl, rfl, rfl, by decide +kernel, by decide +kernel, by decide +kernel⟩
set_option maxRecDepth 100000 in
set_option maxHeartbeats 4000000 in
theorem C_Model_mend : oM m_Model_mend = 12 ∧
  rkM m_Model_mend = 1 ∧
  dM m_Model_mend = 2 ∧
  lM m_Model_mend = 4 ∧
  decode (cM m_Model_mend) 0 = .ok (.aload_n 0, 1) ∧
  decode (cM m_Model_mend) 1 = .ok (.iconst 0, 1) ∧
  decode (cM m_Model_mend) 2 = .ok (.putfield 142, 3) ∧
  fldT 12 142 = some (12, 1, 0) ∧
  decode (cM m_Model_mend) 5 = .ok (.aload_n 0, 1) ∧
  decode (cM m_Model_mend) 6 = .ok (.iload_n 1, 1) ∧
  decode (cM m_Model_mend) 7 = .ok (.invokevirtual 432, 3) ∧
  invT 12 432 = some (m_Model_isTimber, 0) ∧
  nM m_Model_isTimber = 2 ∧
  oM m_Model_isTimber = 12 ∧
  rkM m_Model_isTimber = 2 ∧
  dM m_Model_isTimber = 1 ∧
  decode (cM m_Model_mend) 10 = .ok (.ifCond .eq 21, 3) ∧
  am_okt 10 21 ∧
  am_tgt 10 21 = 31 ∧
  decode (cM m_Model_mend) 13 = .ok (.aload_n 0, 1) ∧
  decode (cM m_Model_mend) 14 = .ok (.iload_n 1, 1) ∧
  decode (cM m_Model_mend) 15 = .ok (.invokevirtual 297, 3) ∧
  invT 12 297 = some (m_Model_isDated, 0) ∧
  nM m_Model_isDated = 2 ∧
  oM m_Model_isDated = 12 ∧
  rkM m_Model_isDated = 2 ∧
  dM m_Model_isDated = 1 ∧
  decode (cM m_Model_mend) 18 = .ok (.ifCond .ne 13, 3) ∧
  am_okt 18 13 ∧
  am_tgt 18 13 = 31 ∧
  decode (cM m_Model_mend) 21 = .ok (.aload_n 0, 1) ∧
  decode (cM m_Model_mend) 22 = .ok (.iload_n 1, 1) ∧
  decode (cM m_Model_mend) 23 = .ok (.iload_n 2, 1) ∧
  decode (cM m_Model_mend) 24 = .ok (.iload_n 3, 1) ∧
  decode (cM m_Model_mend) 25 = .ok (.invokevirtual 456, 3) ∧
  invT 12 456 = some (m_Model_canMend, 0) ∧
  nM m_Model_canMend = 4 ∧
  oM m_Model_canMend = 12 ∧
  rkM m_Model_canMend = 2 ∧
  dM m_Model_canMend = 1 ∧
  decode (cM m_Model_mend) 28 = .ok (.ifCond .ne 9, 3) ∧
  am_okt 28 9 ∧
  am_tgt 28 9 = 37 ∧
  decode (cM m_Model_mend) 31 = .ok (.aload_n 0, 1) ∧
  decode (cM m_Model_mend) 32 = .ok (.iconst 1, 1) ∧
  decode (cM m_Model_mend) 33 = .ok (.invokevirtual 471, 3) ∧
  invT 12 471 = some (m_Model_refuse, 0) ∧
  nM m_Model_refuse = 2 ∧
  oM m_Model_refuse = 12 ∧
  rkM m_Model_refuse = 1 ∧
  dM m_Model_refuse = 0 ∧
  decode (cM m_Model_mend) 36 = .ok (.ireturn, 1) ∧
  decode (cM m_Model_mend) 37 = .ok (.aload_n 0, 1) ∧
  decode (cM m_Model_mend) 38 = .ok (.invokevirtual 474, 3) ∧
  invT 12 474 = some (m_Model_keep, 0) ∧
  nM m_Model_keep = 1 ∧
  oM m_Model_keep = 12 ∧
  rkM m_Model_keep = 0 ∧
  dM m_Model_keep = 0 ∧
  decode (cM m_Model_mend) 41 = .ok (.aload_n 0, 1) ∧
  decode (cM m_Model_mend) 42 = .ok (.iload_n 1, 1) ∧
  decode (cM m_Model_mend) 43 = .ok (.iload_n 2, 1) ∧
  decode (cM m_Model_mend) 44 = .ok (.iload_n 3, 1) ∧
  decode (cM m_Model_mend) 45 = .ok (.invokevirtual 460, 3) ∧
  invT 12 460 = some (m_Model_mendNow, 0) ∧
  nM m_Model_mendNow = 4 ∧
  oM m_Model_mendNow = 12 ∧
  rkM m_Model_mendNow = 0 ∧
  dM m_Model_mendNow = 0 ∧
  decode (cM m_Model_mend) 48 = .ok (.aload_n 0, 1) ∧
  decode (cM m_Model_mend) 49 = .ok (.iload_n 1, 1) ∧
  decode (cM m_Model_mend) 50 = .ok (.iconst 0, 1) ∧
  decode (cM m_Model_mend) 51 = .ok (.invokevirtual 257, 3) ∧
  invT 12 257 = some (m_Model_of, 0) ∧
  nM m_Model_of = 3 ∧
  oM m_Model_of = 12 ∧
  rkM m_Model_of = 1 ∧
  dM m_Model_of = 0 ∧
  decode (cM m_Model_mend) 54 = .ok (.ireturn, 1) :=
  ⟨rfl, rfl, rfl, rfl, by decide +kernel, by decide +kernel, by decide +kernel, rfl, by decide +kernel, by decide +kernel, by decide +kernel, rfl, rfl, rfl, rfl, rfl, by decide +kernel, rfl, rfl, by decide +kernel, by decide +kernel, by decide +kernel, rfl, rfl, rfl, rfl, rfl, by decide +kernel, rfl, rfl, by decide +kernel, by decide +kernel, by decide +kernel, by decide +kernel, by decide +kernel, rfl, rfl, rfl, rfl, rfl, by decide +kernel, rfl, rfl, by decide +kernel, by decide +kernel, by decide +kernel, rfl, rfl, rfl, rfl, rfl, by decide +kernel, by decide +kernel, by decide +kernel, rfl, rfl, rfl, rfl, rfl, by decide +kernel, by decide +kernel, by decide +kernel, by decide +kernel, by decide +kernel, rfl, rfl, rfl, rfl, rfl, by decide +kernel, by decide +kernel, by decide +kernel, by decide +kernel, rfl, rfl, rfl, rfl, rfl, by decide +kernel⟩
set_option maxRecDepth 100000 in
set_option maxHeartbeats 4000000 in
theorem C_Model_doubt : oM m_Model_doubt = 12 ∧
  rkM m_Model_doubt = 1 ∧
  dM m_Model_doubt = 3 ∧
  lM m_Model_doubt = 3 ∧
  decode (cM m_Model_doubt) 0 = .ok (.aload_n 0, 1) ∧
  decode (cM m_Model_doubt) 1 = .ok (.iconst 0, 1) ∧
  decode (cM m_Model_doubt) 2 = .ok (.putfield 142, 3) ∧
  fldT 12 142 = some (12, 1, 0) ∧
  decode (cM m_Model_doubt) 5 = .ok (.aload_n 0, 1) ∧
  decode (cM m_Model_doubt) 6 = .ok (.iload_n 1, 1) ∧
  decode (cM m_Model_doubt) 7 = .ok (.iload_n 2, 1) ∧
  decode (cM m_Model_doubt) 8 = .ok (.invokevirtual 447, 3) ∧
  invT 12 447 = some (m_Model_isRing, 0) ∧
  nM m_Model_isRing = 3 ∧
  oM m_Model_isRing = 12 ∧
  rkM m_Model_isRing = 2 ∧
  dM m_Model_isRing = 2 ∧
  decode (cM m_Model_doubt) 11 = .ok (.ifCond .ne 9, 3) ∧
  am_okt 11 9 ∧
  am_tgt 11 9 = 20 ∧
  decode (cM m_Model_doubt) 14 = .ok (.aload_n 0, 1) ∧
  decode (cM m_Model_doubt) 15 = .ok (.iconst 1, 1) ∧
  decode (cM m_Model_doubt) 16 = .ok (.invokevirtual 471, 3) ∧
  invT 12 471 = some (m_Model_refuse, 0) ∧
  nM m_Model_refuse = 2 ∧
  oM m_Model_refuse = 12 ∧
  rkM m_Model_refuse = 1 ∧
  dM m_Model_refuse = 0 ∧
  decode (cM m_Model_doubt) 19 = .ok (.ireturn, 1) ∧
  decode (cM m_Model_doubt) 20 = .ok (.aload_n 0, 1) ∧
  decode (cM m_Model_doubt) 21 = .ok (.invokevirtual 474, 3) ∧
  invT 12 474 = some (m_Model_keep, 0) ∧
  nM m_Model_keep = 1 ∧
  oM m_Model_keep = 12 ∧
  rkM m_Model_keep = 0 ∧
  dM m_Model_keep = 0 ∧
  decode (cM m_Model_doubt) 24 = .ok (.aload_n 0, 1) ∧
  decode (cM m_Model_doubt) 25 = .ok (.getfield 34, 3) ∧
  fldT 12 34 = some (12, 4, 2) ∧
  decode (cM m_Model_doubt) 28 = .ok (.bipush 30, 2) ∧
  decode (cM m_Model_doubt) 30 = .ok (.iload_n 1, 1) ∧
  decode (cM m_Model_doubt) 31 = .ok (.imul, 1) ∧
  decode (cM m_Model_doubt) 32 = .ok (.iconst 5, 1) ∧
  decode (cM m_Model_doubt) 33 = .ok (.iadd, 1) ∧
  decode (cM m_Model_doubt) 34 = .ok (.dup2, 1) ∧
  decode (cM m_Model_doubt) 35 = .ok (.iaload, 1) ∧
  decode (cM m_Model_doubt) 36 = .ok (.iconst 1, 1) ∧
  decode (cM m_Model_doubt) 37 = .ok (.iload_n 2, 1) ∧
  decode (cM m_Model_doubt) 38 = .ok (.ishl, 1) ∧
  decode (cM m_Model_doubt) 39 = .ok (.ixor, 1) ∧
  decode (cM m_Model_doubt) 40 = .ok (.iastore, 1) ∧
  decode (cM m_Model_doubt) 41 = .ok (.aload_n 0, 1) ∧
  decode (cM m_Model_doubt) 42 = .ok (.iload_n 1, 1) ∧
  decode (cM m_Model_doubt) 43 = .ok (.iconst 5, 1) ∧
  decode (cM m_Model_doubt) 44 = .ok (.invokevirtual 257, 3) ∧
  invT 12 257 = some (m_Model_of, 0) ∧
  nM m_Model_of = 3 ∧
  oM m_Model_of = 12 ∧
  rkM m_Model_of = 1 ∧
  dM m_Model_of = 0 ∧
  decode (cM m_Model_doubt) 47 = .ok (.iload_n 2, 1) ∧
  decode (cM m_Model_doubt) 48 = .ok (.ishr, 1) ∧
  decode (cM m_Model_doubt) 49 = .ok (.iconst 1, 1) ∧
  decode (cM m_Model_doubt) 50 = .ok (.iand, 1) ∧
  decode (cM m_Model_doubt) 51 = .ok (.ireturn, 1) :=
  ⟨rfl, rfl, rfl, rfl, by decide +kernel, by decide +kernel, by decide +kernel, rfl, by decide +kernel, by decide +kernel, by decide +kernel, by decide +kernel, rfl, rfl, rfl, rfl, rfl, by decide +kernel, rfl, rfl, by decide +kernel, by decide +kernel, by decide +kernel, rfl, rfl, rfl, rfl, rfl, by decide +kernel, by decide +kernel, by decide +kernel, rfl, rfl, rfl, rfl, rfl, by decide +kernel, by decide +kernel, rfl, by decide +kernel, by decide +kernel, by decide +kernel, by decide +kernel, by decide +kernel, by decide +kernel, by decide +kernel, by decide +kernel, by decide +kernel, by decide +kernel, by decide +kernel, by decide +kernel, by decide +kernel, by decide +kernel, by decide +kernel, by decide +kernel, rfl, rfl, rfl, rfl, rfl, by decide +kernel, by decide +kernel, by decide +kernel, by decide +kernel, by decide +kernel⟩
set_option maxRecDepth 100000 in
set_option maxHeartbeats 4000000 in
theorem C_Model_move : oM m_Model_move = 12 ∧
  rkM m_Model_move = 1 ∧
  dM m_Model_move = 2 ∧
  lM m_Model_move = 4 ∧
  decode (cM m_Model_move) 0 = .ok (.aload_n 0, 1) ∧
  decode (cM m_Model_move) 1 = .ok (.iconst 0, 1) ∧
  decode (cM m_Model_move) 2 = .ok (.putfield 142, 3) ∧
  fldT 12 142 = some (12, 1, 0) ∧
  decode (cM m_Model_move) 5 = .ok (.aload_n 0, 1) ∧
  decode (cM m_Model_move) 6 = .ok (.iload_n 1, 1) ∧
  decode (cM m_Model_move) 7 = .ok (.invokevirtual 432, 3) ∧
  invT 12 432 = some (m_Model_isTimber, 0) ∧
  nM m_Model_isTimber = 2 ∧
  oM m_Model_isTimber = 12 ∧
  rkM m_Model_isTimber = 2 ∧
  dM m_Model_isTimber = 1 ∧
  decode (cM m_Model_move) 10 = .ok (.ifCond .eq 22, 3) ∧
  am_okt 10 22 ∧
  am_tgt 10 22 = 32 ∧
  decode (cM m_Model_move) 13 = .ok (.iload_n 2, 1) ∧
  decode (cM m_Model_move) 14 = .ok (.iconst 0, 1) ∧
  decode (cM m_Model_move) 15 = .ok (.iconst 3, 1) ∧
  decode (cM m_Model_move) 16 = .ok (.invokestatic 221, 3) ∧
  invT 12 221 = some (m_Model_isIn, 1) ∧
  nM m_Model_isIn = 3 ∧
  oM m_Model_isIn = 12 ∧
  rkM m_Model_isIn = 2 ∧
  dM m_Model_isIn = 0 ∧
  decode (cM m_Model_move) 19 = .ok (.ifCond .eq 13, 3) ∧
  am_okt 19 13 ∧
  am_tgt 19 13 = 32 ∧
  decode (cM m_Model_move) 22 = .ok (.aload_n 0, 1) ∧
  decode (cM m_Model_move) 23 = .ok (.iload_n 1, 1) ∧
  decode (cM m_Model_move) 24 = .ok (.iconst 3, 1) ∧
  decode (cM m_Model_move) 25 = .ok (.invokevirtual 257, 3) ∧
  invT 12 257 = some (m_Model_of, 0) ∧
  nM m_Model_of = 3 ∧
  oM m_Model_of = 12 ∧
  rkM m_Model_of = 1 ∧
  dM m_Model_of = 0 ∧
  decode (cM m_Model_move) 28 = .ok (.iload_n 2, 1) ∧
  decode (cM m_Model_move) 29 = .ok (.if_icmp .ne 9, 3) ∧
  am_okt 29 9 ∧
  am_tgt 29 9 = 38 ∧
  decode (cM m_Model_move) 32 = .ok (.aload_n 0, 1) ∧
  decode (cM m_Model_move) 33 = .ok (.iconst 1, 1) ∧
  decode (cM m_Model_move) 34 = .ok (.invokevirtual 471, 3) ∧
  invT 12 471 = some (m_Model_refuse, 0) ∧
  nM m_Model_refuse = 2 ∧
  oM m_Model_refuse = 12 ∧
  rkM m_Model_refuse = 1 ∧
  dM m_Model_refuse = 0 ∧
  decode (cM m_Model_move) 37 = .ok (.ireturn, 1) ∧
  decode (cM m_Model_move) 38 = .ok (.aload_n 0, 1) ∧
  decode (cM m_Model_move) 39 = .ok (.invokevirtual 474, 3) ∧
  invT 12 474 = some (m_Model_keep, 0) ∧
  nM m_Model_keep = 1 ∧
  oM m_Model_keep = 12 ∧
  rkM m_Model_keep = 0 ∧
  dM m_Model_keep = 0 ∧
  decode (cM m_Model_move) 42 = .ok (.aload_n 0, 1) ∧
  decode (cM m_Model_move) 43 = .ok (.iload_n 1, 1) ∧
  decode (cM m_Model_move) 44 = .ok (.iconst 3, 1) ∧
  decode (cM m_Model_move) 45 = .ok (.invokevirtual 257, 3) ∧
  decode (cM m_Model_move) 48 = .ok (.istore_n 3, 1) ∧
  decode (cM m_Model_move) 49 = .ok (.aload_n 0, 1) ∧
  decode (cM m_Model_move) 50 = .ok (.getfield 34, 3) ∧
  fldT 12 34 = some (12, 4, 2) ∧
  decode (cM m_Model_move) 53 = .ok (.bipush 30, 2) ∧
  decode (cM m_Model_move) 55 = .ok (.iload_n 1, 1) ∧
  decode (cM m_Model_move) 56 = .ok (.imul, 1) ∧
  decode (cM m_Model_move) 57 = .ok (.iconst 3, 1) ∧
  decode (cM m_Model_move) 58 = .ok (.iadd, 1) ∧
  decode (cM m_Model_move) 59 = .ok (.iload_n 2, 1) ∧
  decode (cM m_Model_move) 60 = .ok (.iastore, 1) ∧
  decode (cM m_Model_move) 61 = .ok (.iload_n 3, 1) ∧
  decode (cM m_Model_move) 62 = .ok (.ireturn, 1) :=
  ⟨rfl, rfl, rfl, rfl, by decide +kernel, by decide +kernel, by decide +kernel, rfl, by decide +kernel, by decide +kernel, by decide +kernel, rfl, rfl, rfl, rfl, rfl, by decide +kernel, rfl, rfl, by decide +kernel, by decide +kernel, by decide +kernel, by decide +kernel, rfl, rfl, rfl, rfl, rfl, by decide +kernel, rfl, rfl, by decide +kernel, by decide +kernel, by decide +kernel, by decide +kernel, rfl, rfl, rfl, rfl, rfl, by decide +kernel, by decide +kernel, rfl, rfl, by decide +kernel, by decide +kernel, by decide +kernel, rfl, rfl, rfl, rfl, rfl, by decide +kernel, by decide +kernel, by decide +kernel, rfl, rfl, rfl, rfl, rfl, by decide +kernel, by decide +kernel, by decide +kernel, by decide +kernel, by decide +kernel, by decide +kernel, by decide +kernel, rfl, by decide +kernel, by decide +kernel, by decide +kernel, by decide +kernel, by decide +kernel, by decide +kernel, by decide +kernel, by decide +kernel, by decide +kernel⟩
set_option maxRecDepth 100000 in
set_option maxHeartbeats 4000000 in
theorem C_Model_undo : oM m_Model_undo = 12 ∧
  rkM m_Model_undo = 1 ∧
  dM m_Model_undo = 0 ∧
  lM m_Model_undo = 2 ∧
  decode (cM m_Model_undo) 0 = .ok (.aload_n 0, 1) ∧
  decode (cM m_Model_undo) 1 = .ok (.iconst 0, 1) ∧
  decode (cM m_Model_undo) 2 = .ok (.putfield 142, 3) ∧
  fldT 12 142 = some (12, 1, 0) ∧
  decode (cM m_Model_undo) 5 = .ok (.aload_n 0, 1) ∧
  decode (cM m_Model_undo) 6 = .ok (.getfield 247, 3) ∧
  fldT 12 247 = some (12, 58, 0) ∧
  decode (cM m_Model_undo) 9 = .ok (.ifCond .ne 5, 3) ∧
  am_okt 9 5 ∧
  am_tgt 9 5 = 14 ∧
  decode (cM m_Model_undo) 12 = .ok (.iconst (-1), 1) ∧
  decode (cM m_Model_undo) 13 = .ok (.ireturn, 1) ∧
  decode (cM m_Model_undo) 14 = .ok (.aload_n 0, 1) ∧
  decode (cM m_Model_undo) 15 = .ok (.dup, 1) ∧
  decode (cM m_Model_undo) 16 = .ok (.getfield 247, 3) ∧
  decode (cM m_Model_undo) 19 = .ok (.iconst 1, 1) ∧
  decode (cM m_Model_undo) 20 = .ok (.isub, 1) ∧
  decode (cM m_Model_undo) 21 = .ok (.putfield 247, 3) ∧
  decode (cM m_Model_undo) 24 = .ok (.iconst 0, 1) ∧
  decode (cM m_Model_undo) 25 = .ok (.istore_n 1, 1) ∧
  decode (cM m_Model_undo) 26 = .ok (.iload_n 1, 1) ∧
  decode (cM m_Model_undo) 27 = .ok (.sipush 240, 3) ∧
  decode (cM m_Model_undo) 30 = .ok (.if_icmp .ge 30, 3) ∧
  am_okt 30 30 ∧
  am_tgt 30 30 = 60 ∧
  decode (cM m_Model_undo) 33 = .ok (.aload_n 0, 1) ∧
  decode (cM m_Model_undo) 34 = .ok (.getfield 34, 3) ∧
  fldT 12 34 = some (12, 4, 2) ∧
  decode (cM m_Model_undo) 37 = .ok (.iload_n 1, 1) ∧
  decode (cM m_Model_undo) 38 = .ok (.aload_n 0, 1) ∧
  decode (cM m_Model_undo) 39 = .ok (.getfield 108, 3) ∧
  fldT 12 108 = some (12, 59, 2) ∧
  decode (cM m_Model_undo) 42 = .ok (.sipush 240, 3) ∧
  decode (cM m_Model_undo) 45 = .ok (.aload_n 0, 1) ∧
  decode (cM m_Model_undo) 46 = .ok (.getfield 247, 3) ∧
  decode (cM m_Model_undo) 49 = .ok (.imul, 1) ∧
  decode (cM m_Model_undo) 50 = .ok (.iload_n 1, 1) ∧
  decode (cM m_Model_undo) 51 = .ok (.iadd, 1) ∧
  decode (cM m_Model_undo) 52 = .ok (.iaload, 1) ∧
  decode (cM m_Model_undo) 53 = .ok (.iastore, 1) ∧
  decode (cM m_Model_undo) 54 = .ok (.iinc 1 1, 3) ∧
  decode (cM m_Model_undo) 57 = .ok (.goto (-31), 3) ∧
  am_okt 57 (-31) ∧
  am_tgt 57 (-31) = 26 ∧
  decode (cM m_Model_undo) 60 = .ok (.aload_n 0, 1) ∧
  decode (cM m_Model_undo) 61 = .ok (.getfield 247, 3) ∧
  decode (cM m_Model_undo) 64 = .ok (.ireturn, 1) :=
  ⟨rfl, rfl, rfl, rfl, by decide +kernel, by decide +kernel, by decide +kernel, rfl, by decide +kernel, by decide +kernel, rfl, by decide +kernel, rfl, rfl, by decide +kernel, by decide +kernel, by decide +kernel, by decide +kernel, by decide +kernel, by decide +kernel, by decide +kernel, by decide +kernel, by decide +kernel, by decide +kernel, by decide +kernel, by decide +kernel, by decide +kernel, rfl, rfl, by decide +kernel, by decide +kernel, rfl, by decide +kernel, by decide +kernel, by decide +kernel, rfl, by decide +kernel, by decide +kernel, by decide +kernel, by decide +kernel, by decide +kernel, by decide +kernel, by decide +kernel, by decide +kernel, by decide +kernel, by decide +kernel, rfl, rfl, by decide +kernel, by decide +kernel, by decide +kernel⟩
set_option maxRecDepth 100000 in
set_option maxHeartbeats 4000000 in
theorem C_Model_note : oM m_Model_note = 12 ∧
  rkM m_Model_note = 1 ∧
  dM m_Model_note = 2 ∧
  lM m_Model_note = 3 ∧
  decode (cM m_Model_note) 0 = .ok (.aload_n 0, 1) ∧
  decode (cM m_Model_note) 1 = .ok (.iconst 0, 1) ∧
  decode (cM m_Model_note) 2 = .ok (.putfield 142, 3) ∧
  fldT 12 142 = some (12, 1, 0) ∧
  decode (cM m_Model_note) 5 = .ok (.aload_n 0, 1) ∧
  decode (cM m_Model_note) 6 = .ok (.getfield 250, 3) ∧
  fldT 12 250 = some (12, 60, 0) ∧
  decode (cM m_Model_note) 9 = .ok (.bipush 8, 2) ∧
  decode (cM m_Model_note) 11 = .ok (.if_icmp .eq 22, 3) ∧
  am_okt 11 22 ∧
  am_tgt 11 22 = 33 ∧
  decode (cM m_Model_note) 14 = .ok (.aload_n 0, 1) ∧
  decode (cM m_Model_note) 15 = .ok (.iload_n 1, 1) ∧
  decode (cM m_Model_note) 16 = .ok (.invokevirtual 432, 3) ∧
  invT 12 432 = some (m_Model_isTimber, 0) ∧
  nM m_Model_isTimber = 2 ∧
  oM m_Model_isTimber = 12 ∧
  rkM m_Model_isTimber = 2 ∧
  dM m_Model_isTimber = 1 ∧
  decode (cM m_Model_note) 19 = .ok (.ifCond .eq 14, 3) ∧
  am_okt 19 14 ∧
  am_tgt 19 14 = 33 ∧
  decode (cM m_Model_note) 22 = .ok (.iload_n 2, 1) ∧
  decode (cM m_Model_note) 23 = .ok (.iconst (-1), 1) ∧
  decode (cM m_Model_note) 24 = .ok (.sipush 900, 3) ∧
  decode (cM m_Model_note) 27 = .ok (.invokestatic 221, 3) ∧
  invT 12 221 = some (m_Model_isIn, 1) ∧
  nM m_Model_isIn = 3 ∧
  oM m_Model_isIn = 12 ∧
  rkM m_Model_isIn = 2 ∧
  dM m_Model_isIn = 0 ∧
  decode (cM m_Model_note) 30 = .ok (.ifCond .ne 9, 3) ∧
  am_okt 30 9 ∧
  am_tgt 30 9 = 39 ∧
  decode (cM m_Model_note) 33 = .ok (.aload_n 0, 1) ∧
  decode (cM m_Model_note) 34 = .ok (.iconst 2, 1) ∧
  decode (cM m_Model_note) 35 = .ok (.invokevirtual 471, 3) ∧
  invT 12 471 = some (m_Model_refuse, 0) ∧
  nM m_Model_refuse = 2 ∧
  oM m_Model_refuse = 12 ∧
  rkM m_Model_refuse = 1 ∧
  dM m_Model_refuse = 0 ∧
  decode (cM m_Model_note) 38 = .ok (.ireturn, 1) ∧
  decode (cM m_Model_note) 39 = .ok (.aload_n 0, 1) ∧
  decode (cM m_Model_note) 40 = .ok (.getfield 111, 3) ∧
  fldT 12 111 = some (12, 61, 2) ∧
  decode (cM m_Model_note) 43 = .ok (.aload_n 0, 1) ∧
  decode (cM m_Model_note) 44 = .ok (.getfield 250, 3) ∧
  decode (cM m_Model_note) 47 = .ok (.iload_n 1, 1) ∧
  decode (cM m_Model_note) 48 = .ok (.iastore, 1) ∧
  decode (cM m_Model_note) 49 = .ok (.aload_n 0, 1) ∧
  decode (cM m_Model_note) 50 = .ok (.getfield 114, 3) ∧
  fldT 12 114 = some (12, 62, 2) ∧
  decode (cM m_Model_note) 53 = .ok (.aload_n 0, 1) ∧
  decode (cM m_Model_note) 54 = .ok (.getfield 250, 3) ∧
  decode (cM m_Model_note) 57 = .ok (.iload_n 2, 1) ∧
  decode (cM m_Model_note) 58 = .ok (.iastore, 1) ∧
  decode (cM m_Model_note) 59 = .ok (.aload_n 0, 1) ∧
  decode (cM m_Model_note) 60 = .ok (.dup, 1) ∧
  decode (cM m_Model_note) 61 = .ok (.getfield 250, 3) ∧
  decode (cM m_Model_note) 64 = .ok (.iconst 1, 1) ∧
  decode (cM m_Model_note) 65 = .ok (.iadd, 1) ∧
  decode (cM m_Model_note) 66 = .ok (.putfield 250, 3) ∧
  decode (cM m_Model_note) 69 = .ok (.aload_n 0, 1) ∧
  decode (cM m_Model_note) 70 = .ok (.getfield 250, 3) ∧
  decode (cM m_Model_note) 73 = .ok (.ireturn, 1) :=
  ⟨rfl, rfl, rfl, rfl, by decide +kernel, by decide +kernel, by decide +kernel, rfl, by decide +kernel, by decide +kernel, rfl, by decide +kernel, by decide +kernel, rfl, rfl, by decide +kernel, by decide +kernel, by decide +kernel, rfl, rfl, rfl, rfl, rfl, by decide +kernel, rfl, rfl, by decide +kernel, by decide +kernel, by decide +kernel, by decide +kernel, rfl, rfl, rfl, rfl, rfl, by decide +kernel, rfl, rfl, by decide +kernel, by decide +kernel, by decide +kernel, rfl, rfl, rfl, rfl, rfl, by decide +kernel, by decide +kernel, by decide +kernel, rfl, by decide +kernel, by decide +kernel, by decide +kernel, by decide +kernel, by decide +kernel, by decide +kernel, rfl, by decide +kernel, by decide +kernel, by decide +kernel, by decide +kernel, by decide +kernel, by decide +kernel, by decide +kernel, by decide +kernel, by decide +kernel, by decide +kernel, by decide +kernel, by decide +kernel, by decide +kernel⟩
set_option maxRecDepth 100000 in
set_option maxHeartbeats 4000000 in
theorem C_Model_forget : oM m_Model_forget = 12 ∧
  rkM m_Model_forget = 0 ∧
  dM m_Model_forget = 0 ∧
  lM m_Model_forget = 1 ∧
  decode (cM m_Model_forget) 0 = .ok (.aload_n 0, 1) ∧
  decode (cM m_Model_forget) 1 = .ok (.iconst 0, 1) ∧
  decode (cM m_Model_forget) 2 = .ok (.putfield 142, 3) ∧
  fldT 12 142 = some (12, 1, 0) ∧
  decode (cM m_Model_forget) 5 = .ok (.aload_n 0, 1) ∧
  decode (cM m_Model_forget) 6 = .ok (.iconst 0, 1) ∧
  decode (cM m_Model_forget) 7 = .ok (.putfield 250, 3) ∧
  fldT 12 250 = some (12, 60, 0) ∧
  decode (cM m_Model_forget) 10 = .ok (.return_, 1) :=
  ⟨rfl, rfl, rfl, rfl, by decide +kernel, by decide +kernel, by decide +kernel, rfl, by decide +kernel, by decide +kernel, by decide +kernel, rfl, by decide +kernel⟩
set_option maxRecDepth 100000 in
set_option maxHeartbeats 4000000 in
theorem C_Model_fits : oM m_Model_fits = 12 ∧
  rkM m_Model_fits = 1 ∧
  dM m_Model_fits = 7 ∧
  lM m_Model_fits = 2 ∧
  decode (cM m_Model_fits) 0 = .ok (.aload_n 0, 1) ∧
  decode (cM m_Model_fits) 1 = .ok (.iconst 0, 1) ∧
  decode (cM m_Model_fits) 2 = .ok (.putfield 142, 3) ∧
  fldT 12 142 = some (12, 1, 0) ∧
  decode (cM m_Model_fits) 5 = .ok (.iload_n 1, 1) ∧
  decode (cM m_Model_fits) 6 = .ok (.iconst 0, 1) ∧
  decode (cM m_Model_fits) 7 = .ok (.iconst 1, 1) ∧
  decode (cM m_Model_fits) 8 = .ok (.invokestatic 221, 3) ∧
  invT 12 221 = some (m_Model_isIn, 1) ∧
  nM m_Model_isIn = 3 ∧
  oM m_Model_isIn = 12 ∧
  rkM m_Model_isIn = 2 ∧
  dM m_Model_isIn = 0 ∧
  decode (cM m_Model_fits) 11 = .ok (.ifCond .ne 9, 3) ∧
  am_okt 11 9 ∧
  am_tgt 11 9 = 20 ∧
  decode (cM m_Model_fits) 14 = .ok (.aload_n 0, 1) ∧
  decode (cM m_Model_fits) 15 = .ok (.iconst 1, 1) ∧
  decode (cM m_Model_fits) 16 = .ok (.invokevirtual 237, 3) ∧
  invT 12 237 = some (m_Model_fail, 0) ∧
  nM m_Model_fail = 2 ∧
  oM m_Model_fail = 12 ∧
  rkM m_Model_fail = 1 ∧
  dM m_Model_fail = 0 ∧
  decode (cM m_Model_fits) 19 = .ok (.ireturn, 1) ∧
  decode (cM m_Model_fits) 20 = .ok (.aload_n 0, 1) ∧
  decode (cM m_Model_fits) 21 = .ok (.invokevirtual 483, 3) ∧
  invT 12 483 = some (m_Model_tellFits, 0) ∧
  nM m_Model_tellFits = 1 ∧
  oM m_Model_tellFits = 12 ∧
  rkM m_Model_tellFits = 0 ∧
  dM m_Model_tellFits = 6 ∧
  decode (cM m_Model_fits) 24 = .ok (.iload_n 1, 1) ∧
  decode (cM m_Model_fits) 25 = .ok (.ifCond .ne 10, 3) ∧
  am_okt 25 10 ∧
  am_tgt 25 10 = 35 ∧
  decode (cM m_Model_fits) 28 = .ok (.aload_n 0, 1) ∧
  decode (cM m_Model_fits) 29 = .ok (.getfield 477, 3) ∧
  fldT 12 477 = some (12, 63, 0) ∧
  decode (cM m_Model_fits) 32 = .ok (.goto 7, 3) ∧
  am_okt 32 7 ∧
  am_tgt 32 7 = 39 ∧
  decode (cM m_Model_fits) 35 = .ok (.aload_n 0, 1) ∧
  decode (cM m_Model_fits) 36 = .ok (.getfield 480, 3) ∧
  fldT 12 480 = some (12, 64, 0) ∧
  decode (cM m_Model_fits) 39 = .ok (.ireturn, 1) :=
  ⟨rfl, rfl, rfl, rfl, by decide +kernel, by decide +kernel, by decide +kernel, rfl, by decide +kernel, by decide +kernel, by decide +kernel, by decide +kernel, rfl, rfl, rfl, rfl, rfl, by decide +kernel, rfl, rfl, by decide +kernel, by decide +kernel, by decide +kernel, rfl, rfl, rfl, rfl, rfl, by decide +kernel, by decide +kernel, by decide +kernel, rfl, rfl, rfl, rfl, rfl, by decide +kernel, by decide +kernel, rfl, rfl, by decide +kernel, by decide +kernel, rfl, by decide +kernel, rfl, rfl, by decide +kernel, by decide +kernel, rfl, by decide +kernel⟩
set_option maxRecDepth 100000 in
set_option maxHeartbeats 4000000 in
theorem C_Model_tellFits : oM m_Model_tellFits = 12 ∧
  rkM m_Model_tellFits = 0 ∧
  dM m_Model_tellFits = 6 ∧
  lM m_Model_tellFits = 4 ∧
  decode (cM m_Model_tellFits) 0 = .ok (.aload_n 0, 1) ∧
  decode (cM m_Model_tellFits) 1 = .ok (.iconst 0, 1) ∧
  decode (cM m_Model_tellFits) 2 = .ok (.putfield 477, 3) ∧
  fldT 12 477 = some (12, 63, 0) ∧
  decode (cM m_Model_tellFits) 5 = .ok (.aload_n 0, 1) ∧
  decode (cM m_Model_tellFits) 6 = .ok (.iconst (-1), 1) ∧
  decode (cM m_Model_tellFits) 7 = .ok (.putfield 480, 3) ∧
  fldT 12 480 = some (12, 64, 0) ∧
  decode (cM m_Model_tellFits) 10 = .ok (.aload_n 0, 1) ∧
  decode (cM m_Model_tellFits) 11 = .ok (.getfield 105, 3) ∧
  fldT 12 105 = some (12, 54, 2) ∧
  decode (cM m_Model_tellFits) 14 = .ok (.aload_n 0, 1) ∧
  decode (cM m_Model_tellFits) 15 = .ok (.getfield 34, 3) ∧
  fldT 12 34 = some (12, 4, 2) ∧
  decode (cM m_Model_tellFits) 18 = .ok (.invokestatic 243, 3) ∧
  invT 12 243 = some (m_Model_copyTo, 1) ∧
  nM m_Model_copyTo = 2 ∧
  oM m_Model_copyTo = 12 ∧
  rkM m_Model_copyTo = 0 ∧
  dM m_Model_copyTo = 0 ∧
  decode (cM m_Model_tellFits) 21 = .ok (.iconst 0, 1) ∧
  decode (cM m_Model_tellFits) 22 = .ok (.istore_n 1, 1) ∧
  decode (cM m_Model_tellFits) 23 = .ok (.iload_n 1, 1) ∧
  decode (cM m_Model_tellFits) 24 = .ok (.bipush 51, 2) ∧
  decode (cM m_Model_tellFits) 26 = .ok (.if_icmp .ge 158, 3) ∧
  am_okt 26 158 ∧
  am_tgt 26 158 = 184 ∧
  decode (cM m_Model_tellFits) 29 = .ok (.aload_n 0, 1) ∧
  decode (cM m_Model_tellFits) 30 = .ok (.bipush 50, 2) ∧
  decode (cM m_Model_tellFits) 32 = .ok (.iload_n 1, 1) ∧
  decode (cM m_Model_tellFits) 33 = .ok (.iadd, 1) ∧
  decode (cM m_Model_tellFits) 34 = .ok (.invokevirtual 386, 3) ∧
  invT 12 386 = some (m_Model_growNow, 0) ∧
  nM m_Model_growNow = 2 ∧
  oM m_Model_growNow = 12 ∧
  rkM m_Model_growNow = 0 ∧
  dM m_Model_growNow = 5 ∧
  decode (cM m_Model_tellFits) 37 = .ok (.iconst 1, 1) ∧
  decode (cM m_Model_tellFits) 38 = .ok (.istore_n 2, 1) ∧
  decode (cM m_Model_tellFits) 39 = .ok (.iconst 0, 1) ∧
  decode (cM m_Model_tellFits) 40 = .ok (.istore_n 3, 1) ∧
  decode (cM m_Model_tellFits) 41 = .ok (.iload_n 3, 1) ∧
  decode (cM m_Model_tellFits) 42 = .ok (.aload_n 0, 1) ∧
  decode (cM m_Model_tellFits) 43 = .ok (.getfield 250, 3) ∧
  fldT 12 250 = some (12, 60, 0) ∧
  decode (cM m_Model_tellFits) 46 = .ok (.if_icmp .ge 39, 3) ∧
  am_okt 46 39 ∧
  am_tgt 46 39 = 85 ∧
  decode (cM m_Model_tellFits) 49 = .ok (.iload_n 2, 1) ∧
  decode (cM m_Model_tellFits) 50 = .ok (.ifCond .eq 27, 3) ∧
  am_okt 50 27 ∧
  am_tgt 50 27 = 77 ∧
  decode (cM m_Model_tellFits) 53 = .ok (.aload_n 0, 1) ∧
  decode (cM m_Model_tellFits) 54 = .ok (.aload_n 0, 1) ∧
  decode (cM m_Model_tellFits) 55 = .ok (.getfield 111, 3) ∧
  fldT 12 111 = some (12, 61, 2) ∧
  decode (cM m_Model_tellFits) 58 = .ok (.iload_n 3, 1) ∧
  decode (cM m_Model_tellFits) 59 = .ok (.iaload, 1) ∧
  decode (cM m_Model_tellFits) 60 = .ok (.iconst 4, 1) ∧
  decode (cM m_Model_tellFits) 61 = .ok (.invokevirtual 257, 3) ∧
  invT 12 257 = some (m_Model_of, 0) ∧
  nM m_Model_of = 3 ∧
  oM m_Model_of = 12 ∧
  rkM m_Model_of = 1 ∧
  dM m_Model_of = 0 ∧
  decode (cM m_Model_tellFits) 64 = .ok (.aload_n 0, 1) ∧
  decode (cM m_Model_tellFits) 65 = .ok (.getfield 114, 3) ∧
  fldT 12 114 = some (12, 62, 2) ∧
  decode (cM m_Model_tellFits) 68 = .ok (.iload_n 3, 1) ∧
  decode (cM m_Model_tellFits) 69 = .ok (.iaload, 1) ∧
  decode (cM m_Model_tellFits) 70 = .ok (.if_icmp .ne 7, 3) ∧
  am_okt 70 7 ∧
  am_tgt 70 7 = 77 ∧
  decode (cM m_Model_tellFits) 73 = .ok (.iconst 1, 1) ∧
  decode (cM m_Model_tellFits) 74 = .ok (.goto 4, 3) ∧
  am_okt 74 4 ∧
  am_tgt 74 4 = 78 ∧
  decode (cM m_Model_tellFits) 77 = .ok (.iconst 0, 1) ∧
  decode (cM m_Model_tellFits) 78 = .ok (.istore_n 2, 1) ∧
  decode (cM m_Model_tellFits) 79 = .ok (.iinc 3 1, 3) ∧
  decode (cM m_Model_tellFits) 82 = .ok (.goto (-41), 3) ∧
  am_okt 82 (-41) ∧
  am_tgt 82 (-41) = 41 ∧
  decode (cM m_Model_tellFits) 85 = .ok (.iconst 0, 1) ∧
  decode (cM m_Model_tellFits) 86 = .ok (.istore_n 3, 1) ∧
  decode (cM m_Model_tellFits) 87 = .ok (.iload_n 3, 1) ∧
  decode (cM m_Model_tellFits) 88 = .ok (.aload_n 0, 1) ∧
  decode (cM m_Model_tellFits) 89 = .ok (.getfield 27, 3) ∧
  fldT 12 27 = some (12, 2, 2) ∧
  decode (cM m_Model_tellFits) 92 = .ok (.iconst 0, 1) ∧
  decode (cM m_Model_tellFits) 93 = .ok (.iaload, 1) ∧
  decode (cM m_Model_tellFits) 94 = .ok (.if_icmp .ge 33, 3) ∧
  am_okt 94 33 ∧
  am_tgt 94 33 = 127 ∧
  decode (cM m_Model_tellFits) 97 = .ok (.iload_n 2, 1) ∧
  decode (cM m_Model_tellFits) 98 = .ok (.ifCond .eq 29, 3) ∧
  am_okt 98 29 ∧
  am_tgt 98 29 = 127 ∧
  decode (cM m_Model_tellFits) 101 = .ok (.aload_n 0, 1) ∧
  decode (cM m_Model_tellFits) 102 = .ok (.getfield 117, 3) ∧
  fldT 12 117 = some (12, 65, 2) ∧
  decode (cM m_Model_tellFits) 105 = .ok (.bipush 8, 2) ∧
  decode (cM m_Model_tellFits) 107 = .ok (.aload_n 0, 1) ∧
  decode (cM m_Model_tellFits) 108 = .ok (.getfield 477, 3) ∧
  decode (cM m_Model_tellFits) 111 = .ok (.imul, 1) ∧
  decode (cM m_Model_tellFits) 112 = .ok (.iload_n 3, 1) ∧
  decode (cM m_Model_tellFits) 113 = .ok (.iadd, 1) ∧
  decode (cM m_Model_tellFits) 114 = .ok (.aload_n 0, 1) ∧
  decode (cM m_Model_tellFits) 115 = .ok (.iload_n 3, 1) ∧
  decode (cM m_Model_tellFits) 116 = .ok (.iconst 4, 1) ∧
  decode (cM m_Model_tellFits) 117 = .ok (.invokevirtual 257, 3) ∧
  decode (cM m_Model_tellFits) 120 = .ok (.iastore, 1) ∧
  decode (cM m_Model_tellFits) 121 = .ok (.iinc 3 1, 3) ∧
  decode (cM m_Model_tellFits) 124 = .ok (.goto (-37), 3) ∧
  am_okt 124 (-37) ∧
  am_tgt 124 (-37) = 87 ∧
  decode (cM m_Model_tellFits) 127 = .ok (.aload_n 0, 1) ∧
  decode (cM m_Model_tellFits) 128 = .ok (.getfield 34, 3) ∧
  decode (cM m_Model_tellFits) 131 = .ok (.aload_n 0, 1) ∧
  decode (cM m_Model_tellFits) 132 = .ok (.getfield 105, 3) ∧
  decode (cM m_Model_tellFits) 135 = .ok (.invokestatic 243, 3) ∧
  decode (cM m_Model_tellFits) 138 = .ok (.iload_n 2, 1) ∧
  decode (cM m_Model_tellFits) 139 = .ok (.ifCond .ne 6, 3) ∧
  am_okt 139 6 ∧
  am_tgt 139 6 = 145 ∧
  decode (cM m_Model_tellFits) 142 = .ok (.goto 36, 3) ∧
  am_okt 142 36 ∧
  am_tgt 142 36 = 178 ∧
  decode (cM m_Model_tellFits) 145 = .ok (.aload_n 0, 1) ∧
  decode (cM m_Model_tellFits) 146 = .ok (.aload_n 0, 1) ∧
  decode (cM m_Model_tellFits) 147 = .ok (.getfield 480, 3) ∧
  decode (cM m_Model_tellFits) 150 = .ok (.iconst (-1), 1) ∧
  decode (cM m_Model_tellFits) 151 = .ok (.if_icmp .ne 10, 3) ∧
  am_okt 151 10 ∧
  am_tgt 151 10 = 161 ∧
  decode (cM m_Model_tellFits) 154 = .ok (.bipush 50, 2) ∧
  decode (cM m_Model_tellFits) 156 = .ok (.iload_n 1, 1) ∧
  decode (cM m_Model_tellFits) 157 = .ok (.iadd, 1) ∧
  decode (cM m_Model_tellFits) 158 = .ok (.goto 7, 3) ∧
  am_okt 158 7 ∧
  am_tgt 158 7 = 165 ∧
  decode (cM m_Model_tellFits) 161 = .ok (.aload_n 0, 1) ∧
  decode (cM m_Model_tellFits) 162 = .ok (.getfield 480, 3) ∧
  decode (cM m_Model_tellFits) 165 = .ok (.putfield 480, 3) ∧
  decode (cM m_Model_tellFits) 168 = .ok (.aload_n 0, 1) ∧
  decode (cM m_Model_tellFits) 169 = .ok (.dup, 1) ∧
  decode (cM m_Model_tellFits) 170 = .ok (.getfield 477, 3) ∧
  decode (cM m_Model_tellFits) 173 = .ok (.iconst 1, 1) ∧
  decode (cM m_Model_tellFits) 174 = .ok (.iadd, 1) ∧
  decode (cM m_Model_tellFits) 175 = .ok (.putfield 477, 3) ∧
  decode (cM m_Model_tellFits) 178 = .ok (.iinc 1 1, 3) ∧
  decode (cM m_Model_tellFits) 181 = .ok (.goto (-158), 3) ∧
  am_okt 181 (-158) ∧
  am_tgt 181 (-158) = 23 ∧
  decode (cM m_Model_tellFits) 184 = .ok (.return_, 1) :=
  ⟨rfl, rfl, rfl, rfl, by decide +kernel, by decide +kernel, by decide +kernel, rfl, by decide +kernel, by decide +kernel, by decide +kernel, rfl, by decide +kernel, by decide +kernel, rfl, by decide +kernel, by decide +kernel, rfl, by decide +kernel, rfl, rfl, rfl, rfl, rfl, by decide +kernel, by decide +kernel, by decide +kernel, by decide +kernel, by decide +kernel, rfl, rfl, by decide +kernel, by decide +kernel, by decide +kernel, by decide +kernel, by decide +kernel, rfl, rfl, rfl, rfl, rfl, by decide +kernel, by decide +kernel, by decide +kernel, by decide +kernel, by decide +kernel, by decide +kernel, by decide +kernel, rfl, by decide +kernel, rfl, rfl, by decide +kernel, by decide +kernel, rfl, rfl, by decide +kernel, by decide +kernel, by decide +kernel, rfl, by decide +kernel, by decide +kernel, by decide +kernel, by decide +kernel, rfl, rfl, rfl, rfl, rfl, by decide +kernel, by decide +kernel, rfl, by decide +kernel, by decide +kernel, by decide +kernel, rfl, rfl, by decide +kernel, by decide +kernel, rfl, rfl, by decide +kernel, by decide +kernel, by decide +kernel, by decide +kernel, rfl, rfl, by decide +kernel, by decide +kernel, by decide +kernel, by decide +kernel, by decide +kernel, rfl, by decide +kernel, by decide +kernel, by decide +kernel, rfl, rfl, by decide +kernel, by decide +kernel, rfl, rfl, by decide +kernel, by decide +kernel, rfl, by decide +kernel, by decide +kernel, by decide +kernel, by decide +kernel, by decide +kernel, by decide +kernel, by decide +kernel, by decide +kernel, by decide +kernel, by decide +kernel, by decide +kernel, by decide +kernel, by decide +kernel, rfl, rfl, by decide +kernel, by decide +kernel, by decide +kernel, by decide +kernel, by decide +kernel, by decide +kernel, by decide +kernel, rfl, rfl, by decide +kernel, rfl, rfl, by decide +kernel, by decide +kernel, by decide +kernel, by decide +kernel, by decide +kernel, rfl, rfl, by decide +kernel, by decide +kernel, by decide +kernel, by decide +kernel, rfl, rfl, by decide +kernel, by decide +kernel, by decide +kernel, by decide +kernel, by decide +kernel, by decide +kernel, by decide +kernel, by decide +kernel, by decide +kernel, by decide +kernel, by decide +kernel, rfl, rfl, by decide +kernel⟩
set_option maxRecDepth 100000 in
set_option maxHeartbeats 4000000 in
theorem C_Model_look : oM m_Model_look = 12 ∧
  rkM m_Model_look = 1 ∧
  dM m_Model_look = 7 ∧
  lM m_Model_look = 6 ∧
  decode (cM m_Model_look) 0 = .ok (.aload_n 0, 1) ∧
  decode (cM m_Model_look) 1 = .ok (.iconst 0, 1) ∧
  decode (cM m_Model_look) 2 = .ok (.putfield 142, 3) ∧
  fldT 12 142 = some (12, 1, 0) ∧
  decode (cM m_Model_look) 5 = .ok (.iload_n 1, 1) ∧
  decode (cM m_Model_look) 6 = .ok (.iconst 0, 1) ∧
  decode (cM m_Model_look) 7 = .ok (.iconst 1, 1) ∧
  decode (cM m_Model_look) 8 = .ok (.invokestatic 221, 3) ∧
  invT 12 221 = some (m_Model_isIn, 1) ∧
  nM m_Model_isIn = 3 ∧
  oM m_Model_isIn = 12 ∧
  rkM m_Model_isIn = 2 ∧
  dM m_Model_isIn = 0 ∧
  decode (cM m_Model_look) 11 = .ok (.ifCond .ne 9, 3) ∧
  am_okt 11 9 ∧
  am_tgt 11 9 = 20 ∧
  decode (cM m_Model_look) 14 = .ok (.aload_n 0, 1) ∧
  decode (cM m_Model_look) 15 = .ok (.iconst 1, 1) ∧
  decode (cM m_Model_look) 16 = .ok (.invokevirtual 237, 3) ∧
  invT 12 237 = some (m_Model_fail, 0) ∧
  nM m_Model_fail = 2 ∧
  oM m_Model_fail = 12 ∧
  rkM m_Model_fail = 1 ∧
  dM m_Model_fail = 0 ∧
  decode (cM m_Model_look) 19 = .ok (.ireturn, 1) ∧
  decode (cM m_Model_look) 20 = .ok (.aload_n 0, 1) ∧
  decode (cM m_Model_look) 21 = .ok (.invokevirtual 483, 3) ∧
  invT 12 483 = some (m_Model_tellFits, 0) ∧
  nM m_Model_tellFits = 1 ∧
  oM m_Model_tellFits = 12 ∧
  rkM m_Model_tellFits = 0 ∧
  dM m_Model_tellFits = 6 ∧
  decode (cM m_Model_look) 24 = .ok (.iconst (-1), 1) ∧
  decode (cM m_Model_look) 25 = .ok (.istore_n 2, 1) ∧
  decode (cM m_Model_look) 26 = .ok (.iconst 0, 1) ∧
  decode (cM m_Model_look) 27 = .ok (.istore_n 3, 1) ∧
  decode (cM m_Model_look) 28 = .ok (.iconst 0, 1) ∧
  decode (cM m_Model_look) 29 = .ok (.istore 4, 2) ∧
  decode (cM m_Model_look) 31 = .ok (.iload 4, 2) ∧
  decode (cM m_Model_look) 33 = .ok (.aload_n 0, 1) ∧
  decode (cM m_Model_look) 34 = .ok (.getfield 27, 3) ∧
  fldT 12 27 = some (12, 2, 2) ∧
  decode (cM m_Model_look) 37 = .ok (.iconst 0, 1) ∧
  decode (cM m_Model_look) 38 = .ok (.iaload, 1) ∧
  decode (cM m_Model_look) 39 = .ok (.if_icmp .ge 32, 3) ∧
  am_okt 39 32 ∧
  am_tgt 39 32 = 71 ∧
  decode (cM m_Model_look) 42 = .ok (.aload_n 0, 1) ∧
  decode (cM m_Model_look) 43 = .ok (.iload 4, 2) ∧
  decode (cM m_Model_look) 45 = .ok (.invokevirtual 486, 3) ∧
  invT 12 486 = some (m_Model_unlike, 0) ∧
  nM m_Model_unlike = 2 ∧
  oM m_Model_unlike = 12 ∧
  rkM m_Model_unlike = 1 ∧
  dM m_Model_unlike = 0 ∧
  decode (cM m_Model_look) 48 = .ok (.istore 5, 2) ∧
  decode (cM m_Model_look) 50 = .ok (.iload 5, 2) ∧
  decode (cM m_Model_look) 52 = .ok (.iload_n 3, 1) ∧
  decode (cM m_Model_look) 53 = .ok (.if_icmp .gt 6, 3) ∧
  am_okt 53 6 ∧
  am_tgt 53 6 = 59 ∧
  decode (cM m_Model_look) 56 = .ok (.goto 9, 3) ∧
  am_okt 56 9 ∧
  am_tgt 56 9 = 65 ∧
  decode (cM m_Model_look) 59 = .ok (.iload 4, 2) ∧
  decode (cM m_Model_look) 61 = .ok (.istore_n 2, 1) ∧
  decode (cM m_Model_look) 62 = .ok (.iload 5, 2) ∧
  decode (cM m_Model_look) 64 = .ok (.istore_n 3, 1) ∧
  decode (cM m_Model_look) 65 = .ok (.iinc 4 1, 3) ∧
  decode (cM m_Model_look) 68 = .ok (.goto (-37), 3) ∧
  am_okt 68 (-37) ∧
  am_tgt 68 (-37) = 31 ∧
  decode (cM m_Model_look) 71 = .ok (.iload_n 1, 1) ∧
  decode (cM m_Model_look) 72 = .ok (.ifCond .ne 7, 3) ∧
  am_okt 72 7 ∧
  am_tgt 72 7 = 79 ∧
  decode (cM m_Model_look) 75 = .ok (.iload_n 2, 1) ∧
  decode (cM m_Model_look) 76 = .ok (.goto 4, 3) ∧
  am_okt 76 4 ∧
  am_tgt 76 4 = 80 ∧
  decode (cM m_Model_look) 79 = .ok (.iload_n 3, 1) ∧
  decode (cM m_Model_look) 80 = .ok (.ireturn, 1) :=
  ⟨rfl, rfl, rfl, rfl, by decide +kernel, by decide +kernel, by decide +kernel, rfl, by decide +kernel, by decide +kernel, by decide +kernel, by decide +kernel, rfl, rfl, rfl, rfl, rfl, by decide +kernel, rfl, rfl, by decide +kernel, by decide +kernel, by decide +kernel, rfl, rfl, rfl, rfl, rfl, by decide +kernel, by decide +kernel, by decide +kernel, rfl, rfl, rfl, rfl, rfl, by decide +kernel, by decide +kernel, by decide +kernel, by decide +kernel, by decide +kernel, by decide +kernel, by decide +kernel, by decide +kernel, by decide +kernel, rfl, by decide +kernel, by decide +kernel, by decide +kernel, rfl, rfl, by decide +kernel, by decide +kernel, by decide +kernel, rfl, rfl, rfl, rfl, rfl, by decide +kernel, by decide +kernel, by decide +kernel, by decide +kernel, rfl, rfl, by decide +kernel, rfl, rfl, by decide +kernel, by decide +kernel, by decide +kernel, by decide +kernel, by decide +kernel, by decide +kernel, rfl, rfl, by decide +kernel, by decide +kernel, rfl, rfl, by decide +kernel, by decide +kernel, rfl, rfl, by decide +kernel, by decide +kernel⟩
set_option maxRecDepth 100000 in
set_option maxHeartbeats 4000000 in
theorem C_Model_unlike : oM m_Model_unlike = 12 ∧
  rkM m_Model_unlike = 1 ∧
  dM m_Model_unlike = 0 ∧
  lM m_Model_unlike = 6 ∧
  decode (cM m_Model_unlike) 0 = .ok (.iconst 0, 1) ∧
  decode (cM m_Model_unlike) 1 = .ok (.istore_n 2, 1) ∧
  decode (cM m_Model_unlike) 2 = .ok (.iconst 0, 1) ∧
  decode (cM m_Model_unlike) 3 = .ok (.istore_n 3, 1) ∧
  decode (cM m_Model_unlike) 4 = .ok (.iload_n 3, 1) ∧
  decode (cM m_Model_unlike) 5 = .ok (.aload_n 0, 1) ∧
  decode (cM m_Model_unlike) 6 = .ok (.getfield 477, 3) ∧
  fldT 12 477 = some (12, 63, 0) ∧
  decode (cM m_Model_unlike) 9 = .ok (.if_icmp .ge 78, 3) ∧
  am_okt 9 78 ∧
  am_tgt 9 78 = 87 ∧
  decode (cM m_Model_unlike) 12 = .ok (.iconst 1, 1) ∧
  decode (cM m_Model_unlike) 13 = .ok (.istore 4, 2) ∧
  decode (cM m_Model_unlike) 15 = .ok (.iconst 0, 1) ∧
  decode (cM m_Model_unlike) 16 = .ok (.istore 5, 2) ∧
  decode (cM m_Model_unlike) 18 = .ok (.iload 5, 2) ∧
  decode (cM m_Model_unlike) 20 = .ok (.iload_n 3, 1) ∧
  decode (cM m_Model_unlike) 21 = .ok (.if_icmp .ge 47, 3) ∧
  am_okt 21 47 ∧
  am_tgt 21 47 = 68 ∧
  decode (cM m_Model_unlike) 24 = .ok (.iload 4, 2) ∧
  decode (cM m_Model_unlike) 26 = .ok (.ifCond .eq 33, 3) ∧
  am_okt 26 33 ∧
  am_tgt 26 33 = 59 ∧
  decode (cM m_Model_unlike) 29 = .ok (.aload_n 0, 1) ∧
  decode (cM m_Model_unlike) 30 = .ok (.getfield 117, 3) ∧
  fldT 12 117 = some (12, 65, 2) ∧
  decode (cM m_Model_unlike) 33 = .ok (.bipush 8, 2) ∧
  decode (cM m_Model_unlike) 35 = .ok (.iload 5, 2) ∧
  decode (cM m_Model_unlike) 37 = .ok (.imul, 1) ∧
  decode (cM m_Model_unlike) 38 = .ok (.iload_n 1, 1) ∧
  decode (cM m_Model_unlike) 39 = .ok (.iadd, 1) ∧
  decode (cM m_Model_unlike) 40 = .ok (.iaload, 1) ∧
  decode (cM m_Model_unlike) 41 = .ok (.aload_n 0, 1) ∧
  decode (cM m_Model_unlike) 42 = .ok (.getfield 117, 3) ∧
  decode (cM m_Model_unlike) 45 = .ok (.bipush 8, 2) ∧
  decode (cM m_Model_unlike) 47 = .ok (.iload_n 3, 1) ∧
  decode (cM m_Model_unlike) 48 = .ok (.imul, 1) ∧
  decode (cM m_Model_unlike) 49 = .ok (.iload_n 1, 1) ∧
  decode (cM m_Model_unlike) 50 = .ok (.iadd, 1) ∧
  decode (cM m_Model_unlike) 51 = .ok (.iaload, 1) ∧
  decode (cM m_Model_unlike) 52 = .ok (.if_icmp .eq 7, 3) ∧
  am_okt 52 7 ∧
  am_tgt 52 7 = 59 ∧
  decode (cM m_Model_unlike) 55 = .ok (.iconst 1, 1) ∧
  decode (cM m_Model_unlike) 56 = .ok (.goto 4, 3) ∧
  am_okt 56 4 ∧
  am_tgt 56 4 = 60 ∧
  decode (cM m_Model_unlike) 59 = .ok (.iconst 0, 1) ∧
  decode (cM m_Model_unlike) 60 = .ok (.istore 4, 2) ∧
  decode (cM m_Model_unlike) 62 = .ok (.iinc 5 1, 3) ∧
  decode (cM m_Model_unlike) 65 = .ok (.goto (-47), 3) ∧
  am_okt 65 (-47) ∧
  am_tgt 65 (-47) = 18 ∧
  decode (cM m_Model_unlike) 68 = .ok (.iload_n 2, 1) ∧
  decode (cM m_Model_unlike) 69 = .ok (.iload 4, 2) ∧
  decode (cM m_Model_unlike) 71 = .ok (.ifCond .eq 7, 3) ∧
  am_okt 71 7 ∧
  am_tgt 71 7 = 78 ∧
  decode (cM m_Model_unlike) 74 = .ok (.iconst 1, 1) ∧
  decode (cM m_Model_unlike) 75 = .ok (.goto 4, 3) ∧
  am_okt 75 4 ∧
  am_tgt 75 4 = 79 ∧
  decode (cM m_Model_unlike) 78 = .ok (.iconst 0, 1) ∧
  decode (cM m_Model_unlike) 79 = .ok (.iadd, 1) ∧
  decode (cM m_Model_unlike) 80 = .ok (.istore_n 2, 1) ∧
  decode (cM m_Model_unlike) 81 = .ok (.iinc 3 1, 3) ∧
  decode (cM m_Model_unlike) 84 = .ok (.goto (-80), 3) ∧
  am_okt 84 (-80) ∧
  am_tgt 84 (-80) = 4 ∧
  decode (cM m_Model_unlike) 87 = .ok (.iload_n 2, 1) ∧
  decode (cM m_Model_unlike) 88 = .ok (.ireturn, 1) :=
  ⟨rfl, rfl, rfl, rfl, by decide +kernel, by decide +kernel, by decide +kernel, by decide +kernel, by decide +kernel, by decide +kernel, by decide +kernel, rfl, by decide +kernel, rfl, rfl, by decide +kernel, by decide +kernel, by decide +kernel, by decide +kernel, by decide +kernel, by decide +kernel, by decide +kernel, rfl, rfl, by decide +kernel, by decide +kernel, rfl, rfl, by decide +kernel, by decide +kernel, rfl, by decide +kernel, by decide +kernel, by decide +kernel, by decide +kernel, by decide +kernel, by decide +kernel, by decide +kernel, by decide +kernel, by decide +kernel, by decide +kernel, by decide +kernel, by decide +kernel, by decide +kernel, by decide +kernel, by decide +kernel, rfl, rfl, by decide +kernel, by decide +kernel, rfl, rfl, by decide +kernel, by decide +kernel, by decide +kernel, by decide +kernel, rfl, rfl, by decide +kernel, by decide +kernel, by decide +kernel, rfl, rfl, by decide +kernel, by decide +kernel, rfl, rfl, by decide +kernel, by decide +kernel, by decide +kernel, by decide +kernel, by decide +kernel, rfl, rfl, by decide +kernel, by decide +kernel⟩
set_option maxRecDepth 100000 in
set_option maxHeartbeats 4000000 in
theorem C_Model_chance : oM m_Model_chance = 12 ∧
  rkM m_Model_chance = 1 ∧
  dM m_Model_chance = 5 ∧
  lM m_Model_chance = 11 ∧
  decode (cM m_Model_chance) 0 = .ok (.aload_n 0, 1) ∧
  decode (cM m_Model_chance) 1 = .ok (.iconst 0, 1) ∧
  decode (cM m_Model_chance) 2 = .ok (.putfield 142, 3) ∧
  fldT 12 142 = some (12, 1, 0) ∧
  decode (cM m_Model_chance) 5 = .ok (.aload_n 0, 1) ∧
  decode (cM m_Model_chance) 6 = .ok (.iload_n 1, 1) ∧
  decode (cM m_Model_chance) 7 = .ok (.invokevirtual 432, 3) ∧
  invT 12 432 = some (m_Model_isTimber, 0) ∧
  nM m_Model_isTimber = 2 ∧
  oM m_Model_isTimber = 12 ∧
  rkM m_Model_isTimber = 2 ∧
  dM m_Model_isTimber = 1 ∧
  decode (cM m_Model_chance) 10 = .ok (.ifCond .eq 13, 3) ∧
  am_okt 10 13 ∧
  am_tgt 10 13 = 23 ∧
  decode (cM m_Model_chance) 13 = .ok (.iload 4, 2) ∧
  decode (cM m_Model_chance) 15 = .ok (.iconst 0, 1) ∧
  decode (cM m_Model_chance) 16 = .ok (.iconst 2, 1) ∧
  decode (cM m_Model_chance) 17 = .ok (.invokestatic 221, 3) ∧
  invT 12 221 = some (m_Model_isIn, 1) ∧
  nM m_Model_isIn = 3 ∧
  oM m_Model_isIn = 12 ∧
  rkM m_Model_isIn = 2 ∧
  dM m_Model_isIn = 0 ∧
  decode (cM m_Model_chance) 20 = .ok (.ifCond .ne 9, 3) ∧
  am_okt 20 9 ∧
  am_tgt 20 9 = 29 ∧
  decode (cM m_Model_chance) 23 = .ok (.aload_n 0, 1) ∧
  decode (cM m_Model_chance) 24 = .ok (.iconst 1, 1) ∧
  decode (cM m_Model_chance) 25 = .ok (.invokevirtual 237, 3) ∧
  invT 12 237 = some (m_Model_fail, 0) ∧
  nM m_Model_fail = 2 ∧
  oM m_Model_fail = 12 ∧
  rkM m_Model_fail = 1 ∧
  dM m_Model_fail = 0 ∧
  decode (cM m_Model_chance) 28 = .ok (.ireturn, 1) ∧
  decode (cM m_Model_chance) 29 = .ok (.iload_n 3, 1) ∧
  decode (cM m_Model_chance) 30 = .ok (.iconst 0, 1) ∧
  decode (cM m_Model_chance) 31 = .ok (.bipush 40, 2) ∧
  decode (cM m_Model_chance) 33 = .ok (.invokestatic 221, 3) ∧
  decode (cM m_Model_chance) 36 = .ok (.ifCond .ne 9, 3) ∧
  am_okt 36 9 ∧
  am_tgt 36 9 = 45 ∧
  decode (cM m_Model_chance) 39 = .ok (.aload_n 0, 1) ∧
  decode (cM m_Model_chance) 40 = .ok (.iconst 2, 1) ∧
  decode (cM m_Model_chance) 41 = .ok (.invokevirtual 237, 3) ∧
  decode (cM m_Model_chance) 44 = .ok (.ireturn, 1) ∧
  decode (cM m_Model_chance) 45 = .ok (.aload_n 0, 1) ∧
  decode (cM m_Model_chance) 46 = .ok (.iconst (-1), 1) ∧
  decode (cM m_Model_chance) 47 = .ok (.invokevirtual 383, 3) ∧
  invT 12 383 = some (m_Model_layChronology, 0) ∧
  nM m_Model_layChronology = 2 ∧
  oM m_Model_layChronology = 12 ∧
  rkM m_Model_layChronology = 0 ∧
  dM m_Model_layChronology = 4 ∧
  decode (cM m_Model_chance) 50 = .ok (.aload_n 0, 1) ∧
  decode (cM m_Model_chance) 51 = .ok (.iload_n 1, 1) ∧
  decode (cM m_Model_chance) 52 = .ok (.invokevirtual 362, 3) ∧
  invT 12 362 = some (m_Model_layB, 0) ∧
  nM m_Model_layB = 2 ∧
  oM m_Model_layB = 12 ∧
  rkM m_Model_layB = 0 ∧
  dM m_Model_layB = 4 ∧
  decode (cM m_Model_chance) 55 = .ok (.aload_n 0, 1) ∧
  decode (cM m_Model_chance) 56 = .ok (.aload_n 0, 1) ∧
  decode (cM m_Model_chance) 57 = .ok (.invokevirtual 365, 3) ∧
  invT 12 365 = some (m_Model_bound, 0) ∧
  nM m_Model_bound = 1 ∧
  oM m_Model_bound = 12 ∧
  rkM m_Model_bound = 1 ∧
  dM m_Model_bound = 0 ∧
  decode (cM m_Model_chance) 60 = .ok (.invokevirtual 367, 3) ∧
  invT 12 367 = some (m_Model_tellBest, 0) ∧
  nM m_Model_tellBest = 2 ∧
  oM m_Model_tellBest = 12 ∧
  rkM m_Model_tellBest = 0 ∧
  dM m_Model_tellBest = 2 ∧
  decode (cM m_Model_chance) 63 = .ok (.aload_n 0, 1) ∧
  decode (cM m_Model_chance) 64 = .ok (.getfield 331, 3) ∧
  fldT 12 331 = some (12, 41, 1) ∧
  decode (cM m_Model_chance) 67 = .ok (.ifCond .eq 10, 3) ∧
  am_okt 67 10 ∧
  am_tgt 67 10 = 77 ∧
  decode (cM m_Model_chance) 70 = .ok (.aload_n 0, 1) ∧
  decode (cM m_Model_chance) 71 = .ok (.getfield 342, 3) ∧
  fldT 12 342 = some (12, 37, 0) ∧
  decode (cM m_Model_chance) 74 = .ok (.goto 4, 3) ∧
  am_okt 74 4 ∧
  am_tgt 74 4 = 78 ∧
  decode (cM m_Model_chance) 77 = .ok (.iconst 0, 1) ∧
  decode (cM m_Model_chance) 78 = .ok (.istore 5, 2) ∧
  decode (cM m_Model_chance) 80 = .ok (.iconst 0, 1) ∧
  decode (cM m_Model_chance) 81 = .ok (.istore 6, 2) ∧
  decode (cM m_Model_chance) 83 = .ok (.iconst 0, 1) ∧
  decode (cM m_Model_chance) 84 = .ok (.istore 7, 2) ∧
  decode (cM m_Model_chance) 86 = .ok (.iconst 0, 1) ∧
  decode (cM m_Model_chance) 87 = .ok (.istore 8, 2) ∧
  decode (cM m_Model_chance) 89 = .ok (.aload_n 0, 1) ∧
  decode (cM m_Model_chance) 90 = .ok (.iload_n 2, 1) ∧
  decode (cM m_Model_chance) 91 = .ok (.putfield 489, 3) ∧
  fldT 12 489 = some (12, 66, 0) ∧
  decode (cM m_Model_chance) 94 = .ok (.aload_n 0, 1) ∧
  decode (cM m_Model_chance) 95 = .ok (.iconst 0, 1) ∧
  decode (cM m_Model_chance) 96 = .ok (.putfield 291, 3) ∧
  fldT 12 291 = some (12, 29, 0) ∧
  decode (cM m_Model_chance) 99 = .ok (.iconst 0, 1) ∧
  decode (cM m_Model_chance) 100 = .ok (.istore 9, 2) ∧
  decode (cM m_Model_chance) 102 = .ok (.iload 9, 2) ∧
  decode (cM m_Model_chance) 104 = .ok (.iload_n 3, 1) ∧
  decode (cM m_Model_chance) 105 = .ok (.if_icmp .ge 104, 3) ∧
  am_okt 105 104 ∧
  am_tgt 105 104 = 209 ∧
  decode (cM m_Model_chance) 108 = .ok (.iconst 0, 1) ∧
  decode (cM m_Model_chance) 109 = .ok (.istore 10, 2) ∧
  decode (cM m_Model_chance) 111 = .ok (.iload 10, 2) ∧
  decode (cM m_Model_chance) 113 = .ok (.aload_n 0, 1) ∧
  decode (cM m_Model_chance) 114 = .ok (.getfield 288, 3) ∧
  fldT 12 288 = some (12, 28, 0) ∧
  decode (cM m_Model_chance) 117 = .ok (.if_icmp .ge 24, 3) ∧
  am_okt 117 24 ∧
  am_tgt 117 24 = 141 ∧
  decode (cM m_Model_chance) 120 = .ok (.aload_n 0, 1) ∧
  decode (cM m_Model_chance) 121 = .ok (.getfield 59, 3) ∧
  fldT 12 59 = some (12, 23, 2) ∧
  decode (cM m_Model_chance) 124 = .ok (.iload 10, 2) ∧
  decode (cM m_Model_chance) 126 = .ok (.aload_n 0, 1) ∧
  decode (cM m_Model_chance) 127 = .ok (.bipush 99, 2) ∧
  decode (cM m_Model_chance) 129 = .ok (.invokevirtual 493, 3) ∧
  invT 12 493 = some (m_Model_draw, 0) ∧
  nM m_Model_draw = 2 ∧
  oM m_Model_draw = 12 ∧
  rkM m_Model_draw = 1 ∧
  dM m_Model_draw = 0 ∧
  decode (cM m_Model_chance) 132 = .ok (.iconst 1, 1) ∧
  decode (cM m_Model_chance) 133 = .ok (.iadd, 1) ∧
  decode (cM m_Model_chance) 134 = .ok (.iastore, 1) ∧
  decode (cM m_Model_chance) 135 = .ok (.iinc 10 1, 3) ∧
  decode (cM m_Model_chance) 138 = .ok (.goto (-27), 3) ∧
  am_okt 138 (-27) ∧
  am_tgt 138 (-27) = 111 ∧
  decode (cM m_Model_chance) 141 = .ok (.aload_n 0, 1) ∧
  decode (cM m_Model_chance) 142 = .ok (.invokevirtual 294, 3) ∧
  invT 12 294 = some (m_Model_tellB, 0) ∧
  nM m_Model_tellB = 1 ∧
  oM m_Model_tellB = 12 ∧
  rkM m_Model_tellB = 0 ∧
  dM m_Model_tellB = 3 ∧
  decode (cM m_Model_chance) 145 = .ok (.aload_n 0, 1) ∧
  decode (cM m_Model_chance) 146 = .ok (.aload_n 0, 1) ∧
  decode (cM m_Model_chance) 147 = .ok (.invokevirtual 365, 3) ∧
  decode (cM m_Model_chance) 150 = .ok (.invokevirtual 367, 3) ∧
  decode (cM m_Model_chance) 153 = .ok (.aload_n 0, 1) ∧
  decode (cM m_Model_chance) 154 = .ok (.getfield 331, 3) ∧
  decode (cM m_Model_chance) 157 = .ok (.ifCond .eq 10, 3) ∧
  am_okt 157 10 ∧
  am_tgt 157 10 = 167 ∧
  decode (cM m_Model_chance) 160 = .ok (.aload_n 0, 1) ∧
  decode (cM m_Model_chance) 161 = .ok (.getfield 342, 3) ∧
  decode (cM m_Model_chance) 164 = .ok (.goto 4, 3) ∧
  am_okt 164 4 ∧
  am_tgt 164 4 = 168 ∧
  decode (cM m_Model_chance) 167 = .ok (.iconst 0, 1) ∧
  decode (cM m_Model_chance) 168 = .ok (.istore 10, 2) ∧
  decode (cM m_Model_chance) 170 = .ok (.iload 6, 2) ∧
  decode (cM m_Model_chance) 172 = .ok (.iload 10, 2) ∧
  decode (cM m_Model_chance) 174 = .ok (.iload 5, 2) ∧
  decode (cM m_Model_chance) 176 = .ok (.if_icmp .lt 7, 3) ∧
  am_okt 176 7 ∧
  am_tgt 176 7 = 183 ∧
  decode (cM m_Model_chance) 179 = .ok (.iconst 1, 1) ∧
  decode (cM m_Model_chance) 180 = .ok (.goto 4, 3) ∧
  am_okt 180 4 ∧
  am_tgt 180 4 = 184 ∧
  decode (cM m_Model_chance) 183 = .ok (.iconst 0, 1) ∧
  decode (cM m_Model_chance) 184 = .ok (.iadd, 1) ∧
  decode (cM m_Model_chance) 185 = .ok (.istore 6, 2) ∧
  decode (cM m_Model_chance) 187 = .ok (.iload 7, 2) ∧
  decode (cM m_Model_chance) 189 = .ok (.iload 10, 2) ∧
  decode (cM m_Model_chance) 191 = .ok (.invokestatic 306, 3) ∧
  invT 12 306 = some (0, 3) ∧
  decode (cM m_Model_chance) 194 = .ok (.istore 7, 2) ∧
  decode (cM m_Model_chance) 196 = .ok (.iload 8, 2) ∧
  decode (cM m_Model_chance) 198 = .ok (.iload 10, 2) ∧
  decode (cM m_Model_chance) 200 = .ok (.iadd, 1) ∧
  decode (cM m_Model_chance) 201 = .ok (.istore 8, 2) ∧
  decode (cM m_Model_chance) 203 = .ok (.iinc 9 1, 3) ∧
  decode (cM m_Model_chance) 206 = .ok (.goto (-104), 3) ∧
  am_okt 206 (-104) ∧
  am_tgt 206 (-104) = 102 ∧
  decode (cM m_Model_chance) 209 = .ok (.iload 4, 2) ∧
  decode (cM m_Model_chance) 211 = .ok (.ifCond .ne 8, 3) ∧
  am_okt 211 8 ∧
  am_tgt 211 8 = 219 ∧
  decode (cM m_Model_chance) 214 = .ok (.iload 6, 2) ∧
  decode (cM m_Model_chance) 216 = .ok (.goto 16, 3) ∧
  am_okt 216 16 ∧
  am_tgt 216 16 = 232 ∧
  decode (cM m_Model_chance) 219 = .ok (.iload 4, 2) ∧
  decode (cM m_Model_chance) 221 = .ok (.iconst 1, 1) ∧
  decode (cM m_Model_chance) 222 = .ok (.if_icmp .ne 8, 3) ∧
  am_okt 222 8 ∧
  am_tgt 222 8 = 230 ∧
  decode (cM m_Model_chance) 225 = .ok (.iload 7, 2) ∧
  decode (cM m_Model_chance) 227 = .ok (.goto 5, 3) ∧
  am_okt 227 5 ∧
  am_tgt 227 5 = 232 ∧
  decode (cM m_Model_chance) 230 = .ok (.iload 8, 2) ∧
  decode (cM m_Model_chance) 232 = .ok (.ireturn, 1) :=
  ⟨rfl, rfl, rfl, rfl, by decide +kernel, by decide +kernel, by decide +kernel, rfl, by decide +kernel, by decide +kernel, by decide +kernel, rfl, rfl, rfl, rfl, rfl, by decide +kernel, rfl, rfl, by decide +kernel, by decide +kernel, by decide +kernel, by decide +kernel, rfl, rfl, rfl, rfl, rfl, by decide +kernel, rfl, rfl, by decide +kernel, by decide +kernel, by decide +kernel, rfl, rfl, rfl, rfl, rfl, by decide +kernel, by decide +kernel, by decide +kernel, by decide +kernel, by decide +kernel, by decide +kernel, rfl, rfl, by decide +kernel, by decide +kernel, by decide +kernel, by decide +kernel, by decide +kernel, by decide +kernel, by decide +kernel, rfl, rfl, rfl, rfl, rfl, by decide +kernel, by decide +kernel, by decide +kernel, rfl, rfl, rfl, rfl, rfl, by decide +kernel, by decide +kernel, by decide +kernel, rfl, rfl, rfl, rfl, rfl, by decide +kernel, rfl, rfl, rfl, rfl, rfl, by decide +kernel, by decide +kernel, rfl, by decide +kernel, rfl, rfl, by decide +kernel, by decide +kernel, rfl, by decide +kernel, rfl, rfl, by decide +kernel, by decide +kernel, by decide +kernel, by decide +kernel, by decide +kernel, by decide +kernel, by decide +kernel, by decide +kernel, by decide +kernel, by decide +kernel, by decide +kernel, rfl, by decide +kernel, by decide +kernel, by decide +kernel, rfl, by decide +kernel, by decide +kernel, by decide +kernel, by decide +kernel, by decide +kernel, rfl, rfl, by decide +kernel, by decide +kernel, by decide +kernel, by decide +kernel, by decide +kernel, rfl, by decide +kernel, rfl, rfl, by decide +kernel, by decide +kernel, rfl, by decide +kernel, by decide +kernel, by decide +kernel, by decide +kernel, rfl, rfl, rfl, rfl, rfl, by decide +kernel, by decide +kernel, by decide +kernel, by decide +kernel, by decide +kernel, rfl, rfl, by decide +kernel, by decide +kernel, rfl, rfl, rfl, rfl, rfl, by decide +kernel, by decide +kernel, by decide +kernel, by decide +kernel, by decide +kernel, by decide +kernel, by decide +kernel, rfl, rfl, by decide +kernel, by decide +kernel, by decide +kernel, rfl, rfl, by decide +kernel, by decide +kernel, by decide +kernel, by decide +kernel, by decide +kernel, by decide +kernel, rfl, rfl, by decide +kernel, by decide +kernel, rfl, rfl, by decide +kernel, by decide +kernel, by decide +kernel, by decide +kernel, by decide +kernel, by decide +kernel, rfl, by decide +kernel, by decide +kernel, by decide +kernel, by decide +kernel, by decide +kernel, by decide +kernel, by decide +kernel, rfl, rfl, by decide +kernel, by decide +kernel, rfl, rfl, by decide +kernel, by decide +kernel, rfl, rfl, by decide +kernel, by decide +kernel, by decide +kernel, rfl, rfl, by decide +kernel, by decide +kernel, rfl, rfl, by decide +kernel, by decide +kernel⟩
set_option maxRecDepth 100000 in
set_option maxHeartbeats 4000000 in
theorem C_Model_draw : oM m_Model_draw = 12 ∧
  rkM m_Model_draw = 1 ∧
  dM m_Model_draw = 0 ∧
  lM m_Model_draw = 2 ∧
  decode (cM m_Model_draw) 0 = .ok (.aload_n 0, 1) ∧
  decode (cM m_Model_draw) 1 = .ok (.aload_n 0, 1) ∧
  decode (cM m_Model_draw) 2 = .ok (.getfield 489, 3) ∧
  fldT 12 489 = some (12, 66, 0) ∧
  decode (cM m_Model_draw) 5 = .ok (.ldc_w 492, 3) ∧
  ldcT 12 492 = some (.inl 1103515245) ∧
  decode (cM m_Model_draw) 8 = .ok (.imul, 1) ∧
  decode (cM m_Model_draw) 9 = .ok (.sipush 12345, 3) ∧
  decode (cM m_Model_draw) 12 = .ok (.iadd, 1) ∧
  decode (cM m_Model_draw) 13 = .ok (.putfield 489, 3) ∧
  decode (cM m_Model_draw) 16 = .ok (.aload_n 0, 1) ∧
  decode (cM m_Model_draw) 17 = .ok (.getfield 489, 3) ∧
  decode (cM m_Model_draw) 20 = .ok (.bipush 16, 2) ∧
  decode (cM m_Model_draw) 22 = .ok (.ishr, 1) ∧
  decode (cM m_Model_draw) 23 = .ok (.sipush 32767, 3) ∧
  decode (cM m_Model_draw) 26 = .ok (.iand, 1) ∧
  decode (cM m_Model_draw) 27 = .ok (.iload_n 1, 1) ∧
  decode (cM m_Model_draw) 28 = .ok (.irem, 1) ∧
  decode (cM m_Model_draw) 29 = .ok (.ireturn, 1) :=
  ⟨rfl, rfl, rfl, rfl, by decide +kernel, by decide +kernel, by decide +kernel, rfl, by decide +kernel, rfl, by decide +kernel, by decide +kernel, by decide +kernel, by decide +kernel, by decide +kernel, by decide +kernel, by decide +kernel, by decide +kernel, by decide +kernel, by decide +kernel, by decide +kernel, by decide +kernel, by decide +kernel⟩
set_option maxRecDepth 100000 in
set_option maxHeartbeats 4000000 in
theorem C_Model_told : oM m_Model_told = 12 ∧
  rkM m_Model_told = 1 ∧
  dM m_Model_told = 10 ∧
  lM m_Model_told = 3 ∧
  decode (cM m_Model_told) 0 = .ok (.aload_n 0, 1) ∧
  decode (cM m_Model_told) 1 = .ok (.iconst 0, 1) ∧
  decode (cM m_Model_told) 2 = .ok (.putfield 142, 3) ∧
  fldT 12 142 = some (12, 1, 0) ∧
  decode (cM m_Model_told) 5 = .ok (.aload_n 0, 1) ∧
  decode (cM m_Model_told) 6 = .ok (.iload_n 1, 1) ∧
  decode (cM m_Model_told) 7 = .ok (.invokevirtual 432, 3) ∧
  invT 12 432 = some (m_Model_isTimber, 0) ∧
  nM m_Model_isTimber = 2 ∧
  oM m_Model_isTimber = 12 ∧
  rkM m_Model_isTimber = 2 ∧
  dM m_Model_isTimber = 1 ∧
  decode (cM m_Model_told) 10 = .ok (.ifCond .ne 9, 3) ∧
  am_okt 10 9 ∧
  am_tgt 10 9 = 19 ∧
  decode (cM m_Model_told) 13 = .ok (.aload_n 0, 1) ∧
  decode (cM m_Model_told) 14 = .ok (.iconst 1, 1) ∧
  decode (cM m_Model_told) 15 = .ok (.invokevirtual 237, 3) ∧
  invT 12 237 = some (m_Model_fail, 0) ∧
  nM m_Model_fail = 2 ∧
  oM m_Model_fail = 12 ∧
  rkM m_Model_fail = 1 ∧
  dM m_Model_fail = 0 ∧
  decode (cM m_Model_told) 18 = .ok (.ireturn, 1) ∧
  decode (cM m_Model_told) 19 = .ok (.aload_n 0, 1) ∧
  decode (cM m_Model_told) 20 = .ok (.iload_n 1, 1) ∧
  decode (cM m_Model_told) 21 = .ok (.invokevirtual 505, 3) ∧
  invT 12 505 = some (m_Model_tellText, 0) ∧
  nM m_Model_tellText = 2 ∧
  oM m_Model_tellText = 12 ∧
  rkM m_Model_tellText = 0 ∧
  dM m_Model_tellText = 9 ∧
  decode (cM m_Model_told) 24 = .ok (.iload_n 2, 1) ∧
  decode (cM m_Model_told) 25 = .ok (.iconst (-1), 1) ∧
  decode (cM m_Model_told) 26 = .ok (.if_icmp .ne 10, 3) ∧
  am_okt 26 10 ∧
  am_tgt 26 10 = 36 ∧
  decode (cM m_Model_told) 29 = .ok (.aload_n 0, 1) ∧
  decode (cM m_Model_told) 30 = .ok (.getfield 496, 3) ∧
  fldT 12 496 = some (12, 68, 0) ∧
  decode (cM m_Model_told) 33 = .ok (.goto 31, 3) ∧
  am_okt 33 31 ∧
  am_tgt 33 31 = 64 ∧
  decode (cM m_Model_told) 36 = .ok (.iload_n 2, 1) ∧
  decode (cM m_Model_told) 37 = .ok (.iconst 0, 1) ∧
  decode (cM m_Model_told) 38 = .ok (.aload_n 0, 1) ∧
  decode (cM m_Model_told) 39 = .ok (.getfield 496, 3) ∧
  decode (cM m_Model_told) 42 = .ok (.iconst 1, 1) ∧
  decode (cM m_Model_told) 43 = .ok (.isub, 1) ∧
  decode (cM m_Model_told) 44 = .ok (.invokestatic 221, 3) ∧
  invT 12 221 = some (m_Model_isIn, 1) ∧
  nM m_Model_isIn = 3 ∧
  oM m_Model_isIn = 12 ∧
  rkM m_Model_isIn = 2 ∧
  dM m_Model_isIn = 0 ∧
  decode (cM m_Model_told) 47 = .ok (.ifCond .eq 12, 3) ∧
  am_okt 47 12 ∧
  am_tgt 47 12 = 59 ∧
  decode (cM m_Model_told) 50 = .ok (.aload_n 0, 1) ∧
  decode (cM m_Model_told) 51 = .ok (.getfield 120, 3) ∧
  fldT 12 120 = some (12, 67, 2) ∧
  decode (cM m_Model_told) 54 = .ok (.iload_n 2, 1) ∧
  decode (cM m_Model_told) 55 = .ok (.iaload, 1) ∧
  decode (cM m_Model_told) 56 = .ok (.goto 8, 3) ∧
  am_okt 56 8 ∧
  am_tgt 56 8 = 64 ∧
  decode (cM m_Model_told) 59 = .ok (.aload_n 0, 1) ∧
  decode (cM m_Model_told) 60 = .ok (.iconst 1, 1) ∧
  decode (cM m_Model_told) 61 = .ok (.invokevirtual 237, 3) ∧
  decode (cM m_Model_told) 64 = .ok (.ireturn, 1) :=
  ⟨rfl, rfl, rfl, rfl, by decide +kernel, by decide +kernel, by decide +kernel, rfl, by decide +kernel, by decide +kernel, by decide +kernel, rfl, rfl, rfl, rfl, rfl, by decide +kernel, rfl, rfl, by decide +kernel, by decide +kernel, by decide +kernel, rfl, rfl, rfl, rfl, rfl, by decide +kernel, by decide +kernel, by decide +kernel, by decide +kernel, rfl, rfl, rfl, rfl, rfl, by decide +kernel, by decide +kernel, by decide +kernel, rfl, rfl, by decide +kernel, by decide +kernel, rfl, by decide +kernel, rfl, rfl, by decide +kernel, by decide +kernel, by decide +kernel, by decide +kernel, by decide +kernel, by decide +kernel, by decide +kernel, rfl, rfl, rfl, rfl, rfl, by decide +kernel, rfl, rfl, by decide +kernel, by decide +kernel, rfl, by decide +kernel, by decide +kernel, by decide +kernel, rfl, rfl, by decide +kernel, by decide +kernel, by decide +kernel, by decide +kernel⟩
set_option maxRecDepth 100000 in
set_option maxHeartbeats 4000000 in
theorem C_Model_tellText : oM m_Model_tellText = 12 ∧
  rkM m_Model_tellText = 0 ∧
  dM m_Model_tellText = 9 ∧
  lM m_Model_tellText = 3 ∧
  decode (cM m_Model_tellText) 0 = .ok (.aload_n 0, 1) ∧
  decode (cM m_Model_tellText) 1 = .ok (.iconst 0, 1) ∧
  decode (cM m_Model_tellText) 2 = .ok (.putfield 496, 3) ∧
  fldT 12 496 = some (12, 68, 0) ∧
  decode (cM m_Model_tellText) 5 = .ok (.iconst 0, 1) ∧
  decode (cM m_Model_tellText) 6 = .ok (.istore_n 2, 1) ∧
  decode (cM m_Model_tellText) 7 = .ok (.iload_n 2, 1) ∧
  decode (cM m_Model_tellText) 8 = .ok (.aload_n 0, 1) ∧
  decode (cM m_Model_tellText) 9 = .ok (.getfield 21, 3) ∧
  fldT 12 21 = some (12, 0, 2) ∧
  decode (cM m_Model_tellText) 12 = .ok (.iconst 0, 1) ∧
  decode (cM m_Model_tellText) 13 = .ok (.aaload, 1) ∧
  decode (cM m_Model_tellText) 14 = .ok (.invokevirtual 190, 3) ∧
  invT 12 190 = some (m_String_length, 0) ∧
  nM m_String_length = 1 ∧
  oM m_String_length = 15 ∧
  rkM m_String_length = 1 ∧
  dM m_String_length = 8 ∧
  decode (cM m_Model_tellText) 17 = .ok (.if_icmp .ge 23, 3) ∧
  am_okt 17 23 ∧
  am_tgt 17 23 = 40 ∧
  decode (cM m_Model_tellText) 20 = .ok (.aload_n 0, 1) ∧
  decode (cM m_Model_tellText) 21 = .ok (.aload_n 0, 1) ∧
  decode (cM m_Model_tellText) 22 = .ok (.getfield 21, 3) ∧
  decode (cM m_Model_tellText) 25 = .ok (.iconst 0, 1) ∧
  decode (cM m_Model_tellText) 26 = .ok (.aaload, 1) ∧
  decode (cM m_Model_tellText) 27 = .ok (.iload_n 2, 1) ∧
  decode (cM m_Model_tellText) 28 = .ok (.invokevirtual 194, 3) ∧
  invT 12 194 = some (m_String_charAt, 0) ∧
  nM m_String_charAt = 2 ∧
  oM m_String_charAt = 15 ∧
  rkM m_String_charAt = 1 ∧
  dM m_String_charAt = 8 ∧
  decode (cM m_Model_tellText) 31 = .ok (.invokevirtual 499, 3) ∧
  invT 12 499 = some (m_Model_says, 0) ∧
  nM m_Model_says = 2 ∧
  oM m_Model_says = 12 ∧
  rkM m_Model_says = 0 ∧
  dM m_Model_says = 0 ∧
  decode (cM m_Model_tellText) 34 = .ok (.iinc 2 1, 3) ∧
  decode (cM m_Model_tellText) 37 = .ok (.goto (-30), 3) ∧
  am_okt 37 (-30) ∧
  am_tgt 37 (-30) = 7 ∧
  decode (cM m_Model_tellText) 40 = .ok (.aload_n 0, 1) ∧
  decode (cM m_Model_tellText) 41 = .ok (.aload_n 0, 1) ∧
  decode (cM m_Model_tellText) 42 = .ok (.iload_n 1, 1) ∧
  decode (cM m_Model_tellText) 43 = .ok (.iconst 1, 1) ∧
  decode (cM m_Model_tellText) 44 = .ok (.invokevirtual 257, 3) ∧
  invT 12 257 = some (m_Model_of, 0) ∧
  nM m_Model_of = 3 ∧
  oM m_Model_of = 12 ∧
  rkM m_Model_of = 1 ∧
  dM m_Model_of = 0 ∧
  decode (cM m_Model_tellText) 47 = .ok (.invokevirtual 502, 3) ∧
  invT 12 502 = some (m_Model_saysNumber, 0) ∧
  nM m_Model_saysNumber = 2 ∧
  oM m_Model_saysNumber = 12 ∧
  rkM m_Model_saysNumber = 0 ∧
  dM m_Model_saysNumber = 1 ∧
  decode (cM m_Model_tellText) 50 = .ok (.aload_n 0, 1) ∧
  decode (cM m_Model_tellText) 51 = .ok (.aload_n 0, 1) ∧
  decode (cM m_Model_tellText) 52 = .ok (.iload_n 1, 1) ∧
  decode (cM m_Model_tellText) 53 = .ok (.iconst 2, 1) ∧
  decode (cM m_Model_tellText) 54 = .ok (.invokevirtual 257, 3) ∧
  decode (cM m_Model_tellText) 57 = .ok (.invokevirtual 502, 3) ∧
  decode (cM m_Model_tellText) 60 = .ok (.iconst 0, 1) ∧
  decode (cM m_Model_tellText) 61 = .ok (.istore_n 2, 1) ∧
  decode (cM m_Model_tellText) 62 = .ok (.iload_n 2, 1) ∧
  decode (cM m_Model_tellText) 63 = .ok (.aload_n 0, 1) ∧
  decode (cM m_Model_tellText) 64 = .ok (.iload_n 1, 1) ∧
  decode (cM m_Model_tellText) 65 = .ok (.iconst 0, 1) ∧
  decode (cM m_Model_tellText) 66 = .ok (.invokevirtual 257, 3) ∧
  decode (cM m_Model_tellText) 69 = .ok (.if_icmp .ge 42, 3) ∧
  am_okt 69 42 ∧
  am_tgt 69 42 = 111 ∧
  decode (cM m_Model_tellText) 72 = .ok (.aload_n 0, 1) ∧
  decode (cM m_Model_tellText) 73 = .ok (.aload_n 0, 1) ∧
  decode (cM m_Model_tellText) 74 = .ok (.iload_n 1, 1) ∧
  decode (cM m_Model_tellText) 75 = .ok (.bipush 6, 2) ∧
  decode (cM m_Model_tellText) 77 = .ok (.iload_n 2, 1) ∧
  decode (cM m_Model_tellText) 78 = .ok (.iadd, 1) ∧
  decode (cM m_Model_tellText) 79 = .ok (.invokevirtual 257, 3) ∧
  decode (cM m_Model_tellText) 82 = .ok (.invokevirtual 502, 3) ∧
  decode (cM m_Model_tellText) 85 = .ok (.aload_n 0, 1) ∧
  decode (cM m_Model_tellText) 86 = .ok (.iload_n 1, 1) ∧
  decode (cM m_Model_tellText) 87 = .ok (.iconst 5, 1) ∧
  decode (cM m_Model_tellText) 88 = .ok (.invokevirtual 257, 3) ∧
  decode (cM m_Model_tellText) 91 = .ok (.iload_n 2, 1) ∧
  decode (cM m_Model_tellText) 92 = .ok (.ishr, 1) ∧
  decode (cM m_Model_tellText) 93 = .ok (.iconst 1, 1) ∧
  decode (cM m_Model_tellText) 94 = .ok (.iand, 1) ∧
  decode (cM m_Model_tellText) 95 = .ok (.iconst 1, 1) ∧
  decode (cM m_Model_tellText) 96 = .ok (.if_icmp .ne 9, 3) ∧
  am_okt 96 9 ∧
  am_tgt 96 9 = 105 ∧
  decode (cM m_Model_tellText) 99 = .ok (.aload_n 0, 1) ∧
  decode (cM m_Model_tellText) 100 = .ok (.bipush 63, 2) ∧
  decode (cM m_Model_tellText) 102 = .ok (.invokevirtual 499, 3) ∧
  decode (cM m_Model_tellText) 105 = .ok (.iinc 2 1, 3) ∧
  decode (cM m_Model_tellText) 108 = .ok (.goto (-46), 3) ∧
  am_okt 108 (-46) ∧
  am_tgt 108 (-46) = 62 ∧
  decode (cM m_Model_tellText) 111 = .ok (.aload_n 0, 1) ∧
  decode (cM m_Model_tellText) 112 = .ok (.bipush 59, 2) ∧
  decode (cM m_Model_tellText) 114 = .ok (.invokevirtual 499, 3) ∧
  decode (cM m_Model_tellText) 117 = .ok (.return_, 1) :=
  ⟨rfl, rfl, rfl, rfl, by decide +kernel, by decide +kernel, by decide +kernel, rfl, by decide +kernel, by decide +kernel, by decide +kernel, by decide +kernel, by decide +kernel, rfl, by decide +kernel, by decide +kernel, by decide +kernel, rfl, rfl, rfl, rfl, rfl, by decide +kernel, rfl, rfl, by decide +kernel, by decide +kernel, by decide +kernel, by decide +kernel, by decide +kernel, by decide +kernel, by decide +kernel, rfl, rfl, rfl, rfl, rfl, by decide +kernel, rfl, rfl, rfl, rfl, rfl, by decide +kernel, by decide +kernel, rfl, rfl, by decide +kernel, by decide +kernel, by decide +kernel, by decide +kernel, by decide +kernel, rfl, rfl, rfl, rfl, rfl, by decide +kernel, rfl, rfl, rfl, rfl, rfl, by decide +kernel, by decide +kernel, by decide +kernel, by decide +kernel, by decide +kernel, by decide +kernel, by decide +kernel, by decide +kernel, by decide +kernel, by decide +kernel, by decide +kernel, by decide +kernel, by decide +kernel, by decide +kernel, rfl, rfl, by decide +kernel, by decide +kernel, by decide +kernel, by decide +kernel, by decide +kernel, by decide +kernel, by decide +kernel, by decide +kernel, by decide +kernel, by decide +kernel, by decide +kernel, by decide +kernel, by decide +kernel, by decide +kernel, by decide +kernel, by decide +kernel, by decide +kernel, by decide +kernel, rfl, rfl, by decide +kernel, by decide +kernel, by decide +kernel, by decide +kernel, by decide +kernel, rfl, rfl, by decide +kernel, by decide +kernel, by decide +kernel, by decide +kernel⟩
set_option maxRecDepth 100000 in
set_option maxHeartbeats 4000000 in
theorem C_Model_says : oM m_Model_says = 12 ∧
  rkM m_Model_says = 0 ∧
  dM m_Model_says = 0 ∧
  lM m_Model_says = 2 ∧
  decode (cM m_Model_says) 0 = .ok (.aload_n 0, 1) ∧
  decode (cM m_Model_says) 1 = .ok (.getfield 120, 3) ∧
  fldT 12 120 = some (12, 67, 2) ∧
  decode (cM m_Model_says) 4 = .ok (.aload_n 0, 1) ∧
  decode (cM m_Model_says) 5 = .ok (.getfield 496, 3) ∧
  fldT 12 496 = some (12, 68, 0) ∧
  decode (cM m_Model_says) 8 = .ok (.iload_n 1, 1) ∧
  decode (cM m_Model_says) 9 = .ok (.iastore, 1) ∧
  decode (cM m_Model_says) 10 = .ok (.aload_n 0, 1) ∧
  decode (cM m_Model_says) 11 = .ok (.dup, 1) ∧
  decode (cM m_Model_says) 12 = .ok (.getfield 496, 3) ∧
  decode (cM m_Model_says) 15 = .ok (.iconst 1, 1) ∧
  decode (cM m_Model_says) 16 = .ok (.iadd, 1) ∧
  decode (cM m_Model_says) 17 = .ok (.putfield 496, 3) ∧
  decode (cM m_Model_says) 20 = .ok (.return_, 1) :=
  ⟨rfl, rfl, rfl, rfl, by decide +kernel, by decide +kernel, rfl, by decide +kernel, by decide +kernel, rfl, by decide +kernel, by decide +kernel, by decide +kernel, by decide +kernel, by decide +kernel, by decide +kernel, by decide +kernel, by decide +kernel, by decide +kernel⟩
set_option maxRecDepth 100000 in
set_option maxHeartbeats 4000000 in
theorem C_Model_saysNumber : oM m_Model_saysNumber = 12 ∧
  rkM m_Model_saysNumber = 0 ∧
  dM m_Model_saysNumber = 1 ∧
  lM m_Model_saysNumber = 2 ∧
  decode (cM m_Model_saysNumber) 0 = .ok (.aload_n 0, 1) ∧
  decode (cM m_Model_saysNumber) 1 = .ok (.bipush 32, 2) ∧
  decode (cM m_Model_saysNumber) 3 = .ok (.invokevirtual 499, 3) ∧
  invT 12 499 = some (m_Model_says, 0) ∧
  nM m_Model_says = 2 ∧
  oM m_Model_says = 12 ∧
  rkM m_Model_says = 0 ∧
  dM m_Model_says = 0 ∧
  decode (cM m_Model_saysNumber) 6 = .ok (.iload_n 1, 1) ∧
  decode (cM m_Model_saysNumber) 7 = .ok (.bipush 9, 2) ∧
  decode (cM m_Model_saysNumber) 9 = .ok (.if_icmp .le 14, 3) ∧
  am_okt 9 14 ∧
  am_tgt 9 14 = 23 ∧
  decode (cM m_Model_saysNumber) 12 = .ok (.aload_n 0, 1) ∧
  decode (cM m_Model_saysNumber) 13 = .ok (.bipush 48, 2) ∧
  decode (cM m_Model_saysNumber) 15 = .ok (.iload_n 1, 1) ∧
  decode (cM m_Model_saysNumber) 16 = .ok (.bipush 10, 2) ∧
  decode (cM m_Model_saysNumber) 18 = .ok (.idiv, 1) ∧
  decode (cM m_Model_saysNumber) 19 = .ok (.iadd, 1) ∧
  decode (cM m_Model_saysNumber) 20 = .ok (.invokevirtual 499, 3) ∧
  decode (cM m_Model_saysNumber) 23 = .ok (.aload_n 0, 1) ∧
  decode (cM m_Model_saysNumber) 24 = .ok (.bipush 48, 2) ∧
  decode (cM m_Model_saysNumber) 26 = .ok (.iload_n 1, 1) ∧
  decode (cM m_Model_saysNumber) 27 = .ok (.bipush 10, 2) ∧
  decode (cM m_Model_saysNumber) 29 = .ok (.irem, 1) ∧
  decode (cM m_Model_saysNumber) 30 = .ok (.iadd, 1) ∧
  decode (cM m_Model_saysNumber) 31 = .ok (.invokevirtual 499, 3) ∧
  decode (cM m_Model_saysNumber) 34 = .ok (.return_, 1) :=
  ⟨rfl, rfl, rfl, rfl, by decide +kernel, by decide +kernel, by decide +kernel, rfl, rfl, rfl, rfl, rfl, by decide +kernel, by decide +kernel, by decide +kernel, rfl, rfl, by decide +kernel, by decide +kernel, by decide +kernel, by decide +kernel, by decide +kernel, by decide +kernel, by decide +kernel, by decide +kernel, by decide +kernel, by decide +kernel, by decide +kernel, by decide +kernel, by decide +kernel, by decide +kernel, by decide +kernel⟩
set_option maxRecDepth 100000 in
set_option maxHeartbeats 4000000 in
theorem C_Model_image : oM m_Model_image = 12 ∧
  rkM m_Model_image = 0 ∧
  dM m_Model_image = 1 ∧
  lM m_Model_image = 1 ∧
  decode (cM m_Model_image) 0 = .ok (.aload_n 0, 1) ∧
  decode (cM m_Model_image) 1 = .ok (.iconst 0, 1) ∧
  decode (cM m_Model_image) 2 = .ok (.putfield 142, 3) ∧
  fldT 12 142 = some (12, 1, 0) ∧
  decode (cM m_Model_image) 5 = .ok (.aload_n 0, 1) ∧
  decode (cM m_Model_image) 6 = .ok (.iconst 1, 1) ∧
  decode (cM m_Model_image) 7 = .ok (.putfield 253, 3) ∧
  fldT 12 253 = some (12, 69, 1) ∧
  decode (cM m_Model_image) 10 = .ok (.aload_n 0, 1) ∧
  decode (cM m_Model_image) 11 = .ok (.aload_n 0, 1) ∧
  decode (cM m_Model_image) 12 = .ok (.getfield 247, 3) ∧
  fldT 12 247 = some (12, 58, 0) ∧
  decode (cM m_Model_image) 15 = .ok (.putfield 508, 3) ∧
  fldT 12 508 = some (12, 70, 0) ∧
  decode (cM m_Model_image) 18 = .ok (.aload_n 0, 1) ∧
  decode (cM m_Model_image) 19 = .ok (.aload_n 0, 1) ∧
  decode (cM m_Model_image) 20 = .ok (.getfield 250, 3) ∧
  fldT 12 250 = some (12, 60, 0) ∧
  decode (cM m_Model_image) 23 = .ok (.putfield 511, 3) ∧
  fldT 12 511 = some (12, 71, 0) ∧
  decode (cM m_Model_image) 26 = .ok (.aload_n 0, 1) ∧
  decode (cM m_Model_image) 27 = .ok (.getfield 123, 3) ∧
  fldT 12 123 = some (12, 72, 2) ∧
  decode (cM m_Model_image) 30 = .ok (.aload_n 0, 1) ∧
  decode (cM m_Model_image) 31 = .ok (.getfield 34, 3) ∧
  fldT 12 34 = some (12, 4, 2) ∧
  decode (cM m_Model_image) 34 = .ok (.invokestatic 243, 3) ∧
  invT 12 243 = some (m_Model_copyTo, 1) ∧
  nM m_Model_copyTo = 2 ∧
  oM m_Model_copyTo = 12 ∧
  rkM m_Model_copyTo = 0 ∧
  dM m_Model_copyTo = 0 ∧
  decode (cM m_Model_image) 37 = .ok (.aload_n 0, 1) ∧
  decode (cM m_Model_image) 38 = .ok (.getfield 126, 3) ∧
  fldT 12 126 = some (12, 73, 2) ∧
  decode (cM m_Model_image) 41 = .ok (.aload_n 0, 1) ∧
  decode (cM m_Model_image) 42 = .ok (.getfield 108, 3) ∧
  fldT 12 108 = some (12, 59, 2) ∧
  decode (cM m_Model_image) 45 = .ok (.invokestatic 243, 3) ∧
  decode (cM m_Model_image) 48 = .ok (.aload_n 0, 1) ∧
  decode (cM m_Model_image) 49 = .ok (.getfield 129, 3) ∧
  fldT 12 129 = some (12, 74, 2) ∧
  decode (cM m_Model_image) 52 = .ok (.aload_n 0, 1) ∧
  decode (cM m_Model_image) 53 = .ok (.getfield 111, 3) ∧
  fldT 12 111 = some (12, 61, 2) ∧
  decode (cM m_Model_image) 56 = .ok (.invokestatic 243, 3) ∧
  decode (cM m_Model_image) 59 = .ok (.aload_n 0, 1) ∧
  decode (cM m_Model_image) 60 = .ok (.getfield 132, 3) ∧
  fldT 12 132 = some (12, 75, 2) ∧
  decode (cM m_Model_image) 63 = .ok (.aload_n 0, 1) ∧
  decode (cM m_Model_image) 64 = .ok (.getfield 114, 3) ∧
  fldT 12 114 = some (12, 62, 2) ∧
  decode (cM m_Model_image) 67 = .ok (.invokestatic 243, 3) ∧
  decode (cM m_Model_image) 70 = .ok (.aload_n 0, 1) ∧
  decode (cM m_Model_image) 71 = .ok (.getfield 135, 3) ∧
  fldT 12 135 = some (12, 76, 2) ∧
  decode (cM m_Model_image) 74 = .ok (.aload_n 0, 1) ∧
  decode (cM m_Model_image) 75 = .ok (.getfield 40, 3) ∧
  fldT 12 40 = some (12, 6, 2) ∧
  decode (cM m_Model_image) 78 = .ok (.invokestatic 243, 3) ∧
  decode (cM m_Model_image) 81 = .ok (.return_, 1) :=
  ⟨rfl, rfl, rfl, rfl, by decide +kernel, by decide +kernel, by decide +kernel, rfl, by decide +kernel, by decide +kernel, by decide +kernel, rfl, by decide +kernel, by decide +kernel, by decide +kernel, rfl, by decide +kernel, rfl, by decide +kernel, by decide +kernel, by decide +kernel, rfl, by decide +kernel, rfl, by decide +kernel, by decide +kernel, rfl, by decide +kernel, by decide +kernel, rfl, by decide +kernel, rfl, rfl, rfl, rfl, rfl, by decide +kernel, by decide +kernel, rfl, by decide +kernel, by decide +kernel, rfl, by decide +kernel, by decide +kernel, by decide +kernel, rfl, by decide +kernel, by decide +kernel, rfl, by decide +kernel, by decide +kernel, by decide +kernel, rfl, by decide +kernel, by decide +kernel, rfl, by decide +kernel, by decide +kernel, by decide +kernel, rfl, by decide +kernel, by decide +kernel, rfl, by decide +kernel, by decide +kernel⟩
set_option maxRecDepth 100000 in
set_option maxHeartbeats 4000000 in
theorem C_Model_restore : oM m_Model_restore = 12 ∧
  rkM m_Model_restore = 2 ∧
  dM m_Model_restore = 1 ∧
  lM m_Model_restore = 1 ∧
  decode (cM m_Model_restore) 0 = .ok (.aload_n 0, 1) ∧
  decode (cM m_Model_restore) 1 = .ok (.iconst 0, 1) ∧
  decode (cM m_Model_restore) 2 = .ok (.putfield 142, 3) ∧
  fldT 12 142 = some (12, 1, 0) ∧
  decode (cM m_Model_restore) 5 = .ok (.aload_n 0, 1) ∧
  decode (cM m_Model_restore) 6 = .ok (.getfield 253, 3) ∧
  fldT 12 253 = some (12, 69, 1) ∧
  decode (cM m_Model_restore) 9 = .ok (.ifCond .ne 5, 3) ∧
  am_okt 9 5 ∧
  am_tgt 9 5 = 14 ∧
  decode (cM m_Model_restore) 12 = .ok (.iconst 0, 1) ∧
  decode (cM m_Model_restore) 13 = .ok (.ireturn, 1) ∧
  decode (cM m_Model_restore) 14 = .ok (.aload_n 0, 1) ∧
  decode (cM m_Model_restore) 15 = .ok (.aload_n 0, 1) ∧
  decode (cM m_Model_restore) 16 = .ok (.getfield 508, 3) ∧
  fldT 12 508 = some (12, 70, 0) ∧
  decode (cM m_Model_restore) 19 = .ok (.putfield 247, 3) ∧
  fldT 12 247 = some (12, 58, 0) ∧
  decode (cM m_Model_restore) 22 = .ok (.aload_n 0, 1) ∧
  decode (cM m_Model_restore) 23 = .ok (.aload_n 0, 1) ∧
  decode (cM m_Model_restore) 24 = .ok (.getfield 511, 3) ∧
  fldT 12 511 = some (12, 71, 0) ∧
  decode (cM m_Model_restore) 27 = .ok (.putfield 250, 3) ∧
  fldT 12 250 = some (12, 60, 0) ∧
  decode (cM m_Model_restore) 30 = .ok (.aload_n 0, 1) ∧
  decode (cM m_Model_restore) 31 = .ok (.getfield 34, 3) ∧
  fldT 12 34 = some (12, 4, 2) ∧
  decode (cM m_Model_restore) 34 = .ok (.aload_n 0, 1) ∧
  decode (cM m_Model_restore) 35 = .ok (.getfield 123, 3) ∧
  fldT 12 123 = some (12, 72, 2) ∧
  decode (cM m_Model_restore) 38 = .ok (.invokestatic 243, 3) ∧
  invT 12 243 = some (m_Model_copyTo, 1) ∧
  nM m_Model_copyTo = 2 ∧
  oM m_Model_copyTo = 12 ∧
  rkM m_Model_copyTo = 0 ∧
  dM m_Model_copyTo = 0 ∧
  decode (cM m_Model_restore) 41 = .ok (.aload_n 0, 1) ∧
  decode (cM m_Model_restore) 42 = .ok (.getfield 108, 3) ∧
  fldT 12 108 = some (12, 59, 2) ∧
  decode (cM m_Model_restore) 45 = .ok (.aload_n 0, 1) ∧
  decode (cM m_Model_restore) 46 = .ok (.getfield 126, 3) ∧
  fldT 12 126 = some (12, 73, 2) ∧
  decode (cM m_Model_restore) 49 = .ok (.invokestatic 243, 3) ∧
  decode (cM m_Model_restore) 52 = .ok (.aload_n 0, 1) ∧
  decode (cM m_Model_restore) 53 = .ok (.getfield 111, 3) ∧
  fldT 12 111 = some (12, 61, 2) ∧
  decode (cM m_Model_restore) 56 = .ok (.aload_n 0, 1) ∧
  decode (cM m_Model_restore) 57 = .ok (.getfield 129, 3) ∧
  fldT 12 129 = some (12, 74, 2) ∧
  decode (cM m_Model_restore) 60 = .ok (.invokestatic 243, 3) ∧
  decode (cM m_Model_restore) 63 = .ok (.aload_n 0, 1) ∧
  decode (cM m_Model_restore) 64 = .ok (.getfield 114, 3) ∧
  fldT 12 114 = some (12, 62, 2) ∧
  decode (cM m_Model_restore) 67 = .ok (.aload_n 0, 1) ∧
  decode (cM m_Model_restore) 68 = .ok (.getfield 132, 3) ∧
  fldT 12 132 = some (12, 75, 2) ∧
  decode (cM m_Model_restore) 71 = .ok (.invokestatic 243, 3) ∧
  decode (cM m_Model_restore) 74 = .ok (.aload_n 0, 1) ∧
  decode (cM m_Model_restore) 75 = .ok (.getfield 40, 3) ∧
  fldT 12 40 = some (12, 6, 2) ∧
  decode (cM m_Model_restore) 78 = .ok (.aload_n 0, 1) ∧
  decode (cM m_Model_restore) 79 = .ok (.getfield 135, 3) ∧
  fldT 12 135 = some (12, 76, 2) ∧
  decode (cM m_Model_restore) 82 = .ok (.invokestatic 243, 3) ∧
  decode (cM m_Model_restore) 85 = .ok (.iconst 1, 1) ∧
  decode (cM m_Model_restore) 86 = .ok (.ireturn, 1) :=
  ⟨rfl, rfl, rfl, rfl, by decide +kernel, by decide +kernel, by decide +kernel, rfl, by decide +kernel, by decide +kernel, rfl, by decide +kernel, rfl, rfl, by decide +kernel, by decide +kernel, by decide +kernel, by decide +kernel, by decide +kernel, rfl, by decide +kernel, rfl, by decide +kernel, by decide +kernel, by decide +kernel, rfl, by decide +kernel, rfl, by decide +kernel, by decide +kernel, rfl, by decide +kernel, by decide +kernel, rfl, by decide +kernel, rfl, rfl, rfl, rfl, rfl, by decide +kernel, by decide +kernel, rfl, by decide +kernel, by decide +kernel, rfl, by decide +kernel, by decide +kernel, by decide +kernel, rfl, by decide +kernel, by decide +kernel, rfl, by decide +kernel, by decide +kernel, by decide +kernel, rfl, by decide +kernel, by decide +kernel, rfl, by decide +kernel, by decide +kernel, by decide +kernel, rfl, by decide +kernel, by decide +kernel, rfl, by decide +kernel, by decide +kernel, by decide +kernel⟩
set_option maxRecDepth 100000 in
set_option maxHeartbeats 4000000 in
theorem C_Integer_compare : oM m_Integer_compare = 13 ∧
  rkM m_Integer_compare = 1 ∧
  dM m_Integer_compare = 0 ∧
  lM m_Integer_compare = 2 ∧
  decode (cM m_Integer_compare) 0 = .ok (.iload_n 0, 1) ∧
  decode (cM m_Integer_compare) 1 = .ok (.iload_n 1, 1) ∧
  decode (cM m_Integer_compare) 2 = .ok (.if_icmp .ge 7, 3) ∧
  am_okt 2 7 ∧
  am_tgt 2 7 = 9 ∧
  decode (cM m_Integer_compare) 5 = .ok (.iconst (-1), 1) ∧
  decode (cM m_Integer_compare) 6 = .ok (.goto 13, 3) ∧
  am_okt 6 13 ∧
  am_tgt 6 13 = 19 ∧
  decode (cM m_Integer_compare) 9 = .ok (.iload_n 0, 1) ∧
  decode (cM m_Integer_compare) 10 = .ok (.iload_n 1, 1) ∧
  decode (cM m_Integer_compare) 11 = .ok (.if_icmp .ne 7, 3) ∧
  am_okt 11 7 ∧
  am_tgt 11 7 = 18 ∧
  decode (cM m_Integer_compare) 14 = .ok (.iconst 0, 1) ∧
  decode (cM m_Integer_compare) 15 = .ok (.goto 4, 3) ∧
  am_okt 15 4 ∧
  am_tgt 15 4 = 19 ∧
  decode (cM m_Integer_compare) 18 = .ok (.iconst 1, 1) ∧
  decode (cM m_Integer_compare) 19 = .ok (.ireturn, 1) :=
  ⟨rfl, rfl, rfl, rfl, by decide +kernel, by decide +kernel, by decide +kernel, rfl, rfl, by decide +kernel, by decide +kernel, rfl, rfl, by decide +kernel, by decide +kernel, by decide +kernel, rfl, rfl, by decide +kernel, by decide +kernel, rfl, rfl, by decide +kernel, by decide +kernel⟩
set_option maxRecDepth 100000 in
set_option maxHeartbeats 4000000 in
theorem C_Integer_bitCount : oM m_Integer_bitCount = 13 ∧
  rkM m_Integer_bitCount = 1 ∧
  dM m_Integer_bitCount = 0 ∧
  lM m_Integer_bitCount = 1 ∧
  decode (cM m_Integer_bitCount) 0 = .ok (.iload_n 0, 1) ∧
  decode (cM m_Integer_bitCount) 1 = .ok (.iload_n 0, 1) ∧
  decode (cM m_Integer_bitCount) 2 = .ok (.iconst 1, 1) ∧
  decode (cM m_Integer_bitCount) 3 = .ok (.iushr, 1) ∧
  decode (cM m_Integer_bitCount) 4 = .ok (.ldc_w 265, 3) ∧
  ldcT 13 265 = some (.inl 1431655765) ∧
  decode (cM m_Integer_bitCount) 7 = .ok (.iand, 1) ∧
  decode (cM m_Integer_bitCount) 8 = .ok (.isub, 1) ∧
  decode (cM m_Integer_bitCount) 9 = .ok (.istore_n 0, 1) ∧
  decode (cM m_Integer_bitCount) 10 = .ok (.iload_n 0, 1) ∧
  decode (cM m_Integer_bitCount) 11 = .ok (.ldc_w 266, 3) ∧
  ldcT 13 266 = some (.inl 858993459) ∧
  decode (cM m_Integer_bitCount) 14 = .ok (.iand, 1) ∧
  decode (cM m_Integer_bitCount) 15 = .ok (.iload_n 0, 1) ∧
  decode (cM m_Integer_bitCount) 16 = .ok (.iconst 2, 1) ∧
  decode (cM m_Integer_bitCount) 17 = .ok (.iushr, 1) ∧
  decode (cM m_Integer_bitCount) 18 = .ok (.ldc_w 266, 3) ∧
  decode (cM m_Integer_bitCount) 21 = .ok (.iand, 1) ∧
  decode (cM m_Integer_bitCount) 22 = .ok (.iadd, 1) ∧
  decode (cM m_Integer_bitCount) 23 = .ok (.istore_n 0, 1) ∧
  decode (cM m_Integer_bitCount) 24 = .ok (.iload_n 0, 1) ∧
  decode (cM m_Integer_bitCount) 25 = .ok (.iload_n 0, 1) ∧
  decode (cM m_Integer_bitCount) 26 = .ok (.iconst 4, 1) ∧
  decode (cM m_Integer_bitCount) 27 = .ok (.iushr, 1) ∧
  decode (cM m_Integer_bitCount) 28 = .ok (.iadd, 1) ∧
  decode (cM m_Integer_bitCount) 29 = .ok (.ldc_w 267, 3) ∧
  ldcT 13 267 = some (.inl 252645135) ∧
  decode (cM m_Integer_bitCount) 32 = .ok (.iand, 1) ∧
  decode (cM m_Integer_bitCount) 33 = .ok (.istore_n 0, 1) ∧
  decode (cM m_Integer_bitCount) 34 = .ok (.iload_n 0, 1) ∧
  decode (cM m_Integer_bitCount) 35 = .ok (.iload_n 0, 1) ∧
  decode (cM m_Integer_bitCount) 36 = .ok (.bipush 8, 2) ∧
  decode (cM m_Integer_bitCount) 38 = .ok (.iushr, 1) ∧
  decode (cM m_Integer_bitCount) 39 = .ok (.iadd, 1) ∧
  decode (cM m_Integer_bitCount) 40 = .ok (.istore_n 0, 1) ∧
  decode (cM m_Integer_bitCount) 41 = .ok (.iload_n 0, 1) ∧
  decode (cM m_Integer_bitCount) 42 = .ok (.iload_n 0, 1) ∧
  decode (cM m_Integer_bitCount) 43 = .ok (.bipush 16, 2) ∧
  decode (cM m_Integer_bitCount) 45 = .ok (.iushr, 1) ∧
  decode (cM m_Integer_bitCount) 46 = .ok (.iadd, 1) ∧
  decode (cM m_Integer_bitCount) 47 = .ok (.istore_n 0, 1) ∧
  decode (cM m_Integer_bitCount) 48 = .ok (.iload_n 0, 1) ∧
  decode (cM m_Integer_bitCount) 49 = .ok (.bipush 63, 2) ∧
  decode (cM m_Integer_bitCount) 51 = .ok (.iand, 1) ∧
  decode (cM m_Integer_bitCount) 52 = .ok (.ireturn, 1) :=
  ⟨rfl, rfl, rfl, rfl, by decide +kernel, by decide +kernel, by decide +kernel, by decide +kernel, by decide +kernel, rfl, by decide +kernel, by decide +kernel, by decide +kernel, by decide +kernel, by decide +kernel, rfl, by decide +kernel, by decide +kernel, by decide +kernel, by decide +kernel, by decide +kernel, by decide +kernel, by decide +kernel, by decide +kernel, by decide +kernel, by decide +kernel, by decide +kernel, by decide +kernel, by decide +kernel, by decide +kernel, rfl, by decide +kernel, by decide +kernel, by decide +kernel, by decide +kernel, by decide +kernel, by decide +kernel, by decide +kernel, by decide +kernel, by decide +kernel, by decide +kernel, by decide +kernel, by decide +kernel, by decide +kernel, by decide +kernel, by decide +kernel, by decide +kernel, by decide +kernel, by decide +kernel⟩
