/-! THE LAW, 7: its cases (printed by wip/whole/g7f.py). -/
section L7
variable {p : Program} {l : Launch} {e : Env} {s : State} {m : MethodId} {args : Array Value} {below : List Frame} {meth : Method} {c : Code} {Q : State → Prop}
variable {D : va_G} {tA : Nat → ClassId} {n0 o bs b L i k : Nat} {xs : Nat → Int32} {adr adV : Nat → Nat} {M : Mm} {f : Nat → Int64} {H : Heap} {locs : List Loc} {cells slots : Nat} {ls : Array Slot}
set_option maxHeartbeats 4000000 in
set_option maxRecDepth 100000 in
theorem case_0 (C : LCx p s m args c D tA n0 o bs adr adV b L xs) (hfl : l.stackTraces = false) (hR : Rel k M) (hh : LH D tA n0 o bs adr M f H) (hS : LV n0 s H locs) (hl : lv_has ls 7 (lvB b o adr i)) (hi : i + 5 < L) (hk : k ≤ 1000) (hc : cells + 100 ≤ 601024 ∧ slots + 12000 ≤ 7293034) (K : LK p l e s m args below meth c Q D tA n0 o bs adr b i k cells slots) : W p l e room_1 s m args below meth c H locs cells slots Q (F0 m 176 ls []) := by
  obtain ⟨X, hL, hs, hX, hb, h3⟩ := id C
  have hc0 : cells ≤ 601024 ∧ slots ≤ 7293034 := ⟨by omega, by omega⟩
  refine lv_aload_n (i := 1) (x := adr 0) X.1 X.2.1 dw_law_176 rfl (lv_at hl 1 rfl) ?_
  refine l_arg (j := 1) C hS (by omega) (lv_at hl 0 rfl) (lv_at hl 4 rfl) ag_177 ?_
  refine l_arg (j := 2) C hS (by omega) (lv_at hl 0 rfl) (lv_at hl 4 rfl) ag_183 ?_
  refine l_arg (j := 3) C hS (by omega) (lv_at hl 0 rfl) (lv_at hl 4 rfl) ag_189 ?_
  refine l_arg (j := 4) C hS (by omega) (lv_at hl 0 rfl) (lv_at hl 4 rfl) ag_195 ?_
  refine l_arg (j := 5) C hS (by omega) (lv_at hl 0 rfl) (lv_at hl 4 rfl) ag_201 ?_
  refine l_call (q := m_RingDater_feed) (b := 0) (As := [.inl (xs (i + 1)).toInt, .inl (xs (i + 2)).toInt, .inl (xs (i + 3)).toInt, .inl (xs (i + 4)).toInt, .inl (xs (i + 5)).toInt]) (rest := []) X lwd_66 hL hs hh hS hl.1 (show (11 : Nat) = 11 from rfl) rfl ⟨by decide +kernel, by decide +kernel⟩ hc0 (by simp) rfl dw_law_207 (sim_feed hR) (fun v M1 H1 locs1 hv hh1 hS1 => ?_)
  obtain ⟨x, rfl, hx, hB⟩ := hv
  refine lv_aload_n (i := 2) (x := adr 154) X.1 X.2.1 dw_law_210 rfl (lv_at hl 2 rfl) ?_
  refine l_arg (j := 1) C hS1 (by omega) (lv_at hl 0 rfl) (lv_at hl 4 rfl) ag_211 ?_
  refine l_arg (j := 2) C hS1 (by omega) (lv_at hl 0 rfl) (lv_at hl 4 rfl) ag_217 ?_
  refine l_arg (j := 3) C hS1 (by omega) (lv_at hl 0 rfl) (lv_at hl 4 rfl) ag_223 ?_
  refine l_arg (j := 4) C hS1 (by omega) (lv_at hl 0 rfl) (lv_at hl 4 rfl) ag_229 ?_
  refine l_arg (j := 5) C hS1 (by omega) (lv_at hl 0 rfl) (lv_at hl 4 rfl) ag_235 ?_
  refine l_call (q := m_Model_feed) (b := 154) (As := [.inl (xs (i + 1)).toInt, .inl (xs (i + 2)).toInt, .inl (xs (i + 3)).toInt, .inl (xs (i + 4)).toInt, .inl (xs (i + 5)).toInt]) (rest := [.int (iN x)]) X lwd_70 hL hs hh1 hS1 hl.1 (show (12 : Nat) = 12 from rfl) rfl ⟨by decide +kernel, by decide +kernel⟩ hc0 (by simp [Value.category]) rfl dw_law_241 hB (fun v M2 H2 locs2 hv hh2 hS2 => ?_)
  obtain ⟨y, rfl, rfl, hcode, hRel⟩ := hv
  refine lv_icmp_eq (tgt := 1655) X.1 X.2.1 dw_law_244 (by decide) (fun _ => ?_) (fun z => absurd rfl z)
  exact W.widen (by omega) (by omega) (K M2 f H2 locs2 ls hRel hh2 hS2 hl)
set_option maxHeartbeats 4000000 in
set_option maxRecDepth 100000 in
theorem case_1 (C : LCx p s m args c D tA n0 o bs adr adV b L xs) (hfl : l.stackTraces = false) (hR : Rel k M) (hh : LH D tA n0 o bs adr M f H) (hS : LV n0 s H locs) (hl : lv_has ls 7 (lvB b o adr i)) (hi : i + 5 < L) (hk : k ≤ 1000) (hc : cells + 100 ≤ 601024 ∧ slots + 12000 ≤ 7293034) (K : LK p l e s m args below meth c Q D tA n0 o bs adr b i k cells slots) : W p l e room_1 s m args below meth c H locs cells slots Q (F0 m 249 ls []) := by
  obtain ⟨X, hL, hs, hX, hb, h3⟩ := id C
  have hc0 : cells ≤ 601024 ∧ slots ≤ 7293034 := ⟨by omega, by omega⟩
  refine lv_aload_n (i := 1) (x := adr 0) X.1 X.2.1 dw_law_249 rfl (lv_at hl 1 rfl) ?_
  refine l_arg (j := 1) C hS (by omega) (lv_at hl 0 rfl) (lv_at hl 4 rfl) ag_250 ?_
  refine lv_aload_n (i := 3) (x := o) X.1 X.2.1 dw_law_256 rfl (lv_at hl 3 rfl) ?_
  refine l_wcall (as := [.inl (xs (i + 1)).toInt]) C (wr_yard (simWy hR (inR_ti _))) ww_yard rfl hfl hh hS hl.1 hc rfl dw_law_257 (fun r x M1 f1 H1 locs1 hq hf hh1 hS1 => ?_)
  obtain ⟨⟨hr, hx⟩, hB⟩ := hq
  refine lv_istore (lv' := (5, .int (iN r)) :: lvB b o adr i) X.1 X.2.1 dw_law_260 hl (by decide) rfl (fun ls1 hl1 => ?_)
  refine lv_aload_n (i := 2) (x := adr 154) X.1 X.2.1 dw_law_262 rfl (lv_at hl1 3 rfl) ?_
  refine l_arg (j := 1) C hS1 (by omega) (lv_at hl1 1 rfl) (lv_at hl1 5 rfl) ag_263 ?_
  refine l_call (q := m_Model_yard) (b := 154) (As := [.inl (xs (i + 1)).toInt]) (rest := []) X lwd_76 hL hs hh1 hS1 hl1.1 (show (12 : Nat) = 12 from rfl) rfl ⟨by decide +kernel, by decide +kernel⟩ hc (by simp) rfl dw_law_269 hB (fun v M2 H2 locs2 hv hh2 hS2 => ?_)
  obtain ⟨y, rfl, hcode, hxy, hRel⟩ := hv
  refine lv_istore (lv' := (6, .int (iN y)) :: (5, .int (iN r)) :: lvB b o adr i) X.1 X.2.1 dw_law_272 hl1 (by decide) rfl (fun ls2 hl2 => ?_)
  exact l_tailW C lwd_77 hl2 hr hf hxy hcode hh2 hS2 td_274 hc (fun H3 locs3 hh3 hS3 => K M2 f1 H3 locs3 ls2 hRel hh3 hS3 (lv_sub hl2 [2, 3, 4, 5, 6] rfl))
set_option maxHeartbeats 4000000 in
set_option maxRecDepth 100000 in
theorem case_2 (C : LCx p s m args c D tA n0 o bs adr adV b L xs) (hfl : l.stackTraces = false) (hR : Rel k M) (hh : LH D tA n0 o bs adr M f H) (hS : LV n0 s H locs) (hl : lv_has ls 7 (lvB b o adr i)) (hi : i + 5 < L) (hk : k ≤ 1000) (hc : cells + 100 ≤ 601024 ∧ slots + 12000 ≤ 7293034) (K : LK p l e s m args below meth c Q D tA n0 o bs adr b i k cells slots) : W p l e room_1 s m args below meth c H locs cells slots Q (F0 m 305 ls []) := by
  obtain ⟨X, hL, hs, hX, hb, h3⟩ := id C
  have hc0 : cells ≤ 601024 ∧ slots ≤ 7293034 := ⟨by omega, by omega⟩
  refine lv_aload_n (i := 1) (x := adr 0) X.1 X.2.1 dw_law_305 rfl (lv_at hl 1 rfl) ?_
  refine l_call (q := m_RingDater_fault) (b := 0) (As := []) (rest := []) X lwd_81 hL hs hh hS hl.1 (show (11 : Nat) = 11 from rfl) rfl ⟨by decide +kernel, by decide +kernel⟩ hc0 (by simp) rfl dw_law_306 (sim_fault hR) (fun v M1 H1 locs1 hv hh1 hS1 => ?_)
  obtain ⟨x, rfl, hx, hB⟩ := hv
  refine lv_aload_n (i := 2) (x := adr 154) X.1 X.2.1 dw_law_309 rfl (lv_at hl 2 rfl) ?_
  refine l_call (q := m_Model_fault) (b := 154) (As := []) (rest := [.int (iN x)]) X lwd_84 hL hs hh1 hS1 hl.1 (show (12 : Nat) = 12 from rfl) rfl ⟨by decide +kernel, by decide +kernel⟩ hc0 (by simp [Value.category]) rfl dw_law_310 hB (fun v M2 H2 locs2 hv hh2 hS2 => ?_)
  obtain ⟨y, rfl, rfl, hcode, hRel⟩ := hv
  refine lv_icmp_eq (tgt := 1655) X.1 X.2.1 dw_law_313 (by decide) (fun _ => ?_) (fun z => absurd rfl z)
  exact W.widen (by omega) (by omega) (K M2 f H2 locs2 ls hRel hh2 hS2 hl)
set_option maxHeartbeats 4000000 in
set_option maxRecDepth 100000 in
theorem case_3 (C : LCx p s m args c D tA n0 o bs adr adV b L xs) (hfl : l.stackTraces = false) (hR : Rel k M) (hh : LH D tA n0 o bs adr M f H) (hS : LV n0 s H locs) (hl : lv_has ls 7 (lvB b o adr i)) (hi : i + 5 < L) (hk : k ≤ 1000) (hc : cells + 100 ≤ 601024 ∧ slots + 12000 ≤ 7293034) (K : LK p l e s m args below meth c Q D tA n0 o bs adr b i k cells slots) : W p l e room_1 s m args below meth c H locs cells slots Q (F0 m 318 ls []) := by
  obtain ⟨X, hL, hs, hX, hb, h3⟩ := id C
  have hc0 : cells ≤ 601024 ∧ slots ≤ 7293034 := ⟨by omega, by omega⟩
  refine lv_aload_n (i := 1) (x := adr 0) X.1 X.2.1 dw_law_318 rfl (lv_at hl 1 rfl) ?_
  refine l_arg (j := 1) C hS (by omega) (lv_at hl 0 rfl) (lv_at hl 4 rfl) ag_319 ?_
  refine lv_aload_n (i := 3) (x := o) X.1 X.2.1 dw_law_325 rfl (lv_at hl 3 rfl) ?_
  refine l_wcall (as := [.inl (xs (i + 1)).toInt]) C (wr_count (simW1 (sim_count hR hk (inR_ti _)))) ww_count rfl hfl hh hS hl.1 hc rfl dw_law_326 (fun r x M1 f1 H1 locs1 hq hf hh1 hS1 => ?_)
  obtain ⟨⟨hr, hx⟩, hB⟩ := hq
  refine lv_istore (lv' := (5, .int (iN r)) :: lvB b o adr i) X.1 X.2.1 dw_law_329 hl (by decide) rfl (fun ls1 hl1 => ?_)
  refine lv_aload_n (i := 2) (x := adr 154) X.1 X.2.1 dw_law_331 rfl (lv_at hl1 3 rfl) ?_
  refine l_arg (j := 1) C hS1 (by omega) (lv_at hl1 1 rfl) (lv_at hl1 5 rfl) ag_332 ?_
  refine l_call (q := m_Model_count) (b := 154) (As := [.inl (xs (i + 1)).toInt]) (rest := []) X lwd_87 hL hs hh1 hS1 hl1.1 (show (12 : Nat) = 12 from rfl) rfl ⟨by decide +kernel, by decide +kernel⟩ hc (by simp) rfl dw_law_338 hB (fun v M2 H2 locs2 hv hh2 hS2 => ?_)
  obtain ⟨y, rfl, hcode, hxy, hRel⟩ := hv
  refine lv_istore (lv' := (6, .int (iN y)) :: (5, .int (iN r)) :: lvB b o adr i) X.1 X.2.1 dw_law_341 hl1 (by decide) rfl (fun ls2 hl2 => ?_)
  exact l_tailW C lwd_77 hl2 hr hf hxy hcode hh2 hS2 td_343 hc (fun H3 locs3 hh3 hS3 => K M2 f1 H3 locs3 ls2 hRel hh3 hS3 (lv_sub hl2 [2, 3, 4, 5, 6] rfl))
set_option maxHeartbeats 4000000 in
set_option maxRecDepth 100000 in
theorem case_4 (C : LCx p s m args c D tA n0 o bs adr adV b L xs) (hfl : l.stackTraces = false) (hR : Rel k M) (hh : LH D tA n0 o bs adr M f H) (hS : LV n0 s H locs) (hl : lv_has ls 7 (lvB b o adr i)) (hi : i + 5 < L) (hk : k ≤ 1000) (hc : cells + 100 ≤ 601024 ∧ slots + 12000 ≤ 7293034) (K : LK p l e s m args below meth c Q D tA n0 o bs adr b i k cells slots) : W p l e room_1 s m args below meth c H locs cells slots Q (F0 m 374 ls []) := by
  obtain ⟨X, hL, hs, hX, hb, h3⟩ := id C
  have hc0 : cells ≤ 601024 ∧ slots ≤ 7293034 := ⟨by omega, by omega⟩
  refine lv_aload_n (i := 1) (x := adr 0) X.1 X.2.1 dw_law_374 rfl (lv_at hl 1 rfl) ?_
  refine l_arg (j := 1) C hS (by omega) (lv_at hl 0 rfl) (lv_at hl 4 rfl) ag_375 ?_
  refine l_arg (j := 2) C hS (by omega) (lv_at hl 0 rfl) (lv_at hl 4 rfl) ag_381 ?_
  refine lv_aload_n (i := 3) (x := o) X.1 X.2.1 dw_law_387 rfl (lv_at hl 3 rfl) ?_
  refine l_wcall (as := [.inl (xs (i + 1)).toInt, .inl (xs (i + 2)).toInt]) C (wr_timber (simW1 (sim_timber hR (inR_ti _) (inR_ti _)))) ww_timber rfl hfl hh hS hl.1 hc rfl dw_law_388 (fun r x M1 f1 H1 locs1 hq hf hh1 hS1 => ?_)
  obtain ⟨⟨hr, hx⟩, hB⟩ := hq
  refine lv_istore (lv' := (5, .int (iN r)) :: lvB b o adr i) X.1 X.2.1 dw_law_391 hl (by decide) rfl (fun ls1 hl1 => ?_)
  refine lv_aload_n (i := 2) (x := adr 154) X.1 X.2.1 dw_law_393 rfl (lv_at hl1 3 rfl) ?_
  refine l_arg (j := 1) C hS1 (by omega) (lv_at hl1 1 rfl) (lv_at hl1 5 rfl) ag_394 ?_
  refine l_arg (j := 2) C hS1 (by omega) (lv_at hl1 1 rfl) (lv_at hl1 5 rfl) ag_400 ?_
  refine l_call (q := m_Model_timber) (b := 154) (As := [.inl (xs (i + 1)).toInt, .inl (xs (i + 2)).toInt]) (rest := []) X lwd_91 hL hs hh1 hS1 hl1.1 (show (12 : Nat) = 12 from rfl) rfl ⟨by decide +kernel, by decide +kernel⟩ hc (by simp) rfl dw_law_406 hB (fun v M2 H2 locs2 hv hh2 hS2 => ?_)
  obtain ⟨y, rfl, hcode, hxy, hRel⟩ := hv
  refine lv_istore (lv' := (6, .int (iN y)) :: (5, .int (iN r)) :: lvB b o adr i) X.1 X.2.1 dw_law_409 hl1 (by decide) rfl (fun ls2 hl2 => ?_)
  exact l_tailW C lwd_77 hl2 hr hf hxy hcode hh2 hS2 td_411 hc (fun H3 locs3 hh3 hS3 => K M2 f1 H3 locs3 ls2 hRel hh3 hS3 (lv_sub hl2 [2, 3, 4, 5, 6] rfl))
set_option maxHeartbeats 4000000 in
set_option maxRecDepth 100000 in
theorem case_5 (C : LCx p s m args c D tA n0 o bs adr adV b L xs) (hfl : l.stackTraces = false) (hR : Rel k M) (hh : LH D tA n0 o bs adr M f H) (hS : LV n0 s H locs) (hl : lv_has ls 7 (lvB b o adr i)) (hi : i + 5 < L) (hk : k ≤ 1000) (hc : cells + 100 ≤ 601024 ∧ slots + 12000 ≤ 7293034) (K : LK p l e s m args below meth c Q D tA n0 o bs adr b i k cells slots) : W p l e room_1 s m args below meth c H locs cells slots Q (F0 m 442 ls []) := by
  obtain ⟨X, hL, hs, hX, hb, h3⟩ := id C
  have hc0 : cells ≤ 601024 ∧ slots ≤ 7293034 := ⟨by omega, by omega⟩
  refine lv_aload_n (i := 1) (x := adr 0) X.1 X.2.1 dw_law_442 rfl (lv_at hl 1 rfl) ?_
  refine l_arg (j := 1) C hS (by omega) (lv_at hl 0 rfl) (lv_at hl 4 rfl) ag_443 ?_
  refine l_arg (j := 2) C hS (by omega) (lv_at hl 0 rfl) (lv_at hl 4 rfl) ag_449 ?_
  refine lv_aload_n (i := 3) (x := o) X.1 X.2.1 dw_law_455 rfl (lv_at hl 3 rfl) ?_
  refine l_wcall (as := [.inl (xs (i + 1)).toInt, .inl (xs (i + 2)).toInt]) C (wr_house (simW1 (sim_house hR (inR_ti _) (inR_ti _)))) ww_house rfl hfl hh hS hl.1 hc rfl dw_law_456 (fun r x M1 f1 H1 locs1 hq hf hh1 hS1 => ?_)
  obtain ⟨⟨hr, hx⟩, hB⟩ := hq
  refine lv_istore (lv' := (5, .int (iN r)) :: lvB b o adr i) X.1 X.2.1 dw_law_459 hl (by decide) rfl (fun ls1 hl1 => ?_)
  refine lv_aload_n (i := 2) (x := adr 154) X.1 X.2.1 dw_law_461 rfl (lv_at hl1 3 rfl) ?_
  refine l_arg (j := 1) C hS1 (by omega) (lv_at hl1 1 rfl) (lv_at hl1 5 rfl) ag_462 ?_
  refine l_arg (j := 2) C hS1 (by omega) (lv_at hl1 1 rfl) (lv_at hl1 5 rfl) ag_468 ?_
  refine l_call (q := m_Model_house) (b := 154) (As := [.inl (xs (i + 1)).toInt, .inl (xs (i + 2)).toInt]) (rest := []) X lwd_94 hL hs hh1 hS1 hl1.1 (show (12 : Nat) = 12 from rfl) rfl ⟨by decide +kernel, by decide +kernel⟩ hc (by simp) rfl dw_law_474 hB (fun v M2 H2 locs2 hv hh2 hS2 => ?_)
  obtain ⟨y, rfl, hcode, hxy, hRel⟩ := hv
  refine lv_istore (lv' := (6, .int (iN y)) :: (5, .int (iN r)) :: lvB b o adr i) X.1 X.2.1 dw_law_477 hl1 (by decide) rfl (fun ls2 hl2 => ?_)
  exact l_tailW C lwd_77 hl2 hr hf hxy hcode hh2 hS2 td_479 hc (fun H3 locs3 hh3 hS3 => K M2 f1 H3 locs3 ls2 hRel hh3 hS3 (lv_sub hl2 [2, 3, 4, 5, 6] rfl))
set_option maxHeartbeats 4000000 in
set_option maxRecDepth 100000 in
theorem case_6 (C : LCx p s m args c D tA n0 o bs adr adV b L xs) (hfl : l.stackTraces = false) (hR : Rel k M) (hh : LH D tA n0 o bs adr M f H) (hS : LV n0 s H locs) (hl : lv_has ls 7 (lvB b o adr i)) (hi : i + 5 < L) (hk : k ≤ 1000) (hc : cells + 100 ≤ 601024 ∧ slots + 12000 ≤ 7293034) (K : LK p l e s m args below meth c Q D tA n0 o bs adr b i k cells slots) : W p l e room_1 s m args below meth c H locs cells slots Q (F0 m 510 ls []) := by
  obtain ⟨X, hL, hs, hX, hb, h3⟩ := id C
  have hc0 : cells ≤ 601024 ∧ slots ≤ 7293034 := ⟨by omega, by omega⟩
  refine lv_aload_n (i := 1) (x := adr 0) X.1 X.2.1 dw_law_510 rfl (lv_at hl 1 rfl) ?_
  refine l_arg (j := 1) C hS (by omega) (lv_at hl 0 rfl) (lv_at hl 4 rfl) ag_511 ?_
  refine l_arg (j := 2) C hS (by omega) (lv_at hl 0 rfl) (lv_at hl 4 rfl) ag_517 ?_
  refine l_arg (j := 3) C hS (by omega) (lv_at hl 0 rfl) (lv_at hl 4 rfl) ag_523 ?_
  refine lv_aload_n (i := 3) (x := o) X.1 X.2.1 dw_law_529 rfl (lv_at hl 3 rfl) ?_
  refine l_wcall (as := [.inl (xs (i + 1)).toInt, .inl (xs (i + 2)).toInt, .inl (xs (i + 3)).toInt]) C (wr_ring (simW1 (sim_ring hR (inR_ti _) (inR_ti _) (inR_ti _)))) ww_ring rfl hfl hh hS hl.1 hc rfl dw_law_530 (fun r x M1 f1 H1 locs1 hq hf hh1 hS1 => ?_)
  obtain ⟨⟨hr, hx⟩, hB⟩ := hq
  refine lv_istore (lv' := (5, .int (iN r)) :: lvB b o adr i) X.1 X.2.1 dw_law_533 hl (by decide) rfl (fun ls1 hl1 => ?_)
  refine lv_aload_n (i := 2) (x := adr 154) X.1 X.2.1 dw_law_535 rfl (lv_at hl1 3 rfl) ?_
  refine l_arg (j := 1) C hS1 (by omega) (lv_at hl1 1 rfl) (lv_at hl1 5 rfl) ag_536 ?_
  refine l_arg (j := 2) C hS1 (by omega) (lv_at hl1 1 rfl) (lv_at hl1 5 rfl) ag_542 ?_
  refine l_arg (j := 3) C hS1 (by omega) (lv_at hl1 1 rfl) (lv_at hl1 5 rfl) ag_548 ?_
  refine l_call (q := m_Model_ring) (b := 154) (As := [.inl (xs (i + 1)).toInt, .inl (xs (i + 2)).toInt, .inl (xs (i + 3)).toInt]) (rest := []) X lwd_98 hL hs hh1 hS1 hl1.1 (show (12 : Nat) = 12 from rfl) rfl ⟨by decide +kernel, by decide +kernel⟩ hc (by simp) rfl dw_law_554 hB (fun v M2 H2 locs2 hv hh2 hS2 => ?_)
  obtain ⟨y, rfl, hcode, hxy, hRel⟩ := hv
  refine lv_istore (lv' := (6, .int (iN y)) :: (5, .int (iN r)) :: lvB b o adr i) X.1 X.2.1 dw_law_557 hl1 (by decide) rfl (fun ls2 hl2 => ?_)
  exact l_tailW C lwd_77 hl2 hr hf hxy hcode hh2 hS2 td_559 hc (fun H3 locs3 hh3 hS3 => K M2 f1 H3 locs3 ls2 hRel hh3 hS3 (lv_sub hl2 [2, 3, 4, 5, 6] rfl))
set_option maxHeartbeats 4000000 in
set_option maxRecDepth 100000 in
theorem case_7 (C : LCx p s m args c D tA n0 o bs adr adV b L xs) (hfl : l.stackTraces = false) (hR : Rel k M) (hh : LH D tA n0 o bs adr M f H) (hS : LV n0 s H locs) (hl : lv_has ls 7 (lvB b o adr i)) (hi : i + 5 < L) (hk : k ≤ 1000) (hc : cells + 100 ≤ 601024 ∧ slots + 12000 ≤ 7293034) (K : LK p l e s m args below meth c Q D tA n0 o bs adr b i k cells slots) : W p l e room_1 s m args below meth c H locs cells slots Q (F0 m 590 ls []) := by
  obtain ⟨X, hL, hs, hX, hb, h3⟩ := id C
  have hc0 : cells ≤ 601024 ∧ slots ≤ 7293034 := ⟨by omega, by omega⟩
  refine lv_aload_n (i := 1) (x := adr 0) X.1 X.2.1 dw_law_590 rfl (lv_at hl 1 rfl) ?_
  refine l_arg (j := 1) C hS (by omega) (lv_at hl 0 rfl) (lv_at hl 4 rfl) ag_591 ?_
  refine l_call (q := m_RingDater_index) (b := 0) (As := [.inl (xs (i + 1)).toInt]) (rest := []) X lwd_99 hL hs hh hS hl.1 (show (11 : Nat) = 11 from rfl) rfl ⟨by decide +kernel, by decide +kernel⟩ hc0 (by simp) rfl dw_law_597 (sim_index hR (inR_ti _)) (fun v M1 H1 locs1 hv hh1 hS1 => ?_)
  obtain ⟨x, rfl, hx, hB⟩ := hv
  refine lv_aload_n (i := 2) (x := adr 154) X.1 X.2.1 dw_law_600 rfl (lv_at hl 2 rfl) ?_
  refine l_arg (j := 1) C hS1 (by omega) (lv_at hl 0 rfl) (lv_at hl 4 rfl) ag_601 ?_
  refine l_call (q := m_Model_index) (b := 154) (As := [.inl (xs (i + 1)).toInt]) (rest := [.int (iN x)]) X lwd_102 hL hs hh1 hS1 hl.1 (show (12 : Nat) = 12 from rfl) rfl ⟨by decide +kernel, by decide +kernel⟩ hc0 (by simp [Value.category]) rfl dw_law_607 hB (fun v M2 H2 locs2 hv hh2 hS2 => ?_)
  obtain ⟨y, rfl, rfl, hcode, hRel⟩ := hv
  refine lv_icmp_eq (tgt := 1655) X.1 X.2.1 dw_law_610 (by decide) (fun _ => ?_) (fun z => absurd rfl z)
  exact W.widen (by omega) (by omega) (K M2 f H2 locs2 ls hRel hh2 hS2 hl)
set_option maxHeartbeats 4000000 in
set_option maxRecDepth 100000 in
theorem case_8 (C : LCx p s m args c D tA n0 o bs adr adV b L xs) (hfl : l.stackTraces = false) (hR : Rel k M) (hh : LH D tA n0 o bs adr M f H) (hS : LV n0 s H locs) (hl : lv_has ls 7 (lvB b o adr i)) (hi : i + 5 < L) (hk : k ≤ 1000) (hc : cells + 100 ≤ 601024 ∧ slots + 12000 ≤ 7293034) (K : LK p l e s m args below meth c Q D tA n0 o bs adr b i k cells slots) : W p l e room_1 s m args below meth c H locs cells slots Q (F0 m 615 ls []) := by
  obtain ⟨X, hL, hs, hX, hb, h3⟩ := id C
  have hc0 : cells ≤ 601024 ∧ slots ≤ 7293034 := ⟨by omega, by omega⟩
  refine lv_aload_n (i := 1) (x := adr 0) X.1 X.2.1 dw_law_615 rfl (lv_at hl 1 rfl) ?_
  refine l_arg (j := 1) C hS (by omega) (lv_at hl 0 rfl) (lv_at hl 4 rfl) ag_616 ?_
  refine l_call (q := m_RingDater_depth) (b := 0) (As := [.inl (xs (i + 1)).toInt]) (rest := []) X lwd_103 hL hs hh hS hl.1 (show (11 : Nat) = 11 from rfl) rfl ⟨by decide +kernel, by decide +kernel⟩ hc0 (by simp) rfl dw_law_622 (sim_depth hR (inR_ti _)) (fun v M1 H1 locs1 hv hh1 hS1 => ?_)
  obtain ⟨x, rfl, hx, hB⟩ := hv
  refine lv_aload_n (i := 2) (x := adr 154) X.1 X.2.1 dw_law_625 rfl (lv_at hl 2 rfl) ?_
  refine l_arg (j := 1) C hS1 (by omega) (lv_at hl 0 rfl) (lv_at hl 4 rfl) ag_626 ?_
  refine l_call (q := m_Model_depth) (b := 154) (As := [.inl (xs (i + 1)).toInt]) (rest := [.int (iN x)]) X lwd_106 hL hs hh1 hS1 hl.1 (show (12 : Nat) = 12 from rfl) rfl ⟨by decide +kernel, by decide +kernel⟩ hc0 (by simp [Value.category]) rfl dw_law_632 hB (fun v M2 H2 locs2 hv hh2 hS2 => ?_)
  obtain ⟨y, rfl, rfl, hcode, hRel⟩ := hv
  refine lv_icmp_eq (tgt := 1655) X.1 X.2.1 dw_law_635 (by decide) (fun _ => ?_) (fun z => absurd rfl z)
  exact W.widen (by omega) (by omega) (K M2 f H2 locs2 ls hRel hh2 hS2 hl)
set_option maxHeartbeats 4000000 in
set_option maxRecDepth 100000 in
theorem case_9 (C : LCx p s m args c D tA n0 o bs adr adV b L xs) (hfl : l.stackTraces = false) (hR : Rel k M) (hh : LH D tA n0 o bs adr M f H) (hS : LV n0 s H locs) (hl : lv_has ls 7 (lvB b o adr i)) (hi : i + 5 < L) (hk : k ≤ 1000) (hc : cells + 100 ≤ 601024 ∧ slots + 12000 ≤ 7293034) (K : LK p l e s m args below meth c Q D tA n0 o bs adr b i k cells slots) : W p l e room_1 s m args below meth c H locs cells slots Q (F0 m 640 ls []) := by
  obtain ⟨X, hL, hs, hX, hb, h3⟩ := id C
  have hc0 : cells ≤ 601024 ∧ slots ≤ 7293034 := ⟨by omega, by omega⟩
  refine lv_aload_n (i := 1) (x := adr 0) X.1 X.2.1 dw_law_640 rfl (lv_at hl 1 rfl) ?_
  refine l_arg (j := 1) C hS (by omega) (lv_at hl 0 rfl) (lv_at hl 4 rfl) ag_641 ?_
  refine l_arg (j := 2) C hS (by omega) (lv_at hl 0 rfl) (lv_at hl 4 rfl) ag_647 ?_
  refine lv_aload_n (i := 3) (x := o) X.1 X.2.1 dw_law_653 rfl (lv_at hl 3 rfl) ?_
  refine l_wcall (as := [.inl (xs (i + 1)).toInt, .inl (xs (i + 2)).toInt]) C (wr_pointer (simW1 (sim_pointer hR (inR_ti _) (inR_ti _)))) ww_pointer rfl hfl hh hS hl.1 hc rfl dw_law_654 (fun r x M1 f1 H1 locs1 hq hf hh1 hS1 => ?_)
  obtain ⟨⟨hr, hx⟩, hB⟩ := hq
  refine lv_istore (lv' := (5, .int (iN r)) :: lvB b o adr i) X.1 X.2.1 dw_law_657 hl (by decide) rfl (fun ls1 hl1 => ?_)
  refine lv_aload_n (i := 2) (x := adr 154) X.1 X.2.1 dw_law_659 rfl (lv_at hl1 3 rfl) ?_
  refine l_arg (j := 1) C hS1 (by omega) (lv_at hl1 1 rfl) (lv_at hl1 5 rfl) ag_660 ?_
  refine l_arg (j := 2) C hS1 (by omega) (lv_at hl1 1 rfl) (lv_at hl1 5 rfl) ag_666 ?_
  refine l_call (q := m_Model_pointer) (b := 154) (As := [.inl (xs (i + 1)).toInt, .inl (xs (i + 2)).toInt]) (rest := []) X lwd_109 hL hs hh1 hS1 hl1.1 (show (12 : Nat) = 12 from rfl) rfl ⟨by decide +kernel, by decide +kernel⟩ hc (by simp) rfl dw_law_672 hB (fun v M2 H2 locs2 hv hh2 hS2 => ?_)
  obtain ⟨y, rfl, hcode, hxy, hRel⟩ := hv
  refine lv_istore (lv' := (6, .int (iN y)) :: (5, .int (iN r)) :: lvB b o adr i) X.1 X.2.1 dw_law_675 hl1 (by decide) rfl (fun ls2 hl2 => ?_)
  exact l_tailW C lwd_77 hl2 hr hf hxy hcode hh2 hS2 td_677 hc (fun H3 locs3 hh3 hS3 => K M2 f1 H3 locs3 ls2 hRel hh3 hS3 (lv_sub hl2 [2, 3, 4, 5, 6] rfl))
set_option maxHeartbeats 4000000 in
set_option maxRecDepth 100000 in
theorem case_10 (C : LCx p s m args c D tA n0 o bs adr adV b L xs) (hfl : l.stackTraces = false) (hR : Rel k M) (hh : LH D tA n0 o bs adr M f H) (hS : LV n0 s H locs) (hl : lv_has ls 7 (lvB b o adr i)) (hi : i + 5 < L) (hk : k ≤ 1000) (hc : cells + 100 ≤ 601024 ∧ slots + 12000 ≤ 7293034) (K : LK p l e s m args below meth c Q D tA n0 o bs adr b i k cells slots) : W p l e room_1 s m args below meth c H locs cells slots Q (F0 m 708 ls []) := by
  obtain ⟨X, hL, hs, hX, hb, h3⟩ := id C
  have hc0 : cells ≤ 601024 ∧ slots ≤ 7293034 := ⟨by omega, by omega⟩
  refine lv_aload_n (i := 1) (x := adr 0) X.1 X.2.1 dw_law_708 rfl (lv_at hl 1 rfl) ?_
  refine l_arg (j := 1) C hS (by omega) (lv_at hl 0 rfl) (lv_at hl 4 rfl) ag_709 ?_
  refine l_arg (j := 2) C hS (by omega) (lv_at hl 0 rfl) (lv_at hl 4 rfl) ag_715 ?_
  refine l_arg (j := 3) C hS (by omega) (lv_at hl 0 rfl) (lv_at hl 4 rfl) ag_721 ?_
  refine l_arg (j := 4) C hS (by omega) (lv_at hl 0 rfl) (lv_at hl 4 rfl) ag_727 ?_
  refine lv_aload_n (i := 3) (x := o) X.1 X.2.1 dw_law_733 rfl (lv_at hl 3 rfl) ?_
  refine l_wcall (as := [.inl (xs (i + 1)).toInt, .inl (xs (i + 2)).toInt, .inl (xs (i + 3)).toInt, .inl (xs (i + 4)).toInt]) C (wr_slid (simW2 (sim_slid hR (inR_ti _) (inR_ti _) (inR_ti _) (inR_ti _)))) ww_slid rfl hfl hh hS hl.1 hc rfl dw_law_734 (fun r x M1 f1 H1 locs1 hq hf hh1 hS1 => ?_)
  obtain ⟨⟨hr, hx⟩, hB⟩ := hq
  refine lv_istore (lv' := (5, .int (iN r)) :: lvB b o adr i) X.1 X.2.1 dw_law_737 hl (by decide) rfl (fun ls1 hl1 => ?_)
  refine lv_aload_n (i := 2) (x := adr 154) X.1 X.2.1 dw_law_739 rfl (lv_at hl1 3 rfl) ?_
  refine l_arg (j := 1) C hS1 (by omega) (lv_at hl1 1 rfl) (lv_at hl1 5 rfl) ag_740 ?_
  refine l_arg (j := 2) C hS1 (by omega) (lv_at hl1 1 rfl) (lv_at hl1 5 rfl) ag_746 ?_
  refine l_arg (j := 3) C hS1 (by omega) (lv_at hl1 1 rfl) (lv_at hl1 5 rfl) ag_752 ?_
  refine l_arg (j := 4) C hS1 (by omega) (lv_at hl1 1 rfl) (lv_at hl1 5 rfl) ag_758 ?_
  refine l_call (q := m_Model_slid) (b := 154) (As := [.inl (xs (i + 1)).toInt, .inl (xs (i + 2)).toInt, .inl (xs (i + 3)).toInt, .inl (xs (i + 4)).toInt]) (rest := []) X lwd_113 hL hs hh1 hS1 hl1.1 (show (12 : Nat) = 12 from rfl) rfl ⟨by decide +kernel, by decide +kernel⟩ hc (by simp) rfl dw_law_764 hB (fun v M2 H2 locs2 hv hh2 hS2 => ?_)
  obtain ⟨y, rfl, hcode, hxy, hRel⟩ := hv
  refine lv_istore (lv' := (6, .int (iN y)) :: (5, .int (iN r)) :: lvB b o adr i) X.1 X.2.1 dw_law_767 hl1 (by decide) rfl (fun ls2 hl2 => ?_)
  exact l_tailW C lwd_77 hl2 hr hf hxy hcode hh2 hS2 td_769 hc (fun H3 locs3 hh3 hS3 => K M2 f1 H3 locs3 ls2 hRel hh3 hS3 (lv_sub hl2 [2, 3, 4, 5, 6] rfl))
set_option maxHeartbeats 4000000 in
set_option maxRecDepth 100000 in
theorem case_11 (C : LCx p s m args c D tA n0 o bs adr adV b L xs) (hfl : l.stackTraces = false) (hR : Rel k M) (hh : LH D tA n0 o bs adr M f H) (hS : LV n0 s H locs) (hl : lv_has ls 7 (lvB b o adr i)) (hi : i + 5 < L) (hk : k ≤ 1000) (hc : cells + 100 ≤ 601024 ∧ slots + 12000 ≤ 7293034) (K : LK p l e s m args below meth c Q D tA n0 o bs adr b i k cells slots) : W p l e room_1 s m args below meth c H locs cells slots Q (F0 m 800 ls []) := by
  obtain ⟨X, hL, hs, hX, hb, h3⟩ := id C
  have hc0 : cells ≤ 601024 ∧ slots ≤ 7293034 := ⟨by omega, by omega⟩
  refine lv_aload_n (i := 1) (x := adr 0) X.1 X.2.1 dw_law_800 rfl (lv_at hl 1 rfl) ?_
  refine l_arg (j := 1) C hS (by omega) (lv_at hl 0 rfl) (lv_at hl 4 rfl) ag_801 ?_
  refine l_arg (j := 2) C hS (by omega) (lv_at hl 0 rfl) (lv_at hl 4 rfl) ag_807 ?_
  refine l_arg (j := 3) C hS (by omega) (lv_at hl 0 rfl) (lv_at hl 4 rfl) ag_813 ?_
  refine lv_aload_n (i := 3) (x := o) X.1 X.2.1 dw_law_819 rfl (lv_at hl 3 rfl) ?_
  refine l_wcall (as := [.inl (xs (i + 1)).toInt, .inl (xs (i + 2)).toInt, .inl (xs (i + 3)).toInt]) C (wr_best (simW2 (sim_best hR (inR_ti _) (inR_ti _) (inR_ti _)))) ww_best rfl hfl hh hS hl.1 hc rfl dw_law_820 (fun r x M1 f1 H1 locs1 hq hf hh1 hS1 => ?_)
  obtain ⟨⟨hr, hx⟩, hB⟩ := hq
  refine lv_istore (lv' := (5, .int (iN r)) :: lvB b o adr i) X.1 X.2.1 dw_law_823 hl (by decide) rfl (fun ls1 hl1 => ?_)
  refine lv_aload_n (i := 2) (x := adr 154) X.1 X.2.1 dw_law_825 rfl (lv_at hl1 3 rfl) ?_
  refine l_arg (j := 1) C hS1 (by omega) (lv_at hl1 1 rfl) (lv_at hl1 5 rfl) ag_826 ?_
  refine l_arg (j := 2) C hS1 (by omega) (lv_at hl1 1 rfl) (lv_at hl1 5 rfl) ag_832 ?_
  refine l_arg (j := 3) C hS1 (by omega) (lv_at hl1 1 rfl) (lv_at hl1 5 rfl) ag_838 ?_
  refine l_call (q := m_Model_best) (b := 154) (As := [.inl (xs (i + 1)).toInt, .inl (xs (i + 2)).toInt, .inl (xs (i + 3)).toInt]) (rest := []) X lwd_116 hL hs hh1 hS1 hl1.1 (show (12 : Nat) = 12 from rfl) rfl ⟨by decide +kernel, by decide +kernel⟩ hc (by simp) rfl dw_law_844 hB (fun v M2 H2 locs2 hv hh2 hS2 => ?_)
  obtain ⟨y, rfl, hcode, hxy, hRel⟩ := hv
  refine lv_istore (lv' := (6, .int (iN y)) :: (5, .int (iN r)) :: lvB b o adr i) X.1 X.2.1 dw_law_847 hl1 (by decide) rfl (fun ls2 hl2 => ?_)
  exact l_tailW C lwd_77 hl2 hr hf hxy hcode hh2 hS2 td_849 hc (fun H3 locs3 hh3 hS3 => K M2 f1 H3 locs3 ls2 hRel hh3 hS3 (lv_sub hl2 [2, 3, 4, 5, 6] rfl))
set_option maxHeartbeats 4000000 in
set_option maxRecDepth 100000 in
theorem case_12 (C : LCx p s m args c D tA n0 o bs adr adV b L xs) (hfl : l.stackTraces = false) (hR : Rel k M) (hh : LH D tA n0 o bs adr M f H) (hS : LV n0 s H locs) (hl : lv_has ls 7 (lvB b o adr i)) (hi : i + 5 < L) (hk : k ≤ 1000) (hc : cells + 100 ≤ 601024 ∧ slots + 12000 ≤ 7293034) (K : LK p l e s m args below meth c Q D tA n0 o bs adr b i k cells slots) : W p l e room_1 s m args below meth c H locs cells slots Q (F0 m 880 ls []) := by
  obtain ⟨X, hL, hs, hX, hb, h3⟩ := id C
  have hc0 : cells ≤ 601024 ∧ slots ≤ 7293034 := ⟨by omega, by omega⟩
  refine lv_aload_n (i := 1) (x := adr 0) X.1 X.2.1 dw_law_880 rfl (lv_at hl 1 rfl) ?_
  refine l_arg (j := 1) C hS (by omega) (lv_at hl 0 rfl) (lv_at hl 4 rfl) ag_881 ?_
  refine l_arg (j := 2) C hS (by omega) (lv_at hl 0 rfl) (lv_at hl 4 rfl) ag_887 ?_
  refine lv_aload_n (i := 3) (x := o) X.1 X.2.1 dw_law_893 rfl (lv_at hl 3 rfl) ?_
  refine l_wcall (as := [.inl (xs (i + 1)).toInt, .inl (xs (i + 2)).toInt]) C (wr_link (simW1 (sim_link hR (inR_ti _) (inR_ti _)))) ww_link rfl hfl hh hS hl.1 hc rfl dw_law_894 (fun r x M1 f1 H1 locs1 hq hf hh1 hS1 => ?_)
  obtain ⟨⟨hr, hx⟩, hB⟩ := hq
  refine lv_istore (lv' := (5, .int (iN r)) :: lvB b o adr i) X.1 X.2.1 dw_law_897 hl (by decide) rfl (fun ls1 hl1 => ?_)
  refine lv_aload_n (i := 2) (x := adr 154) X.1 X.2.1 dw_law_899 rfl (lv_at hl1 3 rfl) ?_
  refine l_arg (j := 1) C hS1 (by omega) (lv_at hl1 1 rfl) (lv_at hl1 5 rfl) ag_900 ?_
  refine l_arg (j := 2) C hS1 (by omega) (lv_at hl1 1 rfl) (lv_at hl1 5 rfl) ag_906 ?_
  refine l_call (q := m_Model_link) (b := 154) (As := [.inl (xs (i + 1)).toInt, .inl (xs (i + 2)).toInt]) (rest := []) X lwd_119 hL hs hh1 hS1 hl1.1 (show (12 : Nat) = 12 from rfl) rfl ⟨by decide +kernel, by decide +kernel⟩ hc (by simp) rfl dw_law_912 hB (fun v M2 H2 locs2 hv hh2 hS2 => ?_)
  obtain ⟨y, rfl, hcode, hxy, hRel⟩ := hv
  refine lv_istore (lv' := (6, .int (iN y)) :: (5, .int (iN r)) :: lvB b o adr i) X.1 X.2.1 dw_law_915 hl1 (by decide) rfl (fun ls2 hl2 => ?_)
  exact l_tailW C lwd_77 hl2 hr hf hxy hcode hh2 hS2 td_917 hc (fun H3 locs3 hh3 hS3 => K M2 f1 H3 locs3 ls2 hRel hh3 hS3 (lv_sub hl2 [2, 3, 4, 5, 6] rfl))
set_option maxHeartbeats 4000000 in
set_option maxRecDepth 100000 in
theorem case_13 (C : LCx p s m args c D tA n0 o bs adr adV b L xs) (hfl : l.stackTraces = false) (hR : Rel k M) (hh : LH D tA n0 o bs adr M f H) (hS : LV n0 s H locs) (hl : lv_has ls 7 (lvB b o adr i)) (hi : i + 5 < L) (hk : k ≤ 1000) (hc : cells + 100 ≤ 601024 ∧ slots + 12000 ≤ 7293034) (K : LK p l e s m args below meth c Q D tA n0 o bs adr b i k cells slots) : W p l e room_1 s m args below meth c H locs cells slots Q (F0 m 948 ls []) := by
  obtain ⟨X, hL, hs, hX, hb, h3⟩ := id C
  have hc0 : cells ≤ 601024 ∧ slots ≤ 7293034 := ⟨by omega, by omega⟩
  refine lv_aload_n (i := 1) (x := adr 0) X.1 X.2.1 dw_law_948 rfl (lv_at hl 1 rfl) ?_
  refine l_arg (j := 1) C hS (by omega) (lv_at hl 0 rfl) (lv_at hl 4 rfl) ag_949 ?_
  refine l_arg (j := 2) C hS (by omega) (lv_at hl 0 rfl) (lv_at hl 4 rfl) ag_955 ?_
  refine lv_aload_n (i := 3) (x := o) X.1 X.2.1 dw_law_961 rfl (lv_at hl 3 rfl) ?_
  refine l_wcall (as := [.inl (xs (i + 1)).toInt, .inl (xs (i + 2)).toInt]) C (wr_grown (simW1 (sim_grown hR (inR_ti _) (inR_ti _)))) ww_grown rfl hfl hh hS hl.1 hc rfl dw_law_962 (fun r x M1 f1 H1 locs1 hq hf hh1 hS1 => ?_)
  obtain ⟨⟨hr, hx⟩, hB⟩ := hq
  refine lv_istore (lv' := (5, .int (iN r)) :: lvB b o adr i) X.1 X.2.1 dw_law_965 hl (by decide) rfl (fun ls1 hl1 => ?_)
  refine lv_aload_n (i := 2) (x := adr 154) X.1 X.2.1 dw_law_967 rfl (lv_at hl1 3 rfl) ?_
  refine l_arg (j := 1) C hS1 (by omega) (lv_at hl1 1 rfl) (lv_at hl1 5 rfl) ag_968 ?_
  refine l_arg (j := 2) C hS1 (by omega) (lv_at hl1 1 rfl) (lv_at hl1 5 rfl) ag_974 ?_
  refine l_call (q := m_Model_grown) (b := 154) (As := [.inl (xs (i + 1)).toInt, .inl (xs (i + 2)).toInt]) (rest := []) X lwd_122 hL hs hh1 hS1 hl1.1 (show (12 : Nat) = 12 from rfl) rfl ⟨by decide +kernel, by decide +kernel⟩ hc (by simp) rfl dw_law_980 hB (fun v M2 H2 locs2 hv hh2 hS2 => ?_)
  obtain ⟨y, rfl, hcode, hxy, hRel⟩ := hv
  refine lv_istore (lv' := (6, .int (iN y)) :: (5, .int (iN r)) :: lvB b o adr i) X.1 X.2.1 dw_law_983 hl1 (by decide) rfl (fun ls2 hl2 => ?_)
  exact l_tailW C lwd_77 hl2 hr hf hxy hcode hh2 hS2 td_985 hc (fun H3 locs3 hh3 hS3 => K M2 f1 H3 locs3 ls2 hRel hh3 hS3 (lv_sub hl2 [2, 3, 4, 5, 6] rfl))
set_option maxHeartbeats 4000000 in
set_option maxRecDepth 100000 in
theorem case_14 (C : LCx p s m args c D tA n0 o bs adr adV b L xs) (hfl : l.stackTraces = false) (hR : Rel k M) (hh : LH D tA n0 o bs adr M f H) (hS : LV n0 s H locs) (hl : lv_has ls 7 (lvB b o adr i)) (hi : i + 5 < L) (hk : k ≤ 1000) (hc : cells + 100 ≤ 601024 ∧ slots + 12000 ≤ 7293034) (K : LK p l e s m args below meth c Q D tA n0 o bs adr b i k cells slots) : W p l e room_1 s m args below meth c H locs cells slots Q (F0 m 1016 ls []) := by
  obtain ⟨X, hL, hs, hX, hb, h3⟩ := id C
  have hc0 : cells ≤ 601024 ∧ slots ≤ 7293034 := ⟨by omega, by omega⟩
  refine lv_aload_n (i := 1) (x := adr 0) X.1 X.2.1 dw_law_1016 rfl (lv_at hl 1 rfl) ?_
  refine l_arg (j := 1) C hS (by omega) (lv_at hl 0 rfl) (lv_at hl 4 rfl) ag_1017 ?_
  refine l_arg (j := 2) C hS (by omega) (lv_at hl 0 rfl) (lv_at hl 4 rfl) ag_1023 ?_
  refine lv_aload_n (i := 3) (x := o) X.1 X.2.1 dw_law_1029 rfl (lv_at hl 3 rfl) ?_
  refine l_wcall (as := [.inl (xs (i + 1)).toInt, .inl (xs (i + 2)).toInt]) C (wr_help (simW2 (sim_help hR (inR_ti _) (inR_ti _)))) ww_help rfl hfl hh hS hl.1 hc rfl dw_law_1030 (fun r x M1 f1 H1 locs1 hq hf hh1 hS1 => ?_)
  obtain ⟨⟨hr, hx⟩, hB⟩ := hq
  refine lv_istore (lv' := (5, .int (iN r)) :: lvB b o adr i) X.1 X.2.1 dw_law_1033 hl (by decide) rfl (fun ls1 hl1 => ?_)
  refine lv_aload_n (i := 2) (x := adr 154) X.1 X.2.1 dw_law_1035 rfl (lv_at hl1 3 rfl) ?_
  refine l_arg (j := 1) C hS1 (by omega) (lv_at hl1 1 rfl) (lv_at hl1 5 rfl) ag_1036 ?_
  refine l_arg (j := 2) C hS1 (by omega) (lv_at hl1 1 rfl) (lv_at hl1 5 rfl) ag_1042 ?_
  refine l_call (q := m_Model_help) (b := 154) (As := [.inl (xs (i + 1)).toInt, .inl (xs (i + 2)).toInt]) (rest := []) X lwd_125 hL hs hh1 hS1 hl1.1 (show (12 : Nat) = 12 from rfl) rfl ⟨by decide +kernel, by decide +kernel⟩ hc (by simp) rfl dw_law_1048 hB (fun v M2 H2 locs2 hv hh2 hS2 => ?_)
  obtain ⟨y, rfl, hcode, hxy, hRel⟩ := hv
  refine lv_istore (lv' := (6, .int (iN y)) :: (5, .int (iN r)) :: lvB b o adr i) X.1 X.2.1 dw_law_1051 hl1 (by decide) rfl (fun ls2 hl2 => ?_)
  exact l_tailW C lwd_77 hl2 hr hf hxy hcode hh2 hS2 td_1053 hc (fun H3 locs3 hh3 hS3 => K M2 f1 H3 locs3 ls2 hRel hh3 hS3 (lv_sub hl2 [2, 3, 4, 5, 6] rfl))
set_option maxHeartbeats 4000000 in
set_option maxRecDepth 100000 in
theorem case_15 (C : LCx p s m args c D tA n0 o bs adr adV b L xs) (hfl : l.stackTraces = false) (hR : Rel k M) (hh : LH D tA n0 o bs adr M f H) (hS : LV n0 s H locs) (hl : lv_has ls 7 (lvB b o adr i)) (hi : i + 5 < L) (hk : k ≤ 1000) (hc : cells + 100 ≤ 601024 ∧ slots + 12000 ≤ 7293034) (K : LK p l e s m args below meth c Q D tA n0 o bs adr b i k cells slots) : W p l e room_1 s m args below meth c H locs cells slots Q (F0 m 1084 ls []) := by
  obtain ⟨X, hL, hs, hX, hb, h3⟩ := id C
  have hc0 : cells ≤ 601024 ∧ slots ≤ 7293034 := ⟨by omega, by omega⟩
  refine lv_aload_n (i := 1) (x := adr 0) X.1 X.2.1 dw_law_1084 rfl (lv_at hl 1 rfl) ?_
  refine l_arg (j := 1) C hS (by omega) (lv_at hl 0 rfl) (lv_at hl 4 rfl) ag_1085 ?_
  refine l_arg (j := 2) C hS (by omega) (lv_at hl 0 rfl) (lv_at hl 4 rfl) ag_1091 ?_
  refine l_call (q := m_RingDater_date) (b := 0) (As := [.inl (xs (i + 1)).toInt, .inl (xs (i + 2)).toInt]) (rest := []) X lwd_126 hL hs hh hS hl.1 (show (11 : Nat) = 11 from rfl) rfl ⟨by decide +kernel, by decide +kernel⟩ hc0 (by simp) rfl dw_law_1097 (sim_date hR (inR_ti _) (inR_ti _)) (fun v M1 H1 locs1 hv hh1 hS1 => ?_)
  obtain ⟨x, rfl, hx, hB⟩ := hv
  refine lv_aload_n (i := 2) (x := adr 154) X.1 X.2.1 dw_law_1100 rfl (lv_at hl 2 rfl) ?_
  refine l_arg (j := 1) C hS1 (by omega) (lv_at hl 0 rfl) (lv_at hl 4 rfl) ag_1101 ?_
  refine l_arg (j := 2) C hS1 (by omega) (lv_at hl 0 rfl) (lv_at hl 4 rfl) ag_1107 ?_
  refine l_call (q := m_Model_date) (b := 154) (As := [.inl (xs (i + 1)).toInt, .inl (xs (i + 2)).toInt]) (rest := [.int (iN x)]) X lwd_129 hL hs hh1 hS1 hl.1 (show (12 : Nat) = 12 from rfl) rfl ⟨by decide +kernel, by decide +kernel⟩ hc0 (by simp [Value.category]) rfl dw_law_1113 hB (fun v M2 H2 locs2 hv hh2 hS2 => ?_)
  obtain ⟨y, rfl, rfl, hcode, hRel⟩ := hv
  refine lv_icmp_eq (tgt := 1655) X.1 X.2.1 dw_law_1116 (by decide) (fun _ => ?_) (fun z => absurd rfl z)
  exact W.widen (by omega) (by omega) (K M2 f H2 locs2 ls hRel hh2 hS2 hl)
set_option maxHeartbeats 4000000 in
set_option maxRecDepth 100000 in
theorem case_16 (C : LCx p s m args c D tA n0 o bs adr adV b L xs) (hfl : l.stackTraces = false) (hR : Rel k M) (hh : LH D tA n0 o bs adr M f H) (hS : LV n0 s H locs) (hl : lv_has ls 7 (lvB b o adr i)) (hi : i + 5 < L) (hk : k ≤ 1000) (hc : cells + 100 ≤ 601024 ∧ slots + 12000 ≤ 7293034) (K : LK p l e s m args below meth c Q D tA n0 o bs adr b i k cells slots) : W p l e room_1 s m args below meth c H locs cells slots Q (F0 m 1121 ls []) := by
  obtain ⟨X, hL, hs, hX, hb, h3⟩ := id C
  have hc0 : cells ≤ 601024 ∧ slots ≤ 7293034 := ⟨by omega, by omega⟩
  refine lv_aload_n (i := 1) (x := adr 0) X.1 X.2.1 dw_law_1121 rfl (lv_at hl 1 rfl) ?_
  refine l_arg (j := 1) C hS (by omega) (lv_at hl 0 rfl) (lv_at hl 4 rfl) ag_1122 ?_
  refine l_call (q := m_RingDater_settle) (b := 0) (As := [.inl (xs (i + 1)).toInt]) (rest := []) X lwd_130 hL hs hh hS hl.1 (show (11 : Nat) = 11 from rfl) rfl ⟨by decide +kernel, by decide +kernel⟩ hc0 (by simp) rfl dw_law_1128 (sim_settle hR (inR_ti _)) (fun v M1 H1 locs1 hv hh1 hS1 => ?_)
  obtain ⟨x, rfl, hx, hB⟩ := hv
  refine lv_aload_n (i := 2) (x := adr 154) X.1 X.2.1 dw_law_1131 rfl (lv_at hl 2 rfl) ?_
  refine l_arg (j := 1) C hS1 (by omega) (lv_at hl 0 rfl) (lv_at hl 4 rfl) ag_1132 ?_
  refine l_call (q := m_Model_settle) (b := 154) (As := [.inl (xs (i + 1)).toInt]) (rest := [.int (iN x)]) X lwd_133 hL hs hh1 hS1 hl.1 (show (12 : Nat) = 12 from rfl) rfl ⟨by decide +kernel, by decide +kernel⟩ hc0 (by simp [Value.category]) rfl dw_law_1138 hB (fun v M2 H2 locs2 hv hh2 hS2 => ?_)
  obtain ⟨y, rfl, rfl, hcode, hRel⟩ := hv
  refine lv_icmp_eq (tgt := 1655) X.1 X.2.1 dw_law_1141 (by decide) (fun _ => ?_) (fun z => absurd rfl z)
  exact W.widen (by omega) (by omega) (K M2 f H2 locs2 ls hRel hh2 hS2 hl)
set_option maxHeartbeats 4000000 in
set_option maxRecDepth 100000 in
theorem case_17 (C : LCx p s m args c D tA n0 o bs adr adV b L xs) (hfl : l.stackTraces = false) (hR : Rel k M) (hh : LH D tA n0 o bs adr M f H) (hS : LV n0 s H locs) (hl : lv_has ls 7 (lvB b o adr i)) (hi : i + 5 < L) (hk : k ≤ 1000) (hc : cells + 100 ≤ 601024 ∧ slots + 12000 ≤ 7293034) (K : LK p l e s m args below meth c Q D tA n0 o bs adr b i k cells slots) : W p l e room_1 s m args below meth c H locs cells slots Q (F0 m 1146 ls []) := by
  obtain ⟨X, hL, hs, hX, hb, h3⟩ := id C
  have hc0 : cells ≤ 601024 ∧ slots ≤ 7293034 := ⟨by omega, by omega⟩
  refine lv_aload_n (i := 1) (x := adr 0) X.1 X.2.1 dw_law_1146 rfl (lv_at hl 1 rfl) ?_
  refine l_call (q := m_RingDater_grow) (b := 0) (As := []) (rest := []) X lwd_134 hL hs hh hS hl.1 (show (11 : Nat) = 11 from rfl) rfl ⟨by decide +kernel, by decide +kernel⟩ hc0 (by simp) rfl dw_law_1147 (sim_grow hR) (fun v M1 H1 locs1 hv hh1 hS1 => ?_)
  obtain ⟨x, rfl, hx, hB⟩ := hv
  refine lv_aload_n (i := 2) (x := adr 154) X.1 X.2.1 dw_law_1150 rfl (lv_at hl 2 rfl) ?_
  refine l_call (q := m_Model_grow) (b := 154) (As := []) (rest := [.int (iN x)]) X lwd_137 hL hs hh1 hS1 hl.1 (show (12 : Nat) = 12 from rfl) rfl ⟨by decide +kernel, by decide +kernel⟩ hc0 (by simp [Value.category]) rfl dw_law_1151 hB (fun v M2 H2 locs2 hv hh2 hS2 => ?_)
  obtain ⟨y, rfl, rfl, hcode, hRel⟩ := hv
  refine lv_icmp_eq (tgt := 1655) X.1 X.2.1 dw_law_1154 (by decide) (fun _ => ?_) (fun z => absurd rfl z)
  exact W.widen (by omega) (by omega) (K M2 f H2 locs2 ls hRel hh2 hS2 hl)
set_option maxHeartbeats 4000000 in
set_option maxRecDepth 100000 in
theorem case_18 (C : LCx p s m args c D tA n0 o bs adr adV b L xs) (hfl : l.stackTraces = false) (hR : Rel k M) (hh : LH D tA n0 o bs adr M f H) (hS : LV n0 s H locs) (hl : lv_has ls 7 (lvB b o adr i)) (hi : i + 5 < L) (hk : k ≤ 1000) (hc : cells + 100 ≤ 601024 ∧ slots + 12000 ≤ 7293034) (K : LK p l e s m args below meth c Q D tA n0 o bs adr b i k cells slots) : W p l e room_1 s m args below meth c H locs cells slots Q (F0 m 1159 ls []) := by
  obtain ⟨X, hL, hs, hX, hb, h3⟩ := id C
  have hc0 : cells ≤ 601024 ∧ slots ≤ 7293034 := ⟨by omega, by omega⟩
  refine lv_aload_n (i := 1) (x := adr 0) X.1 X.2.1 dw_law_1159 rfl (lv_at hl 1 rfl) ?_
  refine l_arg (j := 1) C hS (by omega) (lv_at hl 0 rfl) (lv_at hl 4 rfl) ag_1160 ?_
  refine l_arg (j := 2) C hS (by omega) (lv_at hl 0 rfl) (lv_at hl 4 rfl) ag_1166 ?_
  refine l_arg (j := 3) C hS (by omega) (lv_at hl 0 rfl) (lv_at hl 4 rfl) ag_1172 ?_
  have hz : ∀ z : Int32, z ≠ 0 → iN z.toInt ≠ 0 := fun z h => by rw [iN_ti]; exact h
  obtain ⟨z, hz, k1, k2⟩ : ∃ z : Int, (z = 0 ∨ z = 1) ∧ ((iN (xs (i + 3)).toInt = 0) → z = 0) ∧ (iN (xs (i + 3)).toInt ≠ 0 → z = 1) := by
    by_cases h : iN (xs (i + 3)).toInt = 0
    · exact ⟨0, .inl rfl, fun _ => rfl, fun z => absurd h z⟩
    · exact ⟨1, .inr rfl, fun z => absurd z h, fun _ => rfl⟩
  suffices G : W p l e room_1 s m args below meth c H locs cells slots Q (F0 m 1186 ls [.int (iN z), .int (iN (xs (i + 2)).toInt), .int (iN (xs (i + 1)).toInt), .ref (adr 0)]) by
    refine lv_if_eq (tgt := 1185) X.1 X.2.1 dw_law_1178 (by decide) (fun h => ?_) (fun h => ?_)
    · rw [k1 h] at G
      exact lv_iconst (v := iN 0) X.1 X.2.1 dw_law_1185 (by decide) G
    · rw [k2 h] at G
      exact lv_iconst (v := iN 1) X.1 X.2.1 dw_law_1181 (by decide) (lv_goto X.1 X.2.1 dw_law_1182 (by decide) G)
  refine l_call (q := m_RingDater_mend) (b := 0) (As := [.inl (xs (i + 1)).toInt, .inl (xs (i + 2)).toInt, .inl z]) (rest := []) X lwd_138 hL hs hh hS hl.1 (show (11 : Nat) = 11 from rfl) rfl ⟨by decide +kernel, by decide +kernel⟩ hc0 (by simp) rfl dw_law_1186 (sim_mend hR (inR_ti _) (inR_ti _) hz) (fun v M1 H1 locs1 hv hh1 hS1 => ?_)
  obtain ⟨x, rfl, hx, hB⟩ := hv
  refine lv_aload_n (i := 2) (x := adr 154) X.1 X.2.1 dw_law_1189 rfl (lv_at hl 2 rfl) ?_
  refine l_arg (j := 1) C hS1 (by omega) (lv_at hl 0 rfl) (lv_at hl 4 rfl) ag_1190 ?_
  refine l_arg (j := 2) C hS1 (by omega) (lv_at hl 0 rfl) (lv_at hl 4 rfl) ag_1196 ?_
  refine l_arg (j := 3) C hS1 (by omega) (lv_at hl 0 rfl) (lv_at hl 4 rfl) ag_1202 ?_
  suffices G : W p l e room_1 s m args below meth c H1 locs1 cells slots Q (F0 m 1216 ls [.int (iN z), .int (iN (xs (i + 2)).toInt), .int (iN (xs (i + 1)).toInt), .ref (adr 154), .int (iN x)]) by
    refine lv_if_eq (tgt := 1215) X.1 X.2.1 dw_law_1208 (by decide) (fun h => ?_) (fun h => ?_)
    · rw [k1 h] at G
      exact lv_iconst (v := iN 0) X.1 X.2.1 dw_law_1215 (by decide) G
    · rw [k2 h] at G
      exact lv_iconst (v := iN 1) X.1 X.2.1 dw_law_1211 (by decide) (lv_goto X.1 X.2.1 dw_law_1212 (by decide) G)
  refine l_call (q := m_Model_mend) (b := 154) (As := [.inl (xs (i + 1)).toInt, .inl (xs (i + 2)).toInt, .inl z]) (rest := [.int (iN x)]) X lwd_142 hL hs hh1 hS1 hl.1 (show (12 : Nat) = 12 from rfl) rfl ⟨by decide +kernel, by decide +kernel⟩ hc0 (by simp [Value.category]) rfl dw_law_1216 hB (fun v M2 H2 locs2 hv hh2 hS2 => ?_)
  obtain ⟨y, rfl, rfl, hcode, hRel⟩ := hv
  refine lv_icmp_eq (tgt := 1655) X.1 X.2.1 dw_law_1219 (by decide) (fun _ => ?_) (fun z => absurd rfl z)
  exact W.widen (by omega) (by omega) (K M2 f H2 locs2 ls hRel hh2 hS2 hl)
set_option maxHeartbeats 4000000 in
set_option maxRecDepth 100000 in
theorem case_19 (C : LCx p s m args c D tA n0 o bs adr adV b L xs) (hfl : l.stackTraces = false) (hR : Rel k M) (hh : LH D tA n0 o bs adr M f H) (hS : LV n0 s H locs) (hl : lv_has ls 7 (lvB b o adr i)) (hi : i + 5 < L) (hk : k ≤ 1000) (hc : cells + 100 ≤ 601024 ∧ slots + 12000 ≤ 7293034) (K : LK p l e s m args below meth c Q D tA n0 o bs adr b i k cells slots) : W p l e room_1 s m args below meth c H locs cells slots Q (F0 m 1224 ls []) := by
  obtain ⟨X, hL, hs, hX, hb, h3⟩ := id C
  have hc0 : cells ≤ 601024 ∧ slots ≤ 7293034 := ⟨by omega, by omega⟩
  refine lv_aload_n (i := 1) (x := adr 0) X.1 X.2.1 dw_law_1224 rfl (lv_at hl 1 rfl) ?_
  refine l_arg (j := 1) C hS (by omega) (lv_at hl 0 rfl) (lv_at hl 4 rfl) ag_1225 ?_
  refine l_arg (j := 2) C hS (by omega) (lv_at hl 0 rfl) (lv_at hl 4 rfl) ag_1231 ?_
  refine l_call (q := m_RingDater_doubt) (b := 0) (As := [.inl (xs (i + 1)).toInt, .inl (xs (i + 2)).toInt]) (rest := []) X lwd_143 hL hs hh hS hl.1 (show (11 : Nat) = 11 from rfl) rfl ⟨by decide +kernel, by decide +kernel⟩ hc0 (by simp) rfl dw_law_1237 (sim_doubt hR (inR_ti _) (inR_ti _)) (fun v M1 H1 locs1 hv hh1 hS1 => ?_)
  obtain ⟨x, rfl, hx, hB⟩ := hv
  refine lv_aload_n (i := 2) (x := adr 154) X.1 X.2.1 dw_law_1240 rfl (lv_at hl 2 rfl) ?_
  refine l_arg (j := 1) C hS1 (by omega) (lv_at hl 0 rfl) (lv_at hl 4 rfl) ag_1241 ?_
  refine l_arg (j := 2) C hS1 (by omega) (lv_at hl 0 rfl) (lv_at hl 4 rfl) ag_1247 ?_
  refine l_call (q := m_Model_doubt) (b := 154) (As := [.inl (xs (i + 1)).toInt, .inl (xs (i + 2)).toInt]) (rest := [.int (iN x)]) X lwd_146 hL hs hh1 hS1 hl.1 (show (12 : Nat) = 12 from rfl) rfl ⟨by decide +kernel, by decide +kernel⟩ hc0 (by simp [Value.category]) rfl dw_law_1253 hB (fun v M2 H2 locs2 hv hh2 hS2 => ?_)
  obtain ⟨y, rfl, rfl, hcode, hRel⟩ := hv
  refine lv_icmp_eq (tgt := 1655) X.1 X.2.1 dw_law_1256 (by decide) (fun _ => ?_) (fun z => absurd rfl z)
  exact W.widen (by omega) (by omega) (K M2 f H2 locs2 ls hRel hh2 hS2 hl)
set_option maxHeartbeats 4000000 in
set_option maxRecDepth 100000 in
theorem case_20 (C : LCx p s m args c D tA n0 o bs adr adV b L xs) (hfl : l.stackTraces = false) (hR : Rel k M) (hh : LH D tA n0 o bs adr M f H) (hS : LV n0 s H locs) (hl : lv_has ls 7 (lvB b o adr i)) (hi : i + 5 < L) (hk : k ≤ 1000) (hc : cells + 100 ≤ 601024 ∧ slots + 12000 ≤ 7293034) (K : LK p l e s m args below meth c Q D tA n0 o bs adr b i k cells slots) : W p l e room_1 s m args below meth c H locs cells slots Q (F0 m 1261 ls []) := by
  obtain ⟨X, hL, hs, hX, hb, h3⟩ := id C
  have hc0 : cells ≤ 601024 ∧ slots ≤ 7293034 := ⟨by omega, by omega⟩
  refine lv_aload_n (i := 1) (x := adr 0) X.1 X.2.1 dw_law_1261 rfl (lv_at hl 1 rfl) ?_
  refine l_arg (j := 1) C hS (by omega) (lv_at hl 0 rfl) (lv_at hl 4 rfl) ag_1262 ?_
  refine l_arg (j := 2) C hS (by omega) (lv_at hl 0 rfl) (lv_at hl 4 rfl) ag_1268 ?_
  refine l_call (q := m_RingDater_move) (b := 0) (As := [.inl (xs (i + 1)).toInt, .inl (xs (i + 2)).toInt]) (rest := []) X lwd_147 hL hs hh hS hl.1 (show (11 : Nat) = 11 from rfl) rfl ⟨by decide +kernel, by decide +kernel⟩ hc0 (by simp) rfl dw_law_1274 (sim_move hR (inR_ti _) (inR_ti _)) (fun v M1 H1 locs1 hv hh1 hS1 => ?_)
  obtain ⟨x, rfl, hx, hB⟩ := hv
  refine lv_aload_n (i := 2) (x := adr 154) X.1 X.2.1 dw_law_1277 rfl (lv_at hl 2 rfl) ?_
  refine l_arg (j := 1) C hS1 (by omega) (lv_at hl 0 rfl) (lv_at hl 4 rfl) ag_1278 ?_
  refine l_arg (j := 2) C hS1 (by omega) (lv_at hl 0 rfl) (lv_at hl 4 rfl) ag_1284 ?_
  refine l_call (q := m_Model_move) (b := 154) (As := [.inl (xs (i + 1)).toInt, .inl (xs (i + 2)).toInt]) (rest := [.int (iN x)]) X lwd_150 hL hs hh1 hS1 hl.1 (show (12 : Nat) = 12 from rfl) rfl ⟨by decide +kernel, by decide +kernel⟩ hc0 (by simp [Value.category]) rfl dw_law_1290 hB (fun v M2 H2 locs2 hv hh2 hS2 => ?_)
  obtain ⟨y, rfl, rfl, hcode, hRel⟩ := hv
  refine lv_icmp_eq (tgt := 1655) X.1 X.2.1 dw_law_1293 (by decide) (fun _ => ?_) (fun z => absurd rfl z)
  exact W.widen (by omega) (by omega) (K M2 f H2 locs2 ls hRel hh2 hS2 hl)
set_option maxHeartbeats 4000000 in
set_option maxRecDepth 100000 in
theorem case_21 (C : LCx p s m args c D tA n0 o bs adr adV b L xs) (hfl : l.stackTraces = false) (hR : Rel k M) (hh : LH D tA n0 o bs adr M f H) (hS : LV n0 s H locs) (hl : lv_has ls 7 (lvB b o adr i)) (hi : i + 5 < L) (hk : k ≤ 1000) (hc : cells + 100 ≤ 601024 ∧ slots + 12000 ≤ 7293034) (K : LK p l e s m args below meth c Q D tA n0 o bs adr b i k cells slots) : W p l e room_1 s m args below meth c H locs cells slots Q (F0 m 1298 ls []) := by
  obtain ⟨X, hL, hs, hX, hb, h3⟩ := id C
  have hc0 : cells ≤ 601024 ∧ slots ≤ 7293034 := ⟨by omega, by omega⟩
  refine lv_aload_n (i := 1) (x := adr 0) X.1 X.2.1 dw_law_1298 rfl (lv_at hl 1 rfl) ?_
  refine l_call (q := m_RingDater_undo) (b := 0) (As := []) (rest := []) X lwd_151 hL hs hh hS hl.1 (show (11 : Nat) = 11 from rfl) rfl ⟨by decide +kernel, by decide +kernel⟩ hc0 (by simp) rfl dw_law_1299 (sim_undo hR) (fun v M1 H1 locs1 hv hh1 hS1 => ?_)
  obtain ⟨x, rfl, hx, hB⟩ := hv
  refine lv_aload_n (i := 2) (x := adr 154) X.1 X.2.1 dw_law_1302 rfl (lv_at hl 2 rfl) ?_
  refine l_call (q := m_Model_undo) (b := 154) (As := []) (rest := [.int (iN x)]) X lwd_154 hL hs hh1 hS1 hl.1 (show (12 : Nat) = 12 from rfl) rfl ⟨by decide +kernel, by decide +kernel⟩ hc0 (by simp [Value.category]) rfl dw_law_1303 hB (fun v M2 H2 locs2 hv hh2 hS2 => ?_)
  obtain ⟨y, rfl, rfl, hcode, hRel⟩ := hv
  refine lv_icmp_eq (tgt := 1655) X.1 X.2.1 dw_law_1306 (by decide) (fun _ => ?_) (fun z => absurd rfl z)
  exact W.widen (by omega) (by omega) (K M2 f H2 locs2 ls hRel hh2 hS2 hl)
set_option maxHeartbeats 4000000 in
set_option maxRecDepth 100000 in
theorem case_22 (C : LCx p s m args c D tA n0 o bs adr adV b L xs) (hfl : l.stackTraces = false) (hR : Rel k M) (hh : LH D tA n0 o bs adr M f H) (hS : LV n0 s H locs) (hl : lv_has ls 7 (lvB b o adr i)) (hi : i + 5 < L) (hk : k ≤ 1000) (hc : cells + 100 ≤ 601024 ∧ slots + 12000 ≤ 7293034) (K : LK p l e s m args below meth c Q D tA n0 o bs adr b i k cells slots) : W p l e room_1 s m args below meth c H locs cells slots Q (F0 m 1311 ls []) := by
  obtain ⟨X, hL, hs, hX, hb, h3⟩ := id C
  have hc0 : cells ≤ 601024 ∧ slots ≤ 7293034 := ⟨by omega, by omega⟩
  refine lv_aload_n (i := 1) (x := adr 0) X.1 X.2.1 dw_law_1311 rfl (lv_at hl 1 rfl) ?_
  refine l_arg (j := 1) C hS (by omega) (lv_at hl 0 rfl) (lv_at hl 4 rfl) ag_1312 ?_
  refine l_arg (j := 2) C hS (by omega) (lv_at hl 0 rfl) (lv_at hl 4 rfl) ag_1318 ?_
  refine l_call (q := m_RingDater_note) (b := 0) (As := [.inl (xs (i + 1)).toInt, .inl (xs (i + 2)).toInt]) (rest := []) X lwd_155 hL hs hh hS hl.1 (show (11 : Nat) = 11 from rfl) rfl ⟨by decide +kernel, by decide +kernel⟩ hc0 (by simp) rfl dw_law_1324 (sim_note hR (inR_ti _) (inR_ti _)) (fun v M1 H1 locs1 hv hh1 hS1 => ?_)
  obtain ⟨x, rfl, hx, hB⟩ := hv
  refine lv_aload_n (i := 2) (x := adr 154) X.1 X.2.1 dw_law_1327 rfl (lv_at hl 2 rfl) ?_
  refine l_arg (j := 1) C hS1 (by omega) (lv_at hl 0 rfl) (lv_at hl 4 rfl) ag_1328 ?_
  refine l_arg (j := 2) C hS1 (by omega) (lv_at hl 0 rfl) (lv_at hl 4 rfl) ag_1334 ?_
  refine l_call (q := m_Model_note) (b := 154) (As := [.inl (xs (i + 1)).toInt, .inl (xs (i + 2)).toInt]) (rest := [.int (iN x)]) X lwd_158 hL hs hh1 hS1 hl.1 (show (12 : Nat) = 12 from rfl) rfl ⟨by decide +kernel, by decide +kernel⟩ hc0 (by simp [Value.category]) rfl dw_law_1340 hB (fun v M2 H2 locs2 hv hh2 hS2 => ?_)
  obtain ⟨y, rfl, rfl, hcode, hRel⟩ := hv
  refine lv_icmp_eq (tgt := 1655) X.1 X.2.1 dw_law_1343 (by decide) (fun _ => ?_) (fun z => absurd rfl z)
  exact W.widen (by omega) (by omega) (K M2 f H2 locs2 ls hRel hh2 hS2 hl)
set_option maxHeartbeats 4000000 in
set_option maxRecDepth 100000 in
theorem case_23 (C : LCx p s m args c D tA n0 o bs adr adV b L xs) (hfl : l.stackTraces = false) (hR : Rel k M) (hh : LH D tA n0 o bs adr M f H) (hS : LV n0 s H locs) (hl : lv_has ls 7 (lvB b o adr i)) (hi : i + 5 < L) (hk : k ≤ 1000) (hc : cells + 100 ≤ 601024 ∧ slots + 12000 ≤ 7293034) (K : LK p l e s m args below meth c Q D tA n0 o bs adr b i k cells slots) : W p l e room_1 s m args below meth c H locs cells slots Q (F0 m 1348 ls []) := by
  obtain ⟨X, hL, hs, hX, hb, h3⟩ := id C
  have hc0 : cells ≤ 601024 ∧ slots ≤ 7293034 := ⟨by omega, by omega⟩
  refine lv_aload_n (i := 1) (x := adr 0) X.1 X.2.1 dw_law_1348 rfl (lv_at hl 1 rfl) ?_
  refine l_arg (j := 1) C hS (by omega) (lv_at hl 0 rfl) (lv_at hl 4 rfl) ag_1349 ?_
  refine lv_aload_n (i := 3) (x := o) X.1 X.2.1 dw_law_1355 rfl (lv_at hl 3 rfl) ?_
  refine l_wcall (as := [.inl (xs (i + 1)).toInt]) C (wr_fits (simW1 (sim_fits hR (inR_ti _)))) ww_fits rfl hfl hh hS hl.1 hc rfl dw_law_1356 (fun r x M1 f1 H1 locs1 hq hf hh1 hS1 => ?_)
  obtain ⟨⟨hr, hx⟩, hB⟩ := hq
  refine lv_istore (lv' := (5, .int (iN r)) :: lvB b o adr i) X.1 X.2.1 dw_law_1359 hl (by decide) rfl (fun ls1 hl1 => ?_)
  refine lv_aload_n (i := 2) (x := adr 154) X.1 X.2.1 dw_law_1361 rfl (lv_at hl1 3 rfl) ?_
  refine l_arg (j := 1) C hS1 (by omega) (lv_at hl1 1 rfl) (lv_at hl1 5 rfl) ag_1362 ?_
  refine l_call (q := m_Model_fits) (b := 154) (As := [.inl (xs (i + 1)).toInt]) (rest := []) X lwd_161 hL hs hh1 hS1 hl1.1 (show (12 : Nat) = 12 from rfl) rfl ⟨by decide +kernel, by decide +kernel⟩ hc (by simp) rfl dw_law_1368 hB (fun v M2 H2 locs2 hv hh2 hS2 => ?_)
  obtain ⟨y, rfl, hcode, hxy, hRel⟩ := hv
  refine lv_istore (lv' := (6, .int (iN y)) :: (5, .int (iN r)) :: lvB b o adr i) X.1 X.2.1 dw_law_1371 hl1 (by decide) rfl (fun ls2 hl2 => ?_)
  exact l_tailW C lwd_77 hl2 hr hf hxy hcode hh2 hS2 td_1373 hc (fun H3 locs3 hh3 hS3 => K M2 f1 H3 locs3 ls2 hRel hh3 hS3 (lv_sub hl2 [2, 3, 4, 5, 6] rfl))
set_option maxHeartbeats 4000000 in
set_option maxRecDepth 100000 in
theorem case_24 (C : LCx p s m args c D tA n0 o bs adr adV b L xs) (hfl : l.stackTraces = false) (hR : Rel k M) (hh : LH D tA n0 o bs adr M f H) (hS : LV n0 s H locs) (hl : lv_has ls 7 (lvB b o adr i)) (hi : i + 5 < L) (hk : k ≤ 1000) (hc : cells + 100 ≤ 601024 ∧ slots + 12000 ≤ 7293034) (K : LK p l e s m args below meth c Q D tA n0 o bs adr b i k cells slots) : W p l e room_1 s m args below meth c H locs cells slots Q (F0 m 1404 ls []) := by
  obtain ⟨X, hL, hs, hX, hb, h3⟩ := id C
  have hc0 : cells ≤ 601024 ∧ slots ≤ 7293034 := ⟨by omega, by omega⟩
  refine lv_aload_n (i := 1) (x := adr 0) X.1 X.2.1 dw_law_1404 rfl (lv_at hl 1 rfl) ?_
  refine l_arg (j := 1) C hS (by omega) (lv_at hl 0 rfl) (lv_at hl 4 rfl) ag_1405 ?_
  refine lv_aload_n (i := 3) (x := o) X.1 X.2.1 dw_law_1411 rfl (lv_at hl 3 rfl) ?_
  refine l_wcall (as := [.inl (xs (i + 1)).toInt]) C (wr_look (simW1 (sim_look hR (inR_ti _)))) ww_look rfl hfl hh hS hl.1 hc rfl dw_law_1412 (fun r x M1 f1 H1 locs1 hq hf hh1 hS1 => ?_)
  obtain ⟨⟨hr, hx⟩, hB⟩ := hq
  refine lv_istore (lv' := (5, .int (iN r)) :: lvB b o adr i) X.1 X.2.1 dw_law_1415 hl (by decide) rfl (fun ls1 hl1 => ?_)
  refine lv_aload_n (i := 2) (x := adr 154) X.1 X.2.1 dw_law_1417 rfl (lv_at hl1 3 rfl) ?_
  refine l_arg (j := 1) C hS1 (by omega) (lv_at hl1 1 rfl) (lv_at hl1 5 rfl) ag_1418 ?_
  refine l_call (q := m_Model_look) (b := 154) (As := [.inl (xs (i + 1)).toInt]) (rest := []) X lwd_164 hL hs hh1 hS1 hl1.1 (show (12 : Nat) = 12 from rfl) rfl ⟨by decide +kernel, by decide +kernel⟩ hc (by simp) rfl dw_law_1424 hB (fun v M2 H2 locs2 hv hh2 hS2 => ?_)
  obtain ⟨y, rfl, hcode, hxy, hRel⟩ := hv
  refine lv_istore (lv' := (6, .int (iN y)) :: (5, .int (iN r)) :: lvB b o adr i) X.1 X.2.1 dw_law_1427 hl1 (by decide) rfl (fun ls2 hl2 => ?_)
  exact l_tailW C lwd_77 hl2 hr hf hxy hcode hh2 hS2 td_1429 hc (fun H3 locs3 hh3 hS3 => K M2 f1 H3 locs3 ls2 hRel hh3 hS3 (lv_sub hl2 [2, 3, 4, 5, 6] rfl))
set_option maxHeartbeats 4000000 in
set_option maxRecDepth 100000 in
theorem case_25 (C : LCx p s m args c D tA n0 o bs adr adV b L xs) (hfl : l.stackTraces = false) (hR : Rel k M) (hh : LH D tA n0 o bs adr M f H) (hS : LV n0 s H locs) (hl : lv_has ls 7 (lvB b o adr i)) (hi : i + 5 < L) (hk : k ≤ 1000) (hc : cells + 100 ≤ 601024 ∧ slots + 12000 ≤ 7293034) (K : LK p l e s m args below meth c Q D tA n0 o bs adr b i k cells slots) : W p l e room_1 s m args below meth c H locs cells slots Q (F0 m 1460 ls []) := by
  obtain ⟨X, hL, hs, hX, hb, h3⟩ := id C
  have hc0 : cells ≤ 601024 ∧ slots ≤ 7293034 := ⟨by omega, by omega⟩
  refine lv_aload_n (i := 1) (x := adr 0) X.1 X.2.1 dw_law_1460 rfl (lv_at hl 1 rfl) ?_
  refine l_call (q := m_RingDater_forget) (b := 0) (As := []) (rest := []) X lwd_165 hL hs hh hS hl.1 (show (11 : Nat) = 11 from rfl) rfl ⟨by decide +kernel, by decide +kernel⟩ hc0 (by simp) rfl dw_law_1461 (sim_forget hR) (fun v M1 H1 locs1 hv hh1 hS1 => ?_)
  obtain ⟨rfl, hB⟩ := hv
  refine lv_aload_n (i := 2) (x := adr 154) X.1 X.2.1 dw_law_1464 rfl (lv_at hl 2 rfl) ?_
  refine l_call (q := m_Model_forget) (b := 154) (As := []) (rest := []) X lwd_168 hL hs hh1 hS1 hl.1 (show (12 : Nat) = 12 from rfl) rfl ⟨by decide +kernel, by decide +kernel⟩ hc0 (by simp) rfl dw_law_1465 hB (fun v M2 H2 locs2 hv hh2 hS2 => ?_)
  obtain ⟨rfl, hcode, hRel⟩ := hv
  refine lv_goto (tgt := 1655) X.1 X.2.1 dw_law_1468 (by decide) ?_
  exact W.widen (by omega) (by omega) (K M2 f H2 locs2 ls hRel hh2 hS2 hl)
set_option maxHeartbeats 4000000 in
set_option maxRecDepth 100000 in
theorem case_26 (C : LCx p s m args c D tA n0 o bs adr adV b L xs) (hfl : l.stackTraces = false) (hR : Rel k M) (hh : LH D tA n0 o bs adr M f H) (hS : LV n0 s H locs) (hl : lv_has ls 7 (lvB b o adr i)) (hi : i + 5 < L) (hk : k ≤ 1000) (hc : cells + 100 ≤ 601024 ∧ slots + 12000 ≤ 7293034) (K : LK p l e s m args below meth c Q D tA n0 o bs adr b i k cells slots) : W p l e room_1 s m args below meth c H locs cells slots Q (F0 m 1471 ls []) := by
  obtain ⟨X, hL, hs, hX, hb, h3⟩ := id C
  have hc0 : cells ≤ 601024 ∧ slots ≤ 7293034 := ⟨by omega, by omega⟩
  refine lv_aload_n (i := 1) (x := adr 0) X.1 X.2.1 dw_law_1471 rfl (lv_at hl 1 rfl) ?_
  refine l_arg (j := 1) C hS (by omega) (lv_at hl 0 rfl) (lv_at hl 4 rfl) ag_1472 ?_
  refine l_arg (j := 2) C hS (by omega) (lv_at hl 0 rfl) (lv_at hl 4 rfl) ag_1478 ?_
  refine l_arg (j := 3) C hS (by omega) (lv_at hl 0 rfl) (lv_at hl 4 rfl) ag_1484 ?_
  refine l_arg (j := 4) C hS (by omega) (lv_at hl 0 rfl) (lv_at hl 4 rfl) ag_1490 ?_
  refine lv_aload_n (i := 3) (x := o) X.1 X.2.1 dw_law_1496 rfl (lv_at hl 3 rfl) ?_
  refine l_wcall (as := [.inl (xs (i + 1)).toInt, .inl (xs (i + 2)).toInt, .inl (xs (i + 3)).toInt, .inl (xs (i + 4)).toInt]) C (wr_chance (simW2 (sim_chance hR (inR_ti _) (inR_ti _) (inR_ti _)))) ww_chance rfl hfl hh hS hl.1 hc rfl dw_law_1497 (fun r x M1 f1 H1 locs1 hq hf hh1 hS1 => ?_)
  obtain ⟨⟨hr, hx⟩, hB⟩ := hq
  refine lv_istore (lv' := (5, .int (iN r)) :: lvB b o adr i) X.1 X.2.1 dw_law_1500 hl (by decide) rfl (fun ls1 hl1 => ?_)
  refine lv_aload_n (i := 2) (x := adr 154) X.1 X.2.1 dw_law_1502 rfl (lv_at hl1 3 rfl) ?_
  refine l_arg (j := 1) C hS1 (by omega) (lv_at hl1 1 rfl) (lv_at hl1 5 rfl) ag_1503 ?_
  refine l_arg (j := 2) C hS1 (by omega) (lv_at hl1 1 rfl) (lv_at hl1 5 rfl) ag_1509 ?_
  refine l_arg (j := 3) C hS1 (by omega) (lv_at hl1 1 rfl) (lv_at hl1 5 rfl) ag_1515 ?_
  refine l_arg (j := 4) C hS1 (by omega) (lv_at hl1 1 rfl) (lv_at hl1 5 rfl) ag_1521 ?_
  refine l_call (q := m_Model_chance) (b := 154) (As := [.inl (xs (i + 1)).toInt, .inl (xs (i + 2)).toInt, .inl (xs (i + 3)).toInt, .inl (xs (i + 4)).toInt]) (rest := []) X lwd_171 hL hs hh1 hS1 hl1.1 (show (12 : Nat) = 12 from rfl) rfl ⟨by decide +kernel, by decide +kernel⟩ hc (by simp) rfl dw_law_1527 hB (fun v M2 H2 locs2 hv hh2 hS2 => ?_)
  obtain ⟨y, rfl, hcode, hxy, hRel⟩ := hv
  refine lv_istore (lv' := (6, .int (iN y)) :: (5, .int (iN r)) :: lvB b o adr i) X.1 X.2.1 dw_law_1530 hl1 (by decide) rfl (fun ls2 hl2 => ?_)
  exact l_tailW C lwd_77 hl2 hr hf hxy hcode hh2 hS2 td_1532 hc (fun H3 locs3 hh3 hS3 => K M2 f1 H3 locs3 ls2 hRel hh3 hS3 (lv_sub hl2 [2, 3, 4, 5, 6] rfl))
set_option maxHeartbeats 4000000 in
set_option maxRecDepth 100000 in
theorem case_28 (C : LCx p s m args c D tA n0 o bs adr adV b L xs) (hfl : l.stackTraces = false) (hR : Rel k M) (hh : LH D tA n0 o bs adr M f H) (hS : LV n0 s H locs) (hl : lv_has ls 7 (lvB b o adr i)) (hi : i + 5 < L) (hk : k ≤ 1000) (hc : cells + 100 ≤ 601024 ∧ slots + 12000 ≤ 7293034) (K : LK p l e s m args below meth c Q D tA n0 o bs adr b i k cells slots) : W p l e room_1 s m args below meth c H locs cells slots Q (F0 m 1631 ls []) := by
  obtain ⟨X, hL, hs, hX, hb, h3⟩ := id C
  have hc0 : cells ≤ 601024 ∧ slots ≤ 7293034 := ⟨by omega, by omega⟩
  refine lv_aload_n (i := 1) (x := adr 0) X.1 X.2.1 dw_law_1631 rfl (lv_at hl 1 rfl) ?_
  refine l_call (q := m_RingDater_image) (b := 0) (As := []) (rest := []) X lwd_175 hL hs hh hS hl.1 (show (11 : Nat) = 11 from rfl) rfl ⟨by decide +kernel, by decide +kernel⟩ hc0 (by simp) rfl dw_law_1632 (sim_image hR) (fun v M1 H1 locs1 hv hh1 hS1 => ?_)
  obtain ⟨rfl, hB⟩ := hv
  refine lv_aload_n (i := 2) (x := adr 154) X.1 X.2.1 dw_law_1635 rfl (lv_at hl 2 rfl) ?_
  refine l_call (q := m_Model_image) (b := 154) (As := []) (rest := []) X lwd_178 hL hs hh1 hS1 hl.1 (show (12 : Nat) = 12 from rfl) rfl ⟨by decide +kernel, by decide +kernel⟩ hc0 (by simp) rfl dw_law_1636 hB (fun v M2 H2 locs2 hv hh2 hS2 => ?_)
  obtain ⟨rfl, hcode, hRel⟩ := hv
  refine lv_goto (tgt := 1655) X.1 X.2.1 dw_law_1639 (by decide) ?_
  exact W.widen (by omega) (by omega) (K M2 f H2 locs2 ls hRel hh2 hS2 hl)
set_option maxHeartbeats 4000000 in
set_option maxRecDepth 100000 in
theorem case_29 (C : LCx p s m args c D tA n0 o bs adr adV b L xs) (hfl : l.stackTraces = false) (hR : Rel k M) (hh : LH D tA n0 o bs adr M f H) (hS : LV n0 s H locs) (hl : lv_has ls 7 (lvB b o adr i)) (hi : i + 5 < L) (hk : k ≤ 1000) (hc : cells + 100 ≤ 601024 ∧ slots + 12000 ≤ 7293034) (K : LK p l e s m args below meth c Q D tA n0 o bs adr b i k cells slots) : W p l e room_1 s m args below meth c H locs cells slots Q (F0 m 1642 ls []) := by
  obtain ⟨X, hL, hs, hX, hb, h3⟩ := id C
  have hc0 : cells ≤ 601024 ∧ slots ≤ 7293034 := ⟨by omega, by omega⟩
  refine lv_aload_n (i := 1) (x := adr 0) X.1 X.2.1 dw_law_1642 rfl (lv_at hl 1 rfl) ?_
  refine l_call (q := m_RingDater_restore) (b := 0) (As := []) (rest := []) X lwd_179 hL hs hh hS hl.1 (show (11 : Nat) = 11 from rfl) rfl ⟨by decide +kernel, by decide +kernel⟩ hc0 (by simp) rfl dw_law_1643 (sim_restore hR) (fun v M1 H1 locs1 hv hh1 hS1 => ?_)
  obtain ⟨x, rfl, hx, hB⟩ := hv
  refine lv_aload_n (i := 2) (x := adr 154) X.1 X.2.1 dw_law_1646 rfl (lv_at hl 2 rfl) ?_
  refine l_call (q := m_Model_restore) (b := 154) (As := []) (rest := [.int (iN x)]) X lwd_183 hL hs hh1 hS1 hl.1 (show (12 : Nat) = 12 from rfl) rfl ⟨by decide +kernel, by decide +kernel⟩ hc0 (by simp [Value.category]) rfl dw_law_1647 hB (fun v M2 H2 locs2 hv hh2 hS2 => ?_)
  obtain ⟨y, rfl, rfl, hcode, hRel⟩ := hv
  refine lv_icmp_eq (tgt := 1655) X.1 X.2.1 dw_law_1650 (by decide) (fun _ => ?_) (fun z => absurd rfl z)
  exact W.widen (by omega) (by omega) (K M2 f H2 locs2 ls hRel hh2 hS2 hl)
end L7
