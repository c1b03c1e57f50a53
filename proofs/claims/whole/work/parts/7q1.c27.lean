/-! THE LAW: the call of told (printed by wip/whole/g7f.py). -/
section L7
variable {p : Program} {l : Launch} {e : Env} {s : State} {m : MethodId} {args : Array Value} {below : List Frame} {meth : Method} {c : Code} {Q : State → Prop}
variable {D : va_G} {tA : Nat → ClassId} {n0 o bs b L i k : Nat} {xs : Nat → Int32} {adr adV : Nat → Nat} {M : Mm} {f : Nat → Int64} {H : Heap} {locs : List Loc} {cells slots : Nat} {ls : Array Slot}
set_option maxHeartbeats 4000000 in
set_option maxRecDepth 100000 in
theorem case_27 (C : LCx p s m args c D tA n0 o bs adr adV b L xs) (hfl : l.stackTraces = false) (hR : Rel k M) (hh : LH D tA n0 o bs adr M f H) (hS : LV n0 s H locs) (hl : lv_has ls 7 (lvB b o adr i)) (hi : i + 5 < L) (hk : k ≤ 1000) (hc : cells + 100 ≤ 601024 ∧ slots + 12000 ≤ 7293034) (K : LK p l e s m args below meth c Q D tA n0 o bs adr b i k cells slots) : W p l e room_1 s m args below meth c H locs cells slots Q (F0 m 1563 ls []) := by
  obtain ⟨X, hL, hs, hX, hb, h3⟩ := id C
  have hc0 : cells ≤ 601024 ∧ slots ≤ 7293034 := ⟨by omega, by omega⟩
  refine lv_aload_n (i := 1) (x := adr 0) X.1 X.2.1 dw_law_1563 rfl (lv_at hl 1 rfl) ?_
  refine l_arg (j := 1) C hS (by omega) (lv_at hl 0 rfl) (lv_at hl 4 rfl) ag_1564 ?_
  refine l_arg (j := 2) C hS (by omega) (lv_at hl 0 rfl) (lv_at hl 4 rfl) ag_1570 ?_
  refine lv_aload_n (i := 3) (x := o) X.1 X.2.1 dw_law_1576 rfl (lv_at hl 3 rfl) ?_
  refine l_wcall (as := [.inl (xs (i + 1)).toInt, .inl (xs (i + 2)).toInt]) C (wr_told hR (inR_ti _) (inR_ti _)) ww_told rfl hfl hh hS hl.1 hc rfl dw_law_1577 (fun r x M1 f1 H1 locs1 hq hf hh1 hS1 => ?_)
  obtain ⟨⟨hr, hx⟩, hB⟩ := hq
  refine lv_istore (lv' := (5, .int (iN r)) :: lvB b o adr i) X.1 X.2.1 dw_law_1580 hl (by decide) rfl (fun ls1 hl1 => ?_)
  refine lv_aload_n (i := 2) (x := adr 154) X.1 X.2.1 dw_law_1582 rfl (lv_at hl1 3 rfl) ?_
  refine l_arg (j := 1) C hS1 (by omega) (lv_at hl1 1 rfl) (lv_at hl1 5 rfl) ag_1583 ?_
  refine l_arg (j := 2) C hS1 (by omega) (lv_at hl1 1 rfl) (lv_at hl1 5 rfl) ag_1589 ?_
  refine l_call (q := m_Model_told) (b := 154) (As := [.inl (xs (i + 1)).toInt, .inl (xs (i + 2)).toInt]) (rest := []) X lwd_174 hL hs hh1 hS1 hl1.1 (show (12 : Nat) = 12 from rfl) rfl ⟨by decide +kernel, by decide +kernel⟩ hc (by simp) rfl dw_law_1595 hB (fun v M2 H2 locs2 hv hh2 hS2 => ?_)
  obtain ⟨y, rfl, hcode, hxy, hRel⟩ := hv
  refine lv_istore (lv' := (6, .int (iN y)) :: (5, .int (iN r)) :: lvB b o adr i) X.1 X.2.1 dw_law_1598 hl1 (by decide) rfl (fun ls2 hl2 => ?_)
  exact l_tailW C lwd_77 hl2 hr hf hxy hcode hh2 hS2 td_1600 hc (fun H3 locs3 hh3 hS3 => K M2 f1 H3 locs3 ls2 hRel hh3 hS3 (lv_sub hl2 [2, 3, 4, 5, 6] rfl))
end L7
