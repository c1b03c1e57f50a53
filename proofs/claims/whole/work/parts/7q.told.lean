/-! TOLD, 5: no such timber; the wrapper (words and rows printed by wip/whole/g7t.py). -/
section TE
variable {D : va_G} {tA : Nat → ClassId} {n0 o bs : Nat} {adr adV : Nat → Nat} {M : Mm} {f : Nat → Int64} {p0 p1 : Int}
variable {l : Launch}
set_option maxHeartbeats 4000000 in
set_option maxRecDepth 100000 in
theorem told_x0 (hfl : l.stackTraces = false) (hm : LM n0 o bs adr) (hw : wfS M 76) (htR : inR p0) (ht : ¬ (0 ≤ p0 ∧ p0 < M 76 3)) : vx_Met l yb_td tdW tdR (va_Pc [.ref (adr 0), .int (iN p0), .int (iN p1)] (WoPre D tA n0 o bs adr adV M f)) (fun _ _ _ _ => False) (TdX D tA n0 o bs adr M f) 92 11950 (fun q => n0 ≤ q) := by
  refine vx_ofW (cc := prog_1_method_29_code) (maxL := 3) (ret := some .int) (by decide) rfl ?_
  intro p e s m args below meth c s₁ B hml hex hv
  obtain ⟨rfl, hs, hh⟩ := hv
  obtain ⟨x, hh⟩ := hh.ex
  have hts := atoms_spec (ws := tdW) B.pre
  have hown : s.vm.findClass "RingDater" = some m.cls := findClass_of_methodNamed B.named
  rw [lg_entry_eq]
  have hl := lv_entry ([.ref (adr 0), .int (iN p0), .int (iN p1)] : List Value) (n := 3) (by simp [lg_sl, Value.category])
  generalize (lg_sl ([.ref (adr 0), .int (iN p0), .int (iN p1)] : List Value) ++ List.replicate (3 - (lg_sl ([.ref (adr 0), .int (iN p0), .int (iN p1)] : List Value)).length) Slot.unset).toArray = ls at hl ⊢
  have hl : lv_has ls 3 [(0, .ref (adr 0)), (1, .int (iN p0)), (2, .int (iN p1))] := hl
  have X : BX p s m #[.ref (adr 0), .int (iN p0), .int (iN p1)] c "RingDater" 3 prog_1_method_29_code := ⟨B.exec, B.bytes, hml, hown, fun w hw => hts w (List.mem_cons_of_mem _ hw)⟩
  have hlk := B.notSynchronized
  have hlay : lay 0 = .inr (.inl (11, [some 1, some 33, some 60, some 68, some 73, some 198, some 76, some 106, some 111, some 114, some 115, some 145, some 150, some 153, none])) := rfl
  have hS : LV n0 s s.heap [] := va_S.rf
  have hwd := X.2.2.2.2
  refine lv_aload_n (i := 0) (x := adr 0) X.1 X.2.1 db_td_0 rfl (lv_at hl 0 rfl) ?_
  refine t_get (k := 6) (r := some 76) X hs hh hlay (by decide) (by decide) rfl ft_RingDater_54 db_td_1 ?_
  refine lv_iload_n (i := 1) (x := iN p0) X.1 X.2.1 db_td_4 rfl (lv_at hl 1 rfl) ?_
  refine t_call (q := m_Stock_has) (b := 76) (As := [.inl p0]) (rest := []) X lwo_2 hm hs hh hS hl.1 (show (8 : Nat) = 8 from rfl) rfl ⟨by decide +kernel, by decide +kernel⟩ ⟨by decide, by decide⟩ (by simp) rfl db_td_5 (Stock_has_ok isStk_76 htR hw) (fun v M2 H2 lc2 hv hh2 hS2 => ?_)
  obtain ⟨y, rfl, rfl, rfl⟩ := hv
  rw [if_neg ht]
  refine lv_if_ne (tgt := 19) X.1 X.2.1 db_td_8 (by decide) (fun z => absurd rfl z) (fun _ => ?_)
  have hh2 := hh2.to
  have hxx : ∀ t2 : State, s.vm.Alike t2.vm → H2.size ≤ t2.heap.size → (∀ q : Nat, q < H2.size → t2.heap[q]? = H2[q]?) → TdX D tA n0 o bs adr M2 f (excN 0) s t2 := fun t2 _ h1 h2 => ⟨rfl, by
    obtain ⟨a1, a2, a3, bb, cap, cnt, ml, T2, a4, a5, a6, a7⟩ := hh2
    exact ⟨Nat.le_trans a1 h1, a2.kept (fun k q hq => h2 _ ((a2 k q hq).lt)), a3.kept (h2 _ a3.lt), bb, cap, cnt, ml, T2, a4, a5, a6.kept (h2 _ a6.lt), a7.kept (h2 _ a7.lt)⟩, Nat.le_trans hS2.1 h1, fun q h3 h4 => (h2 q (Nat.lt_of_lt_of_le h3 hS2.1)).trans (hS2.2.1 q h3 h4)⟩
  exact vx_throw0 (own := Rn 11) (cls := excN 0) (names := excUp) (A := fun q => n0 ≤ q) X.1 X.2.1 hfl X.2.2.2.1 (by decide +kernel) (by decide +kernel) (hwd _ (gW_of (ex0_in _ (by simp)) rfl)) (hwd _ (gW_of (ex0_in _ (by simp)) rfl))
    (vx_hat (B := excD) (fun w hh => hwd w (gW_of (ex0_at w hh) (List.mem_filter.mp hh).2)) (fun w hh => List.mem_append_left _ hh) (hs.2.2.2.1.at _)) ex0_ot hs.2.1.2.2.1 hs.2.1.2.2.2 hS2 (hl.1.trans X.2.2.1.symm) db_td_11 db_td_14 db_td_15 db_td_18 (fun x hx => (hex x hx).elim) (by show 2 + 3 < 70; omega) (by show (([] : List Value).map fun v => v.category).sum + (13 * (2 + 1) + 42) ≤ 8000; simp) (by show 0 + 1 ≤ 92; omega) (by show 0 + 6 ≤ 11950; omega) hlk hxx hS2.2.2 (by omega) (by omega)
end TE
theorem Wo_blind {D : va_G} {tA : Nat → ClassId} {n0 o bs : Nat} {adr adV : Nat → Nat} {M : Mm} {f : Nat → Int64} {vs : List Value} : FrameBlind (va_Pc vs (WoPre D tA n0 o bs adr adV M f)) := by
  intro a U g mk ⟨h, h1, h2⟩
  exact ⟨h, LSt.same (u := U) (U := U.calling g mk a) rfl h1, h2⟩
set_option maxHeartbeats 4000000 in
set_option maxRecDepth 100000 in
theorem wr_toldA {p0 p1 v : Int} {k : Nat} {M : Mm} (hq : WQ m_Model_told [.inl p0, .inl p1] k 0 v M) (hM : ∀ (l : Launch) (D : va_G) (tA : Nat → ClassId) (n0 o bs : Nat) (adr adV : Nat → Nat) (f : Nat → Int64), LM n0 o bs adr → Met l yb_td tdW tdR (va_Pc [.ref (adr 0), .int (iN p0), .int (iN p1)] (WoPre D tA n0 o bs adr adV M f)) (TdPost D tA n0 o bs adr M f v) 92 11950 (fun q => n0 ≤ q)) : WrC yw_told method_17_code 5 [(0, 10, 13, 18)] [.inl p0, .inl p1] M (WQ m_Model_told [.inl p0, .inl p1] k) := by
  refine wr_of (by decide) rfl (fun adr o => by simp [lg_sl, cvA, Value.category]) ?_
  intro p l e s m args below meth c D tA n0 o bs adr adV f ls hfl hL X hs hh htab hret hlk hl
  have hl : lv_has ls 5 [(0, .ref (adr 0)), (1, .int (iN p0)), (2, .int (iN p1)), (3, .ref o)] := hl
  refine lv_aload_n (i := 3) (x := o) X.1 X.2.1 dw_told_0 rfl (lv_at hl 3 rfl) ?_
  refine lv_iconst (v := 0) X.1 X.2.1 dw_told_1 (by decide) ?_
  refine lv_aload_n (i := 0) (x := adr 0) X.1 X.2.1 dw_told_2 rfl (lv_at hl 0 rfl) ?_
  refine lv_iload_n (i := 1) (x := iN p0) X.1 X.2.1 dw_told_3 rfl (lv_at hl 1 rfl) ?_
  refine lv_iload_n (i := 2) (x := iN p1) X.1 X.2.1 dw_told_4 rfl (lv_at hl 2 rfl) ?_
  have hS : LV n0 s s.heap [] := va_S.rf
  have hts := X.2.2.2.2
  obtain ⟨⟨⟨w1, w2, w3⟩, w4, w5⟩, w6, w7⟩ := wb_29
  have hr := va_runV (p := p) (l := l) (e := e) (R := wrR) (s := s) (m := m) (args := args) (below := below) (meth := meth) (c := c) (H := s.heap) (locs := []) (cells := 0) (slots := 0) (b := adr 0) (g := F0 m 5 ls [.int (iN p1), .int (iN p0), .ref (adr 0), .int 0, .ref o]) (rest := [.int 0, .ref o]) (own := lwN) (Ts := gW) (nL := 5) (As := [.int (iN p0), .int (iN p1)]) (C := "RingDater") (n := 2) (bytes := prog_1_method_29_code) (maxL := 3) (ret := some .int) X (hM l D tA n0 o bs adr adV f hL) ⟨callB_of 2 hts (code_good w3) rfl rfl rfl (hts _ w2) (hts _ w1) w4 ⟨by decide, by decide⟩, hts _ w6, hts _ w7⟩
    ⟨Wo_blind, l_recv hs hh lwd_59.2.2.2 (show (11 : Nat) = 11 from rfl), fun U hU hW => ⟨rfl, hU ▸ hs.now hS hW, hU ▸ hh⟩⟩ rfl rfl hl.1 rfl (lv_room (pc := 5) (ls := ls) (rest := [.int (iN p1), .int (iN p0), .ref (adr 0), .int 0, .ref o]) (by simp [Value.category])) dw_told_5 ⟨by decide, by decide⟩
  intro T hT XX
  obtain ⟨v1, st₀, t2, T', L2, h0, X', hL2, e1, e2, ⟨⟨hv, hh1⟩, hsz, hkk⟩, st⟩ := hr T hT XX
  rw [h0] at hsz hkk
  cases hv
  have hS1 : LV n0 s T'.heap ([] ++ L2) := vS_app hS (by rw [e1]; exact hsz) (fun q h1 h2 => by rw [e1]; exact hkk q h1 h2) (fun q h => h) hL2
  have hh2 : LH D tA n0 o bs adr M f T'.heap := by rw [e1]; exact hh1
  have G : W p l e wrR s m args below meth c T'.heap ([] ++ L2) (0 + 92) (0 + 11950) (MQ below (WPost D tA n0 o bs adr (WQ m_Model_told [.inl p0, .inl p1] k)) args s 100 12000 (fun q => n0 ≤ q)) (F0 m 8 ls [.int (iN v), .int 0, .ref o]) := by
    refine lv_i2l X.1 X.2.1 dw_told_8 rfl ?_
    refine l_out X hL hs hh2 hS1 dw_told_9 (fun H2 locs2 hh3 hS2 => ?_)
    refine lv_goto (tgt := 17) X.1 X.2.1 dw_told_10 (by decide) ?_
    refine lv_iconst (v := iN 0) X.1 X.2.1 dw_told_17 (by decide) ?_
    refine wr_fin (r := 0) (x := v) X hret hlk hq (fun _ => ?_) hh3 hS2 (by omega) (by omega) dw_told_18
    simp [vp_updL]
  obtain ⟨t3, a1, b1⟩ := G T' rfl X'
  exact ⟨t3, st t3 a1, b1⟩
set_option maxHeartbeats 4000000 in
set_option maxRecDepth 100000 in
theorem wr_toldB {p0 p1 : Int} {k : Nat} {M : Mm} (hq : CallI m_Model_told [.inr 154, .inl p0, .inl p1] M (fun _ M2 => M2 154 1 = 1 ∧ Rel (k + 1) M2)) (hM : ∀ (l : Launch) (D : va_G) (tA : Nat → ClassId) (n0 o bs : Nat) (adr adV : Nat → Nat) (f : Nat → Int64), l.stackTraces = false → LM n0 o bs adr → vx_Met l yb_td tdW tdR (va_Pc [.ref (adr 0), .int (iN p0), .int (iN p1)] (WoPre D tA n0 o bs adr adV M f)) (fun _ _ _ _ => False) (TdX D tA n0 o bs adr M f) 92 11950 (fun q => n0 ≤ q)) : WrC yw_told method_17_code 5 [(0, 10, 13, 18)] [.inl p0, .inl p1] M (WQ m_Model_told [.inl p0, .inl p1] k) := by
  refine wr_of (by decide) rfl (fun adr o => by simp [lg_sl, cvA, Value.category]) ?_
  intro p l e s m args below meth c D tA n0 o bs adr adV f ls hfl hL X hs hh htab hret hlk hl
  have hl : lv_has ls 5 [(0, .ref (adr 0)), (1, .int (iN p0)), (2, .int (iN p1)), (3, .ref o)] := hl
  refine lv_aload_n (i := 3) (x := o) X.1 X.2.1 dw_told_0 rfl (lv_at hl 3 rfl) ?_
  refine lv_iconst (v := 0) X.1 X.2.1 dw_told_1 (by decide) ?_
  refine lv_aload_n (i := 0) (x := adr 0) X.1 X.2.1 dw_told_2 rfl (lv_at hl 0 rfl) ?_
  refine lv_iload_n (i := 1) (x := iN p0) X.1 X.2.1 dw_told_3 rfl (lv_at hl 1 rfl) ?_
  refine lv_iload_n (i := 2) (x := iN p1) X.1 X.2.1 dw_told_4 rfl (lv_at hl 2 rfl) ?_
  have hS : LV n0 s s.heap [] := va_S.rf
  have hts := X.2.2.2.2
  obtain ⟨⟨⟨w1, w2, w3⟩, w4, w5⟩, w6, w7⟩ := wb_29
  have hr := vx_runV (p := p) (l := l) (e := e) (R := wrR) (s := s) (m := m) (args := args) (below := below) (meth := meth) (c := c) (H := s.heap) (locs := []) (cells := 0) (slots := 0) (b := adr 0) (g := F0 m 5 ls [.int (iN p1), .int (iN p0), .ref (adr 0), .int 0, .ref o]) (rest := [.int 0, .ref o]) (own := lwN) (Ts := gW) (nL := 5) (As := [.int (iN p0), .int (iN p1)]) (C := "RingDater") (n := 2) (bytes := prog_1_method_29_code) (maxL := 3) (ret := some .int) X (hM l D tA n0 o bs adr adV f hfl hL) ⟨callB_of 2 hts (code_good w3) rfl rfl rfl (hts _ w2) (hts _ w1) w4 ⟨by decide, by decide⟩, hts _ w6, hts _ w7⟩
    ⟨Wo_blind, l_recv hs hh lwd_59.2.2.2 (show (11 : Nat) = 11 from rfl), fun U hU hW => ⟨rfl, hU ▸ hs.now hS hW, hU ▸ hh⟩⟩ rfl rfl hl.1 rfl (lv_room (pc := 5) (ls := ls) (rest := [.int (iN p1), .int (iN p0), .ref (adr 0), .int 0, .ref o]) (by simp [Value.category])) dw_told_5 ⟨by decide, by decide⟩
  intro T hT XX
  rcases hr T hT XX with ⟨v, st₀, t, T', L2, h0, X', hL2, e1, e2, hF, st⟩ | ⟨q9, st₀, t, T', L2, E, ce, h0, X', hL2, e1, e2, ⟨rfl, hh1, hsz, hkk⟩, hce, hcv, hcl, st⟩
  · exact hF.elim
  rw [h0] at hsz hkk
  have hS1 : LV n0 s T'.heap ([] ++ L2) := vS_app hS (by rw [e1]; exact hsz) (fun q h1 h2 => by rw [e1]; exact hkk q h1 h2) (fun q h => h) hL2
  have hh2 : LH D tA n0 o bs adr M f T'.heap := by rw [e1]; exact hh1
  have G : vx_W p l e wrR s m args below meth c T'.heap ([] ++ L2) (0 + 92) (0 + 11950) (MQ below (WPost D tA n0 o bs adr (WQ m_Model_told [.inl p0, .inl p1] k)) args s 100 12000 (fun q => n0 ≤ q)) (F0 m 5 ls [.int 0, .ref o]) q9 := by
    refine vx_catch (own := lwN) (name := excN 0) (E := excN 0) X.2.2.2.1 [] ⟨0, 10, 13, 18⟩ [] htab (fun z hz => by cases hz) (by decide) (by decide) (X.2.2.2.2 _ lk_18) (hs.2.2.2.1.at _ _ ex_c0) (by rw [e1]; exact hce) hcv hcl ?_
    refine lv_astore X.1 X.2.1 dw_told_13 hl (by decide) rfl (fun ls2 hl2 => ?_)
    refine lv_iconst (v := iN 1) X.1 X.2.1 dw_told_15 (by decide) ?_
    exact wr_fin (r := 1) (x := 0) X hret hlk ⟨⟨⟨by decide, by decide⟩, inR_0⟩, hq.mono (fun y M2 w => ⟨w.1, fun h => absurd h (by decide), w.2⟩)⟩ (fun h => absurd h (by decide)) hh2 hS1 (by omega) (by omega) dw_told_16
  obtain ⟨t3, a1, b1⟩ := G T' rfl X'
  exact ⟨t3, st.trans a1, b1⟩
theorem dgW_in {v : Int} (h0 : 0 ≤ v) (h1 : v ≤ 99) : ∀ c ∈ dgW v, 0 ≤ c ∧ c ≤ 127 := by
  unfold dgW
  split
  · intro c hc
    rw [List.mem_singleton.mp hc]
    omega
  · intro c hc
    rcases List.mem_cons.mp hc with rfl | hc
    · omega
    · rw [List.mem_singleton.mp hc]
      omega
theorem rgW_in {A : Rw} (h : ∀ j : Nat, 0 ≤ A.1 j ∧ A.1 j ≤ 99) : ∀ r, ∀ c ∈ rgW A r, 0 ≤ c ∧ c ≤ 127
  | 0 => fun c hc => by cases hc
  | r + 1 => fun c hc => by
    rcases List.mem_append.mp hc with hc | hc
    · exact rgW_in h r c hc
    · rcases List.mem_append.mp hc with hc | hc
      · rcases List.mem_cons.mp hc with rfl | hc
        · omega
        · exact dgW_in (h r).1 (h r).2 c hc
      · split at hc
        · cases hc
        · rw [List.mem_singleton.mp hc]; omega
theorem txW_in {M : Mm} {t : Nat} (hw : wfT M (tNo t)) (j : Nat) : inR ((tWd M t).getD j 0) := by
  obtain ⟨⟨r0, r1⟩, hwd, -, ⟨l0, l1⟩, ⟨m0, m1⟩, -⟩ := hw
  have hA : ∀ j : Nat, 0 ≤ (tRw M (tNo t)).1 j ∧ (tRw M (tNo t)).1 j ≤ 99 := fun j => by
    show 0 ≤ (if (j : Int) < M (tNo t) 2 then M (tNo t + 1) j else 0) ∧ (if (j : Int) < M (tNo t) 2 then M (tNo t + 1) j else 0) ≤ 99
    split
    · exact hwd j (by omega)
    · omega
  have hall : ∀ c ∈ tWd M t, 0 ≤ c ∧ c ≤ 127 := by
    intro c hc
    unfold tWd txW at hc
    rcases List.mem_append.mp hc with hc | hc
    · rcases List.mem_append.mp hc with hc | hc
      · rcases List.mem_append.mp hc with hc | hc
        · rcases List.mem_append.mp hc with hc | hc
          · exact (show ∀ c ∈ tW0, 0 ≤ c ∧ c ≤ 127 by decide) c hc
          · rcases List.mem_cons.mp hc with rfl | hc
            · omega
            · exact dgW_in l0 (by omega) c hc
        · rcases List.mem_cons.mp hc with rfl | hc
          · omega
          · exact dgW_in m0 (by omega) c hc
      · exact rgW_in hA _ c hc
    · rw [List.mem_singleton.mp hc]; omega
  by_cases h : j < (tWd M t).length
  · have := hall _ (List.getElem_mem h)
    rw [List.getD_eq_getElem?_getD, List.getElem?_eq_getElem h]
    exact ⟨by show -2147483648 ≤ (tWd M t)[j]; omega, by show (tWd M t)[j] ≤ 2147483647; omega⟩
  · rw [List.getD_eq_getElem?_getD, List.getElem?_eq_none (by omega)]
    exact inR_0
theorem wr_told {p0 p1 : Int} {k : Nat} {M : Mm} (hR : Rel k M) (h0 : inR p0) (h1 : inR p1) : WrC yw_told method_17_code 5 [(0, 10, 13, 18)] [.inl p0, .inl p1] M (WQ m_Model_told [.inl p0, .inl p1] k) := by
  obtain ⟨n, T, Y, lap, bnd, mrg, hc, hm, hx⟩ := id hR
  have hw : wfS M 76 := hc.1.1.1
  obtain ⟨e3, n8⟩ := hc.2.1
  by_cases c : 0 ≤ p0 ∧ p0 < M 76 3
  · obtain ⟨t, rfl⟩ : ∃ t : Nat, p0 = (t : Int) := ⟨p0.toNat, by omega⟩
    have ht : t < n := by omega
    have hwt : wfT M (tNo t) := hw.2.2.2.2.1 t (by omega)
    obtain ⟨r1, r2, r3⟩ := relX_row hx ht
    have eT : tRw M (tNo t) = T t := (hc.2.2.1 t (by omega)).1
    have eW : tWd M t = txW (M 158 (30 * t + 1)) (M 158 (30 * t + 2)) (T t) := by
      unfold tWd
      rw [eT]
      show txW (M (82 + 3 * t) 3) (M (82 + 3 * t) 4) (T t) = _
      rw [r1, r2]
    by_cases ci : p1 = -1 ∨ 0 ≤ p1 ∧ p1 < (tWd M t).length
    · have hv : inR (tdA (tWd M t) p1) := by
        have hL : (tWd M t).length ≤ 109 := txW_len hwt.1.2
        unfold tdA
        split
        · exact ⟨by omega, by omega⟩
        · exact txW_in hwt _
      refine wr_toldA (v := tdA (tWd M t) p1) ⟨⟨inR_0, hv⟩, (Mtold_ok hm ht (by rw [← eW]; exact ci) h1).mono (fun y M2 w => ?_)⟩ (fun l D tA n0 o bs adr adV f hL => told_ok hL hw (by omega) c.2 hwt h1 ci)
      obtain ⟨rfl, w2⟩ := w
      have q := rel_q hm hx hc FrP.rf w2
      exact ⟨q.1, fun _ => by rw [eW], q.2⟩
    · refine wr_toldB ((Mtold_x2 hm ht (by rw [← eW]; exact ci) h1).mono (fun y M2 w => ?_)) (fun l D tA n0 o bs adr adV f hfl hL => told_x hfl hL hw (by omega) c.2 hwt h1 ci)
      exact rel_q hm hx hc FrP.rf w
  · refine wr_toldB ((Mtold_x1 hm h0 (by omega)).mono (fun y M2 w => ?_)) (fun l D tA n0 o bs adr adV f hfl hL => told_x0 hfl hL hw h0 c)
    exact rel_q hm hx hc FrP.rf w
