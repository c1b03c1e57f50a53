/-! TOLD, 4: RingDater.told (words and rows printed by wip/whole/g7t.py). -/
def yb_td : MethodName := ⟨"RingDater", "told", "(II)I"⟩
set_option maxRecDepth 100000 in
theorem db_td_0 : decode prog_1_method_29_code 0 = .ok (.aload_n 0, 1) := rfl
set_option maxRecDepth 100000 in
theorem db_td_1 : decode prog_1_method_29_code 1 = .ok (.getfield 54, 3) := rfl
set_option maxRecDepth 100000 in
theorem db_td_4 : decode prog_1_method_29_code 4 = .ok (.iload_n 1, 1) := rfl
set_option maxRecDepth 100000 in
theorem db_td_5 : decode prog_1_method_29_code 5 = .ok (.invokevirtual 174, 3) := rfl
set_option maxRecDepth 100000 in
theorem db_td_8 : decode prog_1_method_29_code 8 = .ok (.ifCond .ne 11, 3) := rfl
set_option maxRecDepth 100000 in
theorem db_td_11 : decode prog_1_method_29_code 11 = .ok (.new 171, 3) := rfl
set_option maxRecDepth 100000 in
theorem db_td_14 : decode prog_1_method_29_code 14 = .ok (.dup, 1) := rfl
set_option maxRecDepth 100000 in
theorem db_td_15 : decode prog_1_method_29_code 15 = .ok (.invokespecial 173, 3) := rfl
set_option maxRecDepth 100000 in
theorem db_td_18 : decode prog_1_method_29_code 18 = .ok (.athrow, 1) := rfl
set_option maxRecDepth 100000 in
theorem db_td_19 : decode prog_1_method_29_code 19 = .ok (.aload_n 0, 1) := rfl
set_option maxRecDepth 100000 in
theorem db_td_20 : decode prog_1_method_29_code 20 = .ok (.getfield 54, 3) := rfl
set_option maxRecDepth 100000 in
theorem db_td_23 : decode prog_1_method_29_code 23 = .ok (.iload_n 1, 1) := rfl
set_option maxRecDepth 100000 in
theorem db_td_24 : decode prog_1_method_29_code 24 = .ok (.invokevirtual 178, 3) := rfl
set_option maxRecDepth 100000 in
theorem db_td_27 : decode prog_1_method_29_code 27 = .ok (.aload_n 0, 1) := rfl
set_option maxRecDepth 100000 in
theorem db_td_28 : decode prog_1_method_29_code 28 = .ok (.getfield 47, 3) := rfl
set_option maxRecDepth 100000 in
theorem db_td_31 : decode prog_1_method_29_code 31 = .ok (.invokevirtual 377, 3) := rfl
set_option maxRecDepth 100000 in
theorem db_td_34 : decode prog_1_method_29_code 34 = .ok (.iload_n 2, 1) := rfl
set_option maxRecDepth 100000 in
theorem db_td_35 : decode prog_1_method_29_code 35 = .ok (.iconst (-1), 1) := rfl
set_option maxRecDepth 100000 in
theorem db_td_36 : decode prog_1_method_29_code 36 = .ok (.if_icmp .ne 11, 3) := rfl
set_option maxRecDepth 100000 in
theorem db_td_39 : decode prog_1_method_29_code 39 = .ok (.aload_n 0, 1) := rfl
set_option maxRecDepth 100000 in
theorem db_td_40 : decode prog_1_method_29_code 40 = .ok (.getfield 47, 3) := rfl
set_option maxRecDepth 100000 in
theorem db_td_43 : decode prog_1_method_29_code 43 = .ok (.invokevirtual 381, 3) := rfl
set_option maxRecDepth 100000 in
theorem db_td_46 : decode prog_1_method_29_code 46 = .ok (.ireturn, 1) := rfl
set_option maxRecDepth 100000 in
theorem db_td_47 : decode prog_1_method_29_code 47 = .ok (.iload_n 2, 1) := rfl
set_option maxRecDepth 100000 in
theorem db_td_48 : decode prog_1_method_29_code 48 = .ok (.ifCond .lt 14, 3) := rfl
set_option maxRecDepth 100000 in
theorem db_td_51 : decode prog_1_method_29_code 51 = .ok (.iload_n 2, 1) := rfl
set_option maxRecDepth 100000 in
theorem db_td_52 : decode prog_1_method_29_code 52 = .ok (.aload_n 0, 1) := rfl
set_option maxRecDepth 100000 in
theorem db_td_53 : decode prog_1_method_29_code 53 = .ok (.getfield 47, 3) := rfl
set_option maxRecDepth 100000 in
theorem db_td_56 : decode prog_1_method_29_code 56 = .ok (.invokevirtual 381, 3) := rfl
set_option maxRecDepth 100000 in
theorem db_td_59 : decode prog_1_method_29_code 59 = .ok (.if_icmp .lt 11, 3) := rfl
set_option maxRecDepth 100000 in
theorem db_td_62 : decode prog_1_method_29_code 62 = .ok (.new 171, 3) := rfl
set_option maxRecDepth 100000 in
theorem db_td_65 : decode prog_1_method_29_code 65 = .ok (.dup, 1) := rfl
set_option maxRecDepth 100000 in
theorem db_td_66 : decode prog_1_method_29_code 66 = .ok (.invokespecial 173, 3) := rfl
set_option maxRecDepth 100000 in
theorem db_td_69 : decode prog_1_method_29_code 69 = .ok (.athrow, 1) := rfl
set_option maxRecDepth 100000 in
theorem db_td_70 : decode prog_1_method_29_code 70 = .ok (.aload_n 0, 1) := rfl
set_option maxRecDepth 100000 in
theorem db_td_71 : decode prog_1_method_29_code 71 = .ok (.getfield 47, 3) := rfl
set_option maxRecDepth 100000 in
theorem db_td_74 : decode prog_1_method_29_code 74 = .ok (.iload_n 2, 1) := rfl
set_option maxRecDepth 100000 in
theorem db_td_75 : decode prog_1_method_29_code 75 = .ok (.invokevirtual 383, 3) := rfl
set_option maxRecDepth 100000 in
theorem db_td_78 : decode prog_1_method_29_code 78 = .ok (.ireturn, 1) := rfl
set_option maxRecDepth 100000 in
theorem lwo_2 : LWo "RingDater" 174 m_Stock_has := ⟨⟨gW_at (i := 691) rfl rfl, gW_at (i := 628) rfl rfl⟩, ⟨gW_at (i := 629) rfl rfl, gW_at (i := 105) rfl rfl⟩, rfl, by decide⟩
set_option maxRecDepth 100000 in
theorem lwo_3 : LWo "RingDater" 178 m_Stock_timberAt := ⟨⟨gW_at (i := 724) rfl rfl, gW_at (i := 624) rfl rfl⟩, ⟨gW_at (i := 625) rfl rfl, gW_at (i := 105) rfl rfl⟩, rfl, by decide⟩
set_option maxRecDepth 100000 in
theorem ft_RingDater_54 : Cond.fieldLink "RingDater" 54 (Tc 11 6).1 (Tc 11 6).2.1 (Tc 11 6).2.2.1 ∈ gW := gW_at (i := 555) rfl rfl
set_option maxRecDepth 100000 in
theorem ft_RingDater_47 : Cond.fieldLink "RingDater" 47 (Tc 11 5).1 (Tc 11 5).2.1 (Tc 11 5).2.2.1 ∈ gW := gW_at (i := 554) rfl rfl
set_option maxRecDepth 100000 in
theorem wb_26 : BWd 0 "RingDater" 377 yb_wo prog_11_method_17_code 3 none "RingDater$Timber" 1 := ⟨⟨⟨gW_at (i := 1415) rfl rfl, gW_at (i := 106) rfl rfl, gW_at (i := 1418) rfl rfl⟩, ⟨by decide, by decide, rfl⟩, by decide⟩, gW_at (i := 1416) rfl rfl, gW_at (i := 1417) rfl rfl⟩
set_option maxRecDepth 100000 in
theorem wb_27 : BWd 0 "RingDater" 381 yb_lenS prog_28_method_93_code 1 (some .int) RJ4 0 := ⟨⟨⟨gW_at (i := 1653) rfl rfl, gW_at (i := 115) rfl rfl, gW_at (i := 1586) rfl rfl⟩, ⟨by decide, by decide, rfl⟩, by decide⟩, gW_at (i := 1585) rfl rfl, gW_at (i := 2334) rfl rfl⟩
set_option maxRecDepth 100000 in
theorem wb_28 : BWd 0 "RingDater" 383 yb_charS prog_28_method_88_code 2 (some .char) RJ4 1 := ⟨⟨⟨gW_at (i := 1654) rfl rfl, gW_at (i := 115) rfl rfl, gW_at (i := 1657) rfl rfl⟩, ⟨by decide, by decide, rfl⟩, by decide⟩, gW_at (i := 1655) rfl rfl, gW_at (i := 1656) rfl rfl⟩
set_option maxRecDepth 100000 in
theorem wb_29 : BWd 0 lwN 59 yb_td prog_1_method_29_code 3 (some .int) "RingDater" 2 := ⟨⟨⟨gW_at (i := 1411) rfl rfl, gW_at (i := 103) rfl rfl, gW_at (i := 1414) rfl rfl⟩, ⟨by decide, by decide, rfl⟩, by decide⟩, gW_at (i := 1412) rfl rfl, gW_at (i := 1413) rfl rfl⟩
def tdR : Room := { frames := 70, cells := 92, slots := 11950, locals := 8000 }
def tdW : List Cond := Cond.code yb_td prog_1_method_29_code 3 (some .int) :: gW
section TD
variable {D : va_G} {tA : Nat → ClassId} {n0 o bs : Nat} {adr adV : Nat → Nat} {M : Mm} {f : Nat → Int64} {t : Nat} {i : Int}
variable {p : Program} {l : Launch} {e : Env} {s : State} {m : MethodId} {args : Array Value} {below : List Frame} {meth : Method} {c : Code} {Q : State → Prop} {ls : Array Slot}
/-- a timber's number -/
def tNo (t : Nat) : Nat := 82 + 3 * t
theorem tNo_is (ht : t < 8) : isTim (tNo t) := by
  have h := (show ∀ t, t < 8 → isTim (82 + 3 * t) from fun t ht => by
    match t, ht with
    | 0, _ => exact ⟨rfl, rfl, rfl⟩
    | 1, _ => exact ⟨rfl, rfl, rfl⟩
    | 2, _ => exact ⟨rfl, rfl, rfl⟩
    | 3, _ => exact ⟨rfl, rfl, rfl⟩
    | 4, _ => exact ⟨rfl, rfl, rfl⟩
    | 5, _ => exact ⟨rfl, rfl, rfl⟩
    | 6, _ => exact ⟨rfl, rfl, rfl⟩
    | 7, _ => exact ⟨rfl, rfl, rfl⟩)
  exact h t ht
def tWd (M : Mm) (t : Nat) : List Int := txW (M (tNo t) 3) (M (tNo t) 4) (tRw M (tNo t))
set_option maxHeartbeats 4000000 in
set_option maxRecDepth 100000 in
theorem td_mid (hm : LM n0 o bs adr) (X : BX p s m args c "RingDater" 3 prog_1_method_29_code) (hs : LSt D tA n0 adr adV s s.heap) (hh : LH D tA n0 o bs adr M f s.heap) (hw : wfS M 76) (ht8 : t < 8) (ht : (t : Int) < M 76 3) (hwt : wfT M (tNo t)) (hl : lv_has ls 3 [(0, .ref (adr 0)), (1, .int (iN (t : Int))), (2, .int (iN i))])
    (kk : ∀ x H1 lc1, LHX D tA n0 o bs adr M f x H1 → isTx x (tWd M t) → LV n0 s H1 lc1 → W p l e tdR s m args below meth c H1 lc1 90 11900 Q (F0 m 34 ls [])) : W p l e tdR s m args below meth c s.heap [] 0 0 Q (F0 m 0 ls []) := by
  obtain ⟨x, hh⟩ := hh.ex
  have hS : LV n0 s s.heap [] := va_S.rf
  have hlay : lay 0 = .inr (.inl (11, [some 1, some 33, some 60, some 68, some 73, some 198, some 76, some 106, some 111, some 114, some 115, some 145, some 150, some 153, none])) := rfl
  have hbs : bs = adr 198 := hm.2.2.2
  refine lv_aload_n (i := 0) (x := adr 0) X.1 X.2.1 db_td_0 rfl (lv_at hl 0 rfl) ?_
  refine t_get (k := 6) (r := some 76) X hs hh hlay (by decide) (by decide) rfl ft_RingDater_54 db_td_1 ?_
  refine lv_iload_n (i := 1) (x := iN (t : Int)) X.1 X.2.1 db_td_4 rfl (lv_at hl 1 rfl) ?_
  refine t_call (q := m_Stock_has) (b := 76) (As := [.inl (t : Int)]) (rest := []) X lwo_2 hm hs hh hS hl.1 (show (8 : Nat) = 8 from rfl) rfl ⟨by decide +kernel, by decide +kernel⟩ ⟨by decide, by decide⟩ (by simp) rfl db_td_5 (Stock_has_ok isStk_76 ⟨by omega, by omega⟩ hw) (fun v M2 H2 lc2 hv hh2 hS2 => ?_)
  obtain ⟨y, rfl, rfl, rfl⟩ := hv
  rw [if_pos ⟨by omega, ht⟩]
  refine lv_if_ne (tgt := 19) X.1 X.2.1 db_td_8 (by decide) (fun _ => ?_) (fun z => absurd z (by decide))
  refine lv_aload_n (i := 0) (x := adr 0) X.1 X.2.1 db_td_19 rfl (lv_at hl 0 rfl) ?_
  refine t_get (k := 6) (r := some 76) X hs hh2 hlay (by decide) (by decide) rfl ft_RingDater_54 db_td_20 ?_
  refine lv_iload_n (i := 1) (x := iN (t : Int)) X.1 X.2.1 db_td_23 rfl (lv_at hl 1 rfl) ?_
  refine t_call (q := m_Stock_timberAt) (b := 76) (As := [.inl (t : Int)]) (rest := []) X lwo_3 hm hs hh2 hS2 hl.1 (show (8 : Nat) = 8 from rfl) rfl ⟨by decide +kernel, by decide +kernel⟩ ⟨by decide, by decide⟩ (by simp) rfl db_td_24 (Stock_timberAt_ok isStk_76 ⟨by omega, by omega⟩ hw) (fun v M3 H3 lc3 hv hh3 hS3 => ?_)
  obtain ⟨y, rfl, rfl, rfl⟩ := hv
  have etm : tmA M3 76 (t : Int) = tNo t := by
    unfold tmA tNo
    rw [if_pos ⟨by omega, ht⟩, Int.toNat_natCast]
  rw [etm]
  show W p l e tdR s m args below meth c H3 lc3 0 0 Q (F0 m 27 ls [.ref (adr (tNo t))])
  refine lv_aload_n (i := 0) (x := adr 0) X.1 X.2.1 db_td_27 rfl (lv_at hl 0 rfl) ?_
  refine t_get (k := 5) (r := some 198) X hs hh3 hlay (by decide) (by decide) rfl ft_RingDater_47 db_td_28 ?_
  show W p l e tdR s m args below meth c H3 lc3 0 0 Q (F0 m 31 ls [.ref (adr 198), .ref (adr (tNo t))])
  rw [← hbs]
  have hts := X.2.2.2.2
  obtain ⟨⟨⟨w1, w2, w3⟩, w4, w5⟩, w6, w7⟩ := wb_26
  have ho := tNo_is ht8
  have hr := va_runV (p := p) (l := l) (e := e) (R := tdR) (s := s) (m := m) (args := args) (below := below) (meth := meth) (c := c) (H := H3) (locs := lc3) (cells := 0) (slots := 0) (b := adr (tNo t)) (g := F0 m 31 ls [.ref bs, .ref (adr (tNo t))]) (rest := []) (own := "RingDater") (Ts := gW) (nL := 3) (As := [.ref bs]) (C := "RingDater$Timber") (n := 1) (bytes := prog_11_method_17_code) (maxL := 3) (ret := none) X (writeOn_ok (l := l) (D := D) (tA := tA) (adV := adV) (M := M3) (f := f) ho hm hwt) ⟨callB_of 1 hts (code_good w3) rfl rfl rfl (hts _ w2) (hts _ w1) w4 ⟨by decide, by decide⟩, hts _ w6, hts _ w7⟩
    ⟨by
      intro a U g mk ⟨h, h1, h2⟩
      exact ⟨h, LSt.same (u := U) (U := U.calling g mk a) rfl h1, h2⟩, va_recv hs.1.1 hh3.1.2.1 (cls_el (show 9 < 13 by decide)).1 (ws_obj ho.1), fun U hU hW => ⟨rfl, hU ▸ hs.now hS3 hW, hU ▸ hh3.to⟩⟩ rfl rfl hl.1 rfl (lv_room (pc := 31) (ls := ls) (rest := [.ref bs, .ref (adr (tNo t))]) (by simp)) db_td_31 ⟨by decide, by decide⟩
  intro T hT XX
  obtain ⟨v, st₀, t2, T', L2, h0, X', hL2, e1, e2, ⟨⟨hv, x4, hh4, hx4⟩, hsz, hkk⟩, st⟩ := hr T hT XX
  rw [h0] at hsz hkk
  cases hv
  have K := kk x4 T'.heap (lc3 ++ L2) (by rw [e1]; exact hh4) hx4 (vS_app hS3 (by rw [e1]; exact hsz) (fun q h1 h2 => by rw [e1]; exact hkk q h1 h2) (fun q h => h) hL2)
  obtain ⟨t3, a1, b1⟩ := K T' rfl X'
  exact ⟨t3, st t3 a1, b1⟩
def TdPost (D : va_G) (tA : Nat → ClassId) (n0 o bs : Nat) (adr : Nat → Nat) (M : Mm) (f : Nat → Int64) (v : Int) : Array Value → State → Outcome → State → Prop := fun _ st oc t =>
  (oc = .returned (some (.int (iN v))) ∧ LH D tA n0 o bs adr M f t.heap) ∧ va_F (fun q => n0 ≤ q) st t
def TdX (D : va_G) (tA : Nat → ClassId) (n0 o bs : Nat) (adr : Nat → Nat) (M : Mm) (f : Nat → Int64) : String → State → State → Prop := fun E st t => E = excN 0 ∧ LH D tA n0 o bs adr M f t.heap ∧ va_F (fun q => n0 ≤ q) st t
set_option maxHeartbeats 4000000 in
set_option maxRecDepth 100000 in
theorem told_ok (hm : LM n0 o bs adr) (hw : wfS M 76) (ht8 : t < 8) (ht : (t : Int) < M 76 3) (hwt : wfT M (tNo t)) (hiR : inR i) (hi : i = -1 ∨ 0 ≤ i ∧ i < (tWd M t).length) : Met l yb_td tdW tdR (va_Pc [.ref (adr 0), .int (iN (t : Int)), .int (iN i)] (WoPre D tA n0 o bs adr adV M f)) (TdPost D tA n0 o bs adr M f (tdA (tWd M t) i)) 92 11950 (fun q => n0 ≤ q) := by
  refine Met.ofW (cc := prog_1_method_29_code) (maxL := 3) (ret := some .int) (by decide) rfl ?_
  intro p e s m args below meth c s₁ B hml hv
  obtain ⟨rfl, hs, hh⟩ := hv
  have hts := atoms_spec (ws := tdW) B.pre
  have hown : s.vm.findClass "RingDater" = some m.cls := findClass_of_methodNamed B.named
  rw [lg_entry_eq]
  have hl := lv_entry ([.ref (adr 0), .int (iN (t : Int)), .int (iN i)] : List Value) (n := 3) (by simp [lg_sl, Value.category])
  generalize (lg_sl ([.ref (adr 0), .int (iN (t : Int)), .int (iN i)] : List Value) ++ List.replicate (3 - (lg_sl ([.ref (adr 0), .int (iN (t : Int)), .int (iN i)] : List Value)).length) Slot.unset).toArray = ls at hl ⊢
  have hl : lv_has ls 3 [(0, .ref (adr 0)), (1, .int (iN (t : Int))), (2, .int (iN i))] := hl
  have X : BX p s m #[.ref (adr 0), .int (iN (t : Int)), .int (iN i)] c "RingDater" 3 prog_1_method_29_code := ⟨B.exec, B.bytes, hml, hown, fun w hw => hts w (List.mem_cons_of_mem _ hw)⟩
  have hret := B.returns
  have hlk := B.notSynchronized
  have hlay : lay 0 = .inr (.inl (11, [some 1, some 33, some 60, some 68, some 73, some 198, some 76, some 106, some 111, some 114, some 115, some 145, some 150, some 153, none])) := rfl
  have hbs : bs = adr 198 := hm.2.2.2
  refine td_mid hm X hs hh hw ht8 ht hwt hl (fun x H1 lc1 hh1 hx1 hS1 => ?_)
  have hN := hx1.1
  have hL : (tWd M t).length ≤ 109 := txW_len hwt.1.2
  refine lv_iload_n (i := 2) (x := iN i) X.1 X.2.1 db_td_34 rfl (lv_at hl 2 rfl) ?_
  refine lv_iconst (v := iN (-1)) X.1 X.2.1 db_td_35 (by decide) ?_
  by_cases c1 : i = -1
  · refine lv_icmp_ne (tgt := 47) X.1 X.2.1 db_td_36 (by decide) (fun z => absurd (by rw [c1]) z) (fun _ => ?_)
    refine lv_aload_n (i := 0) (x := adr 0) X.1 X.2.1 db_td_39 rfl (lv_at hl 0 rfl) ?_
    refine t_get (k := 5) (r := some 198) X hs hh1 hlay (by decide) (by decide) rfl ft_RingDater_47 db_td_40 ?_
    show W p l e tdR s m _ below meth c H1 lc1 90 11900 _ (F0 m 43 ls [.ref (adr 198)])
    rw [← hbs]
    refine t_bcall (As := []) (rest := []) X hm hs hh1 hS1 b_lenS trivial wb_27 rfl rfl hl.1 ⟨by decide, by decide⟩ ⟨by decide, by decide⟩ (by simp) rfl db_td_43 (fun v x2 H2 lc2 hv2 hh2 hS2 => ?_)
    obtain ⟨rfl, rfl⟩ := hv2
    have ev : tdA (tWd M t) i = (xN x2 : Int) := by
      unfold tdA
      rw [if_pos c1, hN]
    rw [ev]
    exact W.widen (by omega) (by omega) (W.iret X.1 X.2.1 hret (fun t2 ht2 _ => ⟨⟨rfl, by rw [ht2]; exact hh2.to⟩, va_S.F hS2 ht2⟩) hS2.2.2 db_td_46 hlk)
  · have i2 : 0 ≤ i ∧ i < (tWd M t).length := by omega
    refine lv_icmp_ne (tgt := 47) X.1 X.2.1 db_td_36 (by decide) (fun _ => ?_) (fun z => absurd ((iN_eq hiR ⟨by omega, by omega⟩).mp z) c1)
    refine lv_iload_n (i := 2) (x := iN i) X.1 X.2.1 db_td_47 rfl (lv_at hl 2 rfl) ?_
    refine lv_if_lt (tgt := 62) X.1 X.2.1 db_td_48 (by decide) (fun z => absurd ((iN_lt hiR inR_0).mp z) (by omega)) (fun _ => ?_)
    refine lv_iload_n (i := 2) (x := iN i) X.1 X.2.1 db_td_51 rfl (lv_at hl 2 rfl) ?_
    refine lv_aload_n (i := 0) (x := adr 0) X.1 X.2.1 db_td_52 rfl (lv_at hl 0 rfl) ?_
    refine t_get (k := 5) (r := some 198) X hs hh1 hlay (by decide) (by decide) rfl ft_RingDater_47 db_td_53 ?_
    show W p l e tdR s m _ below meth c H1 lc1 90 11900 _ (F0 m 56 ls [.ref (adr 198), .int (iN i)])
    rw [← hbs]
    refine t_bcall (As := []) (rest := [.int (iN i)]) X hm hs hh1 hS1 b_lenS trivial wb_27 rfl rfl hl.1 ⟨by decide, by decide⟩ ⟨by decide, by decide⟩ (by simp [Value.category]) rfl db_td_56 (fun v x2 H2 lc2 hv2 hh2 hS2 => ?_)
    obtain ⟨rfl, rfl⟩ := hv2
    show W p l e tdR s m _ below meth c H2 lc2 90 11900 _ (F0 m 59 ls [.int (iN (xN x2 : Int)), .int (iN i)])
    refine lv_icmp_lt (tgt := 70) X.1 X.2.1 db_td_59 (by decide) (fun _ => ?_) (fun z => absurd ((iN_lt hiR (y := (xN x2 : Int)) ⟨by omega, by omega⟩).mpr (by omega)) z)
    refine lv_aload_n (i := 0) (x := adr 0) X.1 X.2.1 db_td_70 rfl (lv_at hl 0 rfl) ?_
    refine t_get (k := 5) (r := some 198) X hs hh2 hlay (by decide) (by decide) rfl ft_RingDater_47 db_td_71 ?_
    show W p l e tdR s m _ below meth c H2 lc2 90 11900 _ (F0 m 74 ls [.ref (adr 198)])
    rw [← hbs]
    refine lv_iload_n (i := 2) (x := iN i) X.1 X.2.1 db_td_74 rfl (lv_at hl 2 rfl) ?_
    refine t_bcall (As := [.int (iN i)]) (rest := []) X hm hs hh2 hS2 (b_charS (i := i)) ⟨i2.1, by omega⟩ wb_28 rfl rfl hl.1 ⟨by decide, by decide⟩ ⟨by decide, by decide⟩ (by simp) rfl db_td_75 (fun v x3 H3 lc3 hv3 hh3 hS3 => ?_)
    obtain ⟨rfl, rfl⟩ := hv3
    have ev : tdA (tWd M t) i = xT x3 i.toNat := by
      unfold tdA
      rw [if_neg c1, hx1.2 _ (by omega)]
    rw [ev]
    exact W.widen (by omega) (by omega) (W.iret X.1 X.2.1 hret (fun t2 ht2 _ => ⟨⟨rfl, by rw [ht2]; exact hh3.to⟩, va_S.F hS3 ht2⟩) hS3.2.2 db_td_78 hlk)
set_option maxHeartbeats 4000000 in
set_option maxRecDepth 100000 in
theorem told_x (hfl : l.stackTraces = false) (hm : LM n0 o bs adr) (hw : wfS M 76) (ht8 : t < 8) (ht : (t : Int) < M 76 3) (hwt : wfT M (tNo t)) (hiR : inR i) (hi : ¬ (i = -1 ∨ 0 ≤ i ∧ i < (tWd M t).length)) : vx_Met l yb_td tdW tdR (va_Pc [.ref (adr 0), .int (iN (t : Int)), .int (iN i)] (WoPre D tA n0 o bs adr adV M f)) (fun _ _ _ _ => False) (TdX D tA n0 o bs adr M f) 92 11950 (fun q => n0 ≤ q) := by
  refine vx_ofW (cc := prog_1_method_29_code) (maxL := 3) (ret := some .int) (by decide) rfl ?_
  intro p e s m args below meth c s₁ B hml hex hv
  obtain ⟨rfl, hs, hh⟩ := hv
  have hts := atoms_spec (ws := tdW) B.pre
  have hown : s.vm.findClass "RingDater" = some m.cls := findClass_of_methodNamed B.named
  rw [lg_entry_eq]
  have hl := lv_entry ([.ref (adr 0), .int (iN (t : Int)), .int (iN i)] : List Value) (n := 3) (by simp [lg_sl, Value.category])
  generalize (lg_sl ([.ref (adr 0), .int (iN (t : Int)), .int (iN i)] : List Value) ++ List.replicate (3 - (lg_sl ([.ref (adr 0), .int (iN (t : Int)), .int (iN i)] : List Value)).length) Slot.unset).toArray = ls at hl ⊢
  have hl : lv_has ls 3 [(0, .ref (adr 0)), (1, .int (iN (t : Int))), (2, .int (iN i))] := hl
  have X : BX p s m #[.ref (adr 0), .int (iN (t : Int)), .int (iN i)] c "RingDater" 3 prog_1_method_29_code := ⟨B.exec, B.bytes, hml, hown, fun w hw => hts w (List.mem_cons_of_mem _ hw)⟩
  have hret := B.returns
  have hlk := B.notSynchronized
  have hlay : lay 0 = .inr (.inl (11, [some 1, some 33, some 60, some 68, some 73, some 198, some 76, some 106, some 111, some 114, some 115, some 145, some 150, some 153, none])) := rfl
  have hbs : bs = adr 198 := hm.2.2.2
  refine td_mid hm X hs hh hw ht8 ht hwt hl (fun x H1 lc1 hh1 hx1 hS1 => ?_)
  have hN := hx1.1
  have hL : (tWd M t).length ≤ 109 := txW_len hwt.1.2
  have hwd := X.2.2.2.2
  have thr : ∀ (H2 : Heap) (lc2 : List Loc) (st : List Value), LH D tA n0 o bs adr M f H2 → LV n0 s H2 lc2 → (st.map fun v => v.category).sum ≤ 4 → W p l e tdR s m #[.ref (adr 0), .int (iN (t : Int)), .int (iN i)] below meth c H2 lc2 90 11900 (vx_MQ below (fun _ _ _ _ => False) (TdX D tA n0 o bs adr M f) #[.ref (adr 0), .int (iN (t : Int)), .int (iN i)] s 92 11950 (fun q => n0 ≤ q)) (F0 m 62 ls st) := fun H2 lc2 st hh2 hS2 hst => by
    have hxx : ∀ t2 : State, s.vm.Alike t2.vm → H2.size ≤ t2.heap.size → (∀ q : Nat, q < H2.size → t2.heap[q]? = H2[q]?) → TdX D tA n0 o bs adr M f (excN 0) s t2 := fun t2 _ h1 h2 => ⟨rfl, by
      obtain ⟨a1, a2, a3, bb, cap, cnt, ml, T2, a4, a5, a6, a7⟩ := hh2
      exact ⟨Nat.le_trans a1 h1, a2.kept (fun k q hq => h2 _ ((a2 k q hq).lt)), a3.kept (h2 _ a3.lt), bb, cap, cnt, ml, T2, a4, a5, a6.kept (h2 _ a6.lt), a7.kept (h2 _ a7.lt)⟩, Nat.le_trans hS2.1 h1, fun q h3 h4 => (h2 q (Nat.lt_of_lt_of_le h3 hS2.1)).trans (hS2.2.1 q h3 h4)⟩
    exact vx_throw0 (own := Rn 11) (cls := excN 0) (names := excUp) (A := fun q => n0 ≤ q) X.1 X.2.1 hfl X.2.2.2.1 (by decide +kernel) (by decide +kernel) (hwd _ (gW_of (ex0_in _ (by simp)) rfl)) (hwd _ (gW_of (ex0_in _ (by simp)) rfl))
      (vx_hat (B := excD) (fun w hh => hwd w (gW_of (ex0_at w hh) (List.mem_filter.mp hh).2)) (fun w hh => List.mem_append_left _ hh) (hs.2.2.2.1.at _)) ex0_ot hs.2.1.2.2.1 hs.2.1.2.2.2 hS2 (hl.1.trans X.2.2.1.symm) db_td_62 db_td_65 db_td_66 db_td_69 (fun x hx => (hex x hx).elim) (by show 2 + 3 < 70; omega) (by show (st.map fun v => v.category).sum + (13 * (2 + 1) + 42) ≤ 8000; omega) (by show 90 + 1 ≤ 92; omega) (by show 11900 + 6 ≤ 11950; omega) hlk hxx hS2.2.2 (by omega) (by omega)
  refine lv_iload_n (i := 2) (x := iN i) X.1 X.2.1 db_td_34 rfl (lv_at hl 2 rfl) ?_
  refine lv_iconst (v := iN (-1)) X.1 X.2.1 db_td_35 (by decide) ?_
  refine lv_icmp_ne (tgt := 47) X.1 X.2.1 db_td_36 (by decide) (fun _ => ?_) (fun z => absurd ((iN_eq hiR ⟨by omega, by omega⟩).mp z) (by omega))
  refine lv_iload_n (i := 2) (x := iN i) X.1 X.2.1 db_td_47 rfl (lv_at hl 2 rfl) ?_
  refine lv_if_lt (tgt := 62) X.1 X.2.1 db_td_48 (by decide) (fun _ => thr H1 lc1 [] hh1.to hS1 (by simp)) (fun z => ?_)
  have i0 : 0 ≤ i := by
    have : ¬ i < 0 := fun h => z ((iN_lt hiR inR_0).mpr h)
    omega
  refine lv_iload_n (i := 2) (x := iN i) X.1 X.2.1 db_td_51 rfl (lv_at hl 2 rfl) ?_
  refine lv_aload_n (i := 0) (x := adr 0) X.1 X.2.1 db_td_52 rfl (lv_at hl 0 rfl) ?_
  refine t_get (k := 5) (r := some 198) X hs hh1 hlay (by decide) (by decide) rfl ft_RingDater_47 db_td_53 ?_
  show W p l e tdR s m _ below meth c H1 lc1 90 11900 _ (F0 m 56 ls [.ref (adr 198), .int (iN i)])
  rw [← hbs]
  refine t_bcall (As := []) (rest := [.int (iN i)]) X hm hs hh1 hS1 b_lenS trivial wb_27 rfl rfl hl.1 ⟨by decide, by decide⟩ ⟨by decide, by decide⟩ (by simp [Value.category]) rfl db_td_56 (fun v x2 H2 lc2 hv2 hh2 hS2 => ?_)
  obtain ⟨rfl, rfl⟩ := hv2
  show W p l e tdR s m _ below meth c H2 lc2 90 11900 _ (F0 m 59 ls [.int (iN (xN x2 : Int)), .int (iN i)])
  refine lv_icmp_lt (tgt := 70) X.1 X.2.1 db_td_59 (by decide) (fun z => absurd ((iN_lt hiR (y := (xN x2 : Int)) ⟨by omega, by omega⟩).mp z) (by omega)) (fun _ => thr H2 lc2 [] hh2.to hS2 (by simp))
end TD
