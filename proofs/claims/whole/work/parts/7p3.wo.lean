/-! TOLD, 3: Timber.writeOn (words and rows printed by wip/whole/g7t.py). -/
def yb_wo : MethodName := ⟨"RingDater$Timber", "writeOn", "(Ljava/lang/StringBuilder;)V"⟩
set_option maxRecDepth 100000 in
theorem wb_22 : BWd 0 "RingDater$Timber" 58 yb_setL prog_28_method_89_code 2 none RJ4 1 := ⟨⟨⟨gW_at (i := 1419) rfl rfl, gW_at (i := 115) rfl rfl, gW_at (i := 1422) rfl rfl⟩, ⟨by decide, by decide, rfl⟩, by decide⟩, gW_at (i := 1420) rfl rfl, gW_at (i := 1421) rfl rfl⟩
set_option maxRecDepth 100000 in
theorem wb_23 : BWd 0 "RingDater$Timber" 66 yb_appS prog_28_method_7_code 2 (some (.object "java/lang/StringBuilder")) RJ4 1 := ⟨⟨⟨gW_at (i := 1638) rfl rfl, gW_at (i := 115) rfl rfl, gW_at (i := 1478) rfl rfl⟩, ⟨by decide, by decide, rfl⟩, by decide⟩, gW_at (i := 1476) rfl rfl, gW_at (i := 1477) rfl rfl⟩
set_option maxRecDepth 100000 in
theorem wb_24 : BWd 0 "RingDater$Timber" 70 yb_appI prog_28_method_15_code 2 (some (.object "java/lang/StringBuilder")) RJ4 1 := ⟨⟨⟨gW_at (i := 1639) rfl rfl, gW_at (i := 115) rfl rfl, gW_at (i := 1539) rfl rfl⟩, ⟨by decide, by decide, rfl⟩, by decide⟩, gW_at (i := 1537) rfl rfl, gW_at (i := 1538) rfl rfl⟩
set_option maxRecDepth 100000 in
theorem wb_25 : BWd 0 "RingDater$Timber" 73 yb_appC prog_28_method_14_code 2 (some (.object "java/lang/StringBuilder")) RJ4 1 := ⟨⟨⟨gW_at (i := 1640) rfl rfl, gW_at (i := 115) rfl rfl, gW_at (i := 1643) rfl rfl⟩, ⟨by decide, by decide, rfl⟩, by decide⟩, gW_at (i := 1641) rfl rfl, gW_at (i := 1642) rfl rfl⟩
set_option maxRecDepth 100000 in
theorem lwo_0 : LWo "RingDater$Timber" 32 m_Timber_widthOf := ⟨⟨gW_at (i := 645) rfl rfl, gW_at (i := 646) rfl rfl⟩, ⟨gW_at (i := 647) rfl rfl, gW_at (i := 106) rfl rfl⟩, rfl, by decide⟩
set_option maxRecDepth 100000 in
theorem lwo_1 : LWo "RingDater$Timber" 46 m_Timber_isDoubtful := ⟨⟨gW_at (i := 830) rfl rfl, gW_at (i := 733) rfl rfl⟩, ⟨gW_at (i := 734) rfl rfl, gW_at (i := 106) rfl rfl⟩, rfl, by decide⟩
set_option maxRecDepth 100000 in
theorem ft_Timber_23 : Cond.fieldLink "RingDater$Timber" 23 (Tc 9 3).1 (Tc 9 3).2.1 (Tc 9 3).2.2.1 ∈ gW := gW_at (i := 166) rfl rfl
set_option maxRecDepth 100000 in
theorem ft_Timber_26 : Cond.fieldLink "RingDater$Timber" 26 (Tc 9 4).1 (Tc 9 4).2.1 (Tc 9 4).2.2.1 ∈ gW := gW_at (i := 169) rfl rfl
set_option maxRecDepth 100000 in
theorem ft_Timber_19 : Cond.fieldLink "RingDater$Timber" 19 (Tc 9 2).1 (Tc 9 2).2.1 (Tc 9 2).2.2.1 ∈ gW := gW_at (i := 162) rfl rfl
set_option maxRecDepth 100000 in
theorem db_wo_0 : decode prog_11_method_17_code 0 = .ok (.aload_n 1, 1) := rfl
set_option maxRecDepth 100000 in
theorem db_wo_1 : decode prog_11_method_17_code 1 = .ok (.iconst 0, 1) := rfl
set_option maxRecDepth 100000 in
theorem db_wo_2 : decode prog_11_method_17_code 2 = .ok (.invokevirtual 58, 3) := rfl
set_option maxRecDepth 100000 in
theorem db_wo_5 : decode prog_11_method_17_code 5 = .ok (.aload_n 1, 1) := rfl
set_option maxRecDepth 100000 in
theorem db_wo_6 : decode prog_11_method_17_code 6 = .ok (.ldc 64, 2) := rfl
set_option maxRecDepth 100000 in
theorem db_wo_8 : decode prog_11_method_17_code 8 = .ok (.invokevirtual 66, 3) := rfl
set_option maxRecDepth 100000 in
theorem db_wo_11 : decode prog_11_method_17_code 11 = .ok (.aload_n 0, 1) := rfl
set_option maxRecDepth 100000 in
theorem db_wo_12 : decode prog_11_method_17_code 12 = .ok (.getfield 23, 3) := rfl
set_option maxRecDepth 100000 in
theorem db_wo_15 : decode prog_11_method_17_code 15 = .ok (.invokevirtual 70, 3) := rfl
set_option maxRecDepth 100000 in
theorem db_wo_18 : decode prog_11_method_17_code 18 = .ok (.bipush 32, 2) := rfl
set_option maxRecDepth 100000 in
theorem db_wo_20 : decode prog_11_method_17_code 20 = .ok (.invokevirtual 73, 3) := rfl
set_option maxRecDepth 100000 in
theorem db_wo_23 : decode prog_11_method_17_code 23 = .ok (.aload_n 0, 1) := rfl
set_option maxRecDepth 100000 in
theorem db_wo_24 : decode prog_11_method_17_code 24 = .ok (.getfield 26, 3) := rfl
set_option maxRecDepth 100000 in
theorem db_wo_27 : decode prog_11_method_17_code 27 = .ok (.invokevirtual 70, 3) := rfl
set_option maxRecDepth 100000 in
theorem db_wo_30 : decode prog_11_method_17_code 30 = .ok (.pop, 1) := rfl
set_option maxRecDepth 100000 in
theorem db_wo_31 : decode prog_11_method_17_code 31 = .ok (.iconst 0, 1) := rfl
set_option maxRecDepth 100000 in
theorem db_wo_32 : decode prog_11_method_17_code 32 = .ok (.istore_n 2, 1) := rfl
set_option maxRecDepth 100000 in
theorem db_wo_33 : decode prog_11_method_17_code 33 = .ok (.iload_n 2, 1) := rfl
set_option maxRecDepth 100000 in
theorem db_wo_34 : decode prog_11_method_17_code 34 = .ok (.aload_n 0, 1) := rfl
set_option maxRecDepth 100000 in
theorem db_wo_35 : decode prog_11_method_17_code 35 = .ok (.getfield 19, 3) := rfl
set_option maxRecDepth 100000 in
theorem db_wo_38 : decode prog_11_method_17_code 38 = .ok (.if_icmp .ge 39, 3) := rfl
set_option maxRecDepth 100000 in
theorem db_wo_41 : decode prog_11_method_17_code 41 = .ok (.aload_n 1, 1) := rfl
set_option maxRecDepth 100000 in
theorem db_wo_42 : decode prog_11_method_17_code 42 = .ok (.bipush 32, 2) := rfl
set_option maxRecDepth 100000 in
theorem db_wo_44 : decode prog_11_method_17_code 44 = .ok (.invokevirtual 73, 3) := rfl
set_option maxRecDepth 100000 in
theorem db_wo_47 : decode prog_11_method_17_code 47 = .ok (.aload_n 0, 1) := rfl
set_option maxRecDepth 100000 in
theorem db_wo_48 : decode prog_11_method_17_code 48 = .ok (.iload_n 2, 1) := rfl
set_option maxRecDepth 100000 in
theorem db_wo_49 : decode prog_11_method_17_code 49 = .ok (.invokevirtual 32, 3) := rfl
set_option maxRecDepth 100000 in
theorem db_wo_52 : decode prog_11_method_17_code 52 = .ok (.invokevirtual 70, 3) := rfl
set_option maxRecDepth 100000 in
theorem db_wo_55 : decode prog_11_method_17_code 55 = .ok (.pop, 1) := rfl
set_option maxRecDepth 100000 in
theorem db_wo_56 : decode prog_11_method_17_code 56 = .ok (.aload_n 0, 1) := rfl
set_option maxRecDepth 100000 in
theorem db_wo_57 : decode prog_11_method_17_code 57 = .ok (.iload_n 2, 1) := rfl
set_option maxRecDepth 100000 in
theorem db_wo_58 : decode prog_11_method_17_code 58 = .ok (.invokevirtual 46, 3) := rfl
set_option maxRecDepth 100000 in
theorem db_wo_61 : decode prog_11_method_17_code 61 = .ok (.ifCond .eq 10, 3) := rfl
set_option maxRecDepth 100000 in
theorem db_wo_64 : decode prog_11_method_17_code 64 = .ok (.aload_n 1, 1) := rfl
set_option maxRecDepth 100000 in
theorem db_wo_65 : decode prog_11_method_17_code 65 = .ok (.bipush 63, 2) := rfl
set_option maxRecDepth 100000 in
theorem db_wo_67 : decode prog_11_method_17_code 67 = .ok (.invokevirtual 73, 3) := rfl
set_option maxRecDepth 100000 in
theorem db_wo_70 : decode prog_11_method_17_code 70 = .ok (.pop, 1) := rfl
set_option maxRecDepth 100000 in
theorem db_wo_71 : decode prog_11_method_17_code 71 = .ok (.iinc 2 1, 3) := rfl
set_option maxRecDepth 100000 in
theorem db_wo_74 : decode prog_11_method_17_code 74 = .ok (.goto (-41), 3) := rfl
set_option maxRecDepth 100000 in
theorem db_wo_77 : decode prog_11_method_17_code 77 = .ok (.aload_n 1, 1) := rfl
set_option maxRecDepth 100000 in
theorem db_wo_78 : decode prog_11_method_17_code 78 = .ok (.bipush 59, 2) := rfl
set_option maxRecDepth 100000 in
theorem db_wo_80 : decode prog_11_method_17_code 80 = .ok (.invokevirtual 73, 3) := rfl
set_option maxRecDepth 100000 in
theorem db_wo_83 : decode prog_11_method_17_code 83 = .ok (.pop, 1) := rfl
set_option maxRecDepth 100000 in
theorem db_wo_84 : decode prog_11_method_17_code 84 = .ok (.return_, 1) := rfl
def WoPost (D : va_G) (tA : Nat → ClassId) (n0 o bs : Nat) (adr : Nat → Nat) (M : Mm) (f : Nat → Int64) (w : List Int) : Array Value → State → Outcome → State → Prop := fun _ st oc t =>
  (oc = .returned none ∧ ∃ x, LHX D tA n0 o bs adr M f x t.heap ∧ isTx x w) ∧ va_F (fun q => n0 ≤ q) st t
def WoPre (D : va_G) (tA : Nat → ClassId) (n0 o bs : Nat) (adr adV : Nat → Nat) (M : Mm) (f : Nat → Int64) (U : State) : Prop := LSt D tA n0 adr adV U U.heap ∧ LH D tA n0 o bs adr M f U.heap
def woR : Room := { frames := 60, cells := 90, slots := 11900, locals := 6000 }
def woW : List Cond := Cond.code yb_wo prog_11_method_17_code 3 none :: gW
section WO
variable {D : va_G} {tA : Nat → ClassId} {n0 o bs : Nat} {adr adV : Nat → Nat} {M : Mm} {f : Nat → Int64} {ot : Nat}
variable {p : Program} {l : Launch} {e : Env} {s : State} {m : MethodId} {args : Array Value} {below : List Frame} {meth : Method} {c : Code}
theorem wid_A {r : Nat} (h : (r : Int) < M ot 2) (h24 : M ot 2 ≤ 24) : vWid M ot r = (tRw M ot).1 r ∧ vDou M ot r = (tRw M ot).2.2 r := by
  constructor
  · show (if 0 ≤ (r : Int) ∧ (r : Int) < M ot 2 ∧ (r : Int) < 24 then M (ot + 1) (r : Int).toNat else 0) = (if (r : Int) < M ot 2 then M (ot + 1) r else 0)
    rw [if_pos ⟨by omega, h, by omega⟩, if_pos h, Int.toNat_natCast]
  · show (if 0 ≤ (r : Int) ∧ (r : Int) < M ot 2 ∧ (r : Int) < 24 then M (ot + 2) (r : Int).toNat else 0) = (if (r : Int) < M ot 2 then M (ot + 2) r else 0)
    rw [if_pos ⟨by omega, h, by omega⟩, if_pos h, Int.toNat_natCast]
set_option maxHeartbeats 4000000 in
set_option maxRecDepth 100000 in
theorem wo_loop (ho : isTim ot) (hm : LM n0 o bs adr) (hw : wfT M ot) (X : BX p s m args c "RingDater$Timber" 3 prog_11_method_17_code) (hs : LSt D tA n0 adr adV s s.heap) (hret : meth.sig.returnType = none) (hlk : meth.locks = false) (w0 : List Int) (hW : w0.length ≤ 12) :
    ∀ (k r : Nat) (x : BS) (H : Heap) (locs : List Loc) (cells slots : Nat) (ls : Array Slot), r + k = (M ot 2).toNat → LHX D tA n0 o bs adr M f x H → LV n0 s H locs → isTx x (w0 ++ rgW (tRw M ot) r) → lv_has ls 3 [(2, .int (iN (r : Int))), (0, .ref (adr ot)), (1, .ref bs)] → cells ≤ 10 + 3 * r → slots ≤ 1420 + 426 * r →
      W p l e woR s m args below meth c H locs cells slots (MQ below (WoPost D tA n0 o bs adr M f (w0 ++ rgW (tRw M ot) (M ot 2).toNat ++ [59])) args s 90 11900 (fun q => n0 ≤ q)) (F0 m 33 ls []) := by
  have h24 := hw.1.2
  have h0 := hw.1.1
  intro k
  induction k with
  | zero =>
    intro r x H locs cells slots ls hk hh hS hx hl hc hsl
    have hr : (r : Int) = M ot 2 := by omega
    have hlen := rgW_len (tRw M ot) r
    have hxl := hx.1
    rw [List.length_append] at hxl
    refine lv_iload_n (i := 2) (x := iN (r : Int)) X.1 X.2.1 db_wo_33 rfl (lv_at hl 0 rfl) ?_
    refine lv_aload_n (i := 0) (x := adr ot) X.1 X.2.1 db_wo_34 rfl (lv_at hl 1 rfl) ?_
    refine t_get (k := 2) (r := none) X hs hh ho.1 (by decide) (by decide) rfl ft_Timber_19 db_wo_35 ?_
    show W p l e woR s m args below meth c H locs cells slots _ (F0 m 38 ls [.int (iN (M ot 2)), .int (iN (r : Int))])
    rw [hr]
    refine lv_icmp_ge (tgt := 77) X.1 X.2.1 db_wo_38 (by decide) (fun _ => ?_) (fun h => absurd (Int32.le_refl _) h)
    refine lv_aload_n (i := 1) (x := bs) X.1 X.2.1 db_wo_77 rfl (lv_at hl 2 rfl) ?_
    refine lv_bipush (v := iN 59) X.1 X.2.1 db_wo_78 (by decide) ?_
    refine t_bcall (As := [.int (iN 59)]) (rest := []) X hm hs hh hS (b_appC (a := 59) (by omega) (by omega)) (by omega) wb_25 rfl rfl hl.1 ⟨by decide, by decide⟩ ⟨by show cells + 1 ≤ 90; omega, by show slots + 142 ≤ 11900; omega⟩ (by simp) rfl db_wo_80 (fun v x1 H1 lc1 hv hh1 hS1 => ?_)
    obtain ⟨rfl, hv⟩ := hv
    refine lv_pop (va := .ref bs) X.1 X.2.1 db_wo_83 rfl ?_
    have hr2 : (M ot 2).toNat = r := by omega
    rw [hr2]
    exact W.widen (by omega) (by omega) (W.vret X.1 X.2.1 hret (fun t ht _ => ⟨⟨rfl, x1, by rw [ht]; exact hh1, isTx_app hx hv⟩, va_S.F hS1 ht⟩) hS1.2.2 db_wo_84 hlk)
  | succ k ih =>
    intro r x H locs cells slots ls hk hh hS hx hl hc hsl
    have hr : (r : Int) < M ot 2 := by omega
    have hlen := rgW_len (tRw M ot) r
    have hxl := hx.1
    rw [List.length_append] at hxl
    obtain ⟨eW, eD⟩ := wid_A (M := M) (ot := ot) hr h24
    obtain ⟨q1, q2⟩ := hw.2.1 r (by omega)
    have e1 : (tRw M ot).1 r = M (ot + 1) r := by
      show (if (r : Int) < M ot 2 then M (ot + 1) r else 0) = _
      rw [if_pos hr]
    refine lv_iload_n (i := 2) (x := iN (r : Int)) X.1 X.2.1 db_wo_33 rfl (lv_at hl 0 rfl) ?_
    refine lv_aload_n (i := 0) (x := adr ot) X.1 X.2.1 db_wo_34 rfl (lv_at hl 1 rfl) ?_
    refine t_get (k := 2) (r := none) X hs hh ho.1 (by decide) (by decide) rfl ft_Timber_19 db_wo_35 ?_
    show W p l e woR s m args below meth c H locs cells slots _ (F0 m 38 ls [.int (iN (M ot 2)), .int (iN (r : Int))])
    refine lv_icmp_ge (tgt := 77) X.1 X.2.1 db_wo_38 (by decide) (fun h => absurd ((iN_le (x := M ot 2) (y := (r : Int)) ⟨by omega, by omega⟩ ⟨by omega, by omega⟩).mp h) (by omega)) (fun _ => ?_)
    refine lv_aload_n (i := 1) (x := bs) X.1 X.2.1 db_wo_41 rfl (lv_at hl 2 rfl) ?_
    refine lv_bipush (v := iN 32) X.1 X.2.1 db_wo_42 (by decide) ?_
    refine t_bcall (As := [.int (iN 32)]) (rest := []) X hm hs hh hS (b_appC (a := 32) (by omega) (by omega)) (by omega) wb_25 rfl rfl hl.1 ⟨by decide, by decide⟩ ⟨by show cells + 1 ≤ 90; omega, by show slots + 142 ≤ 11900; omega⟩ (by simp) rfl db_wo_44 (fun v x1 H1 lc1 hv hh1 hS1 => ?_)
    obtain ⟨rfl, hv⟩ := hv
    have hx1 := isTx_app hx hv
    have hxl1 := hx1.1
    rw [List.length_append, List.length_append] at hxl1
    refine lv_aload_n (i := 0) (x := adr ot) X.1 X.2.1 db_wo_47 rfl (lv_at hl 1 rfl) ?_
    refine lv_iload_n (i := 2) (x := iN (r : Int)) X.1 X.2.1 db_wo_48 rfl (lv_at hl 0 rfl) ?_
    refine t_call (q := m_Timber_widthOf) (b := ot) (As := [.inl (r : Int)]) (rest := [.ref bs]) X lwo_0 hm hs hh1 hS1 hl.1 (by rw [ho.1]; rfl) rfl ⟨by decide +kernel, by decide +kernel⟩ ⟨by show cells + 1 ≤ 90; omega, by show slots + 142 ≤ 11900; omega⟩ (by simp [Value.category]) rfl db_wo_49 (Timber_widthOf_ok ho ⟨by omega, by omega⟩ hw) (fun v M2 H2 lc2 hv hh2 hS2 => ?_)
    obtain ⟨y, rfl, rfl, rfl⟩ := hv
    rw [eW] at *
    refine t_bcall (As := [.int (iN ((tRw M2 ot).1 r))]) (rest := []) X hm hs hh2 hS2 (b_appI (a := (tRw M2 ot).1 r) (by omega) (by omega)) (by simp at hxl1; omega) wb_24 rfl rfl hl.1 ⟨by decide, by decide⟩ ⟨by show cells + 1 + 1 ≤ 90; omega, by show slots + 142 + 142 ≤ 11900; omega⟩ (by simp) rfl db_wo_52 (fun v x3 H3 lc3 hv3 hh3 hS3 => ?_)
    obtain ⟨rfl, hv3⟩ := hv3
    have hx3 := isTx_num hx1 hv3
    have hxl3 := hx3.1
    have dl := (dgW_len ((tRw M2 ot).1 r)).2
    rw [List.length_append, List.length_append, List.length_append] at hxl3
    refine lv_pop (va := .ref bs) X.1 X.2.1 db_wo_55 rfl ?_
    refine lv_aload_n (i := 0) (x := adr ot) X.1 X.2.1 db_wo_56 rfl (lv_at hl 1 rfl) ?_
    refine lv_iload_n (i := 2) (x := iN (r : Int)) X.1 X.2.1 db_wo_57 rfl (lv_at hl 0 rfl) ?_
    refine t_call (q := m_Timber_isDoubtful) (b := ot) (As := [.inl (r : Int)]) (rest := []) X lwo_1 hm hs hh3 hS3 hl.1 (by rw [ho.1]; rfl) rfl ⟨by decide +kernel, by decide +kernel⟩ ⟨by show cells + 1 + 1 ≤ 90; omega, by show slots + 142 + 142 ≤ 11900; omega⟩ (by simp) rfl db_wo_58 (Timber_isDoubtful_ok ho ⟨by omega, by omega⟩ hw) (fun v M4 H4 lc4 hv hh4 hS4 => ?_)
    obtain ⟨y, rfl, rfl, rfl⟩ := hv
    rw [eD]
    have ed : (tRw M4 ot).2.2 r = 0 ∨ (tRw M4 ot).2.2 r = 1 := by
      show (if (r : Int) < M4 ot 2 then M4 (ot + 2) r else 0) = 0 ∨ (if (r : Int) < M4 ot 2 then M4 (ot + 2) r else 0) = 1
      rw [if_pos hr]
      exact hw.2.2.1 r (by omega)
    have es : rgW (tRw M4 ot) (r + 1) = rgW (tRw M4 ot) r ++ (32 :: dgW ((tRw M4 ot).1 r) ++ (if (tRw M4 ot).2.2 r = 0 then [] else [63])) := rfl
    suffices G : ∀ (x5 : BS) (H5 : Heap) (lc5 : List Loc), LHX D tA n0 o bs adr M4 f x5 H5 → LV n0 s H5 lc5 → isTx x5 (w0 ++ rgW (tRw M4 ot) (r + 1)) → W p l e woR s m args below meth c H5 lc5 (cells + 1 + 1 + 1) (slots + 142 + 142 + 142) (MQ below (WoPost D tA n0 o bs adr M4 f (w0 ++ rgW (tRw M4 ot) (M4 ot 2).toNat ++ [59])) args s 90 11900 (fun q => n0 ≤ q)) (F0 m 71 ls []) by
      show W p l e woR s m args below meth c H4 lc4 (cells + 1 + 1) (slots + 142 + 142) _ (F0 m 61 ls [.int (iN ((tRw M4 ot).2.2 r))])
      refine lv_if_eq (tgt := 71) X.1 X.2.1 db_wo_61 (by decide) (fun z => ?_) (fun z => ?_)
      · have z0 : (tRw M4 ot).2.2 r = 0 := (iN_eq (by rcases ed with h | h <;> rw [h] <;> exact ⟨by omega, by omega⟩) inR_0).mp z
        refine W.widen (by omega) (by omega) (G x3 H4 lc4 hh4 hS4 ?_)
        rw [es, if_pos z0]
        simpa [List.append_assoc] using hx3
      · have z0 : ¬ (tRw M4 ot).2.2 r = 0 := fun h => z (by rw [h]; rfl)
        refine lv_aload_n (i := 1) (x := bs) X.1 X.2.1 db_wo_64 rfl (lv_at hl 2 rfl) ?_
        refine lv_bipush (v := iN 63) X.1 X.2.1 db_wo_65 (by decide) ?_
        refine t_bcall (As := [.int (iN 63)]) (rest := []) X hm hs hh4 hS4 (b_appC (a := 63) (by omega) (by omega)) (by simp at hxl3; omega) wb_25 rfl rfl hl.1 ⟨by decide, by decide⟩ ⟨by show cells + 1 + 1 + 1 ≤ 90; omega, by show slots + 142 + 142 + 142 ≤ 11900; omega⟩ (by simp) rfl db_wo_67 (fun v x5 H5 lc5 hv5 hh5 hS5 => ?_)
        obtain ⟨rfl, hv5⟩ := hv5
        refine lv_pop (va := .ref bs) X.1 X.2.1 db_wo_70 rfl ?_
        refine G x5 H5 lc5 hh5 hS5 ?_
        rw [es, if_neg z0]
        simpa [List.append_assoc] using isTx_app hx3 hv5
    intro x5 H5 lc5 hh5 hS5 hx5
    refine lv_iinc (k := 0) (x := iN (r : Int)) (v := iN ((r + 1 : Nat) : Int)) (lv' := [(2, .int (iN ((r + 1 : Nat) : Int))), (0, .ref (adr ot)), (1, .ref bs)]) X.1 X.2.1 db_wo_71 hl rfl (iN_add _ _) (by decide) rfl (fun ls2 hl2 => ?_)
    refine lv_goto (tgt := 33) X.1 X.2.1 db_wo_74 (by decide) ?_
    exact ih (r + 1) x5 H5 lc5 _ _ ls2 (by omega) hh5 hS5 hx5 hl2 (by omega) (by omega)
set_option maxHeartbeats 4000000 in
set_option maxRecDepth 100000 in
theorem writeOn_ok (ho : isTim ot) (hm : LM n0 o bs adr) (hw : wfT M ot) : Met l yb_wo woW woR (va_Pc [.ref (adr ot), .ref bs] (WoPre D tA n0 o bs adr adV M f)) (WoPost D tA n0 o bs adr M f (txW (M ot 3) (M ot 4) (tRw M ot))) 90 11900 (fun q => n0 ≤ q) := by
  refine Met.ofW (cc := prog_11_method_17_code) (maxL := 3) (ret := none) (by decide) rfl ?_
  intro p e s m args below meth c s₁ B hml hv
  obtain ⟨rfl, hs, hh⟩ := hv
  obtain ⟨x, hh⟩ := hh.ex
  have hts := atoms_spec (ws := woW) B.pre
  have hown : s.vm.findClass "RingDater$Timber" = some m.cls := findClass_of_methodNamed B.named
  rw [lg_entry_eq]
  have hl := lv_entry ([.ref (adr ot), .ref bs] : List Value) (n := 3) (by simp [lg_sl, Value.category])
  generalize (lg_sl ([.ref (adr ot), .ref bs] : List Value) ++ List.replicate (3 - (lg_sl ([.ref (adr ot), .ref bs] : List Value)).length) Slot.unset).toArray = ls at hl ⊢
  have hl : lv_has ls 3 [(0, .ref (adr ot)), (1, .ref bs)] := hl
  have X : BX p s m #[.ref (adr ot), .ref bs] c "RingDater$Timber" 3 prog_11_method_17_code := ⟨B.exec, B.bytes, hml, hown, fun w hw => hts w (List.mem_cons_of_mem _ hw)⟩
  have hS : LV n0 s s.heap [] := va_S.rf
  have hret := B.returns
  have hlk := B.notSynchronized
  obtain ⟨⟨r0, r1⟩, -, -, ⟨l0, l1⟩, ⟨m0, m1⟩, -⟩ := id hw
  refine lv_aload_n (i := 1) (x := bs) X.1 X.2.1 db_wo_0 rfl (lv_at hl 1 rfl) ?_
  refine lv_iconst (v := iN 0) X.1 X.2.1 db_wo_1 (by decide) ?_
  refine t_bcall (As := [.int (iN 0)]) (rest := []) X hm hs hh hS b_setL trivial wb_22 rfl rfl hl.1 ⟨by decide, by decide⟩ ⟨by decide, by decide⟩ (by simp) rfl db_wo_2 (fun v x1 H1 lc1 hv1 hh1 hS1 => ?_)
  obtain ⟨rfl, hv1⟩ := hv1
  refine lv_aload_n (i := 1) (x := bs) X.1 X.2.1 db_wo_5 rfl (lv_at hl 1 rfl) ?_
  refine va_ldcS X.1 X.2.1 X.2.2.2.1 (hs.2.2.1.1 9 (64, "timber ", 6) (by decide)) db_wo_6 ?_
  refine t_bcall (As := [.ref (adr (NN + 6))]) (rest := []) X hm hs hh1 hS1 b_appS hv1 wb_23 rfl rfl hl.1 ⟨by decide, by decide⟩ ⟨by decide, by decide⟩ (by simp) rfl db_wo_8 (fun v x2 H2 lc2 hv2 hh2 hS2 => ?_)
  obtain ⟨rfl, hv2⟩ := hv2
  have hx2 := isTx_tb hv2
  refine lv_aload_n (i := 0) (x := adr ot) X.1 X.2.1 db_wo_11 rfl (lv_at hl 0 rfl) ?_
  refine t_get (k := 3) (r := none) X hs hh2 ho.1 (by decide) (by decide) rfl ft_Timber_23 db_wo_12 ?_
  refine t_bcall (As := [.int (iN (M ot 3))]) (rest := []) X hm hs hh2 hS2 (b_appI (a := M ot 3) l0 (by omega)) (by have := hx2.1; have e : tbW.length = 7 := rfl; omega) wb_24 rfl rfl hl.1 ⟨by decide, by decide⟩ ⟨by decide, by decide⟩ (by simp) rfl db_wo_15 (fun v x3 H3 lc3 hv3 hh3 hS3 => ?_)
  obtain ⟨rfl, hv3⟩ := hv3
  have hx3 := isTx_num hx2 hv3
  have d1 := (dgW_len (M ot 3)).2
  have d2 := (dgW_len (M ot 4)).2
  have e7 : tbW.length = 7 := rfl
  refine lv_bipush (v := iN 32) X.1 X.2.1 db_wo_18 (by decide) ?_
  refine t_bcall (As := [.int (iN 32)]) (rest := []) X hm hs hh3 hS3 (b_appC (a := 32) (by omega) (by omega)) (by have := hx3.1; rw [List.length_append] at this; omega) wb_25 rfl rfl hl.1 ⟨by decide, by decide⟩ ⟨by decide, by decide⟩ (by simp) rfl db_wo_20 (fun v x4 H4 lc4 hv4 hh4 hS4 => ?_)
  obtain ⟨rfl, hv4⟩ := hv4
  have hx4 := isTx_app hx3 hv4
  refine lv_aload_n (i := 0) (x := adr ot) X.1 X.2.1 db_wo_23 rfl (lv_at hl 0 rfl) ?_
  refine t_get (k := 4) (r := none) X hs hh4 ho.1 (by decide) (by decide) rfl ft_Timber_26 db_wo_24 ?_
  refine t_bcall (As := [.int (iN (M ot 4))]) (rest := []) X hm hs hh4 hS4 (b_appI (a := M ot 4) m0 (by omega)) (by have := hx4.1; rw [List.length_append, List.length_append] at this; simp at this; omega) wb_24 rfl rfl hl.1 ⟨by decide, by decide⟩ ⟨by decide, by decide⟩ (by simp) rfl db_wo_27 (fun v x5 H5 lc5 hv5 hh5 hS5 => ?_)
  obtain ⟨rfl, hv5⟩ := hv5
  have hx5 := isTx_num hx4 hv5
  refine lv_pop (va := .ref bs) X.1 X.2.1 db_wo_30 rfl ?_
  refine lv_iconst (v := iN 0) X.1 X.2.1 db_wo_31 (by decide) ?_
  refine lv_istore_n (i := 2) (lv' := [(2, .int (iN 0)), (0, .ref (adr ot)), (1, .ref bs)]) X.1 X.2.1 db_wo_32 rfl hl (by decide) rfl (fun ls2 hl2 => ?_)
  have e : txW (M ot 3) (M ot 4) (tRw M ot) = (tbW ++ dgW (M ot 3) ++ [32] ++ dgW (M ot 4)) ++ rgW (tRw M ot) (M ot 2).toNat ++ [59] := by
    unfold txW
    rw [show tbW = tW0 ++ [32] from rfl]
    simp [List.append_assoc]
    rfl
  rw [e]
  exact wo_loop ho hm hw X hs hret hlk (tbW ++ dgW (M ot 3) ++ [32] ++ dgW (M ot 4)) (by simp only [List.length_append, List.length_cons, List.length_nil]; omega) (M ot 2).toNat 0 x5 H5 lc5 _ _ ls2 (by omega) hh5 hS5 (by simpa [rgW] using hx5) hl2 (by decide) (by decide)
end WO
