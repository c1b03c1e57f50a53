/-! THE BUILDER, 4: signs put behind (printed by wip/whole/g7b.py). -/
theorem i2b_id {a : Int} (h0 : 0 ≤ a) (h1 : a ≤ 127) : (iN a).toInt8.toInt32 = iN a := by
  obtain ⟨n, rfl⟩ : ∃ n : Nat, a = n := ⟨a.toNat, by omega⟩
  have hn : n < 128 := by omega
  exact (show ∀ n : Nat, n < 128 → (iN (n : Int)).toInt8.toInt32 = iN (n : Int) by decide +kernel) n hn
theorem tset_eq {T : Nat → Int} {k : Nat} {v : Int} : tset T k v k = v := if_pos rfl
theorem tset_ne {T : Nat → Int} {k j : Nat} {v : Int} (h : j ≠ k) : tset T k v j = T j := if_neg h
section B2
variable {bs : Nat}
def yb_ac : MethodName := ⟨"java/lang/AbstractStringBuilder", "append", "(C)Ljava/lang/AbstractStringBuilder;"⟩
set_option maxRecDepth 100000 in
theorem db_ac_0 : decode prog_16_method_31_code 0 = .ok (.aload_n 0, 1) := rfl
set_option maxRecDepth 100000 in
theorem db_ac_1 : decode prog_16_method_31_code 1 = .ok (.aload_n 0, 1) := rfl
set_option maxRecDepth 100000 in
theorem db_ac_2 : decode prog_16_method_31_code 2 = .ok (.getfield 79, 3) := rfl
set_option maxRecDepth 100000 in
theorem db_ac_5 : decode prog_16_method_31_code 5 = .ok (.iconst 1, 1) := rfl
set_option maxRecDepth 100000 in
theorem db_ac_6 : decode prog_16_method_31_code 6 = .ok (.iadd, 1) := rfl
set_option maxRecDepth 100000 in
theorem db_ac_7 : decode prog_16_method_31_code 7 = .ok (.invokevirtual 100, 3) := rfl
set_option maxRecDepth 100000 in
theorem db_ac_10 : decode prog_16_method_31_code 10 = .ok (.aload_n 0, 1) := rfl
set_option maxRecDepth 100000 in
theorem wb_4 : BWd 0 "java/lang/AbstractStringBuilder" 83 yb_lat prog_16_method_68_code 1 (some .boolean) RJ4 0 := ⟨⟨⟨gW_at (i := 1457) rfl rfl, gW_at (i := 114) rfl rfl, gW_at (i := 1461) rfl rfl⟩, ⟨by decide, by decide, rfl⟩, by decide⟩, gW_at (i := 1458) rfl rfl, gW_at (i := 1460) rfl rfl⟩
set_option maxRecDepth 100000 in
theorem db_ac_11 : decode prog_16_method_31_code 11 = .ok (.invokevirtual 83, 3) := rfl
set_option maxRecDepth 100000 in
theorem db_ac_14 : decode prog_16_method_31_code 14 = .ok (.ifCond .eq 31, 3) := rfl
set_option maxRecDepth 100000 in
theorem db_ac_17 : decode prog_16_method_31_code 17 = .ok (.iload_n 1, 1) := rfl
set_option maxRecDepth 100000 in
theorem wb_5 : BWd 1 "java/lang/AbstractStringBuilder" 191 yb_ce prog_29_method_3_code 1 (some .boolean) "java/lang/AbstractStringBuilder" 1 := ⟨⟨⟨gW_at (i := 1647) rfl rfl, gW_at (i := 125) rfl rfl, gW_at (i := 1649) rfl rfl⟩, ⟨by decide, by decide, rfl⟩, by decide⟩, gW_at (i := 1648) rfl rfl⟩
set_option maxRecDepth 100000 in
theorem db_ac_18 : decode prog_16_method_31_code 18 = .ok (.invokestatic 191, 3) := rfl
set_option maxRecDepth 100000 in
theorem db_ac_21 : decode prog_16_method_31_code 21 = .ok (.ifCond .eq 24, 3) := rfl
set_option maxRecDepth 100000 in
theorem db_ac_24 : decode prog_16_method_31_code 24 = .ok (.aload_n 0, 1) := rfl
set_option maxRecDepth 100000 in
theorem db_ac_25 : decode prog_16_method_31_code 25 = .ok (.getfield 15, 3) := rfl
set_option maxRecDepth 100000 in
theorem db_ac_28 : decode prog_16_method_31_code 28 = .ok (.aload_n 0, 1) := rfl
set_option maxRecDepth 100000 in
theorem db_ac_29 : decode prog_16_method_31_code 29 = .ok (.dup, 1) := rfl
set_option maxRecDepth 100000 in
theorem db_ac_30 : decode prog_16_method_31_code 30 = .ok (.getfield 79, 3) := rfl
set_option maxRecDepth 100000 in
theorem db_ac_33 : decode prog_16_method_31_code 33 = .ok (.dup_x1, 1) := rfl
set_option maxRecDepth 100000 in
theorem db_ac_34 : decode prog_16_method_31_code 34 = .ok (.iconst 1, 1) := rfl
set_option maxRecDepth 100000 in
theorem db_ac_35 : decode prog_16_method_31_code 35 = .ok (.iadd, 1) := rfl
set_option maxRecDepth 100000 in
theorem db_ac_36 : decode prog_16_method_31_code 36 = .ok (.putfield 79, 3) := rfl
set_option maxRecDepth 100000 in
theorem db_ac_39 : decode prog_16_method_31_code 39 = .ok (.iload_n 1, 1) := rfl
set_option maxRecDepth 100000 in
theorem db_ac_40 : decode prog_16_method_31_code 40 = .ok (.i2b, 1) := rfl
set_option maxRecDepth 100000 in
theorem db_ac_41 : decode prog_16_method_31_code 41 = .ok (.bastore, 1) := rfl
set_option maxRecDepth 100000 in
theorem db_ac_42 : decode prog_16_method_31_code 42 = .ok (.goto 33, 3) := rfl
set_option maxRecDepth 100000 in
theorem db_ac_75 : decode prog_16_method_31_code 75 = .ok (.aload_n 0, 1) := rfl
set_option maxRecDepth 100000 in
theorem db_ac_76 : decode prog_16_method_31_code 76 = .ok (.areturn, 1) := rfl
set_option maxHeartbeats 4000000 in
set_option maxRecDepth 100000 in
theorem b_appC0 {a : Int} (h0 : 0 ≤ a) (h1 : a ≤ 127) : BC yb_ac prog_16_method_31_code 2 (some (.object "java/lang/AbstractStringBuilder")) 6 600 1 142 bs (fun x adr => [.ref bs, .int (iN a)]) (fun x => xN x ≤ 141) (fun x v x' => v = some (.ref bs) ∧ xN x' = xN x + 1 ∧ (∀ j, j < xN x → xT x' j = xT x j) ∧ xT x' (xN x) = a) := by
  refine bc_of (by decide) rfl (fun _ _ => by simp [lg_sl, Value.category]) ?_
  intro p l e s m args below meth c D tA n0 adr adV sz x ls hP X hz g hret hlk hl
  have hl : lv_has ls 2 [(0, .ref bs), (1, .int (iN a))] := hl
  have hN0 := g.2.2.1.2.1
  refine lv_aload_n (i := 0) (x := bs) X.1 X.2.1 db_ac_0 rfl (lv_at hl 0 rfl) ?_
  refine lv_aload_n (i := 0) (x := bs) X.1 X.2.1 db_ac_1 rfl (lv_at hl 0 rfl) ?_
  refine b_get (k := 3) X hz g (by decide) fb_1 rfl db_ac_2 ?_
  refine lv_iconst (v := iN 1) X.1 X.2.1 db_ac_5 (by decide) ?_
  refine lv_iadd X.1 X.2.1 db_ac_6 ?_
  rw [iN_add]
  refine b_callP (As := [.int (iN ((xN x : Int) + 1))]) (rest := []) X hz g (b_ensure (by omega) (by omega)) (by omega) wb_3 rfl rfl hl.1 ⟨by decide, by decide⟩ ⟨by decide, by decide⟩ (by simp [Value.category]) rfl db_ac_7 (fun v x1 H1 lc1 hv1 g1 => ?_)
  obtain ⟨rfl, hv2, hv3, hv4⟩ := hv1
  refine lv_aload_n (i := 0) (x := bs) X.1 X.2.1 db_ac_10 rfl (lv_at hl 0 rfl) ?_
  refine b_callV (As := []) (rest := []) X hz g1 (b_latin) trivial wb_4 rfl rfl (b_recv hz g1) hl.1 ⟨by decide, by decide⟩ ⟨by decide, by decide⟩ (by simp [Value.category]) rfl db_ac_11 (fun v x2 H2 lc2 hv2 g2 => ?_)
  obtain ⟨rfl, rfl⟩ := hv2
  refine lv_if_eq (tgt := 45) X.1 X.2.1 db_ac_14 (by decide) (fun h => absurd h (by decide)) (fun _ => ?_)
  refine lv_iload_n (i := 1) (x := iN a) X.1 X.2.1 db_ac_17 rfl (lv_at hl 1 rfl) ?_
  refine b_callS (As := [.int (iN a)]) (rest := []) X hz g2 (b_canEncode h0 h1) trivial wb_5 rfl rfl hl.1 ⟨by decide, by decide⟩ ⟨by decide, by decide⟩ (by simp [Value.category]) rfl db_ac_18 (fun v x3 H3 lc3 hv3 g3 => ?_)
  obtain ⟨rfl, rfl⟩ := hv3
  refine lv_if_eq (tgt := 45) X.1 X.2.1 db_ac_21 (by decide) (fun h => absurd h (by decide)) (fun _ => ?_)
  refine lv_aload_n (i := 0) (x := bs) X.1 X.2.1 db_ac_24 rfl (lv_at hl 0 rfl) ?_
  refine b_get (k := 0) X hz g3 (by decide) fb_2 rfl db_ac_25 ?_
  refine lv_aload_n (i := 0) (x := bs) X.1 X.2.1 db_ac_28 rfl (lv_at hl 0 rfl) ?_
  refine lv_dup X.1 X.2.1 db_ac_29 rfl ?_
  refine b_get (k := 3) X hz g3 (by decide) fb_1 rfl db_ac_30 ?_
  refine lv_dup_x1 X.1 X.2.1 db_ac_33 rfl rfl ?_
  refine lv_iconst (v := iN 1) X.1 X.2.1 db_ac_34 (by decide) ?_
  refine lv_iadd X.1 X.2.1 db_ac_35 ?_
  rw [iN_add]
  have hN3 := g3.2.2.1.2.1
  refine b_put (k := 3) (ty := .int) (x' := (xB x3, xC x3, xN x3 + 1, xM x3, xT x3)) X hz g3 (by decide) fb_1 rfl rfl (vp_nar_int _) rfl db_ac_36 ⟨g3.2.2.1.1, by show xN x3 + 1 ≤ xC x3; omega, g3.2.2.1.2.2⟩ rfl rfl rfl (fun H4 lc4 g4 => ?_)
  refine lv_iload_n (i := 1) (x := iN a) X.1 X.2.1 db_ac_39 rfl (lv_at hl 1 rfl) ?_
  refine lv_i2b X.1 X.2.1 db_ac_40 (i2b_id h0 h1) ?_
  refine b_ast (x := (xB x3, xC x3, xN x3 + 1, xM x3, xT x3)) X hz g4 (by omega) (by show ((xN x3 : Nat) : Int) < (xC x3 : Int); omega) h0 h1 db_ac_41 (fun H5 lc5 g5 => ?_)
  refine lv_goto (tgt := 75) X.1 X.2.1 db_ac_42 (by decide) ?_
  refine lv_aload_n (i := 0) (x := bs) X.1 X.2.1 db_ac_75 rfl (lv_at hl 0 rfl) ?_
  exact b_aret X hret hlk g5 ⟨rfl, by show xN x3 + 1 = _; omega, fun j hj => (tset_ne (by omega)).trans (hv4 j (by omega)), by rw [← hv3]; exact tset_eq⟩ (by omega) (by omega) db_ac_76
def yb_ss : MethodName := ⟨"java/lang/Integer", "stringSize", "(I)I"⟩
set_option maxRecDepth 100000 in
theorem db_ss_0 : decode prog_23_method_13_code 0 = .ok (.iconst 1, 1) := rfl
set_option maxRecDepth 100000 in
theorem db_ss_1 : decode prog_23_method_13_code 1 = .ok (.istore_n 1, 1) := rfl
set_option maxRecDepth 100000 in
theorem db_ss_2 : decode prog_23_method_13_code 2 = .ok (.iload_n 0, 1) := rfl
set_option maxRecDepth 100000 in
theorem db_ss_3 : decode prog_23_method_13_code 3 = .ok (.ifCond .lt 8, 3) := rfl
set_option maxRecDepth 100000 in
theorem db_ss_6 : decode prog_23_method_13_code 6 = .ok (.iconst 0, 1) := rfl
set_option maxRecDepth 100000 in
theorem db_ss_7 : decode prog_23_method_13_code 7 = .ok (.istore_n 1, 1) := rfl
set_option maxRecDepth 100000 in
theorem db_ss_8 : decode prog_23_method_13_code 8 = .ok (.iload_n 0, 1) := rfl
set_option maxRecDepth 100000 in
theorem db_ss_9 : decode prog_23_method_13_code 9 = .ok (.ineg, 1) := rfl
set_option maxRecDepth 100000 in
theorem db_ss_10 : decode prog_23_method_13_code 10 = .ok (.istore_n 0, 1) := rfl
set_option maxRecDepth 100000 in
theorem db_ss_11 : decode prog_23_method_13_code 11 = .ok (.bipush (-10), 2) := rfl
set_option maxRecDepth 100000 in
theorem db_ss_13 : decode prog_23_method_13_code 13 = .ok (.istore_n 2, 1) := rfl
set_option maxRecDepth 100000 in
theorem db_ss_14 : decode prog_23_method_13_code 14 = .ok (.iconst 1, 1) := rfl
set_option maxRecDepth 100000 in
theorem db_ss_15 : decode prog_23_method_13_code 15 = .ok (.istore_n 3, 1) := rfl
set_option maxRecDepth 100000 in
theorem db_ss_16 : decode prog_23_method_13_code 16 = .ok (.iload_n 3, 1) := rfl
set_option maxRecDepth 100000 in
theorem db_ss_17 : decode prog_23_method_13_code 17 = .ok (.bipush 10, 2) := rfl
set_option maxRecDepth 100000 in
theorem db_ss_19 : decode prog_23_method_13_code 19 = .ok (.if_icmp .ge 23, 3) := rfl
set_option maxRecDepth 100000 in
theorem db_ss_22 : decode prog_23_method_13_code 22 = .ok (.iload_n 0, 1) := rfl
set_option maxRecDepth 100000 in
theorem db_ss_23 : decode prog_23_method_13_code 23 = .ok (.iload_n 2, 1) := rfl
set_option maxRecDepth 100000 in
theorem db_ss_24 : decode prog_23_method_13_code 24 = .ok (.if_icmp .le 7, 3) := rfl
set_option maxRecDepth 100000 in
theorem db_ss_31 : decode prog_23_method_13_code 31 = .ok (.bipush 10, 2) := rfl
set_option maxRecDepth 100000 in
theorem db_ss_33 : decode prog_23_method_13_code 33 = .ok (.iload_n 2, 1) := rfl
set_option maxRecDepth 100000 in
theorem db_ss_34 : decode prog_23_method_13_code 34 = .ok (.imul, 1) := rfl
set_option maxRecDepth 100000 in
theorem db_ss_35 : decode prog_23_method_13_code 35 = .ok (.istore_n 2, 1) := rfl
set_option maxRecDepth 100000 in
theorem db_ss_36 : decode prog_23_method_13_code 36 = .ok (.iinc 3 1, 3) := rfl
set_option maxRecDepth 100000 in
theorem db_ss_39 : decode prog_23_method_13_code 39 = .ok (.goto (-23), 3) := rfl
set_option maxRecDepth 100000 in
theorem db_ss_27 : decode prog_23_method_13_code 27 = .ok (.iload_n 3, 1) := rfl
set_option maxRecDepth 100000 in
theorem db_ss_28 : decode prog_23_method_13_code 28 = .ok (.iload_n 1, 1) := rfl
set_option maxRecDepth 100000 in
theorem db_ss_29 : decode prog_23_method_13_code 29 = .ok (.iadd, 1) := rfl
set_option maxRecDepth 100000 in
theorem db_ss_30 : decode prog_23_method_13_code 30 = .ok (.ireturn, 1) := rfl
set_option maxHeartbeats 4000000 in
set_option maxRecDepth 100000 in
theorem b_strSize {a : Int} (h0 : 0 ≤ a) (h1 : a ≤ 99) : BC yb_ss prog_23_method_13_code 4 (some .int) 0 0 0 0 bs (fun x adr => [.int (iN a)]) (fun x => True) (fun x v x' => v = some (.int (iN (if a ≤ 9 then 1 else 2))) ∧ x' = x) := by
  refine bc_of (by decide) rfl (fun _ _ => by simp [lg_sl, Value.category]) ?_
  intro p l e s m args below meth c D tA n0 adr adV sz x ls hP X hz g hret hlk hl
  have hl : lv_has ls 4 [(0, .int (iN a))] := hl
  refine lv_iconst (v := iN 1) X.1 X.2.1 db_ss_0 (by decide) ?_
  refine lv_istore_n (i := 1) (lv' := [(1, .int (iN 1)), (0, .int (iN a))]) X.1 X.2.1 db_ss_1 rfl hl (by decide) rfl (fun ls1 hl1 => ?_)
  refine lv_iload_n (i := 0) (x := iN a) X.1 X.2.1 db_ss_2 rfl (lv_at hl1 1 rfl) ?_
  refine lv_if_lt (tgt := 11) X.1 X.2.1 db_ss_3 (by decide) (fun h => absurd h (fun z => by
    have := (iN_lt (x := a) (y := 0) ⟨by omega, by omega⟩ inR_0).mp z
    omega)) (fun _ => ?_)
  refine lv_iconst (v := iN 0) X.1 X.2.1 db_ss_6 (by decide) ?_
  refine lv_istore_n (i := 1) (lv' := [(1, .int (iN 0)), (0, .int (iN a))]) X.1 X.2.1 db_ss_7 rfl hl1 (by decide) rfl (fun ls2 hl2 => ?_)
  refine lv_iload_n (i := 0) (x := iN a) X.1 X.2.1 db_ss_8 rfl (lv_at hl2 1 rfl) ?_
  refine lv_ineg X.1 X.2.1 db_ss_9 ?_
  rw [iN_neg]
  refine lv_istore_n (i := 0) (lv' := [(0, .int (iN (-a))), (1, .int (iN 0))]) X.1 X.2.1 db_ss_10 rfl hl2 (by decide) rfl (fun ls3 hl3 => ?_)
  refine lv_bipush (v := iN (-10)) X.1 X.2.1 db_ss_11 (by decide) ?_
  refine lv_istore_n (i := 2) (lv' := [(2, .int (iN (-10))), (0, .int (iN (-a))), (1, .int (iN 0))]) X.1 X.2.1 db_ss_13 rfl hl3 (by decide) rfl (fun ls4 hl4 => ?_)
  refine lv_iconst (v := iN 1) X.1 X.2.1 db_ss_14 (by decide) ?_
  refine lv_istore_n (i := 3) (lv' := [(3, .int (iN 1)), (2, .int (iN (-10))), (0, .int (iN (-a))), (1, .int (iN 0))]) X.1 X.2.1 db_ss_15 rfl hl4 (by decide) rfl (fun ls5 hl5 => ?_)
  refine lv_iload_n (i := 3) (x := iN 1) X.1 X.2.1 db_ss_16 rfl (lv_at hl5 0 rfl) ?_
  refine lv_bipush (v := iN 10) X.1 X.2.1 db_ss_17 (by decide) ?_
  refine lv_icmp_ge (tgt := 42) X.1 X.2.1 db_ss_19 (by decide) (fun h => absurd h (by decide)) (fun _ => ?_)
  refine lv_iload_n (i := 0) (x := iN (-a)) X.1 X.2.1 db_ss_22 rfl (lv_at hl5 2 rfl) ?_
  refine lv_iload_n (i := 2) (x := iN (-10)) X.1 X.2.1 db_ss_23 rfl (lv_at hl5 1 rfl) ?_
  refine lv_icmp_le (tgt := 31) X.1 X.2.1 db_ss_24 (by decide) (fun h => ?_) (fun h => ?_)
  · have h2 : ¬ a ≤ 9 := by
      have := (iN_le (x := -a) (y := -10) ⟨by omega, by omega⟩ ⟨by omega, by omega⟩).mp h
      omega
    refine lv_bipush (v := iN 10) X.1 X.2.1 db_ss_31 (by decide) ?_
    refine lv_iload_n (i := 2) (x := iN (-10)) X.1 X.2.1 db_ss_33 rfl (lv_at hl5 1 rfl) ?_
    refine lv_imul X.1 X.2.1 db_ss_34 ?_
    rw [iN_mul]
    refine lv_istore_n (i := 2) (lv' := [(2, .int (iN (10 * (-10)))), (3, .int (iN 1)), (0, .int (iN (-a))), (1, .int (iN 0))]) X.1 X.2.1 db_ss_35 rfl hl5 (by decide) rfl (fun ls6 hl6 => ?_)
    refine lv_iinc (k := 1) (x := iN 1) (v := iN (1 + 1)) (lv' := [(3, .int (iN (1 + 1))), (2, .int (iN (10 * (-10)))), (0, .int (iN (-a))), (1, .int (iN 0))]) X.1 X.2.1 db_ss_36 hl6 rfl (iN_add _ _) (by decide) rfl (fun ls7 hl7 => ?_)
    refine lv_goto (tgt := 16) X.1 X.2.1 db_ss_39 (by decide) ?_
    refine lv_iload_n (i := 3) (x := iN (1 + 1)) X.1 X.2.1 db_ss_16 rfl (lv_at hl7 0 rfl) ?_
    refine lv_bipush (v := iN 10) X.1 X.2.1 db_ss_17 (by decide) ?_
    refine lv_icmp_ge (tgt := 42) X.1 X.2.1 db_ss_19 (by decide) (fun h => absurd h (by decide)) (fun _ => ?_)
    refine lv_iload_n (i := 0) (x := iN (-a)) X.1 X.2.1 db_ss_22 rfl (lv_at hl7 2 rfl) ?_
    refine lv_iload_n (i := 2) (x := iN (10 * (-10))) X.1 X.2.1 db_ss_23 rfl (lv_at hl7 1 rfl) ?_
    refine lv_icmp_le (tgt := 31) X.1 X.2.1 db_ss_24 (by decide) (fun h => absurd h (fun z => by
      have := (iN_le (x := -a) (y := 10 * -10) ⟨by omega, by omega⟩ ⟨by omega, by omega⟩).mp z
      omega)) (fun _ => ?_)
    refine lv_iload_n (i := 3) (x := iN (1 + 1)) X.1 X.2.1 db_ss_27 rfl (lv_at hl7 0 rfl) ?_
    refine lv_iload_n (i := 1) (x := iN 0) X.1 X.2.1 db_ss_28 rfl (lv_at hl7 3 rfl) ?_
    refine lv_iadd X.1 X.2.1 db_ss_29 ?_
    rw [iN_add]
    exact b_zret (v := iN (1 + 1 + 0)) X hret (by first | rfl | exact vp_nar_int _) hlk g ⟨by rw [if_neg h2]; rfl, rfl⟩ (by omega) (by omega) db_ss_30
  · have h2 : a ≤ 9 := by
      have z : ¬ -a ≤ -10 := fun z => h ((iN_le (x := -a) (y := -10) ⟨by omega, by omega⟩ ⟨by omega, by omega⟩).mpr z)
      omega
    refine lv_iload_n (i := 3) (x := iN 1) X.1 X.2.1 db_ss_27 rfl (lv_at hl5 0 rfl) ?_
    refine lv_iload_n (i := 1) (x := iN 0) X.1 X.2.1 db_ss_28 rfl (lv_at hl5 3 rfl) ?_
    refine lv_iadd X.1 X.2.1 db_ss_29 ?_
    rw [iN_add]
    exact b_zret (v := iN (1 + 0)) X hret (by first | rfl | exact vp_nar_int _) hlk g ⟨by rw [if_pos h2]; rfl, rfl⟩ (by omega) (by omega) db_ss_30
def yb_gc : MethodName := ⟨"java/lang/Integer", "getChars", "(II[B)I"⟩
set_option maxRecDepth 100000 in
theorem db_gc_0 : decode prog_23_method_12_code 0 = .ok (.iload_n 1, 1) := rfl
set_option maxRecDepth 100000 in
theorem db_gc_1 : decode prog_23_method_12_code 1 = .ok (.istore 5, 2) := rfl
set_option maxRecDepth 100000 in
theorem db_gc_3 : decode prog_23_method_12_code 3 = .ok (.iload_n 0, 1) := rfl
set_option maxRecDepth 100000 in
theorem db_gc_4 : decode prog_23_method_12_code 4 = .ok (.ifCond .ge 7, 3) := rfl
set_option maxRecDepth 100000 in
theorem db_gc_11 : decode prog_23_method_12_code 11 = .ok (.iconst 0, 1) := rfl
set_option maxRecDepth 100000 in
theorem db_gc_12 : decode prog_23_method_12_code 12 = .ok (.istore 6, 2) := rfl
set_option maxRecDepth 100000 in
theorem db_gc_14 : decode prog_23_method_12_code 14 = .ok (.iload 6, 2) := rfl
set_option maxRecDepth 100000 in
theorem db_gc_16 : decode prog_23_method_12_code 16 = .ok (.ifCond .ne 6, 3) := rfl
set_option maxRecDepth 100000 in
theorem db_gc_19 : decode prog_23_method_12_code 19 = .ok (.iload_n 0, 1) := rfl
set_option maxRecDepth 100000 in
theorem db_gc_20 : decode prog_23_method_12_code 20 = .ok (.ineg, 1) := rfl
set_option maxRecDepth 100000 in
theorem db_gc_21 : decode prog_23_method_12_code 21 = .ok (.istore_n 0, 1) := rfl
set_option maxRecDepth 100000 in
theorem db_gc_22 : decode prog_23_method_12_code 22 = .ok (.iload_n 0, 1) := rfl
set_option maxRecDepth 100000 in
theorem db_gc_23 : decode prog_23_method_12_code 23 = .ok (.bipush (-100), 2) := rfl
set_option maxRecDepth 100000 in
theorem db_gc_25 : decode prog_23_method_12_code 25 = .ok (.if_icmp .gt 47, 3) := rfl
set_option maxRecDepth 100000 in
theorem db_gc_72 : decode prog_23_method_12_code 72 = .ok (.aload_n 2, 1) := rfl
set_option maxRecDepth 100000 in
theorem db_gc_73 : decode prog_23_method_12_code 73 = .ok (.iinc 5 (-1), 3) := rfl
set_option maxRecDepth 100000 in
theorem db_gc_76 : decode prog_23_method_12_code 76 = .ok (.iload 5, 2) := rfl
set_option maxRecDepth 100000 in
theorem dg_DigitOnes : Cond.fieldLink "java/lang/Integer" 83 "java/lang/Integer" "DigitOnes" "[B" ∈ gW := gW_at (i := 1549) rfl rfl
set_option maxRecDepth 100000 in
theorem db_gc_78 : decode prog_23_method_12_code 78 = .ok (.getstatic 83, 3) := rfl
set_option maxRecDepth 100000 in
theorem db_gc_81 : decode prog_23_method_12_code 81 = .ok (.iload_n 0, 1) := rfl
set_option maxRecDepth 100000 in
theorem db_gc_82 : decode prog_23_method_12_code 82 = .ok (.ineg, 1) := rfl
set_option maxRecDepth 100000 in
theorem db_gc_83 : decode prog_23_method_12_code 83 = .ok (.baload, 1) := rfl
set_option maxRecDepth 100000 in
theorem db_gc_84 : decode prog_23_method_12_code 84 = .ok (.bastore, 1) := rfl
set_option maxRecDepth 100000 in
theorem db_gc_85 : decode prog_23_method_12_code 85 = .ok (.iload_n 0, 1) := rfl
set_option maxRecDepth 100000 in
theorem db_gc_86 : decode prog_23_method_12_code 86 = .ok (.bipush (-9), 2) := rfl
set_option maxRecDepth 100000 in
theorem db_gc_88 : decode prog_23_method_12_code 88 = .ok (.if_icmp .ge 16, 3) := rfl
set_option maxRecDepth 100000 in
theorem db_gc_104 : decode prog_23_method_12_code 104 = .ok (.iload 6, 2) := rfl
set_option maxRecDepth 100000 in
theorem db_gc_106 : decode prog_23_method_12_code 106 = .ok (.ifCond .eq 12, 3) := rfl
set_option maxRecDepth 100000 in
theorem db_gc_118 : decode prog_23_method_12_code 118 = .ok (.iload 5, 2) := rfl
set_option maxRecDepth 100000 in
theorem db_gc_120 : decode prog_23_method_12_code 120 = .ok (.ireturn, 1) := rfl
set_option maxRecDepth 100000 in
theorem db_gc_91 : decode prog_23_method_12_code 91 = .ok (.aload_n 2, 1) := rfl
set_option maxRecDepth 100000 in
theorem db_gc_92 : decode prog_23_method_12_code 92 = .ok (.iinc 5 (-1), 3) := rfl
set_option maxRecDepth 100000 in
theorem db_gc_95 : decode prog_23_method_12_code 95 = .ok (.iload 5, 2) := rfl
set_option maxRecDepth 100000 in
theorem dg_DigitTens : Cond.fieldLink "java/lang/Integer" 87 "java/lang/Integer" "DigitTens" "[B" ∈ gW := gW_at (i := 1551) rfl rfl
set_option maxRecDepth 100000 in
theorem db_gc_97 : decode prog_23_method_12_code 97 = .ok (.getstatic 87, 3) := rfl
set_option maxRecDepth 100000 in
theorem db_gc_100 : decode prog_23_method_12_code 100 = .ok (.iload_n 0, 1) := rfl
set_option maxRecDepth 100000 in
theorem db_gc_101 : decode prog_23_method_12_code 101 = .ok (.ineg, 1) := rfl
set_option maxRecDepth 100000 in
theorem db_gc_102 : decode prog_23_method_12_code 102 = .ok (.baload, 1) := rfl
set_option maxRecDepth 100000 in
theorem db_gc_103 : decode prog_23_method_12_code 103 = .ok (.bastore, 1) := rfl
set_option maxHeartbeats 4000000 in
set_option maxRecDepth 100000 in
theorem b_getChars {a i : Int} (h0 : 0 ≤ a) (h1 : a ≤ 99) : BC yb_gc prog_23_method_12_code 7 (some .int) 0 0 0 0 bs (fun x adr => [.int (iN a), .int (iN i), .ref (xB x)]) (fun x => (if a ≤ 9 then 1 else 2) ≤ i ∧ i ≤ (xC x : Int)) (fun x v x' => v = some (.int (iN (if a ≤ 9 then i + (-1) else i + (-1) + (-1)))) ∧ xC x' = xC x ∧ xN x' = xN x ∧ xB x' = xB x ∧ xT x' = (if a ≤ 9 then tset (xT x) (i + (-1)).toNat ((a.toNat % 10 + 48 : Nat) : Int) else tset (tset (xT x) (i + (-1)).toNat ((a.toNat % 10 + 48 : Nat) : Int)) (i + (-1) + (-1)).toNat ((a.toNat / 10 + 48 : Nat) : Int))) := by
  refine bc_of (by decide) rfl (fun _ _ => by simp [lg_sl, Value.category]) ?_
  intro p l e s m args below meth c D tA n0 adr adV sz x ls hP X hz g hret hlk hl
  have hl : lv_has ls 7 [(0, .int (iN a)), (1, .int (iN i)), (2, .ref (xB x))] := hl
  have hC : xC x ≤ 142 := by rcases g.2.2.1.1 with h | h | h | h <;> omega
  obtain ⟨hi, hi2⟩ := hP
  have hi1 : 1 ≤ i := by
    by_cases h : a ≤ 9
    · rw [if_pos h] at hi; exact hi
    · rw [if_neg h] at hi; omega
  obtain ⟨d1, d2, ⟨z1, t1⟩, z2, t2⟩ := hz.2.2.2.1
  refine lv_iload_n (i := 1) (x := iN i) X.1 X.2.1 db_gc_0 rfl (lv_at hl 1 rfl) ?_
  refine lv_istore (lv' := [(5, .int (iN i)), (0, .int (iN a)), (1, .int (iN i)), (2, .ref (xB x))]) X.1 X.2.1 db_gc_1 hl (by decide) rfl (fun ls1 hl1 => ?_)
  refine lv_iload_n (i := 0) (x := iN a) X.1 X.2.1 db_gc_3 rfl (lv_at hl1 1 rfl) ?_
  refine lv_if_ge (tgt := 11) X.1 X.2.1 db_gc_4 (by decide) (fun _ => ?_) (fun h => absurd ((iN_le inR_0 (y := a) ⟨by omega, by omega⟩).mpr h0) h)
  refine lv_iconst (v := iN 0) X.1 X.2.1 db_gc_11 (by decide) ?_
  refine lv_istore (lv' := [(6, .int (iN 0)), (5, .int (iN i)), (0, .int (iN a)), (1, .int (iN i)), (2, .ref (xB x))]) X.1 X.2.1 db_gc_12 hl1 (by decide) rfl (fun ls2 hl2 => ?_)
  refine lv_iload (x := iN 0) X.1 X.2.1 db_gc_14 (lv_at hl2 0 rfl) ?_
  refine lv_if_ne (tgt := 22) X.1 X.2.1 db_gc_16 (by decide) (fun h => absurd h (fun z => z rfl)) (fun _ => ?_)
  refine lv_iload_n (i := 0) (x := iN a) X.1 X.2.1 db_gc_19 rfl (lv_at hl2 2 rfl) ?_
  refine lv_ineg X.1 X.2.1 db_gc_20 ?_
  rw [iN_neg]
  refine lv_istore_n (i := 0) (lv' := [(0, .int (iN (-a))), (6, .int (iN 0)), (5, .int (iN i)), (1, .int (iN i)), (2, .ref (xB x))]) X.1 X.2.1 db_gc_21 rfl hl2 (by decide) rfl (fun ls3 hl3 => ?_)
  refine lv_iload_n (i := 0) (x := iN (-a)) X.1 X.2.1 db_gc_22 rfl (lv_at hl3 0 rfl) ?_
  refine lv_bipush (v := iN (-100)) X.1 X.2.1 db_gc_23 (by decide) ?_
  refine lv_icmp_gt (tgt := 72) X.1 X.2.1 db_gc_25 (by decide) (fun _ => ?_) (fun h => absurd ((iN_lt (x := -100) (y := -a) ⟨by omega, by omega⟩ ⟨by omega, by omega⟩).mpr (by omega)) h)
  refine lv_aload_n (i := 2) (x := (xB x)) X.1 X.2.1 db_gc_72 rfl (lv_at hl3 4 rfl) ?_
  refine lv_iinc (k := 2) (x := iN i) (v := iN (i + (-1))) (lv' := [(5, .int (iN (i + (-1)))), (0, .int (iN (-a))), (6, .int (iN 0)), (1, .int (iN i)), (2, .ref (xB x))]) X.1 X.2.1 db_gc_73 hl3 rfl (iN_add _ _) (by decide) rfl (fun ls4 hl4 => ?_)
  refine lv_iload (x := iN (i + (-1))) X.1 X.2.1 db_gc_76 (lv_at hl4 0 rfl) ?_
  refine va_gets (ref := "java/lang/Integer") X.1 X.2.1 z1 (hz.S g) X.2.2.2.1 (X.2.2.2.2 _ dg_DigitOnes) (fun _ h => h) db_gc_78 ?_
  refine lv_iload_n (i := 0) (x := iN (-a)) X.1 X.2.1 db_gc_81 rfl (lv_at hl4 1 rfl) ?_
  refine lv_ineg X.1 X.2.1 db_gc_82 ?_
  rw [iN_neg]
  rw [Int.neg_neg]
  refine va_tb X.1 X.2.1 t1 (hz.S g) (iN_in h0 (n := 100) (by omega) (by omega)) (by rw [iN_clamp h0 (by omega)]) db_gc_83 ?_
  refine b_ast X hz g (by omega) (by omega) (by omega) (by omega) db_gc_84 (fun H1 lc1 g1 => ?_)
  refine lv_iload_n (i := 0) (x := iN (-a)) X.1 X.2.1 db_gc_85 rfl (lv_at hl4 1 rfl) ?_
  refine lv_bipush (v := iN (-9)) X.1 X.2.1 db_gc_86 (by decide) ?_
  refine lv_icmp_ge (tgt := 104) X.1 X.2.1 db_gc_88 (by decide) (fun h => ?_) (fun h => ?_)
  · have h2 : a ≤ 9 := by
      have := (iN_le (x := -9) (y := -a) ⟨by omega, by omega⟩ ⟨by omega, by omega⟩).mp h
      omega
    refine lv_iload (x := iN 0) X.1 X.2.1 db_gc_104 (lv_at hl4 2 rfl) ?_
    refine lv_if_eq (tgt := 118) X.1 X.2.1 db_gc_106 (by decide) (fun _ => ?_) (fun h => absurd rfl h)
    refine lv_iload (x := iN (i + (-1))) X.1 X.2.1 db_gc_118 (lv_at hl4 0 rfl) ?_
    exact b_zret (v := iN (i + (-1))) X hret (by first | rfl | exact vp_nar_int _) hlk g1 ⟨by rw [if_pos h2], by rw [if_pos h2]; exact ⟨rfl, rfl, rfl, rfl⟩⟩ (by omega) (by omega) db_gc_120
  · have h2 : ¬ a ≤ 9 := fun z => h ((iN_le (x := -9) (y := -a) ⟨by omega, by omega⟩ ⟨by omega, by omega⟩).mpr (by omega))
    have h3 : 2 ≤ i := by rw [if_neg h2] at hi; exact hi
    refine lv_aload_n (i := 2) (x := (xB x)) X.1 X.2.1 db_gc_91 rfl (lv_at hl4 4 rfl) ?_
    refine lv_iinc (k := 0) (x := iN (i + (-1))) (v := iN ((i + (-1)) + (-1))) (lv' := [(5, .int (iN ((i + (-1)) + (-1)))), (0, .int (iN (-a))), (6, .int (iN 0)), (1, .int (iN i)), (2, .ref (xB x))]) X.1 X.2.1 db_gc_92 hl4 rfl (iN_add _ _) (by decide) rfl (fun ls5 hl5 => ?_)
    refine lv_iload (x := iN ((i + (-1)) + (-1))) X.1 X.2.1 db_gc_95 (lv_at hl5 0 rfl) ?_
    refine va_gets (ref := "java/lang/Integer") X.1 X.2.1 z2 (hz.S g1) X.2.2.2.1 (X.2.2.2.2 _ dg_DigitTens) (fun _ h => h) db_gc_97 ?_
    refine lv_iload_n (i := 0) (x := iN (-a)) X.1 X.2.1 db_gc_100 rfl (lv_at hl5 1 rfl) ?_
    refine lv_ineg X.1 X.2.1 db_gc_101 ?_
    rw [iN_neg]
    rw [Int.neg_neg]
    refine va_tb X.1 X.2.1 t2 (hz.S g1) (iN_in h0 (n := 100) (by omega) (by omega)) (by rw [iN_clamp h0 (by omega)]) db_gc_102 ?_
    refine b_ast (x := (xB x, xC x, xN x, xM x, tset (xT x) (i + (-1)).toNat ((a.toNat % 10 + 48 : Nat) : Int))) X hz g1 (by omega) (by show i + (-1) + (-1) < (xC x : Int); omega) (by omega) (by omega) db_gc_103 (fun H2 lc2 g2 => ?_)
    refine lv_iload (x := iN 0) X.1 X.2.1 db_gc_104 (lv_at hl5 2 rfl) ?_
    refine lv_if_eq (tgt := 118) X.1 X.2.1 db_gc_106 (by decide) (fun _ => ?_) (fun h => absurd rfl h)
    refine lv_iload (x := iN ((i + (-1)) + (-1))) X.1 X.2.1 db_gc_118 (lv_at hl5 0 rfl) ?_
    exact b_zret (v := iN (i + (-1) + (-1))) X hret (by first | rfl | exact vp_nar_int _) hlk g2 ⟨by rw [if_neg h2], by rw [if_neg h2]; exact ⟨rfl, rfl, rfl, rfl⟩⟩ (by omega) (by omega) db_gc_120
def yb_ai : MethodName := ⟨"java/lang/AbstractStringBuilder", "append", "(I)Ljava/lang/AbstractStringBuilder;"⟩
set_option maxRecDepth 100000 in
theorem db_ai_0 : decode prog_16_method_32_code 0 = .ok (.aload_n 0, 1) := rfl
set_option maxRecDepth 100000 in
theorem db_ai_1 : decode prog_16_method_32_code 1 = .ok (.getfield 79, 3) := rfl
set_option maxRecDepth 100000 in
theorem db_ai_4 : decode prog_16_method_32_code 4 = .ok (.istore_n 2, 1) := rfl
set_option maxRecDepth 100000 in
theorem db_ai_5 : decode prog_16_method_32_code 5 = .ok (.iload_n 2, 1) := rfl
set_option maxRecDepth 100000 in
theorem db_ai_6 : decode prog_16_method_32_code 6 = .ok (.iload_n 1, 1) := rfl
set_option maxRecDepth 100000 in
theorem wb_6 : BWd 1 "java/lang/AbstractStringBuilder" 245 yb_ss prog_23_method_13_code 4 (some .int) "java/lang/AbstractStringBuilder" 1 := ⟨⟨⟨gW_at (i := 1543) rfl rfl, gW_at (i := 128) rfl rfl, gW_at (i := 1545) rfl rfl⟩, ⟨by decide, by decide, rfl⟩, by decide⟩, gW_at (i := 1544) rfl rfl⟩
set_option maxRecDepth 100000 in
theorem db_ai_7 : decode prog_16_method_32_code 7 = .ok (.invokestatic 245, 3) := rfl
set_option maxRecDepth 100000 in
theorem db_ai_10 : decode prog_16_method_32_code 10 = .ok (.iadd, 1) := rfl
set_option maxRecDepth 100000 in
theorem db_ai_11 : decode prog_16_method_32_code 11 = .ok (.istore_n 3, 1) := rfl
set_option maxRecDepth 100000 in
theorem db_ai_12 : decode prog_16_method_32_code 12 = .ok (.aload_n 0, 1) := rfl
set_option maxRecDepth 100000 in
theorem db_ai_13 : decode prog_16_method_32_code 13 = .ok (.iload_n 3, 1) := rfl
set_option maxRecDepth 100000 in
theorem db_ai_14 : decode prog_16_method_32_code 14 = .ok (.invokevirtual 100, 3) := rfl
set_option maxRecDepth 100000 in
theorem db_ai_17 : decode prog_16_method_32_code 17 = .ok (.aload_n 0, 1) := rfl
set_option maxRecDepth 100000 in
theorem db_ai_18 : decode prog_16_method_32_code 18 = .ok (.invokevirtual 83, 3) := rfl
set_option maxRecDepth 100000 in
theorem db_ai_21 : decode prog_16_method_32_code 21 = .ok (.ifCond .eq 16, 3) := rfl
set_option maxRecDepth 100000 in
theorem db_ai_24 : decode prog_16_method_32_code 24 = .ok (.iload_n 1, 1) := rfl
set_option maxRecDepth 100000 in
theorem db_ai_25 : decode prog_16_method_32_code 25 = .ok (.iload_n 3, 1) := rfl
set_option maxRecDepth 100000 in
theorem db_ai_26 : decode prog_16_method_32_code 26 = .ok (.aload_n 0, 1) := rfl
set_option maxRecDepth 100000 in
theorem db_ai_27 : decode prog_16_method_32_code 27 = .ok (.getfield 15, 3) := rfl
set_option maxRecDepth 100000 in
theorem wb_7 : BWd 1 "java/lang/AbstractStringBuilder" 248 yb_gc prog_23_method_12_code 7 (some .int) "java/lang/AbstractStringBuilder" 3 := ⟨⟨⟨gW_at (i := 1546) rfl rfl, gW_at (i := 128) rfl rfl, gW_at (i := 1548) rfl rfl⟩, ⟨by decide, by decide, rfl⟩, by decide⟩, gW_at (i := 1547) rfl rfl⟩
set_option maxRecDepth 100000 in
theorem db_ai_30 : decode prog_16_method_32_code 30 = .ok (.invokestatic 248, 3) := rfl
set_option maxRecDepth 100000 in
theorem db_ai_33 : decode prog_16_method_32_code 33 = .ok (.pop, 1) := rfl
set_option maxRecDepth 100000 in
theorem db_ai_34 : decode prog_16_method_32_code 34 = .ok (.goto 14, 3) := rfl
set_option maxRecDepth 100000 in
theorem db_ai_48 : decode prog_16_method_32_code 48 = .ok (.aload_n 0, 1) := rfl
set_option maxRecDepth 100000 in
theorem db_ai_49 : decode prog_16_method_32_code 49 = .ok (.iload_n 3, 1) := rfl
set_option maxRecDepth 100000 in
theorem db_ai_50 : decode prog_16_method_32_code 50 = .ok (.putfield 79, 3) := rfl
set_option maxRecDepth 100000 in
theorem db_ai_53 : decode prog_16_method_32_code 53 = .ok (.aload_n 0, 1) := rfl
set_option maxRecDepth 100000 in
theorem db_ai_54 : decode prog_16_method_32_code 54 = .ok (.areturn, 1) := rfl
set_option maxHeartbeats 4000000 in
set_option maxRecDepth 100000 in
theorem b_appI0 {a : Int} (h0 : 0 ≤ a) (h1 : a ≤ 99) : BC yb_ai prog_16_method_32_code 4 (some (.object "java/lang/AbstractStringBuilder")) 6 600 1 142 bs (fun x adr => [.ref bs, .int (iN a)]) (fun x => xN x ≤ 140) (fun x v x' => v = some (.ref bs) ∧ (∀ j, j < xN x → xT x' j = xT x j) ∧ if a ≤ 9 then xN x' = xN x + 1 ∧ xT x' (xN x) = 48 + a else xN x' = xN x + 2 ∧ xT x' (xN x) = 48 + a / 10 ∧ xT x' (xN x + 1) = 48 + a % 10) := by
  refine bc_of (by decide) rfl (fun _ _ => by simp [lg_sl, Value.category]) ?_
  intro p l e s m args below meth c D tA n0 adr adV sz x ls hP X hz g hret hlk hl
  have hl : lv_has ls 4 [(0, .ref bs), (1, .int (iN a))] := hl
  have hN0 := g.2.2.1.2.1
  have hC : xC x ≤ 142 := by rcases g.2.2.1.1 with h | h | h | h <;> omega
  refine lv_aload_n (i := 0) (x := bs) X.1 X.2.1 db_ai_0 rfl (lv_at hl 0 rfl) ?_
  refine b_get (k := 3) X hz g (by decide) fb_1 rfl db_ai_1 ?_
  refine lv_istore_n (i := 2) (lv' := [(2, .int (iN (xN x : Int))), (0, .ref bs), (1, .int (iN a))]) X.1 X.2.1 db_ai_4 rfl hl (by decide) rfl (fun ls1 hl1 => ?_)
  refine lv_iload_n (i := 2) (x := iN (xN x : Int)) X.1 X.2.1 db_ai_5 rfl (lv_at hl1 0 rfl) ?_
  refine lv_iload_n (i := 1) (x := iN a) X.1 X.2.1 db_ai_6 rfl (lv_at hl1 2 rfl) ?_
  refine b_callS (As := [.int (iN a)]) (rest := [.int (iN (xN x : Int))]) X hz g (b_strSize h0 h1) trivial wb_6 rfl rfl hl1.1 ⟨by decide, by decide⟩ ⟨by decide, by decide⟩ (by simp [Value.category]) rfl db_ai_7 (fun v x1 H1 lc1 hv1 g1 => ?_)
  obtain ⟨rfl, rfl⟩ := hv1
  generalize hk : (if a ≤ 9 then (1 : Int) else 2) = k
  have hk2 : 1 ≤ k ∧ k ≤ 2 := by rw [← hk]; split <;> omega
  refine lv_iadd X.1 X.2.1 db_ai_10 ?_
  rw [iN_add]
  refine lv_istore_n (i := 3) (lv' := [(3, .int (iN ((xN x1 : Int) + k))), (2, .int (iN (xN x1 : Int))), (0, .ref bs), (1, .int (iN a))]) X.1 X.2.1 db_ai_11 rfl hl1 (by decide) rfl (fun ls2 hl2 => ?_)
  refine lv_aload_n (i := 0) (x := bs) X.1 X.2.1 db_ai_12 rfl (lv_at hl2 2 rfl) ?_
  refine lv_iload_n (i := 3) (x := iN ((xN x1 : Int) + k)) X.1 X.2.1 db_ai_13 rfl (lv_at hl2 0 rfl) ?_
  refine b_callP (As := [.int (iN ((xN x1 : Int) + k))]) (rest := []) X hz g1 (b_ensure (a := (xN x1 : Int) + k) (by omega) (by omega)) (by omega) wb_3 rfl rfl hl2.1 ⟨by decide, by decide⟩ ⟨by decide, by decide⟩ (by simp [Value.category]) rfl db_ai_14 (fun v x2 H2 lc2 hv2 g2 => ?_)
  obtain ⟨rfl, hv2, hv3, hv4⟩ := hv2
  refine lv_aload_n (i := 0) (x := bs) X.1 X.2.1 db_ai_17 rfl (lv_at hl2 2 rfl) ?_
  refine b_callV (As := []) (rest := []) X hz g2 (b_latin) trivial wb_4 rfl rfl (b_recv hz g2) hl2.1 ⟨by decide, by decide⟩ ⟨by decide, by decide⟩ (by simp [Value.category]) rfl db_ai_18 (fun v x3 H3 lc3 hw3 g3 => ?_)
  obtain ⟨rfl, rfl⟩ := hw3
  refine lv_if_eq (tgt := 37) X.1 X.2.1 db_ai_21 (by decide) (fun h => absurd h (by decide)) (fun _ => ?_)
  refine lv_iload_n (i := 1) (x := iN a) X.1 X.2.1 db_ai_24 rfl (lv_at hl2 3 rfl) ?_
  refine lv_iload_n (i := 3) (x := iN ((xN x1 : Int) + k)) X.1 X.2.1 db_ai_25 rfl (lv_at hl2 0 rfl) ?_
  refine lv_aload_n (i := 0) (x := bs) X.1 X.2.1 db_ai_26 rfl (lv_at hl2 2 rfl) ?_
  refine b_get (k := 0) X hz g3 (by decide) fb_2 rfl db_ai_27 ?_
  refine b_callS (As := [.int (iN a), .int (iN ((xN x1 : Int) + k)), .ref (xB x3)]) (rest := []) X hz g3 (b_getChars (a := a) (i := (xN x1 : Int) + k) h0 h1) ⟨by omega, hv2⟩ wb_7 rfl rfl hl2.1 ⟨by decide, by decide⟩ ⟨by decide, by decide⟩ (by simp [Value.category]) rfl db_ai_30 (fun v x4 H4 lc4 hw4 g4 => ?_)
  obtain ⟨rfl, c1, c2, c3, c4⟩ := hw4
  refine lv_pop X.1 X.2.1 db_ai_33 rfl ?_
  refine lv_goto (tgt := 48) X.1 X.2.1 db_ai_34 (by decide) ?_
  refine lv_aload_n (i := 0) (x := bs) X.1 X.2.1 db_ai_48 rfl (lv_at hl2 2 rfl) ?_
  refine lv_iload_n (i := 3) (x := iN ((xN x1 : Int) + k)) X.1 X.2.1 db_ai_49 rfl (lv_at hl2 0 rfl) ?_
  have hT4 := g4.2.2.1
  refine b_put (k := 3) (ty := .int) (x' := (xB x4, xC x4, xN x1 + k.toNat, xM x4, xT x4)) X hz g4 (by decide) fb_1 rfl rfl (vp_nar_int _) rfl db_ai_50 ⟨hT4.1, by show xN x1 + k.toNat ≤ xC x4; omega, hT4.2.2⟩ rfl (by show _ = [Value.ref (xB x4), .int (iN 0), .int (xM x4), .int (iN ((xN x1 + k.toNat : Nat) : Int))]; rw [show ((xN x1 + k.toNat : Nat) : Int) = (xN x1 : Int) + k by omega]; rfl) rfl (fun H5 lc5 g5 => ?_)
  refine lv_aload_n (i := 0) (x := bs) X.1 X.2.1 db_ai_53 rfl (lv_at hl2 2 rfl) ?_
  have hR : ∀ j, j < xN x1 → xT x4 j = xT x1 j := fun j hj => by
    rw [c4]
    split
    · rw [tset_ne (by omega)]; exact hv4 j (by omega)
    · rw [tset_ne (by omega), tset_ne (by omega)]; exact hv4 j (by omega)
  by_cases h9 : a ≤ 9
  · rw [if_pos h9] at hk c4
    exact b_aret X hret hlk g5 ⟨rfl, hR, by rw [if_pos h9]; exact ⟨by show xN x1 + k.toNat = _; omega, by show xT x4 _ = _; rw [c4, show ((xN x1 : Int) + k + (-1)).toNat = xN x1 by omega, tset_eq]; omega⟩⟩ (by omega) (by omega) db_ai_54
  · rw [if_neg h9] at hk c4
    exact b_aret X hret hlk g5 ⟨rfl, hR, by rw [if_neg h9]; exact ⟨by show xN x1 + k.toNat = _; omega, by show xT x4 _ = _; rw [c4, show ((xN x1 : Int) + k + (-1) + (-1)).toNat = xN x1 by omega, tset_eq]; omega, by show xT x4 _ = _; rw [c4, show ((xN x1 : Int) + k + (-1)).toNat = xN x1 + 1 by omega, tset_ne (by omega), tset_eq]; omega⟩⟩ (by omega) (by omega) db_ai_54
end B2
