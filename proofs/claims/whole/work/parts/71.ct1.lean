/-! CONSTRUCTORS, 2 (printed by wip/whole/g71.py). -/
set_option maxRecDepth 100000 in
theorem kw_0 : Cond.arrayClass .int ∈ gW := gW_at (i := 190) rfl rfl
set_option maxRecDepth 100000 in
theorem kw_1 : Cond.arrayClass .boolean ∈ gW := gW_at (i := 191) rfl rfl
set_option maxRecDepth 100000 in
theorem kw_2 : Cond.instanceMethod Lib.objectInit ∈ gW := gW_at (i := 139) rfl rfl
set_option maxRecDepth 100000 in
theorem kw_3 : Cond.code Lib.objectInit ⟨#[0xb1]⟩ 1 none ∈ gW := gW_at (i := 140) rfl rfl
theorem dfl_0 : dfl 0 = [.null, .null, .null, .null, .null, .null, .null, .int 0, .int 0] := rfl
theorem dfl_1 : dfl 1 = [.null, .int 0, .int 0, .int 0, .int 0, .int 0] := rfl
theorem dfl_2 : dfl 2 = [.null, .null, .null, .null, .int 0, .int 0, .int 0] := rfl
theorem dfl_3 : dfl 3 = [.null, .null, .null, .null, .int 0] := rfl
theorem dfl_4 : dfl 4 = [.null, .null, .int 0] := rfl
theorem dfl_5 : dfl 5 = [.null, .null, .int 0, .int 0, .int 0, .int 0, .int 0, .int 0, .int 0, .int 0, .int 0, .int 0] := rfl
theorem dfl_6 : dfl 6 = [.int 0, .null, .null, .null, .null, .null, .null, .int 0] := rfl
theorem dfl_7 : dfl 7 = [.int 0, .int 0, .int 0, .int 0] := rfl
theorem dfl_8 : dfl 8 = [.null, .null, .null, .int 0, .int 0, .int 0, .int 0] := rfl
theorem dfl_9 : dfl 9 = [.null, .null, .int 0, .int 0, .int 0, .int 0] := rfl
theorem dfl_10 : dfl 10 = [.null, .null, .null, .null, .null, .null, .null, .int 0] := rfl
theorem dfl_11 : dfl 11 = [.null, .null, .null, .null, .null, .null, .null, .null, .null, .null, .null, .null, .null, .null, .int 0] := rfl
set_option maxRecDepth 100000 in
theorem kw_4 : Cond.methodLink (Rn 9) 3 Lib.objectInit ∈ gW := gW_at (i := 159) rfl rfl
set_option maxRecDepth 100000 in
theorem kw_5 : Cond.fieldLink (Rn 9) 9 (Tc 9 0).1 (Tc 9 0).2.1 (Tc 9 0).2.2.1 ∈ gW := gW_at (i := 160) rfl rfl
set_option maxRecDepth 100000 in
theorem kw_6 : Cond.fieldLink (Rn 9) 15 (Tc 9 1).1 (Tc 9 1).2.1 (Tc 9 1).2.2.1 ∈ gW := gW_at (i := 161) rfl rfl
def Lf9 (tA : Nat → ClassId) (b : Nat) : List va_E := [.inr (9, [.ref (b + 1), .ref (b + 2), .int 0, .int 0, .int 0, .int 0]), .inl (tA 0, (24, .inl (fun _ => 0))), .inl (tA 1, (24, .inl (fun _ => 0)))]
set_option maxRecDepth 100000 in
theorem dk9_0 : decode prog_11_method_1_code 0 = .ok (.aload_n 0, 1) := rfl
set_option maxRecDepth 100000 in
theorem dk9_1 : decode prog_11_method_1_code 1 = .ok (.invokespecial 3, 3) := rfl
set_option maxRecDepth 100000 in
theorem dk9_4 : decode prog_11_method_1_code 4 = .ok (.aload_n 0, 1) := rfl
set_option maxRecDepth 100000 in
theorem dk9_5 : decode prog_11_method_1_code 5 = .ok (.bipush 24, 2) := rfl
set_option maxRecDepth 100000 in
theorem dk9_7 : decode prog_11_method_1_code 7 = .ok (.newarray .int, 2) := rfl
set_option maxRecDepth 100000 in
theorem dk9_9 : decode prog_11_method_1_code 9 = .ok (.putfield 9, 3) := rfl
set_option maxRecDepth 100000 in
theorem dk9_12 : decode prog_11_method_1_code 12 = .ok (.aload_n 0, 1) := rfl
set_option maxRecDepth 100000 in
theorem dk9_13 : decode prog_11_method_1_code 13 = .ok (.bipush 24, 2) := rfl
set_option maxRecDepth 100000 in
theorem dk9_15 : decode prog_11_method_1_code 15 = .ok (.newarray .boolean, 2) := rfl
set_option maxRecDepth 100000 in
theorem dk9_17 : decode prog_11_method_1_code 17 = .ok (.putfield 15, 3) := rfl
set_option maxRecDepth 100000 in
theorem dk9_20 : decode prog_11_method_1_code 20 = .ok (.return_, 1) := rfl
set_option maxHeartbeats 4000000 in
set_option maxRecDepth 100000 in
theorem ct_9 : CtorC ⟨Rn 9, "<init>", "()V"⟩ prog_11_method_1_code 1 1 40 2 48 [] 9 Lf9 := by
  refine ct_of (by decide) rfl rfl (by decide) ?_
  intro p l e s m args below meth c D tA b ls X hin g hl
  rw [dfl_9] at g
  refine lv_aload_n (i := 0) (x := b) X.1 X.2.1 dk9_0 rfl (lv_at hl 0 rfl) ?_
  refine c_obj X kw_4 kw_2 kw_3 hl.1 (by decide) dk9_1 ?_
  refine lv_aload_n (i := 0) (x := b) X.1 X.2.1 dk9_4 rfl (lv_at hl 0 rfl) ?_
  refine lv_bipush (v := iN ((24 : Nat) : Int)) X.1 X.2.1 dk9_5 (by decide) ?_
  refine c_newa (n := 24) (t := 0) X (by simp) (by omega) g (by decide) (by decide) dk9_7 kw_0 kw_1 (fun H1 g => ?_)
  have g : CG D b s ([.inr (9, [.null, .null, .int 0, .int 0, .int 0, .int 0]), .inl (tA 0, (24, .inl (fun _ => 0)))]) H1 [] := g
  refine c_put (k := 0) (ty := .array .int) (v := .ref (b + 1)) X (by decide) g (by decide) (by simp) kw_5 (fun _ => hin) rfl rfl rfl rfl dk9_9 (fun H2 lc2 g => ?_)
  have g : CG D b s ([.inr (9, [.ref (b + 1), .null, .int 0, .int 0, .int 0, .int 0]), .inl (tA 0, (24, .inl (fun _ => 0)))]) H2 lc2 := g
  refine lv_aload_n (i := 0) (x := b) X.1 X.2.1 dk9_12 rfl (lv_at hl 0 rfl) ?_
  refine lv_bipush (v := iN ((24 : Nat) : Int)) X.1 X.2.1 dk9_13 (by decide) ?_
  refine c_newa (n := 24) (t := 1) X (by simp) (by omega) g (by decide) (by decide) dk9_15 kw_0 kw_1 (fun H3 g => ?_)
  have g : CG D b s ([.inr (9, [.ref (b + 1), .null, .int 0, .int 0, .int 0, .int 0]), .inl (tA 0, (24, .inl (fun _ => 0))), .inl (tA 1, (24, .inl (fun _ => 0)))]) H3 lc2 := g
  refine c_put (k := 1) (ty := .array .boolean) (v := .ref (b + 2)) X (by decide) g (by decide) (by simp) kw_6 (fun _ => hin) rfl rfl rfl rfl dk9_17 (fun H4 lc4 g => ?_)
  have g : CG D b s ([.inr (9, [.ref (b + 1), .ref (b + 2), .int 0, .int 0, .int 0, .int 0]), .inl (tA 0, (24, .inl (fun _ => 0))), .inl (tA 1, (24, .inl (fun _ => 0)))]) H4 lc4 := g
  exact ct_ret X g dk9_20
set_option maxRecDepth 100000 in
theorem kw_7 : Cond.methodLink (Rn 3) 3 Lib.objectInit ∈ gW := gW_at (i := 514) rfl rfl
set_option maxRecDepth 100000 in
theorem kw_8 : Cond.fieldLink (Rn 3) 9 (Tc 3 0).1 (Tc 3 0).2.1 (Tc 3 0).2.2.1 ∈ gW := gW_at (i := 515) rfl rfl
set_option maxRecDepth 100000 in
theorem kw_9 : Cond.fieldLink (Rn 3) 15 (Tc 3 1).1 (Tc 3 1).2.1 (Tc 3 1).2.2.1 ∈ gW := gW_at (i := 516) rfl rfl
set_option maxRecDepth 100000 in
theorem kw_10 : Cond.fieldLink (Rn 3) 18 (Tc 3 2).1 (Tc 3 2).2.1 (Tc 3 2).2.2.1 ∈ gW := gW_at (i := 517) rfl rfl
set_option maxRecDepth 100000 in
theorem kw_11 : Cond.fieldLink (Rn 3) 21 (Tc 3 3).1 (Tc 3 3).2.1 (Tc 3 3).2.2.1 ∈ gW := gW_at (i := 518) rfl rfl
def Lf3 (tA : Nat → ClassId) (b : Nat) : List va_E := [.inr (3, [.ref (b + 1), .ref (b + 2), .ref (b + 3), .ref (b + 4), .int 0]), .inl (tA 0, (40, .inl (fun _ => 0))), .inl (tA 0, (40, .inl (fun _ => 0))), .inl (tA 0, (40, .inl (fun _ => 0))), .inl (tA 0, (40, .inl (fun _ => 0)))]
set_option maxRecDepth 100000 in
theorem dk3_0 : decode prog_5_method_1_code 0 = .ok (.aload_n 0, 1) := rfl
set_option maxRecDepth 100000 in
theorem dk3_1 : decode prog_5_method_1_code 1 = .ok (.invokespecial 3, 3) := rfl
set_option maxRecDepth 100000 in
theorem dk3_4 : decode prog_5_method_1_code 4 = .ok (.aload_n 0, 1) := rfl
set_option maxRecDepth 100000 in
theorem dk3_5 : decode prog_5_method_1_code 5 = .ok (.bipush 40, 2) := rfl
set_option maxRecDepth 100000 in
theorem dk3_7 : decode prog_5_method_1_code 7 = .ok (.newarray .int, 2) := rfl
set_option maxRecDepth 100000 in
theorem dk3_9 : decode prog_5_method_1_code 9 = .ok (.putfield 9, 3) := rfl
set_option maxRecDepth 100000 in
theorem dk3_12 : decode prog_5_method_1_code 12 = .ok (.aload_n 0, 1) := rfl
set_option maxRecDepth 100000 in
theorem dk3_13 : decode prog_5_method_1_code 13 = .ok (.bipush 40, 2) := rfl
set_option maxRecDepth 100000 in
theorem dk3_15 : decode prog_5_method_1_code 15 = .ok (.newarray .int, 2) := rfl
set_option maxRecDepth 100000 in
theorem dk3_17 : decode prog_5_method_1_code 17 = .ok (.putfield 15, 3) := rfl
set_option maxRecDepth 100000 in
theorem dk3_20 : decode prog_5_method_1_code 20 = .ok (.aload_n 0, 1) := rfl
set_option maxRecDepth 100000 in
theorem dk3_21 : decode prog_5_method_1_code 21 = .ok (.bipush 40, 2) := rfl
set_option maxRecDepth 100000 in
theorem dk3_23 : decode prog_5_method_1_code 23 = .ok (.newarray .int, 2) := rfl
set_option maxRecDepth 100000 in
theorem dk3_25 : decode prog_5_method_1_code 25 = .ok (.putfield 18, 3) := rfl
set_option maxRecDepth 100000 in
theorem dk3_28 : decode prog_5_method_1_code 28 = .ok (.aload_n 0, 1) := rfl
set_option maxRecDepth 100000 in
theorem dk3_29 : decode prog_5_method_1_code 29 = .ok (.bipush 40, 2) := rfl
set_option maxRecDepth 100000 in
theorem dk3_31 : decode prog_5_method_1_code 31 = .ok (.newarray .int, 2) := rfl
set_option maxRecDepth 100000 in
theorem dk3_33 : decode prog_5_method_1_code 33 = .ok (.putfield 21, 3) := rfl
set_option maxRecDepth 100000 in
theorem dk3_36 : decode prog_5_method_1_code 36 = .ok (.return_, 1) := rfl
set_option maxHeartbeats 4000000 in
set_option maxRecDepth 100000 in
theorem ct_3 : CtorC ⟨Rn 3, "<init>", "()V"⟩ prog_5_method_1_code 1 1 40 4 160 [] 3 Lf3 := by
  refine ct_of (by decide) rfl rfl (by decide) ?_
  intro p l e s m args below meth c D tA b ls X hin g hl
  rw [dfl_3] at g
  refine lv_aload_n (i := 0) (x := b) X.1 X.2.1 dk3_0 rfl (lv_at hl 0 rfl) ?_
  refine c_obj X kw_7 kw_2 kw_3 hl.1 (by decide) dk3_1 ?_
  refine lv_aload_n (i := 0) (x := b) X.1 X.2.1 dk3_4 rfl (lv_at hl 0 rfl) ?_
  refine lv_bipush (v := iN ((40 : Nat) : Int)) X.1 X.2.1 dk3_5 (by decide) ?_
  refine c_newa (n := 40) (t := 0) X (by simp) (by omega) g (by decide) (by decide) dk3_7 kw_0 kw_1 (fun H1 g => ?_)
  have g : CG D b s ([.inr (3, [.null, .null, .null, .null, .int 0]), .inl (tA 0, (40, .inl (fun _ => 0)))]) H1 [] := g
  refine c_put (k := 0) (ty := .array .int) (v := .ref (b + 1)) X (by decide) g (by decide) (by simp) kw_8 (fun _ => hin) rfl rfl rfl rfl dk3_9 (fun H2 lc2 g => ?_)
  have g : CG D b s ([.inr (3, [.ref (b + 1), .null, .null, .null, .int 0]), .inl (tA 0, (40, .inl (fun _ => 0)))]) H2 lc2 := g
  refine lv_aload_n (i := 0) (x := b) X.1 X.2.1 dk3_12 rfl (lv_at hl 0 rfl) ?_
  refine lv_bipush (v := iN ((40 : Nat) : Int)) X.1 X.2.1 dk3_13 (by decide) ?_
  refine c_newa (n := 40) (t := 0) X (by simp) (by omega) g (by decide) (by decide) dk3_15 kw_0 kw_1 (fun H3 g => ?_)
  have g : CG D b s ([.inr (3, [.ref (b + 1), .null, .null, .null, .int 0]), .inl (tA 0, (40, .inl (fun _ => 0))), .inl (tA 0, (40, .inl (fun _ => 0)))]) H3 lc2 := g
  refine c_put (k := 1) (ty := .array .int) (v := .ref (b + 2)) X (by decide) g (by decide) (by simp) kw_9 (fun _ => hin) rfl rfl rfl rfl dk3_17 (fun H4 lc4 g => ?_)
  have g : CG D b s ([.inr (3, [.ref (b + 1), .ref (b + 2), .null, .null, .int 0]), .inl (tA 0, (40, .inl (fun _ => 0))), .inl (tA 0, (40, .inl (fun _ => 0)))]) H4 lc4 := g
  refine lv_aload_n (i := 0) (x := b) X.1 X.2.1 dk3_20 rfl (lv_at hl 0 rfl) ?_
  refine lv_bipush (v := iN ((40 : Nat) : Int)) X.1 X.2.1 dk3_21 (by decide) ?_
  refine c_newa (n := 40) (t := 0) X (by simp) (by omega) g (by decide) (by decide) dk3_23 kw_0 kw_1 (fun H5 g => ?_)
  have g : CG D b s ([.inr (3, [.ref (b + 1), .ref (b + 2), .null, .null, .int 0]), .inl (tA 0, (40, .inl (fun _ => 0))), .inl (tA 0, (40, .inl (fun _ => 0))), .inl (tA 0, (40, .inl (fun _ => 0)))]) H5 lc4 := g
  refine c_put (k := 2) (ty := .array .int) (v := .ref (b + 3)) X (by decide) g (by decide) (by simp) kw_10 (fun _ => hin) rfl rfl rfl rfl dk3_25 (fun H6 lc6 g => ?_)
  have g : CG D b s ([.inr (3, [.ref (b + 1), .ref (b + 2), .ref (b + 3), .null, .int 0]), .inl (tA 0, (40, .inl (fun _ => 0))), .inl (tA 0, (40, .inl (fun _ => 0))), .inl (tA 0, (40, .inl (fun _ => 0)))]) H6 lc6 := g
  refine lv_aload_n (i := 0) (x := b) X.1 X.2.1 dk3_28 rfl (lv_at hl 0 rfl) ?_
  refine lv_bipush (v := iN ((40 : Nat) : Int)) X.1 X.2.1 dk3_29 (by decide) ?_
  refine c_newa (n := 40) (t := 0) X (by simp) (by omega) g (by decide) (by decide) dk3_31 kw_0 kw_1 (fun H7 g => ?_)
  have g : CG D b s ([.inr (3, [.ref (b + 1), .ref (b + 2), .ref (b + 3), .null, .int 0]), .inl (tA 0, (40, .inl (fun _ => 0))), .inl (tA 0, (40, .inl (fun _ => 0))), .inl (tA 0, (40, .inl (fun _ => 0))), .inl (tA 0, (40, .inl (fun _ => 0)))]) H7 lc6 := g
  refine c_put (k := 3) (ty := .array .int) (v := .ref (b + 4)) X (by decide) g (by decide) (by simp) kw_11 (fun _ => hin) rfl rfl rfl rfl dk3_33 (fun H8 lc8 g => ?_)
  have g : CG D b s ([.inr (3, [.ref (b + 1), .ref (b + 2), .ref (b + 3), .ref (b + 4), .int 0]), .inl (tA 0, (40, .inl (fun _ => 0))), .inl (tA 0, (40, .inl (fun _ => 0))), .inl (tA 0, (40, .inl (fun _ => 0))), .inl (tA 0, (40, .inl (fun _ => 0)))]) H8 lc8 := g
  exact ct_ret X g dk3_36
set_option maxRecDepth 100000 in
theorem kw_12 : Cond.methodLink (Rn 4) 3 Lib.objectInit ∈ gW := gW_at (i := 537) rfl rfl
set_option maxRecDepth 100000 in
theorem kw_13 : Cond.fieldLink (Rn 4) 9 (Tc 4 0).1 (Tc 4 0).2.1 (Tc 4 0).2.2.1 ∈ gW := gW_at (i := 538) rfl rfl
set_option maxRecDepth 100000 in
theorem kw_14 : Cond.fieldLink (Rn 4) 15 (Tc 4 1).1 (Tc 4 1).2.1 (Tc 4 1).2.2.1 ∈ gW := gW_at (i := 539) rfl rfl
def Lf4 (tA : Nat → ClassId) (b : Nat) : List va_E := [.inr (4, [.ref (b + 1), .ref (b + 2), .int 0]), .inl (tA 0, (8, .inl (fun _ => 0))), .inl (tA 0, (8, .inl (fun _ => 0)))]
set_option maxRecDepth 100000 in
theorem dk4_0 : decode prog_6_method_1_code 0 = .ok (.aload_n 0, 1) := rfl
set_option maxRecDepth 100000 in
theorem dk4_1 : decode prog_6_method_1_code 1 = .ok (.invokespecial 3, 3) := rfl
set_option maxRecDepth 100000 in
theorem dk4_4 : decode prog_6_method_1_code 4 = .ok (.aload_n 0, 1) := rfl
set_option maxRecDepth 100000 in
theorem dk4_5 : decode prog_6_method_1_code 5 = .ok (.bipush 8, 2) := rfl
set_option maxRecDepth 100000 in
theorem dk4_7 : decode prog_6_method_1_code 7 = .ok (.newarray .int, 2) := rfl
set_option maxRecDepth 100000 in
theorem dk4_9 : decode prog_6_method_1_code 9 = .ok (.putfield 9, 3) := rfl
set_option maxRecDepth 100000 in
theorem dk4_12 : decode prog_6_method_1_code 12 = .ok (.aload_n 0, 1) := rfl
set_option maxRecDepth 100000 in
theorem dk4_13 : decode prog_6_method_1_code 13 = .ok (.bipush 8, 2) := rfl
set_option maxRecDepth 100000 in
theorem dk4_15 : decode prog_6_method_1_code 15 = .ok (.newarray .int, 2) := rfl
set_option maxRecDepth 100000 in
theorem dk4_17 : decode prog_6_method_1_code 17 = .ok (.putfield 15, 3) := rfl
set_option maxRecDepth 100000 in
theorem dk4_20 : decode prog_6_method_1_code 20 = .ok (.return_, 1) := rfl
set_option maxHeartbeats 4000000 in
set_option maxRecDepth 100000 in
theorem ct_4 : CtorC ⟨Rn 4, "<init>", "()V"⟩ prog_6_method_1_code 1 1 40 2 16 [] 4 Lf4 := by
  refine ct_of (by decide) rfl rfl (by decide) ?_
  intro p l e s m args below meth c D tA b ls X hin g hl
  rw [dfl_4] at g
  refine lv_aload_n (i := 0) (x := b) X.1 X.2.1 dk4_0 rfl (lv_at hl 0 rfl) ?_
  refine c_obj X kw_12 kw_2 kw_3 hl.1 (by decide) dk4_1 ?_
  refine lv_aload_n (i := 0) (x := b) X.1 X.2.1 dk4_4 rfl (lv_at hl 0 rfl) ?_
  refine lv_bipush (v := iN ((8 : Nat) : Int)) X.1 X.2.1 dk4_5 (by decide) ?_
  refine c_newa (n := 8) (t := 0) X (by simp) (by omega) g (by decide) (by decide) dk4_7 kw_0 kw_1 (fun H1 g => ?_)
  have g : CG D b s ([.inr (4, [.null, .null, .int 0]), .inl (tA 0, (8, .inl (fun _ => 0)))]) H1 [] := g
  refine c_put (k := 0) (ty := .array .int) (v := .ref (b + 1)) X (by decide) g (by decide) (by simp) kw_13 (fun _ => hin) rfl rfl rfl rfl dk4_9 (fun H2 lc2 g => ?_)
  have g : CG D b s ([.inr (4, [.ref (b + 1), .null, .int 0]), .inl (tA 0, (8, .inl (fun _ => 0)))]) H2 lc2 := g
  refine lv_aload_n (i := 0) (x := b) X.1 X.2.1 dk4_12 rfl (lv_at hl 0 rfl) ?_
  refine lv_bipush (v := iN ((8 : Nat) : Int)) X.1 X.2.1 dk4_13 (by decide) ?_
  refine c_newa (n := 8) (t := 0) X (by simp) (by omega) g (by decide) (by decide) dk4_15 kw_0 kw_1 (fun H3 g => ?_)
  have g : CG D b s ([.inr (4, [.ref (b + 1), .null, .int 0]), .inl (tA 0, (8, .inl (fun _ => 0))), .inl (tA 0, (8, .inl (fun _ => 0)))]) H3 lc2 := g
  refine c_put (k := 1) (ty := .array .int) (v := .ref (b + 2)) X (by decide) g (by decide) (by simp) kw_14 (fun _ => hin) rfl rfl rfl rfl dk4_17 (fun H4 lc4 g => ?_)
  have g : CG D b s ([.inr (4, [.ref (b + 1), .ref (b + 2), .int 0]), .inl (tA 0, (8, .inl (fun _ => 0))), .inl (tA 0, (8, .inl (fun _ => 0)))]) H4 lc4 := g
  exact ct_ret X g dk4_20
set_option maxRecDepth 100000 in
theorem kw_15 : Cond.methodLink (Rn 2) 3 Lib.objectInit ∈ gW := gW_at (i := 448) rfl rfl
set_option maxRecDepth 100000 in
theorem kw_16 : Cond.fieldLink (Rn 2) 9 (Tc 2 0).1 (Tc 2 0).2.1 (Tc 2 0).2.2.1 ∈ gW := gW_at (i := 449) rfl rfl
set_option maxRecDepth 100000 in
theorem kw_17 : Cond.fieldLink (Rn 2) 15 (Tc 2 1).1 (Tc 2 1).2.1 (Tc 2 1).2.2.1 ∈ gW := gW_at (i := 450) rfl rfl
set_option maxRecDepth 100000 in
theorem kw_18 : Cond.fieldLink (Rn 2) 18 (Tc 2 2).1 (Tc 2 2).2.1 (Tc 2 2).2.2.1 ∈ gW := gW_at (i := 451) rfl rfl
set_option maxRecDepth 100000 in
theorem kw_19 : Cond.fieldLink (Rn 2) 21 (Tc 2 3).1 (Tc 2 3).2.1 (Tc 2 3).2.2.1 ∈ gW := gW_at (i := 452) rfl rfl
def Lf2 (tA : Nat → ClassId) (b : Nat) : List va_E := [.inr (2, [.ref (b + 1), .ref (b + 2), .ref (b + 3), .ref (b + 4), .int 0, .int 0, .int 0]), .inl (tA 0, (8, .inl (fun _ => 0))), .inl (tA 0, (8, .inl (fun _ => 0))), .inl (tA 0, (8, .inl (fun _ => 0))), .inl (tA 0, (8, .inl (fun _ => 0)))]
set_option maxRecDepth 100000 in
theorem dk2_0 : decode prog_4_method_1_code 0 = .ok (.aload_n 0, 1) := rfl
set_option maxRecDepth 100000 in
theorem dk2_1 : decode prog_4_method_1_code 1 = .ok (.invokespecial 3, 3) := rfl
set_option maxRecDepth 100000 in
theorem dk2_4 : decode prog_4_method_1_code 4 = .ok (.aload_n 0, 1) := rfl
set_option maxRecDepth 100000 in
theorem dk2_5 : decode prog_4_method_1_code 5 = .ok (.bipush 8, 2) := rfl
set_option maxRecDepth 100000 in
theorem dk2_7 : decode prog_4_method_1_code 7 = .ok (.newarray .int, 2) := rfl
set_option maxRecDepth 100000 in
theorem dk2_9 : decode prog_4_method_1_code 9 = .ok (.putfield 9, 3) := rfl
set_option maxRecDepth 100000 in
theorem dk2_12 : decode prog_4_method_1_code 12 = .ok (.aload_n 0, 1) := rfl
set_option maxRecDepth 100000 in
theorem dk2_13 : decode prog_4_method_1_code 13 = .ok (.bipush 8, 2) := rfl
set_option maxRecDepth 100000 in
theorem dk2_15 : decode prog_4_method_1_code 15 = .ok (.newarray .int, 2) := rfl
set_option maxRecDepth 100000 in
theorem dk2_17 : decode prog_4_method_1_code 17 = .ok (.putfield 15, 3) := rfl
set_option maxRecDepth 100000 in
theorem dk2_20 : decode prog_4_method_1_code 20 = .ok (.aload_n 0, 1) := rfl
set_option maxRecDepth 100000 in
theorem dk2_21 : decode prog_4_method_1_code 21 = .ok (.bipush 8, 2) := rfl
set_option maxRecDepth 100000 in
theorem dk2_23 : decode prog_4_method_1_code 23 = .ok (.newarray .int, 2) := rfl
set_option maxRecDepth 100000 in
theorem dk2_25 : decode prog_4_method_1_code 25 = .ok (.putfield 18, 3) := rfl
set_option maxRecDepth 100000 in
theorem dk2_28 : decode prog_4_method_1_code 28 = .ok (.aload_n 0, 1) := rfl
set_option maxRecDepth 100000 in
theorem dk2_29 : decode prog_4_method_1_code 29 = .ok (.bipush 8, 2) := rfl
set_option maxRecDepth 100000 in
theorem dk2_31 : decode prog_4_method_1_code 31 = .ok (.newarray .int, 2) := rfl
set_option maxRecDepth 100000 in
theorem dk2_33 : decode prog_4_method_1_code 33 = .ok (.putfield 21, 3) := rfl
set_option maxRecDepth 100000 in
theorem dk2_36 : decode prog_4_method_1_code 36 = .ok (.return_, 1) := rfl
set_option maxHeartbeats 4000000 in
set_option maxRecDepth 100000 in
theorem ct_2 : CtorC ⟨Rn 2, "<init>", "()V"⟩ prog_4_method_1_code 1 1 40 4 32 [] 2 Lf2 := by
  refine ct_of (by decide) rfl rfl (by decide) ?_
  intro p l e s m args below meth c D tA b ls X hin g hl
  rw [dfl_2] at g
  refine lv_aload_n (i := 0) (x := b) X.1 X.2.1 dk2_0 rfl (lv_at hl 0 rfl) ?_
  refine c_obj X kw_15 kw_2 kw_3 hl.1 (by decide) dk2_1 ?_
  refine lv_aload_n (i := 0) (x := b) X.1 X.2.1 dk2_4 rfl (lv_at hl 0 rfl) ?_
  refine lv_bipush (v := iN ((8 : Nat) : Int)) X.1 X.2.1 dk2_5 (by decide) ?_
  refine c_newa (n := 8) (t := 0) X (by simp) (by omega) g (by decide) (by decide) dk2_7 kw_0 kw_1 (fun H1 g => ?_)
  have g : CG D b s ([.inr (2, [.null, .null, .null, .null, .int 0, .int 0, .int 0]), .inl (tA 0, (8, .inl (fun _ => 0)))]) H1 [] := g
  refine c_put (k := 0) (ty := .array .int) (v := .ref (b + 1)) X (by decide) g (by decide) (by simp) kw_16 (fun _ => hin) rfl rfl rfl rfl dk2_9 (fun H2 lc2 g => ?_)
  have g : CG D b s ([.inr (2, [.ref (b + 1), .null, .null, .null, .int 0, .int 0, .int 0]), .inl (tA 0, (8, .inl (fun _ => 0)))]) H2 lc2 := g
  refine lv_aload_n (i := 0) (x := b) X.1 X.2.1 dk2_12 rfl (lv_at hl 0 rfl) ?_
  refine lv_bipush (v := iN ((8 : Nat) : Int)) X.1 X.2.1 dk2_13 (by decide) ?_
  refine c_newa (n := 8) (t := 0) X (by simp) (by omega) g (by decide) (by decide) dk2_15 kw_0 kw_1 (fun H3 g => ?_)
  have g : CG D b s ([.inr (2, [.ref (b + 1), .null, .null, .null, .int 0, .int 0, .int 0]), .inl (tA 0, (8, .inl (fun _ => 0))), .inl (tA 0, (8, .inl (fun _ => 0)))]) H3 lc2 := g
  refine c_put (k := 1) (ty := .array .int) (v := .ref (b + 2)) X (by decide) g (by decide) (by simp) kw_17 (fun _ => hin) rfl rfl rfl rfl dk2_17 (fun H4 lc4 g => ?_)
  have g : CG D b s ([.inr (2, [.ref (b + 1), .ref (b + 2), .null, .null, .int 0, .int 0, .int 0]), .inl (tA 0, (8, .inl (fun _ => 0))), .inl (tA 0, (8, .inl (fun _ => 0)))]) H4 lc4 := g
  refine lv_aload_n (i := 0) (x := b) X.1 X.2.1 dk2_20 rfl (lv_at hl 0 rfl) ?_
  refine lv_bipush (v := iN ((8 : Nat) : Int)) X.1 X.2.1 dk2_21 (by decide) ?_
  refine c_newa (n := 8) (t := 0) X (by simp) (by omega) g (by decide) (by decide) dk2_23 kw_0 kw_1 (fun H5 g => ?_)
  have g : CG D b s ([.inr (2, [.ref (b + 1), .ref (b + 2), .null, .null, .int 0, .int 0, .int 0]), .inl (tA 0, (8, .inl (fun _ => 0))), .inl (tA 0, (8, .inl (fun _ => 0))), .inl (tA 0, (8, .inl (fun _ => 0)))]) H5 lc4 := g
  refine c_put (k := 2) (ty := .array .int) (v := .ref (b + 3)) X (by decide) g (by decide) (by simp) kw_18 (fun _ => hin) rfl rfl rfl rfl dk2_25 (fun H6 lc6 g => ?_)
  have g : CG D b s ([.inr (2, [.ref (b + 1), .ref (b + 2), .ref (b + 3), .null, .int 0, .int 0, .int 0]), .inl (tA 0, (8, .inl (fun _ => 0))), .inl (tA 0, (8, .inl (fun _ => 0))), .inl (tA 0, (8, .inl (fun _ => 0)))]) H6 lc6 := g
  refine lv_aload_n (i := 0) (x := b) X.1 X.2.1 dk2_28 rfl (lv_at hl 0 rfl) ?_
  refine lv_bipush (v := iN ((8 : Nat) : Int)) X.1 X.2.1 dk2_29 (by decide) ?_
  refine c_newa (n := 8) (t := 0) X (by simp) (by omega) g (by decide) (by decide) dk2_31 kw_0 kw_1 (fun H7 g => ?_)
  have g : CG D b s ([.inr (2, [.ref (b + 1), .ref (b + 2), .ref (b + 3), .null, .int 0, .int 0, .int 0]), .inl (tA 0, (8, .inl (fun _ => 0))), .inl (tA 0, (8, .inl (fun _ => 0))), .inl (tA 0, (8, .inl (fun _ => 0))), .inl (tA 0, (8, .inl (fun _ => 0)))]) H7 lc6 := g
  refine c_put (k := 3) (ty := .array .int) (v := .ref (b + 4)) X (by decide) g (by decide) (by simp) kw_19 (fun _ => hin) rfl rfl rfl rfl dk2_33 (fun H8 lc8 g => ?_)
  have g : CG D b s ([.inr (2, [.ref (b + 1), .ref (b + 2), .ref (b + 3), .ref (b + 4), .int 0, .int 0, .int 0]), .inl (tA 0, (8, .inl (fun _ => 0))), .inl (tA 0, (8, .inl (fun _ => 0))), .inl (tA 0, (8, .inl (fun _ => 0))), .inl (tA 0, (8, .inl (fun _ => 0)))]) H8 lc8 := g
  exact ct_ret X g dk2_36
set_option maxRecDepth 100000 in
theorem kw_20 : Cond.methodLink (Rn 10) 3 Lib.objectInit ∈ gW := gW_at (i := 416) rfl rfl
set_option maxRecDepth 100000 in
theorem kw_21 : Cond.fieldLink (Rn 10) 9 (Tc 10 0).1 (Tc 10 0).2.1 (Tc 10 0).2.2.1 ∈ gW := gW_at (i := 417) rfl rfl
set_option maxRecDepth 100000 in
theorem kw_22 : Cond.fieldLink (Rn 10) 15 (Tc 10 1).1 (Tc 10 1).2.1 (Tc 10 1).2.2.1 ∈ gW := gW_at (i := 418) rfl rfl
set_option maxRecDepth 100000 in
theorem kw_23 : Cond.fieldLink (Rn 10) 18 (Tc 10 2).1 (Tc 10 2).2.1 (Tc 10 2).2.2.1 ∈ gW := gW_at (i := 419) rfl rfl
set_option maxRecDepth 100000 in
theorem kw_24 : Cond.fieldLink (Rn 10) 21 (Tc 10 3).1 (Tc 10 3).2.1 (Tc 10 3).2.2.1 ∈ gW := gW_at (i := 420) rfl rfl
set_option maxRecDepth 100000 in
theorem kw_25 : Cond.fieldLink (Rn 10) 24 (Tc 10 4).1 (Tc 10 4).2.1 (Tc 10 4).2.2.1 ∈ gW := gW_at (i := 421) rfl rfl
set_option maxRecDepth 100000 in
theorem kw_26 : Cond.fieldLink (Rn 10) 28 (Tc 10 5).1 (Tc 10 5).2.1 (Tc 10 5).2.2.1 ∈ gW := gW_at (i := 422) rfl rfl
set_option maxRecDepth 100000 in
theorem kw_27 : Cond.fieldLink (Rn 10) 31 (Tc 10 6).1 (Tc 10 6).2.1 (Tc 10 6).2.2.1 ∈ gW := gW_at (i := 423) rfl rfl
def Lf10 (tA : Nat → ClassId) (b : Nat) : List va_E := [.inr (10, [.ref (b + 1), .ref (b + 2), .ref (b + 3), .ref (b + 4), .ref (b + 5), .ref (b + 6), .ref (b + 7), .int 0]), .inl (tA 0, (28, .inl (fun _ => 0))), .inl (tA 0, (28, .inl (fun _ => 0))), .inl (tA 0, (28, .inl (fun _ => 0))), .inl (tA 0, (28, .inl (fun _ => 0))), .inl (tA 1, (28, .inl (fun _ => 0))), .inl (tA 0, (8, .inl (fun _ => 0))), .inl (tA 0, (8, .inl (fun _ => 0)))]
set_option maxRecDepth 100000 in
theorem dk10_0 : decode prog_12_method_1_code 0 = .ok (.aload_n 0, 1) := rfl
set_option maxRecDepth 100000 in
theorem dk10_1 : decode prog_12_method_1_code 1 = .ok (.invokespecial 3, 3) := rfl
set_option maxRecDepth 100000 in
theorem dk10_4 : decode prog_12_method_1_code 4 = .ok (.aload_n 0, 1) := rfl
set_option maxRecDepth 100000 in
theorem dk10_5 : decode prog_12_method_1_code 5 = .ok (.bipush 28, 2) := rfl
set_option maxRecDepth 100000 in
theorem dk10_7 : decode prog_12_method_1_code 7 = .ok (.newarray .int, 2) := rfl
set_option maxRecDepth 100000 in
theorem dk10_9 : decode prog_12_method_1_code 9 = .ok (.putfield 9, 3) := rfl
set_option maxRecDepth 100000 in
theorem dk10_12 : decode prog_12_method_1_code 12 = .ok (.aload_n 0, 1) := rfl
set_option maxRecDepth 100000 in
theorem dk10_13 : decode prog_12_method_1_code 13 = .ok (.bipush 28, 2) := rfl
set_option maxRecDepth 100000 in
theorem dk10_15 : decode prog_12_method_1_code 15 = .ok (.newarray .int, 2) := rfl
set_option maxRecDepth 100000 in
theorem dk10_17 : decode prog_12_method_1_code 17 = .ok (.putfield 15, 3) := rfl
set_option maxRecDepth 100000 in
theorem dk10_20 : decode prog_12_method_1_code 20 = .ok (.aload_n 0, 1) := rfl
set_option maxRecDepth 100000 in
theorem dk10_21 : decode prog_12_method_1_code 21 = .ok (.bipush 28, 2) := rfl
set_option maxRecDepth 100000 in
theorem dk10_23 : decode prog_12_method_1_code 23 = .ok (.newarray .int, 2) := rfl
set_option maxRecDepth 100000 in
theorem dk10_25 : decode prog_12_method_1_code 25 = .ok (.putfield 18, 3) := rfl
set_option maxRecDepth 100000 in
theorem dk10_28 : decode prog_12_method_1_code 28 = .ok (.aload_n 0, 1) := rfl
set_option maxRecDepth 100000 in
theorem dk10_29 : decode prog_12_method_1_code 29 = .ok (.bipush 28, 2) := rfl
set_option maxRecDepth 100000 in
theorem dk10_31 : decode prog_12_method_1_code 31 = .ok (.newarray .int, 2) := rfl
set_option maxRecDepth 100000 in
theorem dk10_33 : decode prog_12_method_1_code 33 = .ok (.putfield 21, 3) := rfl
set_option maxRecDepth 100000 in
theorem dk10_36 : decode prog_12_method_1_code 36 = .ok (.aload_n 0, 1) := rfl
set_option maxRecDepth 100000 in
theorem dk10_37 : decode prog_12_method_1_code 37 = .ok (.bipush 28, 2) := rfl
set_option maxRecDepth 100000 in
theorem dk10_39 : decode prog_12_method_1_code 39 = .ok (.newarray .boolean, 2) := rfl
set_option maxRecDepth 100000 in
theorem dk10_41 : decode prog_12_method_1_code 41 = .ok (.putfield 24, 3) := rfl
set_option maxRecDepth 100000 in
theorem dk10_44 : decode prog_12_method_1_code 44 = .ok (.aload_n 0, 1) := rfl
set_option maxRecDepth 100000 in
theorem dk10_45 : decode prog_12_method_1_code 45 = .ok (.bipush 8, 2) := rfl
set_option maxRecDepth 100000 in
theorem dk10_47 : decode prog_12_method_1_code 47 = .ok (.newarray .int, 2) := rfl
set_option maxRecDepth 100000 in
theorem dk10_49 : decode prog_12_method_1_code 49 = .ok (.putfield 28, 3) := rfl
set_option maxRecDepth 100000 in
theorem dk10_52 : decode prog_12_method_1_code 52 = .ok (.aload_n 0, 1) := rfl
set_option maxRecDepth 100000 in
theorem dk10_53 : decode prog_12_method_1_code 53 = .ok (.bipush 8, 2) := rfl
set_option maxRecDepth 100000 in
theorem dk10_55 : decode prog_12_method_1_code 55 = .ok (.newarray .int, 2) := rfl
set_option maxRecDepth 100000 in
theorem dk10_57 : decode prog_12_method_1_code 57 = .ok (.putfield 31, 3) := rfl
set_option maxRecDepth 100000 in
theorem dk10_60 : decode prog_12_method_1_code 60 = .ok (.return_, 1) := rfl
set_option maxHeartbeats 4000000 in
set_option maxRecDepth 100000 in
theorem ct_10 : CtorC ⟨Rn 10, "<init>", "()V"⟩ prog_12_method_1_code 1 1 40 7 156 [] 10 Lf10 := by
  refine ct_of (by decide) rfl rfl (by decide) ?_
  intro p l e s m args below meth c D tA b ls X hin g hl
  rw [dfl_10] at g
  refine lv_aload_n (i := 0) (x := b) X.1 X.2.1 dk10_0 rfl (lv_at hl 0 rfl) ?_
  refine c_obj X kw_20 kw_2 kw_3 hl.1 (by decide) dk10_1 ?_
  refine lv_aload_n (i := 0) (x := b) X.1 X.2.1 dk10_4 rfl (lv_at hl 0 rfl) ?_
  refine lv_bipush (v := iN ((28 : Nat) : Int)) X.1 X.2.1 dk10_5 (by decide) ?_
  refine c_newa (n := 28) (t := 0) X (by simp) (by omega) g (by decide) (by decide) dk10_7 kw_0 kw_1 (fun H1 g => ?_)
  have g : CG D b s ([.inr (10, [.null, .null, .null, .null, .null, .null, .null, .int 0]), .inl (tA 0, (28, .inl (fun _ => 0)))]) H1 [] := g
  refine c_put (k := 0) (ty := .array .int) (v := .ref (b + 1)) X (by decide) g (by decide) (by simp) kw_21 (fun _ => hin) rfl rfl rfl rfl dk10_9 (fun H2 lc2 g => ?_)
  have g : CG D b s ([.inr (10, [.ref (b + 1), .null, .null, .null, .null, .null, .null, .int 0]), .inl (tA 0, (28, .inl (fun _ => 0)))]) H2 lc2 := g
  refine lv_aload_n (i := 0) (x := b) X.1 X.2.1 dk10_12 rfl (lv_at hl 0 rfl) ?_
  refine lv_bipush (v := iN ((28 : Nat) : Int)) X.1 X.2.1 dk10_13 (by decide) ?_
  refine c_newa (n := 28) (t := 0) X (by simp) (by omega) g (by decide) (by decide) dk10_15 kw_0 kw_1 (fun H3 g => ?_)
  have g : CG D b s ([.inr (10, [.ref (b + 1), .null, .null, .null, .null, .null, .null, .int 0]), .inl (tA 0, (28, .inl (fun _ => 0))), .inl (tA 0, (28, .inl (fun _ => 0)))]) H3 lc2 := g
  refine c_put (k := 1) (ty := .array .int) (v := .ref (b + 2)) X (by decide) g (by decide) (by simp) kw_22 (fun _ => hin) rfl rfl rfl rfl dk10_17 (fun H4 lc4 g => ?_)
  have g : CG D b s ([.inr (10, [.ref (b + 1), .ref (b + 2), .null, .null, .null, .null, .null, .int 0]), .inl (tA 0, (28, .inl (fun _ => 0))), .inl (tA 0, (28, .inl (fun _ => 0)))]) H4 lc4 := g
  refine lv_aload_n (i := 0) (x := b) X.1 X.2.1 dk10_20 rfl (lv_at hl 0 rfl) ?_
  refine lv_bipush (v := iN ((28 : Nat) : Int)) X.1 X.2.1 dk10_21 (by decide) ?_
  refine c_newa (n := 28) (t := 0) X (by simp) (by omega) g (by decide) (by decide) dk10_23 kw_0 kw_1 (fun H5 g => ?_)
  have g : CG D b s ([.inr (10, [.ref (b + 1), .ref (b + 2), .null, .null, .null, .null, .null, .int 0]), .inl (tA 0, (28, .inl (fun _ => 0))), .inl (tA 0, (28, .inl (fun _ => 0))), .inl (tA 0, (28, .inl (fun _ => 0)))]) H5 lc4 := g
  refine c_put (k := 2) (ty := .array .int) (v := .ref (b + 3)) X (by decide) g (by decide) (by simp) kw_23 (fun _ => hin) rfl rfl rfl rfl dk10_25 (fun H6 lc6 g => ?_)
  have g : CG D b s ([.inr (10, [.ref (b + 1), .ref (b + 2), .ref (b + 3), .null, .null, .null, .null, .int 0]), .inl (tA 0, (28, .inl (fun _ => 0))), .inl (tA 0, (28, .inl (fun _ => 0))), .inl (tA 0, (28, .inl (fun _ => 0)))]) H6 lc6 := g
  refine lv_aload_n (i := 0) (x := b) X.1 X.2.1 dk10_28 rfl (lv_at hl 0 rfl) ?_
  refine lv_bipush (v := iN ((28 : Nat) : Int)) X.1 X.2.1 dk10_29 (by decide) ?_
  refine c_newa (n := 28) (t := 0) X (by simp) (by omega) g (by decide) (by decide) dk10_31 kw_0 kw_1 (fun H7 g => ?_)
  have g : CG D b s ([.inr (10, [.ref (b + 1), .ref (b + 2), .ref (b + 3), .null, .null, .null, .null, .int 0]), .inl (tA 0, (28, .inl (fun _ => 0))), .inl (tA 0, (28, .inl (fun _ => 0))), .inl (tA 0, (28, .inl (fun _ => 0))), .inl (tA 0, (28, .inl (fun _ => 0)))]) H7 lc6 := g
  refine c_put (k := 3) (ty := .array .int) (v := .ref (b + 4)) X (by decide) g (by decide) (by simp) kw_24 (fun _ => hin) rfl rfl rfl rfl dk10_33 (fun H8 lc8 g => ?_)
  have g : CG D b s ([.inr (10, [.ref (b + 1), .ref (b + 2), .ref (b + 3), .ref (b + 4), .null, .null, .null, .int 0]), .inl (tA 0, (28, .inl (fun _ => 0))), .inl (tA 0, (28, .inl (fun _ => 0))), .inl (tA 0, (28, .inl (fun _ => 0))), .inl (tA 0, (28, .inl (fun _ => 0)))]) H8 lc8 := g
  refine lv_aload_n (i := 0) (x := b) X.1 X.2.1 dk10_36 rfl (lv_at hl 0 rfl) ?_
  refine lv_bipush (v := iN ((28 : Nat) : Int)) X.1 X.2.1 dk10_37 (by decide) ?_
  refine c_newa (n := 28) (t := 1) X (by simp) (by omega) g (by decide) (by decide) dk10_39 kw_0 kw_1 (fun H9 g => ?_)
  have g : CG D b s ([.inr (10, [.ref (b + 1), .ref (b + 2), .ref (b + 3), .ref (b + 4), .null, .null, .null, .int 0]), .inl (tA 0, (28, .inl (fun _ => 0))), .inl (tA 0, (28, .inl (fun _ => 0))), .inl (tA 0, (28, .inl (fun _ => 0))), .inl (tA 0, (28, .inl (fun _ => 0))), .inl (tA 1, (28, .inl (fun _ => 0)))]) H9 lc8 := g
  refine c_put (k := 4) (ty := .array .boolean) (v := .ref (b + 5)) X (by decide) g (by decide) (by simp) kw_25 (fun _ => hin) rfl rfl rfl rfl dk10_41 (fun H10 lc10 g => ?_)
  have g : CG D b s ([.inr (10, [.ref (b + 1), .ref (b + 2), .ref (b + 3), .ref (b + 4), .ref (b + 5), .null, .null, .int 0]), .inl (tA 0, (28, .inl (fun _ => 0))), .inl (tA 0, (28, .inl (fun _ => 0))), .inl (tA 0, (28, .inl (fun _ => 0))), .inl (tA 0, (28, .inl (fun _ => 0))), .inl (tA 1, (28, .inl (fun _ => 0)))]) H10 lc10 := g
  refine lv_aload_n (i := 0) (x := b) X.1 X.2.1 dk10_44 rfl (lv_at hl 0 rfl) ?_
  refine lv_bipush (v := iN ((8 : Nat) : Int)) X.1 X.2.1 dk10_45 (by decide) ?_
  refine c_newa (n := 8) (t := 0) X (by simp) (by omega) g (by decide) (by decide) dk10_47 kw_0 kw_1 (fun H11 g => ?_)
  have g : CG D b s ([.inr (10, [.ref (b + 1), .ref (b + 2), .ref (b + 3), .ref (b + 4), .ref (b + 5), .null, .null, .int 0]), .inl (tA 0, (28, .inl (fun _ => 0))), .inl (tA 0, (28, .inl (fun _ => 0))), .inl (tA 0, (28, .inl (fun _ => 0))), .inl (tA 0, (28, .inl (fun _ => 0))), .inl (tA 1, (28, .inl (fun _ => 0))), .inl (tA 0, (8, .inl (fun _ => 0)))]) H11 lc10 := g
  refine c_put (k := 5) (ty := .array .int) (v := .ref (b + 6)) X (by decide) g (by decide) (by simp) kw_26 (fun _ => hin) rfl rfl rfl rfl dk10_49 (fun H12 lc12 g => ?_)
  have g : CG D b s ([.inr (10, [.ref (b + 1), .ref (b + 2), .ref (b + 3), .ref (b + 4), .ref (b + 5), .ref (b + 6), .null, .int 0]), .inl (tA 0, (28, .inl (fun _ => 0))), .inl (tA 0, (28, .inl (fun _ => 0))), .inl (tA 0, (28, .inl (fun _ => 0))), .inl (tA 0, (28, .inl (fun _ => 0))), .inl (tA 1, (28, .inl (fun _ => 0))), .inl (tA 0, (8, .inl (fun _ => 0)))]) H12 lc12 := g
  refine lv_aload_n (i := 0) (x := b) X.1 X.2.1 dk10_52 rfl (lv_at hl 0 rfl) ?_
  refine lv_bipush (v := iN ((8 : Nat) : Int)) X.1 X.2.1 dk10_53 (by decide) ?_
  refine c_newa (n := 8) (t := 0) X (by simp) (by omega) g (by decide) (by decide) dk10_55 kw_0 kw_1 (fun H13 g => ?_)
  have g : CG D b s ([.inr (10, [.ref (b + 1), .ref (b + 2), .ref (b + 3), .ref (b + 4), .ref (b + 5), .ref (b + 6), .null, .int 0]), .inl (tA 0, (28, .inl (fun _ => 0))), .inl (tA 0, (28, .inl (fun _ => 0))), .inl (tA 0, (28, .inl (fun _ => 0))), .inl (tA 0, (28, .inl (fun _ => 0))), .inl (tA 1, (28, .inl (fun _ => 0))), .inl (tA 0, (8, .inl (fun _ => 0))), .inl (tA 0, (8, .inl (fun _ => 0)))]) H13 lc12 := g
  refine c_put (k := 6) (ty := .array .int) (v := .ref (b + 7)) X (by decide) g (by decide) (by simp) kw_27 (fun _ => hin) rfl rfl rfl rfl dk10_57 (fun H14 lc14 g => ?_)
  have g : CG D b s ([.inr (10, [.ref (b + 1), .ref (b + 2), .ref (b + 3), .ref (b + 4), .ref (b + 5), .ref (b + 6), .ref (b + 7), .int 0]), .inl (tA 0, (28, .inl (fun _ => 0))), .inl (tA 0, (28, .inl (fun _ => 0))), .inl (tA 0, (28, .inl (fun _ => 0))), .inl (tA 0, (28, .inl (fun _ => 0))), .inl (tA 1, (28, .inl (fun _ => 0))), .inl (tA 0, (8, .inl (fun _ => 0))), .inl (tA 0, (8, .inl (fun _ => 0)))]) H14 lc14 := g
  exact ct_ret X g dk10_60
set_option maxRecDepth 100000 in
theorem kw_28 : Cond.methodLink (Rn 7) 3 Lib.objectInit ∈ gW := gW_at (i := 324) rfl rfl
def Lf7 (tA : Nat → ClassId) (b : Nat) : List va_E := [.inr (7, [.int 0, .int 0, .int 0, .int 0])]
set_option maxRecDepth 100000 in
theorem dk7_0 : decode prog_9_method_1_code 0 = .ok (.aload_n 0, 1) := rfl
set_option maxRecDepth 100000 in
theorem dk7_1 : decode prog_9_method_1_code 1 = .ok (.invokespecial 3, 3) := rfl
set_option maxRecDepth 100000 in
theorem dk7_4 : decode prog_9_method_1_code 4 = .ok (.return_, 1) := rfl
set_option maxHeartbeats 4000000 in
set_option maxRecDepth 100000 in
theorem ct_7 : CtorC ⟨Rn 7, "<init>", "()V"⟩ prog_9_method_1_code 1 1 40 0 0 [] 7 Lf7 := by
  refine ct_of (by decide) rfl rfl (by decide) ?_
  intro p l e s m args below meth c D tA b ls X hin g hl
  rw [dfl_7] at g
  refine lv_aload_n (i := 0) (x := b) X.1 X.2.1 dk7_0 rfl (lv_at hl 0 rfl) ?_
  refine c_obj X kw_28 kw_2 kw_3 hl.1 (by decide) dk7_1 ?_
  exact ct_ret X g dk7_4
set_option maxRecDepth 100000 in
theorem kw_29 : Cond.methodLink (Rn 1) 3 Lib.objectInit ∈ gW := gW_at (i := 349) rfl rfl
set_option maxRecDepth 100000 in
theorem kw_30 : Cond.classLink (Rn 1) 9 (Rn 7) ∈ gW := gW_at (i := 350) rfl rfl
set_option maxRecDepth 100000 in
theorem kw_31 : Cond.instantiable (Rn 7) (Nc 7) ∈ gW := gW_at (i := 320) rfl rfl
set_option maxRecDepth 100000 in
theorem kw_32 : Cond.initialized (Rn 7) ∈ gW := gW_at (i := 110) rfl rfl
set_option maxRecDepth 100000 in
theorem kw_33 : Cond.instanceMethod ⟨Rn 7, "<init>", "()V"⟩ ∈ gW := gW_at (i := 322) rfl rfl
set_option maxRecDepth 100000 in
theorem kw_34 : Cond.code ⟨Rn 7, "<init>", "()V"⟩ prog_9_method_1_code 1 none ∈ gW := gW_at (i := 323) rfl rfl
set_option maxRecDepth 100000 in
theorem kt_0 : Cond.methodLinkNest (Rn 1) 11 ⟨Rn 7, "<init>", "()V"⟩ "RingDater" ∈ lw_tbl := List.mem_of_getElem? (i := 351) rfl
set_option maxRecDepth 100000 in
theorem kw_35 : Cond.fieldLink (Rn 1) 12 (Tc 1 0).1 (Tc 1 0).2.1 (Tc 1 0).2.2.1 ∈ gW := gW_at (i := 352) rfl rfl
def Lf1 (tA : Nat → ClassId) (b : Nat) : List va_E := ([.inr (1, [.ref (b + 1), .int 0, .int 0, .int 0, .int 0, .int 0])]) ++ Lf7 tA (b + 1)
set_option maxRecDepth 100000 in
theorem dk1_0 : decode prog_3_method_1_code 0 = .ok (.aload_n 0, 1) := rfl
set_option maxRecDepth 100000 in
theorem dk1_1 : decode prog_3_method_1_code 1 = .ok (.invokespecial 3, 3) := rfl
set_option maxRecDepth 100000 in
theorem dk1_4 : decode prog_3_method_1_code 4 = .ok (.aload_n 0, 1) := rfl
set_option maxRecDepth 100000 in
theorem dk1_5 : decode prog_3_method_1_code 5 = .ok (.new 9, 3) := rfl
set_option maxRecDepth 100000 in
theorem dk1_8 : decode prog_3_method_1_code 8 = .ok (.dup, 1) := rfl
set_option maxRecDepth 100000 in
theorem dk1_9 : decode prog_3_method_1_code 9 = .ok (.invokespecial 11, 3) := rfl
set_option maxRecDepth 100000 in
theorem dk1_12 : decode prog_3_method_1_code 12 = .ok (.putfield 12, 3) := rfl
set_option maxRecDepth 100000 in
theorem dk1_15 : decode prog_3_method_1_code 15 = .ok (.return_, 1) := rfl
set_option maxHeartbeats 4000000 in
set_option maxRecDepth 100000 in
theorem ct_1 : CtorC ⟨Rn 1, "<init>", "()V"⟩ prog_3_method_1_code 1 2 80 1 4 [] 1 Lf1 := by
  refine ct_of (by decide) rfl rfl (by decide) ?_
  intro p l e s m args below meth c D tA b ls X hin g hl
  rw [dfl_1] at g
  refine lv_aload_n (i := 0) (x := b) X.1 X.2.1 dk1_0 rfl (lv_at hl 0 rfl) ?_
  refine c_obj X kw_29 kw_2 kw_3 hl.1 (by decide) dk1_1 ?_
  refine lv_aload_n (i := 0) (x := b) X.1 X.2.1 dk1_4 rfl (lv_at hl 0 rfl) ?_
  refine c_new (ci := 7) X (by decide) g kw_30 kw_31 kw_32 (by decide) (by decide) dk1_5 (fun H1 g => ?_)
  refine lv_dup X.1 X.2.1 dk1_8 rfl ?_
  refine c_callN (L := [.inr (1, [.null, .int 0, .int 0, .int 0, .int 0, .int 0])]) (rest := [.ref (b + 1), .ref b]) ct_7 X g kt_0 kw_32 kw_33 kw_34 rfl ⟨by decide, by decide, by decide⟩ ⟨by decide, by decide⟩ ⟨by decide, by decide⟩ hl.1 (by simp [Value.category]) rfl dk1_9 (fun H2 lc2 g => ?_)
  have g : CG D b s (([.inr (1, [.null, .int 0, .int 0, .int 0, .int 0, .int 0])]) ++ Lf7 tA (b + 1)) H2 lc2 := g
  refine c_put (k := 0) (ty := .object "RingDater$Slide") (v := .ref (b + 1)) X (by decide) g (by decide) (by simp) kw_35 (fun _ => hin) rfl rfl rfl rfl dk1_12 (fun H3 lc3 g => ?_)
  have g : CG D b s (([.inr (1, [.ref (b + 1), .int 0, .int 0, .int 0, .int 0, .int 0])]) ++ Lf7 tA (b + 1)) H3 lc3 := g
  exact ct_ret X g dk1_15
set_option maxRecDepth 100000 in
theorem kw_36 : Cond.methodLink (Rn 6) 3 Lib.objectInit ∈ gW := gW_at (i := 284) rfl rfl
set_option maxRecDepth 100000 in
theorem kw_37 : Cond.methodLink (Rn 6) 9 Lib.Math.min.name ∈ gW := gW_at (i := 285) rfl rfl
set_option maxRecDepth 100000 in
theorem kw_38 : Cond.static Lib.Math.min.name ∈ gW := gW_at (i := 286) rfl rfl
set_option maxRecDepth 100000 in
theorem kw_39 : Cond.initialized "java/lang/Math" ∈ gW := gW_at (i := 109) rfl rfl
set_option maxRecDepth 100000 in
theorem kw_40 : Cond.code Lib.Math.min.name Lib.Math.min.code 2 (some .int) ∈ gW := gW_at (i := 287) rfl rfl
set_option maxRecDepth 100000 in
theorem kw_41 : Cond.methodLink (Rn 6) 15 Lib.Math.max.name ∈ gW := gW_at (i := 288) rfl rfl
set_option maxRecDepth 100000 in
theorem kw_42 : Cond.static Lib.Math.max.name ∈ gW := gW_at (i := 289) rfl rfl
set_option maxRecDepth 100000 in
theorem kw_43 : Cond.code Lib.Math.max.name Lib.Math.max.code 2 (some .int) ∈ gW := gW_at (i := 290) rfl rfl
set_option maxRecDepth 100000 in
theorem kw_44 : Cond.fieldLink (Rn 6) 18 (Tc 6 0).1 (Tc 6 0).2.1 (Tc 6 0).2.2.1 ∈ gW := gW_at (i := 291) rfl rfl
set_option maxRecDepth 100000 in
theorem kw_45 : Cond.fieldLink (Rn 6) 24 (Tc 6 1).1 (Tc 6 1).2.1 (Tc 6 1).2.2.1 ∈ gW := gW_at (i := 292) rfl rfl
set_option maxRecDepth 100000 in
theorem kw_46 : Cond.fieldLink (Rn 6) 28 (Tc 6 2).1 (Tc 6 2).2.1 (Tc 6 2).2.2.1 ∈ gW := gW_at (i := 293) rfl rfl
set_option maxRecDepth 100000 in
theorem kw_47 : Cond.fieldLink (Rn 6) 32 (Tc 6 3).1 (Tc 6 3).2.1 (Tc 6 3).2.2.1 ∈ gW := gW_at (i := 294) rfl rfl
set_option maxRecDepth 100000 in
theorem kw_48 : Cond.fieldLink (Rn 6) 35 (Tc 6 4).1 (Tc 6 4).2.1 (Tc 6 4).2.2.1 ∈ gW := gW_at (i := 295) rfl rfl
set_option maxRecDepth 100000 in
theorem kw_49 : Cond.fieldLink (Rn 6) 38 (Tc 6 5).1 (Tc 6 5).2.1 (Tc 6 5).2.2.1 ∈ gW := gW_at (i := 296) rfl rfl
set_option maxRecDepth 100000 in
theorem kw_50 : Cond.fieldLink (Rn 6) 41 (Tc 6 6).1 (Tc 6 6).2.1 (Tc 6 6).2.2.1 ∈ gW := gW_at (i := 297) rfl rfl
def Lf6_24 (tA : Nat → ClassId) (b : Nat) : List va_E := [.inr (6, [.int (iN ((24 : Nat) : Int)), .ref (b + 1), .ref (b + 2), .ref (b + 3), .ref (b + 4), .ref (b + 5), .ref (b + 6), .int 0]), .inl (tA 0, (24, .inl (fun _ => 0))), .inl (tA 1, (24, .inl (fun _ => 0))), .inl (tA 1, (24, .inl (fun _ => 0))), .inl (tA 0, (24, .inl (fun _ => 0))), .inl (tA 0, (24, .inl (fun _ => 0))), .inl (tA 0, (25, .inl (fun _ => 0)))]
set_option maxRecDepth 100000 in
theorem dk6_24_0 : decode prog_8_method_1_code 0 = .ok (.aload_n 0, 1) := rfl
set_option maxRecDepth 100000 in
theorem dk6_24_1 : decode prog_8_method_1_code 1 = .ok (.invokespecial 3, 3) := rfl
set_option maxRecDepth 100000 in
theorem dk6_24_4 : decode prog_8_method_1_code 4 = .ok (.aload_n 0, 1) := rfl
set_option maxRecDepth 100000 in
theorem dk6_24_5 : decode prog_8_method_1_code 5 = .ok (.iconst 0, 1) := rfl
set_option maxRecDepth 100000 in
theorem dk6_24_6 : decode prog_8_method_1_code 6 = .ok (.iload_n 1, 1) := rfl
set_option maxRecDepth 100000 in
theorem dk6_24_7 : decode prog_8_method_1_code 7 = .ok (.sipush 924, 3) := rfl
set_option maxRecDepth 100000 in
theorem dk6_24_10 : decode prog_8_method_1_code 10 = .ok (.invokestatic 9, 3) := rfl
set_option maxRecDepth 100000 in
theorem dk6_24_13 : decode prog_8_method_1_code 13 = .ok (.invokestatic 15, 3) := rfl
set_option maxRecDepth 100000 in
theorem dk6_24_16 : decode prog_8_method_1_code 16 = .ok (.putfield 18, 3) := rfl
set_option maxRecDepth 100000 in
theorem dk6_24_19 : decode prog_8_method_1_code 19 = .ok (.aload_n 0, 1) := rfl
set_option maxRecDepth 100000 in
theorem dk6_24_20 : decode prog_8_method_1_code 20 = .ok (.aload_n 0, 1) := rfl
set_option maxRecDepth 100000 in
theorem dk6_24_21 : decode prog_8_method_1_code 21 = .ok (.getfield 18, 3) := rfl
set_option maxRecDepth 100000 in
theorem dk6_24_24 : decode prog_8_method_1_code 24 = .ok (.newarray .int, 2) := rfl
set_option maxRecDepth 100000 in
theorem dk6_24_26 : decode prog_8_method_1_code 26 = .ok (.putfield 24, 3) := rfl
set_option maxRecDepth 100000 in
theorem dk6_24_29 : decode prog_8_method_1_code 29 = .ok (.aload_n 0, 1) := rfl
set_option maxRecDepth 100000 in
theorem dk6_24_30 : decode prog_8_method_1_code 30 = .ok (.aload_n 0, 1) := rfl
set_option maxRecDepth 100000 in
theorem dk6_24_31 : decode prog_8_method_1_code 31 = .ok (.getfield 18, 3) := rfl
set_option maxRecDepth 100000 in
theorem dk6_24_34 : decode prog_8_method_1_code 34 = .ok (.newarray .boolean, 2) := rfl
set_option maxRecDepth 100000 in
theorem dk6_24_36 : decode prog_8_method_1_code 36 = .ok (.putfield 28, 3) := rfl
set_option maxRecDepth 100000 in
theorem dk6_24_39 : decode prog_8_method_1_code 39 = .ok (.aload_n 0, 1) := rfl
set_option maxRecDepth 100000 in
theorem dk6_24_40 : decode prog_8_method_1_code 40 = .ok (.aload_n 0, 1) := rfl
set_option maxRecDepth 100000 in
theorem dk6_24_41 : decode prog_8_method_1_code 41 = .ok (.getfield 18, 3) := rfl
set_option maxRecDepth 100000 in
theorem dk6_24_44 : decode prog_8_method_1_code 44 = .ok (.newarray .boolean, 2) := rfl
set_option maxRecDepth 100000 in
theorem dk6_24_46 : decode prog_8_method_1_code 46 = .ok (.putfield 32, 3) := rfl
set_option maxRecDepth 100000 in
theorem dk6_24_49 : decode prog_8_method_1_code 49 = .ok (.aload_n 0, 1) := rfl
set_option maxRecDepth 100000 in
theorem dk6_24_50 : decode prog_8_method_1_code 50 = .ok (.aload_n 0, 1) := rfl
set_option maxRecDepth 100000 in
theorem dk6_24_51 : decode prog_8_method_1_code 51 = .ok (.getfield 18, 3) := rfl
set_option maxRecDepth 100000 in
theorem dk6_24_54 : decode prog_8_method_1_code 54 = .ok (.newarray .int, 2) := rfl
set_option maxRecDepth 100000 in
theorem dk6_24_56 : decode prog_8_method_1_code 56 = .ok (.putfield 35, 3) := rfl
set_option maxRecDepth 100000 in
theorem dk6_24_59 : decode prog_8_method_1_code 59 = .ok (.aload_n 0, 1) := rfl
set_option maxRecDepth 100000 in
theorem dk6_24_60 : decode prog_8_method_1_code 60 = .ok (.aload_n 0, 1) := rfl
set_option maxRecDepth 100000 in
theorem dk6_24_61 : decode prog_8_method_1_code 61 = .ok (.getfield 18, 3) := rfl
set_option maxRecDepth 100000 in
theorem dk6_24_64 : decode prog_8_method_1_code 64 = .ok (.newarray .int, 2) := rfl
set_option maxRecDepth 100000 in
theorem dk6_24_66 : decode prog_8_method_1_code 66 = .ok (.putfield 38, 3) := rfl
set_option maxRecDepth 100000 in
theorem dk6_24_69 : decode prog_8_method_1_code 69 = .ok (.aload_n 0, 1) := rfl
set_option maxRecDepth 100000 in
theorem dk6_24_70 : decode prog_8_method_1_code 70 = .ok (.aload_n 0, 1) := rfl
set_option maxRecDepth 100000 in
theorem dk6_24_71 : decode prog_8_method_1_code 71 = .ok (.getfield 18, 3) := rfl
set_option maxRecDepth 100000 in
theorem dk6_24_74 : decode prog_8_method_1_code 74 = .ok (.iconst 1, 1) := rfl
set_option maxRecDepth 100000 in
theorem dk6_24_75 : decode prog_8_method_1_code 75 = .ok (.iadd, 1) := rfl
set_option maxRecDepth 100000 in
theorem dk6_24_76 : decode prog_8_method_1_code 76 = .ok (.newarray .int, 2) := rfl
set_option maxRecDepth 100000 in
theorem dk6_24_78 : decode prog_8_method_1_code 78 = .ok (.putfield 41, 3) := rfl
set_option maxRecDepth 100000 in
theorem dk6_24_81 : decode prog_8_method_1_code 81 = .ok (.return_, 1) := rfl
set_option maxHeartbeats 4000000 in
set_option maxRecDepth 100000 in
theorem ct_6_24 : CtorC ⟨Rn 6, "<init>", "(I)V"⟩ prog_8_method_1_code 2 1 40 6 145 [.int (iN ((24 : Nat) : Int))] 6 Lf6_24 := by
  refine ct_of (by decide) rfl rfl (by decide) ?_
  intro p l e s m args below meth c D tA b ls X hin g hl
  rw [dfl_6] at g
  refine lv_aload_n (i := 0) (x := b) X.1 X.2.1 dk6_24_0 rfl (lv_at hl 0 rfl) ?_
  refine c_obj X kw_36 kw_2 kw_3 hl.1 (by decide) dk6_24_1 ?_
  refine lv_aload_n (i := 0) (x := b) X.1 X.2.1 dk6_24_4 rfl (lv_at hl 0 rfl) ?_
  refine lv_iconst (v := iN ((0 : Nat) : Int)) X.1 X.2.1 dk6_24_5 (by decide) ?_
  refine lv_iload_n (i := 1) (x := iN ((24 : Nat) : Int)) X.1 X.2.1 dk6_24_6 rfl (lv_at hl 1 rfl) ?_
  refine lv_sipush (v := iN ((924 : Nat) : Int)) X.1 X.2.1 dk6_24_7 (by decide) ?_
  refine va_mmin X.1 X.2.1 (X.2.2.1.trans hl.1.symm) X.2.2.2.1 (X.2.2.2.2.1 _ kw_37) (X.2.2.2.2.1 _ kw_38) (X.2.2.2.2.1 _ kw_39) (X.2.2.2.2.1 _ kw_40) (by decide) (by simp [Value.category]) (Nat.zero_le _) (Nat.zero_le _) dk6_24_10 ?_
  rw [iN_min (x := ((24 : Nat) : Int)) (y := ((924 : Nat) : Int)) ⟨by omega, by omega⟩ ⟨by omega, by omega⟩, show min ((24 : Nat) : Int) ((924 : Nat) : Int) = ((24 : Nat) : Int) from by omega]
  refine va_mmax X.1 X.2.1 (X.2.2.1.trans hl.1.symm) X.2.2.2.1 (X.2.2.2.2.1 _ kw_41) (X.2.2.2.2.1 _ kw_42) (X.2.2.2.2.1 _ kw_39) (X.2.2.2.2.1 _ kw_43) (by decide) (by simp [Value.category]) (Nat.zero_le _) (Nat.zero_le _) dk6_24_13 ?_
  rw [iN_max (x := ((0 : Nat) : Int)) (y := ((24 : Nat) : Int)) ⟨by omega, by omega⟩ ⟨by omega, by omega⟩, show max ((0 : Nat) : Int) ((24 : Nat) : Int) = ((24 : Nat) : Int) from by omega]
  refine c_put (k := 0) (ty := .int) (v := .int (iN ((24 : Nat) : Int))) X (by decide) g (by decide) (by simp) kw_44 (fun _ => hin) rfl rfl rfl rfl dk6_24_16 (fun H1 lc1 g => ?_)
  have g : CG D b s ([.inr (6, [.int (iN ((24 : Nat) : Int)), .null, .null, .null, .null, .null, .null, .int 0])]) H1 lc1 := g
  refine lv_aload_n (i := 0) (x := b) X.1 X.2.1 dk6_24_19 rfl (lv_at hl 0 rfl) ?_
  refine lv_aload_n (i := 0) (x := b) X.1 X.2.1 dk6_24_20 rfl (lv_at hl 0 rfl) ?_
  refine c_get (k := 0) (v := .int (iN ((24 : Nat) : Int))) X (by decide) g (by decide) kw_44 rfl dk6_24_21 ?_
  refine c_newa (n := 24) (t := 0) X (by simp) (by omega) g (by decide) (by decide) dk6_24_24 kw_0 kw_1 (fun H2 g => ?_)
  have g : CG D b s ([.inr (6, [.int (iN ((24 : Nat) : Int)), .null, .null, .null, .null, .null, .null, .int 0]), .inl (tA 0, (24, .inl (fun _ => 0)))]) H2 lc1 := g
  refine c_put (k := 1) (ty := .array .int) (v := .ref (b + 1)) X (by decide) g (by decide) (by simp) kw_45 (fun _ => hin) rfl rfl rfl rfl dk6_24_26 (fun H3 lc3 g => ?_)
  have g : CG D b s ([.inr (6, [.int (iN ((24 : Nat) : Int)), .ref (b + 1), .null, .null, .null, .null, .null, .int 0]), .inl (tA 0, (24, .inl (fun _ => 0)))]) H3 lc3 := g
  refine lv_aload_n (i := 0) (x := b) X.1 X.2.1 dk6_24_29 rfl (lv_at hl 0 rfl) ?_
  refine lv_aload_n (i := 0) (x := b) X.1 X.2.1 dk6_24_30 rfl (lv_at hl 0 rfl) ?_
  refine c_get (k := 0) (v := .int (iN ((24 : Nat) : Int))) X (by decide) g (by decide) kw_44 rfl dk6_24_31 ?_
  refine c_newa (n := 24) (t := 1) X (by simp) (by omega) g (by decide) (by decide) dk6_24_34 kw_0 kw_1 (fun H4 g => ?_)
  have g : CG D b s ([.inr (6, [.int (iN ((24 : Nat) : Int)), .ref (b + 1), .null, .null, .null, .null, .null, .int 0]), .inl (tA 0, (24, .inl (fun _ => 0))), .inl (tA 1, (24, .inl (fun _ => 0)))]) H4 lc3 := g
  refine c_put (k := 2) (ty := .array .boolean) (v := .ref (b + 2)) X (by decide) g (by decide) (by simp) kw_46 (fun _ => hin) rfl rfl rfl rfl dk6_24_36 (fun H5 lc5 g => ?_)
  have g : CG D b s ([.inr (6, [.int (iN ((24 : Nat) : Int)), .ref (b + 1), .ref (b + 2), .null, .null, .null, .null, .int 0]), .inl (tA 0, (24, .inl (fun _ => 0))), .inl (tA 1, (24, .inl (fun _ => 0)))]) H5 lc5 := g
  refine lv_aload_n (i := 0) (x := b) X.1 X.2.1 dk6_24_39 rfl (lv_at hl 0 rfl) ?_
  refine lv_aload_n (i := 0) (x := b) X.1 X.2.1 dk6_24_40 rfl (lv_at hl 0 rfl) ?_
  refine c_get (k := 0) (v := .int (iN ((24 : Nat) : Int))) X (by decide) g (by decide) kw_44 rfl dk6_24_41 ?_
  refine c_newa (n := 24) (t := 1) X (by simp) (by omega) g (by decide) (by decide) dk6_24_44 kw_0 kw_1 (fun H6 g => ?_)
  have g : CG D b s ([.inr (6, [.int (iN ((24 : Nat) : Int)), .ref (b + 1), .ref (b + 2), .null, .null, .null, .null, .int 0]), .inl (tA 0, (24, .inl (fun _ => 0))), .inl (tA 1, (24, .inl (fun _ => 0))), .inl (tA 1, (24, .inl (fun _ => 0)))]) H6 lc5 := g
  refine c_put (k := 3) (ty := .array .boolean) (v := .ref (b + 3)) X (by decide) g (by decide) (by simp) kw_47 (fun _ => hin) rfl rfl rfl rfl dk6_24_46 (fun H7 lc7 g => ?_)
  have g : CG D b s ([.inr (6, [.int (iN ((24 : Nat) : Int)), .ref (b + 1), .ref (b + 2), .ref (b + 3), .null, .null, .null, .int 0]), .inl (tA 0, (24, .inl (fun _ => 0))), .inl (tA 1, (24, .inl (fun _ => 0))), .inl (tA 1, (24, .inl (fun _ => 0)))]) H7 lc7 := g
  refine lv_aload_n (i := 0) (x := b) X.1 X.2.1 dk6_24_49 rfl (lv_at hl 0 rfl) ?_
  refine lv_aload_n (i := 0) (x := b) X.1 X.2.1 dk6_24_50 rfl (lv_at hl 0 rfl) ?_
  refine c_get (k := 0) (v := .int (iN ((24 : Nat) : Int))) X (by decide) g (by decide) kw_44 rfl dk6_24_51 ?_
  refine c_newa (n := 24) (t := 0) X (by simp) (by omega) g (by decide) (by decide) dk6_24_54 kw_0 kw_1 (fun H8 g => ?_)
  have g : CG D b s ([.inr (6, [.int (iN ((24 : Nat) : Int)), .ref (b + 1), .ref (b + 2), .ref (b + 3), .null, .null, .null, .int 0]), .inl (tA 0, (24, .inl (fun _ => 0))), .inl (tA 1, (24, .inl (fun _ => 0))), .inl (tA 1, (24, .inl (fun _ => 0))), .inl (tA 0, (24, .inl (fun _ => 0)))]) H8 lc7 := g
  refine c_put (k := 4) (ty := .array .int) (v := .ref (b + 4)) X (by decide) g (by decide) (by simp) kw_48 (fun _ => hin) rfl rfl rfl rfl dk6_24_56 (fun H9 lc9 g => ?_)
  have g : CG D b s ([.inr (6, [.int (iN ((24 : Nat) : Int)), .ref (b + 1), .ref (b + 2), .ref (b + 3), .ref (b + 4), .null, .null, .int 0]), .inl (tA 0, (24, .inl (fun _ => 0))), .inl (tA 1, (24, .inl (fun _ => 0))), .inl (tA 1, (24, .inl (fun _ => 0))), .inl (tA 0, (24, .inl (fun _ => 0)))]) H9 lc9 := g
  refine lv_aload_n (i := 0) (x := b) X.1 X.2.1 dk6_24_59 rfl (lv_at hl 0 rfl) ?_
  refine lv_aload_n (i := 0) (x := b) X.1 X.2.1 dk6_24_60 rfl (lv_at hl 0 rfl) ?_
  refine c_get (k := 0) (v := .int (iN ((24 : Nat) : Int))) X (by decide) g (by decide) kw_44 rfl dk6_24_61 ?_
  refine c_newa (n := 24) (t := 0) X (by simp) (by omega) g (by decide) (by decide) dk6_24_64 kw_0 kw_1 (fun H10 g => ?_)
  have g : CG D b s ([.inr (6, [.int (iN ((24 : Nat) : Int)), .ref (b + 1), .ref (b + 2), .ref (b + 3), .ref (b + 4), .null, .null, .int 0]), .inl (tA 0, (24, .inl (fun _ => 0))), .inl (tA 1, (24, .inl (fun _ => 0))), .inl (tA 1, (24, .inl (fun _ => 0))), .inl (tA 0, (24, .inl (fun _ => 0))), .inl (tA 0, (24, .inl (fun _ => 0)))]) H10 lc9 := g
  refine c_put (k := 5) (ty := .array .int) (v := .ref (b + 5)) X (by decide) g (by decide) (by simp) kw_49 (fun _ => hin) rfl rfl rfl rfl dk6_24_66 (fun H11 lc11 g => ?_)
  have g : CG D b s ([.inr (6, [.int (iN ((24 : Nat) : Int)), .ref (b + 1), .ref (b + 2), .ref (b + 3), .ref (b + 4), .ref (b + 5), .null, .int 0]), .inl (tA 0, (24, .inl (fun _ => 0))), .inl (tA 1, (24, .inl (fun _ => 0))), .inl (tA 1, (24, .inl (fun _ => 0))), .inl (tA 0, (24, .inl (fun _ => 0))), .inl (tA 0, (24, .inl (fun _ => 0)))]) H11 lc11 := g
  refine lv_aload_n (i := 0) (x := b) X.1 X.2.1 dk6_24_69 rfl (lv_at hl 0 rfl) ?_
  refine lv_aload_n (i := 0) (x := b) X.1 X.2.1 dk6_24_70 rfl (lv_at hl 0 rfl) ?_
  refine c_get (k := 0) (v := .int (iN ((24 : Nat) : Int))) X (by decide) g (by decide) kw_44 rfl dk6_24_71 ?_
  refine lv_iconst (v := iN ((1 : Nat) : Int)) X.1 X.2.1 dk6_24_74 (by decide) ?_
  refine lv_iadd X.1 X.2.1 dk6_24_75 ?_
  rw [show iN ((24 : Nat) : Int) + iN ((1 : Nat) : Int) = iN ((25 : Nat) : Int) from by decide]
  refine c_newa (n := 25) (t := 0) X (by simp) (by omega) g (by decide) (by decide) dk6_24_76 kw_0 kw_1 (fun H12 g => ?_)
  have g : CG D b s ([.inr (6, [.int (iN ((24 : Nat) : Int)), .ref (b + 1), .ref (b + 2), .ref (b + 3), .ref (b + 4), .ref (b + 5), .null, .int 0]), .inl (tA 0, (24, .inl (fun _ => 0))), .inl (tA 1, (24, .inl (fun _ => 0))), .inl (tA 1, (24, .inl (fun _ => 0))), .inl (tA 0, (24, .inl (fun _ => 0))), .inl (tA 0, (24, .inl (fun _ => 0))), .inl (tA 0, (25, .inl (fun _ => 0)))]) H12 lc11 := g
  refine c_put (k := 6) (ty := .array .int) (v := .ref (b + 6)) X (by decide) g (by decide) (by simp) kw_50 (fun _ => hin) rfl rfl rfl rfl dk6_24_78 (fun H13 lc13 g => ?_)
  have g : CG D b s ([.inr (6, [.int (iN ((24 : Nat) : Int)), .ref (b + 1), .ref (b + 2), .ref (b + 3), .ref (b + 4), .ref (b + 5), .ref (b + 6), .int 0]), .inl (tA 0, (24, .inl (fun _ => 0))), .inl (tA 1, (24, .inl (fun _ => 0))), .inl (tA 1, (24, .inl (fun _ => 0))), .inl (tA 0, (24, .inl (fun _ => 0))), .inl (tA 0, (24, .inl (fun _ => 0))), .inl (tA 0, (25, .inl (fun _ => 0)))]) H13 lc13 := g
  exact ct_ret X g dk6_24_81
def Lf6_924 (tA : Nat → ClassId) (b : Nat) : List va_E := [.inr (6, [.int (iN ((924 : Nat) : Int)), .ref (b + 1), .ref (b + 2), .ref (b + 3), .ref (b + 4), .ref (b + 5), .ref (b + 6), .int 0]), .inl (tA 0, (924, .inl (fun _ => 0))), .inl (tA 1, (924, .inl (fun _ => 0))), .inl (tA 1, (924, .inl (fun _ => 0))), .inl (tA 0, (924, .inl (fun _ => 0))), .inl (tA 0, (924, .inl (fun _ => 0))), .inl (tA 0, (925, .inl (fun _ => 0)))]
set_option maxRecDepth 100000 in
theorem dk6_924_0 : decode prog_8_method_1_code 0 = .ok (.aload_n 0, 1) := rfl
set_option maxRecDepth 100000 in
theorem dk6_924_1 : decode prog_8_method_1_code 1 = .ok (.invokespecial 3, 3) := rfl
set_option maxRecDepth 100000 in
theorem dk6_924_4 : decode prog_8_method_1_code 4 = .ok (.aload_n 0, 1) := rfl
set_option maxRecDepth 100000 in
theorem dk6_924_5 : decode prog_8_method_1_code 5 = .ok (.iconst 0, 1) := rfl
set_option maxRecDepth 100000 in
theorem dk6_924_6 : decode prog_8_method_1_code 6 = .ok (.iload_n 1, 1) := rfl
set_option maxRecDepth 100000 in
theorem dk6_924_7 : decode prog_8_method_1_code 7 = .ok (.sipush 924, 3) := rfl
set_option maxRecDepth 100000 in
theorem dk6_924_10 : decode prog_8_method_1_code 10 = .ok (.invokestatic 9, 3) := rfl
set_option maxRecDepth 100000 in
theorem dk6_924_13 : decode prog_8_method_1_code 13 = .ok (.invokestatic 15, 3) := rfl
set_option maxRecDepth 100000 in
theorem dk6_924_16 : decode prog_8_method_1_code 16 = .ok (.putfield 18, 3) := rfl
set_option maxRecDepth 100000 in
theorem dk6_924_19 : decode prog_8_method_1_code 19 = .ok (.aload_n 0, 1) := rfl
set_option maxRecDepth 100000 in
theorem dk6_924_20 : decode prog_8_method_1_code 20 = .ok (.aload_n 0, 1) := rfl
set_option maxRecDepth 100000 in
theorem dk6_924_21 : decode prog_8_method_1_code 21 = .ok (.getfield 18, 3) := rfl
set_option maxRecDepth 100000 in
theorem dk6_924_24 : decode prog_8_method_1_code 24 = .ok (.newarray .int, 2) := rfl
set_option maxRecDepth 100000 in
theorem dk6_924_26 : decode prog_8_method_1_code 26 = .ok (.putfield 24, 3) := rfl
set_option maxRecDepth 100000 in
theorem dk6_924_29 : decode prog_8_method_1_code 29 = .ok (.aload_n 0, 1) := rfl
set_option maxRecDepth 100000 in
theorem dk6_924_30 : decode prog_8_method_1_code 30 = .ok (.aload_n 0, 1) := rfl
set_option maxRecDepth 100000 in
theorem dk6_924_31 : decode prog_8_method_1_code 31 = .ok (.getfield 18, 3) := rfl
set_option maxRecDepth 100000 in
theorem dk6_924_34 : decode prog_8_method_1_code 34 = .ok (.newarray .boolean, 2) := rfl
set_option maxRecDepth 100000 in
theorem dk6_924_36 : decode prog_8_method_1_code 36 = .ok (.putfield 28, 3) := rfl
set_option maxRecDepth 100000 in
theorem dk6_924_39 : decode prog_8_method_1_code 39 = .ok (.aload_n 0, 1) := rfl
set_option maxRecDepth 100000 in
theorem dk6_924_40 : decode prog_8_method_1_code 40 = .ok (.aload_n 0, 1) := rfl
set_option maxRecDepth 100000 in
theorem dk6_924_41 : decode prog_8_method_1_code 41 = .ok (.getfield 18, 3) := rfl
set_option maxRecDepth 100000 in
theorem dk6_924_44 : decode prog_8_method_1_code 44 = .ok (.newarray .boolean, 2) := rfl
set_option maxRecDepth 100000 in
theorem dk6_924_46 : decode prog_8_method_1_code 46 = .ok (.putfield 32, 3) := rfl
set_option maxRecDepth 100000 in
theorem dk6_924_49 : decode prog_8_method_1_code 49 = .ok (.aload_n 0, 1) := rfl
set_option maxRecDepth 100000 in
theorem dk6_924_50 : decode prog_8_method_1_code 50 = .ok (.aload_n 0, 1) := rfl
set_option maxRecDepth 100000 in
theorem dk6_924_51 : decode prog_8_method_1_code 51 = .ok (.getfield 18, 3) := rfl
set_option maxRecDepth 100000 in
theorem dk6_924_54 : decode prog_8_method_1_code 54 = .ok (.newarray .int, 2) := rfl
set_option maxRecDepth 100000 in
theorem dk6_924_56 : decode prog_8_method_1_code 56 = .ok (.putfield 35, 3) := rfl
set_option maxRecDepth 100000 in
theorem dk6_924_59 : decode prog_8_method_1_code 59 = .ok (.aload_n 0, 1) := rfl
set_option maxRecDepth 100000 in
theorem dk6_924_60 : decode prog_8_method_1_code 60 = .ok (.aload_n 0, 1) := rfl
set_option maxRecDepth 100000 in
theorem dk6_924_61 : decode prog_8_method_1_code 61 = .ok (.getfield 18, 3) := rfl
set_option maxRecDepth 100000 in
theorem dk6_924_64 : decode prog_8_method_1_code 64 = .ok (.newarray .int, 2) := rfl
set_option maxRecDepth 100000 in
theorem dk6_924_66 : decode prog_8_method_1_code 66 = .ok (.putfield 38, 3) := rfl
set_option maxRecDepth 100000 in
theorem dk6_924_69 : decode prog_8_method_1_code 69 = .ok (.aload_n 0, 1) := rfl
set_option maxRecDepth 100000 in
theorem dk6_924_70 : decode prog_8_method_1_code 70 = .ok (.aload_n 0, 1) := rfl
set_option maxRecDepth 100000 in
theorem dk6_924_71 : decode prog_8_method_1_code 71 = .ok (.getfield 18, 3) := rfl
set_option maxRecDepth 100000 in
theorem dk6_924_74 : decode prog_8_method_1_code 74 = .ok (.iconst 1, 1) := rfl
set_option maxRecDepth 100000 in
theorem dk6_924_75 : decode prog_8_method_1_code 75 = .ok (.iadd, 1) := rfl
set_option maxRecDepth 100000 in
theorem dk6_924_76 : decode prog_8_method_1_code 76 = .ok (.newarray .int, 2) := rfl
set_option maxRecDepth 100000 in
theorem dk6_924_78 : decode prog_8_method_1_code 78 = .ok (.putfield 41, 3) := rfl
set_option maxRecDepth 100000 in
theorem dk6_924_81 : decode prog_8_method_1_code 81 = .ok (.return_, 1) := rfl
set_option maxHeartbeats 4000000 in
set_option maxRecDepth 100000 in
theorem ct_6_924 : CtorC ⟨Rn 6, "<init>", "(I)V"⟩ prog_8_method_1_code 2 1 40 6 5545 [.int (iN ((924 : Nat) : Int))] 6 Lf6_924 := by
  refine ct_of (by decide) rfl rfl (by decide) ?_
  intro p l e s m args below meth c D tA b ls X hin g hl
  rw [dfl_6] at g
  refine lv_aload_n (i := 0) (x := b) X.1 X.2.1 dk6_924_0 rfl (lv_at hl 0 rfl) ?_
  refine c_obj X kw_36 kw_2 kw_3 hl.1 (by decide) dk6_924_1 ?_
  refine lv_aload_n (i := 0) (x := b) X.1 X.2.1 dk6_924_4 rfl (lv_at hl 0 rfl) ?_
  refine lv_iconst (v := iN ((0 : Nat) : Int)) X.1 X.2.1 dk6_924_5 (by decide) ?_
  refine lv_iload_n (i := 1) (x := iN ((924 : Nat) : Int)) X.1 X.2.1 dk6_924_6 rfl (lv_at hl 1 rfl) ?_
  refine lv_sipush (v := iN ((924 : Nat) : Int)) X.1 X.2.1 dk6_924_7 (by decide) ?_
  refine va_mmin X.1 X.2.1 (X.2.2.1.trans hl.1.symm) X.2.2.2.1 (X.2.2.2.2.1 _ kw_37) (X.2.2.2.2.1 _ kw_38) (X.2.2.2.2.1 _ kw_39) (X.2.2.2.2.1 _ kw_40) (by decide) (by simp [Value.category]) (Nat.zero_le _) (Nat.zero_le _) dk6_924_10 ?_
  rw [iN_min (x := ((924 : Nat) : Int)) (y := ((924 : Nat) : Int)) ⟨by omega, by omega⟩ ⟨by omega, by omega⟩, show min ((924 : Nat) : Int) ((924 : Nat) : Int) = ((924 : Nat) : Int) from by omega]
  refine va_mmax X.1 X.2.1 (X.2.2.1.trans hl.1.symm) X.2.2.2.1 (X.2.2.2.2.1 _ kw_41) (X.2.2.2.2.1 _ kw_42) (X.2.2.2.2.1 _ kw_39) (X.2.2.2.2.1 _ kw_43) (by decide) (by simp [Value.category]) (Nat.zero_le _) (Nat.zero_le _) dk6_924_13 ?_
  rw [iN_max (x := ((0 : Nat) : Int)) (y := ((924 : Nat) : Int)) ⟨by omega, by omega⟩ ⟨by omega, by omega⟩, show max ((0 : Nat) : Int) ((924 : Nat) : Int) = ((924 : Nat) : Int) from by omega]
  refine c_put (k := 0) (ty := .int) (v := .int (iN ((924 : Nat) : Int))) X (by decide) g (by decide) (by simp) kw_44 (fun _ => hin) rfl rfl rfl rfl dk6_924_16 (fun H1 lc1 g => ?_)
  have g : CG D b s ([.inr (6, [.int (iN ((924 : Nat) : Int)), .null, .null, .null, .null, .null, .null, .int 0])]) H1 lc1 := g
  refine lv_aload_n (i := 0) (x := b) X.1 X.2.1 dk6_924_19 rfl (lv_at hl 0 rfl) ?_
  refine lv_aload_n (i := 0) (x := b) X.1 X.2.1 dk6_924_20 rfl (lv_at hl 0 rfl) ?_
  refine c_get (k := 0) (v := .int (iN ((924 : Nat) : Int))) X (by decide) g (by decide) kw_44 rfl dk6_924_21 ?_
  refine c_newa (n := 924) (t := 0) X (by simp) (by omega) g (by decide) (by decide) dk6_924_24 kw_0 kw_1 (fun H2 g => ?_)
  have g : CG D b s ([.inr (6, [.int (iN ((924 : Nat) : Int)), .null, .null, .null, .null, .null, .null, .int 0]), .inl (tA 0, (924, .inl (fun _ => 0)))]) H2 lc1 := g
  refine c_put (k := 1) (ty := .array .int) (v := .ref (b + 1)) X (by decide) g (by decide) (by simp) kw_45 (fun _ => hin) rfl rfl rfl rfl dk6_924_26 (fun H3 lc3 g => ?_)
  have g : CG D b s ([.inr (6, [.int (iN ((924 : Nat) : Int)), .ref (b + 1), .null, .null, .null, .null, .null, .int 0]), .inl (tA 0, (924, .inl (fun _ => 0)))]) H3 lc3 := g
  refine lv_aload_n (i := 0) (x := b) X.1 X.2.1 dk6_924_29 rfl (lv_at hl 0 rfl) ?_
  refine lv_aload_n (i := 0) (x := b) X.1 X.2.1 dk6_924_30 rfl (lv_at hl 0 rfl) ?_
  refine c_get (k := 0) (v := .int (iN ((924 : Nat) : Int))) X (by decide) g (by decide) kw_44 rfl dk6_924_31 ?_
  refine c_newa (n := 924) (t := 1) X (by simp) (by omega) g (by decide) (by decide) dk6_924_34 kw_0 kw_1 (fun H4 g => ?_)
  have g : CG D b s ([.inr (6, [.int (iN ((924 : Nat) : Int)), .ref (b + 1), .null, .null, .null, .null, .null, .int 0]), .inl (tA 0, (924, .inl (fun _ => 0))), .inl (tA 1, (924, .inl (fun _ => 0)))]) H4 lc3 := g
  refine c_put (k := 2) (ty := .array .boolean) (v := .ref (b + 2)) X (by decide) g (by decide) (by simp) kw_46 (fun _ => hin) rfl rfl rfl rfl dk6_924_36 (fun H5 lc5 g => ?_)
  have g : CG D b s ([.inr (6, [.int (iN ((924 : Nat) : Int)), .ref (b + 1), .ref (b + 2), .null, .null, .null, .null, .int 0]), .inl (tA 0, (924, .inl (fun _ => 0))), .inl (tA 1, (924, .inl (fun _ => 0)))]) H5 lc5 := g
  refine lv_aload_n (i := 0) (x := b) X.1 X.2.1 dk6_924_39 rfl (lv_at hl 0 rfl) ?_
  refine lv_aload_n (i := 0) (x := b) X.1 X.2.1 dk6_924_40 rfl (lv_at hl 0 rfl) ?_
  refine c_get (k := 0) (v := .int (iN ((924 : Nat) : Int))) X (by decide) g (by decide) kw_44 rfl dk6_924_41 ?_
  refine c_newa (n := 924) (t := 1) X (by simp) (by omega) g (by decide) (by decide) dk6_924_44 kw_0 kw_1 (fun H6 g => ?_)
  have g : CG D b s ([.inr (6, [.int (iN ((924 : Nat) : Int)), .ref (b + 1), .ref (b + 2), .null, .null, .null, .null, .int 0]), .inl (tA 0, (924, .inl (fun _ => 0))), .inl (tA 1, (924, .inl (fun _ => 0))), .inl (tA 1, (924, .inl (fun _ => 0)))]) H6 lc5 := g
  refine c_put (k := 3) (ty := .array .boolean) (v := .ref (b + 3)) X (by decide) g (by decide) (by simp) kw_47 (fun _ => hin) rfl rfl rfl rfl dk6_924_46 (fun H7 lc7 g => ?_)
  have g : CG D b s ([.inr (6, [.int (iN ((924 : Nat) : Int)), .ref (b + 1), .ref (b + 2), .ref (b + 3), .null, .null, .null, .int 0]), .inl (tA 0, (924, .inl (fun _ => 0))), .inl (tA 1, (924, .inl (fun _ => 0))), .inl (tA 1, (924, .inl (fun _ => 0)))]) H7 lc7 := g
  refine lv_aload_n (i := 0) (x := b) X.1 X.2.1 dk6_924_49 rfl (lv_at hl 0 rfl) ?_
  refine lv_aload_n (i := 0) (x := b) X.1 X.2.1 dk6_924_50 rfl (lv_at hl 0 rfl) ?_
  refine c_get (k := 0) (v := .int (iN ((924 : Nat) : Int))) X (by decide) g (by decide) kw_44 rfl dk6_924_51 ?_
  refine c_newa (n := 924) (t := 0) X (by simp) (by omega) g (by decide) (by decide) dk6_924_54 kw_0 kw_1 (fun H8 g => ?_)
  have g : CG D b s ([.inr (6, [.int (iN ((924 : Nat) : Int)), .ref (b + 1), .ref (b + 2), .ref (b + 3), .null, .null, .null, .int 0]), .inl (tA 0, (924, .inl (fun _ => 0))), .inl (tA 1, (924, .inl (fun _ => 0))), .inl (tA 1, (924, .inl (fun _ => 0))), .inl (tA 0, (924, .inl (fun _ => 0)))]) H8 lc7 := g
  refine c_put (k := 4) (ty := .array .int) (v := .ref (b + 4)) X (by decide) g (by decide) (by simp) kw_48 (fun _ => hin) rfl rfl rfl rfl dk6_924_56 (fun H9 lc9 g => ?_)
  have g : CG D b s ([.inr (6, [.int (iN ((924 : Nat) : Int)), .ref (b + 1), .ref (b + 2), .ref (b + 3), .ref (b + 4), .null, .null, .int 0]), .inl (tA 0, (924, .inl (fun _ => 0))), .inl (tA 1, (924, .inl (fun _ => 0))), .inl (tA 1, (924, .inl (fun _ => 0))), .inl (tA 0, (924, .inl (fun _ => 0)))]) H9 lc9 := g
  refine lv_aload_n (i := 0) (x := b) X.1 X.2.1 dk6_924_59 rfl (lv_at hl 0 rfl) ?_
  refine lv_aload_n (i := 0) (x := b) X.1 X.2.1 dk6_924_60 rfl (lv_at hl 0 rfl) ?_
  refine c_get (k := 0) (v := .int (iN ((924 : Nat) : Int))) X (by decide) g (by decide) kw_44 rfl dk6_924_61 ?_
  refine c_newa (n := 924) (t := 0) X (by simp) (by omega) g (by decide) (by decide) dk6_924_64 kw_0 kw_1 (fun H10 g => ?_)
  have g : CG D b s ([.inr (6, [.int (iN ((924 : Nat) : Int)), .ref (b + 1), .ref (b + 2), .ref (b + 3), .ref (b + 4), .null, .null, .int 0]), .inl (tA 0, (924, .inl (fun _ => 0))), .inl (tA 1, (924, .inl (fun _ => 0))), .inl (tA 1, (924, .inl (fun _ => 0))), .inl (tA 0, (924, .inl (fun _ => 0))), .inl (tA 0, (924, .inl (fun _ => 0)))]) H10 lc9 := g
  refine c_put (k := 5) (ty := .array .int) (v := .ref (b + 5)) X (by decide) g (by decide) (by simp) kw_49 (fun _ => hin) rfl rfl rfl rfl dk6_924_66 (fun H11 lc11 g => ?_)
  have g : CG D b s ([.inr (6, [.int (iN ((924 : Nat) : Int)), .ref (b + 1), .ref (b + 2), .ref (b + 3), .ref (b + 4), .ref (b + 5), .null, .int 0]), .inl (tA 0, (924, .inl (fun _ => 0))), .inl (tA 1, (924, .inl (fun _ => 0))), .inl (tA 1, (924, .inl (fun _ => 0))), .inl (tA 0, (924, .inl (fun _ => 0))), .inl (tA 0, (924, .inl (fun _ => 0)))]) H11 lc11 := g
  refine lv_aload_n (i := 0) (x := b) X.1 X.2.1 dk6_924_69 rfl (lv_at hl 0 rfl) ?_
  refine lv_aload_n (i := 0) (x := b) X.1 X.2.1 dk6_924_70 rfl (lv_at hl 0 rfl) ?_
  refine c_get (k := 0) (v := .int (iN ((924 : Nat) : Int))) X (by decide) g (by decide) kw_44 rfl dk6_924_71 ?_
  refine lv_iconst (v := iN ((1 : Nat) : Int)) X.1 X.2.1 dk6_924_74 (by decide) ?_
  refine lv_iadd X.1 X.2.1 dk6_924_75 ?_
  rw [show iN ((924 : Nat) : Int) + iN ((1 : Nat) : Int) = iN ((925 : Nat) : Int) from by decide]
  refine c_newa (n := 925) (t := 0) X (by simp) (by omega) g (by decide) (by decide) dk6_924_76 kw_0 kw_1 (fun H12 g => ?_)
  have g : CG D b s ([.inr (6, [.int (iN ((924 : Nat) : Int)), .ref (b + 1), .ref (b + 2), .ref (b + 3), .ref (b + 4), .ref (b + 5), .null, .int 0]), .inl (tA 0, (924, .inl (fun _ => 0))), .inl (tA 1, (924, .inl (fun _ => 0))), .inl (tA 1, (924, .inl (fun _ => 0))), .inl (tA 0, (924, .inl (fun _ => 0))), .inl (tA 0, (924, .inl (fun _ => 0))), .inl (tA 0, (925, .inl (fun _ => 0)))]) H12 lc11 := g
  refine c_put (k := 6) (ty := .array .int) (v := .ref (b + 6)) X (by decide) g (by decide) (by simp) kw_50 (fun _ => hin) rfl rfl rfl rfl dk6_924_78 (fun H13 lc13 g => ?_)
  have g : CG D b s ([.inr (6, [.int (iN ((924 : Nat) : Int)), .ref (b + 1), .ref (b + 2), .ref (b + 3), .ref (b + 4), .ref (b + 5), .ref (b + 6), .int 0]), .inl (tA 0, (924, .inl (fun _ => 0))), .inl (tA 1, (924, .inl (fun _ => 0))), .inl (tA 1, (924, .inl (fun _ => 0))), .inl (tA 0, (924, .inl (fun _ => 0))), .inl (tA 0, (924, .inl (fun _ => 0))), .inl (tA 0, (925, .inl (fun _ => 0)))]) H13 lc13 := g
  exact ct_ret X g dk6_924_81
set_option maxRecDepth 100000 in
theorem kw_51 : Cond.methodLink (Rn 0) 3 Lib.objectInit ∈ gW := gW_at (i := 278) rfl rfl
set_option maxRecDepth 100000 in
theorem kw_52 : Cond.classLink (Rn 0) 9 (Rn 6) ∈ gW := gW_at (i := 279) rfl rfl
set_option maxRecDepth 100000 in
theorem kw_53 : Cond.instantiable (Rn 6) (Nc 6) ∈ gW := gW_at (i := 280) rfl rfl
set_option maxRecDepth 100000 in
theorem kw_54 : Cond.initialized (Rn 6) ∈ gW := gW_at (i := 108) rfl rfl
set_option maxRecDepth 100000 in
theorem kw_55 : Cond.instanceMethod ⟨Rn 6, "<init>", "(I)V"⟩ ∈ gW := gW_at (i := 282) rfl rfl
set_option maxRecDepth 100000 in
theorem kw_56 : Cond.code ⟨Rn 6, "<init>", "(I)V"⟩ prog_8_method_1_code 2 none ∈ gW := gW_at (i := 283) rfl rfl
set_option maxRecDepth 100000 in
theorem kw_57 : Cond.methodLink (Rn 0) 11 ⟨Rn 6, "<init>", "(I)V"⟩ ∈ gW := gW_at (i := 281) rfl rfl
set_option maxRecDepth 100000 in
theorem kw_58 : Cond.fieldLink (Rn 0) 14 (Tc 0 0).1 (Tc 0 0).2.1 (Tc 0 0).2.2.1 ∈ gW := gW_at (i := 380) rfl rfl
set_option maxRecDepth 100000 in
theorem kw_59 : Cond.fieldLink (Rn 0) 20 (Tc 0 1).1 (Tc 0 1).2.1 (Tc 0 1).2.2.1 ∈ gW := gW_at (i := 381) rfl rfl
set_option maxRecDepth 100000 in
theorem kw_60 : Cond.fieldLink (Rn 0) 23 (Tc 0 2).1 (Tc 0 2).2.1 (Tc 0 2).2.2.1 ∈ gW := gW_at (i := 382) rfl rfl
set_option maxRecDepth 100000 in
theorem kw_61 : Cond.fieldLink (Rn 0) 26 (Tc 0 3).1 (Tc 0 3).2.1 (Tc 0 3).2.2.1 ∈ gW := gW_at (i := 383) rfl rfl
set_option maxRecDepth 100000 in
theorem kw_62 : Cond.fieldLink (Rn 0) 30 (Tc 0 4).1 (Tc 0 4).2.1 (Tc 0 4).2.2.1 ∈ gW := gW_at (i := 384) rfl rfl
set_option maxRecDepth 100000 in
theorem kw_63 : Cond.classLink (Rn 0) 33 (Rn 7) ∈ gW := gW_at (i := 319) rfl rfl
set_option maxRecDepth 100000 in
theorem kt_1 : Cond.methodLinkNest (Rn 0) 35 ⟨Rn 7, "<init>", "()V"⟩ "RingDater" ∈ lw_tbl := List.mem_of_getElem? (i := 321) rfl
set_option maxRecDepth 100000 in
theorem kw_64 : Cond.fieldLink (Rn 0) 36 (Tc 0 5).1 (Tc 0 5).2.1 (Tc 0 5).2.2.1 ∈ gW := gW_at (i := 385) rfl rfl
set_option maxRecDepth 100000 in
theorem kw_65 : Cond.classLink (Rn 0) 40 (Rn 1) ∈ gW := gW_at (i := 344) rfl rfl
set_option maxRecDepth 100000 in
theorem kw_66 : Cond.instantiable (Rn 1) (Nc 1) ∈ gW := gW_at (i := 345) rfl rfl
set_option maxRecDepth 100000 in
theorem kw_67 : Cond.initialized (Rn 1) ∈ gW := gW_at (i := 111) rfl rfl
set_option maxRecDepth 100000 in
theorem kw_68 : Cond.instanceMethod ⟨Rn 1, "<init>", "()V"⟩ ∈ gW := gW_at (i := 347) rfl rfl
set_option maxRecDepth 100000 in
theorem kw_69 : Cond.code ⟨Rn 1, "<init>", "()V"⟩ prog_3_method_1_code 1 none ∈ gW := gW_at (i := 348) rfl rfl
set_option maxRecDepth 100000 in
theorem kt_2 : Cond.methodLinkNest (Rn 0) 42 ⟨Rn 1, "<init>", "()V"⟩ "RingDater" ∈ lw_tbl := List.mem_of_getElem? (i := 346) rfl
set_option maxRecDepth 100000 in
theorem kw_70 : Cond.fieldLink (Rn 0) 43 (Tc 0 6).1 (Tc 0 6).2.1 (Tc 0 6).2.2.1 ∈ gW := gW_at (i := 386) rfl rfl
set_option maxRecDepth 100000 in
theorem kw_71 : Cond.fieldLink (Rn 0) 47 (Tc 0 7).1 (Tc 0 7).2.1 (Tc 0 7).2.2.1 ∈ gW := gW_at (i := 387) rfl rfl
set_option maxRecDepth 100000 in
theorem kw_72 : Cond.fieldLink (Rn 0) 51 (Tc 0 8).1 (Tc 0 8).2.1 (Tc 0 8).2.2.1 ∈ gW := gW_at (i := 390) rfl rfl
def Lf0 (tA : Nat → ClassId) (b : Nat) : List va_E := (((((([.inr (0, [.ref (b + 1), .ref (b + 8), .ref (b + 15), .ref (b + 22), .ref (b + 23), .ref (b + 24), .ref (b + 25), .int (iN (-1)), .int (iN (-1))])]) ++ Lf6_24 tA (b + 1)) ++ Lf6_24 tA (b + 8)) ++ Lf6_924 tA (b + 15)) ++ [.inl (tA 0, (924, .inl (fun _ => 0))), .inl (tA 0, (924, .inl (fun _ => 0)))]) ++ Lf7 tA (b + 24)) ++ Lf1 tA (b + 25)
set_option maxRecDepth 100000 in
theorem dk0_0 : decode prog_2_method_1_code 0 = .ok (.aload_n 0, 1) := rfl
set_option maxRecDepth 100000 in
theorem dk0_1 : decode prog_2_method_1_code 1 = .ok (.invokespecial 3, 3) := rfl
set_option maxRecDepth 100000 in
theorem dk0_4 : decode prog_2_method_1_code 4 = .ok (.aload_n 0, 1) := rfl
set_option maxRecDepth 100000 in
theorem dk0_5 : decode prog_2_method_1_code 5 = .ok (.new 9, 3) := rfl
set_option maxRecDepth 100000 in
theorem dk0_8 : decode prog_2_method_1_code 8 = .ok (.dup, 1) := rfl
set_option maxRecDepth 100000 in
theorem dk0_9 : decode prog_2_method_1_code 9 = .ok (.bipush 24, 2) := rfl
set_option maxRecDepth 100000 in
theorem dk0_11 : decode prog_2_method_1_code 11 = .ok (.invokespecial 11, 3) := rfl
set_option maxRecDepth 100000 in
theorem dk0_14 : decode prog_2_method_1_code 14 = .ok (.putfield 14, 3) := rfl
set_option maxRecDepth 100000 in
theorem dk0_17 : decode prog_2_method_1_code 17 = .ok (.aload_n 0, 1) := rfl
set_option maxRecDepth 100000 in
theorem dk0_18 : decode prog_2_method_1_code 18 = .ok (.new 9, 3) := rfl
set_option maxRecDepth 100000 in
theorem dk0_21 : decode prog_2_method_1_code 21 = .ok (.dup, 1) := rfl
set_option maxRecDepth 100000 in
theorem dk0_22 : decode prog_2_method_1_code 22 = .ok (.bipush 24, 2) := rfl
set_option maxRecDepth 100000 in
theorem dk0_24 : decode prog_2_method_1_code 24 = .ok (.invokespecial 11, 3) := rfl
set_option maxRecDepth 100000 in
theorem dk0_27 : decode prog_2_method_1_code 27 = .ok (.putfield 20, 3) := rfl
set_option maxRecDepth 100000 in
theorem dk0_30 : decode prog_2_method_1_code 30 = .ok (.aload_n 0, 1) := rfl
set_option maxRecDepth 100000 in
theorem dk0_31 : decode prog_2_method_1_code 31 = .ok (.new 9, 3) := rfl
set_option maxRecDepth 100000 in
theorem dk0_34 : decode prog_2_method_1_code 34 = .ok (.dup, 1) := rfl
set_option maxRecDepth 100000 in
theorem dk0_35 : decode prog_2_method_1_code 35 = .ok (.sipush 924, 3) := rfl
set_option maxRecDepth 100000 in
theorem dk0_38 : decode prog_2_method_1_code 38 = .ok (.invokespecial 11, 3) := rfl
set_option maxRecDepth 100000 in
theorem dk0_41 : decode prog_2_method_1_code 41 = .ok (.putfield 23, 3) := rfl
set_option maxRecDepth 100000 in
theorem dk0_44 : decode prog_2_method_1_code 44 = .ok (.aload_n 0, 1) := rfl
set_option maxRecDepth 100000 in
theorem dk0_45 : decode prog_2_method_1_code 45 = .ok (.sipush 924, 3) := rfl
set_option maxRecDepth 100000 in
theorem dk0_48 : decode prog_2_method_1_code 48 = .ok (.newarray .int, 2) := rfl
set_option maxRecDepth 100000 in
theorem dk0_50 : decode prog_2_method_1_code 50 = .ok (.putfield 26, 3) := rfl
set_option maxRecDepth 100000 in
theorem dk0_53 : decode prog_2_method_1_code 53 = .ok (.aload_n 0, 1) := rfl
set_option maxRecDepth 100000 in
theorem dk0_54 : decode prog_2_method_1_code 54 = .ok (.sipush 924, 3) := rfl
set_option maxRecDepth 100000 in
theorem dk0_57 : decode prog_2_method_1_code 57 = .ok (.newarray .int, 2) := rfl
set_option maxRecDepth 100000 in
theorem dk0_59 : decode prog_2_method_1_code 59 = .ok (.putfield 30, 3) := rfl
set_option maxRecDepth 100000 in
theorem dk0_62 : decode prog_2_method_1_code 62 = .ok (.aload_n 0, 1) := rfl
set_option maxRecDepth 100000 in
theorem dk0_63 : decode prog_2_method_1_code 63 = .ok (.new 33, 3) := rfl
set_option maxRecDepth 100000 in
theorem dk0_66 : decode prog_2_method_1_code 66 = .ok (.dup, 1) := rfl
set_option maxRecDepth 100000 in
theorem dk0_67 : decode prog_2_method_1_code 67 = .ok (.invokespecial 35, 3) := rfl
set_option maxRecDepth 100000 in
theorem dk0_70 : decode prog_2_method_1_code 70 = .ok (.putfield 36, 3) := rfl
set_option maxRecDepth 100000 in
theorem dk0_73 : decode prog_2_method_1_code 73 = .ok (.aload_n 0, 1) := rfl
set_option maxRecDepth 100000 in
theorem dk0_74 : decode prog_2_method_1_code 74 = .ok (.new 40, 3) := rfl
set_option maxRecDepth 100000 in
theorem dk0_77 : decode prog_2_method_1_code 77 = .ok (.dup, 1) := rfl
set_option maxRecDepth 100000 in
theorem dk0_78 : decode prog_2_method_1_code 78 = .ok (.invokespecial 42, 3) := rfl
set_option maxRecDepth 100000 in
theorem dk0_81 : decode prog_2_method_1_code 81 = .ok (.putfield 43, 3) := rfl
set_option maxRecDepth 100000 in
theorem dk0_84 : decode prog_2_method_1_code 84 = .ok (.aload_n 0, 1) := rfl
set_option maxRecDepth 100000 in
theorem dk0_85 : decode prog_2_method_1_code 85 = .ok (.iconst (-1), 1) := rfl
set_option maxRecDepth 100000 in
theorem dk0_86 : decode prog_2_method_1_code 86 = .ok (.putfield 47, 3) := rfl
set_option maxRecDepth 100000 in
theorem dk0_89 : decode prog_2_method_1_code 89 = .ok (.aload_n 0, 1) := rfl
set_option maxRecDepth 100000 in
theorem dk0_90 : decode prog_2_method_1_code 90 = .ok (.iconst (-1), 1) := rfl
set_option maxRecDepth 100000 in
theorem dk0_91 : decode prog_2_method_1_code 91 = .ok (.putfield 51, 3) := rfl
set_option maxRecDepth 100000 in
theorem dk0_94 : decode prog_2_method_1_code 94 = .ok (.return_, 1) := rfl
set_option maxHeartbeats 4000000 in
set_option maxRecDepth 100000 in
theorem ct_0 : CtorC ⟨Rn 0, "<init>", "()V"⟩ prog_2_method_1_code 1 3 120 26 7721 [] 0 Lf0 := by
  refine ct_of (by decide) rfl rfl (by decide) ?_
  intro p l e s m args below meth c D tA b ls X hin g hl
  rw [dfl_0] at g
  refine lv_aload_n (i := 0) (x := b) X.1 X.2.1 dk0_0 rfl (lv_at hl 0 rfl) ?_
  refine c_obj X kw_51 kw_2 kw_3 hl.1 (by decide) dk0_1 ?_
  refine lv_aload_n (i := 0) (x := b) X.1 X.2.1 dk0_4 rfl (lv_at hl 0 rfl) ?_
  refine c_new (ci := 6) X (by decide) g kw_52 kw_53 kw_54 (by decide) (by decide) dk0_5 (fun H1 g => ?_)
  refine lv_dup X.1 X.2.1 dk0_8 rfl ?_
  refine lv_bipush (v := iN ((24 : Nat) : Int)) X.1 X.2.1 dk0_9 (by decide) ?_
  refine c_call (L := [.inr (0, [.null, .null, .null, .null, .null, .null, .null, .int 0, .int 0])]) (rest := [.ref (b + 1), .ref b]) ct_6_24 X g kw_57 kw_54 kw_55 kw_56 rfl ⟨by decide, by decide, by decide⟩ ⟨by decide, by decide⟩ ⟨by decide, by decide⟩ hl.1 (by simp [Value.category]) rfl dk0_11 (fun H2 lc2 g => ?_)
  have g : CG D b s (([.inr (0, [.null, .null, .null, .null, .null, .null, .null, .int 0, .int 0])]) ++ Lf6_24 tA (b + 1)) H2 lc2 := g
  refine c_put (k := 0) (ty := .object "RingDater$Row") (v := .ref (b + 1)) X (by decide) g (by decide) (by simp) kw_58 (fun _ => hin) rfl rfl rfl rfl dk0_14 (fun H3 lc3 g => ?_)
  have g : CG D b s (([.inr (0, [.ref (b + 1), .null, .null, .null, .null, .null, .null, .int 0, .int 0])]) ++ Lf6_24 tA (b + 1)) H3 lc3 := g
  refine lv_aload_n (i := 0) (x := b) X.1 X.2.1 dk0_17 rfl (lv_at hl 0 rfl) ?_
  refine c_new (ci := 6) X (by decide) g kw_52 kw_53 kw_54 (by decide) (by decide) dk0_18 (fun H4 g => ?_)
  refine lv_dup X.1 X.2.1 dk0_21 rfl ?_
  refine lv_bipush (v := iN ((24 : Nat) : Int)) X.1 X.2.1 dk0_22 (by decide) ?_
  refine c_call (L := ([.inr (0, [.ref (b + 1), .null, .null, .null, .null, .null, .null, .int 0, .int 0])]) ++ Lf6_24 tA (b + 1)) (rest := [.ref (b + 8), .ref b]) ct_6_24 X g kw_57 kw_54 kw_55 kw_56 rfl ⟨by decide, by decide, by decide⟩ ⟨by decide, by decide⟩ ⟨by decide, by decide⟩ hl.1 (by simp [Value.category]) rfl dk0_24 (fun H5 lc5 g => ?_)
  have g : CG D b s ((([.inr (0, [.ref (b + 1), .null, .null, .null, .null, .null, .null, .int 0, .int 0])]) ++ Lf6_24 tA (b + 1)) ++ Lf6_24 tA (b + 8)) H5 lc5 := g
  refine c_put (k := 1) (ty := .object "RingDater$Row") (v := .ref (b + 8)) X (by decide) g (by decide) (by simp) kw_59 (fun _ => hin) rfl rfl rfl rfl dk0_27 (fun H6 lc6 g => ?_)
  have g : CG D b s ((([.inr (0, [.ref (b + 1), .ref (b + 8), .null, .null, .null, .null, .null, .int 0, .int 0])]) ++ Lf6_24 tA (b + 1)) ++ Lf6_24 tA (b + 8)) H6 lc6 := g
  refine lv_aload_n (i := 0) (x := b) X.1 X.2.1 dk0_30 rfl (lv_at hl 0 rfl) ?_
  refine c_new (ci := 6) X (by decide) g kw_52 kw_53 kw_54 (by decide) (by decide) dk0_31 (fun H7 g => ?_)
  refine lv_dup X.1 X.2.1 dk0_34 rfl ?_
  refine lv_sipush (v := iN ((924 : Nat) : Int)) X.1 X.2.1 dk0_35 (by decide) ?_
  refine c_call (L := (([.inr (0, [.ref (b + 1), .ref (b + 8), .null, .null, .null, .null, .null, .int 0, .int 0])]) ++ Lf6_24 tA (b + 1)) ++ Lf6_24 tA (b + 8)) (rest := [.ref (b + 15), .ref b]) ct_6_924 X g kw_57 kw_54 kw_55 kw_56 rfl ⟨by decide, by decide, by decide⟩ ⟨by decide, by decide⟩ ⟨by decide, by decide⟩ hl.1 (by simp [Value.category]) rfl dk0_38 (fun H8 lc8 g => ?_)
  have g : CG D b s (((([.inr (0, [.ref (b + 1), .ref (b + 8), .null, .null, .null, .null, .null, .int 0, .int 0])]) ++ Lf6_24 tA (b + 1)) ++ Lf6_24 tA (b + 8)) ++ Lf6_924 tA (b + 15)) H8 lc8 := g
  refine c_put (k := 2) (ty := .object "RingDater$Row") (v := .ref (b + 15)) X (by decide) g (by decide) (by simp) kw_60 (fun _ => hin) rfl rfl rfl rfl dk0_41 (fun H9 lc9 g => ?_)
  have g : CG D b s (((([.inr (0, [.ref (b + 1), .ref (b + 8), .ref (b + 15), .null, .null, .null, .null, .int 0, .int 0])]) ++ Lf6_24 tA (b + 1)) ++ Lf6_24 tA (b + 8)) ++ Lf6_924 tA (b + 15)) H9 lc9 := g
  refine lv_aload_n (i := 0) (x := b) X.1 X.2.1 dk0_44 rfl (lv_at hl 0 rfl) ?_
  refine lv_sipush (v := iN ((924 : Nat) : Int)) X.1 X.2.1 dk0_45 (by decide) ?_
  refine c_newa (n := 924) (t := 0) X (by simp) (by omega) g (by decide) (by decide) dk0_48 kw_0 kw_1 (fun H10 g => ?_)
  have g : CG D b s ((((([.inr (0, [.ref (b + 1), .ref (b + 8), .ref (b + 15), .null, .null, .null, .null, .int 0, .int 0])]) ++ Lf6_24 tA (b + 1)) ++ Lf6_24 tA (b + 8)) ++ Lf6_924 tA (b + 15)) ++ [.inl (tA 0, (924, .inl (fun _ => 0)))]) H10 lc9 := g
  refine c_put (k := 3) (ty := .array .int) (v := .ref (b + 22)) X (by decide) g (by decide) (by simp) kw_61 (fun _ => hin) rfl rfl rfl rfl dk0_50 (fun H11 lc11 g => ?_)
  have g : CG D b s ((((([.inr (0, [.ref (b + 1), .ref (b + 8), .ref (b + 15), .ref (b + 22), .null, .null, .null, .int 0, .int 0])]) ++ Lf6_24 tA (b + 1)) ++ Lf6_24 tA (b + 8)) ++ Lf6_924 tA (b + 15)) ++ [.inl (tA 0, (924, .inl (fun _ => 0)))]) H11 lc11 := g
  refine lv_aload_n (i := 0) (x := b) X.1 X.2.1 dk0_53 rfl (lv_at hl 0 rfl) ?_
  refine lv_sipush (v := iN ((924 : Nat) : Int)) X.1 X.2.1 dk0_54 (by decide) ?_
  refine c_newa (n := 924) (t := 0) X (by simp) (by omega) g (by decide) (by decide) dk0_57 kw_0 kw_1 (fun H12 g => ?_)
  have g : CG D b s ((((([.inr (0, [.ref (b + 1), .ref (b + 8), .ref (b + 15), .ref (b + 22), .null, .null, .null, .int 0, .int 0])]) ++ Lf6_24 tA (b + 1)) ++ Lf6_24 tA (b + 8)) ++ Lf6_924 tA (b + 15)) ++ [.inl (tA 0, (924, .inl (fun _ => 0))), .inl (tA 0, (924, .inl (fun _ => 0)))]) H12 lc11 := g
  refine c_put (k := 4) (ty := .array .int) (v := .ref (b + 23)) X (by decide) g (by decide) (by simp) kw_62 (fun _ => hin) rfl rfl rfl rfl dk0_59 (fun H13 lc13 g => ?_)
  have g : CG D b s ((((([.inr (0, [.ref (b + 1), .ref (b + 8), .ref (b + 15), .ref (b + 22), .ref (b + 23), .null, .null, .int 0, .int 0])]) ++ Lf6_24 tA (b + 1)) ++ Lf6_24 tA (b + 8)) ++ Lf6_924 tA (b + 15)) ++ [.inl (tA 0, (924, .inl (fun _ => 0))), .inl (tA 0, (924, .inl (fun _ => 0)))]) H13 lc13 := g
  refine lv_aload_n (i := 0) (x := b) X.1 X.2.1 dk0_62 rfl (lv_at hl 0 rfl) ?_
  refine c_new (ci := 7) X (by decide) g kw_63 kw_31 kw_32 (by decide) (by decide) dk0_63 (fun H14 g => ?_)
  refine lv_dup X.1 X.2.1 dk0_66 rfl ?_
  refine c_callN (L := (((([.inr (0, [.ref (b + 1), .ref (b + 8), .ref (b + 15), .ref (b + 22), .ref (b + 23), .null, .null, .int 0, .int 0])]) ++ Lf6_24 tA (b + 1)) ++ Lf6_24 tA (b + 8)) ++ Lf6_924 tA (b + 15)) ++ [.inl (tA 0, (924, .inl (fun _ => 0))), .inl (tA 0, (924, .inl (fun _ => 0)))]) (rest := [.ref (b + 24), .ref b]) ct_7 X g kt_1 kw_32 kw_33 kw_34 rfl ⟨by decide, by decide, by decide⟩ ⟨by decide, by decide⟩ ⟨by decide, by decide⟩ hl.1 (by simp [Value.category]) rfl dk0_67 (fun H15 lc15 g => ?_)
  have g : CG D b s (((((([.inr (0, [.ref (b + 1), .ref (b + 8), .ref (b + 15), .ref (b + 22), .ref (b + 23), .null, .null, .int 0, .int 0])]) ++ Lf6_24 tA (b + 1)) ++ Lf6_24 tA (b + 8)) ++ Lf6_924 tA (b + 15)) ++ [.inl (tA 0, (924, .inl (fun _ => 0))), .inl (tA 0, (924, .inl (fun _ => 0)))]) ++ Lf7 tA (b + 24)) H15 lc15 := g
  refine c_put (k := 5) (ty := .object "RingDater$Slide") (v := .ref (b + 24)) X (by decide) g (by decide) (by simp) kw_64 (fun _ => hin) rfl rfl rfl rfl dk0_70 (fun H16 lc16 g => ?_)
  have g : CG D b s (((((([.inr (0, [.ref (b + 1), .ref (b + 8), .ref (b + 15), .ref (b + 22), .ref (b + 23), .ref (b + 24), .null, .int 0, .int 0])]) ++ Lf6_24 tA (b + 1)) ++ Lf6_24 tA (b + 8)) ++ Lf6_924 tA (b + 15)) ++ [.inl (tA 0, (924, .inl (fun _ => 0))), .inl (tA 0, (924, .inl (fun _ => 0)))]) ++ Lf7 tA (b + 24)) H16 lc16 := g
  refine lv_aload_n (i := 0) (x := b) X.1 X.2.1 dk0_73 rfl (lv_at hl 0 rfl) ?_
  refine c_new (ci := 1) X (by decide) g kw_65 kw_66 kw_67 (by decide) (by decide) dk0_74 (fun H17 g => ?_)
  refine lv_dup X.1 X.2.1 dk0_77 rfl ?_
  refine c_callN (L := ((((([.inr (0, [.ref (b + 1), .ref (b + 8), .ref (b + 15), .ref (b + 22), .ref (b + 23), .ref (b + 24), .null, .int 0, .int 0])]) ++ Lf6_24 tA (b + 1)) ++ Lf6_24 tA (b + 8)) ++ Lf6_924 tA (b + 15)) ++ [.inl (tA 0, (924, .inl (fun _ => 0))), .inl (tA 0, (924, .inl (fun _ => 0)))]) ++ Lf7 tA (b + 24)) (rest := [.ref (b + 25), .ref b]) ct_1 X g kt_2 kw_67 kw_68 kw_69 rfl ⟨by decide, by decide, by decide⟩ ⟨by decide, by decide⟩ ⟨by decide, by decide⟩ hl.1 (by simp [Value.category]) rfl dk0_78 (fun H18 lc18 g => ?_)
  have g : CG D b s ((((((([.inr (0, [.ref (b + 1), .ref (b + 8), .ref (b + 15), .ref (b + 22), .ref (b + 23), .ref (b + 24), .null, .int 0, .int 0])]) ++ Lf6_24 tA (b + 1)) ++ Lf6_24 tA (b + 8)) ++ Lf6_924 tA (b + 15)) ++ [.inl (tA 0, (924, .inl (fun _ => 0))), .inl (tA 0, (924, .inl (fun _ => 0)))]) ++ Lf7 tA (b + 24)) ++ Lf1 tA (b + 25)) H18 lc18 := g
  refine c_put (k := 6) (ty := .object "RingDater$Finding") (v := .ref (b + 25)) X (by decide) g (by decide) (by simp) kw_70 (fun _ => hin) rfl rfl rfl rfl dk0_81 (fun H19 lc19 g => ?_)
  have g : CG D b s ((((((([.inr (0, [.ref (b + 1), .ref (b + 8), .ref (b + 15), .ref (b + 22), .ref (b + 23), .ref (b + 24), .ref (b + 25), .int 0, .int 0])]) ++ Lf6_24 tA (b + 1)) ++ Lf6_24 tA (b + 8)) ++ Lf6_924 tA (b + 15)) ++ [.inl (tA 0, (924, .inl (fun _ => 0))), .inl (tA 0, (924, .inl (fun _ => 0)))]) ++ Lf7 tA (b + 24)) ++ Lf1 tA (b + 25)) H19 lc19 := g
  refine lv_aload_n (i := 0) (x := b) X.1 X.2.1 dk0_84 rfl (lv_at hl 0 rfl) ?_
  refine lv_iconst (v := iN (-1)) X.1 X.2.1 dk0_85 (by decide) ?_
  refine c_put (k := 7) (ty := .int) (v := .int (iN (-1))) X (by decide) g (by decide) (by simp) kw_71 (fun _ => hin) rfl rfl rfl rfl dk0_86 (fun H20 lc20 g => ?_)
  have g : CG D b s ((((((([.inr (0, [.ref (b + 1), .ref (b + 8), .ref (b + 15), .ref (b + 22), .ref (b + 23), .ref (b + 24), .ref (b + 25), .int (iN (-1)), .int 0])]) ++ Lf6_24 tA (b + 1)) ++ Lf6_24 tA (b + 8)) ++ Lf6_924 tA (b + 15)) ++ [.inl (tA 0, (924, .inl (fun _ => 0))), .inl (tA 0, (924, .inl (fun _ => 0)))]) ++ Lf7 tA (b + 24)) ++ Lf1 tA (b + 25)) H20 lc20 := g
  refine lv_aload_n (i := 0) (x := b) X.1 X.2.1 dk0_89 rfl (lv_at hl 0 rfl) ?_
  refine lv_iconst (v := iN (-1)) X.1 X.2.1 dk0_90 (by decide) ?_
  refine c_put (k := 8) (ty := .int) (v := .int (iN (-1))) X (by decide) g (by decide) (by simp) kw_72 (fun _ => hin) rfl rfl rfl rfl dk0_91 (fun H21 lc21 g => ?_)
  have g : CG D b s ((((((([.inr (0, [.ref (b + 1), .ref (b + 8), .ref (b + 15), .ref (b + 22), .ref (b + 23), .ref (b + 24), .ref (b + 25), .int (iN (-1)), .int (iN (-1))])]) ++ Lf6_24 tA (b + 1)) ++ Lf6_24 tA (b + 8)) ++ Lf6_924 tA (b + 15)) ++ [.inl (tA 0, (924, .inl (fun _ => 0))), .inl (tA 0, (924, .inl (fun _ => 0)))]) ++ Lf7 tA (b + 24)) ++ Lf1 tA (b + 25)) H21 lc21 := g
  exact ct_ret X g dk0_94
