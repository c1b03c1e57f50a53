/-! CONSTRUCTORS, 3: Stock, Reader (printed by wip/whole/g72.py). -/
theorem c_any {p : Program} {s : State} {m : MethodId} {args : Array Value} {meth : Method} {c : Code} {D : va_G} {tA : Nat → ClassId} {b : Nat} {own : String} {nL : Nat} {cc : ByteArray} {L : List va_E} {H : Heap} {locs : List Loc} {ci q : Nat} {fs : List Value} (X : CXt p s m args meth c D tA own nL cc) (hci : ci < 13) (g : CG D b s L H locs) (he : L[q]? = some (.inr (ci, fs))) : va_Any (Rn ci) s H (b + q) := by
  obtain ⟨hx, hb, hml, hown, hw, hK, hwc, hrt, hlk⟩ := X
  obtain ⟨c1, -⟩ := cls_el hci
  refine va_rAny hK g.1.2 (q0 := q) (by rw [wsL_at, he]; rfl) c1 (fun comp c0 h1 h2 => ?_)
  cases h1.symm.trans h2
  exact va_asg _ _
def LwA (tA : Nat → ClassId) (b : Nat) : List va_E := (((((((((([.inr (8, [.ref (b + 1), .ref (b + 2), .ref (b + 5), .int 0, .int 0, .int 0, .int 0]), .inl (tA 2, (8, .inr (.inr (.inr (.inr (va_up (va_up (va_up (va_up (va_up (va_up (va_up (va_up (fun _ => none) 0 (some (b + 6))) 1 (some (b + 9))) 2 (some (b + 12))) 3 (some (b + 15))) 4 (some (b + 18))) 5 (some (b + 21))) 6 (some (b + 24))) 7 (some (b + 27))))))))]) ++ Lf9 tA (b + 2)) ++ [.inl (tA 0, (8, .inl (fun _ => 0)))]) ++ Lf9 tA (b + 6)) ++ Lf9 tA (b + 9)) ++ Lf9 tA (b + 12)) ++ Lf9 tA (b + 15)) ++ Lf9 tA (b + 18)) ++ Lf9 tA (b + 21)) ++ Lf9 tA (b + 24)) ++ Lf9 tA (b + 27)
set_option maxRecDepth 100000 in
theorem dkW_0 : decode prog_10_method_2_code 0 = .ok (.iconst 0, 1) := rfl
set_option maxRecDepth 100000 in
theorem dkW_1 : decode prog_10_method_2_code 1 = .ok (.istore_n 1, 1) := rfl
set_option maxRecDepth 100000 in
theorem dkW_2 : decode prog_10_method_2_code 2 = .ok (.iload_n 1, 1) := rfl
set_option maxRecDepth 100000 in
theorem dkW_3 : decode prog_10_method_2_code 3 = .ok (.bipush 8, 2) := rfl
set_option maxRecDepth 100000 in
theorem dkW_5 : decode prog_10_method_2_code 5 = .ok (.if_icmp .ge 16, 3) := rfl
set_option maxRecDepth 100000 in
theorem dkW_8 : decode prog_10_method_2_code 8 = .ok (.aload_n 0, 1) := rfl
set_option maxRecDepth 100000 in
theorem dkW_9 : decode prog_10_method_2_code 9 = .ok (.getfield 22, 3) := rfl
set_option maxRecDepth 100000 in
theorem kw_73 : Cond.fieldLink (Rn 8) 22 (Tc 8 2).1 (Tc 8 2).2.1 (Tc 8 2).2.2.1 ∈ gW := gW_at (i := 198) rfl rfl
set_option maxRecDepth 100000 in
theorem dkW_12 : decode prog_10_method_2_code 12 = .ok (.iload_n 1, 1) := rfl
set_option maxRecDepth 100000 in
theorem dkW_13 : decode prog_10_method_2_code 13 = .ok (.iconst (-1), 1) := rfl
set_option maxRecDepth 100000 in
theorem dkW_14 : decode prog_10_method_2_code 14 = .ok (.iastore, 1) := rfl
set_option maxRecDepth 100000 in
theorem dkW_15 : decode prog_10_method_2_code 15 = .ok (.iinc 1 1, 3) := rfl
set_option maxRecDepth 100000 in
theorem dkW_18 : decode prog_10_method_2_code 18 = .ok (.goto (-16), 3) := rfl
set_option maxRecDepth 100000 in
theorem dkW_21 : decode prog_10_method_2_code 21 = .ok (.aload_n 0, 1) := rfl
set_option maxRecDepth 100000 in
theorem dkW_22 : decode prog_10_method_2_code 22 = .ok (.iconst 0, 1) := rfl
set_option maxRecDepth 100000 in
theorem dkW_23 : decode prog_10_method_2_code 23 = .ok (.putfield 29, 3) := rfl
set_option maxRecDepth 100000 in
theorem kw_74 : Cond.fieldLink (Rn 8) 29 (Tc 8 3).1 (Tc 8 3).2.1 (Tc 8 3).2.2.1 ∈ gW := gW_at (i := 202) rfl rfl
set_option maxRecDepth 100000 in
theorem dkW_26 : decode prog_10_method_2_code 26 = .ok (.aload_n 0, 1) := rfl
set_option maxRecDepth 100000 in
theorem dkW_27 : decode prog_10_method_2_code 27 = .ok (.bipush 70, 2) := rfl
set_option maxRecDepth 100000 in
theorem dkW_29 : decode prog_10_method_2_code 29 = .ok (.putfield 33, 3) := rfl
set_option maxRecDepth 100000 in
theorem kw_75 : Cond.fieldLink (Rn 8) 33 (Tc 8 4).1 (Tc 8 4).2.1 (Tc 8 4).2.2.1 ∈ gW := gW_at (i := 207) rfl rfl
set_option maxRecDepth 100000 in
theorem dkW_32 : decode prog_10_method_2_code 32 = .ok (.aload_n 0, 1) := rfl
set_option maxRecDepth 100000 in
theorem dkW_33 : decode prog_10_method_2_code 33 = .ok (.bipush 6, 2) := rfl
set_option maxRecDepth 100000 in
theorem dkW_35 : decode prog_10_method_2_code 35 = .ok (.putfield 36, 3) := rfl
set_option maxRecDepth 100000 in
theorem kw_76 : Cond.fieldLink (Rn 8) 36 (Tc 8 5).1 (Tc 8 5).2.1 (Tc 8 5).2.2.1 ∈ gW := gW_at (i := 210) rfl rfl
set_option maxRecDepth 100000 in
theorem dkW_38 : decode prog_10_method_2_code 38 = .ok (.aload_n 0, 1) := rfl
set_option maxRecDepth 100000 in
theorem dkW_39 : decode prog_10_method_2_code 39 = .ok (.iconst 5, 1) := rfl
set_option maxRecDepth 100000 in
theorem dkW_40 : decode prog_10_method_2_code 40 = .ok (.putfield 39, 3) := rfl
set_option maxRecDepth 100000 in
theorem kw_77 : Cond.fieldLink (Rn 8) 39 (Tc 8 6).1 (Tc 8 6).2.1 (Tc 8 6).2.2.1 ∈ gW := gW_at (i := 214) rfl rfl
set_option maxRecDepth 100000 in
theorem dkW_43 : decode prog_10_method_2_code 43 = .ok (.return_, 1) := rfl
def Lf8 (tA : Nat → ClassId) (b : Nat) : List va_E := (((((((((([.inr (8, [.ref (b + 1), .ref (b + 2), .ref (b + 5), .int (iN ((0 : Nat) : Int)), .int (iN ((70 : Nat) : Int)), .int (iN ((6 : Nat) : Int)), .int (iN ((5 : Nat) : Int))]), .inl (tA 2, (8, .inr (.inr (.inr (.inr (va_up (va_up (va_up (va_up (va_up (va_up (va_up (va_up (fun _ => none) 0 (some (b + 6))) 1 (some (b + 9))) 2 (some (b + 12))) 3 (some (b + 15))) 4 (some (b + 18))) 5 (some (b + 21))) 6 (some (b + 24))) 7 (some (b + 27))))))))]) ++ Lf9 tA (b + 2)) ++ [.inl (tA 0, (8, .inl (upd (upd (upd (upd (upd (upd (upd (upd (fun _ => 0) 0 (iN (-1))) 1 (iN (-1))) 2 (iN (-1))) 3 (iN (-1))) 4 (iN (-1))) 5 (iN (-1))) 6 (iN (-1))) 7 (iN (-1)))))]) ++ Lf9 tA (b + 6)) ++ Lf9 tA (b + 9)) ++ Lf9 tA (b + 12)) ++ Lf9 tA (b + 15)) ++ Lf9 tA (b + 18)) ++ Lf9 tA (b + 21)) ++ Lf9 tA (b + 24)) ++ Lf9 tA (b + 27)
set_option maxHeartbeats 4000000 in
set_option maxRecDepth 100000 in
theorem lm_wipe : LMet ⟨Rn 8, "wipe", "()V"⟩ prog_10_method_2_code 2 0 0 (fun b => [.ref b]) LwA Lf8 := by
  refine lm_of (ci := 8) (by decide) rfl (fun b => by simp [lg_sl, Value.category]) ?_
  intro p l e s m args below meth c D tA b ls X g hl
  have hl : lv_has ls 2 [(0, .ref b)] := hl
  have g : CG D b s ((((((((((([.inr (8, [.ref (b + 1), .ref (b + 2), .ref (b + 5), .int 0, .int 0, .int 0, .int 0]), .inl (tA 2, (8, .inr (.inr (.inr (.inr (va_up (va_up (va_up (va_up (va_up (va_up (va_up (va_up (fun _ => none) 0 (some (b + 6))) 1 (some (b + 9))) 2 (some (b + 12))) 3 (some (b + 15))) 4 (some (b + 18))) 5 (some (b + 21))) 6 (some (b + 24))) 7 (some (b + 27))))))))]) ++ Lf9 tA (b + 2)) ++ [.inl (tA 0, (8, .inl (fun _ => 0)))]) ++ Lf9 tA (b + 6)) ++ Lf9 tA (b + 9)) ++ Lf9 tA (b + 12)) ++ Lf9 tA (b + 15)) ++ Lf9 tA (b + 18)) ++ Lf9 tA (b + 21)) ++ Lf9 tA (b + 24)) ++ Lf9 tA (b + 27)) s.heap [] := g
  refine lv_iconst (v := iN ((0 : Nat) : Int)) X.1 X.2.1 dkW_0 (by decide) ?_
  refine lv_istore_n (lv' := [(1, .int (iN ((0 : Nat) : Int))), (0, .ref b)]) X.1 X.2.1 dkW_1 rfl hl (by decide) rfl (fun ls hl => ?_)
  refine lv_iload_n (i := 1) (x := iN ((0 : Nat) : Int)) X.1 X.2.1 dkW_2 rfl (lv_at hl 0 rfl) ?_
  refine lv_bipush (v := iN ((8 : Nat) : Int)) X.1 X.2.1 dkW_3 (by decide) ?_
  refine lv_icmp_ge (tgt := 21) X.1 X.2.1 dkW_5 (by decide) (fun q => absurd q (by decide)) (fun _ => ?_)
  refine lv_aload_n (i := 0) (x := b) X.1 X.2.1 dkW_8 rfl (lv_at hl 1 rfl) ?_
  refine c_get (k := 2) (v := .ref (b + 5)) X (by decide) g (by decide) kw_73 rfl dkW_9 ?_
  refine lv_iload_n (i := 1) (x := iN ((0 : Nat) : Int)) X.1 X.2.1 dkW_12 rfl (lv_at hl 0 rfl) ?_
  refine lv_iconst (v := iN (-1)) X.1 X.2.1 dkW_13 (by decide) ?_
  refine c_iast (n := 8) (q0 := 5) (i := 0) (x := (-1)) X (by omega) g rfl (by omega) dkW_14 (fun H1 lc1 g => ?_)
  have g : CG D b s ((((((((((([.inr (8, [.ref (b + 1), .ref (b + 2), .ref (b + 5), .int 0, .int 0, .int 0, .int 0]), .inl (tA 2, (8, .inr (.inr (.inr (.inr (va_up (va_up (va_up (va_up (va_up (va_up (va_up (va_up (fun _ => none) 0 (some (b + 6))) 1 (some (b + 9))) 2 (some (b + 12))) 3 (some (b + 15))) 4 (some (b + 18))) 5 (some (b + 21))) 6 (some (b + 24))) 7 (some (b + 27))))))))]) ++ Lf9 tA (b + 2)) ++ [.inl (tA 0, (8, .inl (upd (fun _ => 0) 0 (iN (-1)))))]) ++ Lf9 tA (b + 6)) ++ Lf9 tA (b + 9)) ++ Lf9 tA (b + 12)) ++ Lf9 tA (b + 15)) ++ Lf9 tA (b + 18)) ++ Lf9 tA (b + 21)) ++ Lf9 tA (b + 24)) ++ Lf9 tA (b + 27)) H1 lc1 := g
  refine lv_iinc (v := iN ((1 : Nat) : Int)) (lv' := [(1, .int (iN ((1 : Nat) : Int))), (0, .ref b)]) X.1 X.2.1 dkW_15 hl (k := 0) rfl (by decide) (by decide) rfl (fun ls hl => ?_)
  refine lv_goto (tgt := 2) X.1 X.2.1 dkW_18 (by decide) ?_
  refine lv_iload_n (i := 1) (x := iN ((1 : Nat) : Int)) X.1 X.2.1 dkW_2 rfl (lv_at hl 0 rfl) ?_
  refine lv_bipush (v := iN ((8 : Nat) : Int)) X.1 X.2.1 dkW_3 (by decide) ?_
  refine lv_icmp_ge (tgt := 21) X.1 X.2.1 dkW_5 (by decide) (fun q => absurd q (by decide)) (fun _ => ?_)
  refine lv_aload_n (i := 0) (x := b) X.1 X.2.1 dkW_8 rfl (lv_at hl 1 rfl) ?_
  refine c_get (k := 2) (v := .ref (b + 5)) X (by decide) g (by decide) kw_73 rfl dkW_9 ?_
  refine lv_iload_n (i := 1) (x := iN ((1 : Nat) : Int)) X.1 X.2.1 dkW_12 rfl (lv_at hl 0 rfl) ?_
  refine lv_iconst (v := iN (-1)) X.1 X.2.1 dkW_13 (by decide) ?_
  refine c_iast (n := 8) (q0 := 5) (i := 1) (x := (-1)) X (by omega) g rfl (by omega) dkW_14 (fun H2 lc2 g => ?_)
  have g : CG D b s ((((((((((([.inr (8, [.ref (b + 1), .ref (b + 2), .ref (b + 5), .int 0, .int 0, .int 0, .int 0]), .inl (tA 2, (8, .inr (.inr (.inr (.inr (va_up (va_up (va_up (va_up (va_up (va_up (va_up (va_up (fun _ => none) 0 (some (b + 6))) 1 (some (b + 9))) 2 (some (b + 12))) 3 (some (b + 15))) 4 (some (b + 18))) 5 (some (b + 21))) 6 (some (b + 24))) 7 (some (b + 27))))))))]) ++ Lf9 tA (b + 2)) ++ [.inl (tA 0, (8, .inl (upd (upd (fun _ => 0) 0 (iN (-1))) 1 (iN (-1)))))]) ++ Lf9 tA (b + 6)) ++ Lf9 tA (b + 9)) ++ Lf9 tA (b + 12)) ++ Lf9 tA (b + 15)) ++ Lf9 tA (b + 18)) ++ Lf9 tA (b + 21)) ++ Lf9 tA (b + 24)) ++ Lf9 tA (b + 27)) H2 lc2 := g
  refine lv_iinc (v := iN ((2 : Nat) : Int)) (lv' := [(1, .int (iN ((2 : Nat) : Int))), (0, .ref b)]) X.1 X.2.1 dkW_15 hl (k := 0) rfl (by decide) (by decide) rfl (fun ls hl => ?_)
  refine lv_goto (tgt := 2) X.1 X.2.1 dkW_18 (by decide) ?_
  refine lv_iload_n (i := 1) (x := iN ((2 : Nat) : Int)) X.1 X.2.1 dkW_2 rfl (lv_at hl 0 rfl) ?_
  refine lv_bipush (v := iN ((8 : Nat) : Int)) X.1 X.2.1 dkW_3 (by decide) ?_
  refine lv_icmp_ge (tgt := 21) X.1 X.2.1 dkW_5 (by decide) (fun q => absurd q (by decide)) (fun _ => ?_)
  refine lv_aload_n (i := 0) (x := b) X.1 X.2.1 dkW_8 rfl (lv_at hl 1 rfl) ?_
  refine c_get (k := 2) (v := .ref (b + 5)) X (by decide) g (by decide) kw_73 rfl dkW_9 ?_
  refine lv_iload_n (i := 1) (x := iN ((2 : Nat) : Int)) X.1 X.2.1 dkW_12 rfl (lv_at hl 0 rfl) ?_
  refine lv_iconst (v := iN (-1)) X.1 X.2.1 dkW_13 (by decide) ?_
  refine c_iast (n := 8) (q0 := 5) (i := 2) (x := (-1)) X (by omega) g rfl (by omega) dkW_14 (fun H3 lc3 g => ?_)
  have g : CG D b s ((((((((((([.inr (8, [.ref (b + 1), .ref (b + 2), .ref (b + 5), .int 0, .int 0, .int 0, .int 0]), .inl (tA 2, (8, .inr (.inr (.inr (.inr (va_up (va_up (va_up (va_up (va_up (va_up (va_up (va_up (fun _ => none) 0 (some (b + 6))) 1 (some (b + 9))) 2 (some (b + 12))) 3 (some (b + 15))) 4 (some (b + 18))) 5 (some (b + 21))) 6 (some (b + 24))) 7 (some (b + 27))))))))]) ++ Lf9 tA (b + 2)) ++ [.inl (tA 0, (8, .inl (upd (upd (upd (fun _ => 0) 0 (iN (-1))) 1 (iN (-1))) 2 (iN (-1)))))]) ++ Lf9 tA (b + 6)) ++ Lf9 tA (b + 9)) ++ Lf9 tA (b + 12)) ++ Lf9 tA (b + 15)) ++ Lf9 tA (b + 18)) ++ Lf9 tA (b + 21)) ++ Lf9 tA (b + 24)) ++ Lf9 tA (b + 27)) H3 lc3 := g
  refine lv_iinc (v := iN ((3 : Nat) : Int)) (lv' := [(1, .int (iN ((3 : Nat) : Int))), (0, .ref b)]) X.1 X.2.1 dkW_15 hl (k := 0) rfl (by decide) (by decide) rfl (fun ls hl => ?_)
  refine lv_goto (tgt := 2) X.1 X.2.1 dkW_18 (by decide) ?_
  refine lv_iload_n (i := 1) (x := iN ((3 : Nat) : Int)) X.1 X.2.1 dkW_2 rfl (lv_at hl 0 rfl) ?_
  refine lv_bipush (v := iN ((8 : Nat) : Int)) X.1 X.2.1 dkW_3 (by decide) ?_
  refine lv_icmp_ge (tgt := 21) X.1 X.2.1 dkW_5 (by decide) (fun q => absurd q (by decide)) (fun _ => ?_)
  refine lv_aload_n (i := 0) (x := b) X.1 X.2.1 dkW_8 rfl (lv_at hl 1 rfl) ?_
  refine c_get (k := 2) (v := .ref (b + 5)) X (by decide) g (by decide) kw_73 rfl dkW_9 ?_
  refine lv_iload_n (i := 1) (x := iN ((3 : Nat) : Int)) X.1 X.2.1 dkW_12 rfl (lv_at hl 0 rfl) ?_
  refine lv_iconst (v := iN (-1)) X.1 X.2.1 dkW_13 (by decide) ?_
  refine c_iast (n := 8) (q0 := 5) (i := 3) (x := (-1)) X (by omega) g rfl (by omega) dkW_14 (fun H4 lc4 g => ?_)
  have g : CG D b s ((((((((((([.inr (8, [.ref (b + 1), .ref (b + 2), .ref (b + 5), .int 0, .int 0, .int 0, .int 0]), .inl (tA 2, (8, .inr (.inr (.inr (.inr (va_up (va_up (va_up (va_up (va_up (va_up (va_up (va_up (fun _ => none) 0 (some (b + 6))) 1 (some (b + 9))) 2 (some (b + 12))) 3 (some (b + 15))) 4 (some (b + 18))) 5 (some (b + 21))) 6 (some (b + 24))) 7 (some (b + 27))))))))]) ++ Lf9 tA (b + 2)) ++ [.inl (tA 0, (8, .inl (upd (upd (upd (upd (fun _ => 0) 0 (iN (-1))) 1 (iN (-1))) 2 (iN (-1))) 3 (iN (-1)))))]) ++ Lf9 tA (b + 6)) ++ Lf9 tA (b + 9)) ++ Lf9 tA (b + 12)) ++ Lf9 tA (b + 15)) ++ Lf9 tA (b + 18)) ++ Lf9 tA (b + 21)) ++ Lf9 tA (b + 24)) ++ Lf9 tA (b + 27)) H4 lc4 := g
  refine lv_iinc (v := iN ((4 : Nat) : Int)) (lv' := [(1, .int (iN ((4 : Nat) : Int))), (0, .ref b)]) X.1 X.2.1 dkW_15 hl (k := 0) rfl (by decide) (by decide) rfl (fun ls hl => ?_)
  refine lv_goto (tgt := 2) X.1 X.2.1 dkW_18 (by decide) ?_
  refine lv_iload_n (i := 1) (x := iN ((4 : Nat) : Int)) X.1 X.2.1 dkW_2 rfl (lv_at hl 0 rfl) ?_
  refine lv_bipush (v := iN ((8 : Nat) : Int)) X.1 X.2.1 dkW_3 (by decide) ?_
  refine lv_icmp_ge (tgt := 21) X.1 X.2.1 dkW_5 (by decide) (fun q => absurd q (by decide)) (fun _ => ?_)
  refine lv_aload_n (i := 0) (x := b) X.1 X.2.1 dkW_8 rfl (lv_at hl 1 rfl) ?_
  refine c_get (k := 2) (v := .ref (b + 5)) X (by decide) g (by decide) kw_73 rfl dkW_9 ?_
  refine lv_iload_n (i := 1) (x := iN ((4 : Nat) : Int)) X.1 X.2.1 dkW_12 rfl (lv_at hl 0 rfl) ?_
  refine lv_iconst (v := iN (-1)) X.1 X.2.1 dkW_13 (by decide) ?_
  refine c_iast (n := 8) (q0 := 5) (i := 4) (x := (-1)) X (by omega) g rfl (by omega) dkW_14 (fun H5 lc5 g => ?_)
  have g : CG D b s ((((((((((([.inr (8, [.ref (b + 1), .ref (b + 2), .ref (b + 5), .int 0, .int 0, .int 0, .int 0]), .inl (tA 2, (8, .inr (.inr (.inr (.inr (va_up (va_up (va_up (va_up (va_up (va_up (va_up (va_up (fun _ => none) 0 (some (b + 6))) 1 (some (b + 9))) 2 (some (b + 12))) 3 (some (b + 15))) 4 (some (b + 18))) 5 (some (b + 21))) 6 (some (b + 24))) 7 (some (b + 27))))))))]) ++ Lf9 tA (b + 2)) ++ [.inl (tA 0, (8, .inl (upd (upd (upd (upd (upd (fun _ => 0) 0 (iN (-1))) 1 (iN (-1))) 2 (iN (-1))) 3 (iN (-1))) 4 (iN (-1)))))]) ++ Lf9 tA (b + 6)) ++ Lf9 tA (b + 9)) ++ Lf9 tA (b + 12)) ++ Lf9 tA (b + 15)) ++ Lf9 tA (b + 18)) ++ Lf9 tA (b + 21)) ++ Lf9 tA (b + 24)) ++ Lf9 tA (b + 27)) H5 lc5 := g
  refine lv_iinc (v := iN ((5 : Nat) : Int)) (lv' := [(1, .int (iN ((5 : Nat) : Int))), (0, .ref b)]) X.1 X.2.1 dkW_15 hl (k := 0) rfl (by decide) (by decide) rfl (fun ls hl => ?_)
  refine lv_goto (tgt := 2) X.1 X.2.1 dkW_18 (by decide) ?_
  refine lv_iload_n (i := 1) (x := iN ((5 : Nat) : Int)) X.1 X.2.1 dkW_2 rfl (lv_at hl 0 rfl) ?_
  refine lv_bipush (v := iN ((8 : Nat) : Int)) X.1 X.2.1 dkW_3 (by decide) ?_
  refine lv_icmp_ge (tgt := 21) X.1 X.2.1 dkW_5 (by decide) (fun q => absurd q (by decide)) (fun _ => ?_)
  refine lv_aload_n (i := 0) (x := b) X.1 X.2.1 dkW_8 rfl (lv_at hl 1 rfl) ?_
  refine c_get (k := 2) (v := .ref (b + 5)) X (by decide) g (by decide) kw_73 rfl dkW_9 ?_
  refine lv_iload_n (i := 1) (x := iN ((5 : Nat) : Int)) X.1 X.2.1 dkW_12 rfl (lv_at hl 0 rfl) ?_
  refine lv_iconst (v := iN (-1)) X.1 X.2.1 dkW_13 (by decide) ?_
  refine c_iast (n := 8) (q0 := 5) (i := 5) (x := (-1)) X (by omega) g rfl (by omega) dkW_14 (fun H6 lc6 g => ?_)
  have g : CG D b s ((((((((((([.inr (8, [.ref (b + 1), .ref (b + 2), .ref (b + 5), .int 0, .int 0, .int 0, .int 0]), .inl (tA 2, (8, .inr (.inr (.inr (.inr (va_up (va_up (va_up (va_up (va_up (va_up (va_up (va_up (fun _ => none) 0 (some (b + 6))) 1 (some (b + 9))) 2 (some (b + 12))) 3 (some (b + 15))) 4 (some (b + 18))) 5 (some (b + 21))) 6 (some (b + 24))) 7 (some (b + 27))))))))]) ++ Lf9 tA (b + 2)) ++ [.inl (tA 0, (8, .inl (upd (upd (upd (upd (upd (upd (fun _ => 0) 0 (iN (-1))) 1 (iN (-1))) 2 (iN (-1))) 3 (iN (-1))) 4 (iN (-1))) 5 (iN (-1)))))]) ++ Lf9 tA (b + 6)) ++ Lf9 tA (b + 9)) ++ Lf9 tA (b + 12)) ++ Lf9 tA (b + 15)) ++ Lf9 tA (b + 18)) ++ Lf9 tA (b + 21)) ++ Lf9 tA (b + 24)) ++ Lf9 tA (b + 27)) H6 lc6 := g
  refine lv_iinc (v := iN ((6 : Nat) : Int)) (lv' := [(1, .int (iN ((6 : Nat) : Int))), (0, .ref b)]) X.1 X.2.1 dkW_15 hl (k := 0) rfl (by decide) (by decide) rfl (fun ls hl => ?_)
  refine lv_goto (tgt := 2) X.1 X.2.1 dkW_18 (by decide) ?_
  refine lv_iload_n (i := 1) (x := iN ((6 : Nat) : Int)) X.1 X.2.1 dkW_2 rfl (lv_at hl 0 rfl) ?_
  refine lv_bipush (v := iN ((8 : Nat) : Int)) X.1 X.2.1 dkW_3 (by decide) ?_
  refine lv_icmp_ge (tgt := 21) X.1 X.2.1 dkW_5 (by decide) (fun q => absurd q (by decide)) (fun _ => ?_)
  refine lv_aload_n (i := 0) (x := b) X.1 X.2.1 dkW_8 rfl (lv_at hl 1 rfl) ?_
  refine c_get (k := 2) (v := .ref (b + 5)) X (by decide) g (by decide) kw_73 rfl dkW_9 ?_
  refine lv_iload_n (i := 1) (x := iN ((6 : Nat) : Int)) X.1 X.2.1 dkW_12 rfl (lv_at hl 0 rfl) ?_
  refine lv_iconst (v := iN (-1)) X.1 X.2.1 dkW_13 (by decide) ?_
  refine c_iast (n := 8) (q0 := 5) (i := 6) (x := (-1)) X (by omega) g rfl (by omega) dkW_14 (fun H7 lc7 g => ?_)
  have g : CG D b s ((((((((((([.inr (8, [.ref (b + 1), .ref (b + 2), .ref (b + 5), .int 0, .int 0, .int 0, .int 0]), .inl (tA 2, (8, .inr (.inr (.inr (.inr (va_up (va_up (va_up (va_up (va_up (va_up (va_up (va_up (fun _ => none) 0 (some (b + 6))) 1 (some (b + 9))) 2 (some (b + 12))) 3 (some (b + 15))) 4 (some (b + 18))) 5 (some (b + 21))) 6 (some (b + 24))) 7 (some (b + 27))))))))]) ++ Lf9 tA (b + 2)) ++ [.inl (tA 0, (8, .inl (upd (upd (upd (upd (upd (upd (upd (fun _ => 0) 0 (iN (-1))) 1 (iN (-1))) 2 (iN (-1))) 3 (iN (-1))) 4 (iN (-1))) 5 (iN (-1))) 6 (iN (-1)))))]) ++ Lf9 tA (b + 6)) ++ Lf9 tA (b + 9)) ++ Lf9 tA (b + 12)) ++ Lf9 tA (b + 15)) ++ Lf9 tA (b + 18)) ++ Lf9 tA (b + 21)) ++ Lf9 tA (b + 24)) ++ Lf9 tA (b + 27)) H7 lc7 := g
  refine lv_iinc (v := iN ((7 : Nat) : Int)) (lv' := [(1, .int (iN ((7 : Nat) : Int))), (0, .ref b)]) X.1 X.2.1 dkW_15 hl (k := 0) rfl (by decide) (by decide) rfl (fun ls hl => ?_)
  refine lv_goto (tgt := 2) X.1 X.2.1 dkW_18 (by decide) ?_
  refine lv_iload_n (i := 1) (x := iN ((7 : Nat) : Int)) X.1 X.2.1 dkW_2 rfl (lv_at hl 0 rfl) ?_
  refine lv_bipush (v := iN ((8 : Nat) : Int)) X.1 X.2.1 dkW_3 (by decide) ?_
  refine lv_icmp_ge (tgt := 21) X.1 X.2.1 dkW_5 (by decide) (fun q => absurd q (by decide)) (fun _ => ?_)
  refine lv_aload_n (i := 0) (x := b) X.1 X.2.1 dkW_8 rfl (lv_at hl 1 rfl) ?_
  refine c_get (k := 2) (v := .ref (b + 5)) X (by decide) g (by decide) kw_73 rfl dkW_9 ?_
  refine lv_iload_n (i := 1) (x := iN ((7 : Nat) : Int)) X.1 X.2.1 dkW_12 rfl (lv_at hl 0 rfl) ?_
  refine lv_iconst (v := iN (-1)) X.1 X.2.1 dkW_13 (by decide) ?_
  refine c_iast (n := 8) (q0 := 5) (i := 7) (x := (-1)) X (by omega) g rfl (by omega) dkW_14 (fun H8 lc8 g => ?_)
  have g : CG D b s ((((((((((([.inr (8, [.ref (b + 1), .ref (b + 2), .ref (b + 5), .int 0, .int 0, .int 0, .int 0]), .inl (tA 2, (8, .inr (.inr (.inr (.inr (va_up (va_up (va_up (va_up (va_up (va_up (va_up (va_up (fun _ => none) 0 (some (b + 6))) 1 (some (b + 9))) 2 (some (b + 12))) 3 (some (b + 15))) 4 (some (b + 18))) 5 (some (b + 21))) 6 (some (b + 24))) 7 (some (b + 27))))))))]) ++ Lf9 tA (b + 2)) ++ [.inl (tA 0, (8, .inl (upd (upd (upd (upd (upd (upd (upd (upd (fun _ => 0) 0 (iN (-1))) 1 (iN (-1))) 2 (iN (-1))) 3 (iN (-1))) 4 (iN (-1))) 5 (iN (-1))) 6 (iN (-1))) 7 (iN (-1)))))]) ++ Lf9 tA (b + 6)) ++ Lf9 tA (b + 9)) ++ Lf9 tA (b + 12)) ++ Lf9 tA (b + 15)) ++ Lf9 tA (b + 18)) ++ Lf9 tA (b + 21)) ++ Lf9 tA (b + 24)) ++ Lf9 tA (b + 27)) H8 lc8 := g
  refine lv_iinc (v := iN ((8 : Nat) : Int)) (lv' := [(1, .int (iN ((8 : Nat) : Int))), (0, .ref b)]) X.1 X.2.1 dkW_15 hl (k := 0) rfl (by decide) (by decide) rfl (fun ls hl => ?_)
  refine lv_goto (tgt := 2) X.1 X.2.1 dkW_18 (by decide) ?_
  refine lv_iload_n (i := 1) (x := iN ((8 : Nat) : Int)) X.1 X.2.1 dkW_2 rfl (lv_at hl 0 rfl) ?_
  refine lv_bipush (v := iN ((8 : Nat) : Int)) X.1 X.2.1 dkW_3 (by decide) ?_
  refine lv_icmp_ge (tgt := 21) X.1 X.2.1 dkW_5 (by decide) (fun _ => ?_) (fun q => absurd (by decide) q)
  refine lv_aload_n (i := 0) (x := b) X.1 X.2.1 dkW_21 rfl (lv_at hl 1 rfl) ?_
  refine lv_iconst (v := iN ((0 : Nat) : Int)) X.1 X.2.1 dkW_22 (by decide) ?_
  refine c_put (k := 3) (ty := .int) (v := .int (iN ((0 : Nat) : Int))) X (by decide) g (by decide) (by simp) kw_74 (fun h => absurd h (by decide)) rfl rfl rfl rfl dkW_23 (fun H9 lc9 g => ?_)
  have g : CG D b s ((((((((((([.inr (8, [.ref (b + 1), .ref (b + 2), .ref (b + 5), .int (iN ((0 : Nat) : Int)), .int 0, .int 0, .int 0]), .inl (tA 2, (8, .inr (.inr (.inr (.inr (va_up (va_up (va_up (va_up (va_up (va_up (va_up (va_up (fun _ => none) 0 (some (b + 6))) 1 (some (b + 9))) 2 (some (b + 12))) 3 (some (b + 15))) 4 (some (b + 18))) 5 (some (b + 21))) 6 (some (b + 24))) 7 (some (b + 27))))))))]) ++ Lf9 tA (b + 2)) ++ [.inl (tA 0, (8, .inl (upd (upd (upd (upd (upd (upd (upd (upd (fun _ => 0) 0 (iN (-1))) 1 (iN (-1))) 2 (iN (-1))) 3 (iN (-1))) 4 (iN (-1))) 5 (iN (-1))) 6 (iN (-1))) 7 (iN (-1)))))]) ++ Lf9 tA (b + 6)) ++ Lf9 tA (b + 9)) ++ Lf9 tA (b + 12)) ++ Lf9 tA (b + 15)) ++ Lf9 tA (b + 18)) ++ Lf9 tA (b + 21)) ++ Lf9 tA (b + 24)) ++ Lf9 tA (b + 27)) H9 lc9 := g
  refine lv_aload_n (i := 0) (x := b) X.1 X.2.1 dkW_26 rfl (lv_at hl 1 rfl) ?_
  refine lv_bipush (v := iN ((70 : Nat) : Int)) X.1 X.2.1 dkW_27 (by decide) ?_
  refine c_put (k := 4) (ty := .int) (v := .int (iN ((70 : Nat) : Int))) X (by decide) g (by decide) (by simp) kw_75 (fun h => absurd h (by decide)) rfl rfl rfl rfl dkW_29 (fun H10 lc10 g => ?_)
  have g : CG D b s ((((((((((([.inr (8, [.ref (b + 1), .ref (b + 2), .ref (b + 5), .int (iN ((0 : Nat) : Int)), .int (iN ((70 : Nat) : Int)), .int 0, .int 0]), .inl (tA 2, (8, .inr (.inr (.inr (.inr (va_up (va_up (va_up (va_up (va_up (va_up (va_up (va_up (fun _ => none) 0 (some (b + 6))) 1 (some (b + 9))) 2 (some (b + 12))) 3 (some (b + 15))) 4 (some (b + 18))) 5 (some (b + 21))) 6 (some (b + 24))) 7 (some (b + 27))))))))]) ++ Lf9 tA (b + 2)) ++ [.inl (tA 0, (8, .inl (upd (upd (upd (upd (upd (upd (upd (upd (fun _ => 0) 0 (iN (-1))) 1 (iN (-1))) 2 (iN (-1))) 3 (iN (-1))) 4 (iN (-1))) 5 (iN (-1))) 6 (iN (-1))) 7 (iN (-1)))))]) ++ Lf9 tA (b + 6)) ++ Lf9 tA (b + 9)) ++ Lf9 tA (b + 12)) ++ Lf9 tA (b + 15)) ++ Lf9 tA (b + 18)) ++ Lf9 tA (b + 21)) ++ Lf9 tA (b + 24)) ++ Lf9 tA (b + 27)) H10 lc10 := g
  refine lv_aload_n (i := 0) (x := b) X.1 X.2.1 dkW_32 rfl (lv_at hl 1 rfl) ?_
  refine lv_bipush (v := iN ((6 : Nat) : Int)) X.1 X.2.1 dkW_33 (by decide) ?_
  refine c_put (k := 5) (ty := .int) (v := .int (iN ((6 : Nat) : Int))) X (by decide) g (by decide) (by simp) kw_76 (fun h => absurd h (by decide)) rfl rfl rfl rfl dkW_35 (fun H11 lc11 g => ?_)
  have g : CG D b s ((((((((((([.inr (8, [.ref (b + 1), .ref (b + 2), .ref (b + 5), .int (iN ((0 : Nat) : Int)), .int (iN ((70 : Nat) : Int)), .int (iN ((6 : Nat) : Int)), .int 0]), .inl (tA 2, (8, .inr (.inr (.inr (.inr (va_up (va_up (va_up (va_up (va_up (va_up (va_up (va_up (fun _ => none) 0 (some (b + 6))) 1 (some (b + 9))) 2 (some (b + 12))) 3 (some (b + 15))) 4 (some (b + 18))) 5 (some (b + 21))) 6 (some (b + 24))) 7 (some (b + 27))))))))]) ++ Lf9 tA (b + 2)) ++ [.inl (tA 0, (8, .inl (upd (upd (upd (upd (upd (upd (upd (upd (fun _ => 0) 0 (iN (-1))) 1 (iN (-1))) 2 (iN (-1))) 3 (iN (-1))) 4 (iN (-1))) 5 (iN (-1))) 6 (iN (-1))) 7 (iN (-1)))))]) ++ Lf9 tA (b + 6)) ++ Lf9 tA (b + 9)) ++ Lf9 tA (b + 12)) ++ Lf9 tA (b + 15)) ++ Lf9 tA (b + 18)) ++ Lf9 tA (b + 21)) ++ Lf9 tA (b + 24)) ++ Lf9 tA (b + 27)) H11 lc11 := g
  refine lv_aload_n (i := 0) (x := b) X.1 X.2.1 dkW_38 rfl (lv_at hl 1 rfl) ?_
  refine lv_iconst (v := iN ((5 : Nat) : Int)) X.1 X.2.1 dkW_39 (by decide) ?_
  refine c_put (k := 6) (ty := .int) (v := .int (iN ((5 : Nat) : Int))) X (by decide) g (by decide) (by simp) kw_77 (fun h => absurd h (by decide)) rfl rfl rfl rfl dkW_40 (fun H12 lc12 g => ?_)
  have g : CG D b s ((((((((((([.inr (8, [.ref (b + 1), .ref (b + 2), .ref (b + 5), .int (iN ((0 : Nat) : Int)), .int (iN ((70 : Nat) : Int)), .int (iN ((6 : Nat) : Int)), .int (iN ((5 : Nat) : Int))]), .inl (tA 2, (8, .inr (.inr (.inr (.inr (va_up (va_up (va_up (va_up (va_up (va_up (va_up (va_up (fun _ => none) 0 (some (b + 6))) 1 (some (b + 9))) 2 (some (b + 12))) 3 (some (b + 15))) 4 (some (b + 18))) 5 (some (b + 21))) 6 (some (b + 24))) 7 (some (b + 27))))))))]) ++ Lf9 tA (b + 2)) ++ [.inl (tA 0, (8, .inl (upd (upd (upd (upd (upd (upd (upd (upd (fun _ => 0) 0 (iN (-1))) 1 (iN (-1))) 2 (iN (-1))) 3 (iN (-1))) 4 (iN (-1))) 5 (iN (-1))) 6 (iN (-1))) 7 (iN (-1)))))]) ++ Lf9 tA (b + 6)) ++ Lf9 tA (b + 9)) ++ Lf9 tA (b + 12)) ++ Lf9 tA (b + 15)) ++ Lf9 tA (b + 18)) ++ Lf9 tA (b + 21)) ++ Lf9 tA (b + 24)) ++ Lf9 tA (b + 27)) H12 lc12 := g
  exact ct_ret X g dkW_43
set_option maxRecDepth 100000 in
theorem dk8_0 : decode prog_10_method_1_code 0 = .ok (.aload_n 0, 1) := rfl
set_option maxRecDepth 100000 in
theorem dk8_1 : decode prog_10_method_1_code 1 = .ok (.invokespecial 3, 3) := rfl
set_option maxRecDepth 100000 in
theorem kw_78 : Cond.methodLink (Rn 8) 3 Lib.objectInit ∈ gW := gW_at (i := 152) rfl rfl
set_option maxRecDepth 100000 in
theorem dk8_4 : decode prog_10_method_1_code 4 = .ok (.aload_n 0, 1) := rfl
set_option maxRecDepth 100000 in
theorem dk8_5 : decode prog_10_method_1_code 5 = .ok (.bipush 8, 2) := rfl
set_option maxRecDepth 100000 in
theorem dk8_7 : decode prog_10_method_1_code 7 = .ok (.anewarray 9, 3) := rfl
set_option maxRecDepth 100000 in
theorem kw_79 : Cond.classLink (Rn 8) 9 "RingDater$Timber" ∈ gW := gW_at (i := 153) rfl rfl
set_option maxRecDepth 100000 in
theorem dk8_10 : decode prog_10_method_1_code 10 = .ok (.putfield 11, 3) := rfl
set_option maxRecDepth 100000 in
theorem kw_80 : Cond.fieldLink (Rn 8) 11 (Tc 8 0).1 (Tc 8 0).2.1 (Tc 8 0).2.2.1 ∈ gW := gW_at (i := 196) rfl rfl
set_option maxRecDepth 100000 in
theorem dk8_13 : decode prog_10_method_1_code 13 = .ok (.aload_n 0, 1) := rfl
set_option maxRecDepth 100000 in
theorem dk8_14 : decode prog_10_method_1_code 14 = .ok (.new 9, 3) := rfl
set_option maxRecDepth 100000 in
theorem kw_81 : Cond.classLink (Rn 8) 9 (Rn 9) ∈ gW := gW_at (i := 153) rfl rfl
set_option maxRecDepth 100000 in
theorem kw_82 : Cond.instantiable (Rn 9) (Nc 9) ∈ gW := gW_at (i := 155) rfl rfl
set_option maxRecDepth 100000 in
theorem kw_83 : Cond.initialized (Rn 9) ∈ gW := gW_at (i := 106) rfl rfl
set_option maxRecDepth 100000 in
theorem dk8_17 : decode prog_10_method_1_code 17 = .ok (.dup, 1) := rfl
set_option maxRecDepth 100000 in
theorem dk8_18 : decode prog_10_method_1_code 18 = .ok (.invokespecial 17, 3) := rfl
set_option maxRecDepth 100000 in
theorem kw_84 : Cond.instanceMethod ⟨Rn 9, "<init>", "()V"⟩ ∈ gW := gW_at (i := 157) rfl rfl
set_option maxRecDepth 100000 in
theorem kw_85 : Cond.code ⟨Rn 9, "<init>", "()V"⟩ prog_11_method_1_code 1 none ∈ gW := gW_at (i := 158) rfl rfl
set_option maxRecDepth 100000 in
theorem kt_3 : Cond.methodLinkNest (Rn 8) 17 ⟨Rn 9, "<init>", "()V"⟩ "RingDater" ∈ lw_tbl := List.mem_of_getElem? (i := 156) rfl
set_option maxRecDepth 100000 in
theorem dk8_21 : decode prog_10_method_1_code 21 = .ok (.putfield 18, 3) := rfl
set_option maxRecDepth 100000 in
theorem kw_86 : Cond.fieldLink (Rn 8) 18 (Tc 8 1).1 (Tc 8 1).2.1 (Tc 8 1).2.2.1 ∈ gW := gW_at (i := 197) rfl rfl
set_option maxRecDepth 100000 in
theorem dk8_24 : decode prog_10_method_1_code 24 = .ok (.aload_n 0, 1) := rfl
set_option maxRecDepth 100000 in
theorem dk8_25 : decode prog_10_method_1_code 25 = .ok (.bipush 8, 2) := rfl
set_option maxRecDepth 100000 in
theorem dk8_27 : decode prog_10_method_1_code 27 = .ok (.newarray .int, 2) := rfl
set_option maxRecDepth 100000 in
theorem dk8_29 : decode prog_10_method_1_code 29 = .ok (.putfield 22, 3) := rfl
set_option maxRecDepth 100000 in
theorem dk8_32 : decode prog_10_method_1_code 32 = .ok (.iconst 0, 1) := rfl
set_option maxRecDepth 100000 in
theorem dk8_33 : decode prog_10_method_1_code 33 = .ok (.istore_n 1, 1) := rfl
set_option maxRecDepth 100000 in
theorem dk8_34 : decode prog_10_method_1_code 34 = .ok (.iload_n 1, 1) := rfl
set_option maxRecDepth 100000 in
theorem dk8_35 : decode prog_10_method_1_code 35 = .ok (.bipush 8, 2) := rfl
set_option maxRecDepth 100000 in
theorem dk8_37 : decode prog_10_method_1_code 37 = .ok (.if_icmp .ge 22, 3) := rfl
set_option maxRecDepth 100000 in
theorem dk8_40 : decode prog_10_method_1_code 40 = .ok (.aload_n 0, 1) := rfl
set_option maxRecDepth 100000 in
theorem dk8_41 : decode prog_10_method_1_code 41 = .ok (.getfield 11, 3) := rfl
set_option maxRecDepth 100000 in
theorem dk8_44 : decode prog_10_method_1_code 44 = .ok (.iload_n 1, 1) := rfl
set_option maxRecDepth 100000 in
theorem dk8_45 : decode prog_10_method_1_code 45 = .ok (.new 9, 3) := rfl
set_option maxRecDepth 100000 in
theorem dk8_48 : decode prog_10_method_1_code 48 = .ok (.dup, 1) := rfl
set_option maxRecDepth 100000 in
theorem dk8_49 : decode prog_10_method_1_code 49 = .ok (.invokespecial 17, 3) := rfl
set_option maxRecDepth 100000 in
theorem dk8_52 : decode prog_10_method_1_code 52 = .ok (.aastore, 1) := rfl
set_option maxRecDepth 100000 in
theorem dk8_53 : decode prog_10_method_1_code 53 = .ok (.iinc 1 1, 3) := rfl
set_option maxRecDepth 100000 in
theorem dk8_56 : decode prog_10_method_1_code 56 = .ok (.goto (-22), 3) := rfl
set_option maxRecDepth 100000 in
theorem dk8_59 : decode prog_10_method_1_code 59 = .ok (.aload_n 0, 1) := rfl
set_option maxRecDepth 100000 in
theorem dk8_60 : decode prog_10_method_1_code 60 = .ok (.invokevirtual 26, 3) := rfl
set_option maxRecDepth 100000 in
theorem kw_87 : Cond.methodLink (Rn 8) 26 ⟨Rn 8, "wipe", "()V"⟩ ∈ gW := gW_at (i := 192) rfl rfl
set_option maxRecDepth 100000 in
theorem kw_88 : Cond.initialized (Rn 8) ∈ gW := gW_at (i := 105) rfl rfl
set_option maxRecDepth 100000 in
theorem kw_89 : Cond.instanceMethod ⟨Rn 8, "wipe", "()V"⟩ ∈ gW := gW_at (i := 193) rfl rfl
set_option maxRecDepth 100000 in
theorem kw_90 : Cond.selects (Rn 8) ⟨Rn 8, "wipe", "()V"⟩ ⟨Rn 8, "wipe", "()V"⟩ ∈ gW := gW_at (i := 194) rfl rfl
set_option maxRecDepth 100000 in
theorem kw_91 : Cond.code ⟨Rn 8, "wipe", "()V"⟩ prog_10_method_2_code 2 none ∈ gW := gW_at (i := 195) rfl rfl
set_option maxRecDepth 100000 in
theorem dk8_63 : decode prog_10_method_1_code 63 = .ok (.return_, 1) := rfl
set_option maxHeartbeats 4000000 in
set_option maxRecDepth 100000 in
theorem ct_8 : CtorC ⟨Rn 8, "<init>", "()V"⟩ prog_10_method_1_code 2 2 80 29 502 [] 8 Lf8 := by
  refine ct_of (by decide) rfl rfl (by decide) ?_
  intro p l e s m args below meth c D tA b ls X hin g hl
  rw [dfl_8] at g
  have hl : lv_has ls 2 [(0, .ref b)] := hl
  refine lv_aload_n (i := 0) (x := b) X.1 X.2.1 dk8_0 rfl (lv_at hl 0 rfl) ?_
  refine c_obj X kw_78 kw_2 kw_3 hl.1 (by decide) dk8_1 ?_
  refine lv_aload_n (i := 0) (x := b) X.1 X.2.1 dk8_4 rfl (lv_at hl 0 rfl) ?_
  refine lv_bipush (v := iN ((8 : Nat) : Int)) X.1 X.2.1 dk8_5 (by decide) ?_
  refine c_anew (C := "RingDater$Timber") (n := 8) (t := 2) X (by simp) (by omega) g kw_79 (by decide) (by decide) dk8_7 (fun H1 g => ?_)
  have g : CG D b s ([.inr (8, [.null, .null, .null, .int 0, .int 0, .int 0, .int 0]), .inl (tA 2, (8, .inr (.inr (.inr (.inr (fun _ => none))))))]) H1 [] := g
  refine c_put (k := 0) (ty := .array (.object "RingDater$Timber")) (v := .ref (b + 1)) X (by decide) g (by decide) (by simp) kw_80 (fun _ => hin) rfl rfl rfl rfl dk8_10 (fun H2 lc2 g => ?_)
  have g : CG D b s ([.inr (8, [.ref (b + 1), .null, .null, .int 0, .int 0, .int 0, .int 0]), .inl (tA 2, (8, .inr (.inr (.inr (.inr (fun _ => none))))))]) H2 lc2 := g
  refine lv_aload_n (i := 0) (x := b) X.1 X.2.1 dk8_13 rfl (lv_at hl 0 rfl) ?_
  refine c_new (ci := 9) X (by decide) g kw_81 kw_82 kw_83 (by decide) (by decide) dk8_14 (fun H3 g => ?_)
  refine lv_dup X.1 X.2.1 dk8_17 rfl ?_
  refine c_callN (L := [.inr (8, [.ref (b + 1), .null, .null, .int 0, .int 0, .int 0, .int 0]), .inl (tA 2, (8, .inr (.inr (.inr (.inr (fun _ => none))))))]) (rest := [.ref (b + 2), .ref b]) ct_9 X g kt_3 kw_83 kw_84 kw_85 rfl ⟨by decide, by decide, by decide⟩ ⟨by decide, by decide⟩ ⟨by decide, by decide⟩ hl.1 (by simp [Value.category]) rfl dk8_18 (fun H4 lc4 g => ?_)
  have g : CG D b s (([.inr (8, [.ref (b + 1), .null, .null, .int 0, .int 0, .int 0, .int 0]), .inl (tA 2, (8, .inr (.inr (.inr (.inr (fun _ => none))))))]) ++ Lf9 tA (b + 2)) H4 lc4 := g
  refine c_put (k := 1) (ty := .object "RingDater$Timber") (v := .ref (b + 2)) X (by decide) g (by decide) (by simp) kw_86 (fun _ => hin) rfl rfl rfl rfl dk8_21 (fun H5 lc5 g => ?_)
  have g : CG D b s (([.inr (8, [.ref (b + 1), .ref (b + 2), .null, .int 0, .int 0, .int 0, .int 0]), .inl (tA 2, (8, .inr (.inr (.inr (.inr (fun _ => none))))))]) ++ Lf9 tA (b + 2)) H5 lc5 := g
  refine lv_aload_n (i := 0) (x := b) X.1 X.2.1 dk8_24 rfl (lv_at hl 0 rfl) ?_
  refine lv_bipush (v := iN ((8 : Nat) : Int)) X.1 X.2.1 dk8_25 (by decide) ?_
  refine c_newa (n := 8) (t := 0) X (by simp) (by omega) g (by decide) (by decide) dk8_27 kw_0 kw_1 (fun H6 g => ?_)
  have g : CG D b s ((([.inr (8, [.ref (b + 1), .ref (b + 2), .null, .int 0, .int 0, .int 0, .int 0]), .inl (tA 2, (8, .inr (.inr (.inr (.inr (fun _ => none))))))]) ++ Lf9 tA (b + 2)) ++ [.inl (tA 0, (8, .inl (fun _ => 0)))]) H6 lc5 := g
  refine c_put (k := 2) (ty := .array .int) (v := .ref (b + 5)) X (by decide) g (by decide) (by simp) kw_73 (fun _ => hin) rfl rfl rfl rfl dk8_29 (fun H7 lc7 g => ?_)
  have g : CG D b s ((([.inr (8, [.ref (b + 1), .ref (b + 2), .ref (b + 5), .int 0, .int 0, .int 0, .int 0]), .inl (tA 2, (8, .inr (.inr (.inr (.inr (fun _ => none))))))]) ++ Lf9 tA (b + 2)) ++ [.inl (tA 0, (8, .inl (fun _ => 0)))]) H7 lc7 := g
  refine lv_iconst (v := iN ((0 : Nat) : Int)) X.1 X.2.1 dk8_32 (by decide) ?_
  refine lv_istore_n (lv' := [(1, .int (iN ((0 : Nat) : Int))), (0, .ref b)]) X.1 X.2.1 dk8_33 rfl hl (by decide) rfl (fun ls hl => ?_)
  refine lv_iload_n (i := 1) (x := iN ((0 : Nat) : Int)) X.1 X.2.1 dk8_34 rfl (lv_at hl 0 rfl) ?_
  refine lv_bipush (v := iN ((8 : Nat) : Int)) X.1 X.2.1 dk8_35 (by decide) ?_
  refine lv_icmp_ge (tgt := 59) X.1 X.2.1 dk8_37 (by decide) (fun q => absurd q (by decide)) (fun _ => ?_)
  refine lv_aload_n (i := 0) (x := b) X.1 X.2.1 dk8_40 rfl (lv_at hl 1 rfl) ?_
  refine c_get (k := 0) (v := .ref (b + 1)) X (by decide) g (by decide) kw_80 rfl dk8_41 ?_
  refine lv_iload_n (i := 1) (x := iN ((0 : Nat) : Int)) X.1 X.2.1 dk8_44 rfl (lv_at hl 0 rfl) ?_
  refine c_new (ci := 9) X (by decide) g kw_81 kw_82 kw_83 (by decide) (by decide) dk8_45 (fun H8 g => ?_)
  refine lv_dup X.1 X.2.1 dk8_48 rfl ?_
  refine c_callN (L := (([.inr (8, [.ref (b + 1), .ref (b + 2), .ref (b + 5), .int 0, .int 0, .int 0, .int 0]), .inl (tA 2, (8, .inr (.inr (.inr (.inr (fun _ => none))))))]) ++ Lf9 tA (b + 2)) ++ [.inl (tA 0, (8, .inl (fun _ => 0)))]) (rest := [.ref (b + 6), .int (iN ((0 : Nat) : Int)), .ref (b + 1)]) ct_9 X g kt_3 kw_83 kw_84 kw_85 rfl ⟨by decide, by decide, by decide⟩ ⟨by decide, by decide⟩ ⟨by decide, by decide⟩ hl.1 (by simp [Value.category]) rfl dk8_49 (fun H9 lc9 g => ?_)
  have g : CG D b s (((([.inr (8, [.ref (b + 1), .ref (b + 2), .ref (b + 5), .int 0, .int 0, .int 0, .int 0]), .inl (tA 2, (8, .inr (.inr (.inr (.inr (fun _ => none))))))]) ++ Lf9 tA (b + 2)) ++ [.inl (tA 0, (8, .inl (fun _ => 0)))]) ++ Lf9 tA (b + 6)) H9 lc9 := g
  refine c_ast (C := "RingDater$Timber") (t := 2) (n := 8) (q0 := 1) (i := 0) (v := b + 6) X (Or.inl ⟨rfl, rfl⟩) (by omega) g rfl (by omega) (c_any (ci := 9) (q := 6) X (by decide) g rfl) dk8_52 (fun H10 lc10 g => ?_)
  have g : CG D b s (((([.inr (8, [.ref (b + 1), .ref (b + 2), .ref (b + 5), .int 0, .int 0, .int 0, .int 0]), .inl (tA 2, (8, .inr (.inr (.inr (.inr (va_up (fun _ => none) 0 (some (b + 6))))))))]) ++ Lf9 tA (b + 2)) ++ [.inl (tA 0, (8, .inl (fun _ => 0)))]) ++ Lf9 tA (b + 6)) H10 lc10 := g
  refine lv_iinc (v := iN ((1 : Nat) : Int)) (lv' := [(1, .int (iN ((1 : Nat) : Int))), (0, .ref b)]) X.1 X.2.1 dk8_53 hl (k := 0) rfl (by decide) (by decide) rfl (fun ls hl => ?_)
  refine lv_goto (tgt := 34) X.1 X.2.1 dk8_56 (by decide) ?_
  refine lv_iload_n (i := 1) (x := iN ((1 : Nat) : Int)) X.1 X.2.1 dk8_34 rfl (lv_at hl 0 rfl) ?_
  refine lv_bipush (v := iN ((8 : Nat) : Int)) X.1 X.2.1 dk8_35 (by decide) ?_
  refine lv_icmp_ge (tgt := 59) X.1 X.2.1 dk8_37 (by decide) (fun q => absurd q (by decide)) (fun _ => ?_)
  refine lv_aload_n (i := 0) (x := b) X.1 X.2.1 dk8_40 rfl (lv_at hl 1 rfl) ?_
  refine c_get (k := 0) (v := .ref (b + 1)) X (by decide) g (by decide) kw_80 rfl dk8_41 ?_
  refine lv_iload_n (i := 1) (x := iN ((1 : Nat) : Int)) X.1 X.2.1 dk8_44 rfl (lv_at hl 0 rfl) ?_
  refine c_new (ci := 9) X (by decide) g kw_81 kw_82 kw_83 (by decide) (by decide) dk8_45 (fun H11 g => ?_)
  refine lv_dup X.1 X.2.1 dk8_48 rfl ?_
  refine c_callN (L := ((([.inr (8, [.ref (b + 1), .ref (b + 2), .ref (b + 5), .int 0, .int 0, .int 0, .int 0]), .inl (tA 2, (8, .inr (.inr (.inr (.inr (va_up (fun _ => none) 0 (some (b + 6))))))))]) ++ Lf9 tA (b + 2)) ++ [.inl (tA 0, (8, .inl (fun _ => 0)))]) ++ Lf9 tA (b + 6)) (rest := [.ref (b + 9), .int (iN ((1 : Nat) : Int)), .ref (b + 1)]) ct_9 X g kt_3 kw_83 kw_84 kw_85 rfl ⟨by decide, by decide, by decide⟩ ⟨by decide, by decide⟩ ⟨by decide, by decide⟩ hl.1 (by simp [Value.category]) rfl dk8_49 (fun H12 lc12 g => ?_)
  have g : CG D b s ((((([.inr (8, [.ref (b + 1), .ref (b + 2), .ref (b + 5), .int 0, .int 0, .int 0, .int 0]), .inl (tA 2, (8, .inr (.inr (.inr (.inr (va_up (fun _ => none) 0 (some (b + 6))))))))]) ++ Lf9 tA (b + 2)) ++ [.inl (tA 0, (8, .inl (fun _ => 0)))]) ++ Lf9 tA (b + 6)) ++ Lf9 tA (b + 9)) H12 lc12 := g
  refine c_ast (C := "RingDater$Timber") (t := 2) (n := 8) (q0 := 1) (i := 1) (v := b + 9) X (Or.inl ⟨rfl, rfl⟩) (by omega) g rfl (by omega) (c_any (ci := 9) (q := 9) X (by decide) g rfl) dk8_52 (fun H13 lc13 g => ?_)
  have g : CG D b s ((((([.inr (8, [.ref (b + 1), .ref (b + 2), .ref (b + 5), .int 0, .int 0, .int 0, .int 0]), .inl (tA 2, (8, .inr (.inr (.inr (.inr (va_up (va_up (fun _ => none) 0 (some (b + 6))) 1 (some (b + 9))))))))]) ++ Lf9 tA (b + 2)) ++ [.inl (tA 0, (8, .inl (fun _ => 0)))]) ++ Lf9 tA (b + 6)) ++ Lf9 tA (b + 9)) H13 lc13 := g
  refine lv_iinc (v := iN ((2 : Nat) : Int)) (lv' := [(1, .int (iN ((2 : Nat) : Int))), (0, .ref b)]) X.1 X.2.1 dk8_53 hl (k := 0) rfl (by decide) (by decide) rfl (fun ls hl => ?_)
  refine lv_goto (tgt := 34) X.1 X.2.1 dk8_56 (by decide) ?_
  refine lv_iload_n (i := 1) (x := iN ((2 : Nat) : Int)) X.1 X.2.1 dk8_34 rfl (lv_at hl 0 rfl) ?_
  refine lv_bipush (v := iN ((8 : Nat) : Int)) X.1 X.2.1 dk8_35 (by decide) ?_
  refine lv_icmp_ge (tgt := 59) X.1 X.2.1 dk8_37 (by decide) (fun q => absurd q (by decide)) (fun _ => ?_)
  refine lv_aload_n (i := 0) (x := b) X.1 X.2.1 dk8_40 rfl (lv_at hl 1 rfl) ?_
  refine c_get (k := 0) (v := .ref (b + 1)) X (by decide) g (by decide) kw_80 rfl dk8_41 ?_
  refine lv_iload_n (i := 1) (x := iN ((2 : Nat) : Int)) X.1 X.2.1 dk8_44 rfl (lv_at hl 0 rfl) ?_
  refine c_new (ci := 9) X (by decide) g kw_81 kw_82 kw_83 (by decide) (by decide) dk8_45 (fun H14 g => ?_)
  refine lv_dup X.1 X.2.1 dk8_48 rfl ?_
  refine c_callN (L := (((([.inr (8, [.ref (b + 1), .ref (b + 2), .ref (b + 5), .int 0, .int 0, .int 0, .int 0]), .inl (tA 2, (8, .inr (.inr (.inr (.inr (va_up (va_up (fun _ => none) 0 (some (b + 6))) 1 (some (b + 9))))))))]) ++ Lf9 tA (b + 2)) ++ [.inl (tA 0, (8, .inl (fun _ => 0)))]) ++ Lf9 tA (b + 6)) ++ Lf9 tA (b + 9)) (rest := [.ref (b + 12), .int (iN ((2 : Nat) : Int)), .ref (b + 1)]) ct_9 X g kt_3 kw_83 kw_84 kw_85 rfl ⟨by decide, by decide, by decide⟩ ⟨by decide, by decide⟩ ⟨by decide, by decide⟩ hl.1 (by simp [Value.category]) rfl dk8_49 (fun H15 lc15 g => ?_)
  have g : CG D b s (((((([.inr (8, [.ref (b + 1), .ref (b + 2), .ref (b + 5), .int 0, .int 0, .int 0, .int 0]), .inl (tA 2, (8, .inr (.inr (.inr (.inr (va_up (va_up (fun _ => none) 0 (some (b + 6))) 1 (some (b + 9))))))))]) ++ Lf9 tA (b + 2)) ++ [.inl (tA 0, (8, .inl (fun _ => 0)))]) ++ Lf9 tA (b + 6)) ++ Lf9 tA (b + 9)) ++ Lf9 tA (b + 12)) H15 lc15 := g
  refine c_ast (C := "RingDater$Timber") (t := 2) (n := 8) (q0 := 1) (i := 2) (v := b + 12) X (Or.inl ⟨rfl, rfl⟩) (by omega) g rfl (by omega) (c_any (ci := 9) (q := 12) X (by decide) g rfl) dk8_52 (fun H16 lc16 g => ?_)
  have g : CG D b s (((((([.inr (8, [.ref (b + 1), .ref (b + 2), .ref (b + 5), .int 0, .int 0, .int 0, .int 0]), .inl (tA 2, (8, .inr (.inr (.inr (.inr (va_up (va_up (va_up (fun _ => none) 0 (some (b + 6))) 1 (some (b + 9))) 2 (some (b + 12))))))))]) ++ Lf9 tA (b + 2)) ++ [.inl (tA 0, (8, .inl (fun _ => 0)))]) ++ Lf9 tA (b + 6)) ++ Lf9 tA (b + 9)) ++ Lf9 tA (b + 12)) H16 lc16 := g
  refine lv_iinc (v := iN ((3 : Nat) : Int)) (lv' := [(1, .int (iN ((3 : Nat) : Int))), (0, .ref b)]) X.1 X.2.1 dk8_53 hl (k := 0) rfl (by decide) (by decide) rfl (fun ls hl => ?_)
  refine lv_goto (tgt := 34) X.1 X.2.1 dk8_56 (by decide) ?_
  refine lv_iload_n (i := 1) (x := iN ((3 : Nat) : Int)) X.1 X.2.1 dk8_34 rfl (lv_at hl 0 rfl) ?_
  refine lv_bipush (v := iN ((8 : Nat) : Int)) X.1 X.2.1 dk8_35 (by decide) ?_
  refine lv_icmp_ge (tgt := 59) X.1 X.2.1 dk8_37 (by decide) (fun q => absurd q (by decide)) (fun _ => ?_)
  refine lv_aload_n (i := 0) (x := b) X.1 X.2.1 dk8_40 rfl (lv_at hl 1 rfl) ?_
  refine c_get (k := 0) (v := .ref (b + 1)) X (by decide) g (by decide) kw_80 rfl dk8_41 ?_
  refine lv_iload_n (i := 1) (x := iN ((3 : Nat) : Int)) X.1 X.2.1 dk8_44 rfl (lv_at hl 0 rfl) ?_
  refine c_new (ci := 9) X (by decide) g kw_81 kw_82 kw_83 (by decide) (by decide) dk8_45 (fun H17 g => ?_)
  refine lv_dup X.1 X.2.1 dk8_48 rfl ?_
  refine c_callN (L := ((((([.inr (8, [.ref (b + 1), .ref (b + 2), .ref (b + 5), .int 0, .int 0, .int 0, .int 0]), .inl (tA 2, (8, .inr (.inr (.inr (.inr (va_up (va_up (va_up (fun _ => none) 0 (some (b + 6))) 1 (some (b + 9))) 2 (some (b + 12))))))))]) ++ Lf9 tA (b + 2)) ++ [.inl (tA 0, (8, .inl (fun _ => 0)))]) ++ Lf9 tA (b + 6)) ++ Lf9 tA (b + 9)) ++ Lf9 tA (b + 12)) (rest := [.ref (b + 15), .int (iN ((3 : Nat) : Int)), .ref (b + 1)]) ct_9 X g kt_3 kw_83 kw_84 kw_85 rfl ⟨by decide, by decide, by decide⟩ ⟨by decide, by decide⟩ ⟨by decide, by decide⟩ hl.1 (by simp [Value.category]) rfl dk8_49 (fun H18 lc18 g => ?_)
  have g : CG D b s ((((((([.inr (8, [.ref (b + 1), .ref (b + 2), .ref (b + 5), .int 0, .int 0, .int 0, .int 0]), .inl (tA 2, (8, .inr (.inr (.inr (.inr (va_up (va_up (va_up (fun _ => none) 0 (some (b + 6))) 1 (some (b + 9))) 2 (some (b + 12))))))))]) ++ Lf9 tA (b + 2)) ++ [.inl (tA 0, (8, .inl (fun _ => 0)))]) ++ Lf9 tA (b + 6)) ++ Lf9 tA (b + 9)) ++ Lf9 tA (b + 12)) ++ Lf9 tA (b + 15)) H18 lc18 := g
  refine c_ast (C := "RingDater$Timber") (t := 2) (n := 8) (q0 := 1) (i := 3) (v := b + 15) X (Or.inl ⟨rfl, rfl⟩) (by omega) g rfl (by omega) (c_any (ci := 9) (q := 15) X (by decide) g rfl) dk8_52 (fun H19 lc19 g => ?_)
  have g : CG D b s ((((((([.inr (8, [.ref (b + 1), .ref (b + 2), .ref (b + 5), .int 0, .int 0, .int 0, .int 0]), .inl (tA 2, (8, .inr (.inr (.inr (.inr (va_up (va_up (va_up (va_up (fun _ => none) 0 (some (b + 6))) 1 (some (b + 9))) 2 (some (b + 12))) 3 (some (b + 15))))))))]) ++ Lf9 tA (b + 2)) ++ [.inl (tA 0, (8, .inl (fun _ => 0)))]) ++ Lf9 tA (b + 6)) ++ Lf9 tA (b + 9)) ++ Lf9 tA (b + 12)) ++ Lf9 tA (b + 15)) H19 lc19 := g
  refine lv_iinc (v := iN ((4 : Nat) : Int)) (lv' := [(1, .int (iN ((4 : Nat) : Int))), (0, .ref b)]) X.1 X.2.1 dk8_53 hl (k := 0) rfl (by decide) (by decide) rfl (fun ls hl => ?_)
  refine lv_goto (tgt := 34) X.1 X.2.1 dk8_56 (by decide) ?_
  refine lv_iload_n (i := 1) (x := iN ((4 : Nat) : Int)) X.1 X.2.1 dk8_34 rfl (lv_at hl 0 rfl) ?_
  refine lv_bipush (v := iN ((8 : Nat) : Int)) X.1 X.2.1 dk8_35 (by decide) ?_
  refine lv_icmp_ge (tgt := 59) X.1 X.2.1 dk8_37 (by decide) (fun q => absurd q (by decide)) (fun _ => ?_)
  refine lv_aload_n (i := 0) (x := b) X.1 X.2.1 dk8_40 rfl (lv_at hl 1 rfl) ?_
  refine c_get (k := 0) (v := .ref (b + 1)) X (by decide) g (by decide) kw_80 rfl dk8_41 ?_
  refine lv_iload_n (i := 1) (x := iN ((4 : Nat) : Int)) X.1 X.2.1 dk8_44 rfl (lv_at hl 0 rfl) ?_
  refine c_new (ci := 9) X (by decide) g kw_81 kw_82 kw_83 (by decide) (by decide) dk8_45 (fun H20 g => ?_)
  refine lv_dup X.1 X.2.1 dk8_48 rfl ?_
  refine c_callN (L := (((((([.inr (8, [.ref (b + 1), .ref (b + 2), .ref (b + 5), .int 0, .int 0, .int 0, .int 0]), .inl (tA 2, (8, .inr (.inr (.inr (.inr (va_up (va_up (va_up (va_up (fun _ => none) 0 (some (b + 6))) 1 (some (b + 9))) 2 (some (b + 12))) 3 (some (b + 15))))))))]) ++ Lf9 tA (b + 2)) ++ [.inl (tA 0, (8, .inl (fun _ => 0)))]) ++ Lf9 tA (b + 6)) ++ Lf9 tA (b + 9)) ++ Lf9 tA (b + 12)) ++ Lf9 tA (b + 15)) (rest := [.ref (b + 18), .int (iN ((4 : Nat) : Int)), .ref (b + 1)]) ct_9 X g kt_3 kw_83 kw_84 kw_85 rfl ⟨by decide, by decide, by decide⟩ ⟨by decide, by decide⟩ ⟨by decide, by decide⟩ hl.1 (by simp [Value.category]) rfl dk8_49 (fun H21 lc21 g => ?_)
  have g : CG D b s (((((((([.inr (8, [.ref (b + 1), .ref (b + 2), .ref (b + 5), .int 0, .int 0, .int 0, .int 0]), .inl (tA 2, (8, .inr (.inr (.inr (.inr (va_up (va_up (va_up (va_up (fun _ => none) 0 (some (b + 6))) 1 (some (b + 9))) 2 (some (b + 12))) 3 (some (b + 15))))))))]) ++ Lf9 tA (b + 2)) ++ [.inl (tA 0, (8, .inl (fun _ => 0)))]) ++ Lf9 tA (b + 6)) ++ Lf9 tA (b + 9)) ++ Lf9 tA (b + 12)) ++ Lf9 tA (b + 15)) ++ Lf9 tA (b + 18)) H21 lc21 := g
  refine c_ast (C := "RingDater$Timber") (t := 2) (n := 8) (q0 := 1) (i := 4) (v := b + 18) X (Or.inl ⟨rfl, rfl⟩) (by omega) g rfl (by omega) (c_any (ci := 9) (q := 18) X (by decide) g rfl) dk8_52 (fun H22 lc22 g => ?_)
  have g : CG D b s (((((((([.inr (8, [.ref (b + 1), .ref (b + 2), .ref (b + 5), .int 0, .int 0, .int 0, .int 0]), .inl (tA 2, (8, .inr (.inr (.inr (.inr (va_up (va_up (va_up (va_up (va_up (fun _ => none) 0 (some (b + 6))) 1 (some (b + 9))) 2 (some (b + 12))) 3 (some (b + 15))) 4 (some (b + 18))))))))]) ++ Lf9 tA (b + 2)) ++ [.inl (tA 0, (8, .inl (fun _ => 0)))]) ++ Lf9 tA (b + 6)) ++ Lf9 tA (b + 9)) ++ Lf9 tA (b + 12)) ++ Lf9 tA (b + 15)) ++ Lf9 tA (b + 18)) H22 lc22 := g
  refine lv_iinc (v := iN ((5 : Nat) : Int)) (lv' := [(1, .int (iN ((5 : Nat) : Int))), (0, .ref b)]) X.1 X.2.1 dk8_53 hl (k := 0) rfl (by decide) (by decide) rfl (fun ls hl => ?_)
  refine lv_goto (tgt := 34) X.1 X.2.1 dk8_56 (by decide) ?_
  refine lv_iload_n (i := 1) (x := iN ((5 : Nat) : Int)) X.1 X.2.1 dk8_34 rfl (lv_at hl 0 rfl) ?_
  refine lv_bipush (v := iN ((8 : Nat) : Int)) X.1 X.2.1 dk8_35 (by decide) ?_
  refine lv_icmp_ge (tgt := 59) X.1 X.2.1 dk8_37 (by decide) (fun q => absurd q (by decide)) (fun _ => ?_)
  refine lv_aload_n (i := 0) (x := b) X.1 X.2.1 dk8_40 rfl (lv_at hl 1 rfl) ?_
  refine c_get (k := 0) (v := .ref (b + 1)) X (by decide) g (by decide) kw_80 rfl dk8_41 ?_
  refine lv_iload_n (i := 1) (x := iN ((5 : Nat) : Int)) X.1 X.2.1 dk8_44 rfl (lv_at hl 0 rfl) ?_
  refine c_new (ci := 9) X (by decide) g kw_81 kw_82 kw_83 (by decide) (by decide) dk8_45 (fun H23 g => ?_)
  refine lv_dup X.1 X.2.1 dk8_48 rfl ?_
  refine c_callN (L := ((((((([.inr (8, [.ref (b + 1), .ref (b + 2), .ref (b + 5), .int 0, .int 0, .int 0, .int 0]), .inl (tA 2, (8, .inr (.inr (.inr (.inr (va_up (va_up (va_up (va_up (va_up (fun _ => none) 0 (some (b + 6))) 1 (some (b + 9))) 2 (some (b + 12))) 3 (some (b + 15))) 4 (some (b + 18))))))))]) ++ Lf9 tA (b + 2)) ++ [.inl (tA 0, (8, .inl (fun _ => 0)))]) ++ Lf9 tA (b + 6)) ++ Lf9 tA (b + 9)) ++ Lf9 tA (b + 12)) ++ Lf9 tA (b + 15)) ++ Lf9 tA (b + 18)) (rest := [.ref (b + 21), .int (iN ((5 : Nat) : Int)), .ref (b + 1)]) ct_9 X g kt_3 kw_83 kw_84 kw_85 rfl ⟨by decide, by decide, by decide⟩ ⟨by decide, by decide⟩ ⟨by decide, by decide⟩ hl.1 (by simp [Value.category]) rfl dk8_49 (fun H24 lc24 g => ?_)
  have g : CG D b s ((((((((([.inr (8, [.ref (b + 1), .ref (b + 2), .ref (b + 5), .int 0, .int 0, .int 0, .int 0]), .inl (tA 2, (8, .inr (.inr (.inr (.inr (va_up (va_up (va_up (va_up (va_up (fun _ => none) 0 (some (b + 6))) 1 (some (b + 9))) 2 (some (b + 12))) 3 (some (b + 15))) 4 (some (b + 18))))))))]) ++ Lf9 tA (b + 2)) ++ [.inl (tA 0, (8, .inl (fun _ => 0)))]) ++ Lf9 tA (b + 6)) ++ Lf9 tA (b + 9)) ++ Lf9 tA (b + 12)) ++ Lf9 tA (b + 15)) ++ Lf9 tA (b + 18)) ++ Lf9 tA (b + 21)) H24 lc24 := g
  refine c_ast (C := "RingDater$Timber") (t := 2) (n := 8) (q0 := 1) (i := 5) (v := b + 21) X (Or.inl ⟨rfl, rfl⟩) (by omega) g rfl (by omega) (c_any (ci := 9) (q := 21) X (by decide) g rfl) dk8_52 (fun H25 lc25 g => ?_)
  have g : CG D b s ((((((((([.inr (8, [.ref (b + 1), .ref (b + 2), .ref (b + 5), .int 0, .int 0, .int 0, .int 0]), .inl (tA 2, (8, .inr (.inr (.inr (.inr (va_up (va_up (va_up (va_up (va_up (va_up (fun _ => none) 0 (some (b + 6))) 1 (some (b + 9))) 2 (some (b + 12))) 3 (some (b + 15))) 4 (some (b + 18))) 5 (some (b + 21))))))))]) ++ Lf9 tA (b + 2)) ++ [.inl (tA 0, (8, .inl (fun _ => 0)))]) ++ Lf9 tA (b + 6)) ++ Lf9 tA (b + 9)) ++ Lf9 tA (b + 12)) ++ Lf9 tA (b + 15)) ++ Lf9 tA (b + 18)) ++ Lf9 tA (b + 21)) H25 lc25 := g
  refine lv_iinc (v := iN ((6 : Nat) : Int)) (lv' := [(1, .int (iN ((6 : Nat) : Int))), (0, .ref b)]) X.1 X.2.1 dk8_53 hl (k := 0) rfl (by decide) (by decide) rfl (fun ls hl => ?_)
  refine lv_goto (tgt := 34) X.1 X.2.1 dk8_56 (by decide) ?_
  refine lv_iload_n (i := 1) (x := iN ((6 : Nat) : Int)) X.1 X.2.1 dk8_34 rfl (lv_at hl 0 rfl) ?_
  refine lv_bipush (v := iN ((8 : Nat) : Int)) X.1 X.2.1 dk8_35 (by decide) ?_
  refine lv_icmp_ge (tgt := 59) X.1 X.2.1 dk8_37 (by decide) (fun q => absurd q (by decide)) (fun _ => ?_)
  refine lv_aload_n (i := 0) (x := b) X.1 X.2.1 dk8_40 rfl (lv_at hl 1 rfl) ?_
  refine c_get (k := 0) (v := .ref (b + 1)) X (by decide) g (by decide) kw_80 rfl dk8_41 ?_
  refine lv_iload_n (i := 1) (x := iN ((6 : Nat) : Int)) X.1 X.2.1 dk8_44 rfl (lv_at hl 0 rfl) ?_
  refine c_new (ci := 9) X (by decide) g kw_81 kw_82 kw_83 (by decide) (by decide) dk8_45 (fun H26 g => ?_)
  refine lv_dup X.1 X.2.1 dk8_48 rfl ?_
  refine c_callN (L := (((((((([.inr (8, [.ref (b + 1), .ref (b + 2), .ref (b + 5), .int 0, .int 0, .int 0, .int 0]), .inl (tA 2, (8, .inr (.inr (.inr (.inr (va_up (va_up (va_up (va_up (va_up (va_up (fun _ => none) 0 (some (b + 6))) 1 (some (b + 9))) 2 (some (b + 12))) 3 (some (b + 15))) 4 (some (b + 18))) 5 (some (b + 21))))))))]) ++ Lf9 tA (b + 2)) ++ [.inl (tA 0, (8, .inl (fun _ => 0)))]) ++ Lf9 tA (b + 6)) ++ Lf9 tA (b + 9)) ++ Lf9 tA (b + 12)) ++ Lf9 tA (b + 15)) ++ Lf9 tA (b + 18)) ++ Lf9 tA (b + 21)) (rest := [.ref (b + 24), .int (iN ((6 : Nat) : Int)), .ref (b + 1)]) ct_9 X g kt_3 kw_83 kw_84 kw_85 rfl ⟨by decide, by decide, by decide⟩ ⟨by decide, by decide⟩ ⟨by decide, by decide⟩ hl.1 (by simp [Value.category]) rfl dk8_49 (fun H27 lc27 g => ?_)
  have g : CG D b s (((((((((([.inr (8, [.ref (b + 1), .ref (b + 2), .ref (b + 5), .int 0, .int 0, .int 0, .int 0]), .inl (tA 2, (8, .inr (.inr (.inr (.inr (va_up (va_up (va_up (va_up (va_up (va_up (fun _ => none) 0 (some (b + 6))) 1 (some (b + 9))) 2 (some (b + 12))) 3 (some (b + 15))) 4 (some (b + 18))) 5 (some (b + 21))))))))]) ++ Lf9 tA (b + 2)) ++ [.inl (tA 0, (8, .inl (fun _ => 0)))]) ++ Lf9 tA (b + 6)) ++ Lf9 tA (b + 9)) ++ Lf9 tA (b + 12)) ++ Lf9 tA (b + 15)) ++ Lf9 tA (b + 18)) ++ Lf9 tA (b + 21)) ++ Lf9 tA (b + 24)) H27 lc27 := g
  refine c_ast (C := "RingDater$Timber") (t := 2) (n := 8) (q0 := 1) (i := 6) (v := b + 24) X (Or.inl ⟨rfl, rfl⟩) (by omega) g rfl (by omega) (c_any (ci := 9) (q := 24) X (by decide) g rfl) dk8_52 (fun H28 lc28 g => ?_)
  have g : CG D b s (((((((((([.inr (8, [.ref (b + 1), .ref (b + 2), .ref (b + 5), .int 0, .int 0, .int 0, .int 0]), .inl (tA 2, (8, .inr (.inr (.inr (.inr (va_up (va_up (va_up (va_up (va_up (va_up (va_up (fun _ => none) 0 (some (b + 6))) 1 (some (b + 9))) 2 (some (b + 12))) 3 (some (b + 15))) 4 (some (b + 18))) 5 (some (b + 21))) 6 (some (b + 24))))))))]) ++ Lf9 tA (b + 2)) ++ [.inl (tA 0, (8, .inl (fun _ => 0)))]) ++ Lf9 tA (b + 6)) ++ Lf9 tA (b + 9)) ++ Lf9 tA (b + 12)) ++ Lf9 tA (b + 15)) ++ Lf9 tA (b + 18)) ++ Lf9 tA (b + 21)) ++ Lf9 tA (b + 24)) H28 lc28 := g
  refine lv_iinc (v := iN ((7 : Nat) : Int)) (lv' := [(1, .int (iN ((7 : Nat) : Int))), (0, .ref b)]) X.1 X.2.1 dk8_53 hl (k := 0) rfl (by decide) (by decide) rfl (fun ls hl => ?_)
  refine lv_goto (tgt := 34) X.1 X.2.1 dk8_56 (by decide) ?_
  refine lv_iload_n (i := 1) (x := iN ((7 : Nat) : Int)) X.1 X.2.1 dk8_34 rfl (lv_at hl 0 rfl) ?_
  refine lv_bipush (v := iN ((8 : Nat) : Int)) X.1 X.2.1 dk8_35 (by decide) ?_
  refine lv_icmp_ge (tgt := 59) X.1 X.2.1 dk8_37 (by decide) (fun q => absurd q (by decide)) (fun _ => ?_)
  refine lv_aload_n (i := 0) (x := b) X.1 X.2.1 dk8_40 rfl (lv_at hl 1 rfl) ?_
  refine c_get (k := 0) (v := .ref (b + 1)) X (by decide) g (by decide) kw_80 rfl dk8_41 ?_
  refine lv_iload_n (i := 1) (x := iN ((7 : Nat) : Int)) X.1 X.2.1 dk8_44 rfl (lv_at hl 0 rfl) ?_
  refine c_new (ci := 9) X (by decide) g kw_81 kw_82 kw_83 (by decide) (by decide) dk8_45 (fun H29 g => ?_)
  refine lv_dup X.1 X.2.1 dk8_48 rfl ?_
  refine c_callN (L := ((((((((([.inr (8, [.ref (b + 1), .ref (b + 2), .ref (b + 5), .int 0, .int 0, .int 0, .int 0]), .inl (tA 2, (8, .inr (.inr (.inr (.inr (va_up (va_up (va_up (va_up (va_up (va_up (va_up (fun _ => none) 0 (some (b + 6))) 1 (some (b + 9))) 2 (some (b + 12))) 3 (some (b + 15))) 4 (some (b + 18))) 5 (some (b + 21))) 6 (some (b + 24))))))))]) ++ Lf9 tA (b + 2)) ++ [.inl (tA 0, (8, .inl (fun _ => 0)))]) ++ Lf9 tA (b + 6)) ++ Lf9 tA (b + 9)) ++ Lf9 tA (b + 12)) ++ Lf9 tA (b + 15)) ++ Lf9 tA (b + 18)) ++ Lf9 tA (b + 21)) ++ Lf9 tA (b + 24)) (rest := [.ref (b + 27), .int (iN ((7 : Nat) : Int)), .ref (b + 1)]) ct_9 X g kt_3 kw_83 kw_84 kw_85 rfl ⟨by decide, by decide, by decide⟩ ⟨by decide, by decide⟩ ⟨by decide, by decide⟩ hl.1 (by simp [Value.category]) rfl dk8_49 (fun H30 lc30 g => ?_)
  have g : CG D b s ((((((((((([.inr (8, [.ref (b + 1), .ref (b + 2), .ref (b + 5), .int 0, .int 0, .int 0, .int 0]), .inl (tA 2, (8, .inr (.inr (.inr (.inr (va_up (va_up (va_up (va_up (va_up (va_up (va_up (fun _ => none) 0 (some (b + 6))) 1 (some (b + 9))) 2 (some (b + 12))) 3 (some (b + 15))) 4 (some (b + 18))) 5 (some (b + 21))) 6 (some (b + 24))))))))]) ++ Lf9 tA (b + 2)) ++ [.inl (tA 0, (8, .inl (fun _ => 0)))]) ++ Lf9 tA (b + 6)) ++ Lf9 tA (b + 9)) ++ Lf9 tA (b + 12)) ++ Lf9 tA (b + 15)) ++ Lf9 tA (b + 18)) ++ Lf9 tA (b + 21)) ++ Lf9 tA (b + 24)) ++ Lf9 tA (b + 27)) H30 lc30 := g
  refine c_ast (C := "RingDater$Timber") (t := 2) (n := 8) (q0 := 1) (i := 7) (v := b + 27) X (Or.inl ⟨rfl, rfl⟩) (by omega) g rfl (by omega) (c_any (ci := 9) (q := 27) X (by decide) g rfl) dk8_52 (fun H31 lc31 g => ?_)
  have g : CG D b s ((((((((((([.inr (8, [.ref (b + 1), .ref (b + 2), .ref (b + 5), .int 0, .int 0, .int 0, .int 0]), .inl (tA 2, (8, .inr (.inr (.inr (.inr (va_up (va_up (va_up (va_up (va_up (va_up (va_up (va_up (fun _ => none) 0 (some (b + 6))) 1 (some (b + 9))) 2 (some (b + 12))) 3 (some (b + 15))) 4 (some (b + 18))) 5 (some (b + 21))) 6 (some (b + 24))) 7 (some (b + 27))))))))]) ++ Lf9 tA (b + 2)) ++ [.inl (tA 0, (8, .inl (fun _ => 0)))]) ++ Lf9 tA (b + 6)) ++ Lf9 tA (b + 9)) ++ Lf9 tA (b + 12)) ++ Lf9 tA (b + 15)) ++ Lf9 tA (b + 18)) ++ Lf9 tA (b + 21)) ++ Lf9 tA (b + 24)) ++ Lf9 tA (b + 27)) H31 lc31 := g
  refine lv_iinc (v := iN ((8 : Nat) : Int)) (lv' := [(1, .int (iN ((8 : Nat) : Int))), (0, .ref b)]) X.1 X.2.1 dk8_53 hl (k := 0) rfl (by decide) (by decide) rfl (fun ls hl => ?_)
  refine lv_goto (tgt := 34) X.1 X.2.1 dk8_56 (by decide) ?_
  refine lv_iload_n (i := 1) (x := iN ((8 : Nat) : Int)) X.1 X.2.1 dk8_34 rfl (lv_at hl 0 rfl) ?_
  refine lv_bipush (v := iN ((8 : Nat) : Int)) X.1 X.2.1 dk8_35 (by decide) ?_
  refine lv_icmp_ge (tgt := 59) X.1 X.2.1 dk8_37 (by decide) (fun _ => ?_) (fun q => absurd (by decide) q)
  refine lv_aload_n (i := 0) (x := b) X.1 X.2.1 dk8_59 rfl (lv_at hl 1 rfl) ?_
  refine c_vcall (ci := 8) (Lc := (((((((((([.inr (8, [.ref (b + 1), .ref (b + 2), .ref (b + 5), .int (iN ((0 : Nat) : Int)), .int (iN ((70 : Nat) : Int)), .int (iN ((6 : Nat) : Int)), .int (iN ((5 : Nat) : Int))]), .inl (tA 2, (8, .inr (.inr (.inr (.inr (va_up (va_up (va_up (va_up (va_up (va_up (va_up (va_up (fun _ => none) 0 (some (b + 6))) 1 (some (b + 9))) 2 (some (b + 12))) 3 (some (b + 15))) 4 (some (b + 18))) 5 (some (b + 21))) 6 (some (b + 24))) 7 (some (b + 27))))))))]) ++ Lf9 tA (b + 2)) ++ [.inl (tA 0, (8, .inl (upd (upd (upd (upd (upd (upd (upd (upd (fun _ => 0) 0 (iN (-1))) 1 (iN (-1))) 2 (iN (-1))) 3 (iN (-1))) 4 (iN (-1))) 5 (iN (-1))) 6 (iN (-1))) 7 (iN (-1)))))]) ++ Lf9 tA (b + 6)) ++ Lf9 tA (b + 9)) ++ Lf9 tA (b + 12)) ++ Lf9 tA (b + 15)) ++ Lf9 tA (b + 18)) ++ Lf9 tA (b + 21)) ++ Lf9 tA (b + 24)) ++ Lf9 tA (b + 27)) lm_wipe X (by decide) rfl g rfl rfl kw_87 kw_88 kw_89 kw_90 kw_91 ⟨by decide, by decide, by decide⟩ ⟨by decide, by decide⟩ ⟨by decide, by decide⟩ hl.1 dk8_60 (fun H32 lc32 g => ?_)
  exact ct_ret X g dk8_63
set_option maxRecDepth 100000 in
theorem dk5_0 : decode prog_7_method_1_code 0 = .ok (.aload_n 0, 1) := rfl
set_option maxRecDepth 100000 in
theorem dk5_1 : decode prog_7_method_1_code 1 = .ok (.invokespecial 3, 3) := rfl
set_option maxRecDepth 100000 in
theorem kw_92 : Cond.methodLink (Rn 5) 3 Lib.objectInit ∈ gW := gW_at (i := 146) rfl rfl
set_option maxRecDepth 100000 in
theorem dk5_4 : decode prog_7_method_1_code 4 = .ok (.aload_n 0, 1) := rfl
set_option maxRecDepth 100000 in
theorem dk5_5 : decode prog_7_method_1_code 5 = .ok (.sipush 900, 3) := rfl
set_option maxRecDepth 100000 in
theorem dk5_8 : decode prog_7_method_1_code 8 = .ok (.newarray .int, 2) := rfl
set_option maxRecDepth 100000 in
theorem dk5_10 : decode prog_7_method_1_code 10 = .ok (.putfield 9, 3) := rfl
set_option maxRecDepth 100000 in
theorem kw_93 : Cond.fieldLink (Rn 5) 9 (Tc 5 0).1 (Tc 5 0).2.1 (Tc 5 0).2.2.1 ∈ gW := gW_at (i := 233) rfl rfl
set_option maxRecDepth 100000 in
theorem dk5_13 : decode prog_7_method_1_code 13 = .ok (.aload_n 0, 1) := rfl
set_option maxRecDepth 100000 in
theorem dk5_14 : decode prog_7_method_1_code 14 = .ok (.new 15, 3) := rfl
set_option maxRecDepth 100000 in
theorem kw_94 : Cond.classLink (Rn 5) 15 (Rn 8) ∈ gW := gW_at (i := 147) rfl rfl
set_option maxRecDepth 100000 in
theorem kw_95 : Cond.instantiable (Rn 8) (Nc 8) ∈ gW := gW_at (i := 148) rfl rfl
set_option maxRecDepth 100000 in
theorem dk5_17 : decode prog_7_method_1_code 17 = .ok (.dup, 1) := rfl
set_option maxRecDepth 100000 in
theorem dk5_18 : decode prog_7_method_1_code 18 = .ok (.invokespecial 17, 3) := rfl
set_option maxRecDepth 100000 in
theorem kw_96 : Cond.instanceMethod ⟨Rn 8, "<init>", "()V"⟩ ∈ gW := gW_at (i := 150) rfl rfl
set_option maxRecDepth 100000 in
theorem kw_97 : Cond.code ⟨Rn 8, "<init>", "()V"⟩ prog_10_method_1_code 2 none ∈ gW := gW_at (i := 151) rfl rfl
set_option maxRecDepth 100000 in
theorem kw_98 : Cond.methodLink (Rn 5) 17 ⟨Rn 8, "<init>", "()V"⟩ ∈ gW := gW_at (i := 149) rfl rfl
set_option maxRecDepth 100000 in
theorem dk5_21 : decode prog_7_method_1_code 21 = .ok (.putfield 18, 3) := rfl
set_option maxRecDepth 100000 in
theorem kw_99 : Cond.fieldLink (Rn 5) 18 (Tc 5 1).1 (Tc 5 1).2.1 (Tc 5 1).2.2.1 ∈ gW := gW_at (i := 234) rfl rfl
set_option maxRecDepth 100000 in
theorem dk5_24 : decode prog_7_method_1_code 24 = .ok (.aload_n 0, 1) := rfl
set_option maxRecDepth 100000 in
theorem dk5_25 : decode prog_7_method_1_code 25 = .ok (.iconst (-1), 1) := rfl
set_option maxRecDepth 100000 in
theorem dk5_26 : decode prog_7_method_1_code 26 = .ok (.putfield 22, 3) := rfl
set_option maxRecDepth 100000 in
theorem kw_100 : Cond.fieldLink (Rn 5) 22 (Tc 5 3).1 (Tc 5 3).2.1 (Tc 5 3).2.2.1 ∈ gW := gW_at (i := 238) rfl rfl
set_option maxRecDepth 100000 in
theorem dk5_29 : decode prog_7_method_1_code 29 = .ok (.return_, 1) := rfl
def Lf5 (tA : Nat → ClassId) (b : Nat) : List va_E := ([.inr (5, [.ref (b + 1), .ref (b + 2), .int 0, .int (iN (-1)), .int 0, .int 0, .int 0, .int 0, .int 0, .int 0, .int 0, .int 0]), .inl (tA 0, (900, .inl (fun _ => 0)))]) ++ Lf8 tA (b + 2)
set_option maxHeartbeats 4000000 in
set_option maxRecDepth 100000 in
theorem ct_5 : CtorC ⟨Rn 5, "<init>", "()V"⟩ prog_7_method_1_code 1 3 120 31 1409 [] 5 Lf5 := by
  refine ct_of (by decide) rfl rfl (by decide) ?_
  intro p l e s m args below meth c D tA b ls X hin g hl
  rw [dfl_5] at g
  have hl : lv_has ls 1 [(0, .ref b)] := hl
  refine lv_aload_n (i := 0) (x := b) X.1 X.2.1 dk5_0 rfl (lv_at hl 0 rfl) ?_
  refine c_obj X kw_92 kw_2 kw_3 hl.1 (by decide) dk5_1 ?_
  refine lv_aload_n (i := 0) (x := b) X.1 X.2.1 dk5_4 rfl (lv_at hl 0 rfl) ?_
  refine lv_sipush (v := iN ((900 : Nat) : Int)) X.1 X.2.1 dk5_5 (by decide) ?_
  refine c_newa (n := 900) (t := 0) X (by simp) (by omega) g (by decide) (by decide) dk5_8 kw_0 kw_1 (fun H1 g => ?_)
  have g : CG D b s ([.inr (5, [.null, .null, .int 0, .int 0, .int 0, .int 0, .int 0, .int 0, .int 0, .int 0, .int 0, .int 0]), .inl (tA 0, (900, .inl (fun _ => 0)))]) H1 [] := g
  refine c_put (k := 0) (ty := .array .int) (v := .ref (b + 1)) X (by decide) g (by decide) (by simp) kw_93 (fun _ => hin) rfl rfl rfl rfl dk5_10 (fun H2 lc2 g => ?_)
  have g : CG D b s ([.inr (5, [.ref (b + 1), .null, .int 0, .int 0, .int 0, .int 0, .int 0, .int 0, .int 0, .int 0, .int 0, .int 0]), .inl (tA 0, (900, .inl (fun _ => 0)))]) H2 lc2 := g
  refine lv_aload_n (i := 0) (x := b) X.1 X.2.1 dk5_13 rfl (lv_at hl 0 rfl) ?_
  refine c_new (ci := 8) X (by decide) g kw_94 kw_95 kw_88 (by decide) (by decide) dk5_14 (fun H3 g => ?_)
  refine lv_dup X.1 X.2.1 dk5_17 rfl ?_
  refine c_call (L := [.inr (5, [.ref (b + 1), .null, .int 0, .int 0, .int 0, .int 0, .int 0, .int 0, .int 0, .int 0, .int 0, .int 0]), .inl (tA 0, (900, .inl (fun _ => 0)))]) (rest := [.ref (b + 2), .ref b]) ct_8 X g kw_98 kw_88 kw_96 kw_97 rfl ⟨by decide, by decide, by decide⟩ ⟨by decide, by decide⟩ ⟨by decide, by decide⟩ hl.1 (by simp [Value.category]) rfl dk5_18 (fun H4 lc4 g => ?_)
  have g : CG D b s (([.inr (5, [.ref (b + 1), .null, .int 0, .int 0, .int 0, .int 0, .int 0, .int 0, .int 0, .int 0, .int 0, .int 0]), .inl (tA 0, (900, .inl (fun _ => 0)))]) ++ Lf8 tA (b + 2)) H4 lc4 := g
  refine c_put (k := 1) (ty := .object "RingDater$Stock") (v := .ref (b + 2)) X (by decide) g (by decide) (by simp) kw_99 (fun _ => hin) rfl rfl rfl rfl dk5_21 (fun H5 lc5 g => ?_)
  have g : CG D b s (([.inr (5, [.ref (b + 1), .ref (b + 2), .int 0, .int 0, .int 0, .int 0, .int 0, .int 0, .int 0, .int 0, .int 0, .int 0]), .inl (tA 0, (900, .inl (fun _ => 0)))]) ++ Lf8 tA (b + 2)) H5 lc5 := g
  refine lv_aload_n (i := 0) (x := b) X.1 X.2.1 dk5_24 rfl (lv_at hl 0 rfl) ?_
  refine lv_iconst (v := iN (-1)) X.1 X.2.1 dk5_25 (by decide) ?_
  refine c_put (k := 3) (ty := .int) (v := .int (iN (-1))) X (by decide) g (by decide) (by simp) kw_100 (fun _ => hin) rfl rfl rfl rfl dk5_26 (fun H6 lc6 g => ?_)
  have g : CG D b s (([.inr (5, [.ref (b + 1), .ref (b + 2), .int 0, .int (iN (-1)), .int 0, .int 0, .int 0, .int 0, .int 0, .int 0, .int 0, .int 0]), .inl (tA 0, (900, .inl (fun _ => 0)))]) ++ Lf8 tA (b + 2)) H6 lc6 := g
  exact ct_ret X g dk5_29
