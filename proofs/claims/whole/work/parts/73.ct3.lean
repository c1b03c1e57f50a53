/-! CONSTRUCTORS, 4: with a further premise of the start; StringBuilder's. -/
def CtorE (y : MethodName) (cc : ByteArray) (nL fr lo mc ms : Nat) (av : List Value) (ci : Nat) (Lf : (Nat → ClassId) → Nat → List va_E) (E : Nat → State → Prop) : Prop := ∀ (l : Launch) (D : va_G) (tA : Nat → ClassId) (b : Nat),
  Met l y (Cond.code y cc nL none :: gW) { frames := fr, cells := mc, slots := ms, locals := lo } (va_Pc (.ref b :: av) (fun U => CPre D tA b ci U ∧ E b U)) (CPost D b (Lf tA b)) mc ms (fun q => b ≤ q)
theorem cte_of {y : MethodName} {cc : ByteArray} {nL fr lo mc ms ci : Nat} {av : List Value} {Lf : (Nat → ClassId) → Nat → List va_E} {E : Nat → State → Prop} {own : String} (hpl : plainName y.cls = true) (hy : y.name = "<init>") (hci : y.cls = own) (hnl : (lg_sl ((.ref 0 : Value) :: av)).length ≤ nL)
    (h : ∀ (p : Program) (l : Launch) (e : Env) (s : State) (m : MethodId) (args : Array Value) (below : List Frame) (meth : Method) (c : Code) (D : va_G) (tA : Nat → ClassId) (b : Nat) (ls : Array Slot), CXt p s m args meth c D tA own nL cc → meth.name = "<init>" → E b s → CG D b s [.inr (ci, dfl ci)] s.heap [] → lv_has ls nL (lv_args 0 (.ref b :: av)) →
      W p l e { frames := fr, cells := mc, slots := ms, locals := lo } s m args below meth c s.heap [] 0 0 (MQ below (CPost D b (Lf tA b)) args s mc ms (fun q => b ≤ q)) (F0 m 0 ls [])) : CtorE y cc nL fr lo mc ms av ci Lf E := by
  intro l D tA b
  refine Met.ofW (cc := cc) (maxL := nL) (ret := none) hpl rfl ?_
  intro p e s m args below meth c s₁ B hml hv
  obtain ⟨rfl, ⟨hCH, hK, hwc⟩, hE⟩ := hv
  have hts := atoms_spec (ws := Cond.code y cc nL none :: gW) B.pre
  have hown : s.vm.findClass own = some m.cls := by rw [← hci]; exact findClass_of_methodNamed B.named
  rw [lg_entry_eq]
  have hl := lv_entry ((.ref b : Value) :: av) (n := nL) hnl
  exact h p l e s m _ below meth c D tA b _ ⟨B.exec, B.bytes, hml, hown, fun w hw => hts w (List.mem_cons_of_mem _ hw), hK, hwc, B.returns, B.notSynchronized⟩ ((name_of_methodNamed B.named B.method).1.trans hy) hE ⟨hCH, va_S.rf⟩ hl
def EZ (b : Nat) (U : State) : Prop := va_Z "java/lang/String" "COMPACT_STRINGS" "Z" (.int 1) (fun q => b ≤ q) U U.heap
theorem EZ_same {q : Nat} {U U' : State} (h1 : U'.vm = U.vm) (h2 : U'.heap = U.heap) (h : EZ q U) : EZ q U' := by
  have e : U.vm.Alike U'.vm := by rw [h1]; exact Vm.Alike.refl _
  unfold EZ at *
  rw [h2]
  exact h.moved e
section CTR3
variable {p : Program} {l : Launch} {e : Env} {R : Room} {s : State} {m : MethodId} {args : Array Value} {below : List Frame} {meth : Method} {c : Code} {Q : State → Prop}
variable {D : va_G} {tA : Nat → ClassId} {b : Nat} {own : String} {nL : Nat} {cc : ByteArray} {L : List va_E} {H : Heap} {locs : List Loc} {cells slots pc : Nat} {ls : Array Slot} {rest : List Value}
theorem EZ.at {b2 : Nat} (h : EZ b s) (hb : b ≤ b2) (g : CG D b s L H locs) {U : State} (hU : U.heap = H) (hW : s.WarmedH U.vm) : EZ b2 U := by
  unfold EZ
  rw [hU]
  exact ((h.moved hW.alike).kept g.2.2.1).narrow (fun q hq => Nat.le_trans hb hq)
theorem c_callE {ci index nL2 fr lo mc ms : Nat} {y : MethodName} {c2 : ByteArray} {av st0 : List Value} {Lf : (Nat → ClassId) → Nat → List va_E} {E : Nat → State → Prop} (hC : CtorE y c2 nL2 fr lo mc ms av ci Lf E) (hbl : ∀ q U U', U'.vm = U.vm → U'.heap = U.heap → E q U → E q U') (hE : ∀ U : State, U.heap = H → s.WarmedH U.vm → E (b + L.length) U) (X : CXt p s m args meth c D tA own nL cc) (g : CG D b s (L ++ [.inr (ci, dfl ci)]) H locs) (hlink : Cond.methodLink own index y ∈ gW) (hini : Cond.initialized y.cls ∈ gW) (hinst : Cond.instanceMethod y ∈ gW) (hcode : Cond.code y c2 nL2 none ∈ gW) (hy : y.name = "<init>")
    (hd : y.cls ≠ "java/lang/invoke/MethodHandle" ∧ y.cls ≠ "java/lang/invoke/VarHandle" ∧ (parseMethodDescriptor y.desc).map (fun d => d.parameters.length) = some av.length) (hR : fr + 1 ≤ R.frames ∧ 8 + (nL2 + 11) + lo ≤ R.locals) (hf : cells + mc ≤ R.cells ∧ slots + ms ≤ R.slots) (hls : ls.size = nL) (hrest : (rest.map fun v => v.category).sum ≤ 8) (hst : st0 = av.reverse ++ .ref (b + L.length) :: rest) (hdg : decode cc pc = .ok (.invokespecial index, 3))
    (kk : ∀ H1 locs1, CG D b s (L ++ Lf tA (b + L.length)) H1 locs1 → W p l e R s m args below meth c H1 locs1 (cells + mc) (slots + ms) Q (F0 m (pc + 3) ls rest)) : W p l e R s m args below meth c H locs cells slots Q (F0 m pc ls st0) := by
  obtain ⟨hx, hb, hml, hown, hw, hK, hwc, hrt, hlk⟩ := X
  have hgood : GoodIn gW (Cond.code y c2 nL2 none :: gW) := by
    intro w hw
    rcases List.mem_cons.mp hw with rfl | hw
    · exact ⟨hcode, good_of_word (List.mem_filter.mp hcode).2⟩
    · exact ⟨hw, good_of_word (List.mem_filter.mp hw).2⟩
  have hbd : FrameBlind (va_Pc (.ref (b + L.length) :: av) (fun U => CPre D tA (b + L.length) ci U ∧ E (b + L.length) U)) := by
    intro a U g mk ⟨h, ⟨h1, h2, h3⟩, h4⟩
    exact ⟨h, ⟨h1, va_K.moved (u := U) (U := U.calling g mk a) (Vm.Alike.refl U.vm) h2, Wc.same (u := U) (U := U.calling g mk a) rfl h3⟩, hbl _ U (U.calling g mk a) rfl rfl h4⟩
  refine c_after g (va_runI (own := own) (Ts := gW) (nL := nL) (As := av) (n := av.length) ⟨hx, hb, hml, hown, hw⟩ (hC l D tA (b + L.length)) ⟨callB_of av.length hw hgood rfl rfl rfl (hw _ hini) (hw _ hlink) hd hR, hy, hw _ hinst⟩ ⟨hbd, fun U hU hW => ⟨rfl, ⟨⟨?_, ?_⟩, va_K.moved hW.alike hK, hwc.warm hW⟩, hE U hU hW⟩⟩ rfl rfl hls hst (lv_room (pc := pc) (ls := ls) (rest := st0) hrest) hdg hf) kk
  · rw [hU, g.1.1, List.length_append]
    show b + (L.length + 1) = b + L.length + 1
    omega
  · rw [hU]
    intro k z hz
    rw [wsL_at] at hz
    obtain ⟨x, hx, rfl⟩ := Option.map_eq_some_iff.mp hz
    have h0 : k < 1 := (List.getElem?_eq_some_iff.mp hx).1
    rw [show k = 0 by omega] at hx ⊢
    cases hx
    exact g.1.2 L.length _ (by rw [wsL_at, List.getElem?_append_right (Nat.le_refl _), Nat.sub_self]; rfl)
set_option maxRecDepth 100000 in
theorem c13 : clA[13]? = some (RJ4, TJ4, 4) ∧ ∀ w ∈ u_ws RJ4 TJ4 4, w ∈ gW := by
  refine ⟨rfl, fun w hw => ?_⟩
  obtain ⟨k, hk, rfl⟩ := List.mem_map.mp hw
  have hk4 : k < 4 := List.mem_range.mp hk
  match k, hk4 with
  | 0, _ => exact gW_at (i := 497) rfl rfl
  | 1, _ => exact gW_at (i := 499) rfl rfl
  | 2, _ => exact gW_at (i := 501) rfl rfl
  | 3, _ => exact gW_at (i := 503) rfl rfl
theorem dfl_13 : dfl 13 = [.null, .int 0, .int 0, .int 0] := rfl
theorem c_new13 {index : Nat} (X : CXt p s m args meth c D tA own nL cc) (g : CG D b s L H locs) (hcl : Cond.classLink own index RJ4 ∈ gW) (hins : Cond.instantiable RJ4 4 ∈ gW) (hini : Cond.initialized RJ4 ∈ gW) (hc : cells + 1 ≤ R.cells) (hs : slots + 4 ≤ R.slots) (hdg : decode cc pc = .ok (.new index, 3))
    (kk : ∀ H1, CG D b s (L ++ [.inr (13, dfl 13)]) H1 locs → W p l e R s m args below meth c H1 locs (cells + 1) (slots + 4) Q (F0 m (pc + 3) ls (.ref (b + L.length) :: rest))) : W p l e R s m args below meth c H locs cells slots Q (F0 m pc ls rest) := by
  obtain ⟨hx, hb, hml, hown, hw, hK, hwc⟩ := X
  obtain ⟨c1, c2⟩ := c13
  have hKn := hK.1 13 _ c1
  refine W.newcK hx hb hown (hw _ hcl) (hw _ hins) (hw _ hini) (g := F0 m pc ls rest) rfl hdg hc hs hKn.2.1 rfl fun H1 kC hkC e1 z1 o1 => ?_
  have hat : va_at D clA (H.size, .inr (13, dfl 13)) H1 := by
    refine ⟨_, c1, (u_born tyJ4 hw c2 hKn hkC e1 tyJ4_ok).to (fun j hj => ?_)⟩
    have hj' : j < 4 := hj
    match j, hj' with
    | 0, _ => rfl
    | 1, _ => rfl
    | 2, _ => rfl
    | 3, _ => rfl
  have K := kk H1 ⟨g.1.push z1 o1 hat, vS_push g.2 z1 o1⟩
  rw [← g.1.1] at K
  exact K
theorem c_put13 {index k : Nat} {fs : List Value} {L0 : List va_E} {ty : FieldType} {v : Value} (X : CXt p s m args meth c D tA own nL cc) (g : CG D b s (.inr (13, fs) :: L0) H locs) (hk : k < 4) (hlen : k < fs.length) (hl : Cond.fieldLink own index (TJ4 k).1 (TJ4 k).2.1 (TJ4 k).2.2.1 ∈ gW) (hfin : (TJ4 k).2.2.2 = false) (hd : parseFieldDescriptor (TJ4 k).2.2.1 = some ty) (hn : narrow ty v = v) (hf : fits ty v = true) (hdg : decode cc pc = .ok (.putfield index, 3))
    (kk : ∀ H1 locs1, CG D b s (.inr (13, fs.set k v) :: L0) H1 locs1 → W p l e R s m args below meth c H1 locs1 cells slots Q (F0 m (pc + 3) ls rest)) : W p l e R s m args below meth c H locs cells slots Q (F0 m pc ls (v :: .ref b :: rest)) := by
  obtain ⟨hx, hb, hml, hown, hw, hK, hwc, hrt, hlk⟩ := X
  obtain ⟨c1, c2⟩ := c13
  have he : (wsL b (.inr (13, fs) :: L0))[0]? = some (b, .inr (13, fs)) := by rw [wsL_at]; rfl
  have hset : (wsL b (.inr (13, fs) :: L0)).set 0 (b, .inr (13, fs.set k v)) = wsL b (.inr (13, fs.set k v) :: L0) := wsL_set (i := 0)
  have hap := va_apart (own := own) hw c2 tyJ4 tyJ4_ok nmJ4 hK c1
  obtain ⟨r, h1, cell, q1, q2, q3, q4⟩ := g.1.2 0 _ he
  have hr : r = (RJ4, TJ4, 4) := Option.some.inj (h1.symm.trans c1)
  subst hr
  obtain ⟨hS, hfc, kC, hkC, hkind⟩ := hK.1 13 _ c1
  obtain ⟨cf, kf, fi, f, hi, hsl⟩ := hS k hk
  have hlay := hw _ (c2 _ (u_in_lay hk))
  have hst := (u_facts hfc hkC (u_lays hw c2 hk) hi).1
  unfold u_lay at hlay
  rw [if_neg (by rw [hfin]; decide)] at hlay
  have h6 := u_store hfc hkC hkind hlay hi hd hn hf
  refine W.putK hx hb (f := f) ⟨hown, hw _ hl, ⟨_, _, _, hi⟩, hst⟩ (by rw [q2]; exact h6) q1 q3 (by rw [hsl]; exact k2_hasslot (q4 k hk)) rfl rfl hdg fun H1 e1 e2 e3 => kk H1 _ ?_
  rw [hsl] at e1
  have hat : va_at D clA (b, .inr (13, fs.set k v)) H1 := ⟨_, c1, t_OB.to (V := updV (vp_V fs) k v) ⟨_, e1, q2, q3, t_set q4 hap hk v⟩ (fun j _ => vp_updV_set hlen v j)⟩
  have hP := g.1.2.set wsL_D he hat e3
  rw [hset] at hP
  exact ⟨⟨e2.trans g.1.1, hP⟩, g.2.put e2 e3 (by show b ≤ b; omega)⟩
theorem c_newaB {n : Nat} (X : CXt p s m args meth c D tA own nL cc) (hn : n ≤ 10000) (g : CG D b s L H locs) (hc : cells + 1 ≤ R.cells) (hs : slots + n ≤ R.slots) (hdg : decode cc pc = .ok (.newarray .byte, 2)) (hwi : Cond.arrayClass .byte ∈ gW)
    (kk : ∀ H1, CG D b s (L ++ [.inl (tA 4, (n, .inl (fun _ => 0)))]) H1 locs → W p l e R s m args below meth c H1 locs (cells + 1) (slots + n) Q (F0 m (pc + 2) ls (.ref (b + L.length) :: rest))) : W p l e R s m args below meth c H locs cells slots Q (F0 m pc ls (.int (iN (n : Int)) :: rest)) := by
  obtain ⟨hx, hb, hml, hown, hw, hK, hwc, hrt, hlk⟩ := X
  have n0 : ¬ iN (n : Int) < 0 := fun q => by
    have := (iN_lt ⟨by omega, by omega⟩ inR_0).mp q
    omega
  have nC : (iN (n : Int)).toNatClampNeg = n := iN_clamp (by omega) (by omega)
  refine va_newaK (atype := .byte) hx hb (hw _ hwi) (g := F0 m pc ls (.int (iN (n : Int)) :: rest)) rfl hdg rfl n0 nC (by show n * 1 ≤ _; omega) hc hs rfl (fun H1 cA e1 z1 o1 _ hN => ?_)
  have hA : cA = tA 4 := by
    have h2 : s.vm.findClass ("[" ++ FieldType.byte.toString) = some (tA 4) := (hwc.2.2.2.2 0 _ rfl).2
    exact Option.some.inj (hN.symm.trans h2)
  subst hA
  have K := kk H1 ⟨g.1.push z1 o1 e1, vS_push g.2 z1 o1⟩
  rw [← g.1.1] at K
  exact K
end CTR3
def Lf13 (tA : Nat → ClassId) (b : Nat) : List va_E := [.inr (13, [.ref (b + 1), .int 0, .int 0, .int 0]), .inl (tA 4, (16, .inl (fun _ => 0)))]
def yAi : MethodName := ⟨"java/lang/AbstractStringBuilder", "<init>", "(I)V"⟩
def ySi : MethodName := ⟨RJ4, "<init>", "()V"⟩
set_option maxRecDepth 100000 in
theorem ai_c : (decode prog_16_method_2_code 0 = .ok (.aload_n 0, 1) ∧ decode prog_16_method_2_code 1 = .ok (.invokespecial 3, 3) ∧ decode prog_16_method_2_code 4 = .ok (.getstatic 18, 3) ∧ decode prog_16_method_2_code 7 = .ok (.ifCond .eq 18, 3)) ∧ (decode prog_16_method_2_code 10 = .ok (.aload_n 0, 1) ∧ decode prog_16_method_2_code 11 = .ok (.iload_n 1, 1) ∧ decode prog_16_method_2_code 12 = .ok (.newarray .byte, 2) ∧ decode prog_16_method_2_code 14 = .ok (.putfield 15, 3)) ∧ decode prog_16_method_2_code 17 = .ok (.aload_n 0, 1) ∧ decode prog_16_method_2_code 18 = .ok (.iconst 0, 1) ∧ decode prog_16_method_2_code 19 = .ok (.putfield 22, 3) ∧ decode prog_16_method_2_code 22 = .ok (.goto 16, 3) ∧ decode prog_16_method_2_code 38 = .ok (.return_, 1) := ⟨⟨rfl, rfl, rfl, rfl⟩, ⟨rfl, rfl, rfl, rfl⟩, rfl, rfl, rfl, rfl, rfl⟩
set_option maxRecDepth 100000 in
theorem si_c : decode prog_28_method_1_code 0 = .ok (.aload_n 0, 1) ∧ decode prog_28_method_1_code 1 = .ok (.bipush 16, 2) ∧ decode prog_28_method_1_code 3 = .ok (.invokespecial 1, 3) ∧ decode prog_28_method_1_code 6 = .ok (.return_, 1) := ⟨rfl, rfl, rfl, rfl⟩
set_option maxRecDepth 100000 in
theorem ai_w : (Cond.methodLink "java/lang/AbstractStringBuilder" 3 Lib.objectInit ∈ gW ∧ Cond.fieldLink "java/lang/AbstractStringBuilder" 18 "java/lang/String" "COMPACT_STRINGS" "Z" ∈ gW ∧ Cond.fieldLink "java/lang/AbstractStringBuilder" 15 (TJ4 0).1 (TJ4 0).2.1 (TJ4 0).2.2.1 ∈ gW) ∧ Cond.fieldLink "java/lang/AbstractStringBuilder" 22 (TJ4 1).1 (TJ4 1).2.1 (TJ4 1).2.2.1 ∈ gW ∧ Cond.arrayClass .byte ∈ gW := ⟨⟨gW_at (i := 482) rfl rfl, gW_at (i := 483) rfl rfl, gW_at (i := 492) rfl rfl⟩, gW_at (i := 493) rfl rfl, gW_at (i := 506) rfl rfl⟩
set_option maxRecDepth 100000 in
theorem si_w : Cond.methodLink RJ4 1 yAi ∈ gW ∧ Cond.initialized "java/lang/AbstractStringBuilder" ∈ gW ∧ Cond.instanceMethod yAi ∈ gW ∧ Cond.code yAi prog_16_method_2_code 2 none ∈ gW := ⟨gW_at (i := 479) rfl rfl, gW_at (i := 114) rfl rfl, gW_at (i := 480) rfl rfl, gW_at (i := 481) rfl rfl⟩
set_option maxHeartbeats 4000000 in
set_option maxRecDepth 100000 in
theorem ct_ai : CtorE yAi prog_16_method_2_code 2 1 40 1 16 [.int (iN ((16 : Nat) : Int))] 13 Lf13 EZ := by
  refine cte_of (own := "java/lang/AbstractStringBuilder") (by decide) rfl rfl (by decide) ?_
  intro p l e s m args below meth c D tA b ls X hin hE g hl
  rw [dfl_13] at g
  have hl : lv_has ls 2 [(0, .ref b), (1, .int (iN ((16 : Nat) : Int)))] := hl
  obtain ⟨⟨d0, d1, d4, d7⟩, ⟨d10, d11, d12, d14⟩, d17, d18, d19, d22, d38⟩ := ai_c
  obtain ⟨⟨w1, w2, w3⟩, w4, w5⟩ := ai_w
  refine lv_aload_n (i := 0) (x := b) X.1 X.2.1 d0 rfl (lv_at hl 0 rfl) ?_
  refine c_obj X w1 kw_2 kw_3 hl.1 (by decide) d1 ?_
  refine va_gets (ref := "java/lang/String") X.1 X.2.1 hE g.2 X.2.2.2.1 (X.2.2.2.2.1 _ w2) (fun _ h => h) d4 ?_
  refine lv_if_eq (tgt := 25) X.1 X.2.1 d7 (by decide) (fun z => absurd z (by decide)) (fun _ => ?_)
  refine lv_aload_n (i := 0) (x := b) X.1 X.2.1 d10 rfl (lv_at hl 0 rfl) ?_
  refine lv_iload_n (i := 1) (x := iN ((16 : Nat) : Int)) X.1 X.2.1 d11 rfl (lv_at hl 1 rfl) ?_
  refine c_newaB (n := 16) X (by omega) g (by decide) (by decide) d12 w5 (fun H1 g => ?_)
  refine c_put13 (k := 0) (ty := .array .byte) (v := .ref (b + 1)) X g (by decide) (by simp) w3 rfl rfl rfl rfl d14 (fun H2 lc2 g => ?_)
  refine lv_aload_n (i := 0) (x := b) X.1 X.2.1 d17 rfl (lv_at hl 0 rfl) ?_
  refine lv_iconst (v := 0) X.1 X.2.1 d18 (by decide) ?_
  refine c_put13 (k := 1) (ty := .byte) (v := .int 0) X g (by decide) (by simp) w4 rfl rfl rfl rfl d19 (fun H3 lc3 g => ?_)
  refine lv_goto (tgt := 38) X.1 X.2.1 d22 (by decide) ?_
  exact ct_ret X g d38
set_option maxHeartbeats 4000000 in
set_option maxRecDepth 100000 in
theorem ct_si : CtorE ySi prog_28_method_1_code 1 2 80 1 16 [] 13 Lf13 EZ := by
  refine cte_of (own := RJ4) (by decide) rfl rfl (by decide) ?_
  intro p l e s m args below meth c D tA b ls X hin hE g hl
  have hl : lv_has ls 1 [(0, .ref b)] := hl
  obtain ⟨d0, d1, d3, d6⟩ := si_c
  obtain ⟨w1, w2, w3, w4⟩ := si_w
  refine lv_aload_n (i := 0) (x := b) X.1 X.2.1 d0 rfl (lv_at hl 0 rfl) ?_
  refine lv_bipush (v := iN ((16 : Nat) : Int)) X.1 X.2.1 d1 (by decide) ?_
  refine c_callE (L := []) (rest := []) ct_ai (fun q U U' h1 h2 h => ?_) (fun U hU hW => hE.at (Nat.le_refl _) g hU hW) X g w1 w2 w3 w4 rfl ⟨by decide, by decide, by decide⟩ ⟨by decide, by decide⟩ ⟨by decide, by decide⟩ hl.1 (by simp) rfl d3 (fun H1 lc1 g => ?_)
  · exact EZ_same h1 h2 h
  exact ct_ret X g d6
