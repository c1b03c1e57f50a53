/-! THE LAW, 2: its wrappers: a call of the class, its answer into out's place, or a code where it throws. -/
section L3
variable {p : Program} {l : Launch} {e : Env} {R : Room} {s : State} {m : MethodId} {args : Array Value} {below : List Frame} {meth : Method} {c : Code} {Q : State → Prop}
variable {D : va_G} {tA : Nat → ClassId} {n0 o bs : Nat} {adr adV : Nat → Nat} {M : Mm} {f : Nat → Int64} {H : Heap} {locs : List Loc} {cells slots pc : Nat} {ls : Array Slot} {rest st0 : List Value} {nL : Nat} {cc : ByteArray}
theorem va_P1 {cl : List vw_C} {q : Nat × va_E} {H : Heap} (h : va_at D cl q H) : va_P D cl [q] H := fun k y hy => by
  have hz : k < 1 := (List.getElem?_eq_some_iff.mp hy).1
  rw [show k = 0 by omega] at hy
  cases hy
  exact h
/-- out[0] = v -/
theorem l_out {v : Int64} (X : LX p s m args c nL cc) (hm : LM n0 o bs adr) (hs : LSt D tA n0 adr adV s s.heap) (hh : LH D tA n0 o bs adr M f H) (hS : LV n0 s H locs) (hdg : decode cc pc = .ok (.lastore, 1))
    (kk : ∀ H1 locs1, LH D tA n0 o bs adr M (vp_updL f 0 v) H1 → LV n0 s H1 locs1 → W p l e R s m args below meth c H1 locs1 cells slots Q (F0 m (pc + 1) ls rest)) : W p l e R s m args below meth c H locs cells slots Q (F0 m pc ls (.long v :: .int 0 :: .ref o :: rest)) := by
  obtain ⟨h1, h2, h3, bb, cap, cnt, ml, fb, ⟨b1, b2, b3, b4⟩, hc, h4, h5⟩ := hh
  refine W.last X.1 X.2.1 h3 ((hs.1.2.2 1 _ rfl).1 1 (fun j => .long (f j))) (fun q => by cases q) (by show ¬ ((0 : Int32) < 0 ∨ (arrV _ _ _).slots.size ≤ _); rw [arrV_size]; show ¬ ((0 : Int32) < 0 ∨ (1 : Nat) ≤ (0 : Int32).toNatClampNeg); decide) rfl rfl hdg fun H1 e1 z oq => ?_
  refine kk H1 _ ⟨by rw [z]; exact h1, h2.kept (fun k q hk => oq _ ?_), ?_, bb, cap, cnt, ml, fb, ⟨b1, b2, b3, b4⟩, hc, h4.kept (oq _ (fun e => hm.1.2.2 e.symm)), h5.kept (oq _ b2)⟩ (va_S.put hS z oq hm.1.1)
  · rw [(ws_el hk).2]
    exact (hm.2.1 k (ws_el hk).1).2.1
  · show H1[o]? = some (vp_cell _ _)
    rw [e1, vp_cell_l, vp_cell_l, arrV_store]
    congr 2
    funext q
    by_cases hq : q = (0 : Int32).toNatClampNeg
    · subst hq
      simp [updV, vp_updL]
    · have hq' : ¬ q = 0 := hq
      simp [updV, vp_updL, hq']
/-- out[0] -/
theorem l_in (X : LX p s m args c nL cc) (hs : LSt D tA n0 adr adV s s.heap) (hh : LH D tA n0 o bs adr M f H) (hdg : decode cc pc = .ok (.laload, 1))
    (kk : W p l e R s m args below meth c H locs cells slots Q (F0 m (pc + 1) ls (.long (f 0) :: rest))) : W p l e R s m args below meth c H locs cells slots Q (F0 m pc ls (.int 0 :: .ref o :: rest)) :=
  va_lald X.1 X.2.1 hs.1.2 (va_P1 hh.2.2.1) 0 1 rfl rfl (by rw [vp_in_iff]; decide) hdg kk
theorem WldD.blind {M : Mm} {sz : Nat} (as : List AV) : FrameBlind (va_Pc (as.map (cvA adr)) (fun U => Wld D tA adr adV M sz U ∧ Dcl U)) := by
  intro a U g mk ⟨h, h1, h2⟩
  have h3 := Wld.blind (D := D) (tA := tA) (adr := adr) (adV := adV) (M := M) (sz := sz) as a U g mk ⟨h, h1⟩
  exact ⟨h3.1, h3.2, Dcl.same (u := U) (U := U.calling g mk a) rfl h2⟩
/-- a call of the class that throws -/
theorem l_throw {idx q b n : Nat} {As : List AV} {Xp : Nat → Mm → Prop} (X : LX p s m args c nL cc) (hw : LWd idx q) (hm : LM n0 o bs adr) (hs : LSt D tA n0 adr adV s s.heap) (hh : LH D tA n0 o bs adr M f H) (hS : LV n0 s H locs) (hls : ls.size = nL) (hb : kc (lay b) (oM q)) (hn : As.length + 1 = nM q) (hn4 : n ≤ 400) (hR : dM q + 7 ≤ R.frames ∧ 949 + 64 * dM q ≤ R.locals) (hc : cells + 1 ≤ R.cells ∧ slots + 6 ≤ R.slots) (hfl : l.stackTraces = false)
    (hrest : (rest.map fun v => v.category).sum ≤ 8) (hst : st0 = (As.map (cvA adr)).reverse ++ .ref (adr b) :: rest) (hdg : decode cc pc = .ok (.invokevirtual idx, 3)) (hC : CallX q n (.inr b :: As) M Xp)
    (kx : ∀ q0 M' H1 locs1 q9 ce, Xp q0 M' → LH D tA n0 o bs adr M' f H1 → LV n0 s H1 locs1 → H1[q9]? = some ce → ce.vm = .none → s.vm.findClass (excN q0) = some ce.cls → vx_W p l e R s m args below meth c H1 locs1 (cells + 1) (slots + 6) Q (F0 m pc ls rest) q9) : W p l e R s m args below meth c H locs cells slots Q (F0 m pc ls st0) := by
  obtain ⟨hx, hb', hml, hown, hts⟩ := X
  have hq := hw.2.2.2
  have h30 := l_l30 hq
  have hr := vx_runV (p := p) (l := l) (e := e) (R := R) (s := s) (m := m) (args := args) (below := below) (meth := meth) (c := c) (H := H) (locs := locs) (cells := cells) (slots := slots) (b := adr b) (g := F0 m pc ls st0) (rest := rest) (own := lwN) (Ts := gW) (nL := nL) (As := As.map (cvA adr)) (C := (yM q).cls) (n := As.length) (bytes := cM q) (maxL := lM q) (ret := rM q) ⟨hx, hb', hml, hown, hts⟩ (hC l hfl D tA adr adV H.size)
    ⟨callB_of As.length hts (wM_good hq) rfl rfl rfl (hts _ hw.2.1.2) (hts _ hw.1.1) (l_sig hw hn) ⟨by show dM q + 6 + 1 ≤ R.frames; omega, by show 8 + (lM q + 11) + (64 * dM q + 2 * n + 100) ≤ R.locals; omega⟩, hts _ hw.1.2, hts _ hw.2.1.1⟩
    ⟨WldD.blind _, l_recv hs hh hq hb, fun U hU hW => ⟨by simp [cvA], by rw [← hU]; exact lw_Wld hm (hU ▸ hs.now hS hW) (hU ▸ hh) rfl, hs.2.2.2.1.warm hW⟩⟩ rfl (by simp) hls hst (lv_room (pc := pc) (ls := ls) (rest := st0) hrest) hdg hc
  intro T hT X
  rcases hr T hT X with ⟨v, st₀, t, T', L, h0, X', hL, e1, e2, hF, st⟩ | ⟨q9, st₀, t, T', L, E, ce, h0, X', hL, e1, e2, ⟨q0, M', hX, rfl, hP, hD, hz, hkk⟩, hce, hcv, hcl, st⟩
  · exact hF.elim
  · rw [h0] at hz hkk hD
    have hz1 : H.size ≤ T'.heap.size := by rw [e1]; exact hz
    have hk1 : ∀ q : Nat, q < H.size → ¬ AA adr H.size q → T'.heap[q]? = H[q]? := fun q h1 h2 => by rw [e1]; exact hkk q h1 h2
    have K := kx q0 M' T'.heap (locs ++ L) q9 ce hX (l_keep hm hh hz1 hk1 (by rw [e1]; exact hP)) (vS_app hS hz1 hk1 (hm.sub hh.1) (fun q hq => hm.sub hh.1 _ (hL q hq))) (by rw [e1]; exact hce) hcv hcl
    obtain ⟨t2, a1, b1⟩ := K T' rfl X'
    exact ⟨t2, st.trans a1, b1⟩
end L3
/-- a wrapper: r, and x where r is 0; then the reference's call says the same -/
def WQ (mB : Nat) (as : List AV) (k : Nat) (r x : Int) (M1 : Mm) : Prop := (inR r ∧ inR x) ∧ CallI mB (.inr 154 :: as) M1 (fun y M2 => M2 154 1 = r ∧ (r = 0 → x = y) ∧ Rel (k + 1) M2)
def SimW (hm : List (Nat × Int)) (mA mB : Nat) (as : List AV) (k : Nat) (M : Mm) : Prop := Sim mA mB as k M ∨ ∃ z ∈ hm, SimX mA mB as k z.1 z.2 M
def WPost (D : va_G) (tA : Nat → ClassId) (n0 o bs : Nat) (adr : Nat → Nat) (Qw : Int → Int → Mm → Prop) : Array Value → State → Outcome → State → Prop := fun _ st oc t =>
  (∃ (r x : Int) (M' : Mm) (f' : Nat → Int64), oc = .returned (some (.int (iN r))) ∧ Qw r x M' ∧ (r = 0 → f' 0 = (iN x).toInt64) ∧ LH D tA n0 o bs adr M' f' t.heap) ∧ va_F (fun q => n0 ≤ q) st t
def WPre (D : va_G) (tA : Nat → ClassId) (n0 o bs : Nat) (adr adV : Nat → Nat) (M : Mm) (U : State) : Prop := LSt D tA n0 adr adV U U.heap ∧ ∃ f, LH D tA n0 o bs adr M f U.heap
def wrR : Room := { frames := 100, cells := 100, slots := 12000, locals := 12000 }
/-- a wrapper's contract -/
def WrC (y : MethodName) (cc : ByteArray) (nL : Nat) (hh : List (Nat × Nat × Nat × Nat)) (as : List AV) (M : Mm) (Qw : Int → Int → Mm → Prop) : Prop := ∀ (l : Launch), l.stackTraces = false → ∀ (D : va_G) (tA : Nat → ClassId) (n0 o bs : Nat) (adr adV : Nat → Nat), LM n0 o bs adr →
  Met l y (Cond.codeWith y cc nL (some .int) hh :: gW) wrR (va_Pc (.ref (adr 0) :: (as.map (cvA adr) ++ [.ref o])) (WPre D tA n0 o bs adr adV M)) (WPost D tA n0 o bs adr Qw) 100 12000 (fun q => n0 ≤ q)
theorem WPre.blind {D : va_G} {tA : Nat → ClassId} {n0 o bs : Nat} {adr adV : Nat → Nat} {M : Mm} {vs : List Value} : FrameBlind (va_Pc vs (WPre D tA n0 o bs adr adV M)) := by
  intro a U g mk ⟨h, h1, f, h2⟩
  exact ⟨h, LSt.same (u := U) (U := U.calling g mk a) rfl h1, f, h2⟩
section L4
variable {p : Program} {l : Launch} {e : Env} {s : State} {m : MethodId} {args : Array Value} {below : List Frame} {meth : Method} {c : Code}
variable {D : va_G} {tA : Nat → ClassId} {n0 o bs : Nat} {adr adV : Nat → Nat} {M : Mm} {f : Nat → Int64} {H : Heap} {locs : List Loc} {cells slots pc : Nat} {ls : Array Slot} {rest st0 : List Value} {nL : Nat} {cc : ByteArray} {Qw : Int → Int → Mm → Prop}
theorem wr_fin {r x : Int} (X : LX p s m args c nL cc) (hret : meth.sig.returnType = some .int) (hlk : meth.locks = false) (hq : Qw r x M) (hf : r = 0 → f 0 = (iN x).toInt64) (hh : LH D tA n0 o bs adr M f H) (hS : LV n0 s H locs) (hc : cells ≤ 100) (hs : slots ≤ 12000) (hdg : decode cc pc = .ok (.ireturn, 1)) :
    W p l e wrR s m args below meth c H locs cells slots (MQ below (WPost D tA n0 o bs adr Qw) args s 100 12000 (fun q => n0 ≤ q)) (F0 m pc ls [.int (iN r)]) := by
  refine W.widen hc hs (W.iret X.1 X.2.1 hret (fun t ht _ => ⟨⟨r, x, M, f, rfl, hq, hf, by rw [ht]; exact hh⟩, va_S.F hS ht⟩) hS.2.2 hdg hlk)
theorem wr_mid {hm : List (Nat × Int)} {mA mB idx E k : Nat} {off : Int} {as : List AV} (hsim : SimW hm mA mB as k M) (hr0 : ∀ z ∈ hm, z.2 ≠ 0 ∧ inR z.2) (X : LX p s m args c nL cc) (hw : LWd idx mA) (hL : LM n0 o bs adr) (hs : LSt D tA n0 adr adV s s.heap) (hh : LH D tA n0 o bs adr M f H) (hS : LV n0 s H locs) (hls : ls.size = nL) (hb : kc (lay 0) (oM mA)) (hn : as.length + 1 = nM mA) (hR : dM mA ≤ 90) (ho : oM mA < 14) (hlm : as.length + 1 ≤ lM mA) (hfl : l.stackTraces = false)
    (hret : meth.sig.returnType = some .int) (hlk : meth.locks = false) (hst : st0 = (as.map (cvA adr)).reverse ++ [.ref (adr 0), .int 0, .ref o])
    (d0 : decode cc pc = .ok (.invokevirtual idx, 3)) (d1 : decode cc (pc + 3) = .ok (.i2l, 1)) (d2 : decode cc (pc + 4) = .ok (.lastore, 1)) (d3 : decode cc (pc + 5) = .ok (.goto off, 3)) (ht : ((pc + 5 : Nat) : Int) + off = (E : Int)) (d4 : decode cc E = .ok (.iconst 0, 1)) (d5 : decode cc (E + 1) = .ok (.ireturn, 1))
    (hcat : ∀ z ∈ hm, ∀ H1 locs1 q9 ce, H1[q9]? = some ce → ce.vm = .none → s.vm.findClass (excN z.1) = some ce.cls → (∀ pcE ls', decode cc pcE = .ok (.ireturn, 1) → W p l e wrR s m args below meth c H1 locs1 1 6 (MQ below (WPost D tA n0 o bs adr (WQ mB as k)) args s 100 12000 (fun q => n0 ≤ q)) (F0 m pcE ls' [.int (iN z.2)])) →
      vx_W p l e wrR s m args below meth c H1 locs1 1 6 (MQ below (WPost D tA n0 o bs adr (WQ mB as k)) args s 100 12000 (fun q => n0 ≤ q)) (F0 m pc ls [.int 0, .ref o]) q9) :
    W p l e wrR s m args below meth c H locs 0 0 (MQ below (WPost D tA n0 o bs adr (WQ mB as k)) args s 100 12000 (fun q => n0 ≤ q)) (F0 m pc ls st0) := by
  rcases hsim with hs1 | ⟨z, hz, Xp, hT, hX⟩
  · refine l_call X hw hL hs hh hS hls hb hn ⟨by show dM mA + 1 ≤ 100; omega, by show 49 + 64 * dM mA ≤ 12000; omega⟩ ⟨Nat.zero_le _, Nat.zero_le _⟩ (by simp [Value.category]) hst d0 hs1 (fun v M1 H1 locs1 hv hh1 hS1 => ?_)
    obtain ⟨x, rfl, hx, hB⟩ := hv
    show W p l e wrR s m args below meth c H1 locs1 0 0 _ (F0 m (pc + 3) ls [.int (iN x), .int 0, .ref o])
    refine lv_i2l X.1 X.2.1 d1 rfl ?_
    refine l_out X hL hs hh1 hS1 d2 (fun H2 locs2 hh2 hS2 => ?_)
    refine lv_goto X.1 X.2.1 d3 ht ?_
    refine lv_iconst (v := iN 0) X.1 X.2.1 d4 (by decide) ?_
    refine wr_fin (r := 0) (x := x) X hret hlk ⟨⟨inR_0, hx⟩, hB.mono (fun y M2 w => ⟨w.2.1, fun _ => w.1, w.2.2⟩)⟩ (fun _ => ?_) hh2 hS2 (by omega) (by omega) d5
    simp [vp_updL]
  · obtain ⟨n, hn4, hC⟩ := callX_of hw.2.2.2 ho (show ((.inr 0 : AV) :: as).length ≤ lM mA from hlm) hT
    refine l_throw X hw hL hs hh hS hls hb hn hn4 ⟨by show dM mA + 7 ≤ 100; omega, by show 949 + 64 * dM mA ≤ 12000; omega⟩ ⟨by decide, by decide⟩ hfl (by simp [Value.category]) hst d0 hC (fun q0 M1 H1 locs1 q9 ce hXp hh1 hS1 h1 h2 h3 => ?_)
    obtain ⟨rfl, hB⟩ := hX q0 M1 hXp
    refine hcat z hz H1 locs1 q9 ce h1 h2 h3 (fun pcE ls' dE => ?_)
    refine wr_fin (r := z.2) (x := 0) X hret hlk ⟨⟨(hr0 z hz).2, inR_0⟩, hB.mono (fun y M2 w => ⟨w.1, fun h => absurd h (hr0 z hz).1, w.2⟩)⟩ (fun h => absurd h (hr0 z hz).1) hh1 hS1 (by omega) (by omega) dE
end L4
theorem wr_of {y : MethodName} {cc : ByteArray} {nL : Nat} {hh : List (Nat × Nat × Nat × Nat)} {as : List AV} {M : Mm} {Qw : Int → Int → Mm → Prop} (hpl : plainName y.cls = true) (hy : y.cls = lwN) (hnl : ∀ (adr : Nat → Nat) (o : Nat), (lg_sl ((.ref (adr 0) : Value) :: (as.map (cvA adr) ++ [.ref o]))).length ≤ nL)
    (h : ∀ (p : Program) (l : Launch) (e : Env) (s : State) (m : MethodId) (args : Array Value) (below : List Frame) (meth : Method) (c : Code) (D : va_G) (tA : Nat → ClassId) (n0 o bs : Nat) (adr adV : Nat → Nat) (f : Nat → Int64) (ls : Array Slot), l.stackTraces = false → LM n0 o bs adr → LX p s m args c nL cc → LSt D tA n0 adr adV s s.heap → LH D tA n0 o bs adr M f s.heap → c.exceptionTable.toList = tableOf hh → meth.sig.returnType = some .int → meth.locks = false → lv_has ls nL (lv_args 0 (.ref (adr 0) :: (as.map (cvA adr) ++ [.ref o]))) →
      W p l e wrR s m args below meth c s.heap [] 0 0 (MQ below (WPost D tA n0 o bs adr Qw) args s 100 12000 (fun q => n0 ≤ q)) (F0 m 0 ls [])) : WrC y cc nL hh as M Qw := by
  intro l hfl D tA n0 o bs adr adV hL
  refine va_MetW (hh := hh) (cc := cc) (maxL := nL) (ret := some .int) hpl rfl ?_
  intro p e s m args below meth c s₁ B hml hv
  obtain ⟨rfl, hs, f, hH⟩ := hv
  have hts := atoms_spec (ws := Cond.codeWith y cc nL (some .int) hh :: gW) B.pre
  have hown : s.vm.findClass lwN = some m.cls := by rw [← hy]; exact findClass_of_methodNamed B.named
  rw [lg_entry_eq]
  have hl := lv_entry ((.ref (adr 0) : Value) :: (as.map (cvA adr) ++ [.ref o])) (n := nL) (hnl adr o)
  exact h p l e s m _ below meth c D tA n0 o bs adr adV f _ hfl hL ⟨B.exec, B.bytes, hml, hown, fun w hw => hts w (List.mem_cons_of_mem _ hw)⟩ hs hH (vx_table (x := y) B (hts _ List.mem_cons_self)) B.returns B.notSynchronized hl
