/-! THE LAW, 1: its world; calls out of the law and out of its wrappers. -/
theorem excD_face : ∀ w ∈ excD, w.keepsFace = true := by decide +kernel
theorem Dcl.warm {s U : State} (hW : s.WarmedH U.vm) (h : Dcl s) : Dcl U := fun w hw =>
  va_tabs (excD_ot w hw) (show (s.setVm U.vm).vm = U.vm from rfl) (Cond.before_shiftedFace (State.Shifted.of_warmed hW) w (excD_face w hw) (h w hw))
theorem Dcl.same {u U : State} (hv : u.vm = U.vm) (h : Dcl u) : Dcl U := fun w hw => va_tabs (excD_ot w hw) hv (h w hw)
/-- the addresses: all behind n0; out's cell o, the builder's bs, apart from all of the memory's cells -/
def LM (n0 o bs : Nat) (adr : Nat → Nat) : Prop := (n0 ≤ o ∧ n0 ≤ bs ∧ o ≠ bs) ∧ (∀ a, a < NN → n0 ≤ adr a ∧ adr a ≠ o ∧ adr a ≠ bs) ∧ (∀ i j, i < NN → j < NN → adr i = adr j → i = j) ∧ bs = adr 198
/-- the digits' tables of java.lang.Integer -/
def DG (A : Nat → Prop) (U : State) (H : Heap) : Prop := ∃ d1 d2 : Nat, (va_Z "java/lang/Integer" "DigitOnes" "[B" (.ref d1) A U H ∧ va_T .byte d1 100 (fun j => .int (iN ((j % 10 + 48 : Nat) : Int))) A U H) ∧ va_Z "java/lang/Integer" "DigitTens" "[B" (.ref d2) A U H ∧ va_T .byte d2 100 (fun j => .int (iN ((j / 10 + 48 : Nat) : Int))) A U H
theorem DG.moved {A : Nat → Prop} {u U : State} {H : Heap} (hvm : u.vm.Alike U.vm) (h : DG A u H) : DG A U H := by
  obtain ⟨d1, d2, ⟨a, b⟩, c, d⟩ := h
  exact ⟨d1, d2, ⟨va_Z.moved hvm a, va_T.moved hvm b⟩, va_Z.moved hvm c, va_T.moved hvm d⟩
theorem DG.kept {A : Nat → Prop} {U : State} {H H1 : Heap} (h : DG A U H) (hq : ∀ a : Nat, a < H.size → ¬ A a → H1[a]? = H[a]?) : DG A U H1 := by
  obtain ⟨d1, d2, ⟨a, b⟩, c, d⟩ := h
  exact ⟨d1, d2, ⟨a.kept hq, b.kept hq⟩, c.kept hq, d.kept hq⟩
theorem DG.narrow {A B : Nat → Prop} {U : State} {H : Heap} (h : DG A U H) (hAB : ∀ q, B q → A q) : DG B U H := by
  obtain ⟨d1, d2, ⟨a, b⟩, c, d⟩ := h
  exact ⟨d1, d2, ⟨a.narrow hAB, b.narrow hAB⟩, c.narrow hAB, d.narrow hAB⟩
/-- what stands in the tables, and still in the heap -/
def LSt (D : va_G) (tA : Nat → ClassId) (n0 : Nat) (adr adV : Nat → Nat) (U : State) (H : Heap) : Prop :=
  (va_K D clA (tysA tA) U ∧ va_K D clA [(tA 4, .byte), (tA 5, .long)] U) ∧ Stc adr adV (fun q => n0 ≤ q) U H ∧ Strs adr U ∧ Dcl U ∧ va_Nc (excN 1) (excN 0) U ∧ DG (fun q => n0 ≤ q) U H
/-- signs: the bytes of the builder -/
def tOk (T : Nat → Int) : Prop := ∀ j, 0 ≤ T j ∧ T j ≤ 127
def cOk (cap : Nat) : Prop := cap = 16 ∨ cap = 34 ∨ cap = 70 ∨ cap = 142
def bObj (bb cnt : Nat) (ml : Int32) : va_E := .inr (13, [.ref bb, .int (iN 0), .int ml, .int (iN (cnt : Int))])
def bByt (tA : Nat → ClassId) (cap : Nat) (T : Nat → Int) : va_E := .inl (tA 4, (cap, .inl (fun j => iN (T j))))
/-- the builder and its bytes -/
def LB (D : va_G) (tA : Nat → ClassId) (n0 o bs : Nat) (adr : Nat → Nat) (H : Heap) : Prop := ∃ (bb cap cnt : Nat) (ml : Int32) (T : Nat → Int), (n0 ≤ bb ∧ bb ≠ o ∧ bb ≠ bs ∧ ∀ a, a < NN → bb ≠ adr a) ∧ (cOk cap ∧ cnt ≤ cap ∧ tOk T) ∧
  va_at D clA (bs, bObj bb cnt ml) H ∧ va_at D clA (bb, bByt tA cap T) H
/-- the law's world in the heap H: the memory M, out's number f 0, the builder -/
def LH (D : va_G) (tA : Nat → ClassId) (n0 o bs : Nat) (adr : Nat → Nat) (M : Mm) (f : Nat → Int64) (H : Heap) : Prop := n0 ≤ H.size ∧ va_P D clA (wsA tA adr M) H ∧ va_at D clA (o, .inl (tA 5, (1, .inr (.inl f)))) H ∧ LB D tA n0 o bs adr H
section L1
variable {D : va_G} {tA : Nat → ClassId} {n0 o bs sz : Nat} {adr adV : Nat → Nat} {M M' : Mm} {f f' : Nat → Int64} {H H1 : Heap} {locs : List Loc} {s U : State}
theorem LM.sub (h : LM n0 o bs adr) (hz : n0 ≤ sz) : ∀ q, AA adr sz q → n0 ≤ q := fun q hq => by
  rcases hq with ⟨a, ha, rfl⟩ | hq
  · exact (h.2.1 a ha).1
  · exact Nat.le_trans hz hq
theorem ws_el {k : Nat} {q : Nat × va_E} (hk : (wsA tA adr M)[k]? = some q) : k < NN ∧ q.1 = adr k := by
  have hlt : k < NN := by
    obtain ⟨h, -⟩ := List.getElem?_eq_some_iff.mp hk
    rw [wsA_len] at h
    exact h
  rw [wsA_at hlt] at hk
  exact ⟨hlt, by rw [← Option.some.inj hk]⟩
theorem LM.dd (h : LM n0 o bs adr) : va_D (AA adr sz) (wsA tA adr M) := by
  refine ⟨fun i j p q hi hj e => ?_, fun k q hk => .inl ⟨k, (ws_el hk).1, (ws_el hk).2⟩⟩
  rw [(ws_el hi).2, (ws_el hj).2] at e
  exact h.2.2.1 i j (ws_el hi).1 (ws_el hj).1 e
theorem LSt.now (h : LSt D tA n0 adr adV s s.heap) (hS : va_S (fun q => n0 ≤ q) s.heap H locs) (hW : s.WarmedH U.vm) : LSt D tA n0 adr adV U H :=
  ⟨⟨va_K.moved hW.alike h.1.1, va_K.moved hW.alike h.1.2⟩, Stc.moved hW.alike (h.2.1.kept hS.2.1), h.2.2.1.warm hW, h.2.2.2.1.warm hW, va_Nc.moved hW.alike h.2.2.2.2.1, (h.2.2.2.2.2.kept hS.2.1).moved hW.alike⟩
theorem LSt.same {u : State} (hv : u.vm = U.vm) (h : LSt D tA n0 adr adV u H) : LSt D tA n0 adr adV U H := by
  have e : u.vm.Alike U.vm := by rw [hv]; exact Vm.Alike.refl _
  exact ⟨⟨va_K.moved e h.1.1, va_K.moved e h.1.2⟩, Stc.moved e h.2.1, h.2.2.1.same hv.symm, h.2.2.2.1.same hv, va_Nc.moved e h.2.2.2.2.1, h.2.2.2.2.2.moved e⟩
theorem lw_Wld (hm : LM n0 o bs adr) (hs : LSt D tA n0 adr adV U H) (hh : LH D tA n0 o bs adr M f H) (hU : U.heap = H) : Wld D tA adr adV M H.size U := by
  refine ⟨by rw [hU], by rw [hU]; exact hh.2.1, hs.1.1, hm.dd, ?_, hs.2.2.1⟩
  rw [hU]
  exact hs.2.1.narrow (hm.sub hh.1)
theorem l_keep (hm : LM n0 o bs adr) (hh : LH D tA n0 o bs adr M f H) (hz : H.size ≤ H1.size) (hk : ∀ q : Nat, q < H.size → ¬ AA adr H.size q → H1[q]? = H[q]?) (hP : va_P D clA (wsA tA adr M') H1) : LH D tA n0 o bs adr M' f H1 := by
  obtain ⟨h1, h2, h3, bb, cap, cnt, ml, fb, ⟨b1, b2, b3, b4⟩, hc, h4, h5⟩ := hh
  have hn : ∀ q : Nat, q < H.size → (∀ a, a < NN → adr a ≠ q) → ¬ AA adr H.size q := by
    rintro q hq hne (⟨a, ha, rfl⟩ | hge)
    · exact hne a ha rfl
    · omega
  have l3 : o < H.size := h3.lt
  have l4 : bs < H.size := h4.lt
  have l5 : bb < H.size := h5.lt
  exact ⟨Nat.le_trans h1 hz, hP, h3.kept (hk o l3 (hn o l3 (fun a ha => (hm.2.1 a ha).2.1))), bb, cap, cnt, ml, fb, ⟨b1, b2, b3, b4⟩, hc, h4.kept (hk bs l4 (hn bs l4 (fun a ha => (hm.2.1 a ha).2.2))), h5.kept (hk bb l5 (hn bb l5 (fun a ha e => b4 a ha e.symm)))⟩
theorem vS_app {H0 : Heap} {A A1 : Nat → Prop} {L : List Loc} (hS : va_S A H0 H locs) (hz : H.size ≤ H1.size) (hk : ∀ q : Nat, q < H.size → ¬ A1 q → H1[q]? = H[q]?) (hsub : ∀ q, A1 q → A q) (hL : ∀ q ∈ L, A q.base) : va_S A H0 H1 (locs ++ L) := by
  refine ⟨Nat.le_trans hS.1 hz, fun q h1 h2 => ?_, fun q hq => ?_⟩
  · rw [hk q (Nat.lt_of_lt_of_le h1 hS.1) (fun z => h2 (hsub q z))]
    exact hS.2.1 q h1 h2
  · rcases List.mem_append.mp hq with h | h
    · exact hS.2.2 q h
    · exact hL q h
theorem inR_ti (x : Int32) : inR x.toInt := ⟨Int32.le_toInt x, by have := Int32.toInt_lt x; omega⟩
end L1
def lwN : String := "RingDaterLaw"
section L2
variable {p : Program} {l : Launch} {e : Env} {R : Room} {s : State} {m : MethodId} {args : Array Value} {below : List Frame} {meth : Method} {c : Code} {Q : State → Prop}
variable {D : va_G} {tA : Nat → ClassId} {n0 o bs : Nat} {adr adV : Nat → Nat} {M : Mm} {f : Nat → Int64} {H : Heap} {locs : List Loc} {cells slots pc : Nat} {ls : Array Slot} {rest st0 : List Value} {nL : Nat} {cc : ByteArray}
/-- a method of the law's class, in its run -/
def LX (p : Program) (s : State) (m : MethodId) (args : Array Value) (c : Code) (nL : Nat) (cc : ByteArray) : Prop := p.tables.exec = Jvm.exec ∧ c.code = cc ∧ c.maxLocals = nL ∧ s.vm.findClass lwN = some m.cls ∧ ∀ w ∈ gW, w.before args s = true
/-- the words of a call of method q at the pool's index -/
def LWd (idx q : Nat) : Prop := (Cond.methodLink lwN idx (yM q) ∈ gW ∧ Cond.instanceMethod (yM q) ∈ gW) ∧ (Cond.selects (yM q).cls (yM q) (yM q) ∈ gW ∧ Cond.initialized (yM q).cls ∈ gW) ∧ (parseMethodDescriptor (yM q).desc).map (fun d => d.parameters.length + 1) = some (nM q) ∧ q < mtN
def LV (n0 : Nat) (s : State) (H : Heap) (locs : List Loc) : Prop := va_S (fun q => n0 ≤ q) s.heap H locs
theorem l_after {a : Array Value} {Qc : Option AV → Mm → Prop} (hm : LM n0 o bs adr) (hh : LH D tA n0 o bs adr M f H) (hS : LV n0 s H locs)
    (hr : va_Run p l e R s m args below meth c H locs cells slots 0 0 (F0 m pc ls st0) rest (Qm D tA adr Qc (AA adr H.size) a) (AA adr H.size))
    (hk : ∀ v M' H1 locs1, Qc v M' → LH D tA n0 o bs adr M' f H1 → LV n0 s H1 locs1 → W p l e R s m args below meth c H1 locs1 cells slots Q (F0 m (pc + 3) ls ((v.map (cvA adr)).toList ++ rest))) : W p l e R s m args below meth c H locs cells slots Q (F0 m pc ls st0) := by
  intro T hT X
  obtain ⟨v, st₀, t, T', L, h0, X', hL, e1, e2, ⟨⟨v', M', hq, hv, hP, hD⟩, hz, hkk⟩, st⟩ := hr T hT X
  rw [h0] at hz hkk hD
  have hv' : v = v'.map (cvA adr) := by cases hv; rfl
  subst hv'
  have hz1 : H.size ≤ T'.heap.size := by rw [e1]; exact hz
  have hk1 : ∀ q : Nat, q < H.size → ¬ AA adr H.size q → T'.heap[q]? = H[q]? := fun q h1 h2 => by rw [e1]; exact hkk q h1 h2
  have K := hk v' M' T'.heap (locs ++ L) hq (l_keep hm hh hz1 hk1 (by rw [e1]; exact hP)) (vS_app hS hz1 hk1 (hm.sub hh.1) (fun q hq => hm.sub hh.1 _ (hL q hq)))
  obtain ⟨t2, a1, b1⟩ := K T' rfl X'
  exact ⟨t2, st t2 a1, b1⟩
theorem l_recv (hs : LSt D tA n0 adr adV s s.heap) (hh : LH D tA n0 o bs adr M f H) {b q : Nat} (hq : q < mtN) (hb : kc (lay b) (oM q)) : ∃ cellB : Cell, H[adr b]? = some cellB ∧ cellB.vm.isStatics = false ∧ s.vm.findClass (yM q).cls = some cellB.cls := by
  obtain ⟨m1, m2⟩ := meth_el hq
  simp only [okM, Bool.and_eq_true, decide_eq_true_eq] at m2
  obtain ⟨⟨⟨⟨⟨⟨-, hpl⟩, hcls⟩, hn1⟩, hn2⟩, hl30⟩, -⟩ := m2
  rw [hcls]
  unfold kc at hb
  split at hb
  · rename_i c' fs hlay
    subst hb
    have hlt := lay_ok (lay_lt (a := b) (by rw [hlay]; intro n q; cases q))
    simp only [okL, hlay, Bool.and_eq_true, decide_eq_true_eq] at hlt
    exact va_recv hs.1.1 hh.2.1 (cls_el hlt.1).1 (ws_obj hlay)
  · exact hb.elim
theorem l_sig {idx q : Nat} {As : List AV} (hw : LWd idx q) (hn : As.length + 1 = nM q) : (yM q).cls ≠ "java/lang/invoke/MethodHandle" ∧ (yM q).cls ≠ "java/lang/invoke/VarHandle" ∧ (parseMethodDescriptor (yM q).desc).map (fun d => d.parameters.length) = some As.length := by
  obtain ⟨m1, m2⟩ := meth_el hw.2.2.2
  simp only [okM, Bool.and_eq_true, decide_eq_true_eq] at m2
  obtain ⟨⟨⟨⟨⟨⟨-, hpl⟩, hcls⟩, hn1⟩, hn2⟩, hl30⟩, -⟩ := m2
  have w4 := hw.2.2.1
  refine ⟨hn1, hn2, ?_⟩
  cases hp : parseMethodDescriptor (yM q).desc with
  | none => rw [hp] at w4; cases w4
  | some d =>
    rw [hp] at w4
    have : d.parameters.length + 1 = nM q := Option.some.inj w4
    simp only [Option.map_some]
    congr 1
    omega
theorem l_l30 {q : Nat} (hq : q < mtN) : lM q ≤ 30 := by
  obtain ⟨m1, m2⟩ := meth_el hq
  simp only [okM, Bool.and_eq_true, decide_eq_true_eq] at m2
  exact m2.1.2
/-- a call of a method of the class or of the reference -/
theorem l_call {idx q b : Nat} {As : List AV} {Qc : Option AV → Mm → Prop} (X : LX p s m args c nL cc) (hw : LWd idx q) (hm : LM n0 o bs adr) (hs : LSt D tA n0 adr adV s s.heap) (hh : LH D tA n0 o bs adr M f H) (hS : LV n0 s H locs) (hls : ls.size = nL) (hb : kc (lay b) (oM q)) (hn : As.length + 1 = nM q) (hR : dM q + 1 ≤ R.frames ∧ 49 + 64 * dM q ≤ R.locals) (hc : cells ≤ R.cells ∧ slots ≤ R.slots)
    (hrest : (rest.map fun v => v.category).sum ≤ 8) (hst : st0 = (As.map (cvA adr)).reverse ++ .ref (adr b) :: rest) (hdg : decode cc pc = .ok (.invokevirtual idx, 3)) (hC : CallP q (.inr b :: As) M Qc)
    (hk : ∀ v M' H1 locs1, Qc v M' → LH D tA n0 o bs adr M' f H1 → LV n0 s H1 locs1 → W p l e R s m args below meth c H1 locs1 cells slots Q (F0 m (pc + 3) ls ((v.map (cvA adr)).toList ++ rest))) : W p l e R s m args below meth c H locs cells slots Q (F0 m pc ls st0) := by
  obtain ⟨hx, hb', hml, hown, hts⟩ := X
  have hq := hw.2.2.2
  have h30 := l_l30 hq
  refine l_after (a := (Value.ref (adr b) :: As.map (cvA adr)).toArray) (Qc := Qc) hm hh hS ?_ hk
  refine va_runV (own := lwN) (Ts := gW) (nL := nL) (As := As.map (cvA adr)) (C := (yM q).cls) (n := As.length) (bytes := cM q) (maxL := lM q) (ret := rM q) ⟨hx, hb', hml, hown, hts⟩ (hC l D tA adr adV H.size)
    ⟨callB_of As.length hts (wM_good hq) rfl rfl rfl (hts _ hw.2.1.2) (hts _ hw.1.1) (l_sig hw hn) ⟨hR.1, ?_⟩, hts _ hw.1.2, hts _ hw.2.1.1⟩
    ⟨Wld.blind _, l_recv hs hh hq hb, fun U hU hW => ⟨by simp [cvA], ?_⟩⟩ rfl (by simp) hls hst (lv_room (pc := pc) (ls := ls) (rest := st0) hrest) hdg ⟨by omega, by omega⟩
  · show 8 + (lM q + 11) + 64 * dM q ≤ R.locals
    omega
  · rw [← hU]
    exact lw_Wld hm (hU ▸ hs.now hS hW) (hU ▸ hh) rfl
end L2

/-! THE LAW, 2: its wrappers: a call of the class, its answer into out's place, or a code where it throws. -/
section L3
variable {p : Program} {l : Launch} {e : Env} {R : Room} {s : State} {m : MethodId} {args : Array Value} {below : List Frame} {meth : Method} {c : Code} {Q : State → Prop}
variable {D : va_G} {tA : Nat → ClassId} {n0 o bs : Nat} {adr adV : Nat → Nat} {M : Mm} {f : Nat → Int64} {H : Heap} {locs : List Loc} {cells slots pc : Nat} {ls : Array Slot} {rest st0 : List Value} {nL : Nat} {cc : ByteArray}
theorem va_P1 {cl : List vw_C} {q : Nat × va_E} {H : Heap} (h : va_at D cl q H) : va_P D cl [q] H := fun k y hy => by
  have hz : k < 1 := (List.getElem?_eq_some_iff.mp hy).1
  rw [show k = 0 by omega] at hy
  cases hy
  exact h
/-- out[0] = v -/
theorem l_out {v : Int64} (X : LX p s m args c nL cc) (hm : LM n0 o bs adr) (hs : LSt D tA n0 adr adV s s.heap) (hh : LH D tA n0 o bs adr M f H) (hS : LV n0 s H locs) (hdg : decode cc pc = .ok (.lastore, 1))
    (kk : ∀ H1 locs1, LH D tA n0 o bs adr M (vp_updL f 0 v) H1 → LV n0 s H1 locs1 → W p l e R s m args below meth c H1 locs1 cells slots Q (F0 m (pc + 1) ls rest)) : W p l e R s m args below meth c H locs cells slots Q (F0 m pc ls (.long v :: .int 0 :: .ref o :: rest)) := by
  obtain ⟨h1, h2, h3, bb, cap, cnt, ml, fb, ⟨b1, b2, b3, b4⟩, hc, h4, h5⟩ := hh
  refine W.last X.1 X.2.1 h3 ((hs.1.2.2 1 _ rfl).1 1 (fun j => .long (f j))) (fun q => by cases q) (by show ¬ ((0 : Int32) < 0 ∨ (arrV _ _ _).slots.size ≤ _); rw [arrV_size]; show ¬ ((0 : Int32) < 0 ∨ (1 : Nat) ≤ (0 : Int32).toNatClampNeg); decide) rfl rfl hdg fun H1 e1 z oq => ?_
  refine kk H1 _ ⟨by rw [z]; exact h1, h2.kept (fun k q hk => oq _ ?_), ?_, bb, cap, cnt, ml, fb, ⟨b1, b2, b3, b4⟩, hc, h4.kept (oq _ (fun e => hm.1.2.2 e.symm)), h5.kept (oq _ b2)⟩ (va_S.put hS z oq hm.1.1)
  · rw [(ws_el hk).2]
    exact (hm.2.1 k (ws_el hk).1).2.1
  · show H1[o]? = some (vp_cell _ _)
    rw [e1, vp_cell_l, vp_cell_l, arrV_store]
    congr 2
    funext q
    by_cases hq : q = (0 : Int32).toNatClampNeg
    · subst hq
      simp [updV, vp_updL]
    · have hq' : ¬ q = 0 := hq
      simp [updV, vp_updL, hq']
/-- out[0] -/
theorem l_in (X : LX p s m args c nL cc) (hs : LSt D tA n0 adr adV s s.heap) (hh : LH D tA n0 o bs adr M f H) (hdg : decode cc pc = .ok (.laload, 1))
    (kk : W p l e R s m args below meth c H locs cells slots Q (F0 m (pc + 1) ls (.long (f 0) :: rest))) : W p l e R s m args below meth c H locs cells slots Q (F0 m pc ls (.int 0 :: .ref o :: rest)) :=
  va_lald X.1 X.2.1 hs.1.2 (va_P1 hh.2.2.1) 0 1 rfl rfl (by rw [vp_in_iff]; decide) hdg kk
theorem WldD.blind {M : Mm} {sz : Nat} (as : List AV) : FrameBlind (va_Pc (as.map (cvA adr)) (fun U => Wld D tA adr adV M sz U ∧ Dcl U)) := by
  intro a U g mk ⟨h, h1, h2⟩
  have h3 := Wld.blind (D := D) (tA := tA) (adr := adr) (adV := adV) (M := M) (sz := sz) as a U g mk ⟨h, h1⟩
  exact ⟨h3.1, h3.2, Dcl.same (u := U) (U := U.calling g mk a) rfl h2⟩
/-- a call of the class that throws -/
theorem l_throw {idx q b n : Nat} {As : List AV} {Xp : Nat → Mm → Prop} (X : LX p s m args c nL cc) (hw : LWd idx q) (hm : LM n0 o bs adr) (hs : LSt D tA n0 adr adV s s.heap) (hh : LH D tA n0 o bs adr M f H) (hS : LV n0 s H locs) (hls : ls.size = nL) (hb : kc (lay b) (oM q)) (hn : As.length + 1 = nM q) (hn4 : n ≤ 400) (hR : dM q + 7 ≤ R.frames ∧ 949 + 64 * dM q ≤ R.locals) (hc : cells + 1 ≤ R.cells ∧ slots + 6 ≤ R.slots) (hfl : l.stackTraces = false)
    (hrest : (rest.map fun v => v.category).sum ≤ 8) (hst : st0 = (As.map (cvA adr)).reverse ++ .ref (adr b) :: rest) (hdg : decode cc pc = .ok (.invokevirtual idx, 3)) (hC : CallX q n (.inr b :: As) M Xp)
    (kx : ∀ q0 M' H1 locs1 q9 ce, Xp q0 M' → LH D tA n0 o bs adr M' f H1 → LV n0 s H1 locs1 → H1[q9]? = some ce → ce.vm = .none → s.vm.findClass (excN q0) = some ce.cls → vx_W p l e R s m args below meth c H1 locs1 (cells + 1) (slots + 6) Q (F0 m pc ls rest) q9) : W p l e R s m args below meth c H locs cells slots Q (F0 m pc ls st0) := by
  obtain ⟨hx, hb', hml, hown, hts⟩ := X
  have hq := hw.2.2.2
  have h30 := l_l30 hq
  have hr := vx_runV (p := p) (l := l) (e := e) (R := R) (s := s) (m := m) (args := args) (below := below) (meth := meth) (c := c) (H := H) (locs := locs) (cells := cells) (slots := slots) (b := adr b) (g := F0 m pc ls st0) (rest := rest) (own := lwN) (Ts := gW) (nL := nL) (As := As.map (cvA adr)) (C := (yM q).cls) (n := As.length) (bytes := cM q) (maxL := lM q) (ret := rM q) ⟨hx, hb', hml, hown, hts⟩ (hC l hfl D tA adr adV H.size)
    ⟨callB_of As.length hts (wM_good hq) rfl rfl rfl (hts _ hw.2.1.2) (hts _ hw.1.1) (l_sig hw hn) ⟨by show dM q + 6 + 1 ≤ R.frames; omega, by show 8 + (lM q + 11) + (64 * dM q + 2 * n + 100) ≤ R.locals; omega⟩, hts _ hw.1.2, hts _ hw.2.1.1⟩
    ⟨WldD.blind _, l_recv hs hh hq hb, fun U hU hW => ⟨by simp [cvA], by rw [← hU]; exact lw_Wld hm (hU ▸ hs.now hS hW) (hU ▸ hh) rfl, hs.2.2.2.1.warm hW⟩⟩ rfl (by simp) hls hst (lv_room (pc := pc) (ls := ls) (rest := st0) hrest) hdg hc
  intro T hT X
  rcases hr T hT X with ⟨v, st₀, t, T', L, h0, X', hL, e1, e2, hF, st⟩ | ⟨q9, st₀, t, T', L, E, ce, h0, X', hL, e1, e2, ⟨q0, M', hX, rfl, hP, hD, hz, hkk⟩, hce, hcv, hcl, st⟩
  · exact hF.elim
  · rw [h0] at hz hkk hD
    have hz1 : H.size ≤ T'.heap.size := by rw [e1]; exact hz
    have hk1 : ∀ q : Nat, q < H.size → ¬ AA adr H.size q → T'.heap[q]? = H[q]? := fun q h1 h2 => by rw [e1]; exact hkk q h1 h2
    have K := kx q0 M' T'.heap (locs ++ L) q9 ce hX (l_keep hm hh hz1 hk1 (by rw [e1]; exact hP)) (vS_app hS hz1 hk1 (hm.sub hh.1) (fun q hq => hm.sub hh.1 _ (hL q hq))) (by rw [e1]; exact hce) hcv hcl
    obtain ⟨t2, a1, b1⟩ := K T' rfl X'
    exact ⟨t2, st.trans a1, b1⟩
end L3
/-- a wrapper: r, and x where r is 0; then the reference's call says the same -/
def WQ (mB : Nat) (as : List AV) (k : Nat) (r x : Int) (M1 : Mm) : Prop := (inR r ∧ inR x) ∧ CallI mB (.inr 154 :: as) M1 (fun y M2 => M2 154 1 = r ∧ (r = 0 → x = y) ∧ Rel (k + 1) M2)
def SimW (hm : List (Nat × Int)) (mA mB : Nat) (as : List AV) (k : Nat) (M : Mm) : Prop := Sim mA mB as k M ∨ ∃ z ∈ hm, SimX mA mB as k z.1 z.2 M
def WPost (D : va_G) (tA : Nat → ClassId) (n0 o bs : Nat) (adr : Nat → Nat) (Qw : Int → Int → Mm → Prop) : Array Value → State → Outcome → State → Prop := fun _ st oc t =>
  (∃ (r x : Int) (M' : Mm) (f' : Nat → Int64), oc = .returned (some (.int (iN r))) ∧ Qw r x M' ∧ (r = 0 → f' 0 = (iN x).toInt64) ∧ LH D tA n0 o bs adr M' f' t.heap) ∧ va_F (fun q => n0 ≤ q) st t
def WPre (D : va_G) (tA : Nat → ClassId) (n0 o bs : Nat) (adr adV : Nat → Nat) (M : Mm) (U : State) : Prop := LSt D tA n0 adr adV U U.heap ∧ ∃ f, LH D tA n0 o bs adr M f U.heap
def wrR : Room := { frames := 100, cells := 100, slots := 12000, locals := 12000 }
/-- a wrapper's contract -/
def WrC (y : MethodName) (cc : ByteArray) (nL : Nat) (hh : List (Nat × Nat × Nat × Nat)) (as : List AV) (M : Mm) (Qw : Int → Int → Mm → Prop) : Prop := ∀ (l : Launch), l.stackTraces = false → ∀ (D : va_G) (tA : Nat → ClassId) (n0 o bs : Nat) (adr adV : Nat → Nat), LM n0 o bs adr →
  Met l y (Cond.codeWith y cc nL (some .int) hh :: gW) wrR (va_Pc (.ref (adr 0) :: (as.map (cvA adr) ++ [.ref o])) (WPre D tA n0 o bs adr adV M)) (WPost D tA n0 o bs adr Qw) 100 12000 (fun q => n0 ≤ q)
theorem WPre.blind {D : va_G} {tA : Nat → ClassId} {n0 o bs : Nat} {adr adV : Nat → Nat} {M : Mm} {vs : List Value} : FrameBlind (va_Pc vs (WPre D tA n0 o bs adr adV M)) := by
  intro a U g mk ⟨h, h1, f, h2⟩
  exact ⟨h, LSt.same (u := U) (U := U.calling g mk a) rfl h1, f, h2⟩
section L4
variable {p : Program} {l : Launch} {e : Env} {s : State} {m : MethodId} {args : Array Value} {below : List Frame} {meth : Method} {c : Code}
variable {D : va_G} {tA : Nat → ClassId} {n0 o bs : Nat} {adr adV : Nat → Nat} {M : Mm} {f : Nat → Int64} {H : Heap} {locs : List Loc} {cells slots pc : Nat} {ls : Array Slot} {rest st0 : List Value} {nL : Nat} {cc : ByteArray} {Qw : Int → Int → Mm → Prop}
theorem wr_fin {r x : Int} (X : LX p s m args c nL cc) (hret : meth.sig.returnType = some .int) (hlk : meth.locks = false) (hq : Qw r x M) (hf : r = 0 → f 0 = (iN x).toInt64) (hh : LH D tA n0 o bs adr M f H) (hS : LV n0 s H locs) (hc : cells ≤ 100) (hs : slots ≤ 12000) (hdg : decode cc pc = .ok (.ireturn, 1)) :
    W p l e wrR s m args below meth c H locs cells slots (MQ below (WPost D tA n0 o bs adr Qw) args s 100 12000 (fun q => n0 ≤ q)) (F0 m pc ls [.int (iN r)]) := by
  refine W.widen hc hs (W.iret X.1 X.2.1 hret (fun t ht _ => ⟨⟨r, x, M, f, rfl, hq, hf, by rw [ht]; exact hh⟩, va_S.F hS ht⟩) hS.2.2 hdg hlk)
theorem wr_mid {hm : List (Nat × Int)} {mA mB idx E k : Nat} {off : Int} {as : List AV} (hsim : SimW hm mA mB as k M) (hr0 : ∀ z ∈ hm, z.2 ≠ 0 ∧ inR z.2) (X : LX p s m args c nL cc) (hw : LWd idx mA) (hL : LM n0 o bs adr) (hs : LSt D tA n0 adr adV s s.heap) (hh : LH D tA n0 o bs adr M f H) (hS : LV n0 s H locs) (hls : ls.size = nL) (hb : kc (lay 0) (oM mA)) (hn : as.length + 1 = nM mA) (hR : dM mA ≤ 90) (ho : oM mA < 14) (hlm : as.length + 1 ≤ lM mA) (hfl : l.stackTraces = false)
    (hret : meth.sig.returnType = some .int) (hlk : meth.locks = false) (hst : st0 = (as.map (cvA adr)).reverse ++ [.ref (adr 0), .int 0, .ref o])
    (d0 : decode cc pc = .ok (.invokevirtual idx, 3)) (d1 : decode cc (pc + 3) = .ok (.i2l, 1)) (d2 : decode cc (pc + 4) = .ok (.lastore, 1)) (d3 : decode cc (pc + 5) = .ok (.goto off, 3)) (ht : ((pc + 5 : Nat) : Int) + off = (E : Int)) (d4 : decode cc E = .ok (.iconst 0, 1)) (d5 : decode cc (E + 1) = .ok (.ireturn, 1))
    (hcat : ∀ z ∈ hm, ∀ H1 locs1 q9 ce, H1[q9]? = some ce → ce.vm = .none → s.vm.findClass (excN z.1) = some ce.cls → (∀ pcE ls', decode cc pcE = .ok (.ireturn, 1) → W p l e wrR s m args below meth c H1 locs1 1 6 (MQ below (WPost D tA n0 o bs adr (WQ mB as k)) args s 100 12000 (fun q => n0 ≤ q)) (F0 m pcE ls' [.int (iN z.2)])) →
      vx_W p l e wrR s m args below meth c H1 locs1 1 6 (MQ below (WPost D tA n0 o bs adr (WQ mB as k)) args s 100 12000 (fun q => n0 ≤ q)) (F0 m pc ls [.int 0, .ref o]) q9) :
    W p l e wrR s m args below meth c H locs 0 0 (MQ below (WPost D tA n0 o bs adr (WQ mB as k)) args s 100 12000 (fun q => n0 ≤ q)) (F0 m pc ls st0) := by
  rcases hsim with hs1 | ⟨z, hz, Xp, hT, hX⟩
  · refine l_call X hw hL hs hh hS hls hb hn ⟨by show dM mA + 1 ≤ 100; omega, by show 49 + 64 * dM mA ≤ 12000; omega⟩ ⟨Nat.zero_le _, Nat.zero_le _⟩ (by simp [Value.category]) hst d0 hs1 (fun v M1 H1 locs1 hv hh1 hS1 => ?_)
    obtain ⟨x, rfl, hx, hB⟩ := hv
    show W p l e wrR s m args below meth c H1 locs1 0 0 _ (F0 m (pc + 3) ls [.int (iN x), .int 0, .ref o])
    refine lv_i2l X.1 X.2.1 d1 rfl ?_
    refine l_out X hL hs hh1 hS1 d2 (fun H2 locs2 hh2 hS2 => ?_)
    refine lv_goto X.1 X.2.1 d3 ht ?_
    refine lv_iconst (v := iN 0) X.1 X.2.1 d4 (by decide) ?_
    refine wr_fin (r := 0) (x := x) X hret hlk ⟨⟨inR_0, hx⟩, hB.mono (fun y M2 w => ⟨w.2.1, fun _ => w.1, w.2.2⟩)⟩ (fun _ => ?_) hh2 hS2 (by omega) (by omega) d5
    simp [vp_updL]
  · obtain ⟨n, hn4, hC⟩ := callX_of hw.2.2.2 ho (show ((.inr 0 : AV) :: as).length ≤ lM mA from hlm) hT
    refine l_throw X hw hL hs hh hS hls hb hn hn4 ⟨by show dM mA + 7 ≤ 100; omega, by show 949 + 64 * dM mA ≤ 12000; omega⟩ ⟨by decide, by decide⟩ hfl (by simp [Value.category]) hst d0 hC (fun q0 M1 H1 locs1 q9 ce hXp hh1 hS1 h1 h2 h3 => ?_)
    obtain ⟨rfl, hB⟩ := hX q0 M1 hXp
    refine hcat z hz H1 locs1 q9 ce h1 h2 h3 (fun pcE ls' dE => ?_)
    refine wr_fin (r := z.2) (x := 0) X hret hlk ⟨⟨(hr0 z hz).2, inR_0⟩, hB.mono (fun y M2 w => ⟨w.1, fun h => absurd h (hr0 z hz).1, w.2⟩)⟩ (fun h => absurd h (hr0 z hz).1) hh1 hS1 (by omega) (by omega) dE
end L4
theorem wr_of {y : MethodName} {cc : ByteArray} {nL : Nat} {hh : List (Nat × Nat × Nat × Nat)} {as : List AV} {M : Mm} {Qw : Int → Int → Mm → Prop} (hpl : plainName y.cls = true) (hy : y.cls = lwN) (hnl : ∀ (adr : Nat → Nat) (o : Nat), (lg_sl ((.ref (adr 0) : Value) :: (as.map (cvA adr) ++ [.ref o]))).length ≤ nL)
    (h : ∀ (p : Program) (l : Launch) (e : Env) (s : State) (m : MethodId) (args : Array Value) (below : List Frame) (meth : Method) (c : Code) (D : va_G) (tA : Nat → ClassId) (n0 o bs : Nat) (adr adV : Nat → Nat) (f : Nat → Int64) (ls : Array Slot), l.stackTraces = false → LM n0 o bs adr → LX p s m args c nL cc → LSt D tA n0 adr adV s s.heap → LH D tA n0 o bs adr M f s.heap → c.exceptionTable.toList = tableOf hh → meth.sig.returnType = some .int → meth.locks = false → lv_has ls nL (lv_args 0 (.ref (adr 0) :: (as.map (cvA adr) ++ [.ref o]))) →
      W p l e wrR s m args below meth c s.heap [] 0 0 (MQ below (WPost D tA n0 o bs adr Qw) args s 100 12000 (fun q => n0 ≤ q)) (F0 m 0 ls [])) : WrC y cc nL hh as M Qw := by
  intro l hfl D tA n0 o bs adr adV hL
  refine va_MetW (hh := hh) (cc := cc) (maxL := nL) (ret := some .int) hpl rfl ?_
  intro p e s m args below meth c s₁ B hml hv
  obtain ⟨rfl, hs, f, hH⟩ := hv
  have hts := atoms_spec (ws := Cond.codeWith y cc nL (some .int) hh :: gW) B.pre
  have hown : s.vm.findClass lwN = some m.cls := by rw [← hy]; exact findClass_of_methodNamed B.named
  rw [lg_entry_eq]
  have hl := lv_entry ((.ref (adr 0) : Value) :: (as.map (cvA adr) ++ [.ref o])) (n := nL) (hnl adr o)
  exact h p l e s m _ below meth c D tA n0 o bs adr adV f _ hfl hL ⟨B.exec, B.bytes, hml, hown, fun w hw => hts w (List.mem_cons_of_mem _ hw)⟩ hs hH (vx_table (x := y) B (hts _ List.mem_cons_self)) B.returns B.notSynchronized hl

/-! THE LAW, 3: pieces of its body. -/
section L5
variable {M : Mm}
set_option maxHeartbeats 600000 in
set_option maxRecDepth 20000 in
theorem Mthrown_ok : CallI m_Model_thrown [.inr 154] M (fun x M' => x = M 154 1 ∧ M' = M) := by
  refine callP_of (by decide) (by decide) (Nat.le_of_ble_eq_true rfl) (wpm_of (cuts := []) (by decide) 50 _ _ _ _ ?_)
  rw [show lM m_Model_thrown = 1 from rfl]
  simp (maxSteps := 2000000) only [↓reduceIte, wp_eq, wpd_eq, kont_eq, STP1, STP2, STP3, STP4, STP5, konM_eq, AMK, CZ, Option.map, List.getElem?_cons_zero, List.getElem?_cons_succ, List.mem_cons, List.not_mem_nil, if_false, if_true, Nat.reduceAdd, Nat.reduceLT, Nat.reduceLeDiff, Nat.reduceEqDiff, true_and, and_true, List.length_nil, List.length_cons, or_true, true_or, or_false, false_or, Option.some.injEq, Sum.inl.injEq, Sum.inr.injEq, exists_eq_left', exists_eq_left, Int.reduceLE, Int.reduceLT, Int.reduceNeg, Int.reduceAdd, Int.reduceMul, Int.reduceSub, Int.reduceToNat, inR, Nat.zero_ne_one, false_and, Nat.succ_ne_zero, reduceCtorEq, false_implies, true_implies, not_false_eq_true, not_true_eq_false, Int.reduceEq, KRE, C_Model_thrown, FM]
end L5
theorem simW1 {mA mB k : Nat} {as : List AV} {M : Mm} (h : Sim mA mB as k M ∨ SimX mA mB as k 0 1 M) : SimW [(0, 1)] mA mB as k M := h.elim .inl (fun h => .inr ⟨(0, 1), by simp, h⟩)
theorem simW2 {mA mB k : Nat} {as : List AV} {M : Mm} (h : Sim mA mB as k M ∨ SimX mA mB as k 0 1 M ∨ SimX mA mB as k 1 2 M) : SimW [(0, 1), (1, 2)] mA mB as k M := h.elim .inl (fun h => h.elim (fun h => .inr ⟨(0, 1), by simp, h⟩) (fun h => .inr ⟨(1, 2), by simp, h⟩))
section L6
variable {p : Program} {l : Launch} {e : Env} {s : State} {m : MethodId} {args : Array Value} {below : List Frame} {meth : Method} {c : Code} {Q : State → Prop}
variable {D : va_G} {tA : Nat → ClassId} {n0 o bs b L i : Nat} {xs : Nat → Int32} {adr adV : Nat → Nat} {M : Mm} {f : Nat → Int64} {H : Heap} {locs : List Loc} {cells slots pc : Nat} {ls : Array Slot} {rest st0 : List Value}
/-- what the law's walk stands on -/
def LCx (p : Program) (s : State) (m : MethodId) (args : Array Value) (c : Code) (D : va_G) (tA : Nat → ClassId) (n0 o bs : Nat) (adr adV : Nat → Nat) (b L : Nat) (xs : Nat → Int32) : Prop :=
  LX p s m args c 7 code ∧ LM n0 o bs adr ∧ LSt D tA n0 adr adV s s.heap ∧ va_X b L xs s s.heap ∧ (b < s.heap.size ∧ n0 = s.heap.size) ∧ L ≤ 3072
abbrev lvB (b o : Nat) (adr : Nat → Nat) (i : Nat) : List (Nat × Value) := [(0, .ref b), (1, .ref (adr 0)), (2, .ref (adr 154)), (3, .ref o), (4, .int (iN (i : Int)))]
/-- script[i + j] -/
theorem l_arg {j : Nat} (C : LCx p s m args c D tA n0 o bs adr adV b L xs) (hS : LV n0 s H locs) (hij : i + j < L) (h0 : ls[0]? = some (.val (.ref b))) (h4 : ls[4]? = some (.val (.int (iN (i : Int))))) (dA : argD pc j)
    (kk : W p l e room_1 s m args below meth c H locs cells slots Q (F0 m (pc + 6) ls (.int (iN (xs (i + j)).toInt) :: rest))) : W p l e room_1 s m args below meth c H locs cells slots Q (F0 m pc ls rest) := by
  obtain ⟨X, hL, hs, hX, ⟨hb, hn0⟩, h3⟩ := C
  obtain ⟨d0, d1, d2, d3, d4⟩ := dA
  refine lv_aload_n (i := 0) (x := b) X.1 X.2.1 d0 rfl h0 ?_
  refine lv_iload (x := iN (i : Int)) X.1 X.2.1 d1 h4 ?_
  refine lv_iconst (v := iN (j : Int)) X.1 X.2.1 d2 rfl ?_
  refine lv_iadd X.1 X.2.1 d3 ?_
  rw [iN_add]
  have e1 : (iN ((i : Int) + (j : Int))).toNatClampNeg = i + j := by rw [iN_clamp (by omega) (by omega)]; omega
  refine va_sld (i := iN ((i : Int) + (j : Int))) X.1 X.2.1 hX hb (by show ¬ n0 ≤ b; omega) hS (iN_in (by omega) (by omega) (by omega)) d4 ?_
  rw [e1]
  rw [iN_ti] at kk
  exact kk
def LK (p : Program) (l : Launch) (e : Env) (s : State) (m : MethodId) (args : Array Value) (below : List Frame) (meth : Method) (c : Code) (Q : State → Prop) (D : va_G) (tA : Nat → ClassId) (n0 o bs : Nat) (adr : Nat → Nat) (b i k cells slots : Nat) : Prop :=
  ∀ (M' : Mm) (f' : Nat → Int64) (H' : Heap) (locs' : List Loc) (ls' : Array Slot), Rel (k + 1) M' → LH D tA n0 o bs adr M' f' H' → LV n0 s H' locs' → lv_has ls' 7 (lvB b o adr i) → W p l e room_1 s m args below meth c H' locs' (cells + 100) (slots + 12000) Q (F0 m 1655 ls' [])
/-- behind both calls: the codes are the same; where nothing was thrown the numbers too -/
theorem l_tailW {T : Nat} {off r x y : Int} (C : LCx p s m args c D tA n0 o bs adr adV b L xs) (hw : LWd 77 m_Model_thrown) (hl : lv_has ls 7 ((6, .int (iN y)) :: (5, .int (iN r)) :: lvB b o adr i)) (hr : inR r) (hf : r = 0 → f 0 = (iN x).toInt64) (hxy : r = 0 → x = y) (ht : M 154 1 = r) (hh : LH D tA n0 o bs adr M f H) (hS : LV n0 s H locs) (dT : tailD T off) (hc : cells ≤ 601024 ∧ slots ≤ 7293034)
    (kk : ∀ H1 locs1, LH D tA n0 o bs adr M f H1 → LV n0 s H1 locs1 → W p l e room_1 s m args below meth c H1 locs1 cells slots Q (F0 m 1655 ls [])) : W p l e room_1 s m args below meth c H locs cells slots Q (F0 m T ls []) := by
  obtain ⟨X, hL, hs, hX, hb, h3⟩ := C
  obtain ⟨⟨d0, d1, d4, d6⟩, ⟨d11, d13, d16, d17⟩, ⟨d18, d19, d21, d22⟩, d23, d28, hg⟩ := dT
  refine lv_aload_n (i := 2) (x := adr 154) X.1 X.2.1 d0 rfl (lv_at hl 4 rfl) ?_
  refine l_call (q := m_Model_thrown) (b := 154) (As := []) (rest := []) X hw hL hs hh hS hl.1 (show (12 : Nat) = 12 from rfl) rfl ⟨by decide +kernel, by decide +kernel⟩ hc (by simp) rfl d1 Mthrown_ok (fun v M1 H1 locs1 hv hh1 hS1 => ?_)
  obtain ⟨z, rfl, rfl, rfl⟩ := hv
  show W p l e room_1 s m args below meth c H1 locs1 cells slots Q (F0 m (T + 4) ls [.int (iN (M1 154 1))])
  rw [ht]
  refine lv_iload (x := iN r) X.1 X.2.1 d4 (lv_at hl 1 rfl) ?_
  refine lv_icmp_eq (tgt := T + 11) X.1 X.2.1 d6 (by omega) (fun _ => ?_) (fun z => absurd rfl z)
  refine lv_iload (x := iN r) X.1 X.2.1 d11 (lv_at hl 1 rfl) ?_
  refine lv_if_ne (tgt := T + 28) X.1 X.2.1 d13 (by omega) (fun _ => ?_) (fun z => ?_)
  · exact lv_goto X.1 X.2.1 d28 hg (kk H1 locs1 hh1 hS1)
  · have r0 : r = 0 := (iN_eq hr inR_0).mp z
    refine lv_aload_n (i := 3) (x := o) X.1 X.2.1 d16 rfl (lv_at hl 5 rfl) ?_
    refine lv_iconst (v := 0) X.1 X.2.1 d17 (by decide) ?_
    refine l_in X hs hh1 d18 ?_
    refine lv_iload (x := iN y) X.1 X.2.1 d19 (lv_at hl 0 rfl) ?_
    refine lv_i2l X.1 X.2.1 d21 rfl ?_
    refine W.lcmp X.1 X.2.1 d22 ?_
    rw [hf r0, hxy r0]
    refine lv_if_eq (tgt := T + 28) X.1 X.2.1 d23 (by omega) (fun _ => ?_) (fun z => absurd (by simp [lg_cmp]) z)
    exact lv_goto X.1 X.2.1 d28 hg (kk H1 locs1 hh1 hS1)
/-- the words of a call of a wrapper -/
def LWw (idx : Nat) (y : MethodName) (cc : ByteArray) (nL : Nat) (hh : List (Nat × Nat × Nat × Nat)) (n : Nat) : Prop := (Cond.methodLink lwN idx y ∈ gW ∧ Cond.static y ∈ gW) ∧ (Cond.initialized y.cls ∈ gW ∧ Cond.codeWith y cc nL (some .int) hh ∈ gW) ∧ (y.cls ≠ "java/lang/invoke/MethodHandle" ∧ y.cls ≠ "java/lang/invoke/VarHandle" ∧ (parseMethodDescriptor y.desc).map (fun d => d.parameters.length) = some n) ∧ nL ≤ 10
theorem l_wcall {idx nL2 n : Nat} {y : MethodName} {cc2 : ByteArray} {hh2 : List (Nat × Nat × Nat × Nat)} {as : List AV} {Qw : Int → Int → Mm → Prop} (C : LCx p s m args c D tA n0 o bs adr adV b L xs) (hC : WrC y cc2 nL2 hh2 as M Qw) (hw : LWw idx y cc2 nL2 hh2 n) (hn : as.length + 2 = n) (hfl : l.stackTraces = false) (hh : LH D tA n0 o bs adr M f H) (hS : LV n0 s H locs) (hls : ls.size = 7) (hc : cells + 100 ≤ 601024 ∧ slots + 12000 ≤ 7293034)
    (hst : st0 = .ref o :: ((as.map (cvA adr)).reverse ++ [.ref (adr 0)])) (hdg : decode code pc = .ok (.invokestatic idx, 3))
    (kk : ∀ r x M' f' H1 locs1, Qw r x M' → (r = 0 → f' 0 = (iN x).toInt64) → LH D tA n0 o bs adr M' f' H1 → LV n0 s H1 locs1 → W p l e room_1 s m args below meth c H1 locs1 (cells + 100) (slots + 12000) Q (F0 m (pc + 3) ls [.int (iN r)])) : W p l e room_1 s m args below meth c H locs cells slots Q (F0 m pc ls st0) := by
  obtain ⟨X, hL, hs, hX, hb, h3⟩ := C
  obtain ⟨⟨w1, w2⟩, ⟨w3, w4⟩, w5, h10⟩ := hw
  have hgood : GoodIn gW (va_wsS lwN idx y (Cond.codeWith y cc2 nL2 (some .int) hh2 :: gW)) := by
    intro w hw
    simp only [va_wsS, List.mem_append, List.mem_cons, List.not_mem_nil, or_false] at hw
    have g : w ∈ gW := by
      rcases hw with (rfl | rfl | rfl) | (rfl | hw)
      · exact w1
      · exact w2
      · exact w3
      · exact w4
      · exact hw
    exact ⟨g, good_of_word (List.mem_filter.mp g).2⟩
  have hr := vx_runSW (p := p) (l := l) (e := e) (R := room_1) (s := s) (m := m) (args := args) (below := below) (meth := meth) (c := c) (H := H) (locs := locs) (cells := cells) (slots := slots) (own := lwN) (Ts := gW) (nL := 7) (As := .ref (adr 0) :: (as.map (cvA adr) ++ [.ref o])) (rest := []) (g := F0 m pc ls st0) (n := n) X (hC l hfl D tA n0 o bs adr adV hL)
    (vx_cwSW n X.2.2.2.2 hgood rfl rfl rfl w5 ⟨by show 100 + 1 ≤ 2048; omega, by show 8 + (nL2 + 11) + 12000 ≤ 84000; omega⟩) ⟨WPre.blind, fun U hU hW => ⟨rfl, hU ▸ hs.now hS hW, f, hU ▸ hh⟩⟩ rfl (by simp; omega) hls (by show st0 = _; rw [hst]; simp) (lv_room (pc := pc) (ls := ls) (rest := st0) (by simp)) hdg hc
  intro T hT XX
  obtain ⟨v, st₀, t, T', L2, h0, X', hL2, e1, e2, ⟨⟨r, x, M', f', hv, hq, hf, hh1⟩, hz, hkk⟩, st⟩ := hr T hT XX
  rw [h0] at hz hkk
  cases hv
  have K := kk r x M' f' T'.heap (locs ++ L2) hq hf (by rw [e1]; exact hh1) (vS_app hS (by rw [e1]; exact hz) (fun q h1 h2 => by rw [e1]; exact hkk q h1 h2) (fun q h => h) hL2)
  obtain ⟨t2, a1, b1⟩ := K T' rfl X'
  exact ⟨t2, st t2 a1, b1⟩
end L6

/-! THE BUILDER, 1: its world: the object bs with its bytes bb; contracts of its methods. -/
def tset (T : Nat → Int) (k : Nat) (v : Int) : Nat → Int := fun j => if j = k then v else T j
theorem tOk_set {T : Nat → Int} {k : Nat} {v : Int} (h : tOk T) (h0 : 0 ≤ v) (h1 : v ≤ 127) : tOk (tset T k v) := fun j => by
  unfold tset
  split
  · exact ⟨h0, h1⟩
  · exact h j
theorem upd_tset {T : Nat → Int} {k : Nat} {v : Int} : upd (fun j => iN (T j)) k (iN v) = fun j => iN (tset T k v j) := by
  funext j
  unfold tset
  by_cases h : j = k <;> simp [upd, h]
abbrev BS : Type := Nat × Nat × Nat × Int32 × (Nat → Int)
abbrev xB (x : BS) : Nat := x.1
abbrev xC (x : BS) : Nat := x.2.1
abbrev xN (x : BS) : Nat := x.2.2.1
abbrev xM (x : BS) : Int32 := x.2.2.2.1
abbrev xT (x : BS) : Nat → Int := x.2.2.2.2
def BW (tA : Nat → ClassId) (bs : Nat) (x : BS) : va_W := [(bs, bObj (xB x) (xN x) (xM x)), (xB x, bByt tA (xC x) (xT x))]
def okX (x : BS) : Prop := cOk (xC x) ∧ xN x ≤ xC x ∧ tOk (xT x)
/-- what a method of the builder may write -/
def bA (bs bb sz : Nat) : Nat → Prop := fun q => q = bs ∨ q = bb ∨ sz ≤ q
/-- what stands still beside the builder -/
def BK (D : va_G) (tA : Nat → ClassId) (n0 : Nat) (adr adV : Nat → Nat) (U : State) (H : Heap) : Prop := va_K D clA [(tA 4, .byte), (tA 5, .long)] U ∧ Stc adr adV (fun q => n0 ≤ q) U H ∧ DG (fun q => n0 ≤ q) U H
def BPre (D : va_G) (tA : Nat → ClassId) (n0 : Nat) (adr adV : Nat → Nat) (sz bs : Nat) (x : BS) (U : State) : Prop :=
  (U.heap.size = sz ∧ n0 ≤ sz ∧ n0 ≤ bs ∧ n0 ≤ xB x ∧ bs ≠ xB x) ∧ okX x ∧ va_P D clA (BW tA bs x) U.heap ∧ BK D tA n0 adr adV U U.heap
def BPost (D : va_G) (tA : Nat → ClassId) (sz bs bb : Nat) (Rr : Option Value → BS → Prop) : Array Value → State → Outcome → State → Prop := fun _ st oc t =>
  (∃ v x, oc = .returned v ∧ Rr v x ∧ okX x ∧ va_P D clA (BW tA bs x) t.heap ∧ (bs ≠ xB x ∧ bA bs bb sz (xB x))) ∧ va_F (bA bs bb sz) st t
/-- a contract of a builder's method, or of one that it calls -/
def BC (y : MethodName) (cc : ByteArray) (nL : Nat) (ret : Option FieldType) (fr lo mc ms : Nat) (bs : Nat) (av : BS → (Nat → Nat) → List Value) (P : BS → Prop) (Rr : BS → Option Value → BS → Prop) : Prop := ∀ (l : Launch) (D : va_G) (tA : Nat → ClassId) (n0 : Nat) (adr adV : Nat → Nat) (sz : Nat) (x : BS), P x →
  Met l y (Cond.code y cc nL ret :: gW) { frames := fr, cells := mc, slots := ms, locals := lo } (va_Pc (av x adr) (BPre D tA n0 adr adV sz bs x)) (BPost D tA sz bs (xB x) (Rr x)) mc ms (bA bs (xB x) sz)
theorem BK.moved {D : va_G} {tA : Nat → ClassId} {n0 : Nat} {adr adV : Nat → Nat} {u U : State} {H : Heap} (hvm : u.vm.Alike U.vm) (h : BK D tA n0 adr adV u H) : BK D tA n0 adr adV U H := ⟨va_K.moved hvm h.1, Stc.moved hvm h.2.1, h.2.2.moved hvm⟩
theorem BK.kept {D : va_G} {tA : Nat → ClassId} {n0 : Nat} {adr adV : Nat → Nat} {U : State} {H H1 : Heap} (h : BK D tA n0 adr adV U H) (hq : ∀ a : Nat, a < H.size → ¬ n0 ≤ a → H1[a]? = H[a]?) : BK D tA n0 adr adV U H1 := ⟨h.1, h.2.1.kept hq, h.2.2.kept hq⟩
theorem BPre.blind {D : va_G} {tA : Nat → ClassId} {n0 : Nat} {adr adV : Nat → Nat} {sz bs : Nat} {x : BS} {vs : List Value} : FrameBlind (va_Pc vs (BPre D tA n0 adr adV sz bs x)) := by
  intro a U g mk ⟨h, h1, h2, h3, h4⟩
  exact ⟨h, h1, h2, h3, BK.moved (u := U) (U := U.calling g mk a) (Vm.Alike.refl U.vm) h4⟩
section B1
variable {p : Program} {l : Launch} {e : Env} {R : Room} {s : State} {m : MethodId} {args : Array Value} {below : List Frame} {meth : Method} {c : Code} {Q : State → Prop}
variable {D : va_G} {tA : Nat → ClassId} {n0 sz bs bb0 : Nat} {adr adV : Nat → Nat} {x : BS} {H : Heap} {locs : List Loc} {cells slots pc : Nat} {ls : Array Slot} {rest st0 : List Value} {nL : Nat} {cc : ByteArray} {own : String}
/-- a method in its run -/
def BX (p : Program) (s : State) (m : MethodId) (args : Array Value) (c : Code) (own : String) (nL : Nat) (cc : ByteArray) : Prop := p.tables.exec = Jvm.exec ∧ c.code = cc ∧ c.maxLocals = nL ∧ s.vm.findClass own = some m.cls ∧ ∀ w ∈ gW, w.before args s = true
/-- the frame's own start: its heap's size, the bytes that it found -/
def BZ (D : va_G) (tA : Nat → ClassId) (n0 : Nat) (adr adV : Nat → Nat) (sz bs bb0 : Nat) (s : State) : Prop := (s.heap.size = sz ∧ n0 ≤ sz ∧ n0 ≤ bs ∧ n0 ≤ bb0) ∧ BK D tA n0 adr adV s s.heap
/-- the world now -/
def GB (D : va_G) (tA : Nat → ClassId) (sz bs bb0 : Nat) (x : BS) (s : State) (H : Heap) (locs : List Loc) : Prop := va_P D clA (BW tA bs x) H ∧ (bs ≠ xB x ∧ bA bs bb0 sz (xB x)) ∧ okX x ∧ va_S (bA bs bb0 sz) s.heap H locs
theorem bA_n0 (h : BZ D tA n0 adr adV sz bs bb0 s) (q : Nat) (hq : bA bs bb0 sz q) : n0 ≤ q := by
  obtain ⟨⟨h1, h2, h3, h4⟩, -⟩ := h
  rcases hq with rfl | rfl | hq
  · exact h3
  · exact h4
  · omega
theorem BZ.S (h : BZ D tA n0 adr adV sz bs bb0 s) (g : GB D tA sz bs bb0 x s H locs) : va_S (fun q => n0 ≤ q) s.heap H locs := ⟨g.2.2.2.1, fun q h1 h2 => g.2.2.2.2.1 q h1 (fun z => h2 (bA_n0 h q z)), fun q hq => bA_n0 h _ (g.2.2.2.2.2 q hq)⟩
theorem GB.dd (g : GB D tA sz bs bb0 x s H locs) : va_D (bA bs bb0 sz) (BW tA bs x) := by
  have hl : ∀ {k : Nat} {q : Nat × va_E}, (BW tA bs x)[k]? = some q → k = 0 ∧ q.1 = bs ∨ k = 1 ∧ q.1 = xB x := by
    intro k q hk
    match k, hk with
    | 0, hk => exact .inl ⟨rfl, by cases hk; rfl⟩
    | 1, hk => exact .inr ⟨rfl, by cases hk; rfl⟩
  refine ⟨fun i j p q hi hj e => ?_, fun k q hk => ?_⟩
  · rcases hl hi with ⟨rfl, h1⟩ | ⟨rfl, h1⟩ <;> rcases hl hj with ⟨rfl, h2⟩ | ⟨rfl, h2⟩
    · rfl
    · exact absurd (h1.symm.trans (e.trans h2)) g.2.1.1
    · exact absurd (h2.symm.trans (e.symm.trans h1)) g.2.1.1
    · rfl
  · rcases hl hk with ⟨-, h1⟩ | ⟨-, h1⟩
    · rw [h1]; exact .inl rfl
    · rw [h1]; exact g.2.1.2
/-- a field of the builder -/
theorem b_get {k index : Nat} {v : Value} (X : BX p s m args c own nL cc) (hz : BZ D tA n0 adr adV sz bs bb0 s) (g : GB D tA sz bs bb0 x s H locs) (hk : k < 4) (hl : Cond.fieldLink own index (TJ4 k).1 (TJ4 k).2.1 (TJ4 k).2.2.1 ∈ gW) (hv : ([.ref (xB x), .int (iN 0), .int (xM x), .int (iN (xN x : Int))] : List Value)[k]? = some v) (hdg : decode cc pc = .ok (.getfield index, 3))
    (kk : W p l e R s m args below meth c H locs cells slots Q (F0 m (pc + 3) ls (v :: rest))) : W p l e R s m args below meth c H locs cells slots Q (F0 m pc ls (.ref bs :: rest)) := by
  obtain ⟨c1, c2⟩ := c13
  exact va_get (ref := (TJ4 k).1) X.1 X.2.1 X.2.2.2.2 c2 X.2.2.2.1 hz.2.1 g.1 0 rfl c1 k hk (X.2.2.2.2 _ hl) (fun _ h => h) hv hdg kk
theorem b_put {k index : Nat} {ty : FieldType} {v : Value} (X : BX p s m args c own nL cc) (hz : BZ D tA n0 adr adV sz bs bb0 s) (g : GB D tA sz bs bb0 x s H locs) (hk : k < 4) (hl : Cond.fieldLink own index (TJ4 k).1 (TJ4 k).2.1 (TJ4 k).2.2.1 ∈ gW) (hfin : (TJ4 k).2.2.2 = false) (hd : parseFieldDescriptor (TJ4 k).2.2.1 = some ty) (hn : narrow ty v = v) (hf : fits ty v = true) (hdg : decode cc pc = .ok (.putfield index, 3)) {x' : BS} (hx : okX x') (e1 : xB x' = xB x) (e2 : ([.ref (xB x), .int (iN 0), .int (xM x), .int (iN (xN x : Int))] : List Value).set k v = [.ref (xB x'), .int (iN 0), .int (xM x'), .int (iN (xN x' : Int))]) (e3 : bByt tA (xC x) (xT x) = bByt tA (xC x') (xT x'))
    (kk : ∀ H1 locs1, GB D tA sz bs bb0 x' s H1 locs1 → W p l e R s m args below meth c H1 locs1 cells slots Q (F0 m (pc + 3) ls rest)) : W p l e R s m args below meth c H locs cells slots Q (F0 m pc ls (v :: .ref bs :: rest)) := by
  obtain ⟨c1, c2⟩ := c13
  refine va_put (ref := (TJ4 k).1) X.1 X.2.1 X.2.2.2.2 c2 tyJ4 tyJ4_ok nmJ4 X.2.2.2.1 hz.2.1 g.1 g.dd g.2.2.2 0 rfl c1 k hk (X.2.2.2.2 _ hl) (fun _ h => h) hfin hd hn hf (by simpa using hk) hdg (fun H1 locs1 hP hD hS => kk H1 locs1 ?_)
  rw [e2] at hP
  have e : (BW tA bs x).set 0 (bs, .inr (13, [.ref (xB x'), .int (iN 0), .int (xM x'), .int (iN (xN x' : Int))])) = BW tA bs x' := by
    show [_, (xB x, bByt tA (xC x) (xT x))] = _
    rw [e3, ← e1]
    rfl
  rw [e] at hP
  exact ⟨hP, by rw [e1]; exact g.2.1, hx, hS⟩
/-- the bytes' length -/
theorem b_len (X : BX p s m args c own nL cc) (hz : BZ D tA n0 adr adV sz bs bb0 s) (g : GB D tA sz bs bb0 x s H locs) (hdg : decode cc pc = .ok (.arraylength, 1))
    (kk : W p l e R s m args below meth c H locs cells slots Q (F0 m (pc + 1) ls (.int (iN (xC x : Int)) :: rest))) : W p l e R s m args below meth c H locs cells slots Q (F0 m pc ls (.ref (xB x) :: rest)) :=
  va_alen X.1 X.2.1 hz.2.1 g.1 1 0 rfl rfl (by show Int32.ofNat (xC x) = _; simp [iN, Int32.ofInt_eq_ofNat]) hdg kk
theorem b_ald {i : Int} (X : BX p s m args c own nL cc) (hz : BZ D tA n0 adr adV sz bs bb0 s) (g : GB D tA sz bs bb0 x s H locs) (h0 : 0 ≤ i) (h1 : i < xC x) (hdg : decode cc pc = .ok (.baload, 1))
    (kk : W p l e R s m args below meth c H locs cells slots Q (F0 m (pc + 1) ls (.int (iN (xT x i.toNat)) :: rest))) : W p l e R s m args below meth c H locs cells slots Q (F0 m pc ls (.int (iN i) :: .ref (xB x) :: rest)) := by
  have hC : xC x ≤ 142 := by rcases g.2.2.1.1 with h | h | h | h <;> omega
  refine va_bald X.1 X.2.1 hz.2.1 g.1 1 0 rfl rfl (iN_in h0 (n := xC x) h1 (by omega)) hdg ?_
  rw [iN_clamp h0 (by omega)]
  exact kk
theorem b_nar {v : Int} (h0 : 0 ≤ v) (h1 : v ≤ 127) : vp_nar .byte (iN v) = iN v := by
  obtain ⟨n, rfl⟩ : ∃ n : Nat, v = n := ⟨v.toNat, by omega⟩
  have hn : n < 128 := by omega
  exact (show ∀ n : Nat, n < 128 → vp_nar .byte (iN (n : Int)) = iN (n : Int) by decide +kernel) n hn
theorem b_ast {i v : Int} (X : BX p s m args c own nL cc) (hz : BZ D tA n0 adr adV sz bs bb0 s) (g : GB D tA sz bs bb0 x s H locs) (h0 : 0 ≤ i) (h1 : i < xC x) (v0 : 0 ≤ v) (v1 : v ≤ 127) (hdg : decode cc pc = .ok (.bastore, 1))
    (kk : ∀ H1 locs1, GB D tA sz bs bb0 (xB x, xC x, xN x, xM x, tset (xT x) i.toNat v) s H1 locs1 → W p l e R s m args below meth c H1 locs1 cells slots Q (F0 m (pc + 1) ls rest)) : W p l e R s m args below meth c H locs cells slots Q (F0 m pc ls (.int (iN v) :: .int (iN i) :: .ref (xB x) :: rest)) := by
  have hC : xC x ≤ 142 := by rcases g.2.2.1.1 with h | h | h | h <;> omega
  refine va_bast X.1 X.2.1 hz.2.1 g.1 g.dd g.2.2.2 1 0 rfl rfl (iN_in h0 (n := xC x) h1 (by omega)) hdg (fun H1 locs1 hP hD hS => kk H1 locs1 ⟨?_, g.2.1, ⟨g.2.2.1.1, g.2.2.1.2.1, tOk_set g.2.2.1.2.2 v0 v1⟩, hS⟩)
  rw [iN_clamp h0 (by omega), b_nar v0 v1, upd_tset] at hP
  exact hP
/-- the end of a method, by what it answers -/
theorem b_zret {v : Int32} {ty : FieldType} {mc ms : Nat} {Rr : Option Value → BS → Prop} (X : BX p s m args c own nL cc) (hret : meth.sig.returnType = some ty) (hnar : narrow ty (.int v) = .int v) (hlk : meth.locks = false) (g : GB D tA sz bs bb0 x s H locs) (hR : Rr (some (.int v)) x) (hc : cells ≤ mc) (hs : slots ≤ ms) (hdg : decode cc pc = .ok (.ireturn, 1)) :
    W p l e R s m args below meth c H locs cells slots (MQ below (BPost D tA sz bs bb0 Rr) args s mc ms (bA bs bb0 sz)) (F0 m pc ls [.int v]) :=
  W.widen hc hs (W.zret X.1 X.2.1 hret hnar (fun t ht _ => ⟨⟨_, x, rfl, hR, g.2.2.1, by rw [ht]; exact g.1, g.2.1⟩, va_S.F g.2.2.2 ht⟩) g.2.2.2.2.2 hdg hlk)
theorem b_vret {mc ms : Nat} {Rr : Option Value → BS → Prop} (X : BX p s m args c own nL cc) (hret : meth.sig.returnType = none) (hlk : meth.locks = false) (g : GB D tA sz bs bb0 x s H locs) (hR : Rr none x) (hc : cells ≤ mc) (hs : slots ≤ ms) (hdg : decode cc pc = .ok (.return_, 1)) :
    W p l e R s m args below meth c H locs cells slots (MQ below (BPost D tA sz bs bb0 Rr) args s mc ms (bA bs bb0 sz)) (F0 m pc ls []) :=
  W.widen hc hs (W.vret X.1 X.2.1 hret (fun t ht _ => ⟨⟨none, x, rfl, hR, g.2.2.1, by rw [ht]; exact g.1, g.2.1⟩, va_S.F g.2.2.2 ht⟩) g.2.2.2.2.2 hdg hlk)
theorem b_aret {a : Nat} {nm : String} {mc ms : Nat} {Rr : Option Value → BS → Prop} (X : BX p s m args c own nL cc) (hret : meth.sig.returnType = some (.object nm)) (hlk : meth.locks = false) (g : GB D tA sz bs bb0 x s H locs) (hR : Rr (some (.ref a)) x) (hc : cells ≤ mc) (hs : slots ≤ ms) (hdg : decode cc pc = .ok (.areturn, 1)) :
    W p l e R s m args below meth c H locs cells slots (MQ below (BPost D tA sz bs bb0 Rr) args s mc ms (bA bs bb0 sz)) (F0 m pc ls [.ref a]) :=
  W.widen hc hs (W.aret X.1 X.2.1 hret (Or.inl ⟨nm, rfl⟩) (Or.inr ⟨_, rfl⟩) (fun t ht _ => ⟨⟨_, x, rfl, hR, g.2.2.1, by rw [ht]; exact g.1, g.2.1⟩, va_S.F g.2.2.2 ht⟩) g.2.2.2.2.2 hdg hlk)
/-- behind a call -/
theorem b_after {mc ms : Nat} {a : Array Value} {Rr : Option Value → BS → Prop} (hz : s.heap.size = sz) (g : GB D tA sz bs bb0 x s H locs) (hr : va_Run p l e R s m args below meth c H locs cells slots mc ms (F0 m pc ls st0) rest (BPost D tA H.size bs (xB x) Rr a) (bA bs (xB x) H.size))
    (kk : ∀ v x' H1 locs1, Rr v x' → GB D tA sz bs bb0 x' s H1 locs1 → W p l e R s m args below meth c H1 locs1 (cells + mc) (slots + ms) Q (F0 m (pc + 3) ls (v.toList ++ rest))) : W p l e R s m args below meth c H locs cells slots Q (F0 m pc ls st0) := by
  intro T hT X
  obtain ⟨v, st₀, t, T', L2, h0, X', hL2, e1, e2, ⟨⟨_, x', hv, hR, hx, hP, hb, hbA⟩, hsz, hkk⟩, st⟩ := hr T hT X
  rw [h0] at hsz hkk
  cases hv
  have hH : sz ≤ H.size := by rw [← hz]; exact g.2.2.2.1
  have hsub : ∀ q, bA bs (xB x) H.size q → bA bs bb0 sz q := by
    rintro q (rfl | rfl | hq)
    · exact .inl rfl
    · exact g.2.1.2
    · exact .inr (.inr (Nat.le_trans hH hq))
  have K := kk v x' T'.heap (locs ++ L2) hR ⟨by rw [e1]; exact hP, ⟨hb, hsub _ hbA⟩, hx, vS_app g.2.2.2 (by rw [e1]; exact hsz) (fun q h1 h2 => by rw [e1]; exact hkk q h1 h2) hsub (fun q hq => hsub _ (hL2 q hq))⟩
  obtain ⟨t2, a1, b1⟩ := K T' rfl X'
  exact ⟨t2, st t2 a1, b1⟩
theorem b_pre (hz : BZ D tA n0 adr adV sz bs bb0 s) (g : GB D tA sz bs bb0 x s H locs) {U : State} (hU : U.heap = H) (hW : s.WarmedH U.vm) : BPre D tA n0 adr adV H.size bs x U := by
  have hS := hz.S g
  refine ⟨⟨by rw [hU], ?_, hz.1.2.2.1, bA_n0 hz _ g.2.1.2, g.2.1.1⟩, g.2.2.1, by rw [hU]; exact g.1, ?_⟩
  · have := hS.1; have := hz.1.1; have := hz.1.2.1; omega
  · rw [hU]
    exact BK.moved hW.alike (hz.2.kept hS.2.1)
/-- the words of a call -/
def BWd (kind : Nat) (own : String) (idx : Nat) (y : MethodName) (cc : ByteArray) (nL : Nat) (ret : Option FieldType) (rc : String) (n : Nat) : Prop :=
  ((Cond.methodLink own idx y ∈ gW ∧ Cond.initialized y.cls ∈ gW ∧ Cond.code y cc nL ret ∈ gW) ∧ (y.cls ≠ "java/lang/invoke/MethodHandle" ∧ y.cls ≠ "java/lang/invoke/VarHandle" ∧ (parseMethodDescriptor y.desc).map (fun d => d.parameters.length) = some n) ∧ nL ≤ 20) ∧
  match kind with
  | 0 => Cond.instanceMethod y ∈ gW ∧ Cond.selects rc y y ∈ gW
  | 1 => Cond.static y ∈ gW
  | _ => (Cond.instanceMethod y ∈ gW ∧ Cond.sameMethod y.cls y.cls y.name y.desc ∈ gW ∧ Cond.superclass own y.cls ∈ gW) ∧ y.name ≠ "<init>"
theorem code_good {y : MethodName} {cc : ByteArray} {nL : Nat} {ret : Option FieldType} (hcode : Cond.code y cc nL ret ∈ gW) : GoodIn gW (Cond.code y cc nL ret :: gW) := by
  intro w hw
  rcases List.mem_cons.mp hw with rfl | hw
  · exact ⟨hcode, good_of_word (List.mem_filter.mp hcode).2⟩
  · exact ⟨hw, good_of_word (List.mem_filter.mp hw).2⟩
section CALLS
variable {y : MethodName} {cc2 : ByteArray} {nL2 fr lo mc ms idx n : Nat} {ret : Option FieldType} {av : BS → (Nat → Nat) → List Value} {P : BS → Prop} {Rr : BS → Option Value → BS → Prop} {As : List Value}
/-- a virtual call; its receiver's class is rc -/
theorem b_callV {rcv : Nat} {rc : String} (X : BX p s m args c own nL cc) (hz : BZ D tA n0 adr adV sz bs bb0 s) (g : GB D tA sz bs bb0 x s H locs) (hC : BC y cc2 nL2 ret fr lo mc ms bs av P Rr) (hP : P x) (hw : BWd 0 own idx y cc2 nL2 ret rc n) (hav : av x adr = .ref rcv :: As) (hn : As.length = n) (hrc : ∃ cellB : Cell, H[rcv]? = some cellB ∧ cellB.vm.isStatics = false ∧ s.vm.findClass rc = some cellB.cls) (hls : ls.size = nL) (hR : fr + 1 ≤ R.frames ∧ 39 + lo ≤ R.locals) (hf : cells + mc ≤ R.cells ∧ slots + ms ≤ R.slots) (hrest : (rest.map fun v => v.category).sum ≤ 8) (hst : st0 = As.reverse ++ .ref rcv :: rest) (hdg : decode cc pc = .ok (.invokevirtual idx, 3))
    (kk : ∀ v x' H1 locs1, Rr x v x' → GB D tA sz bs bb0 x' s H1 locs1 → W p l e R s m args below meth c H1 locs1 (cells + mc) (slots + ms) Q (F0 m (pc + 3) ls (v.toList ++ rest))) : W p l e R s m args below meth c H locs cells slots Q (F0 m pc ls st0) := by
  obtain ⟨⟨⟨w1, w2, w3⟩, w4, w5⟩, w6, w7⟩ := hw
  have hts := X.2.2.2.2
  refine b_after (a := (.ref rcv :: As).toArray) hz.1.1 g ?_ kk
  exact va_runV (own := own) (Ts := gW) (nL := nL) (As := As) (C := rc) (n := n) (bytes := cc2) (maxL := nL2) (ret := ret) X (hC l D tA n0 adr adV H.size x hP) ⟨callB_of n hts (code_good w3) rfl rfl rfl (hts _ w2) (hts _ w1) w4 ⟨hR.1, by show 8 + (nL2 + 11) + lo ≤ R.locals; omega⟩, hts _ w6, hts _ w7⟩
    ⟨BPre.blind, hrc, fun U hU hW => ⟨by rw [hav], b_pre hz g hU hW⟩⟩ rfl hn hls hst (lv_room (pc := pc) (ls := ls) (rest := st0) hrest) hdg hf
theorem b_callS (X : BX p s m args c own nL cc) (hz : BZ D tA n0 adr adV sz bs bb0 s) (g : GB D tA sz bs bb0 x s H locs) (hC : BC y cc2 nL2 ret fr lo mc ms bs av P Rr) (hP : P x) (hw : BWd 1 own idx y cc2 nL2 ret own n) (hav : av x adr = As) (hn : As.length = n) (hls : ls.size = nL) (hR : fr + 1 ≤ R.frames ∧ 39 + lo ≤ R.locals) (hf : cells + mc ≤ R.cells ∧ slots + ms ≤ R.slots) (hrest : (rest.map fun v => v.category).sum ≤ 8) (hst : st0 = As.reverse ++ rest) (hdg : decode cc pc = .ok (.invokestatic idx, 3))
    (kk : ∀ v x' H1 locs1, Rr x v x' → GB D tA sz bs bb0 x' s H1 locs1 → W p l e R s m args below meth c H1 locs1 (cells + mc) (slots + ms) Q (F0 m (pc + 3) ls (v.toList ++ rest))) : W p l e R s m args below meth c H locs cells slots Q (F0 m pc ls st0) := by
  obtain ⟨⟨⟨w1, w2, w3⟩, w4, w5⟩, w6⟩ := hw
  have hts := X.2.2.2.2
  refine b_after (a := As.toArray) hz.1.1 g ?_ kk
  exact va_runS (own := own) (Ts := gW) (nL := nL) (As := As) (n := n) (bytes := cc2) (maxL := nL2) (ret := ret) X (hC l D tA n0 adr adV H.size x hP) ⟨callB_of n hts (code_good w3) rfl rfl rfl (hts _ w2) (hts _ w1) w4 ⟨hR.1, by show 8 + (nL2 + 11) + lo ≤ R.locals; omega⟩, hts _ w6⟩
    ⟨BPre.blind, fun U hU hW => ⟨by rw [hav], b_pre hz g hU hW⟩⟩ rfl hn hls hst (lv_room (pc := pc) (ls := ls) (rest := st0) hrest) hdg hf
/-- the builder's receiver -/
theorem b_recv (hz : BZ D tA n0 adr adV sz bs bb0 s) (g : GB D tA sz bs bb0 x s H locs) : ∃ cellB : Cell, H[bs]? = some cellB ∧ cellB.vm.isStatics = false ∧ s.vm.findClass RJ4 = some cellB.cls := va_recv hz.2.1 g.1 c13.1 (q0 := 0) rfl
/-- super.m(..) -/
theorem b_callU (X : BX p s m args c own nL cc) (hz : BZ D tA n0 adr adV sz bs bb0 s) (g : GB D tA sz bs bb0 x s H locs) (hC : BC y cc2 nL2 ret fr lo mc ms bs av P Rr) (hP : P x) (hw : BWd 2 own idx y cc2 nL2 ret own n) (hav : av x adr = .ref bs :: As) (hn : As.length = n) (hls : ls.size = nL) (hR : fr + 1 ≤ R.frames ∧ 39 + lo ≤ R.locals) (hf : cells + mc ≤ R.cells ∧ slots + ms ≤ R.slots) (hrest : (rest.map fun v => v.category).sum ≤ 8) (hst : st0 = As.reverse ++ .ref bs :: rest) (hdg : decode cc pc = .ok (.invokespecial idx, 3))
    (kk : ∀ v x' H1 locs1, Rr x v x' → GB D tA sz bs bb0 x' s H1 locs1 → W p l e R s m args below meth c H1 locs1 (cells + mc) (slots + ms) Q (F0 m (pc + 3) ls (v.toList ++ rest))) : W p l e R s m args below meth c H locs cells slots Q (F0 m pc ls st0) := by
  obtain ⟨⟨⟨w1, w2, w3⟩, w4, w5⟩, ⟨w6, w7, w8⟩, w9⟩ := hw
  have hts := X.2.2.2.2
  have hgood : GoodIn gW (va_wsSU own idx y (Cond.code y cc2 nL2 ret :: gW)) := by
    intro w hw
    simp only [va_wsSU, List.mem_append, List.mem_cons, List.not_mem_nil, or_false] at hw
    have gg : w ∈ gW := by
      rcases hw with (rfl | rfl | rfl | rfl | rfl) | (rfl | hw)
      · exact w1
      · exact w7
      · exact w8
      · exact w6
      · exact w2
      · exact w3
      · exact hw
    exact ⟨gg, good_of_word (List.mem_filter.mp gg).2⟩
  obtain ⟨hS, hfc, kC, hkC, hkind⟩ := hz.2.1.1 13 _ c13.1
  refine b_after (a := (.ref bs :: As).toArray) hz.1.1 g ?_ kk
  exact va_runSU (own := own) (C := RJ4) (Ts := gW) (nL := nL) (As := As) (n := n) (bytes := cc2) (maxL := nL2) (ret := ret) ⟨hfc, kC, hkC, hkind⟩ X (hC l D tA n0 adr adV H.size x hP) (va_cwSU n hts hgood rfl rfl rfl ⟨w9, w4.2.2⟩ ⟨hR.1, by show 8 + (nL2 + 11) + lo ≤ R.locals; omega⟩)
    ⟨BPre.blind, b_recv hz g, fun U hU hW => ⟨by rw [hav], b_pre hz g hU hW⟩⟩ rfl hn hls hst (lv_room (pc := pc) (ls := ls) (rest := st0) hrest) hdg hf
end CALLS
theorem bc_of {y : MethodName} {ret : Option FieldType} {fr lo mc ms : Nat} {av : BS → (Nat → Nat) → List Value} {P : BS → Prop} {Rr : BS → Option Value → BS → Prop} (hpl : plainName y.cls = true) (hy : y.cls = own) (hnl : ∀ (x : BS) (adr : Nat → Nat), (lg_sl (av x adr)).length ≤ nL)
    (h : ∀ (p : Program) (l : Launch) (e : Env) (s : State) (m : MethodId) (args : Array Value) (below : List Frame) (meth : Method) (c : Code) (D : va_G) (tA : Nat → ClassId) (n0 : Nat) (adr adV : Nat → Nat) (sz : Nat) (x : BS) (ls : Array Slot), P x → BX p s m args c own nL cc → BZ D tA n0 adr adV sz bs (xB x) s → GB D tA sz bs (xB x) x s s.heap [] → meth.sig.returnType = ret → meth.locks = false → lv_has ls nL (lv_args 0 (av x adr)) →
      W p l e { frames := fr, cells := mc, slots := ms, locals := lo } s m args below meth c s.heap [] 0 0 (MQ below (BPost D tA sz bs (xB x) (Rr x)) args s mc ms (bA bs (xB x) sz)) (F0 m 0 ls [])) : BC y cc nL ret fr lo mc ms bs av P Rr := by
  intro l D tA n0 adr adV sz x hPx
  refine Met.ofW (cc := cc) (maxL := nL) (ret := ret) hpl rfl ?_
  intro p e s m args below meth c s₁ B hml hv
  obtain ⟨rfl, ⟨h1, h2, h3, h4, h5⟩, h6, h7, h8⟩ := hv
  have hts := atoms_spec (ws := Cond.code y cc nL ret :: gW) B.pre
  have hown : s.vm.findClass own = some m.cls := by rw [← hy]; exact findClass_of_methodNamed B.named
  rw [lg_entry_eq]
  have hl := lv_entry (av x adr) (n := nL) (hnl x adr)
  exact h p l e s m _ below meth c D tA n0 adr adV sz x _ hPx ⟨B.exec, B.bytes, hml, hown, fun w hw => hts w (List.mem_cons_of_mem _ hw)⟩ ⟨⟨h1, h2, h3, h4⟩, h8⟩ ⟨h7, ⟨h5, .inr (.inl rfl)⟩, h6, va_S.rf⟩ B.returns B.notSynchronized hl
end B1

/-! THE LAW, 4: its words, rows, wrappers (printed by wip/whole/g7f.py). -/
set_option maxRecDepth 100000 in
theorem lk_18 : Cond.classLink lwN 18 (excN 0) ∈ gW := gW_at (i := 1123) rfl rfl
set_option maxRecDepth 100000 in
theorem lk_13 : Cond.classLink lwN 13 (excN 1) ∈ gW := gW_at (i := 912) rfl rfl
theorem ex_c0 : Cond.castable (excN 0) (excN 0) ∈ excD := by decide +kernel
theorem ex_c1 : Cond.castable (excN 1) (excN 1) ∈ excD := by decide +kernel
def yw_yard : MethodName := ⟨lwN, "yard", "(LRingDater;I[J)I"⟩
set_option maxRecDepth 100000 in
theorem ww_yard : LWw 71 yw_yard method_3_code 4 [(0, 9, 12, 13)] 3 := ⟨⟨gW_at (i := 909) rfl rfl, gW_at (i := 910) rfl rfl⟩, ⟨gW_at (i := 102) rfl rfl, gW_at (i := 911) rfl rfl⟩, ⟨by decide, by decide, rfl⟩, by decide⟩
set_option maxRecDepth 100000 in
theorem lwd_7 : LWd 7 m_RingDater_yard := ⟨⟨gW_at (i := 913) rfl rfl, gW_at (i := 914) rfl rfl⟩, ⟨gW_at (i := 915) rfl rfl, gW_at (i := 103) rfl rfl⟩, rfl, by decide⟩
theorem dw_yard_0 : decode method_3_code 0 = .ok (.aload_n 2, 1) := by decide +kernel
theorem dw_yard_1 : decode method_3_code 1 = .ok (.iconst 0, 1) := by decide +kernel
theorem dw_yard_2 : decode method_3_code 2 = .ok (.aload_n 0, 1) := by decide +kernel
theorem dw_yard_3 : decode method_3_code 3 = .ok (.iload_n 1, 1) := by decide +kernel
theorem dw_yard_12 : decode method_3_code 12 = .ok (.astore_n 3, 1) := by decide +kernel
theorem dw_yard_13 : decode method_3_code 13 = .ok (.iconst 1, 1) := by decide +kernel
theorem dw_yard_14 : decode method_3_code 14 = .ok (.ireturn, 1) := by decide +kernel
theorem dw_yard_4 : decode method_3_code 4 = .ok (.invokevirtual 7, 3) := by decide +kernel
theorem dw_yard_7 : decode method_3_code 7 = .ok (.i2l, 1) := by decide +kernel
theorem dw_yard_8 : decode method_3_code 8 = .ok (.lastore, 1) := by decide +kernel
theorem dw_yard_9 : decode method_3_code 9 = .ok (.goto 6, 3) := by decide +kernel
theorem dw_yard_15 : decode method_3_code 15 = .ok (.iconst 0, 1) := by decide +kernel
theorem dw_yard_16 : decode method_3_code 16 = .ok (.ireturn, 1) := by decide +kernel
set_option maxHeartbeats 4000000 in
set_option maxRecDepth 100000 in
theorem wr_yard {p0 : Int} {k : Nat} {M : Mm} (h : SimW [(1, 1)] m_RingDater_yard m_Model_yard [.inl p0] k M) : WrC yw_yard method_3_code 4 [(0, 9, 12, 13)] [.inl p0] M (WQ m_Model_yard [.inl p0] k) := by
  refine wr_of (by decide) rfl (fun adr o => by simp [lg_sl, cvA, Value.category]) ?_
  intro p l e s m args below meth c D tA n0 o bs adr adV f ls hfl hL X hs hh htab hret hlk hl
  have hl : lv_has ls 4 [(0, .ref (adr 0)), (1, .int (iN p0)), (2, .ref o)] := hl
  refine lv_aload_n (i := 2) (x := o) X.1 X.2.1 dw_yard_0 rfl (lv_at hl 2 rfl) ?_
  refine lv_iconst (v := 0) X.1 X.2.1 dw_yard_1 (by decide) ?_
  refine lv_aload_n (i := 0) (x := adr 0) X.1 X.2.1 dw_yard_2 rfl (lv_at hl 0 rfl) ?_
  refine lv_iload_n (i := 1) (x := iN p0) X.1 X.2.1 dw_yard_3 rfl (lv_at hl 1 rfl) ?_
  refine wr_mid (E := 15) h (fun z hz => ?_) X lwd_7 hL hs hh va_S.rf hl.1 (show (11 : Nat) = 11 from rfl) rfl (by decide +kernel) (by decide +kernel) (Nat.le_of_ble_eq_true rfl) hfl hret hlk rfl dw_yard_4 dw_yard_7 dw_yard_8 dw_yard_9 (by decide) dw_yard_15 dw_yard_16 (fun z hz H1 locs1 q9 ce h1 h2 h3 K => ?_)
  · simp only [List.mem_cons, List.not_mem_nil, or_false] at hz
    rcases hz with rfl <;> exact ⟨by decide, by decide, by decide⟩
  · simp only [List.mem_cons, List.not_mem_nil, or_false] at hz
    rcases hz with rfl
    · refine vx_catch (own := lwN) (name := excN 1) (E := excN 1) X.2.2.2.1 [] ⟨0, 9, 12, 13⟩ [] htab (fun z hz => by cases hz) (by decide) (by decide) (X.2.2.2.2 _ lk_13) (hs.2.2.2.1.at _ _ ex_c1) h1 h2 h3 ?_
      refine lv_astore_n (i := 3) X.1 X.2.1 dw_yard_12 rfl hl (by decide) rfl (fun ls2 hl2 => ?_)
      refine lv_iconst (v := iN 1) X.1 X.2.1 dw_yard_13 (by decide) ?_
      exact K _ _ dw_yard_14
def yw_count : MethodName := ⟨lwN, "count", "(LRingDater;I[J)I"⟩
set_option maxRecDepth 100000 in
theorem ww_count : LWw 85 yw_count method_4_code 4 [(0, 9, 12, 18)] 3 := ⟨⟨gW_at (i := 1120) rfl rfl, gW_at (i := 1121) rfl rfl⟩, ⟨gW_at (i := 102) rfl rfl, gW_at (i := 1122) rfl rfl⟩, ⟨by decide, by decide, rfl⟩, by decide⟩
set_option maxRecDepth 100000 in
theorem lwd_15 : LWd 15 m_RingDater_count := ⟨⟨gW_at (i := 1124) rfl rfl, gW_at (i := 1125) rfl rfl⟩, ⟨gW_at (i := 1126) rfl rfl, gW_at (i := 103) rfl rfl⟩, rfl, by decide⟩
theorem dw_count_0 : decode method_4_code 0 = .ok (.aload_n 2, 1) := by decide +kernel
theorem dw_count_1 : decode method_4_code 1 = .ok (.iconst 0, 1) := by decide +kernel
theorem dw_count_2 : decode method_4_code 2 = .ok (.aload_n 0, 1) := by decide +kernel
theorem dw_count_3 : decode method_4_code 3 = .ok (.iload_n 1, 1) := by decide +kernel
theorem dw_count_12 : decode method_4_code 12 = .ok (.astore_n 3, 1) := by decide +kernel
theorem dw_count_13 : decode method_4_code 13 = .ok (.iconst 1, 1) := by decide +kernel
theorem dw_count_14 : decode method_4_code 14 = .ok (.ireturn, 1) := by decide +kernel
theorem dw_count_4 : decode method_4_code 4 = .ok (.invokevirtual 15, 3) := by decide +kernel
theorem dw_count_7 : decode method_4_code 7 = .ok (.i2l, 1) := by decide +kernel
theorem dw_count_8 : decode method_4_code 8 = .ok (.lastore, 1) := by decide +kernel
theorem dw_count_9 : decode method_4_code 9 = .ok (.goto 6, 3) := by decide +kernel
theorem dw_count_15 : decode method_4_code 15 = .ok (.iconst 0, 1) := by decide +kernel
theorem dw_count_16 : decode method_4_code 16 = .ok (.ireturn, 1) := by decide +kernel
set_option maxHeartbeats 4000000 in
set_option maxRecDepth 100000 in
theorem wr_count {p0 : Int} {k : Nat} {M : Mm} (h : SimW [(0, 1)] m_RingDater_count m_Model_count [.inl p0] k M) : WrC yw_count method_4_code 4 [(0, 9, 12, 18)] [.inl p0] M (WQ m_Model_count [.inl p0] k) := by
  refine wr_of (by decide) rfl (fun adr o => by simp [lg_sl, cvA, Value.category]) ?_
  intro p l e s m args below meth c D tA n0 o bs adr adV f ls hfl hL X hs hh htab hret hlk hl
  have hl : lv_has ls 4 [(0, .ref (adr 0)), (1, .int (iN p0)), (2, .ref o)] := hl
  refine lv_aload_n (i := 2) (x := o) X.1 X.2.1 dw_count_0 rfl (lv_at hl 2 rfl) ?_
  refine lv_iconst (v := 0) X.1 X.2.1 dw_count_1 (by decide) ?_
  refine lv_aload_n (i := 0) (x := adr 0) X.1 X.2.1 dw_count_2 rfl (lv_at hl 0 rfl) ?_
  refine lv_iload_n (i := 1) (x := iN p0) X.1 X.2.1 dw_count_3 rfl (lv_at hl 1 rfl) ?_
  refine wr_mid (E := 15) h (fun z hz => ?_) X lwd_15 hL hs hh va_S.rf hl.1 (show (11 : Nat) = 11 from rfl) rfl (by decide +kernel) (by decide +kernel) (Nat.le_of_ble_eq_true rfl) hfl hret hlk rfl dw_count_4 dw_count_7 dw_count_8 dw_count_9 (by decide) dw_count_15 dw_count_16 (fun z hz H1 locs1 q9 ce h1 h2 h3 K => ?_)
  · simp only [List.mem_cons, List.not_mem_nil, or_false] at hz
    rcases hz with rfl <;> exact ⟨by decide, by decide, by decide⟩
  · simp only [List.mem_cons, List.not_mem_nil, or_false] at hz
    rcases hz with rfl
    · refine vx_catch (own := lwN) (name := excN 0) (E := excN 0) X.2.2.2.1 [] ⟨0, 9, 12, 18⟩ [] htab (fun z hz => by cases hz) (by decide) (by decide) (X.2.2.2.2 _ lk_18) (hs.2.2.2.1.at _ _ ex_c0) h1 h2 h3 ?_
      refine lv_astore_n (i := 3) X.1 X.2.1 dw_count_12 rfl hl (by decide) rfl (fun ls2 hl2 => ?_)
      refine lv_iconst (v := iN 1) X.1 X.2.1 dw_count_13 (by decide) ?_
      exact K _ _ dw_count_14
def yw_timber : MethodName := ⟨lwN, "timber", "(LRingDater;II[J)I"⟩
set_option maxRecDepth 100000 in
theorem ww_timber : LWw 88 yw_timber method_5_code 5 [(0, 10, 13, 18)] 4 := ⟨⟨gW_at (i := 1239) rfl rfl, gW_at (i := 1240) rfl rfl⟩, ⟨gW_at (i := 102) rfl rfl, gW_at (i := 1241) rfl rfl⟩, ⟨by decide, by decide, rfl⟩, by decide⟩
set_option maxRecDepth 100000 in
theorem lwd_20 : LWd 20 m_RingDater_timber := ⟨⟨gW_at (i := 1242) rfl rfl, gW_at (i := 1243) rfl rfl⟩, ⟨gW_at (i := 1244) rfl rfl, gW_at (i := 103) rfl rfl⟩, rfl, by decide⟩
theorem dw_timber_0 : decode method_5_code 0 = .ok (.aload_n 3, 1) := by decide +kernel
theorem dw_timber_1 : decode method_5_code 1 = .ok (.iconst 0, 1) := by decide +kernel
theorem dw_timber_2 : decode method_5_code 2 = .ok (.aload_n 0, 1) := by decide +kernel
theorem dw_timber_3 : decode method_5_code 3 = .ok (.iload_n 1, 1) := by decide +kernel
theorem dw_timber_4 : decode method_5_code 4 = .ok (.iload_n 2, 1) := by decide +kernel
theorem dw_timber_13 : decode method_5_code 13 = .ok (.astore 4, 2) := by decide +kernel
theorem dw_timber_15 : decode method_5_code 15 = .ok (.iconst 1, 1) := by decide +kernel
theorem dw_timber_16 : decode method_5_code 16 = .ok (.ireturn, 1) := by decide +kernel
theorem dw_timber_5 : decode method_5_code 5 = .ok (.invokevirtual 20, 3) := by decide +kernel
theorem dw_timber_8 : decode method_5_code 8 = .ok (.i2l, 1) := by decide +kernel
theorem dw_timber_9 : decode method_5_code 9 = .ok (.lastore, 1) := by decide +kernel
theorem dw_timber_10 : decode method_5_code 10 = .ok (.goto 7, 3) := by decide +kernel
theorem dw_timber_17 : decode method_5_code 17 = .ok (.iconst 0, 1) := by decide +kernel
theorem dw_timber_18 : decode method_5_code 18 = .ok (.ireturn, 1) := by decide +kernel
set_option maxHeartbeats 4000000 in
set_option maxRecDepth 100000 in
theorem wr_timber {p0 p1 : Int} {k : Nat} {M : Mm} (h : SimW [(0, 1)] m_RingDater_timber m_Model_timber [.inl p0, .inl p1] k M) : WrC yw_timber method_5_code 5 [(0, 10, 13, 18)] [.inl p0, .inl p1] M (WQ m_Model_timber [.inl p0, .inl p1] k) := by
  refine wr_of (by decide) rfl (fun adr o => by simp [lg_sl, cvA, Value.category]) ?_
  intro p l e s m args below meth c D tA n0 o bs adr adV f ls hfl hL X hs hh htab hret hlk hl
  have hl : lv_has ls 5 [(0, .ref (adr 0)), (1, .int (iN p0)), (2, .int (iN p1)), (3, .ref o)] := hl
  refine lv_aload_n (i := 3) (x := o) X.1 X.2.1 dw_timber_0 rfl (lv_at hl 3 rfl) ?_
  refine lv_iconst (v := 0) X.1 X.2.1 dw_timber_1 (by decide) ?_
  refine lv_aload_n (i := 0) (x := adr 0) X.1 X.2.1 dw_timber_2 rfl (lv_at hl 0 rfl) ?_
  refine lv_iload_n (i := 1) (x := iN p0) X.1 X.2.1 dw_timber_3 rfl (lv_at hl 1 rfl) ?_
  refine lv_iload_n (i := 2) (x := iN p1) X.1 X.2.1 dw_timber_4 rfl (lv_at hl 2 rfl) ?_
  refine wr_mid (E := 17) h (fun z hz => ?_) X lwd_20 hL hs hh va_S.rf hl.1 (show (11 : Nat) = 11 from rfl) rfl (by decide +kernel) (by decide +kernel) (Nat.le_of_ble_eq_true rfl) hfl hret hlk rfl dw_timber_5 dw_timber_8 dw_timber_9 dw_timber_10 (by decide) dw_timber_17 dw_timber_18 (fun z hz H1 locs1 q9 ce h1 h2 h3 K => ?_)
  · simp only [List.mem_cons, List.not_mem_nil, or_false] at hz
    rcases hz with rfl <;> exact ⟨by decide, by decide, by decide⟩
  · simp only [List.mem_cons, List.not_mem_nil, or_false] at hz
    rcases hz with rfl
    · refine vx_catch (own := lwN) (name := excN 0) (E := excN 0) X.2.2.2.1 [] ⟨0, 10, 13, 18⟩ [] htab (fun z hz => by cases hz) (by decide) (by decide) (X.2.2.2.2 _ lk_18) (hs.2.2.2.1.at _ _ ex_c0) h1 h2 h3 ?_
      refine lv_astore X.1 X.2.1 dw_timber_13 hl (by decide) rfl (fun ls2 hl2 => ?_)
      refine lv_iconst (v := iN 1) X.1 X.2.1 dw_timber_15 (by decide) ?_
      exact K _ _ dw_timber_16
def yw_house : MethodName := ⟨lwN, "house", "(LRingDater;II[J)I"⟩
set_option maxRecDepth 100000 in
theorem ww_house : LWw 92 yw_house method_6_code 5 [(0, 10, 13, 18)] 4 := ⟨⟨gW_at (i := 1252) rfl rfl, gW_at (i := 1253) rfl rfl⟩, ⟨gW_at (i := 102) rfl rfl, gW_at (i := 1254) rfl rfl⟩, ⟨by decide, by decide, rfl⟩, by decide⟩
set_option maxRecDepth 100000 in
theorem lwd_24 : LWd 24 m_RingDater_house := ⟨⟨gW_at (i := 1255) rfl rfl, gW_at (i := 1256) rfl rfl⟩, ⟨gW_at (i := 1257) rfl rfl, gW_at (i := 103) rfl rfl⟩, rfl, by decide⟩
theorem dw_house_0 : decode method_6_code 0 = .ok (.aload_n 3, 1) := by decide +kernel
theorem dw_house_1 : decode method_6_code 1 = .ok (.iconst 0, 1) := by decide +kernel
theorem dw_house_2 : decode method_6_code 2 = .ok (.aload_n 0, 1) := by decide +kernel
theorem dw_house_3 : decode method_6_code 3 = .ok (.iload_n 1, 1) := by decide +kernel
theorem dw_house_4 : decode method_6_code 4 = .ok (.iload_n 2, 1) := by decide +kernel
theorem dw_house_13 : decode method_6_code 13 = .ok (.astore 4, 2) := by decide +kernel
theorem dw_house_15 : decode method_6_code 15 = .ok (.iconst 1, 1) := by decide +kernel
theorem dw_house_16 : decode method_6_code 16 = .ok (.ireturn, 1) := by decide +kernel
theorem dw_house_5 : decode method_6_code 5 = .ok (.invokevirtual 24, 3) := by decide +kernel
theorem dw_house_8 : decode method_6_code 8 = .ok (.i2l, 1) := by decide +kernel
theorem dw_house_9 : decode method_6_code 9 = .ok (.lastore, 1) := by decide +kernel
theorem dw_house_10 : decode method_6_code 10 = .ok (.goto 7, 3) := by decide +kernel
theorem dw_house_17 : decode method_6_code 17 = .ok (.iconst 0, 1) := by decide +kernel
theorem dw_house_18 : decode method_6_code 18 = .ok (.ireturn, 1) := by decide +kernel
set_option maxHeartbeats 4000000 in
set_option maxRecDepth 100000 in
theorem wr_house {p0 p1 : Int} {k : Nat} {M : Mm} (h : SimW [(0, 1)] m_RingDater_house m_Model_house [.inl p0, .inl p1] k M) : WrC yw_house method_6_code 5 [(0, 10, 13, 18)] [.inl p0, .inl p1] M (WQ m_Model_house [.inl p0, .inl p1] k) := by
  refine wr_of (by decide) rfl (fun adr o => by simp [lg_sl, cvA, Value.category]) ?_
  intro p l e s m args below meth c D tA n0 o bs adr adV f ls hfl hL X hs hh htab hret hlk hl
  have hl : lv_has ls 5 [(0, .ref (adr 0)), (1, .int (iN p0)), (2, .int (iN p1)), (3, .ref o)] := hl
  refine lv_aload_n (i := 3) (x := o) X.1 X.2.1 dw_house_0 rfl (lv_at hl 3 rfl) ?_
  refine lv_iconst (v := 0) X.1 X.2.1 dw_house_1 (by decide) ?_
  refine lv_aload_n (i := 0) (x := adr 0) X.1 X.2.1 dw_house_2 rfl (lv_at hl 0 rfl) ?_
  refine lv_iload_n (i := 1) (x := iN p0) X.1 X.2.1 dw_house_3 rfl (lv_at hl 1 rfl) ?_
  refine lv_iload_n (i := 2) (x := iN p1) X.1 X.2.1 dw_house_4 rfl (lv_at hl 2 rfl) ?_
  refine wr_mid (E := 17) h (fun z hz => ?_) X lwd_24 hL hs hh va_S.rf hl.1 (show (11 : Nat) = 11 from rfl) rfl (by decide +kernel) (by decide +kernel) (Nat.le_of_ble_eq_true rfl) hfl hret hlk rfl dw_house_5 dw_house_8 dw_house_9 dw_house_10 (by decide) dw_house_17 dw_house_18 (fun z hz H1 locs1 q9 ce h1 h2 h3 K => ?_)
  · simp only [List.mem_cons, List.not_mem_nil, or_false] at hz
    rcases hz with rfl <;> exact ⟨by decide, by decide, by decide⟩
  · simp only [List.mem_cons, List.not_mem_nil, or_false] at hz
    rcases hz with rfl
    · refine vx_catch (own := lwN) (name := excN 0) (E := excN 0) X.2.2.2.1 [] ⟨0, 10, 13, 18⟩ [] htab (fun z hz => by cases hz) (by decide) (by decide) (X.2.2.2.2 _ lk_18) (hs.2.2.2.1.at _ _ ex_c0) h1 h2 h3 ?_
      refine lv_astore X.1 X.2.1 dw_house_13 hl (by decide) rfl (fun ls2 hl2 => ?_)
      refine lv_iconst (v := iN 1) X.1 X.2.1 dw_house_15 (by decide) ?_
      exact K _ _ dw_house_16
def yw_ring : MethodName := ⟨lwN, "ring", "(LRingDater;III[J)I"⟩
set_option maxRecDepth 100000 in
theorem ww_ring : LWw 95 yw_ring method_7_code 6 [(0, 12, 15, 18)] 5 := ⟨⟨gW_at (i := 1284) rfl rfl, gW_at (i := 1285) rfl rfl⟩, ⟨gW_at (i := 102) rfl rfl, gW_at (i := 1286) rfl rfl⟩, ⟨by decide, by decide, rfl⟩, by decide⟩
set_option maxRecDepth 100000 in
theorem lwd_27 : LWd 27 m_RingDater_ring := ⟨⟨gW_at (i := 1287) rfl rfl, gW_at (i := 1288) rfl rfl⟩, ⟨gW_at (i := 1289) rfl rfl, gW_at (i := 103) rfl rfl⟩, rfl, by decide⟩
theorem dw_ring_0 : decode method_7_code 0 = .ok (.aload 4, 2) := by decide +kernel
theorem dw_ring_2 : decode method_7_code 2 = .ok (.iconst 0, 1) := by decide +kernel
theorem dw_ring_3 : decode method_7_code 3 = .ok (.aload_n 0, 1) := by decide +kernel
theorem dw_ring_4 : decode method_7_code 4 = .ok (.iload_n 1, 1) := by decide +kernel
theorem dw_ring_5 : decode method_7_code 5 = .ok (.iload_n 2, 1) := by decide +kernel
theorem dw_ring_6 : decode method_7_code 6 = .ok (.iload_n 3, 1) := by decide +kernel
theorem dw_ring_15 : decode method_7_code 15 = .ok (.astore 5, 2) := by decide +kernel
theorem dw_ring_17 : decode method_7_code 17 = .ok (.iconst 1, 1) := by decide +kernel
theorem dw_ring_18 : decode method_7_code 18 = .ok (.ireturn, 1) := by decide +kernel
theorem dw_ring_7 : decode method_7_code 7 = .ok (.invokevirtual 27, 3) := by decide +kernel
theorem dw_ring_10 : decode method_7_code 10 = .ok (.i2l, 1) := by decide +kernel
theorem dw_ring_11 : decode method_7_code 11 = .ok (.lastore, 1) := by decide +kernel
theorem dw_ring_12 : decode method_7_code 12 = .ok (.goto 7, 3) := by decide +kernel
theorem dw_ring_19 : decode method_7_code 19 = .ok (.iconst 0, 1) := by decide +kernel
theorem dw_ring_20 : decode method_7_code 20 = .ok (.ireturn, 1) := by decide +kernel
set_option maxHeartbeats 4000000 in
set_option maxRecDepth 100000 in
theorem wr_ring {p0 p1 p2 : Int} {k : Nat} {M : Mm} (h : SimW [(0, 1)] m_RingDater_ring m_Model_ring [.inl p0, .inl p1, .inl p2] k M) : WrC yw_ring method_7_code 6 [(0, 12, 15, 18)] [.inl p0, .inl p1, .inl p2] M (WQ m_Model_ring [.inl p0, .inl p1, .inl p2] k) := by
  refine wr_of (by decide) rfl (fun adr o => by simp [lg_sl, cvA, Value.category]) ?_
  intro p l e s m args below meth c D tA n0 o bs adr adV f ls hfl hL X hs hh htab hret hlk hl
  have hl : lv_has ls 6 [(0, .ref (adr 0)), (1, .int (iN p0)), (2, .int (iN p1)), (3, .int (iN p2)), (4, .ref o)] := hl
  refine lv_aload (x := o) X.1 X.2.1 dw_ring_0 (lv_at hl 4 rfl) ?_
  refine lv_iconst (v := 0) X.1 X.2.1 dw_ring_2 (by decide) ?_
  refine lv_aload_n (i := 0) (x := adr 0) X.1 X.2.1 dw_ring_3 rfl (lv_at hl 0 rfl) ?_
  refine lv_iload_n (i := 1) (x := iN p0) X.1 X.2.1 dw_ring_4 rfl (lv_at hl 1 rfl) ?_
  refine lv_iload_n (i := 2) (x := iN p1) X.1 X.2.1 dw_ring_5 rfl (lv_at hl 2 rfl) ?_
  refine lv_iload_n (i := 3) (x := iN p2) X.1 X.2.1 dw_ring_6 rfl (lv_at hl 3 rfl) ?_
  refine wr_mid (E := 19) h (fun z hz => ?_) X lwd_27 hL hs hh va_S.rf hl.1 (show (11 : Nat) = 11 from rfl) rfl (by decide +kernel) (by decide +kernel) (Nat.le_of_ble_eq_true rfl) hfl hret hlk rfl dw_ring_7 dw_ring_10 dw_ring_11 dw_ring_12 (by decide) dw_ring_19 dw_ring_20 (fun z hz H1 locs1 q9 ce h1 h2 h3 K => ?_)
  · simp only [List.mem_cons, List.not_mem_nil, or_false] at hz
    rcases hz with rfl <;> exact ⟨by decide, by decide, by decide⟩
  · simp only [List.mem_cons, List.not_mem_nil, or_false] at hz
    rcases hz with rfl
    · refine vx_catch (own := lwN) (name := excN 0) (E := excN 0) X.2.2.2.1 [] ⟨0, 12, 15, 18⟩ [] htab (fun z hz => by cases hz) (by decide) (by decide) (X.2.2.2.2 _ lk_18) (hs.2.2.2.1.at _ _ ex_c0) h1 h2 h3 ?_
      refine lv_astore X.1 X.2.1 dw_ring_15 hl (by decide) rfl (fun ls2 hl2 => ?_)
      refine lv_iconst (v := iN 1) X.1 X.2.1 dw_ring_17 (by decide) ?_
      exact K _ _ dw_ring_18
def yw_pointer : MethodName := ⟨lwN, "pointer", "(LRingDater;II[J)I"⟩
set_option maxRecDepth 100000 in
theorem ww_pointer : LWw 107 yw_pointer method_8_code 5 [(0, 10, 13, 18)] 4 := ⟨⟨gW_at (i := 1297) rfl rfl, gW_at (i := 1298) rfl rfl⟩, ⟨gW_at (i := 102) rfl rfl, gW_at (i := 1299) rfl rfl⟩, ⟨by decide, by decide, rfl⟩, by decide⟩
set_option maxRecDepth 100000 in
theorem lwd_31 : LWd 31 m_RingDater_pointer := ⟨⟨gW_at (i := 1300) rfl rfl, gW_at (i := 1301) rfl rfl⟩, ⟨gW_at (i := 1302) rfl rfl, gW_at (i := 103) rfl rfl⟩, rfl, by decide⟩
theorem dw_pointer_0 : decode method_8_code 0 = .ok (.aload_n 3, 1) := by decide +kernel
theorem dw_pointer_1 : decode method_8_code 1 = .ok (.iconst 0, 1) := by decide +kernel
theorem dw_pointer_2 : decode method_8_code 2 = .ok (.aload_n 0, 1) := by decide +kernel
theorem dw_pointer_3 : decode method_8_code 3 = .ok (.iload_n 1, 1) := by decide +kernel
theorem dw_pointer_4 : decode method_8_code 4 = .ok (.iload_n 2, 1) := by decide +kernel
theorem dw_pointer_13 : decode method_8_code 13 = .ok (.astore 4, 2) := by decide +kernel
theorem dw_pointer_15 : decode method_8_code 15 = .ok (.iconst 1, 1) := by decide +kernel
theorem dw_pointer_16 : decode method_8_code 16 = .ok (.ireturn, 1) := by decide +kernel
theorem dw_pointer_5 : decode method_8_code 5 = .ok (.invokevirtual 31, 3) := by decide +kernel
theorem dw_pointer_8 : decode method_8_code 8 = .ok (.i2l, 1) := by decide +kernel
theorem dw_pointer_9 : decode method_8_code 9 = .ok (.lastore, 1) := by decide +kernel
theorem dw_pointer_10 : decode method_8_code 10 = .ok (.goto 7, 3) := by decide +kernel
theorem dw_pointer_17 : decode method_8_code 17 = .ok (.iconst 0, 1) := by decide +kernel
theorem dw_pointer_18 : decode method_8_code 18 = .ok (.ireturn, 1) := by decide +kernel
set_option maxHeartbeats 4000000 in
set_option maxRecDepth 100000 in
theorem wr_pointer {p0 p1 : Int} {k : Nat} {M : Mm} (h : SimW [(0, 1)] m_RingDater_pointer m_Model_pointer [.inl p0, .inl p1] k M) : WrC yw_pointer method_8_code 5 [(0, 10, 13, 18)] [.inl p0, .inl p1] M (WQ m_Model_pointer [.inl p0, .inl p1] k) := by
  refine wr_of (by decide) rfl (fun adr o => by simp [lg_sl, cvA, Value.category]) ?_
  intro p l e s m args below meth c D tA n0 o bs adr adV f ls hfl hL X hs hh htab hret hlk hl
  have hl : lv_has ls 5 [(0, .ref (adr 0)), (1, .int (iN p0)), (2, .int (iN p1)), (3, .ref o)] := hl
  refine lv_aload_n (i := 3) (x := o) X.1 X.2.1 dw_pointer_0 rfl (lv_at hl 3 rfl) ?_
  refine lv_iconst (v := 0) X.1 X.2.1 dw_pointer_1 (by decide) ?_
  refine lv_aload_n (i := 0) (x := adr 0) X.1 X.2.1 dw_pointer_2 rfl (lv_at hl 0 rfl) ?_
  refine lv_iload_n (i := 1) (x := iN p0) X.1 X.2.1 dw_pointer_3 rfl (lv_at hl 1 rfl) ?_
  refine lv_iload_n (i := 2) (x := iN p1) X.1 X.2.1 dw_pointer_4 rfl (lv_at hl 2 rfl) ?_
  refine wr_mid (E := 17) h (fun z hz => ?_) X lwd_31 hL hs hh va_S.rf hl.1 (show (11 : Nat) = 11 from rfl) rfl (by decide +kernel) (by decide +kernel) (Nat.le_of_ble_eq_true rfl) hfl hret hlk rfl dw_pointer_5 dw_pointer_8 dw_pointer_9 dw_pointer_10 (by decide) dw_pointer_17 dw_pointer_18 (fun z hz H1 locs1 q9 ce h1 h2 h3 K => ?_)
  · simp only [List.mem_cons, List.not_mem_nil, or_false] at hz
    rcases hz with rfl <;> exact ⟨by decide, by decide, by decide⟩
  · simp only [List.mem_cons, List.not_mem_nil, or_false] at hz
    rcases hz with rfl
    · refine vx_catch (own := lwN) (name := excN 0) (E := excN 0) X.2.2.2.1 [] ⟨0, 10, 13, 18⟩ [] htab (fun z hz => by cases hz) (by decide) (by decide) (X.2.2.2.2 _ lk_18) (hs.2.2.2.1.at _ _ ex_c0) h1 h2 h3 ?_
      refine lv_astore X.1 X.2.1 dw_pointer_13 hl (by decide) rfl (fun ls2 hl2 => ?_)
      refine lv_iconst (v := iN 1) X.1 X.2.1 dw_pointer_15 (by decide) ?_
      exact K _ _ dw_pointer_16
def yw_slid : MethodName := ⟨lwN, "slid", "(LRingDater;IIII[J)I"⟩
set_option maxRecDepth 100000 in
theorem ww_slid : LWw 110 yw_slid method_9_code 7 [(0, 14, 17, 18), (0, 14, 21, 13)] 6 := ⟨⟨gW_at (i := 1308) rfl rfl, gW_at (i := 1309) rfl rfl⟩, ⟨gW_at (i := 102) rfl rfl, gW_at (i := 1310) rfl rfl⟩, ⟨by decide, by decide, rfl⟩, by decide⟩
set_option maxRecDepth 100000 in
theorem lwd_34 : LWd 34 m_RingDater_slid := ⟨⟨gW_at (i := 1311) rfl rfl, gW_at (i := 1312) rfl rfl⟩, ⟨gW_at (i := 1313) rfl rfl, gW_at (i := 103) rfl rfl⟩, rfl, by decide⟩
theorem dw_slid_0 : decode method_9_code 0 = .ok (.aload 5, 2) := by decide +kernel
theorem dw_slid_2 : decode method_9_code 2 = .ok (.iconst 0, 1) := by decide +kernel
theorem dw_slid_3 : decode method_9_code 3 = .ok (.aload_n 0, 1) := by decide +kernel
theorem dw_slid_4 : decode method_9_code 4 = .ok (.iload_n 1, 1) := by decide +kernel
theorem dw_slid_5 : decode method_9_code 5 = .ok (.iload_n 2, 1) := by decide +kernel
theorem dw_slid_6 : decode method_9_code 6 = .ok (.iload_n 3, 1) := by decide +kernel
theorem dw_slid_7 : decode method_9_code 7 = .ok (.iload 4, 2) := by decide +kernel
theorem dw_slid_17 : decode method_9_code 17 = .ok (.astore 6, 2) := by decide +kernel
theorem dw_slid_19 : decode method_9_code 19 = .ok (.iconst 1, 1) := by decide +kernel
theorem dw_slid_20 : decode method_9_code 20 = .ok (.ireturn, 1) := by decide +kernel
theorem dw_slid_21 : decode method_9_code 21 = .ok (.astore 6, 2) := by decide +kernel
theorem dw_slid_23 : decode method_9_code 23 = .ok (.iconst 2, 1) := by decide +kernel
theorem dw_slid_24 : decode method_9_code 24 = .ok (.ireturn, 1) := by decide +kernel
theorem dw_slid_9 : decode method_9_code 9 = .ok (.invokevirtual 34, 3) := by decide +kernel
theorem dw_slid_12 : decode method_9_code 12 = .ok (.i2l, 1) := by decide +kernel
theorem dw_slid_13 : decode method_9_code 13 = .ok (.lastore, 1) := by decide +kernel
theorem dw_slid_14 : decode method_9_code 14 = .ok (.goto 11, 3) := by decide +kernel
theorem dw_slid_25 : decode method_9_code 25 = .ok (.iconst 0, 1) := by decide +kernel
theorem dw_slid_26 : decode method_9_code 26 = .ok (.ireturn, 1) := by decide +kernel
set_option maxHeartbeats 4000000 in
set_option maxRecDepth 100000 in
theorem wr_slid {p0 p1 p2 p3 : Int} {k : Nat} {M : Mm} (h : SimW [(0, 1), (1, 2)] m_RingDater_slid m_Model_slid [.inl p0, .inl p1, .inl p2, .inl p3] k M) : WrC yw_slid method_9_code 7 [(0, 14, 17, 18), (0, 14, 21, 13)] [.inl p0, .inl p1, .inl p2, .inl p3] M (WQ m_Model_slid [.inl p0, .inl p1, .inl p2, .inl p3] k) := by
  refine wr_of (by decide) rfl (fun adr o => by simp [lg_sl, cvA, Value.category]) ?_
  intro p l e s m args below meth c D tA n0 o bs adr adV f ls hfl hL X hs hh htab hret hlk hl
  have hl : lv_has ls 7 [(0, .ref (adr 0)), (1, .int (iN p0)), (2, .int (iN p1)), (3, .int (iN p2)), (4, .int (iN p3)), (5, .ref o)] := hl
  refine lv_aload (x := o) X.1 X.2.1 dw_slid_0 (lv_at hl 5 rfl) ?_
  refine lv_iconst (v := 0) X.1 X.2.1 dw_slid_2 (by decide) ?_
  refine lv_aload_n (i := 0) (x := adr 0) X.1 X.2.1 dw_slid_3 rfl (lv_at hl 0 rfl) ?_
  refine lv_iload_n (i := 1) (x := iN p0) X.1 X.2.1 dw_slid_4 rfl (lv_at hl 1 rfl) ?_
  refine lv_iload_n (i := 2) (x := iN p1) X.1 X.2.1 dw_slid_5 rfl (lv_at hl 2 rfl) ?_
  refine lv_iload_n (i := 3) (x := iN p2) X.1 X.2.1 dw_slid_6 rfl (lv_at hl 3 rfl) ?_
  refine lv_iload (x := iN p3) X.1 X.2.1 dw_slid_7 (lv_at hl 4 rfl) ?_
  refine wr_mid (E := 25) h (fun z hz => ?_) X lwd_34 hL hs hh va_S.rf hl.1 (show (11 : Nat) = 11 from rfl) rfl (by decide +kernel) (by decide +kernel) (Nat.le_of_ble_eq_true rfl) hfl hret hlk rfl dw_slid_9 dw_slid_12 dw_slid_13 dw_slid_14 (by decide) dw_slid_25 dw_slid_26 (fun z hz H1 locs1 q9 ce h1 h2 h3 K => ?_)
  · simp only [List.mem_cons, List.not_mem_nil, or_false] at hz
    rcases hz with rfl | rfl <;> exact ⟨by decide, by decide, by decide⟩
  · simp only [List.mem_cons, List.not_mem_nil, or_false] at hz
    rcases hz with rfl | rfl
    · refine vx_catch (own := lwN) (name := excN 0) (E := excN 0) X.2.2.2.1 [] ⟨0, 14, 17, 18⟩ [⟨0, 14, 21, 13⟩] htab (fun z hz => by cases hz) (by decide) (by decide) (X.2.2.2.2 _ lk_18) (hs.2.2.2.1.at _ _ ex_c0) h1 h2 h3 ?_
      refine lv_astore X.1 X.2.1 dw_slid_17 hl (by decide) rfl (fun ls2 hl2 => ?_)
      refine lv_iconst (v := iN 1) X.1 X.2.1 dw_slid_19 (by decide) ?_
      exact K _ _ dw_slid_20
    · refine vx_catch (own := lwN) (name := excN 1) (E := excN 1) X.2.2.2.1 [⟨0, 14, 17, 18⟩] ⟨0, 14, 21, 13⟩ [] htab (fun z hz => by
        obtain rfl := List.mem_singleton.mp hz
        exact .inr ⟨by decide, excN 0, X.2.2.2.2 _ lk_18, hs.2.2.2.2.1⟩) (by decide) (by decide) (X.2.2.2.2 _ lk_13) (hs.2.2.2.1.at _ _ ex_c1) h1 h2 h3 ?_
      refine lv_astore X.1 X.2.1 dw_slid_21 hl (by decide) rfl (fun ls2 hl2 => ?_)
      refine lv_iconst (v := iN 2) X.1 X.2.1 dw_slid_23 (by decide) ?_
      exact K _ _ dw_slid_24
def yw_best : MethodName := ⟨lwN, "best", "(LRingDater;III[J)I"⟩
set_option maxRecDepth 100000 in
theorem ww_best : LWw 114 yw_best method_10_code 6 [(0, 12, 15, 18), (0, 12, 19, 13)] 5 := ⟨⟨gW_at (i := 1319) rfl rfl, gW_at (i := 1320) rfl rfl⟩, ⟨gW_at (i := 102) rfl rfl, gW_at (i := 1321) rfl rfl⟩, ⟨by decide, by decide, rfl⟩, by decide⟩
set_option maxRecDepth 100000 in
theorem lwd_38 : LWd 38 m_RingDater_best := ⟨⟨gW_at (i := 1322) rfl rfl, gW_at (i := 1323) rfl rfl⟩, ⟨gW_at (i := 1324) rfl rfl, gW_at (i := 103) rfl rfl⟩, rfl, by decide⟩
theorem dw_best_0 : decode method_10_code 0 = .ok (.aload 4, 2) := by decide +kernel
theorem dw_best_2 : decode method_10_code 2 = .ok (.iconst 0, 1) := by decide +kernel
theorem dw_best_3 : decode method_10_code 3 = .ok (.aload_n 0, 1) := by decide +kernel
theorem dw_best_4 : decode method_10_code 4 = .ok (.iload_n 1, 1) := by decide +kernel
theorem dw_best_5 : decode method_10_code 5 = .ok (.iload_n 2, 1) := by decide +kernel
theorem dw_best_6 : decode method_10_code 6 = .ok (.iload_n 3, 1) := by decide +kernel
theorem dw_best_15 : decode method_10_code 15 = .ok (.astore 5, 2) := by decide +kernel
theorem dw_best_17 : decode method_10_code 17 = .ok (.iconst 1, 1) := by decide +kernel
theorem dw_best_18 : decode method_10_code 18 = .ok (.ireturn, 1) := by decide +kernel
theorem dw_best_19 : decode method_10_code 19 = .ok (.astore 5, 2) := by decide +kernel
theorem dw_best_21 : decode method_10_code 21 = .ok (.iconst 2, 1) := by decide +kernel
theorem dw_best_22 : decode method_10_code 22 = .ok (.ireturn, 1) := by decide +kernel
theorem dw_best_7 : decode method_10_code 7 = .ok (.invokevirtual 38, 3) := by decide +kernel
theorem dw_best_10 : decode method_10_code 10 = .ok (.i2l, 1) := by decide +kernel
theorem dw_best_11 : decode method_10_code 11 = .ok (.lastore, 1) := by decide +kernel
theorem dw_best_12 : decode method_10_code 12 = .ok (.goto 11, 3) := by decide +kernel
theorem dw_best_23 : decode method_10_code 23 = .ok (.iconst 0, 1) := by decide +kernel
theorem dw_best_24 : decode method_10_code 24 = .ok (.ireturn, 1) := by decide +kernel
set_option maxHeartbeats 4000000 in
set_option maxRecDepth 100000 in
theorem wr_best {p0 p1 p2 : Int} {k : Nat} {M : Mm} (h : SimW [(0, 1), (1, 2)] m_RingDater_best m_Model_best [.inl p0, .inl p1, .inl p2] k M) : WrC yw_best method_10_code 6 [(0, 12, 15, 18), (0, 12, 19, 13)] [.inl p0, .inl p1, .inl p2] M (WQ m_Model_best [.inl p0, .inl p1, .inl p2] k) := by
  refine wr_of (by decide) rfl (fun adr o => by simp [lg_sl, cvA, Value.category]) ?_
  intro p l e s m args below meth c D tA n0 o bs adr adV f ls hfl hL X hs hh htab hret hlk hl
  have hl : lv_has ls 6 [(0, .ref (adr 0)), (1, .int (iN p0)), (2, .int (iN p1)), (3, .int (iN p2)), (4, .ref o)] := hl
  refine lv_aload (x := o) X.1 X.2.1 dw_best_0 (lv_at hl 4 rfl) ?_
  refine lv_iconst (v := 0) X.1 X.2.1 dw_best_2 (by decide) ?_
  refine lv_aload_n (i := 0) (x := adr 0) X.1 X.2.1 dw_best_3 rfl (lv_at hl 0 rfl) ?_
  refine lv_iload_n (i := 1) (x := iN p0) X.1 X.2.1 dw_best_4 rfl (lv_at hl 1 rfl) ?_
  refine lv_iload_n (i := 2) (x := iN p1) X.1 X.2.1 dw_best_5 rfl (lv_at hl 2 rfl) ?_
  refine lv_iload_n (i := 3) (x := iN p2) X.1 X.2.1 dw_best_6 rfl (lv_at hl 3 rfl) ?_
  refine wr_mid (E := 23) h (fun z hz => ?_) X lwd_38 hL hs hh va_S.rf hl.1 (show (11 : Nat) = 11 from rfl) rfl (by decide +kernel) (by decide +kernel) (Nat.le_of_ble_eq_true rfl) hfl hret hlk rfl dw_best_7 dw_best_10 dw_best_11 dw_best_12 (by decide) dw_best_23 dw_best_24 (fun z hz H1 locs1 q9 ce h1 h2 h3 K => ?_)
  · simp only [List.mem_cons, List.not_mem_nil, or_false] at hz
    rcases hz with rfl | rfl <;> exact ⟨by decide, by decide, by decide⟩
  · simp only [List.mem_cons, List.not_mem_nil, or_false] at hz
    rcases hz with rfl | rfl
    · refine vx_catch (own := lwN) (name := excN 0) (E := excN 0) X.2.2.2.1 [] ⟨0, 12, 15, 18⟩ [⟨0, 12, 19, 13⟩] htab (fun z hz => by cases hz) (by decide) (by decide) (X.2.2.2.2 _ lk_18) (hs.2.2.2.1.at _ _ ex_c0) h1 h2 h3 ?_
      refine lv_astore X.1 X.2.1 dw_best_15 hl (by decide) rfl (fun ls2 hl2 => ?_)
      refine lv_iconst (v := iN 1) X.1 X.2.1 dw_best_17 (by decide) ?_
      exact K _ _ dw_best_18
    · refine vx_catch (own := lwN) (name := excN 1) (E := excN 1) X.2.2.2.1 [⟨0, 12, 15, 18⟩] ⟨0, 12, 19, 13⟩ [] htab (fun z hz => by
        obtain rfl := List.mem_singleton.mp hz
        exact .inr ⟨by decide, excN 0, X.2.2.2.2 _ lk_18, hs.2.2.2.2.1⟩) (by decide) (by decide) (X.2.2.2.2 _ lk_13) (hs.2.2.2.1.at _ _ ex_c1) h1 h2 h3 ?_
      refine lv_astore X.1 X.2.1 dw_best_19 hl (by decide) rfl (fun ls2 hl2 => ?_)
      refine lv_iconst (v := iN 2) X.1 X.2.1 dw_best_21 (by decide) ?_
      exact K _ _ dw_best_22
def yw_link : MethodName := ⟨lwN, "link", "(LRingDater;II[J)I"⟩
set_option maxRecDepth 100000 in
theorem ww_link : LWw 117 yw_link method_11_code 5 [(0, 10, 13, 18)] 4 := ⟨⟨gW_at (i := 1327) rfl rfl, gW_at (i := 1328) rfl rfl⟩, ⟨gW_at (i := 102) rfl rfl, gW_at (i := 1329) rfl rfl⟩, ⟨by decide, by decide, rfl⟩, by decide⟩
set_option maxRecDepth 100000 in
theorem lwd_41 : LWd 41 m_RingDater_link := ⟨⟨gW_at (i := 1330) rfl rfl, gW_at (i := 1331) rfl rfl⟩, ⟨gW_at (i := 1332) rfl rfl, gW_at (i := 103) rfl rfl⟩, rfl, by decide⟩
theorem dw_link_0 : decode method_11_code 0 = .ok (.aload_n 3, 1) := by decide +kernel
theorem dw_link_1 : decode method_11_code 1 = .ok (.iconst 0, 1) := by decide +kernel
theorem dw_link_2 : decode method_11_code 2 = .ok (.aload_n 0, 1) := by decide +kernel
theorem dw_link_3 : decode method_11_code 3 = .ok (.iload_n 1, 1) := by decide +kernel
theorem dw_link_4 : decode method_11_code 4 = .ok (.iload_n 2, 1) := by decide +kernel
theorem dw_link_13 : decode method_11_code 13 = .ok (.astore 4, 2) := by decide +kernel
theorem dw_link_15 : decode method_11_code 15 = .ok (.iconst 1, 1) := by decide +kernel
theorem dw_link_16 : decode method_11_code 16 = .ok (.ireturn, 1) := by decide +kernel
theorem dw_link_5 : decode method_11_code 5 = .ok (.invokevirtual 41, 3) := by decide +kernel
theorem dw_link_8 : decode method_11_code 8 = .ok (.i2l, 1) := by decide +kernel
theorem dw_link_9 : decode method_11_code 9 = .ok (.lastore, 1) := by decide +kernel
theorem dw_link_10 : decode method_11_code 10 = .ok (.goto 7, 3) := by decide +kernel
theorem dw_link_17 : decode method_11_code 17 = .ok (.iconst 0, 1) := by decide +kernel
theorem dw_link_18 : decode method_11_code 18 = .ok (.ireturn, 1) := by decide +kernel
set_option maxHeartbeats 4000000 in
set_option maxRecDepth 100000 in
theorem wr_link {p0 p1 : Int} {k : Nat} {M : Mm} (h : SimW [(0, 1)] m_RingDater_link m_Model_link [.inl p0, .inl p1] k M) : WrC yw_link method_11_code 5 [(0, 10, 13, 18)] [.inl p0, .inl p1] M (WQ m_Model_link [.inl p0, .inl p1] k) := by
  refine wr_of (by decide) rfl (fun adr o => by simp [lg_sl, cvA, Value.category]) ?_
  intro p l e s m args below meth c D tA n0 o bs adr adV f ls hfl hL X hs hh htab hret hlk hl
  have hl : lv_has ls 5 [(0, .ref (adr 0)), (1, .int (iN p0)), (2, .int (iN p1)), (3, .ref o)] := hl
  refine lv_aload_n (i := 3) (x := o) X.1 X.2.1 dw_link_0 rfl (lv_at hl 3 rfl) ?_
  refine lv_iconst (v := 0) X.1 X.2.1 dw_link_1 (by decide) ?_
  refine lv_aload_n (i := 0) (x := adr 0) X.1 X.2.1 dw_link_2 rfl (lv_at hl 0 rfl) ?_
  refine lv_iload_n (i := 1) (x := iN p0) X.1 X.2.1 dw_link_3 rfl (lv_at hl 1 rfl) ?_
  refine lv_iload_n (i := 2) (x := iN p1) X.1 X.2.1 dw_link_4 rfl (lv_at hl 2 rfl) ?_
  refine wr_mid (E := 17) h (fun z hz => ?_) X lwd_41 hL hs hh va_S.rf hl.1 (show (11 : Nat) = 11 from rfl) rfl (by decide +kernel) (by decide +kernel) (Nat.le_of_ble_eq_true rfl) hfl hret hlk rfl dw_link_5 dw_link_8 dw_link_9 dw_link_10 (by decide) dw_link_17 dw_link_18 (fun z hz H1 locs1 q9 ce h1 h2 h3 K => ?_)
  · simp only [List.mem_cons, List.not_mem_nil, or_false] at hz
    rcases hz with rfl <;> exact ⟨by decide, by decide, by decide⟩
  · simp only [List.mem_cons, List.not_mem_nil, or_false] at hz
    rcases hz with rfl
    · refine vx_catch (own := lwN) (name := excN 0) (E := excN 0) X.2.2.2.1 [] ⟨0, 10, 13, 18⟩ [] htab (fun z hz => by cases hz) (by decide) (by decide) (X.2.2.2.2 _ lk_18) (hs.2.2.2.1.at _ _ ex_c0) h1 h2 h3 ?_
      refine lv_astore X.1 X.2.1 dw_link_13 hl (by decide) rfl (fun ls2 hl2 => ?_)
      refine lv_iconst (v := iN 1) X.1 X.2.1 dw_link_15 (by decide) ?_
      exact K _ _ dw_link_16
def yw_grown : MethodName := ⟨lwN, "grown", "(LRingDater;II[J)I"⟩
set_option maxRecDepth 100000 in
theorem ww_grown : LWw 120 yw_grown method_12_code 5 [(0, 10, 13, 18)] 4 := ⟨⟨gW_at (i := 1338) rfl rfl, gW_at (i := 1339) rfl rfl⟩, ⟨gW_at (i := 102) rfl rfl, gW_at (i := 1340) rfl rfl⟩, ⟨by decide, by decide, rfl⟩, by decide⟩
set_option maxRecDepth 100000 in
theorem lwd_44 : LWd 44 m_RingDater_grown := ⟨⟨gW_at (i := 1341) rfl rfl, gW_at (i := 1342) rfl rfl⟩, ⟨gW_at (i := 1343) rfl rfl, gW_at (i := 103) rfl rfl⟩, rfl, by decide⟩
theorem dw_grown_0 : decode method_12_code 0 = .ok (.aload_n 3, 1) := by decide +kernel
theorem dw_grown_1 : decode method_12_code 1 = .ok (.iconst 0, 1) := by decide +kernel
theorem dw_grown_2 : decode method_12_code 2 = .ok (.aload_n 0, 1) := by decide +kernel
theorem dw_grown_3 : decode method_12_code 3 = .ok (.iload_n 1, 1) := by decide +kernel
theorem dw_grown_4 : decode method_12_code 4 = .ok (.iload_n 2, 1) := by decide +kernel
theorem dw_grown_13 : decode method_12_code 13 = .ok (.astore 4, 2) := by decide +kernel
theorem dw_grown_15 : decode method_12_code 15 = .ok (.iconst 1, 1) := by decide +kernel
theorem dw_grown_16 : decode method_12_code 16 = .ok (.ireturn, 1) := by decide +kernel
theorem dw_grown_5 : decode method_12_code 5 = .ok (.invokevirtual 44, 3) := by decide +kernel
theorem dw_grown_8 : decode method_12_code 8 = .ok (.i2l, 1) := by decide +kernel
theorem dw_grown_9 : decode method_12_code 9 = .ok (.lastore, 1) := by decide +kernel
theorem dw_grown_10 : decode method_12_code 10 = .ok (.goto 7, 3) := by decide +kernel
theorem dw_grown_17 : decode method_12_code 17 = .ok (.iconst 0, 1) := by decide +kernel
theorem dw_grown_18 : decode method_12_code 18 = .ok (.ireturn, 1) := by decide +kernel
set_option maxHeartbeats 4000000 in
set_option maxRecDepth 100000 in
theorem wr_grown {p0 p1 : Int} {k : Nat} {M : Mm} (h : SimW [(0, 1)] m_RingDater_grown m_Model_grown [.inl p0, .inl p1] k M) : WrC yw_grown method_12_code 5 [(0, 10, 13, 18)] [.inl p0, .inl p1] M (WQ m_Model_grown [.inl p0, .inl p1] k) := by
  refine wr_of (by decide) rfl (fun adr o => by simp [lg_sl, cvA, Value.category]) ?_
  intro p l e s m args below meth c D tA n0 o bs adr adV f ls hfl hL X hs hh htab hret hlk hl
  have hl : lv_has ls 5 [(0, .ref (adr 0)), (1, .int (iN p0)), (2, .int (iN p1)), (3, .ref o)] := hl
  refine lv_aload_n (i := 3) (x := o) X.1 X.2.1 dw_grown_0 rfl (lv_at hl 3 rfl) ?_
  refine lv_iconst (v := 0) X.1 X.2.1 dw_grown_1 (by decide) ?_
  refine lv_aload_n (i := 0) (x := adr 0) X.1 X.2.1 dw_grown_2 rfl (lv_at hl 0 rfl) ?_
  refine lv_iload_n (i := 1) (x := iN p0) X.1 X.2.1 dw_grown_3 rfl (lv_at hl 1 rfl) ?_
  refine lv_iload_n (i := 2) (x := iN p1) X.1 X.2.1 dw_grown_4 rfl (lv_at hl 2 rfl) ?_
  refine wr_mid (E := 17) h (fun z hz => ?_) X lwd_44 hL hs hh va_S.rf hl.1 (show (11 : Nat) = 11 from rfl) rfl (by decide +kernel) (by decide +kernel) (Nat.le_of_ble_eq_true rfl) hfl hret hlk rfl dw_grown_5 dw_grown_8 dw_grown_9 dw_grown_10 (by decide) dw_grown_17 dw_grown_18 (fun z hz H1 locs1 q9 ce h1 h2 h3 K => ?_)
  · simp only [List.mem_cons, List.not_mem_nil, or_false] at hz
    rcases hz with rfl <;> exact ⟨by decide, by decide, by decide⟩
  · simp only [List.mem_cons, List.not_mem_nil, or_false] at hz
    rcases hz with rfl
    · refine vx_catch (own := lwN) (name := excN 0) (E := excN 0) X.2.2.2.1 [] ⟨0, 10, 13, 18⟩ [] htab (fun z hz => by cases hz) (by decide) (by decide) (X.2.2.2.2 _ lk_18) (hs.2.2.2.1.at _ _ ex_c0) h1 h2 h3 ?_
      refine lv_astore X.1 X.2.1 dw_grown_13 hl (by decide) rfl (fun ls2 hl2 => ?_)
      refine lv_iconst (v := iN 1) X.1 X.2.1 dw_grown_15 (by decide) ?_
      exact K _ _ dw_grown_16
def yw_help : MethodName := ⟨lwN, "help", "(LRingDater;II[J)I"⟩
set_option maxRecDepth 100000 in
theorem ww_help : LWw 123 yw_help method_13_code 5 [(0, 10, 13, 18), (0, 10, 17, 13)] 4 := ⟨⟨gW_at (i := 1345) rfl rfl, gW_at (i := 1346) rfl rfl⟩, ⟨gW_at (i := 102) rfl rfl, gW_at (i := 1347) rfl rfl⟩, ⟨by decide, by decide, rfl⟩, by decide⟩
set_option maxRecDepth 100000 in
theorem lwd_47 : LWd 47 m_RingDater_help := ⟨⟨gW_at (i := 1348) rfl rfl, gW_at (i := 1349) rfl rfl⟩, ⟨gW_at (i := 1350) rfl rfl, gW_at (i := 103) rfl rfl⟩, rfl, by decide⟩
theorem dw_help_0 : decode method_13_code 0 = .ok (.aload_n 3, 1) := by decide +kernel
theorem dw_help_1 : decode method_13_code 1 = .ok (.iconst 0, 1) := by decide +kernel
theorem dw_help_2 : decode method_13_code 2 = .ok (.aload_n 0, 1) := by decide +kernel
theorem dw_help_3 : decode method_13_code 3 = .ok (.iload_n 1, 1) := by decide +kernel
theorem dw_help_4 : decode method_13_code 4 = .ok (.iload_n 2, 1) := by decide +kernel
theorem dw_help_13 : decode method_13_code 13 = .ok (.astore 4, 2) := by decide +kernel
theorem dw_help_15 : decode method_13_code 15 = .ok (.iconst 1, 1) := by decide +kernel
theorem dw_help_16 : decode method_13_code 16 = .ok (.ireturn, 1) := by decide +kernel
theorem dw_help_17 : decode method_13_code 17 = .ok (.astore 4, 2) := by decide +kernel
theorem dw_help_19 : decode method_13_code 19 = .ok (.iconst 2, 1) := by decide +kernel
theorem dw_help_20 : decode method_13_code 20 = .ok (.ireturn, 1) := by decide +kernel
theorem dw_help_5 : decode method_13_code 5 = .ok (.invokevirtual 47, 3) := by decide +kernel
theorem dw_help_8 : decode method_13_code 8 = .ok (.i2l, 1) := by decide +kernel
theorem dw_help_9 : decode method_13_code 9 = .ok (.lastore, 1) := by decide +kernel
theorem dw_help_10 : decode method_13_code 10 = .ok (.goto 11, 3) := by decide +kernel
theorem dw_help_21 : decode method_13_code 21 = .ok (.iconst 0, 1) := by decide +kernel
theorem dw_help_22 : decode method_13_code 22 = .ok (.ireturn, 1) := by decide +kernel
set_option maxHeartbeats 4000000 in
set_option maxRecDepth 100000 in
theorem wr_help {p0 p1 : Int} {k : Nat} {M : Mm} (h : SimW [(0, 1), (1, 2)] m_RingDater_help m_Model_help [.inl p0, .inl p1] k M) : WrC yw_help method_13_code 5 [(0, 10, 13, 18), (0, 10, 17, 13)] [.inl p0, .inl p1] M (WQ m_Model_help [.inl p0, .inl p1] k) := by
  refine wr_of (by decide) rfl (fun adr o => by simp [lg_sl, cvA, Value.category]) ?_
  intro p l e s m args below meth c D tA n0 o bs adr adV f ls hfl hL X hs hh htab hret hlk hl
  have hl : lv_has ls 5 [(0, .ref (adr 0)), (1, .int (iN p0)), (2, .int (iN p1)), (3, .ref o)] := hl
  refine lv_aload_n (i := 3) (x := o) X.1 X.2.1 dw_help_0 rfl (lv_at hl 3 rfl) ?_
  refine lv_iconst (v := 0) X.1 X.2.1 dw_help_1 (by decide) ?_
  refine lv_aload_n (i := 0) (x := adr 0) X.1 X.2.1 dw_help_2 rfl (lv_at hl 0 rfl) ?_
  refine lv_iload_n (i := 1) (x := iN p0) X.1 X.2.1 dw_help_3 rfl (lv_at hl 1 rfl) ?_
  refine lv_iload_n (i := 2) (x := iN p1) X.1 X.2.1 dw_help_4 rfl (lv_at hl 2 rfl) ?_
  refine wr_mid (E := 21) h (fun z hz => ?_) X lwd_47 hL hs hh va_S.rf hl.1 (show (11 : Nat) = 11 from rfl) rfl (by decide +kernel) (by decide +kernel) (Nat.le_of_ble_eq_true rfl) hfl hret hlk rfl dw_help_5 dw_help_8 dw_help_9 dw_help_10 (by decide) dw_help_21 dw_help_22 (fun z hz H1 locs1 q9 ce h1 h2 h3 K => ?_)
  · simp only [List.mem_cons, List.not_mem_nil, or_false] at hz
    rcases hz with rfl | rfl <;> exact ⟨by decide, by decide, by decide⟩
  · simp only [List.mem_cons, List.not_mem_nil, or_false] at hz
    rcases hz with rfl | rfl
    · refine vx_catch (own := lwN) (name := excN 0) (E := excN 0) X.2.2.2.1 [] ⟨0, 10, 13, 18⟩ [⟨0, 10, 17, 13⟩] htab (fun z hz => by cases hz) (by decide) (by decide) (X.2.2.2.2 _ lk_18) (hs.2.2.2.1.at _ _ ex_c0) h1 h2 h3 ?_
      refine lv_astore X.1 X.2.1 dw_help_13 hl (by decide) rfl (fun ls2 hl2 => ?_)
      refine lv_iconst (v := iN 1) X.1 X.2.1 dw_help_15 (by decide) ?_
      exact K _ _ dw_help_16
    · refine vx_catch (own := lwN) (name := excN 1) (E := excN 1) X.2.2.2.1 [⟨0, 10, 13, 18⟩] ⟨0, 10, 17, 13⟩ [] htab (fun z hz => by
        obtain rfl := List.mem_singleton.mp hz
        exact .inr ⟨by decide, excN 0, X.2.2.2.2 _ lk_18, hs.2.2.2.2.1⟩) (by decide) (by decide) (X.2.2.2.2 _ lk_13) (hs.2.2.2.1.at _ _ ex_c1) h1 h2 h3 ?_
      refine lv_astore X.1 X.2.1 dw_help_17 hl (by decide) rfl (fun ls2 hl2 => ?_)
      refine lv_iconst (v := iN 2) X.1 X.2.1 dw_help_19 (by decide) ?_
      exact K _ _ dw_help_20
def yw_fits : MethodName := ⟨lwN, "fits", "(LRingDater;I[J)I"⟩
set_option maxRecDepth 100000 in
theorem ww_fits : LWw 159 yw_fits method_14_code 4 [(0, 9, 12, 18)] 3 := ⟨⟨gW_at (i := 1365) rfl rfl, gW_at (i := 1366) rfl rfl⟩, ⟨gW_at (i := 102) rfl rfl, gW_at (i := 1367) rfl rfl⟩, ⟨by decide, by decide, rfl⟩, by decide⟩
set_option maxRecDepth 100000 in
theorem lwd_50 : LWd 50 m_RingDater_fits := ⟨⟨gW_at (i := 1368) rfl rfl, gW_at (i := 1369) rfl rfl⟩, ⟨gW_at (i := 1370) rfl rfl, gW_at (i := 103) rfl rfl⟩, rfl, by decide⟩
theorem dw_fits_0 : decode method_14_code 0 = .ok (.aload_n 2, 1) := by decide +kernel
theorem dw_fits_1 : decode method_14_code 1 = .ok (.iconst 0, 1) := by decide +kernel
theorem dw_fits_2 : decode method_14_code 2 = .ok (.aload_n 0, 1) := by decide +kernel
theorem dw_fits_3 : decode method_14_code 3 = .ok (.iload_n 1, 1) := by decide +kernel
theorem dw_fits_12 : decode method_14_code 12 = .ok (.astore_n 3, 1) := by decide +kernel
theorem dw_fits_13 : decode method_14_code 13 = .ok (.iconst 1, 1) := by decide +kernel
theorem dw_fits_14 : decode method_14_code 14 = .ok (.ireturn, 1) := by decide +kernel
theorem dw_fits_4 : decode method_14_code 4 = .ok (.invokevirtual 50, 3) := by decide +kernel
theorem dw_fits_7 : decode method_14_code 7 = .ok (.i2l, 1) := by decide +kernel
theorem dw_fits_8 : decode method_14_code 8 = .ok (.lastore, 1) := by decide +kernel
theorem dw_fits_9 : decode method_14_code 9 = .ok (.goto 6, 3) := by decide +kernel
theorem dw_fits_15 : decode method_14_code 15 = .ok (.iconst 0, 1) := by decide +kernel
theorem dw_fits_16 : decode method_14_code 16 = .ok (.ireturn, 1) := by decide +kernel
set_option maxHeartbeats 4000000 in
set_option maxRecDepth 100000 in
theorem wr_fits {p0 : Int} {k : Nat} {M : Mm} (h : SimW [(0, 1)] m_RingDater_fits m_Model_fits [.inl p0] k M) : WrC yw_fits method_14_code 4 [(0, 9, 12, 18)] [.inl p0] M (WQ m_Model_fits [.inl p0] k) := by
  refine wr_of (by decide) rfl (fun adr o => by simp [lg_sl, cvA, Value.category]) ?_
  intro p l e s m args below meth c D tA n0 o bs adr adV f ls hfl hL X hs hh htab hret hlk hl
  have hl : lv_has ls 4 [(0, .ref (adr 0)), (1, .int (iN p0)), (2, .ref o)] := hl
  refine lv_aload_n (i := 2) (x := o) X.1 X.2.1 dw_fits_0 rfl (lv_at hl 2 rfl) ?_
  refine lv_iconst (v := 0) X.1 X.2.1 dw_fits_1 (by decide) ?_
  refine lv_aload_n (i := 0) (x := adr 0) X.1 X.2.1 dw_fits_2 rfl (lv_at hl 0 rfl) ?_
  refine lv_iload_n (i := 1) (x := iN p0) X.1 X.2.1 dw_fits_3 rfl (lv_at hl 1 rfl) ?_
  refine wr_mid (E := 15) h (fun z hz => ?_) X lwd_50 hL hs hh va_S.rf hl.1 (show (11 : Nat) = 11 from rfl) rfl (by decide +kernel) (by decide +kernel) (Nat.le_of_ble_eq_true rfl) hfl hret hlk rfl dw_fits_4 dw_fits_7 dw_fits_8 dw_fits_9 (by decide) dw_fits_15 dw_fits_16 (fun z hz H1 locs1 q9 ce h1 h2 h3 K => ?_)
  · simp only [List.mem_cons, List.not_mem_nil, or_false] at hz
    rcases hz with rfl <;> exact ⟨by decide, by decide, by decide⟩
  · simp only [List.mem_cons, List.not_mem_nil, or_false] at hz
    rcases hz with rfl
    · refine vx_catch (own := lwN) (name := excN 0) (E := excN 0) X.2.2.2.1 [] ⟨0, 9, 12, 18⟩ [] htab (fun z hz => by cases hz) (by decide) (by decide) (X.2.2.2.2 _ lk_18) (hs.2.2.2.1.at _ _ ex_c0) h1 h2 h3 ?_
      refine lv_astore_n (i := 3) X.1 X.2.1 dw_fits_12 rfl hl (by decide) rfl (fun ls2 hl2 => ?_)
      refine lv_iconst (v := iN 1) X.1 X.2.1 dw_fits_13 (by decide) ?_
      exact K _ _ dw_fits_14
def yw_look : MethodName := ⟨lwN, "look", "(LRingDater;I[J)I"⟩
set_option maxRecDepth 100000 in
theorem ww_look : LWw 162 yw_look method_15_code 4 [(0, 9, 12, 18)] 3 := ⟨⟨gW_at (i := 1382) rfl rfl, gW_at (i := 1383) rfl rfl⟩, ⟨gW_at (i := 102) rfl rfl, gW_at (i := 1384) rfl rfl⟩, ⟨by decide, by decide, rfl⟩, by decide⟩
set_option maxRecDepth 100000 in
theorem lwd_53 : LWd 53 m_RingDater_look := ⟨⟨gW_at (i := 1385) rfl rfl, gW_at (i := 1386) rfl rfl⟩, ⟨gW_at (i := 1387) rfl rfl, gW_at (i := 103) rfl rfl⟩, rfl, by decide⟩
theorem dw_look_0 : decode method_15_code 0 = .ok (.aload_n 2, 1) := by decide +kernel
theorem dw_look_1 : decode method_15_code 1 = .ok (.iconst 0, 1) := by decide +kernel
theorem dw_look_2 : decode method_15_code 2 = .ok (.aload_n 0, 1) := by decide +kernel
theorem dw_look_3 : decode method_15_code 3 = .ok (.iload_n 1, 1) := by decide +kernel
theorem dw_look_12 : decode method_15_code 12 = .ok (.astore_n 3, 1) := by decide +kernel
theorem dw_look_13 : decode method_15_code 13 = .ok (.iconst 1, 1) := by decide +kernel
theorem dw_look_14 : decode method_15_code 14 = .ok (.ireturn, 1) := by decide +kernel
theorem dw_look_4 : decode method_15_code 4 = .ok (.invokevirtual 53, 3) := by decide +kernel
theorem dw_look_7 : decode method_15_code 7 = .ok (.i2l, 1) := by decide +kernel
theorem dw_look_8 : decode method_15_code 8 = .ok (.lastore, 1) := by decide +kernel
theorem dw_look_9 : decode method_15_code 9 = .ok (.goto 6, 3) := by decide +kernel
theorem dw_look_15 : decode method_15_code 15 = .ok (.iconst 0, 1) := by decide +kernel
theorem dw_look_16 : decode method_15_code 16 = .ok (.ireturn, 1) := by decide +kernel
set_option maxHeartbeats 4000000 in
set_option maxRecDepth 100000 in
theorem wr_look {p0 : Int} {k : Nat} {M : Mm} (h : SimW [(0, 1)] m_RingDater_look m_Model_look [.inl p0] k M) : WrC yw_look method_15_code 4 [(0, 9, 12, 18)] [.inl p0] M (WQ m_Model_look [.inl p0] k) := by
  refine wr_of (by decide) rfl (fun adr o => by simp [lg_sl, cvA, Value.category]) ?_
  intro p l e s m args below meth c D tA n0 o bs adr adV f ls hfl hL X hs hh htab hret hlk hl
  have hl : lv_has ls 4 [(0, .ref (adr 0)), (1, .int (iN p0)), (2, .ref o)] := hl
  refine lv_aload_n (i := 2) (x := o) X.1 X.2.1 dw_look_0 rfl (lv_at hl 2 rfl) ?_
  refine lv_iconst (v := 0) X.1 X.2.1 dw_look_1 (by decide) ?_
  refine lv_aload_n (i := 0) (x := adr 0) X.1 X.2.1 dw_look_2 rfl (lv_at hl 0 rfl) ?_
  refine lv_iload_n (i := 1) (x := iN p0) X.1 X.2.1 dw_look_3 rfl (lv_at hl 1 rfl) ?_
  refine wr_mid (E := 15) h (fun z hz => ?_) X lwd_53 hL hs hh va_S.rf hl.1 (show (11 : Nat) = 11 from rfl) rfl (by decide +kernel) (by decide +kernel) (Nat.le_of_ble_eq_true rfl) hfl hret hlk rfl dw_look_4 dw_look_7 dw_look_8 dw_look_9 (by decide) dw_look_15 dw_look_16 (fun z hz H1 locs1 q9 ce h1 h2 h3 K => ?_)
  · simp only [List.mem_cons, List.not_mem_nil, or_false] at hz
    rcases hz with rfl <;> exact ⟨by decide, by decide, by decide⟩
  · simp only [List.mem_cons, List.not_mem_nil, or_false] at hz
    rcases hz with rfl
    · refine vx_catch (own := lwN) (name := excN 0) (E := excN 0) X.2.2.2.1 [] ⟨0, 9, 12, 18⟩ [] htab (fun z hz => by cases hz) (by decide) (by decide) (X.2.2.2.2 _ lk_18) (hs.2.2.2.1.at _ _ ex_c0) h1 h2 h3 ?_
      refine lv_astore_n (i := 3) X.1 X.2.1 dw_look_12 rfl hl (by decide) rfl (fun ls2 hl2 => ?_)
      refine lv_iconst (v := iN 1) X.1 X.2.1 dw_look_13 (by decide) ?_
      exact K _ _ dw_look_14
def yw_chance : MethodName := ⟨lwN, "chance", "(LRingDater;IIII[J)I"⟩
set_option maxRecDepth 100000 in
theorem ww_chance : LWw 169 yw_chance method_16_code 7 [(0, 14, 17, 18), (0, 14, 21, 13)] 6 := ⟨⟨gW_at (i := 1394) rfl rfl, gW_at (i := 1395) rfl rfl⟩, ⟨gW_at (i := 102) rfl rfl, gW_at (i := 1396) rfl rfl⟩, ⟨by decide, by decide, rfl⟩, by decide⟩
set_option maxRecDepth 100000 in
theorem lwd_56 : LWd 56 m_RingDater_chance := ⟨⟨gW_at (i := 1397) rfl rfl, gW_at (i := 1398) rfl rfl⟩, ⟨gW_at (i := 1399) rfl rfl, gW_at (i := 103) rfl rfl⟩, rfl, by decide⟩
theorem dw_chance_0 : decode method_16_code 0 = .ok (.aload 5, 2) := by decide +kernel
theorem dw_chance_2 : decode method_16_code 2 = .ok (.iconst 0, 1) := by decide +kernel
theorem dw_chance_3 : decode method_16_code 3 = .ok (.aload_n 0, 1) := by decide +kernel
theorem dw_chance_4 : decode method_16_code 4 = .ok (.iload_n 1, 1) := by decide +kernel
theorem dw_chance_5 : decode method_16_code 5 = .ok (.iload_n 2, 1) := by decide +kernel
theorem dw_chance_6 : decode method_16_code 6 = .ok (.iload_n 3, 1) := by decide +kernel
theorem dw_chance_7 : decode method_16_code 7 = .ok (.iload 4, 2) := by decide +kernel
theorem dw_chance_17 : decode method_16_code 17 = .ok (.astore 6, 2) := by decide +kernel
theorem dw_chance_19 : decode method_16_code 19 = .ok (.iconst 1, 1) := by decide +kernel
theorem dw_chance_20 : decode method_16_code 20 = .ok (.ireturn, 1) := by decide +kernel
theorem dw_chance_21 : decode method_16_code 21 = .ok (.astore 6, 2) := by decide +kernel
theorem dw_chance_23 : decode method_16_code 23 = .ok (.iconst 2, 1) := by decide +kernel
theorem dw_chance_24 : decode method_16_code 24 = .ok (.ireturn, 1) := by decide +kernel
theorem dw_chance_9 : decode method_16_code 9 = .ok (.invokevirtual 56, 3) := by decide +kernel
theorem dw_chance_12 : decode method_16_code 12 = .ok (.i2l, 1) := by decide +kernel
theorem dw_chance_13 : decode method_16_code 13 = .ok (.lastore, 1) := by decide +kernel
theorem dw_chance_14 : decode method_16_code 14 = .ok (.goto 11, 3) := by decide +kernel
theorem dw_chance_25 : decode method_16_code 25 = .ok (.iconst 0, 1) := by decide +kernel
theorem dw_chance_26 : decode method_16_code 26 = .ok (.ireturn, 1) := by decide +kernel
set_option maxHeartbeats 4000000 in
set_option maxRecDepth 100000 in
theorem wr_chance {p0 p1 p2 p3 : Int} {k : Nat} {M : Mm} (h : SimW [(0, 1), (1, 2)] m_RingDater_chance m_Model_chance [.inl p0, .inl p1, .inl p2, .inl p3] k M) : WrC yw_chance method_16_code 7 [(0, 14, 17, 18), (0, 14, 21, 13)] [.inl p0, .inl p1, .inl p2, .inl p3] M (WQ m_Model_chance [.inl p0, .inl p1, .inl p2, .inl p3] k) := by
  refine wr_of (by decide) rfl (fun adr o => by simp [lg_sl, cvA, Value.category]) ?_
  intro p l e s m args below meth c D tA n0 o bs adr adV f ls hfl hL X hs hh htab hret hlk hl
  have hl : lv_has ls 7 [(0, .ref (adr 0)), (1, .int (iN p0)), (2, .int (iN p1)), (3, .int (iN p2)), (4, .int (iN p3)), (5, .ref o)] := hl
  refine lv_aload (x := o) X.1 X.2.1 dw_chance_0 (lv_at hl 5 rfl) ?_
  refine lv_iconst (v := 0) X.1 X.2.1 dw_chance_2 (by decide) ?_
  refine lv_aload_n (i := 0) (x := adr 0) X.1 X.2.1 dw_chance_3 rfl (lv_at hl 0 rfl) ?_
  refine lv_iload_n (i := 1) (x := iN p0) X.1 X.2.1 dw_chance_4 rfl (lv_at hl 1 rfl) ?_
  refine lv_iload_n (i := 2) (x := iN p1) X.1 X.2.1 dw_chance_5 rfl (lv_at hl 2 rfl) ?_
  refine lv_iload_n (i := 3) (x := iN p2) X.1 X.2.1 dw_chance_6 rfl (lv_at hl 3 rfl) ?_
  refine lv_iload (x := iN p3) X.1 X.2.1 dw_chance_7 (lv_at hl 4 rfl) ?_
  refine wr_mid (E := 25) h (fun z hz => ?_) X lwd_56 hL hs hh va_S.rf hl.1 (show (11 : Nat) = 11 from rfl) rfl (by decide +kernel) (by decide +kernel) (Nat.le_of_ble_eq_true rfl) hfl hret hlk rfl dw_chance_9 dw_chance_12 dw_chance_13 dw_chance_14 (by decide) dw_chance_25 dw_chance_26 (fun z hz H1 locs1 q9 ce h1 h2 h3 K => ?_)
  · simp only [List.mem_cons, List.not_mem_nil, or_false] at hz
    rcases hz with rfl | rfl <;> exact ⟨by decide, by decide, by decide⟩
  · simp only [List.mem_cons, List.not_mem_nil, or_false] at hz
    rcases hz with rfl | rfl
    · refine vx_catch (own := lwN) (name := excN 0) (E := excN 0) X.2.2.2.1 [] ⟨0, 14, 17, 18⟩ [⟨0, 14, 21, 13⟩] htab (fun z hz => by cases hz) (by decide) (by decide) (X.2.2.2.2 _ lk_18) (hs.2.2.2.1.at _ _ ex_c0) h1 h2 h3 ?_
      refine lv_astore X.1 X.2.1 dw_chance_17 hl (by decide) rfl (fun ls2 hl2 => ?_)
      refine lv_iconst (v := iN 1) X.1 X.2.1 dw_chance_19 (by decide) ?_
      exact K _ _ dw_chance_20
    · refine vx_catch (own := lwN) (name := excN 1) (E := excN 1) X.2.2.2.1 [⟨0, 14, 17, 18⟩] ⟨0, 14, 21, 13⟩ [] htab (fun z hz => by
        obtain rfl := List.mem_singleton.mp hz
        exact .inr ⟨by decide, excN 0, X.2.2.2.2 _ lk_18, hs.2.2.2.2.1⟩) (by decide) (by decide) (X.2.2.2.2 _ lk_13) (hs.2.2.2.1.at _ _ ex_c1) h1 h2 h3 ?_
      refine lv_astore X.1 X.2.1 dw_chance_21 hl (by decide) rfl (fun ls2 hl2 => ?_)
      refine lv_iconst (v := iN 2) X.1 X.2.1 dw_chance_23 (by decide) ?_
      exact K _ _ dw_chance_24
def yw_told : MethodName := ⟨lwN, "told", "(LRingDater;II[J)I"⟩
set_option maxRecDepth 100000 in
theorem ww_told : LWw 172 yw_told method_17_code 5 [(0, 10, 13, 18)] 4 := ⟨⟨gW_at (i := 1408) rfl rfl, gW_at (i := 1409) rfl rfl⟩, ⟨gW_at (i := 102) rfl rfl, gW_at (i := 1410) rfl rfl⟩, ⟨by decide, by decide, rfl⟩, by decide⟩
set_option maxRecDepth 100000 in
theorem lwd_66 : LWd 66 m_RingDater_feed := ⟨⟨gW_at (i := 595) rfl rfl, gW_at (i := 596) rfl rfl⟩, ⟨gW_at (i := 597) rfl rfl, gW_at (i := 103) rfl rfl⟩, rfl, by decide⟩
set_option maxRecDepth 100000 in
theorem lwd_70 : LWd 70 m_Model_feed := ⟨⟨gW_at (i := 1917) rfl rfl, gW_at (i := 1918) rfl rfl⟩, ⟨gW_at (i := 1919) rfl rfl, gW_at (i := 120) rfl rfl⟩, rfl, by decide⟩
set_option maxRecDepth 100000 in
theorem lwd_76 : LWd 76 m_Model_yard := ⟨⟨gW_at (i := 1921) rfl rfl, gW_at (i := 1922) rfl rfl⟩, ⟨gW_at (i := 1923) rfl rfl, gW_at (i := 120) rfl rfl⟩, rfl, by decide⟩
set_option maxRecDepth 100000 in
theorem lwd_77 : LWd 77 m_Model_thrown := ⟨⟨gW_at (i := 1913) rfl rfl, gW_at (i := 1914) rfl rfl⟩, ⟨gW_at (i := 1915) rfl rfl, gW_at (i := 120) rfl rfl⟩, rfl, by decide⟩
set_option maxRecDepth 100000 in
theorem lwd_81 : LWd 81 m_RingDater_fault := ⟨⟨gW_at (i := 603) rfl rfl, gW_at (i := 604) rfl rfl⟩, ⟨gW_at (i := 605) rfl rfl, gW_at (i := 103) rfl rfl⟩, rfl, by decide⟩
set_option maxRecDepth 100000 in
theorem lwd_84 : LWd 84 m_Model_fault := ⟨⟨gW_at (i := 1989) rfl rfl, gW_at (i := 1990) rfl rfl⟩, ⟨gW_at (i := 1991) rfl rfl, gW_at (i := 120) rfl rfl⟩, rfl, by decide⟩
set_option maxRecDepth 100000 in
theorem lwd_87 : LWd 87 m_Model_count := ⟨⟨gW_at (i := 1993) rfl rfl, gW_at (i := 1994) rfl rfl⟩, ⟨gW_at (i := 1995) rfl rfl, gW_at (i := 120) rfl rfl⟩, rfl, by decide⟩
set_option maxRecDepth 100000 in
theorem lwd_91 : LWd 91 m_Model_timber := ⟨⟨gW_at (i := 2139) rfl rfl, gW_at (i := 2140) rfl rfl⟩, ⟨gW_at (i := 2141) rfl rfl, gW_at (i := 120) rfl rfl⟩, rfl, by decide⟩
set_option maxRecDepth 100000 in
theorem lwd_94 : LWd 94 m_Model_house := ⟨⟨gW_at (i := 2161) rfl rfl, gW_at (i := 2162) rfl rfl⟩, ⟨gW_at (i := 2163) rfl rfl, gW_at (i := 120) rfl rfl⟩, rfl, by decide⟩
set_option maxRecDepth 100000 in
theorem lwd_98 : LWd 98 m_Model_ring := ⟨⟨gW_at (i := 2173) rfl rfl, gW_at (i := 2174) rfl rfl⟩, ⟨gW_at (i := 2175) rfl rfl, gW_at (i := 120) rfl rfl⟩, rfl, by decide⟩
set_option maxRecDepth 100000 in
theorem lwd_99 : LWd 99 m_RingDater_index := ⟨⟨gW_at (i := 607) rfl rfl, gW_at (i := 608) rfl rfl⟩, ⟨gW_at (i := 609) rfl rfl, gW_at (i := 103) rfl rfl⟩, rfl, by decide⟩
set_option maxRecDepth 100000 in
theorem lwd_102 : LWd 102 m_Model_index := ⟨⟨gW_at (i := 2181) rfl rfl, gW_at (i := 2182) rfl rfl⟩, ⟨gW_at (i := 2183) rfl rfl, gW_at (i := 120) rfl rfl⟩, rfl, by decide⟩
set_option maxRecDepth 100000 in
theorem lwd_103 : LWd 103 m_RingDater_depth := ⟨⟨gW_at (i := 674) rfl rfl, gW_at (i := 675) rfl rfl⟩, ⟨gW_at (i := 676) rfl rfl, gW_at (i := 103) rfl rfl⟩, rfl, by decide⟩
set_option maxRecDepth 100000 in
theorem lwd_106 : LWd 106 m_Model_depth := ⟨⟨gW_at (i := 2185) rfl rfl, gW_at (i := 2186) rfl rfl⟩, ⟨gW_at (i := 2187) rfl rfl, gW_at (i := 120) rfl rfl⟩, rfl, by decide⟩
set_option maxRecDepth 100000 in
theorem lwd_109 : LWd 109 m_Model_pointer := ⟨⟨gW_at (i := 2189) rfl rfl, gW_at (i := 2190) rfl rfl⟩, ⟨gW_at (i := 2191) rfl rfl, gW_at (i := 120) rfl rfl⟩, rfl, by decide⟩
set_option maxRecDepth 100000 in
theorem lwd_113 : LWd 113 m_Model_slid := ⟨⟨gW_at (i := 2193) rfl rfl, gW_at (i := 2194) rfl rfl⟩, ⟨gW_at (i := 2195) rfl rfl, gW_at (i := 120) rfl rfl⟩, rfl, by decide⟩
set_option maxRecDepth 100000 in
theorem lwd_116 : LWd 116 m_Model_best := ⟨⟨gW_at (i := 2197) rfl rfl, gW_at (i := 2198) rfl rfl⟩, ⟨gW_at (i := 2199) rfl rfl, gW_at (i := 120) rfl rfl⟩, rfl, by decide⟩
set_option maxRecDepth 100000 in
theorem lwd_119 : LWd 119 m_Model_link := ⟨⟨gW_at (i := 2201) rfl rfl, gW_at (i := 2202) rfl rfl⟩, ⟨gW_at (i := 2203) rfl rfl, gW_at (i := 120) rfl rfl⟩, rfl, by decide⟩
set_option maxRecDepth 100000 in
theorem lwd_122 : LWd 122 m_Model_grown := ⟨⟨gW_at (i := 2205) rfl rfl, gW_at (i := 2206) rfl rfl⟩, ⟨gW_at (i := 2207) rfl rfl, gW_at (i := 120) rfl rfl⟩, rfl, by decide⟩
set_option maxRecDepth 100000 in
theorem lwd_125 : LWd 125 m_Model_help := ⟨⟨gW_at (i := 2209) rfl rfl, gW_at (i := 2210) rfl rfl⟩, ⟨gW_at (i := 2211) rfl rfl, gW_at (i := 120) rfl rfl⟩, rfl, by decide⟩
set_option maxRecDepth 100000 in
theorem lwd_126 : LWd 126 m_RingDater_date := ⟨⟨gW_at (i := 687) rfl rfl, gW_at (i := 688) rfl rfl⟩, ⟨gW_at (i := 689) rfl rfl, gW_at (i := 103) rfl rfl⟩, rfl, by decide⟩
set_option maxRecDepth 100000 in
theorem lwd_129 : LWd 129 m_Model_date := ⟨⟨gW_at (i := 2229) rfl rfl, gW_at (i := 2230) rfl rfl⟩, ⟨gW_at (i := 2231) rfl rfl, gW_at (i := 120) rfl rfl⟩, rfl, by decide⟩
set_option maxRecDepth 100000 in
theorem lwd_130 : LWd 130 m_RingDater_settle := ⟨⟨gW_at (i := 708) rfl rfl, gW_at (i := 709) rfl rfl⟩, ⟨gW_at (i := 710) rfl rfl, gW_at (i := 103) rfl rfl⟩, rfl, by decide⟩
set_option maxRecDepth 100000 in
theorem lwd_133 : LWd 133 m_Model_settle := ⟨⟨gW_at (i := 2241) rfl rfl, gW_at (i := 2242) rfl rfl⟩, ⟨gW_at (i := 2243) rfl rfl, gW_at (i := 120) rfl rfl⟩, rfl, by decide⟩
set_option maxRecDepth 100000 in
theorem lwd_134 : LWd 134 m_RingDater_grow := ⟨⟨gW_at (i := 785) rfl rfl, gW_at (i := 786) rfl rfl⟩, ⟨gW_at (i := 787) rfl rfl, gW_at (i := 103) rfl rfl⟩, rfl, by decide⟩
set_option maxRecDepth 100000 in
theorem lwd_137 : LWd 137 m_Model_grow := ⟨⟨gW_at (i := 2245) rfl rfl, gW_at (i := 2246) rfl rfl⟩, ⟨gW_at (i := 2247) rfl rfl, gW_at (i := 120) rfl rfl⟩, rfl, by decide⟩
set_option maxRecDepth 100000 in
theorem lwd_138 : LWd 138 m_RingDater_mend := ⟨⟨gW_at (i := 814) rfl rfl, gW_at (i := 815) rfl rfl⟩, ⟨gW_at (i := 816) rfl rfl, gW_at (i := 103) rfl rfl⟩, rfl, by decide⟩
set_option maxRecDepth 100000 in
theorem lwd_142 : LWd 142 m_Model_mend := ⟨⟨gW_at (i := 2249) rfl rfl, gW_at (i := 2250) rfl rfl⟩, ⟨gW_at (i := 2251) rfl rfl, gW_at (i := 120) rfl rfl⟩, rfl, by decide⟩
set_option maxRecDepth 100000 in
theorem lwd_143 : LWd 143 m_RingDater_doubt := ⟨⟨gW_at (i := 840) rfl rfl, gW_at (i := 841) rfl rfl⟩, ⟨gW_at (i := 842) rfl rfl, gW_at (i := 103) rfl rfl⟩, rfl, by decide⟩
set_option maxRecDepth 100000 in
theorem lwd_146 : LWd 146 m_Model_doubt := ⟨⟨gW_at (i := 2253) rfl rfl, gW_at (i := 2254) rfl rfl⟩, ⟨gW_at (i := 2255) rfl rfl, gW_at (i := 120) rfl rfl⟩, rfl, by decide⟩
set_option maxRecDepth 100000 in
theorem lwd_147 : LWd 147 m_RingDater_move := ⟨⟨gW_at (i := 850) rfl rfl, gW_at (i := 851) rfl rfl⟩, ⟨gW_at (i := 852) rfl rfl, gW_at (i := 103) rfl rfl⟩, rfl, by decide⟩
set_option maxRecDepth 100000 in
theorem lwd_150 : LWd 150 m_Model_move := ⟨⟨gW_at (i := 2257) rfl rfl, gW_at (i := 2258) rfl rfl⟩, ⟨gW_at (i := 2259) rfl rfl, gW_at (i := 120) rfl rfl⟩, rfl, by decide⟩
set_option maxRecDepth 100000 in
theorem lwd_151 : LWd 151 m_RingDater_undo := ⟨⟨gW_at (i := 854) rfl rfl, gW_at (i := 855) rfl rfl⟩, ⟨gW_at (i := 856) rfl rfl, gW_at (i := 103) rfl rfl⟩, rfl, by decide⟩
set_option maxRecDepth 100000 in
theorem lwd_154 : LWd 154 m_Model_undo := ⟨⟨gW_at (i := 2261) rfl rfl, gW_at (i := 2262) rfl rfl⟩, ⟨gW_at (i := 2263) rfl rfl, gW_at (i := 120) rfl rfl⟩, rfl, by decide⟩
set_option maxRecDepth 100000 in
theorem lwd_155 : LWd 155 m_RingDater_note := ⟨⟨gW_at (i := 870) rfl rfl, gW_at (i := 871) rfl rfl⟩, ⟨gW_at (i := 872) rfl rfl, gW_at (i := 103) rfl rfl⟩, rfl, by decide⟩
set_option maxRecDepth 100000 in
theorem lwd_158 : LWd 158 m_Model_note := ⟨⟨gW_at (i := 2265) rfl rfl, gW_at (i := 2266) rfl rfl⟩, ⟨gW_at (i := 2267) rfl rfl, gW_at (i := 120) rfl rfl⟩, rfl, by decide⟩
set_option maxRecDepth 100000 in
theorem lwd_161 : LWd 161 m_Model_fits := ⟨⟨gW_at (i := 2273) rfl rfl, gW_at (i := 2274) rfl rfl⟩, ⟨gW_at (i := 2275) rfl rfl, gW_at (i := 120) rfl rfl⟩, rfl, by decide⟩
set_option maxRecDepth 100000 in
theorem lwd_164 : LWd 164 m_Model_look := ⟨⟨gW_at (i := 2281) rfl rfl, gW_at (i := 2282) rfl rfl⟩, ⟨gW_at (i := 2283) rfl rfl, gW_at (i := 120) rfl rfl⟩, rfl, by decide⟩
set_option maxRecDepth 100000 in
theorem lwd_165 : LWd 165 m_RingDater_forget := ⟨⟨gW_at (i := 878) rfl rfl, gW_at (i := 879) rfl rfl⟩, ⟨gW_at (i := 880) rfl rfl, gW_at (i := 103) rfl rfl⟩, rfl, by decide⟩
set_option maxRecDepth 100000 in
theorem lwd_168 : LWd 168 m_Model_forget := ⟨⟨gW_at (i := 2269) rfl rfl, gW_at (i := 2270) rfl rfl⟩, ⟨gW_at (i := 2271) rfl rfl, gW_at (i := 120) rfl rfl⟩, rfl, by decide⟩
set_option maxRecDepth 100000 in
theorem lwd_171 : LWd 171 m_Model_chance := ⟨⟨gW_at (i := 2289) rfl rfl, gW_at (i := 2290) rfl rfl⟩, ⟨gW_at (i := 2291) rfl rfl, gW_at (i := 120) rfl rfl⟩, rfl, by decide⟩
set_option maxRecDepth 100000 in
theorem lwd_174 : LWd 174 m_Model_told := ⟨⟨gW_at (i := 2298) rfl rfl, gW_at (i := 2299) rfl rfl⟩, ⟨gW_at (i := 2300) rfl rfl, gW_at (i := 120) rfl rfl⟩, rfl, by decide⟩
set_option maxRecDepth 100000 in
theorem lwd_175 : LWd 175 m_RingDater_image := ⟨⟨gW_at (i := 882) rfl rfl, gW_at (i := 883) rfl rfl⟩, ⟨gW_at (i := 884) rfl rfl, gW_at (i := 103) rfl rfl⟩, rfl, by decide⟩
set_option maxRecDepth 100000 in
theorem lwd_178 : LWd 178 m_Model_image := ⟨⟨gW_at (i := 2314) rfl rfl, gW_at (i := 2315) rfl rfl⟩, ⟨gW_at (i := 2316) rfl rfl, gW_at (i := 120) rfl rfl⟩, rfl, by decide⟩
set_option maxRecDepth 100000 in
theorem lwd_179 : LWd 179 m_RingDater_restore := ⟨⟨gW_at (i := 905) rfl rfl, gW_at (i := 906) rfl rfl⟩, ⟨gW_at (i := 907) rfl rfl, gW_at (i := 103) rfl rfl⟩, rfl, by decide⟩
set_option maxRecDepth 100000 in
theorem lwd_183 : LWd 183 m_Model_restore := ⟨⟨gW_at (i := 2318) rfl rfl, gW_at (i := 2319) rfl rfl⟩, ⟨gW_at (i := 2320) rfl rfl, gW_at (i := 120) rfl rfl⟩, rfl, by decide⟩

