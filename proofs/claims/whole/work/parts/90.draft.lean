/-! THE LAW, 1: its world; calls out of the law and out of its wrappers. -/
theorem excD_face : ∀ w ∈ excD, w.keepsFace = true := by decide +kernel
theorem Dcl.warm {s U : State} (hW : s.WarmedH U.vm) (h : Dcl s) : Dcl U := fun w hw =>
  va_tabs (excD_ot w hw) (show (s.setVm U.vm).vm = U.vm from rfl) (Cond.before_shiftedFace (State.Shifted.of_warmed hW) w (excD_face w hw) (h w hw))
theorem Dcl.same {u U : State} (hv : u.vm = U.vm) (h : Dcl u) : Dcl U := fun w hw => va_tabs (excD_ot w hw) hv (h w hw)
/-- the addresses: all behind n0; out's cell o, the builder's bs, apart from all of the memory's cells -/
def LM (n0 o bs : Nat) (adr : Nat → Nat) : Prop := (n0 ≤ o ∧ n0 ≤ bs ∧ o ≠ bs) ∧ (∀ a, a < NN → n0 ≤ adr a ∧ adr a ≠ o ∧ adr a ≠ bs) ∧ (∀ i j, i < NN → j < NN → adr i = adr j → i = j) ∧ bs = adr 198
/-- the digits' tables of java.lang.Integer -/
def DG (A : Nat → Prop) (U : State) (H : Heap) : Prop := ∃ d1 d2 : Nat, (va_Z "java/lang/Integer" "DigitOnes" "[B" (.ref d1) A U H ∧ va_T .byte d1 100 (fun j => .int (iN ((j % 10 + 48 : Nat) : Int))) A U H) ∧ va_Z "java/lang/Integer" "DigitTens" "[B" (.ref d2) A U H ∧ va_T .byte d2 100 (fun j => .int (iN ((j / 10 + 48 : Nat) : Int))) A U H
theorem DG.moved {A : Nat → Prop} {u U : State} {H : Heap} (hvm : u.vm.Alike U.vm) (h : DG A u H) : DG A U H := by
  obtain ⟨d1, d2, ⟨a, b⟩, c, d⟩ := h
  exact ⟨d1, d2, ⟨va_Z.moved hvm a, va_T.moved hvm b⟩, va_Z.moved hvm c, va_T.moved hvm d⟩
theorem DG.kept {A : Nat → Prop} {U : State} {H H1 : Heap} (h : DG A U H) (hq : ∀ a : Nat, a < H.size → ¬ A a → H1[a]? = H[a]?) : DG A U H1 := by
  obtain ⟨d1, d2, ⟨a, b⟩, c, d⟩ := h
  exact ⟨d1, d2, ⟨a.kept hq, b.kept hq⟩, c.kept hq, d.kept hq⟩
theorem DG.narrow {A B : Nat → Prop} {U : State} {H : Heap} (h : DG A U H) (hAB : ∀ q, B q → A q) : DG B U H := by
  obtain ⟨d1, d2, ⟨a, b⟩, c, d⟩ := h
  exact ⟨d1, d2, ⟨a.narrow hAB, b.narrow hAB⟩, c.narrow hAB, d.narrow hAB⟩
/-- private methods of the builder's class (the tables' words) -/
def yPv (n d : String) : MethodName := ⟨"java/lang/AbstractStringBuilder", n, d⟩
def pvL : List Cond := [.privateMethod (yPv "ensureCapacityInternal" "(I)V"), .privateMethod (yPv "newCapacity" "(I)I"), .privateMethod (yPv "putStringAt" "(ILjava/lang/String;)V"), .privateMethod (yPv "inflateIfNeededFor" "(Ljava/lang/String;)V")]
def PV (U : State) : Prop := ∀ w ∈ pvL, w.before #[] U = true
theorem pvL_ot : ∀ w ∈ pvL, w.onTables = true := by decide +kernel
theorem pvL_fa : ∀ w ∈ pvL, w.faceAtom = true := by decide +kernel
theorem pvL_in : ∀ w ∈ pvL, w ∈ lw_tbl := by decide +kernel
theorem PV.moved {u U : State} (hvm : u.vm.Alike U.vm) (h : PV u) : PV U := fun w hw => va_tabs (pvL_ot w hw) (show (u.setVm U.vm).vm = U.vm from rfl) (Cond.faceAtom_setVm hvm w (pvL_fa w hw) (h w hw))
/-- what stands in the tables, and still in the heap -/
def LSt (D : va_G) (tA : Nat → ClassId) (n0 : Nat) (adr adV : Nat → Nat) (U : State) (H : Heap) : Prop :=
  (va_K D clA (tysA tA) U ∧ va_K D clA [(tA 4, .byte), (tA 5, .long)] U) ∧ Stc adr adV (fun q => n0 ≤ q) U H ∧ Strs adr U ∧ Dcl U ∧ va_Nc (excN 1) (excN 0) U ∧ DG (fun q => n0 ≤ q) U H ∧ PV U
/-- signs: the bytes of the builder -/
def tOk (T : Nat → Int) : Prop := ∀ j, 0 ≤ T j ∧ T j ≤ 127
def cOk (cap : Nat) : Prop := cap = 16 ∨ cap = 34 ∨ cap = 70 ∨ cap = 142
def bObj (bb cnt : Nat) (ml : Int32) : va_E := .inr (13, [.ref bb, .int (iN 0), .int ml, .int (iN (cnt : Int))])
def bByt (tA : Nat → ClassId) (cap : Nat) (T : Nat → Int) : va_E := .inl (tA 4, (cap, .inl (fun j => iN (T j))))
/-- the builder and its bytes -/
def LB (D : va_G) (tA : Nat → ClassId) (n0 o bs : Nat) (adr : Nat → Nat) (H : Heap) : Prop := ∃ (bb cap cnt : Nat) (ml : Int32) (T : Nat → Int), (n0 ≤ bb ∧ bb ≠ o ∧ bb ≠ bs ∧ ∀ a, a < NN → bb ≠ adr a) ∧ (cOk cap ∧ cnt ≤ cap ∧ tOk T) ∧
  va_at D clA (bs, bObj bb cnt ml) H ∧ va_at D clA (bb, bByt tA cap T) H
/-- the law's world in the heap H: the memory M, out's number f 0, the builder -/
def LH (D : va_G) (tA : Nat → ClassId) (n0 o bs : Nat) (adr : Nat → Nat) (M : Mm) (f : Nat → Int64) (H : Heap) : Prop := n0 ≤ H.size ∧ va_P D clA (wsA tA adr M) H ∧ va_at D clA (o, .inl (tA 5, (1, .inr (.inl f)))) H ∧ LB D tA n0 o bs adr H
section L1
variable {D : va_G} {tA : Nat → ClassId} {n0 o bs sz : Nat} {adr adV : Nat → Nat} {M M' : Mm} {f f' : Nat → Int64} {H H1 : Heap} {locs : List Loc} {s U : State}
theorem LM.sub (h : LM n0 o bs adr) (hz : n0 ≤ sz) : ∀ q, AA adr sz q → n0 ≤ q := fun q hq => by
  rcases hq with ⟨a, ha, rfl⟩ | hq
  · exact (h.2.1 a ha).1
  · exact Nat.le_trans hz hq
theorem ws_el {k : Nat} {q : Nat × va_E} (hk : (wsA tA adr M)[k]? = some q) : k < NN ∧ q.1 = adr k := by
  have hlt : k < NN := by
    obtain ⟨h, -⟩ := List.getElem?_eq_some_iff.mp hk
    rw [wsA_len] at h
    exact h
  rw [wsA_at hlt] at hk
  exact ⟨hlt, by rw [← Option.some.inj hk]⟩
theorem LM.dd (h : LM n0 o bs adr) : va_D (AA adr sz) (wsA tA adr M) := by
  refine ⟨fun i j p q hi hj e => ?_, fun k q hk => .inl ⟨k, (ws_el hk).1, (ws_el hk).2⟩⟩
  rw [(ws_el hi).2, (ws_el hj).2] at e
  exact h.2.2.1 i j (ws_el hi).1 (ws_el hj).1 e
theorem LSt.now (h : LSt D tA n0 adr adV s s.heap) (hS : va_S (fun q => n0 ≤ q) s.heap H locs) (hW : s.WarmedH U.vm) : LSt D tA n0 adr adV U H :=
  ⟨⟨va_K.moved hW.alike h.1.1, va_K.moved hW.alike h.1.2⟩, Stc.moved hW.alike (h.2.1.kept hS.2.1), h.2.2.1.warm hW, h.2.2.2.1.warm hW, va_Nc.moved hW.alike h.2.2.2.2.1, (h.2.2.2.2.2.1.kept hS.2.1).moved hW.alike, h.2.2.2.2.2.2.moved hW.alike⟩
theorem LSt.same {u : State} (hv : u.vm = U.vm) (h : LSt D tA n0 adr adV u H) : LSt D tA n0 adr adV U H := by
  have e : u.vm.Alike U.vm := by rw [hv]; exact Vm.Alike.refl _
  exact ⟨⟨va_K.moved e h.1.1, va_K.moved e h.1.2⟩, Stc.moved e h.2.1, h.2.2.1.same hv.symm, h.2.2.2.1.same hv, va_Nc.moved e h.2.2.2.2.1, h.2.2.2.2.2.1.moved e, h.2.2.2.2.2.2.moved e⟩
theorem lw_Wld (hm : LM n0 o bs adr) (hs : LSt D tA n0 adr adV U H) (hh : LH D tA n0 o bs adr M f H) (hU : U.heap = H) : Wld D tA adr adV M H.size U := by
  refine ⟨by rw [hU], by rw [hU]; exact hh.2.1, hs.1.1, hm.dd, ?_, hs.2.2.1⟩
  rw [hU]
  exact hs.2.1.narrow (hm.sub hh.1)
theorem l_keep (hm : LM n0 o bs adr) (hh : LH D tA n0 o bs adr M f H) (hz : H.size ≤ H1.size) (hk : ∀ q : Nat, q < H.size → ¬ AA adr H.size q → H1[q]? = H[q]?) (hP : va_P D clA (wsA tA adr M') H1) : LH D tA n0 o bs adr M' f H1 := by
  obtain ⟨h1, h2, h3, bb, cap, cnt, ml, fb, ⟨b1, b2, b3, b4⟩, hc, h4, h5⟩ := hh
  have hn : ∀ q : Nat, q < H.size → (∀ a, a < NN → adr a ≠ q) → ¬ AA adr H.size q := by
    rintro q hq hne (⟨a, ha, rfl⟩ | hge)
    · exact hne a ha rfl
    · omega
  have l3 : o < H.size := h3.lt
  have l4 : bs < H.size := h4.lt
  have l5 : bb < H.size := h5.lt
  exact ⟨Nat.le_trans h1 hz, hP, h3.kept (hk o l3 (hn o l3 (fun a ha => (hm.2.1 a ha).2.1))), bb, cap, cnt, ml, fb, ⟨b1, b2, b3, b4⟩, hc, h4.kept (hk bs l4 (hn bs l4 (fun a ha => (hm.2.1 a ha).2.2))), h5.kept (hk bb l5 (hn bb l5 (fun a ha e => b4 a ha e.symm)))⟩
theorem vS_app {H0 : Heap} {A A1 : Nat → Prop} {L : List Loc} (hS : va_S A H0 H locs) (hz : H.size ≤ H1.size) (hk : ∀ q : Nat, q < H.size → ¬ A1 q → H1[q]? = H[q]?) (hsub : ∀ q, A1 q → A q) (hL : ∀ q ∈ L, A q.base) : va_S A H0 H1 (locs ++ L) := by
  refine ⟨Nat.le_trans hS.1 hz, fun q h1 h2 => ?_, fun q hq => ?_⟩
  · rw [hk q (Nat.lt_of_lt_of_le h1 hS.1) (fun z => h2 (hsub q z))]
    exact hS.2.1 q h1 h2
  · rcases List.mem_append.mp hq with h | h
    · exact hS.2.2 q h
    · exact hL q h
theorem inR_ti (x : Int32) : inR x.toInt := ⟨Int32.le_toInt x, by have := Int32.toInt_lt x; omega⟩
end L1
def lwN : String := "RingDaterLaw"
section L2
variable {p : Program} {l : Launch} {e : Env} {R : Room} {s : State} {m : MethodId} {args : Array Value} {below : List Frame} {meth : Method} {c : Code} {Q : State → Prop}
variable {D : va_G} {tA : Nat → ClassId} {n0 o bs : Nat} {adr adV : Nat → Nat} {M : Mm} {f : Nat → Int64} {H : Heap} {locs : List Loc} {cells slots pc : Nat} {ls : Array Slot} {rest st0 : List Value} {nL : Nat} {cc : ByteArray}
/-- a method of the law's class, in its run -/
def LX (p : Program) (s : State) (m : MethodId) (args : Array Value) (c : Code) (nL : Nat) (cc : ByteArray) : Prop := p.tables.exec = Jvm.exec ∧ c.code = cc ∧ c.maxLocals = nL ∧ s.vm.findClass lwN = some m.cls ∧ ∀ w ∈ gW, w.before args s = true
/-- the words of a call of method q at the pool's index -/
def LWd (idx q : Nat) : Prop := (Cond.methodLink lwN idx (yM q) ∈ gW ∧ Cond.instanceMethod (yM q) ∈ gW) ∧ (Cond.selects (yM q).cls (yM q) (yM q) ∈ gW ∧ Cond.initialized (yM q).cls ∈ gW) ∧ (parseMethodDescriptor (yM q).desc).map (fun d => d.parameters.length + 1) = some (nM q) ∧ q < mtN
def LV (n0 : Nat) (s : State) (H : Heap) (locs : List Loc) : Prop := va_S (fun q => n0 ≤ q) s.heap H locs
theorem l_after {a : Array Value} {Qc : Option AV → Mm → Prop} (hm : LM n0 o bs adr) (hh : LH D tA n0 o bs adr M f H) (hS : LV n0 s H locs)
    (hr : va_Run p l e R s m args below meth c H locs cells slots 0 0 (F0 m pc ls st0) rest (Qm D tA adr Qc (AA adr H.size) a) (AA adr H.size))
    (hk : ∀ v M' H1 locs1, Qc v M' → LH D tA n0 o bs adr M' f H1 → LV n0 s H1 locs1 → W p l e R s m args below meth c H1 locs1 cells slots Q (F0 m (pc + 3) ls ((v.map (cvA adr)).toList ++ rest))) : W p l e R s m args below meth c H locs cells slots Q (F0 m pc ls st0) := by
  intro T hT X
  obtain ⟨v, st₀, t, T', L, h0, X', hL, e1, e2, ⟨⟨v', M', hq, hv, hP, hD⟩, hz, hkk⟩, st⟩ := hr T hT X
  rw [h0] at hz hkk hD
  have hv' : v = v'.map (cvA adr) := by cases hv; rfl
  subst hv'
  have hz1 : H.size ≤ T'.heap.size := by rw [e1]; exact hz
  have hk1 : ∀ q : Nat, q < H.size → ¬ AA adr H.size q → T'.heap[q]? = H[q]? := fun q h1 h2 => by rw [e1]; exact hkk q h1 h2
  have K := hk v' M' T'.heap (locs ++ L) hq (l_keep hm hh hz1 hk1 (by rw [e1]; exact hP)) (vS_app hS hz1 hk1 (hm.sub hh.1) (fun q hq => hm.sub hh.1 _ (hL q hq)))
  obtain ⟨t2, a1, b1⟩ := K T' rfl X'
  exact ⟨t2, st t2 a1, b1⟩
theorem l_recv (hs : LSt D tA n0 adr adV s s.heap) (hh : LH D tA n0 o bs adr M f H) {b q : Nat} (hq : q < mtN) (hb : kc (lay b) (oM q)) : ∃ cellB : Cell, H[adr b]? = some cellB ∧ cellB.vm.isStatics = false ∧ s.vm.findClass (yM q).cls = some cellB.cls := by
  obtain ⟨m1, m2⟩ := meth_el hq
  simp only [okM, Bool.and_eq_true, decide_eq_true_eq] at m2
  obtain ⟨⟨⟨⟨⟨⟨-, hpl⟩, hcls⟩, hn1⟩, hn2⟩, hl30⟩, -⟩ := m2
  rw [hcls]
  unfold kc at hb
  split at hb
  · rename_i c' fs hlay
    subst hb
    have hlt := lay_ok (lay_lt (a := b) (by rw [hlay]; intro n q; cases q))
    simp only [okL, hlay, Bool.and_eq_true, decide_eq_true_eq] at hlt
    exact va_recv hs.1.1 hh.2.1 (cls_el hlt.1).1 (ws_obj hlay)
  · exact hb.elim
theorem l_sig {idx q : Nat} {As : List AV} (hw : LWd idx q) (hn : As.length + 1 = nM q) : (yM q).cls ≠ "java/lang/invoke/MethodHandle" ∧ (yM q).cls ≠ "java/lang/invoke/VarHandle" ∧ (parseMethodDescriptor (yM q).desc).map (fun d => d.parameters.length) = some As.length := by
  obtain ⟨m1, m2⟩ := meth_el hw.2.2.2
  simp only [okM, Bool.and_eq_true, decide_eq_true_eq] at m2
  obtain ⟨⟨⟨⟨⟨⟨-, hpl⟩, hcls⟩, hn1⟩, hn2⟩, hl30⟩, -⟩ := m2
  have w4 := hw.2.2.1
  refine ⟨hn1, hn2, ?_⟩
  cases hp : parseMethodDescriptor (yM q).desc with
  | none => rw [hp] at w4; cases w4
  | some d =>
    rw [hp] at w4
    have : d.parameters.length + 1 = nM q := Option.some.inj w4
    simp only [Option.map_some]
    congr 1
    omega
theorem l_l30 {q : Nat} (hq : q < mtN) : lM q ≤ 30 := by
  obtain ⟨m1, m2⟩ := meth_el hq
  simp only [okM, Bool.and_eq_true, decide_eq_true_eq] at m2
  exact m2.1.2
/-- a call of a method of the class or of the reference -/
theorem l_call {idx q b : Nat} {As : List AV} {Qc : Option AV → Mm → Prop} (X : LX p s m args c nL cc) (hw : LWd idx q) (hm : LM n0 o bs adr) (hs : LSt D tA n0 adr adV s s.heap) (hh : LH D tA n0 o bs adr M f H) (hS : LV n0 s H locs) (hls : ls.size = nL) (hb : kc (lay b) (oM q)) (hn : As.length + 1 = nM q) (hR : dM q + 1 ≤ R.frames ∧ 49 + 64 * dM q ≤ R.locals) (hc : cells ≤ R.cells ∧ slots ≤ R.slots)
    (hrest : (rest.map fun v => v.category).sum ≤ 8) (hst : st0 = (As.map (cvA adr)).reverse ++ .ref (adr b) :: rest) (hdg : decode cc pc = .ok (.invokevirtual idx, 3)) (hC : CallP q (.inr b :: As) M Qc)
    (hk : ∀ v M' H1 locs1, Qc v M' → LH D tA n0 o bs adr M' f H1 → LV n0 s H1 locs1 → W p l e R s m args below meth c H1 locs1 cells slots Q (F0 m (pc + 3) ls ((v.map (cvA adr)).toList ++ rest))) : W p l e R s m args below meth c H locs cells slots Q (F0 m pc ls st0) := by
  obtain ⟨hx, hb', hml, hown, hts⟩ := X
  have hq := hw.2.2.2
  have h30 := l_l30 hq
  refine l_after (a := (Value.ref (adr b) :: As.map (cvA adr)).toArray) (Qc := Qc) hm hh hS ?_ hk
  refine va_runV (own := lwN) (Ts := gW) (nL := nL) (As := As.map (cvA adr)) (C := (yM q).cls) (n := As.length) (bytes := cM q) (maxL := lM q) (ret := rM q) ⟨hx, hb', hml, hown, hts⟩ (hC l D tA adr adV H.size)
    ⟨callB_of As.length hts (wM_good hq) rfl rfl rfl (hts _ hw.2.1.2) (hts _ hw.1.1) (l_sig hw hn) ⟨hR.1, ?_⟩, hts _ hw.1.2, hts _ hw.2.1.1⟩
    ⟨Wld.blind _, l_recv hs hh hq hb, fun U hU hW => ⟨by simp [cvA], ?_⟩⟩ rfl (by simp) hls hst (lv_room (pc := pc) (ls := ls) (rest := st0) hrest) hdg ⟨by omega, by omega⟩
  · show 8 + (lM q + 11) + 64 * dM q ≤ R.locals
    omega
  · rw [← hU]
    exact lw_Wld hm (hU ▸ hs.now hS hW) (hU ▸ hh) rfl
end L2

/-! THE LAW, 2: its wrappers: a call of the class, its answer into out's place, or a code where it throws. -/
section L3
variable {p : Program} {l : Launch} {e : Env} {R : Room} {s : State} {m : MethodId} {args : Array Value} {below : List Frame} {meth : Method} {c : Code} {Q : State → Prop}
variable {D : va_G} {tA : Nat → ClassId} {n0 o bs : Nat} {adr adV : Nat → Nat} {M : Mm} {f : Nat → Int64} {H : Heap} {locs : List Loc} {cells slots pc : Nat} {ls : Array Slot} {rest st0 : List Value} {nL : Nat} {cc : ByteArray}
theorem va_P1 {cl : List vw_C} {q : Nat × va_E} {H : Heap} (h : va_at D cl q H) : va_P D cl [q] H := fun k y hy => by
  have hz : k < 1 := (List.getElem?_eq_some_iff.mp hy).1
  rw [show k = 0 by omega] at hy
  cases hy
  exact h
/-- out[0] = v -/
theorem l_out {v : Int64} (X : LX p s m args c nL cc) (hm : LM n0 o bs adr) (hs : LSt D tA n0 adr adV s s.heap) (hh : LH D tA n0 o bs adr M f H) (hS : LV n0 s H locs) (hdg : decode cc pc = .ok (.lastore, 1))
    (kk : ∀ H1 locs1, LH D tA n0 o bs adr M (vp_updL f 0 v) H1 → LV n0 s H1 locs1 → W p l e R s m args below meth c H1 locs1 cells slots Q (F0 m (pc + 1) ls rest)) : W p l e R s m args below meth c H locs cells slots Q (F0 m pc ls (.long v :: .int 0 :: .ref o :: rest)) := by
  obtain ⟨h1, h2, h3, bb, cap, cnt, ml, fb, ⟨b1, b2, b3, b4⟩, hc, h4, h5⟩ := hh
  refine W.last X.1 X.2.1 h3 ((hs.1.2.2 1 _ rfl).1 1 (fun j => .long (f j))) (fun q => by cases q) (by show ¬ ((0 : Int32) < 0 ∨ (arrV _ _ _).slots.size ≤ _); rw [arrV_size]; show ¬ ((0 : Int32) < 0 ∨ (1 : Nat) ≤ (0 : Int32).toNatClampNeg); decide) rfl rfl hdg fun H1 e1 z oq => ?_
  refine kk H1 _ ⟨by rw [z]; exact h1, h2.kept (fun k q hk => oq _ ?_), ?_, bb, cap, cnt, ml, fb, ⟨b1, b2, b3, b4⟩, hc, h4.kept (oq _ (fun e => hm.1.2.2 e.symm)), h5.kept (oq _ b2)⟩ (va_S.put hS z oq hm.1.1)
  · rw [(ws_el hk).2]
    exact (hm.2.1 k (ws_el hk).1).2.1
  · show H1[o]? = some (vp_cell _ _)
    rw [e1, vp_cell_l, vp_cell_l, arrV_store]
    congr 2
    funext q
    by_cases hq : q = (0 : Int32).toNatClampNeg
    · subst hq
      simp [updV, vp_updL]
    · have hq' : ¬ q = 0 := hq
      simp [updV, vp_updL, hq']
/-- out[0] -/
theorem l_in (X : LX p s m args c nL cc) (hs : LSt D tA n0 adr adV s s.heap) (hh : LH D tA n0 o bs adr M f H) (hdg : decode cc pc = .ok (.laload, 1))
    (kk : W p l e R s m args below meth c H locs cells slots Q (F0 m (pc + 1) ls (.long (f 0) :: rest))) : W p l e R s m args below meth c H locs cells slots Q (F0 m pc ls (.int 0 :: .ref o :: rest)) :=
  va_lald X.1 X.2.1 hs.1.2 (va_P1 hh.2.2.1) 0 1 rfl rfl (by rw [vp_in_iff]; decide) hdg kk
theorem WldD.blind {M : Mm} {sz : Nat} (as : List AV) : FrameBlind (va_Pc (as.map (cvA adr)) (fun U => Wld D tA adr adV M sz U ∧ Dcl U)) := by
  intro a U g mk ⟨h, h1, h2⟩
  have h3 := Wld.blind (D := D) (tA := tA) (adr := adr) (adV := adV) (M := M) (sz := sz) as a U g mk ⟨h, h1⟩
  exact ⟨h3.1, h3.2, Dcl.same (u := U) (U := U.calling g mk a) rfl h2⟩
/-- a call of the class that throws -/
theorem l_throw {idx q b n : Nat} {As : List AV} {Xp : Nat → Mm → Prop} (X : LX p s m args c nL cc) (hw : LWd idx q) (hm : LM n0 o bs adr) (hs : LSt D tA n0 adr adV s s.heap) (hh : LH D tA n0 o bs adr M f H) (hS : LV n0 s H locs) (hls : ls.size = nL) (hb : kc (lay b) (oM q)) (hn : As.length + 1 = nM q) (hn4 : n ≤ 400) (hR : dM q + 7 ≤ R.frames ∧ 949 + 64 * dM q ≤ R.locals) (hc : cells + 1 ≤ R.cells ∧ slots + 6 ≤ R.slots) (hfl : l.stackTraces = false)
    (hrest : (rest.map fun v => v.category).sum ≤ 8) (hst : st0 = (As.map (cvA adr)).reverse ++ .ref (adr b) :: rest) (hdg : decode cc pc = .ok (.invokevirtual idx, 3)) (hC : CallX q n (.inr b :: As) M Xp)
    (kx : ∀ q0 M' H1 locs1 q9 ce, Xp q0 M' → LH D tA n0 o bs adr M' f H1 → LV n0 s H1 locs1 → H1[q9]? = some ce → ce.vm = .none → s.vm.findClass (excN q0) = some ce.cls → vx_W p l e R s m args below meth c H1 locs1 (cells + 1) (slots + 6) Q (F0 m pc ls rest) q9) : W p l e R s m args below meth c H locs cells slots Q (F0 m pc ls st0) := by
  obtain ⟨hx, hb', hml, hown, hts⟩ := X
  have hq := hw.2.2.2
  have h30 := l_l30 hq
  have hr := vx_runV (p := p) (l := l) (e := e) (R := R) (s := s) (m := m) (args := args) (below := below) (meth := meth) (c := c) (H := H) (locs := locs) (cells := cells) (slots := slots) (b := adr b) (g := F0 m pc ls st0) (rest := rest) (own := lwN) (Ts := gW) (nL := nL) (As := As.map (cvA adr)) (C := (yM q).cls) (n := As.length) (bytes := cM q) (maxL := lM q) (ret := rM q) ⟨hx, hb', hml, hown, hts⟩ (hC l hfl D tA adr adV H.size)
    ⟨callB_of As.length hts (wM_good hq) rfl rfl rfl (hts _ hw.2.1.2) (hts _ hw.1.1) (l_sig hw hn) ⟨by show dM q + 6 + 1 ≤ R.frames; omega, by show 8 + (lM q + 11) + (64 * dM q + 2 * n + 100) ≤ R.locals; omega⟩, hts _ hw.1.2, hts _ hw.2.1.1⟩
    ⟨WldD.blind _, l_recv hs hh hq hb, fun U hU hW => ⟨by simp [cvA], by rw [← hU]; exact lw_Wld hm (hU ▸ hs.now hS hW) (hU ▸ hh) rfl, hs.2.2.2.1.warm hW⟩⟩ rfl (by simp) hls hst (lv_room (pc := pc) (ls := ls) (rest := st0) hrest) hdg hc
  intro T hT X
  rcases hr T hT X with ⟨v, st₀, t, T', L, h0, X', hL, e1, e2, hF, st⟩ | ⟨q9, st₀, t, T', L, E, ce, h0, X', hL, e1, e2, ⟨q0, M', hX, rfl, hP, hD, hz, hkk⟩, hce, hcv, hcl, st⟩
  · exact hF.elim
  · rw [h0] at hz hkk hD
    have hz1 : H.size ≤ T'.heap.size := by rw [e1]; exact hz
    have hk1 : ∀ q : Nat, q < H.size → ¬ AA adr H.size q → T'.heap[q]? = H[q]? := fun q h1 h2 => by rw [e1]; exact hkk q h1 h2
    have K := kx q0 M' T'.heap (locs ++ L) q9 ce hX (l_keep hm hh hz1 hk1 (by rw [e1]; exact hP)) (vS_app hS hz1 hk1 (hm.sub hh.1) (fun q hq => hm.sub hh.1 _ (hL q hq))) (by rw [e1]; exact hce) hcv hcl
    obtain ⟨t2, a1, b1⟩ := K T' rfl X'
    exact ⟨t2, st.trans a1, b1⟩
end L3
/-- a wrapper: r, and x where r is 0; then the reference's call says the same -/
def WQ (mB : Nat) (as : List AV) (k : Nat) (r x : Int) (M1 : Mm) : Prop := (inR r ∧ inR x) ∧ CallI mB (.inr 154 :: as) M1 (fun y M2 => M2 154 1 = r ∧ (r = 0 → x = y) ∧ Rel (k + 1) M2)
def SimW (hm : List (Nat × Int)) (mA mB : Nat) (as : List AV) (k : Nat) (M : Mm) : Prop := Sim mA mB as k M ∨ ∃ z ∈ hm, SimX mA mB as k z.1 z.2 M
def WPost (D : va_G) (tA : Nat → ClassId) (n0 o bs : Nat) (adr : Nat → Nat) (Qw : Int → Int → Mm → Prop) : Array Value → State → Outcome → State → Prop := fun _ st oc t =>
  (∃ (r x : Int) (M' : Mm) (f' : Nat → Int64), oc = .returned (some (.int (iN r))) ∧ Qw r x M' ∧ (r = 0 → f' 0 = (iN x).toInt64) ∧ LH D tA n0 o bs adr M' f' t.heap) ∧ va_F (fun q => n0 ≤ q) st t
def WPre (D : va_G) (tA : Nat → ClassId) (n0 o bs : Nat) (adr adV : Nat → Nat) (M : Mm) (U : State) : Prop := LSt D tA n0 adr adV U U.heap ∧ ∃ f, LH D tA n0 o bs adr M f U.heap
def wrR : Room := { frames := 100, cells := 100, slots := 12000, locals := 12000 }
/-- a wrapper's contract -/
def WrC (y : MethodName) (cc : ByteArray) (nL : Nat) (hh : List (Nat × Nat × Nat × Nat)) (as : List AV) (M : Mm) (Qw : Int → Int → Mm → Prop) : Prop := ∀ (l : Launch), l.stackTraces = false → ∀ (D : va_G) (tA : Nat → ClassId) (n0 o bs : Nat) (adr adV : Nat → Nat), LM n0 o bs adr →
  Met l y (Cond.codeWith y cc nL (some .int) hh :: gW) wrR (va_Pc (.ref (adr 0) :: (as.map (cvA adr) ++ [.ref o])) (WPre D tA n0 o bs adr adV M)) (WPost D tA n0 o bs adr Qw) 100 12000 (fun q => n0 ≤ q)
theorem WPre.blind {D : va_G} {tA : Nat → ClassId} {n0 o bs : Nat} {adr adV : Nat → Nat} {M : Mm} {vs : List Value} : FrameBlind (va_Pc vs (WPre D tA n0 o bs adr adV M)) := by
  intro a U g mk ⟨h, h1, f, h2⟩
  exact ⟨h, LSt.same (u := U) (U := U.calling g mk a) rfl h1, f, h2⟩
section L4
variable {p : Program} {l : Launch} {e : Env} {s : State} {m : MethodId} {args : Array Value} {below : List Frame} {meth : Method} {c : Code}
variable {D : va_G} {tA : Nat → ClassId} {n0 o bs : Nat} {adr adV : Nat → Nat} {M : Mm} {f : Nat → Int64} {H : Heap} {locs : List Loc} {cells slots pc : Nat} {ls : Array Slot} {rest st0 : List Value} {nL : Nat} {cc : ByteArray} {Qw : Int → Int → Mm → Prop}
theorem wr_fin {r x : Int} (X : LX p s m args c nL cc) (hret : meth.sig.returnType = some .int) (hlk : meth.locks = false) (hq : Qw r x M) (hf : r = 0 → f 0 = (iN x).toInt64) (hh : LH D tA n0 o bs adr M f H) (hS : LV n0 s H locs) (hc : cells ≤ 100) (hs : slots ≤ 12000) (hdg : decode cc pc = .ok (.ireturn, 1)) :
    W p l e wrR s m args below meth c H locs cells slots (MQ below (WPost D tA n0 o bs adr Qw) args s 100 12000 (fun q => n0 ≤ q)) (F0 m pc ls [.int (iN r)]) := by
  refine W.widen hc hs (W.iret X.1 X.2.1 hret (fun t ht _ => ⟨⟨r, x, M, f, rfl, hq, hf, by rw [ht]; exact hh⟩, va_S.F hS ht⟩) hS.2.2 hdg hlk)
theorem wr_mid {hm : List (Nat × Int)} {mA mB idx E k : Nat} {off : Int} {as : List AV} (hsim : SimW hm mA mB as k M) (hr0 : ∀ z ∈ hm, z.2 ≠ 0 ∧ inR z.2) (X : LX p s m args c nL cc) (hw : LWd idx mA) (hL : LM n0 o bs adr) (hs : LSt D tA n0 adr adV s s.heap) (hh : LH D tA n0 o bs adr M f H) (hS : LV n0 s H locs) (hls : ls.size = nL) (hb : kc (lay 0) (oM mA)) (hn : as.length + 1 = nM mA) (hR : dM mA ≤ 90) (ho : oM mA < 14) (hlm : as.length + 1 ≤ lM mA) (hfl : l.stackTraces = false)
    (hret : meth.sig.returnType = some .int) (hlk : meth.locks = false) (hst : st0 = (as.map (cvA adr)).reverse ++ [.ref (adr 0), .int 0, .ref o])
    (d0 : decode cc pc = .ok (.invokevirtual idx, 3)) (d1 : decode cc (pc + 3) = .ok (.i2l, 1)) (d2 : decode cc (pc + 4) = .ok (.lastore, 1)) (d3 : decode cc (pc + 5) = .ok (.goto off, 3)) (ht : ((pc + 5 : Nat) : Int) + off = (E : Int)) (d4 : decode cc E = .ok (.iconst 0, 1)) (d5 : decode cc (E + 1) = .ok (.ireturn, 1))
    (hcat : ∀ z ∈ hm, ∀ H1 locs1 q9 ce, H1[q9]? = some ce → ce.vm = .none → s.vm.findClass (excN z.1) = some ce.cls → (∀ pcE ls', decode cc pcE = .ok (.ireturn, 1) → W p l e wrR s m args below meth c H1 locs1 1 6 (MQ below (WPost D tA n0 o bs adr (WQ mB as k)) args s 100 12000 (fun q => n0 ≤ q)) (F0 m pcE ls' [.int (iN z.2)])) →
      vx_W p l e wrR s m args below meth c H1 locs1 1 6 (MQ below (WPost D tA n0 o bs adr (WQ mB as k)) args s 100 12000 (fun q => n0 ≤ q)) (F0 m pc ls [.int 0, .ref o]) q9) :
    W p l e wrR s m args below meth c H locs 0 0 (MQ below (WPost D tA n0 o bs adr (WQ mB as k)) args s 100 12000 (fun q => n0 ≤ q)) (F0 m pc ls st0) := by
  rcases hsim with hs1 | ⟨z, hz, Xp, hT, hX⟩
  · refine l_call X hw hL hs hh hS hls hb hn ⟨by show dM mA + 1 ≤ 100; omega, by show 49 + 64 * dM mA ≤ 12000; omega⟩ ⟨Nat.zero_le _, Nat.zero_le _⟩ (by simp [Value.category]) hst d0 hs1 (fun v M1 H1 locs1 hv hh1 hS1 => ?_)
    obtain ⟨x, rfl, hx, hB⟩ := hv
    show W p l e wrR s m args below meth c H1 locs1 0 0 _ (F0 m (pc + 3) ls [.int (iN x), .int 0, .ref o])
    refine lv_i2l X.1 X.2.1 d1 rfl ?_
    refine l_out X hL hs hh1 hS1 d2 (fun H2 locs2 hh2 hS2 => ?_)
    refine lv_goto X.1 X.2.1 d3 ht ?_
    refine lv_iconst (v := iN 0) X.1 X.2.1 d4 (by decide) ?_
    refine wr_fin (r := 0) (x := x) X hret hlk ⟨⟨inR_0, hx⟩, hB.mono (fun y M2 w => ⟨w.2.1, fun _ => w.1, w.2.2⟩)⟩ (fun _ => ?_) hh2 hS2 (by omega) (by omega) d5
    simp [vp_updL]
  · obtain ⟨n, hn4, hC⟩ := callX_of hw.2.2.2 ho (show ((.inr 0 : AV) :: as).length ≤ lM mA from hlm) hT
    refine l_throw X hw hL hs hh hS hls hb hn hn4 ⟨by show dM mA + 7 ≤ 100; omega, by show 949 + 64 * dM mA ≤ 12000; omega⟩ ⟨by decide, by decide⟩ hfl (by simp [Value.category]) hst d0 hC (fun q0 M1 H1 locs1 q9 ce hXp hh1 hS1 h1 h2 h3 => ?_)
    obtain ⟨rfl, hB⟩ := hX q0 M1 hXp
    refine hcat z hz H1 locs1 q9 ce h1 h2 h3 (fun pcE ls' dE => ?_)
    refine wr_fin (r := z.2) (x := 0) X hret hlk ⟨⟨(hr0 z hz).2, inR_0⟩, hB.mono (fun y M2 w => ⟨w.1, fun h => absurd h (hr0 z hz).1, w.2⟩)⟩ (fun h => absurd h (hr0 z hz).1) hh1 hS1 (by omega) (by omega) dE
end L4
theorem wr_of {y : MethodName} {cc : ByteArray} {nL : Nat} {hh : List (Nat × Nat × Nat × Nat)} {as : List AV} {M : Mm} {Qw : Int → Int → Mm → Prop} (hpl : plainName y.cls = true) (hy : y.cls = lwN) (hnl : ∀ (adr : Nat → Nat) (o : Nat), (lg_sl ((.ref (adr 0) : Value) :: (as.map (cvA adr) ++ [.ref o]))).length ≤ nL)
    (h : ∀ (p : Program) (l : Launch) (e : Env) (s : State) (m : MethodId) (args : Array Value) (below : List Frame) (meth : Method) (c : Code) (D : va_G) (tA : Nat → ClassId) (n0 o bs : Nat) (adr adV : Nat → Nat) (f : Nat → Int64) (ls : Array Slot), l.stackTraces = false → LM n0 o bs adr → LX p s m args c nL cc → LSt D tA n0 adr adV s s.heap → LH D tA n0 o bs adr M f s.heap → c.exceptionTable.toList = tableOf hh → meth.sig.returnType = some .int → meth.locks = false → lv_has ls nL (lv_args 0 (.ref (adr 0) :: (as.map (cvA adr) ++ [.ref o]))) →
      W p l e wrR s m args below meth c s.heap [] 0 0 (MQ below (WPost D tA n0 o bs adr Qw) args s 100 12000 (fun q => n0 ≤ q)) (F0 m 0 ls [])) : WrC y cc nL hh as M Qw := by
  intro l hfl D tA n0 o bs adr adV hL
  refine va_MetW (hh := hh) (cc := cc) (maxL := nL) (ret := some .int) hpl rfl ?_
  intro p e s m args below meth c s₁ B hml hv
  obtain ⟨rfl, hs, f, hH⟩ := hv
  have hts := atoms_spec (ws := Cond.codeWith y cc nL (some .int) hh :: gW) B.pre
  have hown : s.vm.findClass lwN = some m.cls := by rw [← hy]; exact findClass_of_methodNamed B.named
  rw [lg_entry_eq]
  have hl := lv_entry ((.ref (adr 0) : Value) :: (as.map (cvA adr) ++ [.ref o])) (n := nL) (hnl adr o)
  exact h p l e s m _ below meth c D tA n0 o bs adr adV f _ hfl hL ⟨B.exec, B.bytes, hml, hown, fun w hw => hts w (List.mem_cons_of_mem _ hw)⟩ hs hH (vx_table (x := y) B (hts _ List.mem_cons_self)) B.returns B.notSynchronized hl

/-! THE LAW, 3: pieces of its body. -/
section L5
variable {M : Mm}
set_option maxHeartbeats 600000 in
set_option maxRecDepth 20000 in
theorem Mthrown_ok : CallI m_Model_thrown [.inr 154] M (fun x M' => x = M 154 1 ∧ M' = M) := by
  refine callP_of (by decide) (by decide) (Nat.le_of_ble_eq_true rfl) (wpm_of (cuts := []) (by decide) 50 _ _ _ _ ?_)
  rw [show lM m_Model_thrown = 1 from rfl]
  simp (maxSteps := 2000000) only [↓reduceIte, wp_eq, wpd_eq, kont_eq, STP1, STP2, STP3, STP4, STP5, konM_eq, AMK, CZ, Option.map, List.getElem?_cons_zero, List.getElem?_cons_succ, List.mem_cons, List.not_mem_nil, if_false, if_true, Nat.reduceAdd, Nat.reduceLT, Nat.reduceLeDiff, Nat.reduceEqDiff, true_and, and_true, List.length_nil, List.length_cons, or_true, true_or, or_false, false_or, Option.some.injEq, Sum.inl.injEq, Sum.inr.injEq, exists_eq_left', exists_eq_left, Int.reduceLE, Int.reduceLT, Int.reduceNeg, Int.reduceAdd, Int.reduceMul, Int.reduceSub, Int.reduceToNat, inR, Nat.zero_ne_one, false_and, Nat.succ_ne_zero, reduceCtorEq, false_implies, true_implies, not_false_eq_true, not_true_eq_false, Int.reduceEq, KRE, C_Model_thrown, FM]
end L5
theorem simW1 {mA mB k : Nat} {as : List AV} {M : Mm} (h : Sim mA mB as k M ∨ SimX mA mB as k 0 1 M) : SimW [(0, 1)] mA mB as k M := h.elim .inl (fun h => .inr ⟨(0, 1), by simp, h⟩)
theorem simW2 {mA mB k : Nat} {as : List AV} {M : Mm} (h : Sim mA mB as k M ∨ SimX mA mB as k 0 1 M ∨ SimX mA mB as k 1 2 M) : SimW [(0, 1), (1, 2)] mA mB as k M := h.elim .inl (fun h => h.elim (fun h => .inr ⟨(0, 1), by simp, h⟩) (fun h => .inr ⟨(1, 2), by simp, h⟩))
section L6
variable {p : Program} {l : Launch} {e : Env} {s : State} {m : MethodId} {args : Array Value} {below : List Frame} {meth : Method} {c : Code} {Q : State → Prop}
variable {D : va_G} {tA : Nat → ClassId} {n0 o bs b L i : Nat} {xs : Nat → Int32} {adr adV : Nat → Nat} {M : Mm} {f : Nat → Int64} {H : Heap} {locs : List Loc} {cells slots pc : Nat} {ls : Array Slot} {rest st0 : List Value}
/-- what the law's walk stands on -/
def LCx (p : Program) (s : State) (m : MethodId) (args : Array Value) (c : Code) (D : va_G) (tA : Nat → ClassId) (n0 o bs : Nat) (adr adV : Nat → Nat) (b L : Nat) (xs : Nat → Int32) : Prop :=
  LX p s m args c 7 code ∧ LM n0 o bs adr ∧ LSt D tA n0 adr adV s s.heap ∧ va_X b L xs s s.heap ∧ (b < s.heap.size ∧ n0 = s.heap.size) ∧ L ≤ 3072
abbrev lvB (b o : Nat) (adr : Nat → Nat) (i : Nat) : List (Nat × Value) := [(0, .ref b), (1, .ref (adr 0)), (2, .ref (adr 154)), (3, .ref o), (4, .int (iN (i : Int)))]
/-- script[i + j] -/
theorem l_arg {j : Nat} (C : LCx p s m args c D tA n0 o bs adr adV b L xs) (hS : LV n0 s H locs) (hij : i + j < L) (h0 : ls[0]? = some (.val (.ref b))) (h4 : ls[4]? = some (.val (.int (iN (i : Int))))) (dA : argD pc j)
    (kk : W p l e room_1 s m args below meth c H locs cells slots Q (F0 m (pc + 6) ls (.int (iN (xs (i + j)).toInt) :: rest))) : W p l e room_1 s m args below meth c H locs cells slots Q (F0 m pc ls rest) := by
  obtain ⟨X, hL, hs, hX, ⟨hb, hn0⟩, h3⟩ := C
  obtain ⟨d0, d1, d2, d3, d4⟩ := dA
  refine lv_aload_n (i := 0) (x := b) X.1 X.2.1 d0 rfl h0 ?_
  refine lv_iload (x := iN (i : Int)) X.1 X.2.1 d1 h4 ?_
  refine lv_iconst (v := iN (j : Int)) X.1 X.2.1 d2 rfl ?_
  refine lv_iadd X.1 X.2.1 d3 ?_
  rw [iN_add]
  have e1 : (iN ((i : Int) + (j : Int))).toNatClampNeg = i + j := by rw [iN_clamp (by omega) (by omega)]; omega
  refine va_sld (i := iN ((i : Int) + (j : Int))) X.1 X.2.1 hX hb (by show ¬ n0 ≤ b; omega) hS (iN_in (by omega) (by omega) (by omega)) d4 ?_
  rw [e1]
  rw [iN_ti] at kk
  exact kk
def LK (p : Program) (l : Launch) (e : Env) (s : State) (m : MethodId) (args : Array Value) (below : List Frame) (meth : Method) (c : Code) (Q : State → Prop) (D : va_G) (tA : Nat → ClassId) (n0 o bs : Nat) (adr : Nat → Nat) (b i k cells slots : Nat) : Prop :=
  ∀ (M' : Mm) (f' : Nat → Int64) (H' : Heap) (locs' : List Loc) (ls' : Array Slot), Rel (k + 1) M' → LH D tA n0 o bs adr M' f' H' → LV n0 s H' locs' → lv_has ls' 7 (lvB b o adr i) → W p l e room_1 s m args below meth c H' locs' (cells + 100) (slots + 12000) Q (F0 m 1655 ls' [])
/-- behind both calls: the codes are the same; where nothing was thrown the numbers too -/
theorem l_tailW {T : Nat} {off r x y : Int} (C : LCx p s m args c D tA n0 o bs adr adV b L xs) (hw : LWd 77 m_Model_thrown) (hl : lv_has ls 7 ((6, .int (iN y)) :: (5, .int (iN r)) :: lvB b o adr i)) (hr : inR r) (hf : r = 0 → f 0 = (iN x).toInt64) (hxy : r = 0 → x = y) (ht : M 154 1 = r) (hh : LH D tA n0 o bs adr M f H) (hS : LV n0 s H locs) (dT : tailD T off) (hc : cells ≤ 601024 ∧ slots ≤ 7293034)
    (kk : ∀ H1 locs1, LH D tA n0 o bs adr M f H1 → LV n0 s H1 locs1 → W p l e room_1 s m args below meth c H1 locs1 cells slots Q (F0 m 1655 ls [])) : W p l e room_1 s m args below meth c H locs cells slots Q (F0 m T ls []) := by
  obtain ⟨X, hL, hs, hX, hb, h3⟩ := C
  obtain ⟨⟨d0, d1, d4, d6⟩, ⟨d11, d13, d16, d17⟩, ⟨d18, d19, d21, d22⟩, d23, d28, hg⟩ := dT
  refine lv_aload_n (i := 2) (x := adr 154) X.1 X.2.1 d0 rfl (lv_at hl 4 rfl) ?_
  refine l_call (q := m_Model_thrown) (b := 154) (As := []) (rest := []) X hw hL hs hh hS hl.1 (show (12 : Nat) = 12 from rfl) rfl ⟨by decide +kernel, by decide +kernel⟩ hc (by simp) rfl d1 Mthrown_ok (fun v M1 H1 locs1 hv hh1 hS1 => ?_)
  obtain ⟨z, rfl, rfl, rfl⟩ := hv
  show W p l e room_1 s m args below meth c H1 locs1 cells slots Q (F0 m (T + 4) ls [.int (iN (M1 154 1))])
  rw [ht]
  refine lv_iload (x := iN r) X.1 X.2.1 d4 (lv_at hl 1 rfl) ?_
  refine lv_icmp_eq (tgt := T + 11) X.1 X.2.1 d6 (by omega) (fun _ => ?_) (fun z => absurd rfl z)
  refine lv_iload (x := iN r) X.1 X.2.1 d11 (lv_at hl 1 rfl) ?_
  refine lv_if_ne (tgt := T + 28) X.1 X.2.1 d13 (by omega) (fun _ => ?_) (fun z => ?_)
  · exact lv_goto X.1 X.2.1 d28 hg (kk H1 locs1 hh1 hS1)
  · have r0 : r = 0 := (iN_eq hr inR_0).mp z
    refine lv_aload_n (i := 3) (x := o) X.1 X.2.1 d16 rfl (lv_at hl 5 rfl) ?_
    refine lv_iconst (v := 0) X.1 X.2.1 d17 (by decide) ?_
    refine l_in X hs hh1 d18 ?_
    refine lv_iload (x := iN y) X.1 X.2.1 d19 (lv_at hl 0 rfl) ?_
    refine lv_i2l X.1 X.2.1 d21 rfl ?_
    refine W.lcmp X.1 X.2.1 d22 ?_
    rw [hf r0, hxy r0]
    refine lv_if_eq (tgt := T + 28) X.1 X.2.1 d23 (by omega) (fun _ => ?_) (fun z => absurd (by simp [lg_cmp]) z)
    exact lv_goto X.1 X.2.1 d28 hg (kk H1 locs1 hh1 hS1)
/-- the words of a call of a wrapper -/
def LWw (idx : Nat) (y : MethodName) (cc : ByteArray) (nL : Nat) (hh : List (Nat × Nat × Nat × Nat)) (n : Nat) : Prop := (Cond.methodLink lwN idx y ∈ gW ∧ Cond.static y ∈ gW) ∧ (Cond.initialized y.cls ∈ gW ∧ Cond.codeWith y cc nL (some .int) hh ∈ gW) ∧ (y.cls ≠ "java/lang/invoke/MethodHandle" ∧ y.cls ≠ "java/lang/invoke/VarHandle" ∧ (parseMethodDescriptor y.desc).map (fun d => d.parameters.length) = some n) ∧ nL ≤ 10
theorem l_wcall {idx nL2 n : Nat} {y : MethodName} {cc2 : ByteArray} {hh2 : List (Nat × Nat × Nat × Nat)} {as : List AV} {Qw : Int → Int → Mm → Prop} (C : LCx p s m args c D tA n0 o bs adr adV b L xs) (hC : WrC y cc2 nL2 hh2 as M Qw) (hw : LWw idx y cc2 nL2 hh2 n) (hn : as.length + 2 = n) (hfl : l.stackTraces = false) (hh : LH D tA n0 o bs adr M f H) (hS : LV n0 s H locs) (hls : ls.size = 7) (hc : cells + 100 ≤ 601024 ∧ slots + 12000 ≤ 7293034)
    (hst : st0 = .ref o :: ((as.map (cvA adr)).reverse ++ [.ref (adr 0)])) (hdg : decode code pc = .ok (.invokestatic idx, 3))
    (kk : ∀ r x M' f' H1 locs1, Qw r x M' → (r = 0 → f' 0 = (iN x).toInt64) → LH D tA n0 o bs adr M' f' H1 → LV n0 s H1 locs1 → W p l e room_1 s m args below meth c H1 locs1 (cells + 100) (slots + 12000) Q (F0 m (pc + 3) ls [.int (iN r)])) : W p l e room_1 s m args below meth c H locs cells slots Q (F0 m pc ls st0) := by
  obtain ⟨X, hL, hs, hX, hb, h3⟩ := C
  obtain ⟨⟨w1, w2⟩, ⟨w3, w4⟩, w5, h10⟩ := hw
  have hgood : GoodIn gW (va_wsS lwN idx y (Cond.codeWith y cc2 nL2 (some .int) hh2 :: gW)) := by
    intro w hw
    simp only [va_wsS, List.mem_append, List.mem_cons, List.not_mem_nil, or_false] at hw
    have g : w ∈ gW := by
      rcases hw with (rfl | rfl | rfl) | (rfl | hw)
      · exact w1
      · exact w2
      · exact w3
      · exact w4
      · exact hw
    exact ⟨g, good_of_word (List.mem_filter.mp g).2⟩
  have hr := vx_runSW (p := p) (l := l) (e := e) (R := room_1) (s := s) (m := m) (args := args) (below := below) (meth := meth) (c := c) (H := H) (locs := locs) (cells := cells) (slots := slots) (own := lwN) (Ts := gW) (nL := 7) (As := .ref (adr 0) :: (as.map (cvA adr) ++ [.ref o])) (rest := []) (g := F0 m pc ls st0) (n := n) X (hC l hfl D tA n0 o bs adr adV hL)
    (vx_cwSW n X.2.2.2.2 hgood rfl rfl rfl w5 ⟨by show 100 + 1 ≤ 2048; omega, by show 8 + (nL2 + 11) + 12000 ≤ 84000; omega⟩) ⟨WPre.blind, fun U hU hW => ⟨rfl, hU ▸ hs.now hS hW, f, hU ▸ hh⟩⟩ rfl (by simp; omega) hls (by show st0 = _; rw [hst]; simp) (lv_room (pc := pc) (ls := ls) (rest := st0) (by simp)) hdg hc
  intro T hT XX
  obtain ⟨v, st₀, t, T', L2, h0, X', hL2, e1, e2, ⟨⟨r, x, M', f', hv, hq, hf, hh1⟩, hz, hkk⟩, st⟩ := hr T hT XX
  rw [h0] at hz hkk
  cases hv
  have K := kk r x M' f' T'.heap (locs ++ L2) hq hf (by rw [e1]; exact hh1) (vS_app hS (by rw [e1]; exact hz) (fun q h1 h2 => by rw [e1]; exact hkk q h1 h2) (fun q h => h) hL2)
  obtain ⟨t2, a1, b1⟩ := K T' rfl X'
  exact ⟨t2, st t2 a1, b1⟩
end L6

/-! THE BUILDER, 1: its world: the object bs with its bytes bb; contracts of its methods. -/
def tset (T : Nat → Int) (k : Nat) (v : Int) : Nat → Int := fun j => if j = k then v else T j
theorem tOk_set {T : Nat → Int} {k : Nat} {v : Int} (h : tOk T) (h0 : 0 ≤ v) (h1 : v ≤ 127) : tOk (tset T k v) := fun j => by
  unfold tset
  split
  · exact ⟨h0, h1⟩
  · exact h j
theorem upd_tset {T : Nat → Int} {k : Nat} {v : Int} : upd (fun j => iN (T j)) k (iN v) = fun j => iN (tset T k v j) := by
  funext j
  unfold tset
  by_cases h : j = k <;> simp [upd, h]
abbrev BS : Type := Nat × Nat × Nat × Int32 × (Nat → Int)
abbrev xB (x : BS) : Nat := x.1
abbrev xC (x : BS) : Nat := x.2.1
abbrev xN (x : BS) : Nat := x.2.2.1
abbrev xM (x : BS) : Int32 := x.2.2.2.1
abbrev xT (x : BS) : Nat → Int := x.2.2.2.2
def BW (tA : Nat → ClassId) (bs : Nat) (x : BS) : va_W := [(bs, bObj (xB x) (xN x) (xM x)), (xB x, bByt tA (xC x) (xT x))]
def okX (x : BS) : Prop := cOk (xC x) ∧ xN x ≤ xC x ∧ tOk (xT x)
/-- what a method of the builder may write -/
def bA (bs bb sz : Nat) : Nat → Prop := fun q => q = bs ∨ q = bb ∨ sz ≤ q
/-- what stands still beside the builder -/
def BK (D : va_G) (tA : Nat → ClassId) (n0 : Nat) (adr adV : Nat → Nat) (U : State) (H : Heap) : Prop := va_K D clA [(tA 4, .byte), (tA 5, .long)] U ∧ Stc adr adV (fun q => n0 ≤ q) U H ∧ DG (fun q => n0 ≤ q) U H ∧ PV U
def BPre (D : va_G) (tA : Nat → ClassId) (n0 : Nat) (adr adV : Nat → Nat) (sz bs : Nat) (x : BS) (U : State) : Prop :=
  (U.heap.size = sz ∧ n0 ≤ sz ∧ n0 ≤ bs ∧ n0 ≤ xB x ∧ bs ≠ xB x) ∧ okX x ∧ va_P D clA (BW tA bs x) U.heap ∧ BK D tA n0 adr adV U U.heap
def BPost (D : va_G) (tA : Nat → ClassId) (sz bs bb : Nat) (Rr : Option Value → BS → Prop) : Array Value → State → Outcome → State → Prop := fun _ st oc t =>
  (∃ v x, oc = .returned v ∧ Rr v x ∧ okX x ∧ va_P D clA (BW tA bs x) t.heap ∧ (bs ≠ xB x ∧ bA bs bb sz (xB x))) ∧ va_F (bA bs bb sz) st t
/-- a contract of a builder's method, or of one that it calls -/
def BC (y : MethodName) (cc : ByteArray) (nL : Nat) (ret : Option FieldType) (fr lo mc ms : Nat) (bs : Nat) (av : BS → (Nat → Nat) → List Value) (P : BS → Prop) (Rr : BS → Option Value → BS → Prop) : Prop := ∀ (l : Launch) (D : va_G) (tA : Nat → ClassId) (n0 : Nat) (adr adV : Nat → Nat) (sz : Nat) (x : BS), P x →
  Met l y (Cond.code y cc nL ret :: gW) { frames := fr, cells := mc, slots := ms, locals := lo } (va_Pc (av x adr) (BPre D tA n0 adr adV sz bs x)) (BPost D tA sz bs (xB x) (Rr x)) mc ms (bA bs (xB x) sz)
theorem BK.moved {D : va_G} {tA : Nat → ClassId} {n0 : Nat} {adr adV : Nat → Nat} {u U : State} {H : Heap} (hvm : u.vm.Alike U.vm) (h : BK D tA n0 adr adV u H) : BK D tA n0 adr adV U H := ⟨va_K.moved hvm h.1, Stc.moved hvm h.2.1, h.2.2.1.moved hvm, h.2.2.2.moved hvm⟩
theorem BK.kept {D : va_G} {tA : Nat → ClassId} {n0 : Nat} {adr adV : Nat → Nat} {U : State} {H H1 : Heap} (h : BK D tA n0 adr adV U H) (hq : ∀ a : Nat, a < H.size → ¬ n0 ≤ a → H1[a]? = H[a]?) : BK D tA n0 adr adV U H1 := ⟨h.1, h.2.1.kept hq, h.2.2.1.kept hq, h.2.2.2⟩
theorem BPre.blind {D : va_G} {tA : Nat → ClassId} {n0 : Nat} {adr adV : Nat → Nat} {sz bs : Nat} {x : BS} {vs : List Value} : FrameBlind (va_Pc vs (BPre D tA n0 adr adV sz bs x)) := by
  intro a U g mk ⟨h, h1, h2, h3, h4⟩
  exact ⟨h, h1, h2, h3, BK.moved (u := U) (U := U.calling g mk a) (Vm.Alike.refl U.vm) h4⟩
section B1
variable {p : Program} {l : Launch} {e : Env} {R : Room} {s : State} {m : MethodId} {args : Array Value} {below : List Frame} {meth : Method} {c : Code} {Q : State → Prop}
variable {D : va_G} {tA : Nat → ClassId} {n0 sz bs bb0 : Nat} {adr adV : Nat → Nat} {x : BS} {H : Heap} {locs : List Loc} {cells slots pc : Nat} {ls : Array Slot} {rest st0 : List Value} {nL : Nat} {cc : ByteArray} {own : String}
/-- a method in its run -/
def BX (p : Program) (s : State) (m : MethodId) (args : Array Value) (c : Code) (own : String) (nL : Nat) (cc : ByteArray) : Prop := p.tables.exec = Jvm.exec ∧ c.code = cc ∧ c.maxLocals = nL ∧ s.vm.findClass own = some m.cls ∧ ∀ w ∈ gW, w.before args s = true
/-- the frame's own start: its heap's size, the bytes that it found -/
def BZ (D : va_G) (tA : Nat → ClassId) (n0 : Nat) (adr adV : Nat → Nat) (sz bs bb0 : Nat) (s : State) : Prop := (s.heap.size = sz ∧ n0 ≤ sz ∧ n0 ≤ bs ∧ n0 ≤ bb0) ∧ BK D tA n0 adr adV s s.heap
/-- the world now -/
def GB (D : va_G) (tA : Nat → ClassId) (sz bs bb0 : Nat) (x : BS) (s : State) (H : Heap) (locs : List Loc) : Prop := va_P D clA (BW tA bs x) H ∧ (bs ≠ xB x ∧ bA bs bb0 sz (xB x)) ∧ okX x ∧ va_S (bA bs bb0 sz) s.heap H locs
theorem bA_n0 (h : BZ D tA n0 adr adV sz bs bb0 s) (q : Nat) (hq : bA bs bb0 sz q) : n0 ≤ q := by
  obtain ⟨⟨h1, h2, h3, h4⟩, -⟩ := h
  rcases hq with rfl | rfl | hq
  · exact h3
  · exact h4
  · omega
theorem BZ.S (h : BZ D tA n0 adr adV sz bs bb0 s) (g : GB D tA sz bs bb0 x s H locs) : va_S (fun q => n0 ≤ q) s.heap H locs := ⟨g.2.2.2.1, fun q h1 h2 => g.2.2.2.2.1 q h1 (fun z => h2 (bA_n0 h q z)), fun q hq => bA_n0 h _ (g.2.2.2.2.2 q hq)⟩
theorem GB.dd (g : GB D tA sz bs bb0 x s H locs) : va_D (bA bs bb0 sz) (BW tA bs x) := by
  have hl : ∀ {k : Nat} {q : Nat × va_E}, (BW tA bs x)[k]? = some q → k = 0 ∧ q.1 = bs ∨ k = 1 ∧ q.1 = xB x := by
    intro k q hk
    match k, hk with
    | 0, hk => exact .inl ⟨rfl, by cases hk; rfl⟩
    | 1, hk => exact .inr ⟨rfl, by cases hk; rfl⟩
  refine ⟨fun i j p q hi hj e => ?_, fun k q hk => ?_⟩
  · rcases hl hi with ⟨rfl, h1⟩ | ⟨rfl, h1⟩ <;> rcases hl hj with ⟨rfl, h2⟩ | ⟨rfl, h2⟩
    · rfl
    · exact absurd (h1.symm.trans (e.trans h2)) g.2.1.1
    · exact absurd (h2.symm.trans (e.symm.trans h1)) g.2.1.1
    · rfl
  · rcases hl hk with ⟨-, h1⟩ | ⟨-, h1⟩
    · rw [h1]; exact .inl rfl
    · rw [h1]; exact g.2.1.2
/-- a field of the builder -/
theorem b_get {k index : Nat} {v : Value} (X : BX p s m args c own nL cc) (hz : BZ D tA n0 adr adV sz bs bb0 s) (g : GB D tA sz bs bb0 x s H locs) (hk : k < 4) (hl : Cond.fieldLink own index (TJ4 k).1 (TJ4 k).2.1 (TJ4 k).2.2.1 ∈ gW) (hv : ([.ref (xB x), .int (iN 0), .int (xM x), .int (iN (xN x : Int))] : List Value)[k]? = some v) (hdg : decode cc pc = .ok (.getfield index, 3))
    (kk : W p l e R s m args below meth c H locs cells slots Q (F0 m (pc + 3) ls (v :: rest))) : W p l e R s m args below meth c H locs cells slots Q (F0 m pc ls (.ref bs :: rest)) := by
  obtain ⟨c1, c2⟩ := c13
  exact va_get (ref := (TJ4 k).1) X.1 X.2.1 X.2.2.2.2 c2 X.2.2.2.1 hz.2.1 g.1 0 rfl c1 k hk (X.2.2.2.2 _ hl) (fun _ h => h) hv hdg kk
theorem b_put {k index : Nat} {ty : FieldType} {v : Value} (X : BX p s m args c own nL cc) (hz : BZ D tA n0 adr adV sz bs bb0 s) (g : GB D tA sz bs bb0 x s H locs) (hk : k < 4) (hl : Cond.fieldLink own index (TJ4 k).1 (TJ4 k).2.1 (TJ4 k).2.2.1 ∈ gW) (hfin : (TJ4 k).2.2.2 = false) (hd : parseFieldDescriptor (TJ4 k).2.2.1 = some ty) (hn : narrow ty v = v) (hf : fits ty v = true) (hdg : decode cc pc = .ok (.putfield index, 3)) {x' : BS} (hx : okX x') (e1 : xB x' = xB x) (e2 : ([.ref (xB x), .int (iN 0), .int (xM x), .int (iN (xN x : Int))] : List Value).set k v = [.ref (xB x'), .int (iN 0), .int (xM x'), .int (iN (xN x' : Int))]) (e3 : bByt tA (xC x) (xT x) = bByt tA (xC x') (xT x'))
    (kk : ∀ H1 locs1, GB D tA sz bs bb0 x' s H1 locs1 → W p l e R s m args below meth c H1 locs1 cells slots Q (F0 m (pc + 3) ls rest)) : W p l e R s m args below meth c H locs cells slots Q (F0 m pc ls (v :: .ref bs :: rest)) := by
  obtain ⟨c1, c2⟩ := c13
  refine va_put (ref := (TJ4 k).1) X.1 X.2.1 X.2.2.2.2 c2 tyJ4 tyJ4_ok nmJ4 X.2.2.2.1 hz.2.1 g.1 g.dd g.2.2.2 0 rfl c1 k hk (X.2.2.2.2 _ hl) (fun _ h => h) hfin hd hn hf (by simpa using hk) hdg (fun H1 locs1 hP hD hS => kk H1 locs1 ?_)
  rw [e2] at hP
  have e : (BW tA bs x).set 0 (bs, .inr (13, [.ref (xB x'), .int (iN 0), .int (xM x'), .int (iN (xN x' : Int))])) = BW tA bs x' := by
    show [_, (xB x, bByt tA (xC x) (xT x))] = _
    rw [e3, ← e1]
    rfl
  rw [e] at hP
  exact ⟨hP, by rw [e1]; exact g.2.1, hx, hS⟩
/-- the bytes' length -/
theorem b_len (X : BX p s m args c own nL cc) (hz : BZ D tA n0 adr adV sz bs bb0 s) (g : GB D tA sz bs bb0 x s H locs) (hdg : decode cc pc = .ok (.arraylength, 1))
    (kk : W p l e R s m args below meth c H locs cells slots Q (F0 m (pc + 1) ls (.int (iN (xC x : Int)) :: rest))) : W p l e R s m args below meth c H locs cells slots Q (F0 m pc ls (.ref (xB x) :: rest)) :=
  va_alen X.1 X.2.1 hz.2.1 g.1 1 0 rfl rfl (by show Int32.ofNat (xC x) = _; simp [iN, Int32.ofInt_eq_ofNat]) hdg kk
theorem b_ald {i : Int} (X : BX p s m args c own nL cc) (hz : BZ D tA n0 adr adV sz bs bb0 s) (g : GB D tA sz bs bb0 x s H locs) (h0 : 0 ≤ i) (h1 : i < xC x) (hdg : decode cc pc = .ok (.baload, 1))
    (kk : W p l e R s m args below meth c H locs cells slots Q (F0 m (pc + 1) ls (.int (iN (xT x i.toNat)) :: rest))) : W p l e R s m args below meth c H locs cells slots Q (F0 m pc ls (.int (iN i) :: .ref (xB x) :: rest)) := by
  have hC : xC x ≤ 142 := by rcases g.2.2.1.1 with h | h | h | h <;> omega
  refine va_bald X.1 X.2.1 hz.2.1 g.1 1 0 rfl rfl (iN_in h0 (n := xC x) h1 (by omega)) hdg ?_
  rw [iN_clamp h0 (by omega)]
  exact kk
theorem b_nar {v : Int} (h0 : 0 ≤ v) (h1 : v ≤ 127) : vp_nar .byte (iN v) = iN v := by
  obtain ⟨n, rfl⟩ : ∃ n : Nat, v = n := ⟨v.toNat, by omega⟩
  have hn : n < 128 := by omega
  exact (show ∀ n : Nat, n < 128 → vp_nar .byte (iN (n : Int)) = iN (n : Int) by decide +kernel) n hn
theorem b_ast {i v : Int} (X : BX p s m args c own nL cc) (hz : BZ D tA n0 adr adV sz bs bb0 s) (g : GB D tA sz bs bb0 x s H locs) (h0 : 0 ≤ i) (h1 : i < xC x) (v0 : 0 ≤ v) (v1 : v ≤ 127) (hdg : decode cc pc = .ok (.bastore, 1))
    (kk : ∀ H1 locs1, GB D tA sz bs bb0 (xB x, xC x, xN x, xM x, tset (xT x) i.toNat v) s H1 locs1 → W p l e R s m args below meth c H1 locs1 cells slots Q (F0 m (pc + 1) ls rest)) : W p l e R s m args below meth c H locs cells slots Q (F0 m pc ls (.int (iN v) :: .int (iN i) :: .ref (xB x) :: rest)) := by
  have hC : xC x ≤ 142 := by rcases g.2.2.1.1 with h | h | h | h <;> omega
  refine va_bast X.1 X.2.1 hz.2.1 g.1 g.dd g.2.2.2 1 0 rfl rfl (iN_in h0 (n := xC x) h1 (by omega)) hdg (fun H1 locs1 hP hD hS => kk H1 locs1 ⟨?_, g.2.1, ⟨g.2.2.1.1, g.2.2.1.2.1, tOk_set g.2.2.1.2.2 v0 v1⟩, hS⟩)
  rw [iN_clamp h0 (by omega), b_nar v0 v1, upd_tset] at hP
  exact hP
/-- the end of a method, by what it answers -/
theorem b_zret {v : Int32} {ty : FieldType} {mc ms : Nat} {Rr : Option Value → BS → Prop} (X : BX p s m args c own nL cc) (hret : meth.sig.returnType = some ty) (hnar : narrow ty (.int v) = .int v) (hlk : meth.locks = false) (g : GB D tA sz bs bb0 x s H locs) (hR : Rr (some (.int v)) x) (hc : cells ≤ mc) (hs : slots ≤ ms) (hdg : decode cc pc = .ok (.ireturn, 1)) :
    W p l e R s m args below meth c H locs cells slots (MQ below (BPost D tA sz bs bb0 Rr) args s mc ms (bA bs bb0 sz)) (F0 m pc ls [.int v]) :=
  W.widen hc hs (W.zret X.1 X.2.1 hret hnar (fun t ht _ => ⟨⟨_, x, rfl, hR, g.2.2.1, by rw [ht]; exact g.1, g.2.1⟩, va_S.F g.2.2.2 ht⟩) g.2.2.2.2.2 hdg hlk)
theorem b_vret {mc ms : Nat} {Rr : Option Value → BS → Prop} (X : BX p s m args c own nL cc) (hret : meth.sig.returnType = none) (hlk : meth.locks = false) (g : GB D tA sz bs bb0 x s H locs) (hR : Rr none x) (hc : cells ≤ mc) (hs : slots ≤ ms) (hdg : decode cc pc = .ok (.return_, 1)) :
    W p l e R s m args below meth c H locs cells slots (MQ below (BPost D tA sz bs bb0 Rr) args s mc ms (bA bs bb0 sz)) (F0 m pc ls []) :=
  W.widen hc hs (W.vret X.1 X.2.1 hret (fun t ht _ => ⟨⟨none, x, rfl, hR, g.2.2.1, by rw [ht]; exact g.1, g.2.1⟩, va_S.F g.2.2.2 ht⟩) g.2.2.2.2.2 hdg hlk)
theorem b_aret {a : Nat} {nm : String} {mc ms : Nat} {Rr : Option Value → BS → Prop} (X : BX p s m args c own nL cc) (hret : meth.sig.returnType = some (.object nm)) (hlk : meth.locks = false) (g : GB D tA sz bs bb0 x s H locs) (hR : Rr (some (.ref a)) x) (hc : cells ≤ mc) (hs : slots ≤ ms) (hdg : decode cc pc = .ok (.areturn, 1)) :
    W p l e R s m args below meth c H locs cells slots (MQ below (BPost D tA sz bs bb0 Rr) args s mc ms (bA bs bb0 sz)) (F0 m pc ls [.ref a]) :=
  W.widen hc hs (W.aret X.1 X.2.1 hret (Or.inl ⟨nm, rfl⟩) (Or.inr ⟨_, rfl⟩) (fun t ht _ => ⟨⟨_, x, rfl, hR, g.2.2.1, by rw [ht]; exact g.1, g.2.1⟩, va_S.F g.2.2.2 ht⟩) g.2.2.2.2.2 hdg hlk)
/-- behind a call -/
theorem b_after {mc ms : Nat} {a : Array Value} {Rr : Option Value → BS → Prop} (hz : s.heap.size = sz) (g : GB D tA sz bs bb0 x s H locs) (hr : va_Run p l e R s m args below meth c H locs cells slots mc ms (F0 m pc ls st0) rest (BPost D tA H.size bs (xB x) Rr a) (bA bs (xB x) H.size))
    (kk : ∀ v x' H1 locs1, Rr v x' → GB D tA sz bs bb0 x' s H1 locs1 → W p l e R s m args below meth c H1 locs1 (cells + mc) (slots + ms) Q (F0 m (pc + 3) ls (v.toList ++ rest))) : W p l e R s m args below meth c H locs cells slots Q (F0 m pc ls st0) := by
  intro T hT X
  obtain ⟨v, st₀, t, T', L2, h0, X', hL2, e1, e2, ⟨⟨_, x', hv, hR, hx, hP, hb, hbA⟩, hsz, hkk⟩, st⟩ := hr T hT X
  rw [h0] at hsz hkk
  cases hv
  have hH : sz ≤ H.size := by rw [← hz]; exact g.2.2.2.1
  have hsub : ∀ q, bA bs (xB x) H.size q → bA bs bb0 sz q := by
    rintro q (rfl | rfl | hq)
    · exact .inl rfl
    · exact g.2.1.2
    · exact .inr (.inr (Nat.le_trans hH hq))
  have K := kk v x' T'.heap (locs ++ L2) hR ⟨by rw [e1]; exact hP, ⟨hb, hsub _ hbA⟩, hx, vS_app g.2.2.2 (by rw [e1]; exact hsz) (fun q h1 h2 => by rw [e1]; exact hkk q h1 h2) hsub (fun q hq => hsub _ (hL2 q hq))⟩
  obtain ⟨t2, a1, b1⟩ := K T' rfl X'
  exact ⟨t2, st t2 a1, b1⟩
theorem b_pre (hz : BZ D tA n0 adr adV sz bs bb0 s) (g : GB D tA sz bs bb0 x s H locs) {U : State} (hU : U.heap = H) (hW : s.WarmedH U.vm) : BPre D tA n0 adr adV H.size bs x U := by
  have hS := hz.S g
  refine ⟨⟨by rw [hU], ?_, hz.1.2.2.1, bA_n0 hz _ g.2.1.2, g.2.1.1⟩, g.2.2.1, by rw [hU]; exact g.1, ?_⟩
  · have := hS.1; have := hz.1.1; have := hz.1.2.1; omega
  · rw [hU]
    exact BK.moved hW.alike (hz.2.kept hS.2.1)
/-- the words of a call -/
def BWd (kind : Nat) (own : String) (idx : Nat) (y : MethodName) (cc : ByteArray) (nL : Nat) (ret : Option FieldType) (rc : String) (n : Nat) : Prop :=
  ((Cond.methodLink own idx y ∈ gW ∧ Cond.initialized y.cls ∈ gW ∧ Cond.code y cc nL ret ∈ gW) ∧ (y.cls ≠ "java/lang/invoke/MethodHandle" ∧ y.cls ≠ "java/lang/invoke/VarHandle" ∧ (parseMethodDescriptor y.desc).map (fun d => d.parameters.length) = some n) ∧ nL ≤ 20) ∧
  match kind with
  | 0 => Cond.instanceMethod y ∈ gW ∧ Cond.selects rc y y ∈ gW
  | 1 => Cond.static y ∈ gW
  | 3 => Cond.instanceMethod y ∈ gW ∧ Cond.privateMethod y ∈ pvL ∧ y.cls = "java/lang/AbstractStringBuilder"
  | _ => (Cond.instanceMethod y ∈ gW ∧ Cond.sameMethod y.cls y.cls y.name y.desc ∈ gW ∧ Cond.superclass own y.cls ∈ gW) ∧ y.name ≠ "<init>"
set_option maxRecDepth 100000 in
theorem sel_lat : Cond.selects RJ4 ⟨"java/lang/AbstractStringBuilder", "isLatin1", "()Z"⟩ ⟨"java/lang/AbstractStringBuilder", "isLatin1", "()Z"⟩ ∈ gW := gW_at (i := 1460) rfl rfl
theorem code_good {y : MethodName} {cc : ByteArray} {nL : Nat} {ret : Option FieldType} (hcode : Cond.code y cc nL ret ∈ gW) : GoodIn gW (Cond.code y cc nL ret :: gW) := by
  intro w hw
  rcases List.mem_cons.mp hw with rfl | hw
  · exact ⟨hcode, good_of_word (List.mem_filter.mp hcode).2⟩
  · exact ⟨hw, good_of_word (List.mem_filter.mp hw).2⟩
section CALLS
variable {y : MethodName} {cc2 : ByteArray} {nL2 fr lo mc ms idx n : Nat} {ret : Option FieldType} {av : BS → (Nat → Nat) → List Value} {P : BS → Prop} {Rr : BS → Option Value → BS → Prop} {As : List Value}
/-- a virtual call; its receiver's class is rc -/
theorem b_callV {rcv : Nat} {rc : String} (X : BX p s m args c own nL cc) (hz : BZ D tA n0 adr adV sz bs bb0 s) (g : GB D tA sz bs bb0 x s H locs) (hC : BC y cc2 nL2 ret fr lo mc ms bs av P Rr) (hP : P x) (hw : BWd 0 own idx y cc2 nL2 ret rc n) (hav : av x adr = .ref rcv :: As) (hn : As.length = n) (hrc : ∃ cellB : Cell, H[rcv]? = some cellB ∧ cellB.vm.isStatics = false ∧ s.vm.findClass rc = some cellB.cls) (hls : ls.size = nL) (hR : fr + 1 ≤ R.frames ∧ 39 + lo ≤ R.locals) (hf : cells + mc ≤ R.cells ∧ slots + ms ≤ R.slots) (hrest : (rest.map fun v => v.category).sum ≤ 8) (hst : st0 = As.reverse ++ .ref rcv :: rest) (hdg : decode cc pc = .ok (.invokevirtual idx, 3))
    (kk : ∀ v x' H1 locs1, Rr x v x' → GB D tA sz bs bb0 x' s H1 locs1 → W p l e R s m args below meth c H1 locs1 (cells + mc) (slots + ms) Q (F0 m (pc + 3) ls (v.toList ++ rest))) : W p l e R s m args below meth c H locs cells slots Q (F0 m pc ls st0) := by
  obtain ⟨⟨⟨w1, w2, w3⟩, w4, w5⟩, w6, w7⟩ := hw
  have hts := X.2.2.2.2
  refine b_after (a := (.ref rcv :: As).toArray) hz.1.1 g ?_ kk
  exact va_runV (own := own) (Ts := gW) (nL := nL) (As := As) (C := rc) (n := n) (bytes := cc2) (maxL := nL2) (ret := ret) X (hC l D tA n0 adr adV H.size x hP) ⟨callB_of n hts (code_good w3) rfl rfl rfl (hts _ w2) (hts _ w1) w4 ⟨hR.1, by show 8 + (nL2 + 11) + lo ≤ R.locals; omega⟩, hts _ w6, hts _ w7⟩
    ⟨BPre.blind, hrc, fun U hU hW => ⟨by rw [hav], b_pre hz g hU hW⟩⟩ rfl hn hls hst (lv_room (pc := pc) (ls := ls) (rest := st0) hrest) hdg hf
/-- a private method is its own choice -/
theorem b_selP {y : MethodName} {bts : ByteArray} (hts : ∀ w ∈ gW, w.before args s = true) (hPV : PV s) (hinst : Cond.instanceMethod y ∈ gW) (hpr : Cond.privateMethod y ∈ pvL) (hc : y.cls = "java/lang/AbstractStringBuilder") (hd : y.cls ≠ "java/lang/invoke/MethodHandle" ∧ y.cls ≠ "java/lang/invoke/VarHandle") : (Cond.selects RJ4 y y).before args s = true := by
  obtain ⟨c2, r2, m2, q1, q2, q3, q4, kP, hkP, hkPi⟩ := Cond.selects_spec (hts _ sel_lat)
  obtain ⟨mk, methM, hnamed, hmethM, -, -⟩ := Cond.instanceMethod_spec (hts _ hinst)
  have hfound : s.methodFound? y.cls y.name y.desc = some mk := State.methodFound?_of_named hnamed hd
  have hcls : mk.cls = m2.cls := by
    have h1 := findClass_of_methodNamed hnamed
    have h2 := findClass_of_methodNamed q3
    rw [hc] at h1
    exact Option.some.inj (h1.symm.trans h2)
  have hsel : selectMethod {} s.vm c2 mk = .method mk := selectMethod_private hmethM (Cond.privateMethod_at (hPV _ hpr) mk methM hnamed hmethM)
  simp only [Cond.before, Cond.holds, Cond.value, q1, hfound, hnamed, hsel, hcls, hkP]
  simp
  exact hkPi
/-- a private method of the builder -/
theorem b_callP (X : BX p s m args c own nL cc) (hz : BZ D tA n0 adr adV sz bs bb0 s) (g : GB D tA sz bs bb0 x s H locs) (hC : BC y cc2 nL2 ret fr lo mc ms bs av P Rr) (hP : P x) (hw : BWd 3 own idx y cc2 nL2 ret own n) (hav : av x adr = .ref bs :: As) (hn : As.length = n) (hls : ls.size = nL) (hR : fr + 1 ≤ R.frames ∧ 39 + lo ≤ R.locals) (hf : cells + mc ≤ R.cells ∧ slots + ms ≤ R.slots) (hrest : (rest.map fun v => v.category).sum ≤ 8) (hst : st0 = As.reverse ++ .ref bs :: rest) (hdg : decode cc pc = .ok (.invokevirtual idx, 3))
    (kk : ∀ v x' H1 locs1, Rr x v x' → GB D tA sz bs bb0 x' s H1 locs1 → W p l e R s m args below meth c H1 locs1 (cells + mc) (slots + ms) Q (F0 m (pc + 3) ls (v.toList ++ rest))) : W p l e R s m args below meth c H locs cells slots Q (F0 m pc ls st0) := by
  obtain ⟨⟨⟨w1, w2, w3⟩, w4, w5⟩, w6, w7, w8⟩ := hw
  have hts := X.2.2.2.2
  refine b_after (a := (.ref bs :: As).toArray) hz.1.1 g ?_ kk
  exact va_runV (own := own) (Ts := gW) (nL := nL) (As := As) (C := RJ4) (n := n) (bytes := cc2) (maxL := nL2) (ret := ret) X (hC l D tA n0 adr adV H.size x hP) ⟨callB_of n hts (code_good w3) rfl rfl rfl (hts _ w2) (hts _ w1) w4 ⟨hR.1, by show 8 + (nL2 + 11) + lo ≤ R.locals; omega⟩, hts _ w6, b_selP (bts := cc) hts hz.2.2.2.2 w6 w7 w8 ⟨w4.1, w4.2.1⟩⟩
    ⟨BPre.blind, va_recv hz.2.1 g.1 c13.1 (q0 := 0) rfl, fun U hU hW => ⟨by rw [hav], b_pre hz g hU hW⟩⟩ rfl hn hls hst (lv_room (pc := pc) (ls := ls) (rest := st0) hrest) hdg hf
theorem b_callS (X : BX p s m args c own nL cc) (hz : BZ D tA n0 adr adV sz bs bb0 s) (g : GB D tA sz bs bb0 x s H locs) (hC : BC y cc2 nL2 ret fr lo mc ms bs av P Rr) (hP : P x) (hw : BWd 1 own idx y cc2 nL2 ret own n) (hav : av x adr = As) (hn : As.length = n) (hls : ls.size = nL) (hR : fr + 1 ≤ R.frames ∧ 39 + lo ≤ R.locals) (hf : cells + mc ≤ R.cells ∧ slots + ms ≤ R.slots) (hrest : (rest.map fun v => v.category).sum ≤ 8) (hst : st0 = As.reverse ++ rest) (hdg : decode cc pc = .ok (.invokestatic idx, 3))
    (kk : ∀ v x' H1 locs1, Rr x v x' → GB D tA sz bs bb0 x' s H1 locs1 → W p l e R s m args below meth c H1 locs1 (cells + mc) (slots + ms) Q (F0 m (pc + 3) ls (v.toList ++ rest))) : W p l e R s m args below meth c H locs cells slots Q (F0 m pc ls st0) := by
  obtain ⟨⟨⟨w1, w2, w3⟩, w4, w5⟩, w6⟩ := hw
  have hts := X.2.2.2.2
  refine b_after (a := As.toArray) hz.1.1 g ?_ kk
  exact va_runS (own := own) (Ts := gW) (nL := nL) (As := As) (n := n) (bytes := cc2) (maxL := nL2) (ret := ret) X (hC l D tA n0 adr adV H.size x hP) ⟨callB_of n hts (code_good w3) rfl rfl rfl (hts _ w2) (hts _ w1) w4 ⟨hR.1, by show 8 + (nL2 + 11) + lo ≤ R.locals; omega⟩, hts _ w6⟩
    ⟨BPre.blind, fun U hU hW => ⟨by rw [hav], b_pre hz g hU hW⟩⟩ rfl hn hls hst (lv_room (pc := pc) (ls := ls) (rest := st0) hrest) hdg hf
/-- the builder's receiver -/
theorem b_recv (hz : BZ D tA n0 adr adV sz bs bb0 s) (g : GB D tA sz bs bb0 x s H locs) : ∃ cellB : Cell, H[bs]? = some cellB ∧ cellB.vm.isStatics = false ∧ s.vm.findClass RJ4 = some cellB.cls := va_recv hz.2.1 g.1 c13.1 (q0 := 0) rfl
/-- super.m(..) -/
theorem b_callU (X : BX p s m args c own nL cc) (hz : BZ D tA n0 adr adV sz bs bb0 s) (g : GB D tA sz bs bb0 x s H locs) (hC : BC y cc2 nL2 ret fr lo mc ms bs av P Rr) (hP : P x) (hw : BWd 2 own idx y cc2 nL2 ret own n) (hav : av x adr = .ref bs :: As) (hn : As.length = n) (hls : ls.size = nL) (hR : fr + 1 ≤ R.frames ∧ 39 + lo ≤ R.locals) (hf : cells + mc ≤ R.cells ∧ slots + ms ≤ R.slots) (hrest : (rest.map fun v => v.category).sum ≤ 8) (hst : st0 = As.reverse ++ .ref bs :: rest) (hdg : decode cc pc = .ok (.invokespecial idx, 3))
    (kk : ∀ v x' H1 locs1, Rr x v x' → GB D tA sz bs bb0 x' s H1 locs1 → W p l e R s m args below meth c H1 locs1 (cells + mc) (slots + ms) Q (F0 m (pc + 3) ls (v.toList ++ rest))) : W p l e R s m args below meth c H locs cells slots Q (F0 m pc ls st0) := by
  obtain ⟨⟨⟨w1, w2, w3⟩, w4, w5⟩, ⟨w6, w7, w8⟩, w9⟩ := hw
  have hts := X.2.2.2.2
  have hgood : GoodIn gW (va_wsSU own idx y (Cond.code y cc2 nL2 ret :: gW)) := by
    intro w hw
    simp only [va_wsSU, List.mem_append, List.mem_cons, List.not_mem_nil, or_false] at hw
    have gg : w ∈ gW := by
      rcases hw with (rfl | rfl | rfl | rfl | rfl) | (rfl | hw)
      · exact w1
      · exact w7
      · exact w8
      · exact w6
      · exact w2
      · exact w3
      · exact hw
    exact ⟨gg, good_of_word (List.mem_filter.mp gg).2⟩
  obtain ⟨hS, hfc, kC, hkC, hkind⟩ := hz.2.1.1 13 _ c13.1
  refine b_after (a := (.ref bs :: As).toArray) hz.1.1 g ?_ kk
  exact va_runSU (own := own) (C := RJ4) (Ts := gW) (nL := nL) (As := As) (n := n) (bytes := cc2) (maxL := nL2) (ret := ret) ⟨hfc, kC, hkC, hkind⟩ X (hC l D tA n0 adr adV H.size x hP) (va_cwSU n hts hgood rfl rfl rfl ⟨w9, w4.2.2⟩ ⟨hR.1, by show 8 + (nL2 + 11) + lo ≤ R.locals; omega⟩)
    ⟨BPre.blind, b_recv hz g, fun U hU hW => ⟨by rw [hav], b_pre hz g hU hW⟩⟩ rfl hn hls hst (lv_room (pc := pc) (ls := ls) (rest := st0) hrest) hdg hf
end CALLS
theorem bc_of {y : MethodName} {ret : Option FieldType} {fr lo mc ms : Nat} {av : BS → (Nat → Nat) → List Value} {P : BS → Prop} {Rr : BS → Option Value → BS → Prop} (hpl : plainName y.cls = true) (hy : y.cls = own) (hnl : ∀ (x : BS) (adr : Nat → Nat), (lg_sl (av x adr)).length ≤ nL)
    (h : ∀ (p : Program) (l : Launch) (e : Env) (s : State) (m : MethodId) (args : Array Value) (below : List Frame) (meth : Method) (c : Code) (D : va_G) (tA : Nat → ClassId) (n0 : Nat) (adr adV : Nat → Nat) (sz : Nat) (x : BS) (ls : Array Slot), P x → BX p s m args c own nL cc → BZ D tA n0 adr adV sz bs (xB x) s → GB D tA sz bs (xB x) x s s.heap [] → meth.sig.returnType = ret → meth.locks = false → lv_has ls nL (lv_args 0 (av x adr)) →
      W p l e { frames := fr, cells := mc, slots := ms, locals := lo } s m args below meth c s.heap [] 0 0 (MQ below (BPost D tA sz bs (xB x) (Rr x)) args s mc ms (bA bs (xB x) sz)) (F0 m 0 ls [])) : BC y cc nL ret fr lo mc ms bs av P Rr := by
  intro l D tA n0 adr adV sz x hPx
  refine Met.ofW (cc := cc) (maxL := nL) (ret := ret) hpl rfl ?_
  intro p e s m args below meth c s₁ B hml hv
  obtain ⟨rfl, ⟨h1, h2, h3, h4, h5⟩, h6, h7, h8⟩ := hv
  have hts := atoms_spec (ws := Cond.code y cc nL ret :: gW) B.pre
  have hown : s.vm.findClass own = some m.cls := by rw [← hy]; exact findClass_of_methodNamed B.named
  rw [lg_entry_eq]
  have hl := lv_entry (av x adr) (n := nL) (hnl x adr)
  exact h p l e s m _ below meth c D tA n0 adr adV sz x _ hPx ⟨B.exec, B.bytes, hml, hown, fun w hw => hts w (List.mem_cons_of_mem _ hw)⟩ ⟨⟨h1, h2, h3, h4⟩, h8⟩ ⟨h7, ⟨h5, .inr (.inl rfl)⟩, h6, va_S.rf⟩ B.returns B.notSynchronized hl
end B1

/-! THE BUILDER, 2: the methods that read (printed by wip/whole/g7b.py). -/
theorem sh_r0 {x : Int} : iN x >>> (iN 0 &&& 31) = iN x := by
  have h : (iN 0 &&& 31) = 0 := by decide
  rw [h]
  exact Int32.shiftRight_zero
theorem sh_l0 {x : Int} : iN x <<< (iN 0 &&& 31) = iN x := by
  have h : (iN 0 &&& 31) = 0 := by decide
  rw [h]
  exact Int32.shiftLeft_zero
theorem nn_ne {x : Int32} (h : ¬ x = x) : False := h rfl
section B2
variable {bs : Nat}
def yb_lat : MethodName := ⟨"java/lang/AbstractStringBuilder", "isLatin1", "()Z"⟩
set_option maxRecDepth 100000 in
theorem cs_lat : Cond.fieldLink "java/lang/AbstractStringBuilder" 18 "java/lang/String" "COMPACT_STRINGS" "Z" ∈ gW := gW_at (i := 483) rfl rfl
set_option maxRecDepth 100000 in
theorem db_lat_0 : decode prog_16_method_68_code 0 = .ok (.getstatic 18, 3) := rfl
set_option maxRecDepth 100000 in
theorem db_lat_3 : decode prog_16_method_68_code 3 = .ok (.ifCond .eq 14, 3) := rfl
set_option maxRecDepth 100000 in
theorem db_lat_6 : decode prog_16_method_68_code 6 = .ok (.aload_n 0, 1) := rfl
set_option maxRecDepth 100000 in
theorem fb_0 : Cond.fieldLink "java/lang/AbstractStringBuilder" 22 (TJ4 1).1 (TJ4 1).2.1 (TJ4 1).2.2.1 ∈ gW := gW_at (i := 493) rfl rfl
set_option maxRecDepth 100000 in
theorem db_lat_7 : decode prog_16_method_68_code 7 = .ok (.getfield 22, 3) := rfl
set_option maxRecDepth 100000 in
theorem db_lat_10 : decode prog_16_method_68_code 10 = .ok (.ifCond .ne 7, 3) := rfl
set_option maxRecDepth 100000 in
theorem db_lat_13 : decode prog_16_method_68_code 13 = .ok (.iconst 1, 1) := rfl
set_option maxRecDepth 100000 in
theorem db_lat_14 : decode prog_16_method_68_code 14 = .ok (.goto 4, 3) := rfl
set_option maxRecDepth 100000 in
theorem db_lat_18 : decode prog_16_method_68_code 18 = .ok (.ireturn, 1) := rfl
set_option maxHeartbeats 4000000 in
set_option maxRecDepth 100000 in
theorem b_latin : BC yb_lat prog_16_method_68_code 1 (some .boolean) 0 0 0 0 bs (fun x adr => [.ref bs]) (fun x => True) (fun x v x' => v = some (.int 1) ∧ x' = x) := by
  refine bc_of (by decide) rfl (fun _ _ => by simp [lg_sl, Value.category]) ?_
  intro p l e s m args below meth c D tA n0 adr adV sz x ls hP X hz g hret hlk hl
  have hl : lv_has ls 1 [(0, .ref bs)] := hl
  refine va_gets (ref := "java/lang/String") X.1 X.2.1 hz.2.2.1.2.1.1 (hz.S g) X.2.2.2.1 (X.2.2.2.2 _ cs_lat) (fun _ h => h) db_lat_0 ?_
  refine lv_if_eq (tgt := 17) X.1 X.2.1 db_lat_3 (by decide) (fun h => absurd h (by decide)) (fun _ => ?_)
  refine lv_aload_n (i := 0) (x := bs) X.1 X.2.1 db_lat_6 rfl (lv_at hl 0 rfl) ?_
  refine b_get (k := 1) X hz g (by decide) fb_0 rfl db_lat_7 ?_
  refine lv_if_ne (tgt := 17) X.1 X.2.1 db_lat_10 (by decide) (fun h => absurd h (fun z => z rfl)) (fun _ => ?_)
  refine lv_iconst (v := iN 1) X.1 X.2.1 db_lat_13 (by decide) ?_
  refine lv_goto (tgt := 18) X.1 X.2.1 db_lat_14 (by decide) ?_
  exact b_zret (v := iN 1) X hret (by first | rfl | exact vp_nar_int _) hlk g ⟨rfl, rfl⟩ (by omega) (by omega) db_lat_18
def yb_len : MethodName := ⟨"java/lang/AbstractStringBuilder", "length", "()I"⟩
set_option maxRecDepth 100000 in
theorem db_len_0 : decode prog_16_method_6_code 0 = .ok (.aload_n 0, 1) := rfl
set_option maxRecDepth 100000 in
theorem fb_1 : Cond.fieldLink "java/lang/AbstractStringBuilder" 79 (TJ4 3).1 (TJ4 3).2.1 (TJ4 3).2.2.1 ∈ gW := gW_at (i := 496) rfl rfl
set_option maxRecDepth 100000 in
theorem db_len_1 : decode prog_16_method_6_code 1 = .ok (.getfield 79, 3) := rfl
set_option maxRecDepth 100000 in
theorem db_len_4 : decode prog_16_method_6_code 4 = .ok (.ireturn, 1) := rfl
set_option maxHeartbeats 4000000 in
set_option maxRecDepth 100000 in
theorem b_length : BC yb_len prog_16_method_6_code 1 (some .int) 0 0 0 0 bs (fun x adr => [.ref bs]) (fun x => True) (fun x v x' => v = some (.int (iN (xN x : Int))) ∧ x' = x) := by
  refine bc_of (by decide) rfl (fun _ _ => by simp [lg_sl, Value.category]) ?_
  intro p l e s m args below meth c D tA n0 adr adV sz x ls hP X hz g hret hlk hl
  have hl : lv_has ls 1 [(0, .ref bs)] := hl
  refine lv_aload_n (i := 0) (x := bs) X.1 X.2.1 db_len_0 rfl (lv_at hl 0 rfl) ?_
  refine b_get (k := 3) X hz g (by decide) fb_1 rfl db_len_1 ?_
  exact b_zret (v := iN (xN x : Int)) X hret (by first | rfl | exact vp_nar_int _) hlk g ⟨rfl, rfl⟩ (by omega) (by omega) db_len_4
def yb_nl : MethodName := ⟨"jdk/internal/util/ArraysSupport", "newLength", "(III)I"⟩
set_option maxRecDepth 100000 in
theorem db_nl_0 : decode prog_37_method_27_code 0 = .ok (.iload_n 0, 1) := rfl
set_option maxRecDepth 100000 in
theorem db_nl_1 : decode prog_37_method_27_code 1 = .ok (.iload_n 1, 1) := rfl
set_option maxRecDepth 100000 in
theorem db_nl_2 : decode prog_37_method_27_code 2 = .ok (.iload_n 2, 1) := rfl
set_option maxRecDepth 100000 in
theorem mb_max_ArraysSupport : Cond.methodLink "jdk/internal/util/ArraysSupport" 194 Lib.Math.max.name ∈ gW ∧ Cond.static Lib.Math.max.name ∈ gW ∧ Cond.initialized "java/lang/Math" ∈ gW ∧ Cond.code Lib.Math.max.name Lib.Math.max.code 2 (some .int) ∈ gW := ⟨gW_at (i := 1437) rfl rfl, gW_at (i := 289) rfl rfl, gW_at (i := 109) rfl rfl, gW_at (i := 290) rfl rfl⟩
set_option maxRecDepth 100000 in
theorem db_nl_3 : decode prog_37_method_27_code 3 = .ok (.invokestatic 194, 3) := rfl
set_option maxRecDepth 100000 in
theorem db_nl_6 : decode prog_37_method_27_code 6 = .ok (.iadd, 1) := rfl
set_option maxRecDepth 100000 in
theorem db_nl_7 : decode prog_37_method_27_code 7 = .ok (.istore_n 3, 1) := rfl
set_option maxRecDepth 100000 in
theorem db_nl_8 : decode prog_37_method_27_code 8 = .ok (.iconst 0, 1) := rfl
set_option maxRecDepth 100000 in
theorem db_nl_9 : decode prog_37_method_27_code 9 = .ok (.iload_n 3, 1) := rfl
set_option maxRecDepth 100000 in
theorem db_nl_10 : decode prog_37_method_27_code 10 = .ok (.if_icmp .ge 11, 3) := rfl
set_option maxRecDepth 100000 in
theorem db_nl_13 : decode prog_37_method_27_code 13 = .ok (.iload_n 3, 1) := rfl
set_option maxRecDepth 100000 in
theorem kb_0 : Cond.constant "jdk/internal/util/ArraysSupport" 200 (iN 2147483639) ∈ gW := gW_at (i := 1438) rfl rfl
set_option maxRecDepth 100000 in
theorem db_nl_14 : decode prog_37_method_27_code 14 = .ok (.ldc 200, 2) := rfl
set_option maxRecDepth 100000 in
theorem db_nl_16 : decode prog_37_method_27_code 16 = .ok (.if_icmp .gt 5, 3) := rfl
set_option maxRecDepth 100000 in
theorem db_nl_19 : decode prog_37_method_27_code 19 = .ok (.iload_n 3, 1) := rfl
set_option maxRecDepth 100000 in
theorem db_nl_20 : decode prog_37_method_27_code 20 = .ok (.ireturn, 1) := rfl
set_option maxHeartbeats 4000000 in
set_option maxRecDepth 100000 in
theorem b_newLength {a b d : Int} (hb : inR b) (hd : inR d) (h0 : 0 < a + max b d) (h1 : a + max b d < 2147483600) : BC yb_nl prog_37_method_27_code 4 (some .int) 1 40 0 0 bs (fun x adr => [.int (iN a), .int (iN b), .int (iN d)]) (fun x => True) (fun x v x' => v = some (.int (iN (a + max b d))) ∧ x' = x) := by
  refine bc_of (by decide) rfl (fun _ _ => by simp [lg_sl, Value.category]) ?_
  intro p l e s m args below meth c D tA n0 adr adV sz x ls hP X hz g hret hlk hl
  have hl : lv_has ls 4 [(0, .int (iN a)), (1, .int (iN b)), (2, .int (iN d))] := hl
  have h3 : inR (a + max b d) := ⟨by omega, by omega⟩
  refine lv_iload_n (i := 0) (x := iN a) X.1 X.2.1 db_nl_0 rfl (lv_at hl 0 rfl) ?_
  refine lv_iload_n (i := 1) (x := iN b) X.1 X.2.1 db_nl_1 rfl (lv_at hl 1 rfl) ?_
  refine lv_iload_n (i := 2) (x := iN d) X.1 X.2.1 db_nl_2 rfl (lv_at hl 2 rfl) ?_
  refine va_mmax X.1 X.2.1 (by rw [X.2.2.1, hl.1]) X.2.2.2.1 (X.2.2.2.2 _ mb_max_ArraysSupport.1) (X.2.2.2.2 _ mb_max_ArraysSupport.2.1) (X.2.2.2.2 _ mb_max_ArraysSupport.2.2.1) (X.2.2.2.2 _ mb_max_ArraysSupport.2.2.2) (by decide) (by simp [Value.category]) (Nat.zero_le _) (Nat.zero_le _) db_nl_3 ?_
  rw [iN_max hb hd]
  refine lv_iadd X.1 X.2.1 db_nl_6 ?_
  rw [iN_add]
  refine lv_istore_n (i := 3) (lv' := [(3, .int (iN (a + (max b d)))), (0, .int (iN a)), (1, .int (iN b)), (2, .int (iN d))]) X.1 X.2.1 db_nl_7 rfl hl (by decide) rfl (fun ls1 hl1 => ?_)
  refine lv_iconst (v := iN 0) X.1 X.2.1 db_nl_8 (by decide) ?_
  refine lv_iload_n (i := 3) (x := iN (a + (max b d))) X.1 X.2.1 db_nl_9 rfl (lv_at hl1 0 rfl) ?_
  refine lv_icmp_ge (tgt := 21) X.1 X.2.1 db_nl_10 (by decide) (fun h => absurd h (fun z => by
    have := (iN_le h3 inR_0).mp z
    omega)) (fun _ => ?_)
  refine lv_iload_n (i := 3) (x := iN (a + (max b d))) X.1 X.2.1 db_nl_13 rfl (lv_at hl1 0 rfl) ?_
  refine lv_ldc (own := "jdk/internal/util/ArraysSupport") X.1 X.2.1 X.2.2.2.1 (X.2.2.2.2 _ kb_0) db_nl_14 ?_
  refine lv_icmp_gt (tgt := 21) X.1 X.2.1 db_nl_16 (by decide) (fun h => absurd h (fun z => by
    have := (iN_lt (x := 2147483639) ⟨by omega, by omega⟩ h3).mp z
    omega)) (fun _ => ?_)
  refine lv_iload_n (i := 3) (x := iN (a + (max b d))) X.1 X.2.1 db_nl_19 rfl (lv_at hl1 0 rfl) ?_
  exact b_zret (v := iN (a + max b d)) X hret (by first | rfl | exact vp_nar_int _) hlk g ⟨rfl, rfl⟩ (by omega) (by omega) db_nl_20
def yb_nc : MethodName := ⟨"java/lang/AbstractStringBuilder", "newCapacity", "(I)I"⟩
set_option maxRecDepth 100000 in
theorem db_nc_0 : decode prog_16_method_10_code 0 = .ok (.aload_n 0, 1) := rfl
set_option maxRecDepth 100000 in
theorem fb_2 : Cond.fieldLink "java/lang/AbstractStringBuilder" 15 (TJ4 0).1 (TJ4 0).2.1 (TJ4 0).2.2.1 ∈ gW := gW_at (i := 492) rfl rfl
set_option maxRecDepth 100000 in
theorem db_nc_1 : decode prog_16_method_10_code 1 = .ok (.getfield 15, 3) := rfl
set_option maxRecDepth 100000 in
theorem db_nc_4 : decode prog_16_method_10_code 4 = .ok (.arraylength, 1) := rfl
set_option maxRecDepth 100000 in
theorem db_nc_5 : decode prog_16_method_10_code 5 = .ok (.istore_n 2, 1) := rfl
set_option maxRecDepth 100000 in
theorem db_nc_6 : decode prog_16_method_10_code 6 = .ok (.iload_n 1, 1) := rfl
set_option maxRecDepth 100000 in
theorem db_nc_7 : decode prog_16_method_10_code 7 = .ok (.aload_n 0, 1) := rfl
set_option maxRecDepth 100000 in
theorem db_nc_8 : decode prog_16_method_10_code 8 = .ok (.getfield 22, 3) := rfl
set_option maxRecDepth 100000 in
theorem db_nc_11 : decode prog_16_method_10_code 11 = .ok (.ishl, 1) := rfl
set_option maxRecDepth 100000 in
theorem db_nc_12 : decode prog_16_method_10_code 12 = .ok (.istore_n 3, 1) := rfl
set_option maxRecDepth 100000 in
theorem db_nc_13 : decode prog_16_method_10_code 13 = .ok (.iload_n 3, 1) := rfl
set_option maxRecDepth 100000 in
theorem db_nc_14 : decode prog_16_method_10_code 14 = .ok (.iload_n 2, 1) := rfl
set_option maxRecDepth 100000 in
theorem db_nc_15 : decode prog_16_method_10_code 15 = .ok (.isub, 1) := rfl
set_option maxRecDepth 100000 in
theorem db_nc_16 : decode prog_16_method_10_code 16 = .ok (.istore 4, 2) := rfl
set_option maxRecDepth 100000 in
theorem db_nc_18 : decode prog_16_method_10_code 18 = .ok (.iload_n 2, 1) := rfl
set_option maxRecDepth 100000 in
theorem db_nc_19 : decode prog_16_method_10_code 19 = .ok (.iload 4, 2) := rfl
set_option maxRecDepth 100000 in
theorem db_nc_21 : decode prog_16_method_10_code 21 = .ok (.iload_n 2, 1) := rfl
set_option maxRecDepth 100000 in
theorem db_nc_22 : decode prog_16_method_10_code 22 = .ok (.iconst 2, 1) := rfl
set_option maxRecDepth 100000 in
theorem db_nc_23 : decode prog_16_method_10_code 23 = .ok (.aload_n 0, 1) := rfl
set_option maxRecDepth 100000 in
theorem db_nc_24 : decode prog_16_method_10_code 24 = .ok (.getfield 22, 3) := rfl
set_option maxRecDepth 100000 in
theorem db_nc_27 : decode prog_16_method_10_code 27 = .ok (.ishl, 1) := rfl
set_option maxRecDepth 100000 in
theorem db_nc_28 : decode prog_16_method_10_code 28 = .ok (.iadd, 1) := rfl
set_option maxRecDepth 100000 in
theorem wb_0 : BWd 1 "java/lang/AbstractStringBuilder" 114 yb_nl prog_37_method_27_code 4 (some .int) "java/lang/AbstractStringBuilder" 3 := ⟨⟨⟨gW_at (i := 1434) rfl rfl, gW_at (i := 130) rfl rfl, gW_at (i := 1436) rfl rfl⟩, ⟨by decide, by decide, rfl⟩, by decide⟩, gW_at (i := 1435) rfl rfl⟩
set_option maxRecDepth 100000 in
theorem db_nc_29 : decode prog_16_method_10_code 29 = .ok (.invokestatic 114, 3) := rfl
set_option maxRecDepth 100000 in
theorem db_nc_32 : decode prog_16_method_10_code 32 = .ok (.istore 5, 2) := rfl
set_option maxRecDepth 100000 in
theorem db_nc_34 : decode prog_16_method_10_code 34 = .ok (.iload 5, 2) := rfl
set_option maxRecDepth 100000 in
theorem kb_1 : Cond.constant "java/lang/AbstractStringBuilder" 39 (iN 2147483647) ∈ gW := gW_at (i := 1442) rfl rfl
set_option maxRecDepth 100000 in
theorem db_nc_36 : decode prog_16_method_10_code 36 = .ok (.ldc 39, 2) := rfl
set_option maxRecDepth 100000 in
theorem db_nc_38 : decode prog_16_method_10_code 38 = .ok (.if_icmp .ne 13, 3) := rfl
set_option maxRecDepth 100000 in
theorem db_nc_51 : decode prog_16_method_10_code 51 = .ok (.iload 5, 2) := rfl
set_option maxRecDepth 100000 in
theorem db_nc_53 : decode prog_16_method_10_code 53 = .ok (.aload_n 0, 1) := rfl
set_option maxRecDepth 100000 in
theorem db_nc_54 : decode prog_16_method_10_code 54 = .ok (.getfield 22, 3) := rfl
set_option maxRecDepth 100000 in
theorem db_nc_57 : decode prog_16_method_10_code 57 = .ok (.ishr, 1) := rfl
set_option maxRecDepth 100000 in
theorem db_nc_58 : decode prog_16_method_10_code 58 = .ok (.ireturn, 1) := rfl
set_option maxHeartbeats 4000000 in
set_option maxRecDepth 100000 in
theorem b_newCapacity {a : Int} (h0 : 0 ≤ a) (h1 : a ≤ 1000) : BC yb_nc prog_16_method_10_code 6 (some .int) 2 140 0 0 bs (fun x adr => [.ref bs, .int (iN a)]) (fun x => True) (fun x v x' => v = some (.int (iN ((xC x : Int) + max (a - (xC x : Int)) ((xC x : Int) + 2)))) ∧ x' = x) := by
  refine bc_of (by decide) rfl (fun _ _ => by simp [lg_sl, Value.category]) ?_
  intro p l e s m args below meth c D tA n0 adr adV sz x ls hP X hz g hret hlk hl
  have hl : lv_has ls 6 [(0, .ref bs), (1, .int (iN a))] := hl
  have hC : xC x ≤ 142 := by rcases g.2.2.1.1 with h | h | h | h <;> omega
  refine lv_aload_n (i := 0) (x := bs) X.1 X.2.1 db_nc_0 rfl (lv_at hl 0 rfl) ?_
  refine b_get (k := 0) X hz g (by decide) fb_2 rfl db_nc_1 ?_
  refine b_len X hz g db_nc_4 ?_
  refine lv_istore_n (i := 2) (lv' := [(2, .int (iN (xC x : Int))), (0, .ref bs), (1, .int (iN a))]) X.1 X.2.1 db_nc_5 rfl hl (by decide) rfl (fun ls1 hl1 => ?_)
  refine lv_iload_n (i := 1) (x := iN a) X.1 X.2.1 db_nc_6 rfl (lv_at hl1 2 rfl) ?_
  refine lv_aload_n (i := 0) (x := bs) X.1 X.2.1 db_nc_7 rfl (lv_at hl1 1 rfl) ?_
  refine b_get (k := 1) X hz g (by decide) fb_0 rfl db_nc_8 ?_
  refine lv_ishl X.1 X.2.1 db_nc_11 ?_
  rw [sh_l0]
  refine lv_istore_n (i := 3) (lv' := [(3, .int (iN a)), (2, .int (iN (xC x : Int))), (0, .ref bs), (1, .int (iN a))]) X.1 X.2.1 db_nc_12 rfl hl1 (by decide) rfl (fun ls2 hl2 => ?_)
  refine lv_iload_n (i := 3) (x := iN a) X.1 X.2.1 db_nc_13 rfl (lv_at hl2 0 rfl) ?_
  refine lv_iload_n (i := 2) (x := iN (xC x : Int)) X.1 X.2.1 db_nc_14 rfl (lv_at hl2 1 rfl) ?_
  refine lv_isub X.1 X.2.1 db_nc_15 ?_
  rw [iN_sub]
  refine lv_istore (lv' := [(4, .int (iN (a - (xC x : Int)))), (3, .int (iN a)), (2, .int (iN (xC x : Int))), (0, .ref bs), (1, .int (iN a))]) X.1 X.2.1 db_nc_16 hl2 (by decide) rfl (fun ls3 hl3 => ?_)
  refine lv_iload_n (i := 2) (x := iN (xC x : Int)) X.1 X.2.1 db_nc_18 rfl (lv_at hl3 2 rfl) ?_
  refine lv_iload (x := iN (a - (xC x : Int))) X.1 X.2.1 db_nc_19 (lv_at hl3 0 rfl) ?_
  refine lv_iload_n (i := 2) (x := iN (xC x : Int)) X.1 X.2.1 db_nc_21 rfl (lv_at hl3 2 rfl) ?_
  refine lv_iconst (v := iN 2) X.1 X.2.1 db_nc_22 (by decide) ?_
  refine lv_aload_n (i := 0) (x := bs) X.1 X.2.1 db_nc_23 rfl (lv_at hl3 3 rfl) ?_
  refine b_get (k := 1) X hz g (by decide) fb_0 rfl db_nc_24 ?_
  refine lv_ishl X.1 X.2.1 db_nc_27 ?_
  rw [sh_l0]
  refine lv_iadd X.1 X.2.1 db_nc_28 ?_
  rw [iN_add]
  refine b_callS (As := [.int (iN (xC x : Int)), .int (iN (a - (xC x : Int))), .int (iN ((xC x : Int) + 2))]) (rest := []) X hz g (b_newLength ⟨by omega, by omega⟩ ⟨by omega, by omega⟩ (by omega) (by omega)) trivial wb_0 rfl rfl hl3.1 ⟨by decide, by decide⟩ ⟨by decide, by decide⟩ (by simp [Value.category]) rfl db_nc_29 (fun v x1 H1 lc1 hv1 g1 => ?_)
  obtain ⟨rfl, rfl⟩ := hv1
  refine lv_istore (lv' := [(5, .int (iN ((xC x1 : Int) + max (a - (xC x1 : Int)) ((xC x1 : Int) + 2)))), (4, .int (iN (a - (xC x1 : Int)))), (3, .int (iN a)), (2, .int (iN (xC x1 : Int))), (0, .ref bs), (1, .int (iN a))]) X.1 X.2.1 db_nc_32 hl3 (by decide) rfl (fun ls4 hl4 => ?_)
  refine lv_iload (x := iN ((xC x1 : Int) + max (a - (xC x1 : Int)) ((xC x1 : Int) + 2))) X.1 X.2.1 db_nc_34 (lv_at hl4 0 rfl) ?_
  refine lv_ldc (own := "java/lang/AbstractStringBuilder") X.1 X.2.1 X.2.2.2.1 (X.2.2.2.2 _ kb_1) db_nc_36 ?_
  refine lv_icmp_ne (tgt := 51) X.1 X.2.1 db_nc_38 (by decide) (fun _ => ?_) (fun h => absurd h (fun z => by
    have := (iN_eq (y := 2147483647) ⟨by omega, by omega⟩ ⟨by omega, by omega⟩).mp z
    omega))
  refine lv_iload (x := iN ((xC x1 : Int) + max (a - (xC x1 : Int)) ((xC x1 : Int) + 2))) X.1 X.2.1 db_nc_51 (lv_at hl4 0 rfl) ?_
  refine lv_aload_n (i := 0) (x := bs) X.1 X.2.1 db_nc_53 rfl (lv_at hl4 4 rfl) ?_
  refine b_get (k := 1) X hz g1 (by decide) fb_0 rfl db_nc_54 ?_
  refine lv_ishr X.1 X.2.1 db_nc_57 ?_
  rw [sh_r0]
  exact b_zret (v := iN ((xC x1 : Int) + max (a - (xC x1 : Int)) ((xC x1 : Int) + 2))) X hret (by first | rfl | exact vp_nar_int _) hlk g1 ⟨rfl, rfl⟩ (by omega) (by omega) db_nc_58
def yb_ce : MethodName := ⟨"java/lang/StringLatin1", "canEncode", "(C)Z"⟩
set_option maxRecDepth 100000 in
theorem db_ce_0 : decode prog_29_method_3_code 0 = .ok (.iload_n 0, 1) := rfl
set_option maxRecDepth 100000 in
theorem db_ce_1 : decode prog_29_method_3_code 1 = .ok (.sipush 255, 3) := rfl
set_option maxRecDepth 100000 in
theorem db_ce_4 : decode prog_29_method_3_code 4 = .ok (.if_icmp .gt 7, 3) := rfl
set_option maxRecDepth 100000 in
theorem db_ce_7 : decode prog_29_method_3_code 7 = .ok (.iconst 1, 1) := rfl
set_option maxRecDepth 100000 in
theorem db_ce_8 : decode prog_29_method_3_code 8 = .ok (.goto 4, 3) := rfl
set_option maxRecDepth 100000 in
theorem db_ce_12 : decode prog_29_method_3_code 12 = .ok (.ireturn, 1) := rfl
set_option maxHeartbeats 4000000 in
set_option maxRecDepth 100000 in
theorem b_canEncode {a : Int} (h0 : 0 ≤ a) (h1 : a ≤ 127) : BC yb_ce prog_29_method_3_code 1 (some .boolean) 0 0 0 0 bs (fun x adr => [.int (iN a)]) (fun x => True) (fun x v x' => v = some (.int (iN 1)) ∧ x' = x) := by
  refine bc_of (by decide) rfl (fun _ _ => by simp [lg_sl, Value.category]) ?_
  intro p l e s m args below meth c D tA n0 adr adV sz x ls hP X hz g hret hlk hl
  have hl : lv_has ls 1 [(0, .int (iN a))] := hl
  refine lv_iload_n (i := 0) (x := iN a) X.1 X.2.1 db_ce_0 rfl (lv_at hl 0 rfl) ?_
  refine lv_sipush (v := iN 255) X.1 X.2.1 db_ce_1 (by decide) ?_
  refine lv_icmp_gt (tgt := 11) X.1 X.2.1 db_ce_4 (by decide) (fun h => absurd h (fun z => by
    have := (iN_lt (x := 255) ⟨by omega, by omega⟩ ⟨by omega, by omega⟩).mp z
    omega)) (fun _ => ?_)
  refine lv_iconst (v := iN 1) X.1 X.2.1 db_ce_7 (by decide) ?_
  refine lv_goto (tgt := 12) X.1 X.2.1 db_ce_8 (by decide) ?_
  exact b_zret (v := iN 1) X hret (by first | rfl | exact vp_nar_int _) hlk g ⟨rfl, rfl⟩ (by omega) (by omega) db_ce_12
end B2

/-! THE BUILDER, 3: the methods that write (printed by wip/whole/g7b.py). -/
section B2
variable {bs : Nat}
def yb_cp : MethodName := ⟨"java/util/Arrays", "copyOf", "([BI)[B"⟩
set_option maxRecDepth 100000 in
theorem db_cp_0 : decode prog_35_method_121_code 0 = .ok (.iload_n 1, 1) := rfl
set_option maxRecDepth 100000 in
theorem db_cp_1 : decode prog_35_method_121_code 1 = .ok (.aload_n 0, 1) := rfl
set_option maxRecDepth 100000 in
theorem db_cp_2 : decode prog_35_method_121_code 2 = .ok (.arraylength, 1) := rfl
set_option maxRecDepth 100000 in
theorem db_cp_3 : decode prog_35_method_121_code 3 = .ok (.if_icmp .ne 11, 3) := rfl
set_option maxRecDepth 100000 in
theorem db_cp_14 : decode prog_35_method_121_code 14 = .ok (.iload_n 1, 1) := rfl
set_option maxRecDepth 100000 in
theorem cp_new : Cond.arrayClass .byte ∈ gW := gW_at (i := 506) rfl rfl
set_option maxRecDepth 100000 in
theorem db_cp_15 : decode prog_35_method_121_code 15 = .ok (.newarray .byte, 2) := rfl
set_option maxRecDepth 100000 in
theorem db_cp_17 : decode prog_35_method_121_code 17 = .ok (.astore_n 2, 1) := rfl
set_option maxRecDepth 100000 in
theorem db_cp_18 : decode prog_35_method_121_code 18 = .ok (.aload_n 0, 1) := rfl
set_option maxRecDepth 100000 in
theorem db_cp_19 : decode prog_35_method_121_code 19 = .ok (.iconst 0, 1) := rfl
set_option maxRecDepth 100000 in
theorem db_cp_20 : decode prog_35_method_121_code 20 = .ok (.aload_n 2, 1) := rfl
set_option maxRecDepth 100000 in
theorem db_cp_21 : decode prog_35_method_121_code 21 = .ok (.iconst 0, 1) := rfl
set_option maxRecDepth 100000 in
theorem db_cp_22 : decode prog_35_method_121_code 22 = .ok (.aload_n 0, 1) := rfl
set_option maxRecDepth 100000 in
theorem db_cp_23 : decode prog_35_method_121_code 23 = .ok (.arraylength, 1) := rfl
set_option maxRecDepth 100000 in
theorem db_cp_24 : decode prog_35_method_121_code 24 = .ok (.iload_n 1, 1) := rfl
set_option maxRecDepth 100000 in
theorem mb_min_Arrays : Cond.methodLink "java/util/Arrays" 304 Lib.Math.min.name ∈ gW ∧ Cond.static Lib.Math.min.name ∈ gW ∧ Cond.initialized "java/lang/Math" ∈ gW ∧ Cond.code Lib.Math.min.name Lib.Math.min.code 2 (some .int) ∈ gW := ⟨gW_at (i := 1453) rfl rfl, gW_at (i := 286) rfl rfl, gW_at (i := 109) rfl rfl, gW_at (i := 287) rfl rfl⟩
set_option maxRecDepth 100000 in
theorem db_cp_25 : decode prog_35_method_121_code 25 = .ok (.invokestatic 304, 3) := rfl
set_option maxRecDepth 100000 in
theorem ac_cp : Cond.methodLink "java/util/Arrays" 150 arraycopyName ∈ gW ∧ Cond.native arraycopyName ∈ gW ∧ Cond.static arraycopyName ∈ gW ∧ Cond.initialized "java/lang/System" ∈ gW := ⟨gW_at (i := 1454) rfl rfl, gW_at (i := 1456) rfl rfl, gW_at (i := 1455) rfl rfl, gW_at (i := 132) rfl rfl⟩
set_option maxRecDepth 100000 in
theorem db_cp_28 : decode prog_35_method_121_code 28 = .ok (.invokestatic 150, 3) := rfl
set_option maxRecDepth 100000 in
theorem db_cp_31 : decode prog_35_method_121_code 31 = .ok (.aload_n 2, 1) := rfl
set_option maxRecDepth 100000 in
theorem db_cp_32 : decode prog_35_method_121_code 32 = .ok (.areturn, 1) := rfl
theorem fits_T {T : Nat → Int} (h : tOk T) (j : Nat) : fits .byte (.int (iN (T j))) = true := by
  obtain ⟨h0, h1⟩ := h j
  obtain ⟨n, hn⟩ : ∃ n : Nat, T j = n := ⟨(T j).toNat, by omega⟩
  rw [hn]
  have h2 : n < 128 := by omega
  exact (show ∀ n : Nat, n < 128 → fits .byte (.int (iN (n : Int))) = true by decide +kernel) n h2
/-- Arrays.copyOf: a new row of n bytes, the old ones ahead -/
def CpPost (D : va_G) (tA : Nat → ClassId) (sz bs : Nat) (x : BS) (n : Nat) : Array Value → State → Outcome → State → Prop := fun _ st oc t =>
  (∃ (q : Nat) (T' : Nat → Int), oc = .returned (some (.ref q)) ∧ (sz ≤ q ∧ q ≠ bs ∧ q ≠ xB x) ∧ (∀ j, j < xC x → T' j = xT x j) ∧ tOk T' ∧ va_P D clA (BW tA bs x) t.heap ∧ va_at D clA (q, bByt tA n T') t.heap) ∧ va_F (bA bs (xB x) sz) st t
set_option maxHeartbeats 4000000 in
set_option maxRecDepth 100000 in
theorem b_copyOf {l : Launch} {D : va_G} {tA : Nat → ClassId} {n0 : Nat} {adr adV : Nat → Nat} {sz n : Nat} {x : BS} (hn : xC x < n) (hn2 : n ≤ 142) : Met l yb_cp (Cond.code yb_cp prog_35_method_121_code 3 (some (.array .byte)) :: gW) { frames := 2, cells := 1, slots := 142, locals := 100 } (va_Pc [.ref (xB x), .int (iN (n : Int))] (BPre D tA n0 adr adV sz bs x)) (CpPost D tA sz bs x n) 1 142 (bA bs (xB x) sz) := by
  refine Met.ofW (cc := prog_35_method_121_code) (maxL := 3) (ret := (some (.array .byte))) (by decide) rfl ?_
  intro p e s m args below meth c s₁ B hml hv
  obtain ⟨rfl, ⟨h1, h2, h3, h4, h5⟩, h6, h7, h8⟩ := hv
  have hts := atoms_spec (ws := Cond.code yb_cp prog_35_method_121_code 3 (some (.array .byte)) :: gW) B.pre
  have hown : s.vm.findClass "java/util/Arrays" = some m.cls := findClass_of_methodNamed B.named
  rw [lg_entry_eq]
  have hl := lv_entry ([.ref (xB x), .int (iN (n : Int))] : List Value) (n := 3) (by simp [lg_sl, Value.category])
  generalize (lg_sl ([.ref (xB x), .int (iN (n : Int))] : List Value) ++ List.replicate (3 - (lg_sl ([.ref (xB x), .int (iN (n : Int))] : List Value)).length) Slot.unset).toArray = ls at hl ⊢
  have hl : lv_has ls 3 [(0, .ref (xB x)), (1, .int (iN (n : Int)))] := hl
  have X : BX p s m #[.ref (xB x), .int (iN (n : Int))] c "java/util/Arrays" 3 prog_35_method_121_code := ⟨B.exec, B.bytes, hml, hown, fun w hw => hts w (List.mem_cons_of_mem _ hw)⟩
  have hz : BZ D tA n0 adr adV sz bs (xB x) s := ⟨⟨h1, h2, h3, h4⟩, h8⟩
  have g : GB D tA sz bs (xB x) x s s.heap [] := ⟨h7, ⟨h5, .inr (.inl rfl)⟩, h6, va_S.rf⟩
  have hret := B.returns
  have hlk := B.notSynchronized
  refine lv_iload_n (i := 1) (x := iN (n : Int)) X.1 X.2.1 db_cp_0 rfl (lv_at hl 1 rfl) ?_
  refine lv_aload_n (i := 0) (x := (xB x)) X.1 X.2.1 db_cp_1 rfl (lv_at hl 0 rfl) ?_
  refine b_len X hz g db_cp_2 ?_
  refine lv_icmp_ne (tgt := 14) X.1 X.2.1 db_cp_3 (by decide) (fun _ => ?_) (fun h => absurd h (fun z => by
    have := (iN_eq (x := (n : Int)) (y := (xC x : Int)) ⟨by omega, by omega⟩ ⟨by omega, by omega⟩).mp z
    omega))
  refine lv_iload_n (i := 1) (x := iN (n : Int)) X.1 X.2.1 db_cp_14 rfl (lv_at hl 1 rfl) ?_
  have hq : s.heap.size = sz := hz.1.1
  have hbs : bs < s.heap.size := (g.1 0 _ rfl).lt
  have hbb : xB x < s.heap.size := (g.1 1 _ rfl).lt
  refine va_newaK (atype := .byte) X.1 X.2.1 (X.2.2.2.2 _ cp_new) (g := F0 m 15 ls [.int (iN (n : Int))]) rfl db_cp_15 rfl (fun z => by
    have := (iN_lt (x := (n : Int)) (y := 0) ⟨by omega, by omega⟩ inR_0).mp z
    omega) (show (iN (n : Int)).toNatClampNeg = n by rw [iN_clamp (by omega) (by omega)]; omega) (by show n * 1 ≤ _; omega) (by decide) (by show 0 + n ≤ 142; omega) rfl (fun H1 cA e1 z1 o1 _ hN => ?_)
  have hA : cA = tA 4 := Option.some.inj (hN.symm.trans (hz.2.1.2 0 _ rfl).2)
  subst hA
  generalize hH : s.heap.size = q at *
  have hP1 : va_P D clA [(bs, bObj (xB x) (xN x) (xM x)), (xB x, bByt tA (xC x) (xT x)), (q, .inl (tA 4, (n, .inl (fun _ => (0 : Int32)))))] H1 := by
    intro k y hy
    match k, hy with
    | 0, hy => exact (g.1 0 _ hy).kept (by cases hy; exact o1 _ hbs)
    | 1, hy => exact (g.1 1 _ hy).kept (by cases hy; exact o1 _ hbb)
    | 2, hy => cases hy; exact e1
  have hS1 : va_S (bA bs (xB x) sz) s.heap H1 [] := ⟨by omega, fun y h1 h2 => o1 y (by omega), fun y h => by cases h⟩
  have hb1 : bs ≠ xB x := g.2.1.1
  have hD1 : va_D (bA bs (xB x) sz) [(bs, bObj (xB x) (xN x) (xM x)), (xB x, bByt tA (xC x) (xT x)), (q, .inl (tA 4, (n, .inl (fun _ => (0 : Int32)))))] := by
    refine ⟨fun i j y z hi hj h => ?_, fun k y hy => ?_⟩
    · match i, hi, j, hj with
      | 0, hi, 0, hj => rfl
      | 1, hi, 1, hj => rfl
      | 2, hi, 2, hj => rfl
      | 0, hi, 1, hj => cases hi; cases hj; exact absurd h hb1
      | 1, hi, 0, hj => cases hi; cases hj; exact absurd h.symm hb1
      | 0, hi, 2, hj => cases hi; cases hj; have h : bs = q := h; omega
      | 2, hi, 0, hj => cases hi; cases hj; have h : q = bs := h; omega
      | 1, hi, 2, hj => cases hi; cases hj; have h : xB x = q := h; omega
      | 2, hi, 1, hj => cases hi; cases hj; have h : q = xB x := h; omega
    · match k, hy with
      | 0, hy => cases hy; exact .inl rfl
      | 1, hy => cases hy; exact .inr (.inl rfl)
      | 2, hy => cases hy; exact .inr (.inr (by show sz ≤ q; omega))
  show W p l e _ s m args below meth c H1 [] (0 + 1) (0 + n) _ (F0 m 17 ls [.ref q])
  refine lv_astore_n (i := 2) (lv' := [(2, .ref q), (0, .ref (xB x)), (1, .int (iN (n : Int)))]) X.1 X.2.1 db_cp_17 rfl hl (by decide) rfl (fun ls1 hl1 => ?_)
  refine lv_aload_n (i := 0) (x := (xB x)) X.1 X.2.1 db_cp_18 rfl (lv_at hl1 1 rfl) ?_
  refine lv_iconst (v := iN 0) X.1 X.2.1 db_cp_19 (by decide) ?_
  refine lv_aload_n (i := 2) (x := q) X.1 X.2.1 db_cp_20 rfl (lv_at hl1 0 rfl) ?_
  refine lv_iconst (v := iN 0) X.1 X.2.1 db_cp_21 (by decide) ?_
  refine lv_aload_n (i := 0) (x := (xB x)) X.1 X.2.1 db_cp_22 rfl (lv_at hl1 1 rfl) ?_
  refine va_alen X.1 X.2.1 hz.2.1 hP1 1 0 rfl rfl (v := iN (xC x : Int)) (by show Int32.ofNat (xC x) = _; simp [iN, Int32.ofInt_eq_ofNat]) db_cp_23 ?_
  refine lv_iload_n (i := 1) (x := iN (n : Int)) X.1 X.2.1 db_cp_24 rfl (lv_at hl1 2 rfl) ?_
  refine va_mmin X.1 X.2.1 (by rw [X.2.2.1, hl1.1]) X.2.2.2.1 (X.2.2.2.2 _ mb_min_Arrays.1) (X.2.2.2.2 _ mb_min_Arrays.2.1) (X.2.2.2.2 _ mb_min_Arrays.2.2.1) (X.2.2.2.2 _ mb_min_Arrays.2.2.2) (by decide) (by simp [Value.category]) (by decide) (by show 0 + n ≤ 142; omega) db_cp_25 ?_
  rw [iN_min (x := (xC x : Int)) (y := (n : Int)) ⟨by omega, by omega⟩ ⟨by omega, by omega⟩, show min (xC x : Int) (n : Int) = (xC x : Int) by omega]
  have c0 : (iN 0).toNatClampNeg = 0 := by decide
  have cC : (iN (xC x : Int)).toNatClampNeg = xC x := by rw [iN_clamp (by omega) (by omega)]; omega
  have nC : ¬ iN (xC x : Int) < 0 := fun z => by
    have := (iN_lt (x := (xC x : Int)) (y := 0) ⟨by omega, by omega⟩ inR_0).mp z
    omega
  refine va_copyi X.1 X.2.1 (by rw [X.2.2.1, hl1.1]) X.2.2.2.1 (X.2.2.2.2 _ ac_cp.1) (X.2.2.2.2 _ ac_cp.2.1) (X.2.2.2.2 _ ac_cp.2.2.1) (X.2.2.2.2 _ ac_cp.2.2.2) hz.2.1 hP1 hD1 hS1 1 2 0 0 rfl rfl rfl rfl rfl (by decide) (by decide) nC (by rw [c0, cC]; omega) (by rw [c0, cC]; omega) (fun i hi => fits_T g.2.2.1.2.2 _) (by decide) (by simp [Value.category]; decide) db_cp_28 (fun H2 lc2 hP2 hD2 hS2 => ?_)
  rw [c0, cC] at hP2
  refine lv_aload_n (i := 2) (x := q) X.1 X.2.1 db_cp_31 rfl (lv_at hl1 0 rfl) ?_
  have hT : va_cpy (fun j => iN (xT x j)) (fun _ => (0 : Int32)) 0 0 (xC x) = fun j => iN ((fun j => if j < xC x then xT x j else 0) j) := by
    funext j
    unfold va_cpy
    by_cases h : j < xC x
    · rw [if_pos ⟨Nat.zero_le _, by omega⟩, if_pos h]
      simp
    · rw [if_neg (by omega), if_neg h]
      rfl
  rw [hT] at hP2
  refine W.widen (by decide) (by omega) (W.aret X.1 X.2.1 hret (Or.inr ⟨_, rfl⟩) (Or.inr ⟨_, rfl⟩) (fun t ht _ => ⟨⟨q, fun j => if j < xC x then xT x j else 0, rfl, ⟨by omega, by omega, by omega⟩, fun j hj => if_pos hj, fun j => ?_, ?_, ?_⟩, va_S.F hS2 ht⟩) hS2.2.2 db_cp_32 hlk)
  · show 0 ≤ (if j < xC x then xT x j else 0) ∧ (if j < xC x then xT x j else 0) ≤ 127
    split
    · exact g.2.2.1.2.2 j
    · omega
  · rw [ht]
    intro k y hy
    match k, hy with
    | 0, hy => exact hP2 0 _ hy
    | 1, hy => exact hP2 1 _ hy
  · rw [ht]
    exact hP2 2 _ rfl
end B2
section B3
variable {p : Program} {l : Launch} {e : Env} {R : Room} {s : State} {m : MethodId} {args : Array Value} {below : List Frame} {meth : Method} {c : Code} {Q : State → Prop}
variable {D : va_G} {tA : Nat → ClassId} {n0 sz bs bb0 n : Nat} {adr adV : Nat → Nat} {x : BS} {H : Heap} {locs : List Loc} {cells slots pc : Nat} {ls : Array Slot} {rest st0 : List Value} {nL : Nat} {cc : ByteArray} {own : String}
theorem b_callCp {idx : Nat} (X : BX p s m args c own nL cc) (hz : BZ D tA n0 adr adV sz bs bb0 s) (g : GB D tA sz bs bb0 x s H locs) (hw : BWd 1 own idx yb_cp prog_35_method_121_code 3 (some (.array .byte)) own 2) (hn : xC x < n) (hn2 : n ≤ 142) (hls : ls.size = nL) (hR : 3 ≤ R.frames ∧ 139 ≤ R.locals) (hf : cells + 1 ≤ R.cells ∧ slots + 142 ≤ R.slots) (hrest : (rest.map fun v => v.category).sum ≤ 8) (hst : st0 = .int (iN (n : Int)) :: .ref (xB x) :: rest) (hdg : decode cc pc = .ok (.invokestatic idx, 3))
    (kk : ∀ q T' H1 locs1, (q ≠ bs ∧ q ≠ xB x ∧ bA bs bb0 sz q) → (∀ j, j < xC x → T' j = xT x j) → tOk T' → GB D tA sz bs bb0 x s H1 locs1 → va_at D clA (q, bByt tA n T') H1 → W p l e R s m args below meth c H1 locs1 (cells + 1) (slots + 142) Q (F0 m (pc + 3) ls (.ref q :: rest))) : W p l e R s m args below meth c H locs cells slots Q (F0 m pc ls st0) := by
  obtain ⟨⟨⟨w1, w2, w3⟩, w4, w5⟩, w6⟩ := hw
  have hts := X.2.2.2.2
  have hr := va_runS (p := p) (l := l) (e := e) (R := R) (s := s) (m := m) (args := args) (below := below) (meth := meth) (c := c) (H := H) (locs := locs) (cells := cells) (slots := slots) (g := F0 m pc ls st0) (rest := rest) (own := own) (Ts := gW) (nL := nL) (As := [.ref (xB x), .int (iN (n : Int))]) (n := 2) (bytes := prog_35_method_121_code) (maxL := 3) (ret := some (.array .byte)) X (b_copyOf (l := l) (D := D) (tA := tA) (n0 := n0) (adr := adr) (adV := adV) (sz := H.size) (bs := bs) hn hn2) ⟨callB_of 2 hts (code_good w3) rfl rfl rfl (hts _ w2) (hts _ w1) w4 ⟨hR.1, by show 8 + (3 + 11) + 100 ≤ R.locals; omega⟩, hts _ w6⟩
    ⟨BPre.blind, fun U hU hW => ⟨rfl, b_pre hz g hU hW⟩⟩ rfl rfl hls hst (lv_room (pc := pc) (ls := ls) (rest := st0) hrest) hdg hf
  intro T hT XX
  obtain ⟨v, st₀, t, T', L2, h0, X', hL2, e1, e2, ⟨⟨q, T2, hv, ⟨q1, q2, q3⟩, hT2, hok, hP, hat⟩, hsz, hkk⟩, st⟩ := hr T hT XX
  rw [h0] at hsz hkk
  cases hv
  have hH : sz ≤ H.size := by rw [← hz.1.1]; exact g.2.2.2.1
  have hsub : ∀ y, bA bs (xB x) H.size y → bA bs bb0 sz y := by
    rintro y (rfl | rfl | hy)
    · exact .inl rfl
    · exact g.2.1.2
    · exact .inr (.inr (Nat.le_trans hH hy))
  have K := kk q T2 T'.heap (locs ++ L2) ⟨q2, q3, .inr (.inr (Nat.le_trans hH q1))⟩ hT2 hok ⟨by rw [e1]; exact hP, g.2.1, g.2.2.1, vS_app g.2.2.2 (by rw [e1]; exact hsz) (fun y h1 h2 => by rw [e1]; exact hkk y h1 h2) hsub (fun y hy => hsub _ (hL2 y hy))⟩ (by rw [e1]; exact hat)
  obtain ⟨t2, a1, b1⟩ := K T' rfl X'
  exact ⟨t2, st t2 a1, b1⟩
/-- the new bytes put in -/
theorem b_putV {index q : Nat} {T' : Nat → Int} (X : BX p s m args c own nL cc) (hz : BZ D tA n0 adr adV sz bs bb0 s) (g : GB D tA sz bs bb0 x s H locs) (hq : q ≠ bs ∧ q ≠ xB x ∧ bA bs bb0 sz q) (hok : tOk T') (hC : cOk n) (hN : xN x ≤ n) (hat : va_at D clA (q, bByt tA n T') H) (hl : Cond.fieldLink own index (TJ4 0).1 (TJ4 0).2.1 (TJ4 0).2.2.1 ∈ gW) (hdg : decode cc pc = .ok (.putfield index, 3))
    (kk : ∀ H1 locs1, GB D tA sz bs bb0 (q, n, xN x, xM x, T') s H1 locs1 → W p l e R s m args below meth c H1 locs1 cells slots Q (F0 m (pc + 3) ls rest)) : W p l e R s m args below meth c H locs cells slots Q (F0 m pc ls (.ref q :: .ref bs :: rest)) := by
  obtain ⟨c1, c2⟩ := c13
  have hP : va_P D clA [(bs, bObj (xB x) (xN x) (xM x)), (q, bByt tA n T')] H := by
    intro k y hy
    match k, hy with
    | 0, hy => exact g.1 0 _ hy
    | 1, hy => cases hy; exact hat
  have hD : va_D (bA bs bb0 sz) [(bs, bObj (xB x) (xN x) (xM x)), (q, bByt tA n T')] := by
    refine ⟨fun i j y z hi hj h => ?_, fun k y hy => ?_⟩
    · match i, hi, j, hj with
      | 0, hi, 0, hj => rfl
      | 1, hi, 1, hj => rfl
      | 0, hi, 1, hj => cases hi; cases hj; exact absurd h.symm hq.1
      | 1, hi, 0, hj => cases hi; cases hj; exact absurd h hq.1
    · match k, hy with
      | 0, hy => cases hy; exact .inl rfl
      | 1, hy => cases hy; exact hq.2.2
  refine va_put (ref := (TJ4 0).1) (ty := .array .byte) X.1 X.2.1 X.2.2.2.2 c2 tyJ4 tyJ4_ok nmJ4 X.2.2.2.1 hz.2.1 hP hD g.2.2.2 0 rfl c1 0 (by decide) (X.2.2.2.2 _ hl) (fun _ h => h) rfl rfl rfl rfl (by decide) hdg (fun H1 locs1 hP1 hD1 hS1 => kk H1 locs1 ⟨hP1, ⟨fun h => hq.1 h.symm, hq.2.2⟩, ⟨hC, hN, hok⟩, hS1⟩)
end B3
section B2
variable {bs : Nat}
def yb_en : MethodName := ⟨"java/lang/AbstractStringBuilder", "ensureCapacityInternal", "(I)V"⟩
set_option maxRecDepth 100000 in
theorem db_en_0 : decode prog_16_method_9_code 0 = .ok (.aload_n 0, 1) := rfl
set_option maxRecDepth 100000 in
theorem db_en_1 : decode prog_16_method_9_code 1 = .ok (.getfield 15, 3) := rfl
set_option maxRecDepth 100000 in
theorem db_en_4 : decode prog_16_method_9_code 4 = .ok (.arraylength, 1) := rfl
set_option maxRecDepth 100000 in
theorem db_en_5 : decode prog_16_method_9_code 5 = .ok (.aload_n 0, 1) := rfl
set_option maxRecDepth 100000 in
theorem db_en_6 : decode prog_16_method_9_code 6 = .ok (.getfield 22, 3) := rfl
set_option maxRecDepth 100000 in
theorem db_en_9 : decode prog_16_method_9_code 9 = .ok (.ishr, 1) := rfl
set_option maxRecDepth 100000 in
theorem db_en_10 : decode prog_16_method_9_code 10 = .ok (.istore_n 2, 1) := rfl
set_option maxRecDepth 100000 in
theorem db_en_11 : decode prog_16_method_9_code 11 = .ok (.iload_n 1, 1) := rfl
set_option maxRecDepth 100000 in
theorem db_en_12 : decode prog_16_method_9_code 12 = .ok (.iload_n 2, 1) := rfl
set_option maxRecDepth 100000 in
theorem db_en_13 : decode prog_16_method_9_code 13 = .ok (.isub, 1) := rfl
set_option maxRecDepth 100000 in
theorem db_en_14 : decode prog_16_method_9_code 14 = .ok (.ifCond .le 24, 3) := rfl
set_option maxRecDepth 100000 in
theorem db_en_38 : decode prog_16_method_9_code 38 = .ok (.return_, 1) := rfl
set_option maxRecDepth 100000 in
theorem db_en_17 : decode prog_16_method_9_code 17 = .ok (.aload_n 0, 1) := rfl
set_option maxRecDepth 100000 in
theorem db_en_18 : decode prog_16_method_9_code 18 = .ok (.aload_n 0, 1) := rfl
set_option maxRecDepth 100000 in
theorem db_en_19 : decode prog_16_method_9_code 19 = .ok (.getfield 15, 3) := rfl
set_option maxRecDepth 100000 in
theorem db_en_22 : decode prog_16_method_9_code 22 = .ok (.aload_n 0, 1) := rfl
set_option maxRecDepth 100000 in
theorem db_en_23 : decode prog_16_method_9_code 23 = .ok (.iload_n 1, 1) := rfl
set_option maxRecDepth 100000 in
theorem wb_1 : BWd 3 "java/lang/AbstractStringBuilder" 104 yb_nc prog_16_method_10_code 6 (some .int) "java/lang/AbstractStringBuilder" 1 := ⟨⟨⟨gW_at (i := 1430) rfl rfl, gW_at (i := 114) rfl rfl, gW_at (i := 1433) rfl rfl⟩, ⟨by decide, by decide, rfl⟩, by decide⟩, gW_at (i := 1432) rfl rfl, by decide, rfl⟩
set_option maxRecDepth 100000 in
theorem db_en_24 : decode prog_16_method_9_code 24 = .ok (.invokevirtual 104, 3) := rfl
set_option maxRecDepth 100000 in
theorem db_en_27 : decode prog_16_method_9_code 27 = .ok (.aload_n 0, 1) := rfl
set_option maxRecDepth 100000 in
theorem db_en_28 : decode prog_16_method_9_code 28 = .ok (.getfield 22, 3) := rfl
set_option maxRecDepth 100000 in
theorem db_en_31 : decode prog_16_method_9_code 31 = .ok (.ishl, 1) := rfl
set_option maxRecDepth 100000 in
theorem wb_2 : BWd 1 "java/lang/AbstractStringBuilder" 108 yb_cp prog_35_method_121_code 3 (some (.array .byte)) "java/lang/AbstractStringBuilder" 2 := ⟨⟨⟨gW_at (i := 1443) rfl rfl, gW_at (i := 131) rfl rfl, gW_at (i := 1445) rfl rfl⟩, ⟨by decide, by decide, rfl⟩, by decide⟩, gW_at (i := 1444) rfl rfl⟩
set_option maxRecDepth 100000 in
theorem db_en_32 : decode prog_16_method_9_code 32 = .ok (.invokestatic 108, 3) := rfl
set_option maxRecDepth 100000 in
theorem db_en_35 : decode prog_16_method_9_code 35 = .ok (.putfield 15, 3) := rfl
set_option maxHeartbeats 4000000 in
set_option maxRecDepth 100000 in
theorem b_ensure {a : Int} (h0 : 0 ≤ a) (h1 : a ≤ 142) : BC yb_en prog_16_method_9_code 3 none 4 400 1 142 bs (fun x adr => [.ref bs, .int (iN a)]) (fun x => a ≤ (xC x : Int) + 2) (fun x v x' => v = none ∧ a ≤ (xC x' : Int) ∧ xN x' = xN x ∧ ∀ j, j < xC x → xT x' j = xT x j) := by
  refine bc_of (by decide) rfl (fun _ _ => by simp [lg_sl, Value.category]) ?_
  intro p l e s m args below meth c D tA n0 adr adV sz x ls hP X hz g hret hlk hl
  have hl : lv_has ls 3 [(0, .ref bs), (1, .int (iN a))] := hl
  have hC : xC x ≤ 142 := by rcases g.2.2.1.1 with h | h | h | h <;> omega
  refine lv_aload_n (i := 0) (x := bs) X.1 X.2.1 db_en_0 rfl (lv_at hl 0 rfl) ?_
  refine b_get (k := 0) X hz g (by decide) fb_2 rfl db_en_1 ?_
  refine b_len X hz g db_en_4 ?_
  refine lv_aload_n (i := 0) (x := bs) X.1 X.2.1 db_en_5 rfl (lv_at hl 0 rfl) ?_
  refine b_get (k := 1) X hz g (by decide) fb_0 rfl db_en_6 ?_
  refine lv_ishr X.1 X.2.1 db_en_9 ?_
  rw [sh_r0]
  refine lv_istore_n (i := 2) (lv' := [(2, .int (iN (xC x : Int))), (0, .ref bs), (1, .int (iN a))]) X.1 X.2.1 db_en_10 rfl hl (by decide) rfl (fun ls1 hl1 => ?_)
  refine lv_iload_n (i := 1) (x := iN a) X.1 X.2.1 db_en_11 rfl (lv_at hl1 2 rfl) ?_
  refine lv_iload_n (i := 2) (x := iN (xC x : Int)) X.1 X.2.1 db_en_12 rfl (lv_at hl1 0 rfl) ?_
  refine lv_isub X.1 X.2.1 db_en_13 ?_
  rw [iN_sub]
  refine lv_if_le (tgt := 38) X.1 X.2.1 db_en_14 (by decide) (fun h => ?_) (fun h => ?_)
  · have h2 : a ≤ (xC x : Int) := by
      have := (iN_le (x := a - (xC x : Int)) ⟨by omega, by omega⟩ inR_0).mp h
      omega
    exact b_vret X hret hlk g ⟨rfl, h2, rfl, fun j hj => rfl⟩ (by omega) (by omega) db_en_38
  · have h2 : (xC x : Int) < a := by
      have z : ¬ a - (xC x : Int) ≤ 0 := fun z => h ((iN_le (x := a - (xC x : Int)) ⟨by omega, by omega⟩ inR_0).mpr z)
      omega
    refine lv_aload_n (i := 0) (x := bs) X.1 X.2.1 db_en_17 rfl (lv_at hl1 1 rfl) ?_
    refine lv_aload_n (i := 0) (x := bs) X.1 X.2.1 db_en_18 rfl (lv_at hl1 1 rfl) ?_
    refine b_get (k := 0) X hz g (by decide) fb_2 rfl db_en_19 ?_
    refine lv_aload_n (i := 0) (x := bs) X.1 X.2.1 db_en_22 rfl (lv_at hl1 1 rfl) ?_
    refine lv_iload_n (i := 1) (x := iN a) X.1 X.2.1 db_en_23 rfl (lv_at hl1 2 rfl) ?_
    refine b_callP (As := [.int (iN a)]) (rest := [.ref (xB x), .ref bs]) X hz g (b_newCapacity h0 (by omega)) trivial wb_1 rfl rfl hl1.1 ⟨by decide, by decide⟩ ⟨by decide, by decide⟩ (by simp [Value.category]) rfl db_en_24 (fun v x1 H1 lc1 hv1 g1 => ?_)
    obtain ⟨rfl, rfl⟩ := hv1
    have hn : (xC x1 : Int) + max (a - (xC x1 : Int)) ((xC x1 : Int) + 2) = ((2 * xC x1 + 2 : Nat) : Int) := by omega
    rw [hn]
    refine lv_aload_n (i := 0) (x := bs) X.1 X.2.1 db_en_27 rfl (lv_at hl1 1 rfl) ?_
    refine b_get (k := 1) X hz g1 (by decide) fb_0 rfl db_en_28 ?_
    refine lv_ishl X.1 X.2.1 db_en_31 ?_
    rw [sh_l0]
    have hC2 : cOk (2 * xC x1 + 2) := by
      rcases g1.2.2.1.1 with h | h | h | h
      · rw [h]; exact .inr (.inl rfl)
      · rw [h]; exact .inr (.inr (.inl rfl))
      · rw [h]; exact .inr (.inr (.inr rfl))
      · exfalso; omega
    have hN2 := g1.2.2.1.2.1
    refine b_callCp (n := 2 * xC x1 + 2) (rest := [.ref bs]) X hz g1 wb_2 (by omega) (by rcases hC2 with h | h | h | h <;> omega) hl1.1 ⟨by decide, by decide⟩ ⟨by decide, by decide⟩ (by simp [Value.category]) rfl db_en_32 (fun q T2 H2 lc2 hq hT2 hok g2 hat => ?_)
    refine b_putV X hz g2 hq hok hC2 (by omega) hat fb_2 db_en_35 (fun H3 lc3 g3 => ?_)
    exact b_vret X hret hlk g3 ⟨rfl, by show a ≤ ((2 * xC x1 + 2 : Nat) : Int); omega, rfl, hT2⟩ (by omega) (by omega) db_en_38
def yb_sl : MethodName := ⟨"java/lang/AbstractStringBuilder", "setLength", "(I)V"⟩
set_option maxRecDepth 100000 in
theorem db_sl_0 : decode prog_16_method_13_code 0 = .ok (.iload_n 1, 1) := rfl
set_option maxRecDepth 100000 in
theorem db_sl_1 : decode prog_16_method_13_code 1 = .ok (.ifCond .ge 12, 3) := rfl
set_option maxRecDepth 100000 in
theorem db_sl_13 : decode prog_16_method_13_code 13 = .ok (.aload_n 0, 1) := rfl
set_option maxRecDepth 100000 in
theorem db_sl_14 : decode prog_16_method_13_code 14 = .ok (.iload_n 1, 1) := rfl
set_option maxRecDepth 100000 in
theorem wb_3 : BWd 3 "java/lang/AbstractStringBuilder" 100 yb_en prog_16_method_9_code 3 none "java/lang/AbstractStringBuilder" 1 := ⟨⟨⟨gW_at (i := 1426) rfl rfl, gW_at (i := 114) rfl rfl, gW_at (i := 1429) rfl rfl⟩, ⟨by decide, by decide, rfl⟩, by decide⟩, gW_at (i := 1428) rfl rfl, by decide, rfl⟩
set_option maxRecDepth 100000 in
theorem db_sl_15 : decode prog_16_method_13_code 15 = .ok (.invokevirtual 100, 3) := rfl
set_option maxRecDepth 100000 in
theorem db_sl_18 : decode prog_16_method_13_code 18 = .ok (.aload_n 0, 1) := rfl
set_option maxRecDepth 100000 in
theorem db_sl_19 : decode prog_16_method_13_code 19 = .ok (.getfield 79, 3) := rfl
set_option maxRecDepth 100000 in
theorem db_sl_22 : decode prog_16_method_13_code 22 = .ok (.iload_n 1, 1) := rfl
set_option maxRecDepth 100000 in
theorem db_sl_23 : decode prog_16_method_13_code 23 = .ok (.if_icmp .ge 40, 3) := rfl
set_option maxRecDepth 100000 in
theorem db_sl_63 : decode prog_16_method_13_code 63 = .ok (.aload_n 0, 1) := rfl
set_option maxRecDepth 100000 in
theorem db_sl_64 : decode prog_16_method_13_code 64 = .ok (.getfield 79, 3) := rfl
set_option maxRecDepth 100000 in
theorem db_sl_67 : decode prog_16_method_13_code 67 = .ok (.iload_n 1, 1) := rfl
set_option maxRecDepth 100000 in
theorem fb_3 : Cond.fieldLink "java/lang/AbstractStringBuilder" 73 (TJ4 2).1 (TJ4 2).2.1 (TJ4 2).2.2.1 ∈ gW := gW_at (i := 494) rfl rfl
set_option maxRecDepth 100000 in
theorem db_sl_68 : decode prog_16_method_13_code 68 = .ok (.if_icmp .le 8, 3) := rfl
set_option maxRecDepth 100000 in
theorem db_sl_71 : decode prog_16_method_13_code 71 = .ok (.aload_n 0, 1) := rfl
set_option maxRecDepth 100000 in
theorem db_sl_72 : decode prog_16_method_13_code 72 = .ok (.iconst 1, 1) := rfl
set_option maxRecDepth 100000 in
theorem db_sl_73 : decode prog_16_method_13_code 73 = .ok (.putfield 73, 3) := rfl
set_option maxRecDepth 100000 in
theorem db_sl_76 : decode prog_16_method_13_code 76 = .ok (.aload_n 0, 1) := rfl
set_option maxRecDepth 100000 in
theorem db_sl_77 : decode prog_16_method_13_code 77 = .ok (.iload_n 1, 1) := rfl
set_option maxRecDepth 100000 in
theorem db_sl_78 : decode prog_16_method_13_code 78 = .ok (.putfield 79, 3) := rfl
set_option maxRecDepth 100000 in
theorem db_sl_81 : decode prog_16_method_13_code 81 = .ok (.return_, 1) := rfl
set_option maxHeartbeats 4000000 in
set_option maxRecDepth 100000 in
theorem b_setLen0 : BC yb_sl prog_16_method_13_code 2 none 5 500 1 142 bs (fun x adr => [.ref bs, .int (iN 0)]) (fun x => True) (fun x v x' => v = none ∧ xN x' = 0) := by
  refine bc_of (by decide) rfl (fun _ _ => by simp [lg_sl, Value.category]) ?_
  intro p l e s m args below meth c D tA n0 adr adV sz x ls hP X hz g hret hlk hl
  have hl : lv_has ls 2 [(0, .ref bs), (1, .int (iN 0))] := hl
  refine lv_iload_n (i := 1) (x := iN 0) X.1 X.2.1 db_sl_0 rfl (lv_at hl 1 rfl) ?_
  refine lv_if_ge (tgt := 13) X.1 X.2.1 db_sl_1 (by decide) (fun _ => ?_) (fun h => absurd (by decide) h)
  refine lv_aload_n (i := 0) (x := bs) X.1 X.2.1 db_sl_13 rfl (lv_at hl 0 rfl) ?_
  refine lv_iload_n (i := 1) (x := iN 0) X.1 X.2.1 db_sl_14 rfl (lv_at hl 1 rfl) ?_
  refine b_callP (As := [.int (iN 0)]) (rest := []) X hz g (b_ensure (Int.le_refl 0) (by omega)) (by omega) wb_3 rfl rfl hl.1 ⟨by decide, by decide⟩ ⟨by decide, by decide⟩ (by simp [Value.category]) rfl db_sl_15 (fun v x1 H1 lc1 hv1 g1 => ?_)
  obtain ⟨rfl, hv2, hv3, hv4⟩ := hv1
  refine lv_aload_n (i := 0) (x := bs) X.1 X.2.1 db_sl_18 rfl (lv_at hl 0 rfl) ?_
  refine b_get (k := 3) X hz g1 (by decide) fb_1 rfl db_sl_19 ?_
  refine lv_iload_n (i := 1) (x := iN 0) X.1 X.2.1 db_sl_22 rfl (lv_at hl 1 rfl) ?_
  have hN1 : xN x1 ≤ xC x1 := g1.2.2.1.2.1
  have hC1 : xC x1 ≤ 142 := by rcases g1.2.2.1.1 with h | h | h | h <;> omega
  refine lv_icmp_ge (tgt := 63) X.1 X.2.1 db_sl_23 (by decide) (fun _ => ?_) (fun h => absurd ((iN_le inR_0 (y := (xN x1 : Int)) ⟨by omega, by omega⟩).mpr (by omega)) h)
  refine lv_aload_n (i := 0) (x := bs) X.1 X.2.1 db_sl_63 rfl (lv_at hl 0 rfl) ?_
  refine b_get (k := 3) X hz g1 (by decide) fb_1 rfl db_sl_64 ?_
  refine lv_iload_n (i := 1) (x := iN 0) X.1 X.2.1 db_sl_67 rfl (lv_at hl 1 rfl) ?_
  suffices G : ∀ (x2 : BS) H2 lc2, okX x2 → xN x2 = xN x1 → GB D tA sz bs (xB x) x2 s H2 lc2 → W p l e _ s m args below meth c H2 lc2 (0 + 1) (0 + 142) (MQ below (BPost D tA sz bs (xB x) _) args s 1 142 (bA bs (xB x) sz)) (F0 m 76 ls []) by
    refine lv_icmp_le (tgt := 76) X.1 X.2.1 db_sl_68 (by decide) (fun _ => ?_) (fun _ => ?_)
    · exact G x1 H1 lc1 g1.2.2.1 rfl g1
    · refine lv_aload_n (i := 0) (x := bs) X.1 X.2.1 db_sl_71 rfl (lv_at hl 0 rfl) ?_
      refine lv_iconst (v := iN 1) X.1 X.2.1 db_sl_72 (by decide) ?_
      exact b_put (k := 2) (ty := .boolean) (x' := (xB x1, xC x1, xN x1, iN 1, xT x1)) X hz g1 (by decide) fb_3 rfl rfl rfl rfl db_sl_73 g1.2.2.1 rfl rfl rfl (fun H2 lc2 g2 => G _ H2 lc2 g2.2.2.1 rfl g2)
  intro x2 H2 lc2 hx2 hn2 g2
  refine lv_aload_n (i := 0) (x := bs) X.1 X.2.1 db_sl_76 rfl (lv_at hl 0 rfl) ?_
  refine lv_iload_n (i := 1) (x := iN 0) X.1 X.2.1 db_sl_77 rfl (lv_at hl 1 rfl) ?_
  refine b_put (k := 3) (ty := .int) (x' := (xB x2, xC x2, 0, xM x2, xT x2)) X hz g2 (by decide) fb_1 rfl rfl (vp_nar_int _) rfl db_sl_78 ⟨hx2.1, Nat.zero_le _, hx2.2.2⟩ rfl rfl rfl (fun H3 lc3 g3 => ?_)
  exact b_vret X hret hlk g3 ⟨rfl, rfl⟩ (by omega) (by omega) db_sl_81
end B2

/-! THE LAW, 4: its words, rows, wrappers (printed by wip/whole/g7f.py). -/
set_option maxRecDepth 100000 in
theorem lk_18 : Cond.classLink lwN 18 (excN 0) ∈ gW := gW_at (i := 1123) rfl rfl
set_option maxRecDepth 100000 in
theorem lk_13 : Cond.classLink lwN 13 (excN 1) ∈ gW := gW_at (i := 912) rfl rfl
theorem ex_c0 : Cond.castable (excN 0) (excN 0) ∈ excD := by decide +kernel
theorem ex_c1 : Cond.castable (excN 1) (excN 1) ∈ excD := by decide +kernel
def yw_yard : MethodName := ⟨lwN, "yard", "(LRingDater;I[J)I"⟩
set_option maxRecDepth 100000 in
theorem ww_yard : LWw 71 yw_yard method_3_code 4 [(0, 9, 12, 13)] 3 := ⟨⟨gW_at (i := 909) rfl rfl, gW_at (i := 910) rfl rfl⟩, ⟨gW_at (i := 102) rfl rfl, gW_at (i := 911) rfl rfl⟩, ⟨by decide, by decide, rfl⟩, by decide⟩
set_option maxRecDepth 100000 in
theorem lwd_7 : LWd 7 m_RingDater_yard := ⟨⟨gW_at (i := 913) rfl rfl, gW_at (i := 914) rfl rfl⟩, ⟨gW_at (i := 915) rfl rfl, gW_at (i := 103) rfl rfl⟩, rfl, by decide⟩
theorem dw_yard_0 : decode method_3_code 0 = .ok (.aload_n 2, 1) := by decide +kernel
theorem dw_yard_1 : decode method_3_code 1 = .ok (.iconst 0, 1) := by decide +kernel
theorem dw_yard_2 : decode method_3_code 2 = .ok (.aload_n 0, 1) := by decide +kernel
theorem dw_yard_3 : decode method_3_code 3 = .ok (.iload_n 1, 1) := by decide +kernel
theorem dw_yard_12 : decode method_3_code 12 = .ok (.astore_n 3, 1) := by decide +kernel
theorem dw_yard_13 : decode method_3_code 13 = .ok (.iconst 1, 1) := by decide +kernel
theorem dw_yard_14 : decode method_3_code 14 = .ok (.ireturn, 1) := by decide +kernel
theorem dw_yard_4 : decode method_3_code 4 = .ok (.invokevirtual 7, 3) := by decide +kernel
theorem dw_yard_7 : decode method_3_code 7 = .ok (.i2l, 1) := by decide +kernel
theorem dw_yard_8 : decode method_3_code 8 = .ok (.lastore, 1) := by decide +kernel
theorem dw_yard_9 : decode method_3_code 9 = .ok (.goto 6, 3) := by decide +kernel
theorem dw_yard_15 : decode method_3_code 15 = .ok (.iconst 0, 1) := by decide +kernel
theorem dw_yard_16 : decode method_3_code 16 = .ok (.ireturn, 1) := by decide +kernel
set_option maxHeartbeats 4000000 in
set_option maxRecDepth 100000 in
theorem wr_yard {p0 : Int} {k : Nat} {M : Mm} (h : SimW [(1, 1)] m_RingDater_yard m_Model_yard [.inl p0] k M) : WrC yw_yard method_3_code 4 [(0, 9, 12, 13)] [.inl p0] M (WQ m_Model_yard [.inl p0] k) := by
  refine wr_of (by decide) rfl (fun adr o => by simp [lg_sl, cvA, Value.category]) ?_
  intro p l e s m args below meth c D tA n0 o bs adr adV f ls hfl hL X hs hh htab hret hlk hl
  have hl : lv_has ls 4 [(0, .ref (adr 0)), (1, .int (iN p0)), (2, .ref o)] := hl
  refine lv_aload_n (i := 2) (x := o) X.1 X.2.1 dw_yard_0 rfl (lv_at hl 2 rfl) ?_
  refine lv_iconst (v := 0) X.1 X.2.1 dw_yard_1 (by decide) ?_
  refine lv_aload_n (i := 0) (x := adr 0) X.1 X.2.1 dw_yard_2 rfl (lv_at hl 0 rfl) ?_
  refine lv_iload_n (i := 1) (x := iN p0) X.1 X.2.1 dw_yard_3 rfl (lv_at hl 1 rfl) ?_
  refine wr_mid (E := 15) h (fun z hz => ?_) X lwd_7 hL hs hh va_S.rf hl.1 (show (11 : Nat) = 11 from rfl) rfl (by decide +kernel) (by decide +kernel) (Nat.le_of_ble_eq_true rfl) hfl hret hlk rfl dw_yard_4 dw_yard_7 dw_yard_8 dw_yard_9 (by decide) dw_yard_15 dw_yard_16 (fun z hz H1 locs1 q9 ce h1 h2 h3 K => ?_)
  · simp only [List.mem_cons, List.not_mem_nil, or_false] at hz
    rcases hz with rfl <;> exact ⟨by decide, by decide, by decide⟩
  · simp only [List.mem_cons, List.not_mem_nil, or_false] at hz
    rcases hz with rfl
    · refine vx_catch (own := lwN) (name := excN 1) (E := excN 1) X.2.2.2.1 [] ⟨0, 9, 12, 13⟩ [] htab (fun z hz => by cases hz) (by decide) (by decide) (X.2.2.2.2 _ lk_13) (hs.2.2.2.1.at _ _ ex_c1) h1 h2 h3 ?_
      refine lv_astore_n (i := 3) X.1 X.2.1 dw_yard_12 rfl hl (by decide) rfl (fun ls2 hl2 => ?_)
      refine lv_iconst (v := iN 1) X.1 X.2.1 dw_yard_13 (by decide) ?_
      exact K _ _ dw_yard_14
def yw_count : MethodName := ⟨lwN, "count", "(LRingDater;I[J)I"⟩
set_option maxRecDepth 100000 in
theorem ww_count : LWw 85 yw_count method_4_code 4 [(0, 9, 12, 18)] 3 := ⟨⟨gW_at (i := 1120) rfl rfl, gW_at (i := 1121) rfl rfl⟩, ⟨gW_at (i := 102) rfl rfl, gW_at (i := 1122) rfl rfl⟩, ⟨by decide, by decide, rfl⟩, by decide⟩
set_option maxRecDepth 100000 in
theorem lwd_15 : LWd 15 m_RingDater_count := ⟨⟨gW_at (i := 1124) rfl rfl, gW_at (i := 1125) rfl rfl⟩, ⟨gW_at (i := 1126) rfl rfl, gW_at (i := 103) rfl rfl⟩, rfl, by decide⟩
theorem dw_count_0 : decode method_4_code 0 = .ok (.aload_n 2, 1) := by decide +kernel
theorem dw_count_1 : decode method_4_code 1 = .ok (.iconst 0, 1) := by decide +kernel
theorem dw_count_2 : decode method_4_code 2 = .ok (.aload_n 0, 1) := by decide +kernel
theorem dw_count_3 : decode method_4_code 3 = .ok (.iload_n 1, 1) := by decide +kernel
theorem dw_count_12 : decode method_4_code 12 = .ok (.astore_n 3, 1) := by decide +kernel
theorem dw_count_13 : decode method_4_code 13 = .ok (.iconst 1, 1) := by decide +kernel
theorem dw_count_14 : decode method_4_code 14 = .ok (.ireturn, 1) := by decide +kernel
theorem dw_count_4 : decode method_4_code 4 = .ok (.invokevirtual 15, 3) := by decide +kernel
theorem dw_count_7 : decode method_4_code 7 = .ok (.i2l, 1) := by decide +kernel
theorem dw_count_8 : decode method_4_code 8 = .ok (.lastore, 1) := by decide +kernel
theorem dw_count_9 : decode method_4_code 9 = .ok (.goto 6, 3) := by decide +kernel
theorem dw_count_15 : decode method_4_code 15 = .ok (.iconst 0, 1) := by decide +kernel
theorem dw_count_16 : decode method_4_code 16 = .ok (.ireturn, 1) := by decide +kernel
set_option maxHeartbeats 4000000 in
set_option maxRecDepth 100000 in
theorem wr_count {p0 : Int} {k : Nat} {M : Mm} (h : SimW [(0, 1)] m_RingDater_count m_Model_count [.inl p0] k M) : WrC yw_count method_4_code 4 [(0, 9, 12, 18)] [.inl p0] M (WQ m_Model_count [.inl p0] k) := by
  refine wr_of (by decide) rfl (fun adr o => by simp [lg_sl, cvA, Value.category]) ?_
  intro p l e s m args below meth c D tA n0 o bs adr adV f ls hfl hL X hs hh htab hret hlk hl
  have hl : lv_has ls 4 [(0, .ref (adr 0)), (1, .int (iN p0)), (2, .ref o)] := hl
  refine lv_aload_n (i := 2) (x := o) X.1 X.2.1 dw_count_0 rfl (lv_at hl 2 rfl) ?_
  refine lv_iconst (v := 0) X.1 X.2.1 dw_count_1 (by decide) ?_
  refine lv_aload_n (i := 0) (x := adr 0) X.1 X.2.1 dw_count_2 rfl (lv_at hl 0 rfl) ?_
  refine lv_iload_n (i := 1) (x := iN p0) X.1 X.2.1 dw_count_3 rfl (lv_at hl 1 rfl) ?_
  refine wr_mid (E := 15) h (fun z hz => ?_) X lwd_15 hL hs hh va_S.rf hl.1 (show (11 : Nat) = 11 from rfl) rfl (by decide +kernel) (by decide +kernel) (Nat.le_of_ble_eq_true rfl) hfl hret hlk rfl dw_count_4 dw_count_7 dw_count_8 dw_count_9 (by decide) dw_count_15 dw_count_16 (fun z hz H1 locs1 q9 ce h1 h2 h3 K => ?_)
  · simp only [List.mem_cons, List.not_mem_nil, or_false] at hz
    rcases hz with rfl <;> exact ⟨by decide, by decide, by decide⟩
  · simp only [List.mem_cons, List.not_mem_nil, or_false] at hz
    rcases hz with rfl
    · refine vx_catch (own := lwN) (name := excN 0) (E := excN 0) X.2.2.2.1 [] ⟨0, 9, 12, 18⟩ [] htab (fun z hz => by cases hz) (by decide) (by decide) (X.2.2.2.2 _ lk_18) (hs.2.2.2.1.at _ _ ex_c0) h1 h2 h3 ?_
      refine lv_astore_n (i := 3) X.1 X.2.1 dw_count_12 rfl hl (by decide) rfl (fun ls2 hl2 => ?_)
      refine lv_iconst (v := iN 1) X.1 X.2.1 dw_count_13 (by decide) ?_
      exact K _ _ dw_count_14
def yw_timber : MethodName := ⟨lwN, "timber", "(LRingDater;II[J)I"⟩
set_option maxRecDepth 100000 in
theorem ww_timber : LWw 88 yw_timber method_5_code 5 [(0, 10, 13, 18)] 4 := ⟨⟨gW_at (i := 1239) rfl rfl, gW_at (i := 1240) rfl rfl⟩, ⟨gW_at (i := 102) rfl rfl, gW_at (i := 1241) rfl rfl⟩, ⟨by decide, by decide, rfl⟩, by decide⟩
set_option maxRecDepth 100000 in
theorem lwd_20 : LWd 20 m_RingDater_timber := ⟨⟨gW_at (i := 1242) rfl rfl, gW_at (i := 1243) rfl rfl⟩, ⟨gW_at (i := 1244) rfl rfl, gW_at (i := 103) rfl rfl⟩, rfl, by decide⟩
theorem dw_timber_0 : decode method_5_code 0 = .ok (.aload_n 3, 1) := by decide +kernel
theorem dw_timber_1 : decode method_5_code 1 = .ok (.iconst 0, 1) := by decide +kernel
theorem dw_timber_2 : decode method_5_code 2 = .ok (.aload_n 0, 1) := by decide +kernel
theorem dw_timber_3 : decode method_5_code 3 = .ok (.iload_n 1, 1) := by decide +kernel
theorem dw_timber_4 : decode method_5_code 4 = .ok (.iload_n 2, 1) := by decide +kernel
theorem dw_timber_13 : decode method_5_code 13 = .ok (.astore 4, 2) := by decide +kernel
theorem dw_timber_15 : decode method_5_code 15 = .ok (.iconst 1, 1) := by decide +kernel
theorem dw_timber_16 : decode method_5_code 16 = .ok (.ireturn, 1) := by decide +kernel
theorem dw_timber_5 : decode method_5_code 5 = .ok (.invokevirtual 20, 3) := by decide +kernel
theorem dw_timber_8 : decode method_5_code 8 = .ok (.i2l, 1) := by decide +kernel
theorem dw_timber_9 : decode method_5_code 9 = .ok (.lastore, 1) := by decide +kernel
theorem dw_timber_10 : decode method_5_code 10 = .ok (.goto 7, 3) := by decide +kernel
theorem dw_timber_17 : decode method_5_code 17 = .ok (.iconst 0, 1) := by decide +kernel
theorem dw_timber_18 : decode method_5_code 18 = .ok (.ireturn, 1) := by decide +kernel
set_option maxHeartbeats 4000000 in
set_option maxRecDepth 100000 in
theorem wr_timber {p0 p1 : Int} {k : Nat} {M : Mm} (h : SimW [(0, 1)] m_RingDater_timber m_Model_timber [.inl p0, .inl p1] k M) : WrC yw_timber method_5_code 5 [(0, 10, 13, 18)] [.inl p0, .inl p1] M (WQ m_Model_timber [.inl p0, .inl p1] k) := by
  refine wr_of (by decide) rfl (fun adr o => by simp [lg_sl, cvA, Value.category]) ?_
  intro p l e s m args below meth c D tA n0 o bs adr adV f ls hfl hL X hs hh htab hret hlk hl
  have hl : lv_has ls 5 [(0, .ref (adr 0)), (1, .int (iN p0)), (2, .int (iN p1)), (3, .ref o)] := hl
  refine lv_aload_n (i := 3) (x := o) X.1 X.2.1 dw_timber_0 rfl (lv_at hl 3 rfl) ?_
  refine lv_iconst (v := 0) X.1 X.2.1 dw_timber_1 (by decide) ?_
  refine lv_aload_n (i := 0) (x := adr 0) X.1 X.2.1 dw_timber_2 rfl (lv_at hl 0 rfl) ?_
  refine lv_iload_n (i := 1) (x := iN p0) X.1 X.2.1 dw_timber_3 rfl (lv_at hl 1 rfl) ?_
  refine lv_iload_n (i := 2) (x := iN p1) X.1 X.2.1 dw_timber_4 rfl (lv_at hl 2 rfl) ?_
  refine wr_mid (E := 17) h (fun z hz => ?_) X lwd_20 hL hs hh va_S.rf hl.1 (show (11 : Nat) = 11 from rfl) rfl (by decide +kernel) (by decide +kernel) (Nat.le_of_ble_eq_true rfl) hfl hret hlk rfl dw_timber_5 dw_timber_8 dw_timber_9 dw_timber_10 (by decide) dw_timber_17 dw_timber_18 (fun z hz H1 locs1 q9 ce h1 h2 h3 K => ?_)
  · simp only [List.mem_cons, List.not_mem_nil, or_false] at hz
    rcases hz with rfl <;> exact ⟨by decide, by decide, by decide⟩
  · simp only [List.mem_cons, List.not_mem_nil, or_false] at hz
    rcases hz with rfl
    · refine vx_catch (own := lwN) (name := excN 0) (E := excN 0) X.2.2.2.1 [] ⟨0, 10, 13, 18⟩ [] htab (fun z hz => by cases hz) (by decide) (by decide) (X.2.2.2.2 _ lk_18) (hs.2.2.2.1.at _ _ ex_c0) h1 h2 h3 ?_
      refine lv_astore X.1 X.2.1 dw_timber_13 hl (by decide) rfl (fun ls2 hl2 => ?_)
      refine lv_iconst (v := iN 1) X.1 X.2.1 dw_timber_15 (by decide) ?_
      exact K _ _ dw_timber_16
def yw_house : MethodName := ⟨lwN, "house", "(LRingDater;II[J)I"⟩
set_option maxRecDepth 100000 in
theorem ww_house : LWw 92 yw_house method_6_code 5 [(0, 10, 13, 18)] 4 := ⟨⟨gW_at (i := 1252) rfl rfl, gW_at (i := 1253) rfl rfl⟩, ⟨gW_at (i := 102) rfl rfl, gW_at (i := 1254) rfl rfl⟩, ⟨by decide, by decide, rfl⟩, by decide⟩
set_option maxRecDepth 100000 in
theorem lwd_24 : LWd 24 m_RingDater_house := ⟨⟨gW_at (i := 1255) rfl rfl, gW_at (i := 1256) rfl rfl⟩, ⟨gW_at (i := 1257) rfl rfl, gW_at (i := 103) rfl rfl⟩, rfl, by decide⟩
theorem dw_house_0 : decode method_6_code 0 = .ok (.aload_n 3, 1) := by decide +kernel
theorem dw_house_1 : decode method_6_code 1 = .ok (.iconst 0, 1) := by decide +kernel
theorem dw_house_2 : decode method_6_code 2 = .ok (.aload_n 0, 1) := by decide +kernel
theorem dw_house_3 : decode method_6_code 3 = .ok (.iload_n 1, 1) := by decide +kernel
theorem dw_house_4 : decode method_6_code 4 = .ok (.iload_n 2, 1) := by decide +kernel
theorem dw_house_13 : decode method_6_code 13 = .ok (.astore 4, 2) := by decide +kernel
theorem dw_house_15 : decode method_6_code 15 = .ok (.iconst 1, 1) := by decide +kernel
theorem dw_house_16 : decode method_6_code 16 = .ok (.ireturn, 1) := by decide +kernel
theorem dw_house_5 : decode method_6_code 5 = .ok (.invokevirtual 24, 3) := by decide +kernel
theorem dw_house_8 : decode method_6_code 8 = .ok (.i2l, 1) := by decide +kernel
theorem dw_house_9 : decode method_6_code 9 = .ok (.lastore, 1) := by decide +kernel
theorem dw_house_10 : decode method_6_code 10 = .ok (.goto 7, 3) := by decide +kernel
theorem dw_house_17 : decode method_6_code 17 = .ok (.iconst 0, 1) := by decide +kernel
theorem dw_house_18 : decode method_6_code 18 = .ok (.ireturn, 1) := by decide +kernel
set_option maxHeartbeats 4000000 in
set_option maxRecDepth 100000 in
theorem wr_house {p0 p1 : Int} {k : Nat} {M : Mm} (h : SimW [(0, 1)] m_RingDater_house m_Model_house [.inl p0, .inl p1] k M) : WrC yw_house method_6_code 5 [(0, 10, 13, 18)] [.inl p0, .inl p1] M (WQ m_Model_house [.inl p0, .inl p1] k) := by
  refine wr_of (by decide) rfl (fun adr o => by simp [lg_sl, cvA, Value.category]) ?_
  intro p l e s m args below meth c D tA n0 o bs adr adV f ls hfl hL X hs hh htab hret hlk hl
  have hl : lv_has ls 5 [(0, .ref (adr 0)), (1, .int (iN p0)), (2, .int (iN p1)), (3, .ref o)] := hl
  refine lv_aload_n (i := 3) (x := o) X.1 X.2.1 dw_house_0 rfl (lv_at hl 3 rfl) ?_
  refine lv_iconst (v := 0) X.1 X.2.1 dw_house_1 (by decide) ?_
  refine lv_aload_n (i := 0) (x := adr 0) X.1 X.2.1 dw_house_2 rfl (lv_at hl 0 rfl) ?_
  refine lv_iload_n (i := 1) (x := iN p0) X.1 X.2.1 dw_house_3 rfl (lv_at hl 1 rfl) ?_
  refine lv_iload_n (i := 2) (x := iN p1) X.1 X.2.1 dw_house_4 rfl (lv_at hl 2 rfl) ?_
  refine wr_mid (E := 17) h (fun z hz => ?_) X lwd_24 hL hs hh va_S.rf hl.1 (show (11 : Nat) = 11 from rfl) rfl (by decide +kernel) (by decide +kernel) (Nat.le_of_ble_eq_true rfl) hfl hret hlk rfl dw_house_5 dw_house_8 dw_house_9 dw_house_10 (by decide) dw_house_17 dw_house_18 (fun z hz H1 locs1 q9 ce h1 h2 h3 K => ?_)
  · simp only [List.mem_cons, List.not_mem_nil, or_false] at hz
    rcases hz with rfl <;> exact ⟨by decide, by decide, by decide⟩
  · simp only [List.mem_cons, List.not_mem_nil, or_false] at hz
    rcases hz with rfl
    · refine vx_catch (own := lwN) (name := excN 0) (E := excN 0) X.2.2.2.1 [] ⟨0, 10, 13, 18⟩ [] htab (fun z hz => by cases hz) (by decide) (by decide) (X.2.2.2.2 _ lk_18) (hs.2.2.2.1.at _ _ ex_c0) h1 h2 h3 ?_
      refine lv_astore X.1 X.2.1 dw_house_13 hl (by decide) rfl (fun ls2 hl2 => ?_)
      refine lv_iconst (v := iN 1) X.1 X.2.1 dw_house_15 (by decide) ?_
      exact K _ _ dw_house_16
def yw_ring : MethodName := ⟨lwN, "ring", "(LRingDater;III[J)I"⟩
set_option maxRecDepth 100000 in
theorem ww_ring : LWw 95 yw_ring method_7_code 6 [(0, 12, 15, 18)] 5 := ⟨⟨gW_at (i := 1284) rfl rfl, gW_at (i := 1285) rfl rfl⟩, ⟨gW_at (i := 102) rfl rfl, gW_at (i := 1286) rfl rfl⟩, ⟨by decide, by decide, rfl⟩, by decide⟩
set_option maxRecDepth 100000 in
theorem lwd_27 : LWd 27 m_RingDater_ring := ⟨⟨gW_at (i := 1287) rfl rfl, gW_at (i := 1288) rfl rfl⟩, ⟨gW_at (i := 1289) rfl rfl, gW_at (i := 103) rfl rfl⟩, rfl, by decide⟩
theorem dw_ring_0 : decode method_7_code 0 = .ok (.aload 4, 2) := by decide +kernel
theorem dw_ring_2 : decode method_7_code 2 = .ok (.iconst 0, 1) := by decide +kernel
theorem dw_ring_3 : decode method_7_code 3 = .ok (.aload_n 0, 1) := by decide +kernel
theorem dw_ring_4 : decode method_7_code 4 = .ok (.iload_n 1, 1) := by decide +kernel
theorem dw_ring_5 : decode method_7_code 5 = .ok (.iload_n 2, 1) := by decide +kernel
theorem dw_ring_6 : decode method_7_code 6 = .ok (.iload_n 3, 1) := by decide +kernel
theorem dw_ring_15 : decode method_7_code 15 = .ok (.astore 5, 2) := by decide +kernel
theorem dw_ring_17 : decode method_7_code 17 = .ok (.iconst 1, 1) := by decide +kernel
theorem dw_ring_18 : decode method_7_code 18 = .ok (.ireturn, 1) := by decide +kernel
theorem dw_ring_7 : decode method_7_code 7 = .ok (.invokevirtual 27, 3) := by decide +kernel
theorem dw_ring_10 : decode method_7_code 10 = .ok (.i2l, 1) := by decide +kernel
theorem dw_ring_11 : decode method_7_code 11 = .ok (.lastore, 1) := by decide +kernel
theorem dw_ring_12 : decode method_7_code 12 = .ok (.goto 7, 3) := by decide +kernel
theorem dw_ring_19 : decode method_7_code 19 = .ok (.iconst 0, 1) := by decide +kernel
theorem dw_ring_20 : decode method_7_code 20 = .ok (.ireturn, 1) := by decide +kernel
set_option maxHeartbeats 4000000 in
set_option maxRecDepth 100000 in
theorem wr_ring {p0 p1 p2 : Int} {k : Nat} {M : Mm} (h : SimW [(0, 1)] m_RingDater_ring m_Model_ring [.inl p0, .inl p1, .inl p2] k M) : WrC yw_ring method_7_code 6 [(0, 12, 15, 18)] [.inl p0, .inl p1, .inl p2] M (WQ m_Model_ring [.inl p0, .inl p1, .inl p2] k) := by
  refine wr_of (by decide) rfl (fun adr o => by simp [lg_sl, cvA, Value.category]) ?_
  intro p l e s m args below meth c D tA n0 o bs adr adV f ls hfl hL X hs hh htab hret hlk hl
  have hl : lv_has ls 6 [(0, .ref (adr 0)), (1, .int (iN p0)), (2, .int (iN p1)), (3, .int (iN p2)), (4, .ref o)] := hl
  refine lv_aload (x := o) X.1 X.2.1 dw_ring_0 (lv_at hl 4 rfl) ?_
  refine lv_iconst (v := 0) X.1 X.2.1 dw_ring_2 (by decide) ?_
  refine lv_aload_n (i := 0) (x := adr 0) X.1 X.2.1 dw_ring_3 rfl (lv_at hl 0 rfl) ?_
  refine lv_iload_n (i := 1) (x := iN p0) X.1 X.2.1 dw_ring_4 rfl (lv_at hl 1 rfl) ?_
  refine lv_iload_n (i := 2) (x := iN p1) X.1 X.2.1 dw_ring_5 rfl (lv_at hl 2 rfl) ?_
  refine lv_iload_n (i := 3) (x := iN p2) X.1 X.2.1 dw_ring_6 rfl (lv_at hl 3 rfl) ?_
  refine wr_mid (E := 19) h (fun z hz => ?_) X lwd_27 hL hs hh va_S.rf hl.1 (show (11 : Nat) = 11 from rfl) rfl (by decide +kernel) (by decide +kernel) (Nat.le_of_ble_eq_true rfl) hfl hret hlk rfl dw_ring_7 dw_ring_10 dw_ring_11 dw_ring_12 (by decide) dw_ring_19 dw_ring_20 (fun z hz H1 locs1 q9 ce h1 h2 h3 K => ?_)
  · simp only [List.mem_cons, List.not_mem_nil, or_false] at hz
    rcases hz with rfl <;> exact ⟨by decide, by decide, by decide⟩
  · simp only [List.mem_cons, List.not_mem_nil, or_false] at hz
    rcases hz with rfl
    · refine vx_catch (own := lwN) (name := excN 0) (E := excN 0) X.2.2.2.1 [] ⟨0, 12, 15, 18⟩ [] htab (fun z hz => by cases hz) (by decide) (by decide) (X.2.2.2.2 _ lk_18) (hs.2.2.2.1.at _ _ ex_c0) h1 h2 h3 ?_
      refine lv_astore X.1 X.2.1 dw_ring_15 hl (by decide) rfl (fun ls2 hl2 => ?_)
      refine lv_iconst (v := iN 1) X.1 X.2.1 dw_ring_17 (by decide) ?_
      exact K _ _ dw_ring_18
def yw_pointer : MethodName := ⟨lwN, "pointer", "(LRingDater;II[J)I"⟩
set_option maxRecDepth 100000 in
theorem ww_pointer : LWw 107 yw_pointer method_8_code 5 [(0, 10, 13, 18)] 4 := ⟨⟨gW_at (i := 1297) rfl rfl, gW_at (i := 1298) rfl rfl⟩, ⟨gW_at (i := 102) rfl rfl, gW_at (i := 1299) rfl rfl⟩, ⟨by decide, by decide, rfl⟩, by decide⟩
set_option maxRecDepth 100000 in
theorem lwd_31 : LWd 31 m_RingDater_pointer := ⟨⟨gW_at (i := 1300) rfl rfl, gW_at (i := 1301) rfl rfl⟩, ⟨gW_at (i := 1302) rfl rfl, gW_at (i := 103) rfl rfl⟩, rfl, by decide⟩
theorem dw_pointer_0 : decode method_8_code 0 = .ok (.aload_n 3, 1) := by decide +kernel
theorem dw_pointer_1 : decode method_8_code 1 = .ok (.iconst 0, 1) := by decide +kernel
theorem dw_pointer_2 : decode method_8_code 2 = .ok (.aload_n 0, 1) := by decide +kernel
theorem dw_pointer_3 : decode method_8_code 3 = .ok (.iload_n 1, 1) := by decide +kernel
theorem dw_pointer_4 : decode method_8_code 4 = .ok (.iload_n 2, 1) := by decide +kernel
theorem dw_pointer_13 : decode method_8_code 13 = .ok (.astore 4, 2) := by decide +kernel
theorem dw_pointer_15 : decode method_8_code 15 = .ok (.iconst 1, 1) := by decide +kernel
theorem dw_pointer_16 : decode method_8_code 16 = .ok (.ireturn, 1) := by decide +kernel
theorem dw_pointer_5 : decode method_8_code 5 = .ok (.invokevirtual 31, 3) := by decide +kernel
theorem dw_pointer_8 : decode method_8_code 8 = .ok (.i2l, 1) := by decide +kernel
theorem dw_pointer_9 : decode method_8_code 9 = .ok (.lastore, 1) := by decide +kernel
theorem dw_pointer_10 : decode method_8_code 10 = .ok (.goto 7, 3) := by decide +kernel
theorem dw_pointer_17 : decode method_8_code 17 = .ok (.iconst 0, 1) := by decide +kernel
theorem dw_pointer_18 : decode method_8_code 18 = .ok (.ireturn, 1) := by decide +kernel
set_option maxHeartbeats 4000000 in
set_option maxRecDepth 100000 in
theorem wr_pointer {p0 p1 : Int} {k : Nat} {M : Mm} (h : SimW [(0, 1)] m_RingDater_pointer m_Model_pointer [.inl p0, .inl p1] k M) : WrC yw_pointer method_8_code 5 [(0, 10, 13, 18)] [.inl p0, .inl p1] M (WQ m_Model_pointer [.inl p0, .inl p1] k) := by
  refine wr_of (by decide) rfl (fun adr o => by simp [lg_sl, cvA, Value.category]) ?_
  intro p l e s m args below meth c D tA n0 o bs adr adV f ls hfl hL X hs hh htab hret hlk hl
  have hl : lv_has ls 5 [(0, .ref (adr 0)), (1, .int (iN p0)), (2, .int (iN p1)), (3, .ref o)] := hl
  refine lv_aload_n (i := 3) (x := o) X.1 X.2.1 dw_pointer_0 rfl (lv_at hl 3 rfl) ?_
  refine lv_iconst (v := 0) X.1 X.2.1 dw_pointer_1 (by decide) ?_
  refine lv_aload_n (i := 0) (x := adr 0) X.1 X.2.1 dw_pointer_2 rfl (lv_at hl 0 rfl) ?_
  refine lv_iload_n (i := 1) (x := iN p0) X.1 X.2.1 dw_pointer_3 rfl (lv_at hl 1 rfl) ?_
  refine lv_iload_n (i := 2) (x := iN p1) X.1 X.2.1 dw_pointer_4 rfl (lv_at hl 2 rfl) ?_
  refine wr_mid (E := 17) h (fun z hz => ?_) X lwd_31 hL hs hh va_S.rf hl.1 (show (11 : Nat) = 11 from rfl) rfl (by decide +kernel) (by decide +kernel) (Nat.le_of_ble_eq_true rfl) hfl hret hlk rfl dw_pointer_5 dw_pointer_8 dw_pointer_9 dw_pointer_10 (by decide) dw_pointer_17 dw_pointer_18 (fun z hz H1 locs1 q9 ce h1 h2 h3 K => ?_)
  · simp only [List.mem_cons, List.not_mem_nil, or_false] at hz
    rcases hz with rfl <;> exact ⟨by decide, by decide, by decide⟩
  · simp only [List.mem_cons, List.not_mem_nil, or_false] at hz
    rcases hz with rfl
    · refine vx_catch (own := lwN) (name := excN 0) (E := excN 0) X.2.2.2.1 [] ⟨0, 10, 13, 18⟩ [] htab (fun z hz => by cases hz) (by decide) (by decide) (X.2.2.2.2 _ lk_18) (hs.2.2.2.1.at _ _ ex_c0) h1 h2 h3 ?_
      refine lv_astore X.1 X.2.1 dw_pointer_13 hl (by decide) rfl (fun ls2 hl2 => ?_)
      refine lv_iconst (v := iN 1) X.1 X.2.1 dw_pointer_15 (by decide) ?_
      exact K _ _ dw_pointer_16
def yw_slid : MethodName := ⟨lwN, "slid", "(LRingDater;IIII[J)I"⟩
set_option maxRecDepth 100000 in
theorem ww_slid : LWw 110 yw_slid method_9_code 7 [(0, 14, 17, 18), (0, 14, 21, 13)] 6 := ⟨⟨gW_at (i := 1308) rfl rfl, gW_at (i := 1309) rfl rfl⟩, ⟨gW_at (i := 102) rfl rfl, gW_at (i := 1310) rfl rfl⟩, ⟨by decide, by decide, rfl⟩, by decide⟩
set_option maxRecDepth 100000 in
theorem lwd_34 : LWd 34 m_RingDater_slid := ⟨⟨gW_at (i := 1311) rfl rfl, gW_at (i := 1312) rfl rfl⟩, ⟨gW_at (i := 1313) rfl rfl, gW_at (i := 103) rfl rfl⟩, rfl, by decide⟩
theorem dw_slid_0 : decode method_9_code 0 = .ok (.aload 5, 2) := by decide +kernel
theorem dw_slid_2 : decode method_9_code 2 = .ok (.iconst 0, 1) := by decide +kernel
theorem dw_slid_3 : decode method_9_code 3 = .ok (.aload_n 0, 1) := by decide +kernel
theorem dw_slid_4 : decode method_9_code 4 = .ok (.iload_n 1, 1) := by decide +kernel
theorem dw_slid_5 : decode method_9_code 5 = .ok (.iload_n 2, 1) := by decide +kernel
theorem dw_slid_6 : decode method_9_code 6 = .ok (.iload_n 3, 1) := by decide +kernel
theorem dw_slid_7 : decode method_9_code 7 = .ok (.iload 4, 2) := by decide +kernel
theorem dw_slid_17 : decode method_9_code 17 = .ok (.astore 6, 2) := by decide +kernel
theorem dw_slid_19 : decode method_9_code 19 = .ok (.iconst 1, 1) := by decide +kernel
theorem dw_slid_20 : decode method_9_code 20 = .ok (.ireturn, 1) := by decide +kernel
theorem dw_slid_21 : decode method_9_code 21 = .ok (.astore 6, 2) := by decide +kernel
theorem dw_slid_23 : decode method_9_code 23 = .ok (.iconst 2, 1) := by decide +kernel
theorem dw_slid_24 : decode method_9_code 24 = .ok (.ireturn, 1) := by decide +kernel
theorem dw_slid_9 : decode method_9_code 9 = .ok (.invokevirtual 34, 3) := by decide +kernel
theorem dw_slid_12 : decode method_9_code 12 = .ok (.i2l, 1) := by decide +kernel
theorem dw_slid_13 : decode method_9_code 13 = .ok (.lastore, 1) := by decide +kernel
theorem dw_slid_14 : decode method_9_code 14 = .ok (.goto 11, 3) := by decide +kernel
theorem dw_slid_25 : decode method_9_code 25 = .ok (.iconst 0, 1) := by decide +kernel
theorem dw_slid_26 : decode method_9_code 26 = .ok (.ireturn, 1) := by decide +kernel
set_option maxHeartbeats 4000000 in
set_option maxRecDepth 100000 in
theorem wr_slid {p0 p1 p2 p3 : Int} {k : Nat} {M : Mm} (h : SimW [(0, 1), (1, 2)] m_RingDater_slid m_Model_slid [.inl p0, .inl p1, .inl p2, .inl p3] k M) : WrC yw_slid method_9_code 7 [(0, 14, 17, 18), (0, 14, 21, 13)] [.inl p0, .inl p1, .inl p2, .inl p3] M (WQ m_Model_slid [.inl p0, .inl p1, .inl p2, .inl p3] k) := by
  refine wr_of (by decide) rfl (fun adr o => by simp [lg_sl, cvA, Value.category]) ?_
  intro p l e s m args below meth c D tA n0 o bs adr adV f ls hfl hL X hs hh htab hret hlk hl
  have hl : lv_has ls 7 [(0, .ref (adr 0)), (1, .int (iN p0)), (2, .int (iN p1)), (3, .int (iN p2)), (4, .int (iN p3)), (5, .ref o)] := hl
  refine lv_aload (x := o) X.1 X.2.1 dw_slid_0 (lv_at hl 5 rfl) ?_
  refine lv_iconst (v := 0) X.1 X.2.1 dw_slid_2 (by decide) ?_
  refine lv_aload_n (i := 0) (x := adr 0) X.1 X.2.1 dw_slid_3 rfl (lv_at hl 0 rfl) ?_
  refine lv_iload_n (i := 1) (x := iN p0) X.1 X.2.1 dw_slid_4 rfl (lv_at hl 1 rfl) ?_
  refine lv_iload_n (i := 2) (x := iN p1) X.1 X.2.1 dw_slid_5 rfl (lv_at hl 2 rfl) ?_
  refine lv_iload_n (i := 3) (x := iN p2) X.1 X.2.1 dw_slid_6 rfl (lv_at hl 3 rfl) ?_
  refine lv_iload (x := iN p3) X.1 X.2.1 dw_slid_7 (lv_at hl 4 rfl) ?_
  refine wr_mid (E := 25) h (fun z hz => ?_) X lwd_34 hL hs hh va_S.rf hl.1 (show (11 : Nat) = 11 from rfl) rfl (by decide +kernel) (by decide +kernel) (Nat.le_of_ble_eq_true rfl) hfl hret hlk rfl dw_slid_9 dw_slid_12 dw_slid_13 dw_slid_14 (by decide) dw_slid_25 dw_slid_26 (fun z hz H1 locs1 q9 ce h1 h2 h3 K => ?_)
  · simp only [List.mem_cons, List.not_mem_nil, or_false] at hz
    rcases hz with rfl | rfl <;> exact ⟨by decide, by decide, by decide⟩
  · simp only [List.mem_cons, List.not_mem_nil, or_false] at hz
    rcases hz with rfl | rfl
    · refine vx_catch (own := lwN) (name := excN 0) (E := excN 0) X.2.2.2.1 [] ⟨0, 14, 17, 18⟩ [⟨0, 14, 21, 13⟩] htab (fun z hz => by cases hz) (by decide) (by decide) (X.2.2.2.2 _ lk_18) (hs.2.2.2.1.at _ _ ex_c0) h1 h2 h3 ?_
      refine lv_astore X.1 X.2.1 dw_slid_17 hl (by decide) rfl (fun ls2 hl2 => ?_)
      refine lv_iconst (v := iN 1) X.1 X.2.1 dw_slid_19 (by decide) ?_
      exact K _ _ dw_slid_20
    · refine vx_catch (own := lwN) (name := excN 1) (E := excN 1) X.2.2.2.1 [⟨0, 14, 17, 18⟩] ⟨0, 14, 21, 13⟩ [] htab (fun z hz => by
        obtain rfl := List.mem_singleton.mp hz
        exact .inr ⟨by decide, excN 0, X.2.2.2.2 _ lk_18, hs.2.2.2.2.1⟩) (by decide) (by decide) (X.2.2.2.2 _ lk_13) (hs.2.2.2.1.at _ _ ex_c1) h1 h2 h3 ?_
      refine lv_astore X.1 X.2.1 dw_slid_21 hl (by decide) rfl (fun ls2 hl2 => ?_)
      refine lv_iconst (v := iN 2) X.1 X.2.1 dw_slid_23 (by decide) ?_
      exact K _ _ dw_slid_24
def yw_best : MethodName := ⟨lwN, "best", "(LRingDater;III[J)I"⟩
set_option maxRecDepth 100000 in
theorem ww_best : LWw 114 yw_best method_10_code 6 [(0, 12, 15, 18), (0, 12, 19, 13)] 5 := ⟨⟨gW_at (i := 1319) rfl rfl, gW_at (i := 1320) rfl rfl⟩, ⟨gW_at (i := 102) rfl rfl, gW_at (i := 1321) rfl rfl⟩, ⟨by decide, by decide, rfl⟩, by decide⟩
set_option maxRecDepth 100000 in
theorem lwd_38 : LWd 38 m_RingDater_best := ⟨⟨gW_at (i := 1322) rfl rfl, gW_at (i := 1323) rfl rfl⟩, ⟨gW_at (i := 1324) rfl rfl, gW_at (i := 103) rfl rfl⟩, rfl, by decide⟩
theorem dw_best_0 : decode method_10_code 0 = .ok (.aload 4, 2) := by decide +kernel
theorem dw_best_2 : decode method_10_code 2 = .ok (.iconst 0, 1) := by decide +kernel
theorem dw_best_3 : decode method_10_code 3 = .ok (.aload_n 0, 1) := by decide +kernel
theorem dw_best_4 : decode method_10_code 4 = .ok (.iload_n 1, 1) := by decide +kernel
theorem dw_best_5 : decode method_10_code 5 = .ok (.iload_n 2, 1) := by decide +kernel
theorem dw_best_6 : decode method_10_code 6 = .ok (.iload_n 3, 1) := by decide +kernel
theorem dw_best_15 : decode method_10_code 15 = .ok (.astore 5, 2) := by decide +kernel
theorem dw_best_17 : decode method_10_code 17 = .ok (.iconst 1, 1) := by decide +kernel
theorem dw_best_18 : decode method_10_code 18 = .ok (.ireturn, 1) := by decide +kernel
theorem dw_best_19 : decode method_10_code 19 = .ok (.astore 5, 2) := by decide +kernel
theorem dw_best_21 : decode method_10_code 21 = .ok (.iconst 2, 1) := by decide +kernel
theorem dw_best_22 : decode method_10_code 22 = .ok (.ireturn, 1) := by decide +kernel
theorem dw_best_7 : decode method_10_code 7 = .ok (.invokevirtual 38, 3) := by decide +kernel
theorem dw_best_10 : decode method_10_code 10 = .ok (.i2l, 1) := by decide +kernel
theorem dw_best_11 : decode method_10_code 11 = .ok (.lastore, 1) := by decide +kernel
theorem dw_best_12 : decode method_10_code 12 = .ok (.goto 11, 3) := by decide +kernel
theorem dw_best_23 : decode method_10_code 23 = .ok (.iconst 0, 1) := by decide +kernel
theorem dw_best_24 : decode method_10_code 24 = .ok (.ireturn, 1) := by decide +kernel
set_option maxHeartbeats 4000000 in
set_option maxRecDepth 100000 in
theorem wr_best {p0 p1 p2 : Int} {k : Nat} {M : Mm} (h : SimW [(0, 1), (1, 2)] m_RingDater_best m_Model_best [.inl p0, .inl p1, .inl p2] k M) : WrC yw_best method_10_code 6 [(0, 12, 15, 18), (0, 12, 19, 13)] [.inl p0, .inl p1, .inl p2] M (WQ m_Model_best [.inl p0, .inl p1, .inl p2] k) := by
  refine wr_of (by decide) rfl (fun adr o => by simp [lg_sl, cvA, Value.category]) ?_
  intro p l e s m args below meth c D tA n0 o bs adr adV f ls hfl hL X hs hh htab hret hlk hl
  have hl : lv_has ls 6 [(0, .ref (adr 0)), (1, .int (iN p0)), (2, .int (iN p1)), (3, .int (iN p2)), (4, .ref o)] := hl
  refine lv_aload (x := o) X.1 X.2.1 dw_best_0 (lv_at hl 4 rfl) ?_
  refine lv_iconst (v := 0) X.1 X.2.1 dw_best_2 (by decide) ?_
  refine lv_aload_n (i := 0) (x := adr 0) X.1 X.2.1 dw_best_3 rfl (lv_at hl 0 rfl) ?_
  refine lv_iload_n (i := 1) (x := iN p0) X.1 X.2.1 dw_best_4 rfl (lv_at hl 1 rfl) ?_
  refine lv_iload_n (i := 2) (x := iN p1) X.1 X.2.1 dw_best_5 rfl (lv_at hl 2 rfl) ?_
  refine lv_iload_n (i := 3) (x := iN p2) X.1 X.2.1 dw_best_6 rfl (lv_at hl 3 rfl) ?_
  refine wr_mid (E := 23) h (fun z hz => ?_) X lwd_38 hL hs hh va_S.rf hl.1 (show (11 : Nat) = 11 from rfl) rfl (by decide +kernel) (by decide +kernel) (Nat.le_of_ble_eq_true rfl) hfl hret hlk rfl dw_best_7 dw_best_10 dw_best_11 dw_best_12 (by decide) dw_best_23 dw_best_24 (fun z hz H1 locs1 q9 ce h1 h2 h3 K => ?_)
  · simp only [List.mem_cons, List.not_mem_nil, or_false] at hz
    rcases hz with rfl | rfl <;> exact ⟨by decide, by decide, by decide⟩
  · simp only [List.mem_cons, List.not_mem_nil, or_false] at hz
    rcases hz with rfl | rfl
    · refine vx_catch (own := lwN) (name := excN 0) (E := excN 0) X.2.2.2.1 [] ⟨0, 12, 15, 18⟩ [⟨0, 12, 19, 13⟩] htab (fun z hz => by cases hz) (by decide) (by decide) (X.2.2.2.2 _ lk_18) (hs.2.2.2.1.at _ _ ex_c0) h1 h2 h3 ?_
      refine lv_astore X.1 X.2.1 dw_best_15 hl (by decide) rfl (fun ls2 hl2 => ?_)
      refine lv_iconst (v := iN 1) X.1 X.2.1 dw_best_17 (by decide) ?_
      exact K _ _ dw_best_18
    · refine vx_catch (own := lwN) (name := excN 1) (E := excN 1) X.2.2.2.1 [⟨0, 12, 15, 18⟩] ⟨0, 12, 19, 13⟩ [] htab (fun z hz => by
        obtain rfl := List.mem_singleton.mp hz
        exact .inr ⟨by decide, excN 0, X.2.2.2.2 _ lk_18, hs.2.2.2.2.1⟩) (by decide) (by decide) (X.2.2.2.2 _ lk_13) (hs.2.2.2.1.at _ _ ex_c1) h1 h2 h3 ?_
      refine lv_astore X.1 X.2.1 dw_best_19 hl (by decide) rfl (fun ls2 hl2 => ?_)
      refine lv_iconst (v := iN 2) X.1 X.2.1 dw_best_21 (by decide) ?_
      exact K _ _ dw_best_22
def yw_link : MethodName := ⟨lwN, "link", "(LRingDater;II[J)I"⟩
set_option maxRecDepth 100000 in
theorem ww_link : LWw 117 yw_link method_11_code 5 [(0, 10, 13, 18)] 4 := ⟨⟨gW_at (i := 1327) rfl rfl, gW_at (i := 1328) rfl rfl⟩, ⟨gW_at (i := 102) rfl rfl, gW_at (i := 1329) rfl rfl⟩, ⟨by decide, by decide, rfl⟩, by decide⟩
set_option maxRecDepth 100000 in
theorem lwd_41 : LWd 41 m_RingDater_link := ⟨⟨gW_at (i := 1330) rfl rfl, gW_at (i := 1331) rfl rfl⟩, ⟨gW_at (i := 1332) rfl rfl, gW_at (i := 103) rfl rfl⟩, rfl, by decide⟩
theorem dw_link_0 : decode method_11_code 0 = .ok (.aload_n 3, 1) := by decide +kernel
theorem dw_link_1 : decode method_11_code 1 = .ok (.iconst 0, 1) := by decide +kernel
theorem dw_link_2 : decode method_11_code 2 = .ok (.aload_n 0, 1) := by decide +kernel
theorem dw_link_3 : decode method_11_code 3 = .ok (.iload_n 1, 1) := by decide +kernel
theorem dw_link_4 : decode method_11_code 4 = .ok (.iload_n 2, 1) := by decide +kernel
theorem dw_link_13 : decode method_11_code 13 = .ok (.astore 4, 2) := by decide +kernel
theorem dw_link_15 : decode method_11_code 15 = .ok (.iconst 1, 1) := by decide +kernel
theorem dw_link_16 : decode method_11_code 16 = .ok (.ireturn, 1) := by decide +kernel
theorem dw_link_5 : decode method_11_code 5 = .ok (.invokevirtual 41, 3) := by decide +kernel
theorem dw_link_8 : decode method_11_code 8 = .ok (.i2l, 1) := by decide +kernel
theorem dw_link_9 : decode method_11_code 9 = .ok (.lastore, 1) := by decide +kernel
theorem dw_link_10 : decode method_11_code 10 = .ok (.goto 7, 3) := by decide +kernel
theorem dw_link_17 : decode method_11_code 17 = .ok (.iconst 0, 1) := by decide +kernel
theorem dw_link_18 : decode method_11_code 18 = .ok (.ireturn, 1) := by decide +kernel
set_option maxHeartbeats 4000000 in
set_option maxRecDepth 100000 in
theorem wr_link {p0 p1 : Int} {k : Nat} {M : Mm} (h : SimW [(0, 1)] m_RingDater_link m_Model_link [.inl p0, .inl p1] k M) : WrC yw_link method_11_code 5 [(0, 10, 13, 18)] [.inl p0, .inl p1] M (WQ m_Model_link [.inl p0, .inl p1] k) := by
  refine wr_of (by decide) rfl (fun adr o => by simp [lg_sl, cvA, Value.category]) ?_
  intro p l e s m args below meth c D tA n0 o bs adr adV f ls hfl hL X hs hh htab hret hlk hl
  have hl : lv_has ls 5 [(0, .ref (adr 0)), (1, .int (iN p0)), (2, .int (iN p1)), (3, .ref o)] := hl
  refine lv_aload_n (i := 3) (x := o) X.1 X.2.1 dw_link_0 rfl (lv_at hl 3 rfl) ?_
  refine lv_iconst (v := 0) X.1 X.2.1 dw_link_1 (by decide) ?_
  refine lv_aload_n (i := 0) (x := adr 0) X.1 X.2.1 dw_link_2 rfl (lv_at hl 0 rfl) ?_
  refine lv_iload_n (i := 1) (x := iN p0) X.1 X.2.1 dw_link_3 rfl (lv_at hl 1 rfl) ?_
  refine lv_iload_n (i := 2) (x := iN p1) X.1 X.2.1 dw_link_4 rfl (lv_at hl 2 rfl) ?_
  refine wr_mid (E := 17) h (fun z hz => ?_) X lwd_41 hL hs hh va_S.rf hl.1 (show (11 : Nat) = 11 from rfl) rfl (by decide +kernel) (by decide +kernel) (Nat.le_of_ble_eq_true rfl) hfl hret hlk rfl dw_link_5 dw_link_8 dw_link_9 dw_link_10 (by decide) dw_link_17 dw_link_18 (fun z hz H1 locs1 q9 ce h1 h2 h3 K => ?_)
  · simp only [List.mem_cons, List.not_mem_nil, or_false] at hz
    rcases hz with rfl <;> exact ⟨by decide, by decide, by decide⟩
  · simp only [List.mem_cons, List.not_mem_nil, or_false] at hz
    rcases hz with rfl
    · refine vx_catch (own := lwN) (name := excN 0) (E := excN 0) X.2.2.2.1 [] ⟨0, 10, 13, 18⟩ [] htab (fun z hz => by cases hz) (by decide) (by decide) (X.2.2.2.2 _ lk_18) (hs.2.2.2.1.at _ _ ex_c0) h1 h2 h3 ?_
      refine lv_astore X.1 X.2.1 dw_link_13 hl (by decide) rfl (fun ls2 hl2 => ?_)
      refine lv_iconst (v := iN 1) X.1 X.2.1 dw_link_15 (by decide) ?_
      exact K _ _ dw_link_16
def yw_grown : MethodName := ⟨lwN, "grown", "(LRingDater;II[J)I"⟩
set_option maxRecDepth 100000 in
theorem ww_grown : LWw 120 yw_grown method_12_code 5 [(0, 10, 13, 18)] 4 := ⟨⟨gW_at (i := 1338) rfl rfl, gW_at (i := 1339) rfl rfl⟩, ⟨gW_at (i := 102) rfl rfl, gW_at (i := 1340) rfl rfl⟩, ⟨by decide, by decide, rfl⟩, by decide⟩
set_option maxRecDepth 100000 in
theorem lwd_44 : LWd 44 m_RingDater_grown := ⟨⟨gW_at (i := 1341) rfl rfl, gW_at (i := 1342) rfl rfl⟩, ⟨gW_at (i := 1343) rfl rfl, gW_at (i := 103) rfl rfl⟩, rfl, by decide⟩
theorem dw_grown_0 : decode method_12_code 0 = .ok (.aload_n 3, 1) := by decide +kernel
theorem dw_grown_1 : decode method_12_code 1 = .ok (.iconst 0, 1) := by decide +kernel
theorem dw_grown_2 : decode method_12_code 2 = .ok (.aload_n 0, 1) := by decide +kernel
theorem dw_grown_3 : decode method_12_code 3 = .ok (.iload_n 1, 1) := by decide +kernel
theorem dw_grown_4 : decode method_12_code 4 = .ok (.iload_n 2, 1) := by decide +kernel
theorem dw_grown_13 : decode method_12_code 13 = .ok (.astore 4, 2) := by decide +kernel
theorem dw_grown_15 : decode method_12_code 15 = .ok (.iconst 1, 1) := by decide +kernel
theorem dw_grown_16 : decode method_12_code 16 = .ok (.ireturn, 1) := by decide +kernel
theorem dw_grown_5 : decode method_12_code 5 = .ok (.invokevirtual 44, 3) := by decide +kernel
theorem dw_grown_8 : decode method_12_code 8 = .ok (.i2l, 1) := by decide +kernel
theorem dw_grown_9 : decode method_12_code 9 = .ok (.lastore, 1) := by decide +kernel
theorem dw_grown_10 : decode method_12_code 10 = .ok (.goto 7, 3) := by decide +kernel
theorem dw_grown_17 : decode method_12_code 17 = .ok (.iconst 0, 1) := by decide +kernel
theorem dw_grown_18 : decode method_12_code 18 = .ok (.ireturn, 1) := by decide +kernel
set_option maxHeartbeats 4000000 in
set_option maxRecDepth 100000 in
theorem wr_grown {p0 p1 : Int} {k : Nat} {M : Mm} (h : SimW [(0, 1)] m_RingDater_grown m_Model_grown [.inl p0, .inl p1] k M) : WrC yw_grown method_12_code 5 [(0, 10, 13, 18)] [.inl p0, .inl p1] M (WQ m_Model_grown [.inl p0, .inl p1] k) := by
  refine wr_of (by decide) rfl (fun adr o => by simp [lg_sl, cvA, Value.category]) ?_
  intro p l e s m args below meth c D tA n0 o bs adr adV f ls hfl hL X hs hh htab hret hlk hl
  have hl : lv_has ls 5 [(0, .ref (adr 0)), (1, .int (iN p0)), (2, .int (iN p1)), (3, .ref o)] := hl
  refine lv_aload_n (i := 3) (x := o) X.1 X.2.1 dw_grown_0 rfl (lv_at hl 3 rfl) ?_
  refine lv_iconst (v := 0) X.1 X.2.1 dw_grown_1 (by decide) ?_
  refine lv_aload_n (i := 0) (x := adr 0) X.1 X.2.1 dw_grown_2 rfl (lv_at hl 0 rfl) ?_
  refine lv_iload_n (i := 1) (x := iN p0) X.1 X.2.1 dw_grown_3 rfl (lv_at hl 1 rfl) ?_
  refine lv_iload_n (i := 2) (x := iN p1) X.1 X.2.1 dw_grown_4 rfl (lv_at hl 2 rfl) ?_
  refine wr_mid (E := 17) h (fun z hz => ?_) X lwd_44 hL hs hh va_S.rf hl.1 (show (11 : Nat) = 11 from rfl) rfl (by decide +kernel) (by decide +kernel) (Nat.le_of_ble_eq_true rfl) hfl hret hlk rfl dw_grown_5 dw_grown_8 dw_grown_9 dw_grown_10 (by decide) dw_grown_17 dw_grown_18 (fun z hz H1 locs1 q9 ce h1 h2 h3 K => ?_)
  · simp only [List.mem_cons, List.not_mem_nil, or_false] at hz
    rcases hz with rfl <;> exact ⟨by decide, by decide, by decide⟩
  · simp only [List.mem_cons, List.not_mem_nil, or_false] at hz
    rcases hz with rfl
    · refine vx_catch (own := lwN) (name := excN 0) (E := excN 0) X.2.2.2.1 [] ⟨0, 10, 13, 18⟩ [] htab (fun z hz => by cases hz) (by decide) (by decide) (X.2.2.2.2 _ lk_18) (hs.2.2.2.1.at _ _ ex_c0) h1 h2 h3 ?_
      refine lv_astore X.1 X.2.1 dw_grown_13 hl (by decide) rfl (fun ls2 hl2 => ?_)
      refine lv_iconst (v := iN 1) X.1 X.2.1 dw_grown_15 (by decide) ?_
      exact K _ _ dw_grown_16
def yw_help : MethodName := ⟨lwN, "help", "(LRingDater;II[J)I"⟩
set_option maxRecDepth 100000 in
theorem ww_help : LWw 123 yw_help method_13_code 5 [(0, 10, 13, 18), (0, 10, 17, 13)] 4 := ⟨⟨gW_at (i := 1345) rfl rfl, gW_at (i := 1346) rfl rfl⟩, ⟨gW_at (i := 102) rfl rfl, gW_at (i := 1347) rfl rfl⟩, ⟨by decide, by decide, rfl⟩, by decide⟩
set_option maxRecDepth 100000 in
theorem lwd_47 : LWd 47 m_RingDater_help := ⟨⟨gW_at (i := 1348) rfl rfl, gW_at (i := 1349) rfl rfl⟩, ⟨gW_at (i := 1350) rfl rfl, gW_at (i := 103) rfl rfl⟩, rfl, by decide⟩
theorem dw_help_0 : decode method_13_code 0 = .ok (.aload_n 3, 1) := by decide +kernel
theorem dw_help_1 : decode method_13_code 1 = .ok (.iconst 0, 1) := by decide +kernel
theorem dw_help_2 : decode method_13_code 2 = .ok (.aload_n 0, 1) := by decide +kernel
theorem dw_help_3 : decode method_13_code 3 = .ok (.iload_n 1, 1) := by decide +kernel
theorem dw_help_4 : decode method_13_code 4 = .ok (.iload_n 2, 1) := by decide +kernel
theorem dw_help_13 : decode method_13_code 13 = .ok (.astore 4, 2) := by decide +kernel
theorem dw_help_15 : decode method_13_code 15 = .ok (.iconst 1, 1) := by decide +kernel
theorem dw_help_16 : decode method_13_code 16 = .ok (.ireturn, 1) := by decide +kernel
theorem dw_help_17 : decode method_13_code 17 = .ok (.astore 4, 2) := by decide +kernel
theorem dw_help_19 : decode method_13_code 19 = .ok (.iconst 2, 1) := by decide +kernel
theorem dw_help_20 : decode method_13_code 20 = .ok (.ireturn, 1) := by decide +kernel
theorem dw_help_5 : decode method_13_code 5 = .ok (.invokevirtual 47, 3) := by decide +kernel
theorem dw_help_8 : decode method_13_code 8 = .ok (.i2l, 1) := by decide +kernel
theorem dw_help_9 : decode method_13_code 9 = .ok (.lastore, 1) := by decide +kernel
theorem dw_help_10 : decode method_13_code 10 = .ok (.goto 11, 3) := by decide +kernel
theorem dw_help_21 : decode method_13_code 21 = .ok (.iconst 0, 1) := by decide +kernel
theorem dw_help_22 : decode method_13_code 22 = .ok (.ireturn, 1) := by decide +kernel
set_option maxHeartbeats 4000000 in
set_option maxRecDepth 100000 in
theorem wr_help {p0 p1 : Int} {k : Nat} {M : Mm} (h : SimW [(0, 1), (1, 2)] m_RingDater_help m_Model_help [.inl p0, .inl p1] k M) : WrC yw_help method_13_code 5 [(0, 10, 13, 18), (0, 10, 17, 13)] [.inl p0, .inl p1] M (WQ m_Model_help [.inl p0, .inl p1] k) := by
  refine wr_of (by decide) rfl (fun adr o => by simp [lg_sl, cvA, Value.category]) ?_
  intro p l e s m args below meth c D tA n0 o bs adr adV f ls hfl hL X hs hh htab hret hlk hl
  have hl : lv_has ls 5 [(0, .ref (adr 0)), (1, .int (iN p0)), (2, .int (iN p1)), (3, .ref o)] := hl
  refine lv_aload_n (i := 3) (x := o) X.1 X.2.1 dw_help_0 rfl (lv_at hl 3 rfl) ?_
  refine lv_iconst (v := 0) X.1 X.2.1 dw_help_1 (by decide) ?_
  refine lv_aload_n (i := 0) (x := adr 0) X.1 X.2.1 dw_help_2 rfl (lv_at hl 0 rfl) ?_
  refine lv_iload_n (i := 1) (x := iN p0) X.1 X.2.1 dw_help_3 rfl (lv_at hl 1 rfl) ?_
  refine lv_iload_n (i := 2) (x := iN p1) X.1 X.2.1 dw_help_4 rfl (lv_at hl 2 rfl) ?_
  refine wr_mid (E := 21) h (fun z hz => ?_) X lwd_47 hL hs hh va_S.rf hl.1 (show (11 : Nat) = 11 from rfl) rfl (by decide +kernel) (by decide +kernel) (Nat.le_of_ble_eq_true rfl) hfl hret hlk rfl dw_help_5 dw_help_8 dw_help_9 dw_help_10 (by decide) dw_help_21 dw_help_22 (fun z hz H1 locs1 q9 ce h1 h2 h3 K => ?_)
  · simp only [List.mem_cons, List.not_mem_nil, or_false] at hz
    rcases hz with rfl | rfl <;> exact ⟨by decide, by decide, by decide⟩
  · simp only [List.mem_cons, List.not_mem_nil, or_false] at hz
    rcases hz with rfl | rfl
    · refine vx_catch (own := lwN) (name := excN 0) (E := excN 0) X.2.2.2.1 [] ⟨0, 10, 13, 18⟩ [⟨0, 10, 17, 13⟩] htab (fun z hz => by cases hz) (by decide) (by decide) (X.2.2.2.2 _ lk_18) (hs.2.2.2.1.at _ _ ex_c0) h1 h2 h3 ?_
      refine lv_astore X.1 X.2.1 dw_help_13 hl (by decide) rfl (fun ls2 hl2 => ?_)
      refine lv_iconst (v := iN 1) X.1 X.2.1 dw_help_15 (by decide) ?_
      exact K _ _ dw_help_16
    · refine vx_catch (own := lwN) (name := excN 1) (E := excN 1) X.2.2.2.1 [⟨0, 10, 13, 18⟩] ⟨0, 10, 17, 13⟩ [] htab (fun z hz => by
        obtain rfl := List.mem_singleton.mp hz
        exact .inr ⟨by decide, excN 0, X.2.2.2.2 _ lk_18, hs.2.2.2.2.1⟩) (by decide) (by decide) (X.2.2.2.2 _ lk_13) (hs.2.2.2.1.at _ _ ex_c1) h1 h2 h3 ?_
      refine lv_astore X.1 X.2.1 dw_help_17 hl (by decide) rfl (fun ls2 hl2 => ?_)
      refine lv_iconst (v := iN 2) X.1 X.2.1 dw_help_19 (by decide) ?_
      exact K _ _ dw_help_20
def yw_fits : MethodName := ⟨lwN, "fits", "(LRingDater;I[J)I"⟩
set_option maxRecDepth 100000 in
theorem ww_fits : LWw 159 yw_fits method_14_code 4 [(0, 9, 12, 18)] 3 := ⟨⟨gW_at (i := 1365) rfl rfl, gW_at (i := 1366) rfl rfl⟩, ⟨gW_at (i := 102) rfl rfl, gW_at (i := 1367) rfl rfl⟩, ⟨by decide, by decide, rfl⟩, by decide⟩
set_option maxRecDepth 100000 in
theorem lwd_50 : LWd 50 m_RingDater_fits := ⟨⟨gW_at (i := 1368) rfl rfl, gW_at (i := 1369) rfl rfl⟩, ⟨gW_at (i := 1370) rfl rfl, gW_at (i := 103) rfl rfl⟩, rfl, by decide⟩
theorem dw_fits_0 : decode method_14_code 0 = .ok (.aload_n 2, 1) := by decide +kernel
theorem dw_fits_1 : decode method_14_code 1 = .ok (.iconst 0, 1) := by decide +kernel
theorem dw_fits_2 : decode method_14_code 2 = .ok (.aload_n 0, 1) := by decide +kernel
theorem dw_fits_3 : decode method_14_code 3 = .ok (.iload_n 1, 1) := by decide +kernel
theorem dw_fits_12 : decode method_14_code 12 = .ok (.astore_n 3, 1) := by decide +kernel
theorem dw_fits_13 : decode method_14_code 13 = .ok (.iconst 1, 1) := by decide +kernel
theorem dw_fits_14 : decode method_14_code 14 = .ok (.ireturn, 1) := by decide +kernel
theorem dw_fits_4 : decode method_14_code 4 = .ok (.invokevirtual 50, 3) := by decide +kernel
theorem dw_fits_7 : decode method_14_code 7 = .ok (.i2l, 1) := by decide +kernel
theorem dw_fits_8 : decode method_14_code 8 = .ok (.lastore, 1) := by decide +kernel
theorem dw_fits_9 : decode method_14_code 9 = .ok (.goto 6, 3) := by decide +kernel
theorem dw_fits_15 : decode method_14_code 15 = .ok (.iconst 0, 1) := by decide +kernel
theorem dw_fits_16 : decode method_14_code 16 = .ok (.ireturn, 1) := by decide +kernel
set_option maxHeartbeats 4000000 in
set_option maxRecDepth 100000 in
theorem wr_fits {p0 : Int} {k : Nat} {M : Mm} (h : SimW [(0, 1)] m_RingDater_fits m_Model_fits [.inl p0] k M) : WrC yw_fits method_14_code 4 [(0, 9, 12, 18)] [.inl p0] M (WQ m_Model_fits [.inl p0] k) := by
  refine wr_of (by decide) rfl (fun adr o => by simp [lg_sl, cvA, Value.category]) ?_
  intro p l e s m args below meth c D tA n0 o bs adr adV f ls hfl hL X hs hh htab hret hlk hl
  have hl : lv_has ls 4 [(0, .ref (adr 0)), (1, .int (iN p0)), (2, .ref o)] := hl
  refine lv_aload_n (i := 2) (x := o) X.1 X.2.1 dw_fits_0 rfl (lv_at hl 2 rfl) ?_
  refine lv_iconst (v := 0) X.1 X.2.1 dw_fits_1 (by decide) ?_
  refine lv_aload_n (i := 0) (x := adr 0) X.1 X.2.1 dw_fits_2 rfl (lv_at hl 0 rfl) ?_
  refine lv_iload_n (i := 1) (x := iN p0) X.1 X.2.1 dw_fits_3 rfl (lv_at hl 1 rfl) ?_
  refine wr_mid (E := 15) h (fun z hz => ?_) X lwd_50 hL hs hh va_S.rf hl.1 (show (11 : Nat) = 11 from rfl) rfl (by decide +kernel) (by decide +kernel) (Nat.le_of_ble_eq_true rfl) hfl hret hlk rfl dw_fits_4 dw_fits_7 dw_fits_8 dw_fits_9 (by decide) dw_fits_15 dw_fits_16 (fun z hz H1 locs1 q9 ce h1 h2 h3 K => ?_)
  · simp only [List.mem_cons, List.not_mem_nil, or_false] at hz
    rcases hz with rfl <;> exact ⟨by decide, by decide, by decide⟩
  · simp only [List.mem_cons, List.not_mem_nil, or_false] at hz
    rcases hz with rfl
    · refine vx_catch (own := lwN) (name := excN 0) (E := excN 0) X.2.2.2.1 [] ⟨0, 9, 12, 18⟩ [] htab (fun z hz => by cases hz) (by decide) (by decide) (X.2.2.2.2 _ lk_18) (hs.2.2.2.1.at _ _ ex_c0) h1 h2 h3 ?_
      refine lv_astore_n (i := 3) X.1 X.2.1 dw_fits_12 rfl hl (by decide) rfl (fun ls2 hl2 => ?_)
      refine lv_iconst (v := iN 1) X.1 X.2.1 dw_fits_13 (by decide) ?_
      exact K _ _ dw_fits_14
def yw_look : MethodName := ⟨lwN, "look", "(LRingDater;I[J)I"⟩
set_option maxRecDepth 100000 in
theorem ww_look : LWw 162 yw_look method_15_code 4 [(0, 9, 12, 18)] 3 := ⟨⟨gW_at (i := 1382) rfl rfl, gW_at (i := 1383) rfl rfl⟩, ⟨gW_at (i := 102) rfl rfl, gW_at (i := 1384) rfl rfl⟩, ⟨by decide, by decide, rfl⟩, by decide⟩
set_option maxRecDepth 100000 in
theorem lwd_53 : LWd 53 m_RingDater_look := ⟨⟨gW_at (i := 1385) rfl rfl, gW_at (i := 1386) rfl rfl⟩, ⟨gW_at (i := 1387) rfl rfl, gW_at (i := 103) rfl rfl⟩, rfl, by decide⟩
theorem dw_look_0 : decode method_15_code 0 = .ok (.aload_n 2, 1) := by decide +kernel
theorem dw_look_1 : decode method_15_code 1 = .ok (.iconst 0, 1) := by decide +kernel
theorem dw_look_2 : decode method_15_code 2 = .ok (.aload_n 0, 1) := by decide +kernel
theorem dw_look_3 : decode method_15_code 3 = .ok (.iload_n 1, 1) := by decide +kernel
theorem dw_look_12 : decode method_15_code 12 = .ok (.astore_n 3, 1) := by decide +kernel
theorem dw_look_13 : decode method_15_code 13 = .ok (.iconst 1, 1) := by decide +kernel
theorem dw_look_14 : decode method_15_code 14 = .ok (.ireturn, 1) := by decide +kernel
theorem dw_look_4 : decode method_15_code 4 = .ok (.invokevirtual 53, 3) := by decide +kernel
theorem dw_look_7 : decode method_15_code 7 = .ok (.i2l, 1) := by decide +kernel
theorem dw_look_8 : decode method_15_code 8 = .ok (.lastore, 1) := by decide +kernel
theorem dw_look_9 : decode method_15_code 9 = .ok (.goto 6, 3) := by decide +kernel
theorem dw_look_15 : decode method_15_code 15 = .ok (.iconst 0, 1) := by decide +kernel
theorem dw_look_16 : decode method_15_code 16 = .ok (.ireturn, 1) := by decide +kernel
set_option maxHeartbeats 4000000 in
set_option maxRecDepth 100000 in
theorem wr_look {p0 : Int} {k : Nat} {M : Mm} (h : SimW [(0, 1)] m_RingDater_look m_Model_look [.inl p0] k M) : WrC yw_look method_15_code 4 [(0, 9, 12, 18)] [.inl p0] M (WQ m_Model_look [.inl p0] k) := by
  refine wr_of (by decide) rfl (fun adr o => by simp [lg_sl, cvA, Value.category]) ?_
  intro p l e s m args below meth c D tA n0 o bs adr adV f ls hfl hL X hs hh htab hret hlk hl
  have hl : lv_has ls 4 [(0, .ref (adr 0)), (1, .int (iN p0)), (2, .ref o)] := hl
  refine lv_aload_n (i := 2) (x := o) X.1 X.2.1 dw_look_0 rfl (lv_at hl 2 rfl) ?_
  refine lv_iconst (v := 0) X.1 X.2.1 dw_look_1 (by decide) ?_
  refine lv_aload_n (i := 0) (x := adr 0) X.1 X.2.1 dw_look_2 rfl (lv_at hl 0 rfl) ?_
  refine lv_iload_n (i := 1) (x := iN p0) X.1 X.2.1 dw_look_3 rfl (lv_at hl 1 rfl) ?_
  refine wr_mid (E := 15) h (fun z hz => ?_) X lwd_53 hL hs hh va_S.rf hl.1 (show (11 : Nat) = 11 from rfl) rfl (by decide +kernel) (by decide +kernel) (Nat.le_of_ble_eq_true rfl) hfl hret hlk rfl dw_look_4 dw_look_7 dw_look_8 dw_look_9 (by decide) dw_look_15 dw_look_16 (fun z hz H1 locs1 q9 ce h1 h2 h3 K => ?_)
  · simp only [List.mem_cons, List.not_mem_nil, or_false] at hz
    rcases hz with rfl <;> exact ⟨by decide, by decide, by decide⟩
  · simp only [List.mem_cons, List.not_mem_nil, or_false] at hz
    rcases hz with rfl
    · refine vx_catch (own := lwN) (name := excN 0) (E := excN 0) X.2.2.2.1 [] ⟨0, 9, 12, 18⟩ [] htab (fun z hz => by cases hz) (by decide) (by decide) (X.2.2.2.2 _ lk_18) (hs.2.2.2.1.at _ _ ex_c0) h1 h2 h3 ?_
      refine lv_astore_n (i := 3) X.1 X.2.1 dw_look_12 rfl hl (by decide) rfl (fun ls2 hl2 => ?_)
      refine lv_iconst (v := iN 1) X.1 X.2.1 dw_look_13 (by decide) ?_
      exact K _ _ dw_look_14
def yw_chance : MethodName := ⟨lwN, "chance", "(LRingDater;IIII[J)I"⟩
set_option maxRecDepth 100000 in
theorem ww_chance : LWw 169 yw_chance method_16_code 7 [(0, 14, 17, 18), (0, 14, 21, 13)] 6 := ⟨⟨gW_at (i := 1394) rfl rfl, gW_at (i := 1395) rfl rfl⟩, ⟨gW_at (i := 102) rfl rfl, gW_at (i := 1396) rfl rfl⟩, ⟨by decide, by decide, rfl⟩, by decide⟩
set_option maxRecDepth 100000 in
theorem lwd_56 : LWd 56 m_RingDater_chance := ⟨⟨gW_at (i := 1397) rfl rfl, gW_at (i := 1398) rfl rfl⟩, ⟨gW_at (i := 1399) rfl rfl, gW_at (i := 103) rfl rfl⟩, rfl, by decide⟩
theorem dw_chance_0 : decode method_16_code 0 = .ok (.aload 5, 2) := by decide +kernel
theorem dw_chance_2 : decode method_16_code 2 = .ok (.iconst 0, 1) := by decide +kernel
theorem dw_chance_3 : decode method_16_code 3 = .ok (.aload_n 0, 1) := by decide +kernel
theorem dw_chance_4 : decode method_16_code 4 = .ok (.iload_n 1, 1) := by decide +kernel
theorem dw_chance_5 : decode method_16_code 5 = .ok (.iload_n 2, 1) := by decide +kernel
theorem dw_chance_6 : decode method_16_code 6 = .ok (.iload_n 3, 1) := by decide +kernel
theorem dw_chance_7 : decode method_16_code 7 = .ok (.iload 4, 2) := by decide +kernel
theorem dw_chance_17 : decode method_16_code 17 = .ok (.astore 6, 2) := by decide +kernel
theorem dw_chance_19 : decode method_16_code 19 = .ok (.iconst 1, 1) := by decide +kernel
theorem dw_chance_20 : decode method_16_code 20 = .ok (.ireturn, 1) := by decide +kernel
theorem dw_chance_21 : decode method_16_code 21 = .ok (.astore 6, 2) := by decide +kernel
theorem dw_chance_23 : decode method_16_code 23 = .ok (.iconst 2, 1) := by decide +kernel
theorem dw_chance_24 : decode method_16_code 24 = .ok (.ireturn, 1) := by decide +kernel
theorem dw_chance_9 : decode method_16_code 9 = .ok (.invokevirtual 56, 3) := by decide +kernel
theorem dw_chance_12 : decode method_16_code 12 = .ok (.i2l, 1) := by decide +kernel
theorem dw_chance_13 : decode method_16_code 13 = .ok (.lastore, 1) := by decide +kernel
theorem dw_chance_14 : decode method_16_code 14 = .ok (.goto 11, 3) := by decide +kernel
theorem dw_chance_25 : decode method_16_code 25 = .ok (.iconst 0, 1) := by decide +kernel
theorem dw_chance_26 : decode method_16_code 26 = .ok (.ireturn, 1) := by decide +kernel
set_option maxHeartbeats 4000000 in
set_option maxRecDepth 100000 in
theorem wr_chance {p0 p1 p2 p3 : Int} {k : Nat} {M : Mm} (h : SimW [(0, 1), (1, 2)] m_RingDater_chance m_Model_chance [.inl p0, .inl p1, .inl p2, .inl p3] k M) : WrC yw_chance method_16_code 7 [(0, 14, 17, 18), (0, 14, 21, 13)] [.inl p0, .inl p1, .inl p2, .inl p3] M (WQ m_Model_chance [.inl p0, .inl p1, .inl p2, .inl p3] k) := by
  refine wr_of (by decide) rfl (fun adr o => by simp [lg_sl, cvA, Value.category]) ?_
  intro p l e s m args below meth c D tA n0 o bs adr adV f ls hfl hL X hs hh htab hret hlk hl
  have hl : lv_has ls 7 [(0, .ref (adr 0)), (1, .int (iN p0)), (2, .int (iN p1)), (3, .int (iN p2)), (4, .int (iN p3)), (5, .ref o)] := hl
  refine lv_aload (x := o) X.1 X.2.1 dw_chance_0 (lv_at hl 5 rfl) ?_
  refine lv_iconst (v := 0) X.1 X.2.1 dw_chance_2 (by decide) ?_
  refine lv_aload_n (i := 0) (x := adr 0) X.1 X.2.1 dw_chance_3 rfl (lv_at hl 0 rfl) ?_
  refine lv_iload_n (i := 1) (x := iN p0) X.1 X.2.1 dw_chance_4 rfl (lv_at hl 1 rfl) ?_
  refine lv_iload_n (i := 2) (x := iN p1) X.1 X.2.1 dw_chance_5 rfl (lv_at hl 2 rfl) ?_
  refine lv_iload_n (i := 3) (x := iN p2) X.1 X.2.1 dw_chance_6 rfl (lv_at hl 3 rfl) ?_
  refine lv_iload (x := iN p3) X.1 X.2.1 dw_chance_7 (lv_at hl 4 rfl) ?_
  refine wr_mid (E := 25) h (fun z hz => ?_) X lwd_56 hL hs hh va_S.rf hl.1 (show (11 : Nat) = 11 from rfl) rfl (by decide +kernel) (by decide +kernel) (Nat.le_of_ble_eq_true rfl) hfl hret hlk rfl dw_chance_9 dw_chance_12 dw_chance_13 dw_chance_14 (by decide) dw_chance_25 dw_chance_26 (fun z hz H1 locs1 q9 ce h1 h2 h3 K => ?_)
  · simp only [List.mem_cons, List.not_mem_nil, or_false] at hz
    rcases hz with rfl | rfl <;> exact ⟨by decide, by decide, by decide⟩
  · simp only [List.mem_cons, List.not_mem_nil, or_false] at hz
    rcases hz with rfl | rfl
    · refine vx_catch (own := lwN) (name := excN 0) (E := excN 0) X.2.2.2.1 [] ⟨0, 14, 17, 18⟩ [⟨0, 14, 21, 13⟩] htab (fun z hz => by cases hz) (by decide) (by decide) (X.2.2.2.2 _ lk_18) (hs.2.2.2.1.at _ _ ex_c0) h1 h2 h3 ?_
      refine lv_astore X.1 X.2.1 dw_chance_17 hl (by decide) rfl (fun ls2 hl2 => ?_)
      refine lv_iconst (v := iN 1) X.1 X.2.1 dw_chance_19 (by decide) ?_
      exact K _ _ dw_chance_20
    · refine vx_catch (own := lwN) (name := excN 1) (E := excN 1) X.2.2.2.1 [⟨0, 14, 17, 18⟩] ⟨0, 14, 21, 13⟩ [] htab (fun z hz => by
        obtain rfl := List.mem_singleton.mp hz
        exact .inr ⟨by decide, excN 0, X.2.2.2.2 _ lk_18, hs.2.2.2.2.1⟩) (by decide) (by decide) (X.2.2.2.2 _ lk_13) (hs.2.2.2.1.at _ _ ex_c1) h1 h2 h3 ?_
      refine lv_astore X.1 X.2.1 dw_chance_21 hl (by decide) rfl (fun ls2 hl2 => ?_)
      refine lv_iconst (v := iN 2) X.1 X.2.1 dw_chance_23 (by decide) ?_
      exact K _ _ dw_chance_24
def yw_told : MethodName := ⟨lwN, "told", "(LRingDater;II[J)I"⟩
set_option maxRecDepth 100000 in
theorem ww_told : LWw 172 yw_told method_17_code 5 [(0, 10, 13, 18)] 4 := ⟨⟨gW_at (i := 1408) rfl rfl, gW_at (i := 1409) rfl rfl⟩, ⟨gW_at (i := 102) rfl rfl, gW_at (i := 1410) rfl rfl⟩, ⟨by decide, by decide, rfl⟩, by decide⟩
set_option maxRecDepth 100000 in
theorem lwd_66 : LWd 66 m_RingDater_feed := ⟨⟨gW_at (i := 595) rfl rfl, gW_at (i := 596) rfl rfl⟩, ⟨gW_at (i := 597) rfl rfl, gW_at (i := 103) rfl rfl⟩, rfl, by decide⟩
set_option maxRecDepth 100000 in
theorem lwd_70 : LWd 70 m_Model_feed := ⟨⟨gW_at (i := 1917) rfl rfl, gW_at (i := 1918) rfl rfl⟩, ⟨gW_at (i := 1919) rfl rfl, gW_at (i := 120) rfl rfl⟩, rfl, by decide⟩
set_option maxRecDepth 100000 in
theorem lwd_76 : LWd 76 m_Model_yard := ⟨⟨gW_at (i := 1921) rfl rfl, gW_at (i := 1922) rfl rfl⟩, ⟨gW_at (i := 1923) rfl rfl, gW_at (i := 120) rfl rfl⟩, rfl, by decide⟩
set_option maxRecDepth 100000 in
theorem lwd_77 : LWd 77 m_Model_thrown := ⟨⟨gW_at (i := 1913) rfl rfl, gW_at (i := 1914) rfl rfl⟩, ⟨gW_at (i := 1915) rfl rfl, gW_at (i := 120) rfl rfl⟩, rfl, by decide⟩
set_option maxRecDepth 100000 in
theorem lwd_81 : LWd 81 m_RingDater_fault := ⟨⟨gW_at (i := 603) rfl rfl, gW_at (i := 604) rfl rfl⟩, ⟨gW_at (i := 605) rfl rfl, gW_at (i := 103) rfl rfl⟩, rfl, by decide⟩
set_option maxRecDepth 100000 in
theorem lwd_84 : LWd 84 m_Model_fault := ⟨⟨gW_at (i := 1989) rfl rfl, gW_at (i := 1990) rfl rfl⟩, ⟨gW_at (i := 1991) rfl rfl, gW_at (i := 120) rfl rfl⟩, rfl, by decide⟩
set_option maxRecDepth 100000 in
theorem lwd_87 : LWd 87 m_Model_count := ⟨⟨gW_at (i := 1993) rfl rfl, gW_at (i := 1994) rfl rfl⟩, ⟨gW_at (i := 1995) rfl rfl, gW_at (i := 120) rfl rfl⟩, rfl, by decide⟩
set_option maxRecDepth 100000 in
theorem lwd_91 : LWd 91 m_Model_timber := ⟨⟨gW_at (i := 2139) rfl rfl, gW_at (i := 2140) rfl rfl⟩, ⟨gW_at (i := 2141) rfl rfl, gW_at (i := 120) rfl rfl⟩, rfl, by decide⟩
set_option maxRecDepth 100000 in
theorem lwd_94 : LWd 94 m_Model_house := ⟨⟨gW_at (i := 2161) rfl rfl, gW_at (i := 2162) rfl rfl⟩, ⟨gW_at (i := 2163) rfl rfl, gW_at (i := 120) rfl rfl⟩, rfl, by decide⟩
set_option maxRecDepth 100000 in
theorem lwd_98 : LWd 98 m_Model_ring := ⟨⟨gW_at (i := 2173) rfl rfl, gW_at (i := 2174) rfl rfl⟩, ⟨gW_at (i := 2175) rfl rfl, gW_at (i := 120) rfl rfl⟩, rfl, by decide⟩
set_option maxRecDepth 100000 in
theorem lwd_99 : LWd 99 m_RingDater_index := ⟨⟨gW_at (i := 607) rfl rfl, gW_at (i := 608) rfl rfl⟩, ⟨gW_at (i := 609) rfl rfl, gW_at (i := 103) rfl rfl⟩, rfl, by decide⟩
set_option maxRecDepth 100000 in
theorem lwd_102 : LWd 102 m_Model_index := ⟨⟨gW_at (i := 2181) rfl rfl, gW_at (i := 2182) rfl rfl⟩, ⟨gW_at (i := 2183) rfl rfl, gW_at (i := 120) rfl rfl⟩, rfl, by decide⟩
set_option maxRecDepth 100000 in
theorem lwd_103 : LWd 103 m_RingDater_depth := ⟨⟨gW_at (i := 674) rfl rfl, gW_at (i := 675) rfl rfl⟩, ⟨gW_at (i := 676) rfl rfl, gW_at (i := 103) rfl rfl⟩, rfl, by decide⟩
set_option maxRecDepth 100000 in
theorem lwd_106 : LWd 106 m_Model_depth := ⟨⟨gW_at (i := 2185) rfl rfl, gW_at (i := 2186) rfl rfl⟩, ⟨gW_at (i := 2187) rfl rfl, gW_at (i := 120) rfl rfl⟩, rfl, by decide⟩
set_option maxRecDepth 100000 in
theorem lwd_109 : LWd 109 m_Model_pointer := ⟨⟨gW_at (i := 2189) rfl rfl, gW_at (i := 2190) rfl rfl⟩, ⟨gW_at (i := 2191) rfl rfl, gW_at (i := 120) rfl rfl⟩, rfl, by decide⟩
set_option maxRecDepth 100000 in
theorem lwd_113 : LWd 113 m_Model_slid := ⟨⟨gW_at (i := 2193) rfl rfl, gW_at (i := 2194) rfl rfl⟩, ⟨gW_at (i := 2195) rfl rfl, gW_at (i := 120) rfl rfl⟩, rfl, by decide⟩
set_option maxRecDepth 100000 in
theorem lwd_116 : LWd 116 m_Model_best := ⟨⟨gW_at (i := 2197) rfl rfl, gW_at (i := 2198) rfl rfl⟩, ⟨gW_at (i := 2199) rfl rfl, gW_at (i := 120) rfl rfl⟩, rfl, by decide⟩
set_option maxRecDepth 100000 in
theorem lwd_119 : LWd 119 m_Model_link := ⟨⟨gW_at (i := 2201) rfl rfl, gW_at (i := 2202) rfl rfl⟩, ⟨gW_at (i := 2203) rfl rfl, gW_at (i := 120) rfl rfl⟩, rfl, by decide⟩
set_option maxRecDepth 100000 in
theorem lwd_122 : LWd 122 m_Model_grown := ⟨⟨gW_at (i := 2205) rfl rfl, gW_at (i := 2206) rfl rfl⟩, ⟨gW_at (i := 2207) rfl rfl, gW_at (i := 120) rfl rfl⟩, rfl, by decide⟩
set_option maxRecDepth 100000 in
theorem lwd_125 : LWd 125 m_Model_help := ⟨⟨gW_at (i := 2209) rfl rfl, gW_at (i := 2210) rfl rfl⟩, ⟨gW_at (i := 2211) rfl rfl, gW_at (i := 120) rfl rfl⟩, rfl, by decide⟩
set_option maxRecDepth 100000 in
theorem lwd_126 : LWd 126 m_RingDater_date := ⟨⟨gW_at (i := 687) rfl rfl, gW_at (i := 688) rfl rfl⟩, ⟨gW_at (i := 689) rfl rfl, gW_at (i := 103) rfl rfl⟩, rfl, by decide⟩
set_option maxRecDepth 100000 in
theorem lwd_129 : LWd 129 m_Model_date := ⟨⟨gW_at (i := 2229) rfl rfl, gW_at (i := 2230) rfl rfl⟩, ⟨gW_at (i := 2231) rfl rfl, gW_at (i := 120) rfl rfl⟩, rfl, by decide⟩
set_option maxRecDepth 100000 in
theorem lwd_130 : LWd 130 m_RingDater_settle := ⟨⟨gW_at (i := 708) rfl rfl, gW_at (i := 709) rfl rfl⟩, ⟨gW_at (i := 710) rfl rfl, gW_at (i := 103) rfl rfl⟩, rfl, by decide⟩
set_option maxRecDepth 100000 in
theorem lwd_133 : LWd 133 m_Model_settle := ⟨⟨gW_at (i := 2241) rfl rfl, gW_at (i := 2242) rfl rfl⟩, ⟨gW_at (i := 2243) rfl rfl, gW_at (i := 120) rfl rfl⟩, rfl, by decide⟩
set_option maxRecDepth 100000 in
theorem lwd_134 : LWd 134 m_RingDater_grow := ⟨⟨gW_at (i := 785) rfl rfl, gW_at (i := 786) rfl rfl⟩, ⟨gW_at (i := 787) rfl rfl, gW_at (i := 103) rfl rfl⟩, rfl, by decide⟩
set_option maxRecDepth 100000 in
theorem lwd_137 : LWd 137 m_Model_grow := ⟨⟨gW_at (i := 2245) rfl rfl, gW_at (i := 2246) rfl rfl⟩, ⟨gW_at (i := 2247) rfl rfl, gW_at (i := 120) rfl rfl⟩, rfl, by decide⟩
set_option maxRecDepth 100000 in
theorem lwd_138 : LWd 138 m_RingDater_mend := ⟨⟨gW_at (i := 814) rfl rfl, gW_at (i := 815) rfl rfl⟩, ⟨gW_at (i := 816) rfl rfl, gW_at (i := 103) rfl rfl⟩, rfl, by decide⟩
set_option maxRecDepth 100000 in
theorem lwd_142 : LWd 142 m_Model_mend := ⟨⟨gW_at (i := 2249) rfl rfl, gW_at (i := 2250) rfl rfl⟩, ⟨gW_at (i := 2251) rfl rfl, gW_at (i := 120) rfl rfl⟩, rfl, by decide⟩
set_option maxRecDepth 100000 in
theorem lwd_143 : LWd 143 m_RingDater_doubt := ⟨⟨gW_at (i := 840) rfl rfl, gW_at (i := 841) rfl rfl⟩, ⟨gW_at (i := 842) rfl rfl, gW_at (i := 103) rfl rfl⟩, rfl, by decide⟩
set_option maxRecDepth 100000 in
theorem lwd_146 : LWd 146 m_Model_doubt := ⟨⟨gW_at (i := 2253) rfl rfl, gW_at (i := 2254) rfl rfl⟩, ⟨gW_at (i := 2255) rfl rfl, gW_at (i := 120) rfl rfl⟩, rfl, by decide⟩
set_option maxRecDepth 100000 in
theorem lwd_147 : LWd 147 m_RingDater_move := ⟨⟨gW_at (i := 850) rfl rfl, gW_at (i := 851) rfl rfl⟩, ⟨gW_at (i := 852) rfl rfl, gW_at (i := 103) rfl rfl⟩, rfl, by decide⟩
set_option maxRecDepth 100000 in
theorem lwd_150 : LWd 150 m_Model_move := ⟨⟨gW_at (i := 2257) rfl rfl, gW_at (i := 2258) rfl rfl⟩, ⟨gW_at (i := 2259) rfl rfl, gW_at (i := 120) rfl rfl⟩, rfl, by decide⟩
set_option maxRecDepth 100000 in
theorem lwd_151 : LWd 151 m_RingDater_undo := ⟨⟨gW_at (i := 854) rfl rfl, gW_at (i := 855) rfl rfl⟩, ⟨gW_at (i := 856) rfl rfl, gW_at (i := 103) rfl rfl⟩, rfl, by decide⟩
set_option maxRecDepth 100000 in
theorem lwd_154 : LWd 154 m_Model_undo := ⟨⟨gW_at (i := 2261) rfl rfl, gW_at (i := 2262) rfl rfl⟩, ⟨gW_at (i := 2263) rfl rfl, gW_at (i := 120) rfl rfl⟩, rfl, by decide⟩
set_option maxRecDepth 100000 in
theorem lwd_155 : LWd 155 m_RingDater_note := ⟨⟨gW_at (i := 870) rfl rfl, gW_at (i := 871) rfl rfl⟩, ⟨gW_at (i := 872) rfl rfl, gW_at (i := 103) rfl rfl⟩, rfl, by decide⟩
set_option maxRecDepth 100000 in
theorem lwd_158 : LWd 158 m_Model_note := ⟨⟨gW_at (i := 2265) rfl rfl, gW_at (i := 2266) rfl rfl⟩, ⟨gW_at (i := 2267) rfl rfl, gW_at (i := 120) rfl rfl⟩, rfl, by decide⟩
set_option maxRecDepth 100000 in
theorem lwd_161 : LWd 161 m_Model_fits := ⟨⟨gW_at (i := 2273) rfl rfl, gW_at (i := 2274) rfl rfl⟩, ⟨gW_at (i := 2275) rfl rfl, gW_at (i := 120) rfl rfl⟩, rfl, by decide⟩
set_option maxRecDepth 100000 in
theorem lwd_164 : LWd 164 m_Model_look := ⟨⟨gW_at (i := 2281) rfl rfl, gW_at (i := 2282) rfl rfl⟩, ⟨gW_at (i := 2283) rfl rfl, gW_at (i := 120) rfl rfl⟩, rfl, by decide⟩
set_option maxRecDepth 100000 in
theorem lwd_165 : LWd 165 m_RingDater_forget := ⟨⟨gW_at (i := 878) rfl rfl, gW_at (i := 879) rfl rfl⟩, ⟨gW_at (i := 880) rfl rfl, gW_at (i := 103) rfl rfl⟩, rfl, by decide⟩
set_option maxRecDepth 100000 in
theorem lwd_168 : LWd 168 m_Model_forget := ⟨⟨gW_at (i := 2269) rfl rfl, gW_at (i := 2270) rfl rfl⟩, ⟨gW_at (i := 2271) rfl rfl, gW_at (i := 120) rfl rfl⟩, rfl, by decide⟩
set_option maxRecDepth 100000 in
theorem lwd_171 : LWd 171 m_Model_chance := ⟨⟨gW_at (i := 2289) rfl rfl, gW_at (i := 2290) rfl rfl⟩, ⟨gW_at (i := 2291) rfl rfl, gW_at (i := 120) rfl rfl⟩, rfl, by decide⟩
set_option maxRecDepth 100000 in
theorem lwd_174 : LWd 174 m_Model_told := ⟨⟨gW_at (i := 2298) rfl rfl, gW_at (i := 2299) rfl rfl⟩, ⟨gW_at (i := 2300) rfl rfl, gW_at (i := 120) rfl rfl⟩, rfl, by decide⟩
set_option maxRecDepth 100000 in
theorem lwd_175 : LWd 175 m_RingDater_image := ⟨⟨gW_at (i := 882) rfl rfl, gW_at (i := 883) rfl rfl⟩, ⟨gW_at (i := 884) rfl rfl, gW_at (i := 103) rfl rfl⟩, rfl, by decide⟩
set_option maxRecDepth 100000 in
theorem lwd_178 : LWd 178 m_Model_image := ⟨⟨gW_at (i := 2314) rfl rfl, gW_at (i := 2315) rfl rfl⟩, ⟨gW_at (i := 2316) rfl rfl, gW_at (i := 120) rfl rfl⟩, rfl, by decide⟩
set_option maxRecDepth 100000 in
theorem lwd_179 : LWd 179 m_RingDater_restore := ⟨⟨gW_at (i := 905) rfl rfl, gW_at (i := 906) rfl rfl⟩, ⟨gW_at (i := 907) rfl rfl, gW_at (i := 103) rfl rfl⟩, rfl, by decide⟩
set_option maxRecDepth 100000 in
theorem lwd_183 : LWd 183 m_Model_restore := ⟨⟨gW_at (i := 2318) rfl rfl, gW_at (i := 2319) rfl rfl⟩, ⟨gW_at (i := 2320) rfl rfl, gW_at (i := 120) rfl rfl⟩, rfl, by decide⟩

/-! THE LAW: told's wrapper (open). -/
theorem wr_told {p0 p1 : Int} {k : Nat} {M : Mm} (hR : Rel k M) (h0 : inR p0) (h1 : inR p1) : WrC yw_told method_17_code 5 [(0, 10, 13, 18)] [.inl p0, .inl p1] M (WQ m_Model_told [.inl p0, .inl p1] k) := by
  sorry
theorem simWy {w : Int} {k : Nat} {M : Mm} (hR : Rel k M) (hw : inR w) : SimW [(1, 1)] m_RingDater_yard m_Model_yard [.inl w] k M := by
  obtain ⟨n, T, Y, lap, bnd, mrg, hc, hm, hx⟩ := id hR
  obtain ⟨x1, x2, x3, ⟨L, ⟨y1, y2, y3⟩, y4, y5⟩, x5, x6, x7, x8⟩ := relX_of hx
  by_cases h : w < 0 ∨ (L : Int) < w
  · exact .inr ⟨(1, 1), by simp, sim_yard_x hR hw y1 h⟩
  · have e : w = ((w.toNat : Nat) : Int) := by omega
    have h2 := sim_yard (n0 := w.toNat) hR y1 (by omega)
    rw [← e] at h2
    exact .inl h2
theorem Rel_up {k : Nat} {M : Mm} (hR : Rel k M) : Rel (k + 1) M := by
  obtain ⟨n, T, Y, lap, bnd, mrg, hc, hm, hx⟩ := hR
  exact ⟨n, T, Y, lap, bnd, mrg, hc, hm, relX_fr hm.1.2 (Nat.le_succ k) (fun _ _ _ _ => rfl) hx⟩
theorem bAnd_31 (x : Int) : 0 ≤ bAnd x 31 ∧ bAnd x 31 ≤ 31 := by
  unfold bAnd
  have h := pk_and (iN x) (m := iN 31) 5 (by decide)
  rw [h]
  have h2 : (iN x).toBitVec.toNat % 2 ^ 5 < 2 ^ 5 := Nat.mod_lt _ (by decide)
  rw [nI_toInt (by omega)]
  omega

/-! THE LAW, 7: its cases (printed by wip/whole/g7f.py). -/
section L7
variable {p : Program} {l : Launch} {e : Env} {s : State} {m : MethodId} {args : Array Value} {below : List Frame} {meth : Method} {c : Code} {Q : State → Prop}
variable {D : va_G} {tA : Nat → ClassId} {n0 o bs b L i k : Nat} {xs : Nat → Int32} {adr adV : Nat → Nat} {M : Mm} {f : Nat → Int64} {H : Heap} {locs : List Loc} {cells slots : Nat} {ls : Array Slot}
set_option maxHeartbeats 4000000 in
set_option maxRecDepth 100000 in
theorem case_0 (C : LCx p s m args c D tA n0 o bs adr adV b L xs) (hfl : l.stackTraces = false) (hR : Rel k M) (hh : LH D tA n0 o bs adr M f H) (hS : LV n0 s H locs) (hl : lv_has ls 7 (lvB b o adr i)) (hi : i + 5 < L) (hk : k ≤ 1000) (hc : cells + 100 ≤ 601024 ∧ slots + 12000 ≤ 7293034) (K : LK p l e s m args below meth c Q D tA n0 o bs adr b i k cells slots) : W p l e room_1 s m args below meth c H locs cells slots Q (F0 m 176 ls []) := by
  obtain ⟨X, hL, hs, hX, hb, h3⟩ := id C
  have hc0 : cells ≤ 601024 ∧ slots ≤ 7293034 := ⟨by omega, by omega⟩
  refine lv_aload_n (i := 1) (x := adr 0) X.1 X.2.1 dw_law_176 rfl (lv_at hl 1 rfl) ?_
  refine l_arg (j := 1) C hS (by omega) (lv_at hl 0 rfl) (lv_at hl 4 rfl) ag_177 ?_
  refine l_arg (j := 2) C hS (by omega) (lv_at hl 0 rfl) (lv_at hl 4 rfl) ag_183 ?_
  refine l_arg (j := 3) C hS (by omega) (lv_at hl 0 rfl) (lv_at hl 4 rfl) ag_189 ?_
  refine l_arg (j := 4) C hS (by omega) (lv_at hl 0 rfl) (lv_at hl 4 rfl) ag_195 ?_
  refine l_arg (j := 5) C hS (by omega) (lv_at hl 0 rfl) (lv_at hl 4 rfl) ag_201 ?_
  refine l_call (q := m_RingDater_feed) (b := 0) (As := [.inl (xs (i + 1)).toInt, .inl (xs (i + 2)).toInt, .inl (xs (i + 3)).toInt, .inl (xs (i + 4)).toInt, .inl (xs (i + 5)).toInt]) (rest := []) X lwd_66 hL hs hh hS hl.1 (show (11 : Nat) = 11 from rfl) rfl ⟨by decide +kernel, by decide +kernel⟩ hc0 (by simp) rfl dw_law_207 (sim_feed hR) (fun v M1 H1 locs1 hv hh1 hS1 => ?_)
  obtain ⟨x, rfl, hx, hB⟩ := hv
  refine lv_aload_n (i := 2) (x := adr 154) X.1 X.2.1 dw_law_210 rfl (lv_at hl 2 rfl) ?_
  refine l_arg (j := 1) C hS1 (by omega) (lv_at hl 0 rfl) (lv_at hl 4 rfl) ag_211 ?_
  refine l_arg (j := 2) C hS1 (by omega) (lv_at hl 0 rfl) (lv_at hl 4 rfl) ag_217 ?_
  refine l_arg (j := 3) C hS1 (by omega) (lv_at hl 0 rfl) (lv_at hl 4 rfl) ag_223 ?_
  refine l_arg (j := 4) C hS1 (by omega) (lv_at hl 0 rfl) (lv_at hl 4 rfl) ag_229 ?_
  refine l_arg (j := 5) C hS1 (by omega) (lv_at hl 0 rfl) (lv_at hl 4 rfl) ag_235 ?_
  refine l_call (q := m_Model_feed) (b := 154) (As := [.inl (xs (i + 1)).toInt, .inl (xs (i + 2)).toInt, .inl (xs (i + 3)).toInt, .inl (xs (i + 4)).toInt, .inl (xs (i + 5)).toInt]) (rest := [.int (iN x)]) X lwd_70 hL hs hh1 hS1 hl.1 (show (12 : Nat) = 12 from rfl) rfl ⟨by decide +kernel, by decide +kernel⟩ hc0 (by simp [Value.category]) rfl dw_law_241 hB (fun v M2 H2 locs2 hv hh2 hS2 => ?_)
  obtain ⟨y, rfl, rfl, hcode, hRel⟩ := hv
  refine lv_icmp_eq (tgt := 1655) X.1 X.2.1 dw_law_244 (by decide) (fun _ => ?_) (fun z => absurd rfl z)
  exact W.widen (by omega) (by omega) (K M2 f H2 locs2 ls hRel hh2 hS2 hl)
set_option maxHeartbeats 4000000 in
set_option maxRecDepth 100000 in
theorem case_1 (C : LCx p s m args c D tA n0 o bs adr adV b L xs) (hfl : l.stackTraces = false) (hR : Rel k M) (hh : LH D tA n0 o bs adr M f H) (hS : LV n0 s H locs) (hl : lv_has ls 7 (lvB b o adr i)) (hi : i + 5 < L) (hk : k ≤ 1000) (hc : cells + 100 ≤ 601024 ∧ slots + 12000 ≤ 7293034) (K : LK p l e s m args below meth c Q D tA n0 o bs adr b i k cells slots) : W p l e room_1 s m args below meth c H locs cells slots Q (F0 m 249 ls []) := by
  obtain ⟨X, hL, hs, hX, hb, h3⟩ := id C
  have hc0 : cells ≤ 601024 ∧ slots ≤ 7293034 := ⟨by omega, by omega⟩
  refine lv_aload_n (i := 1) (x := adr 0) X.1 X.2.1 dw_law_249 rfl (lv_at hl 1 rfl) ?_
  refine l_arg (j := 1) C hS (by omega) (lv_at hl 0 rfl) (lv_at hl 4 rfl) ag_250 ?_
  refine lv_aload_n (i := 3) (x := o) X.1 X.2.1 dw_law_256 rfl (lv_at hl 3 rfl) ?_
  refine l_wcall (as := [.inl (xs (i + 1)).toInt]) C (wr_yard (simWy hR (inR_ti _))) ww_yard rfl hfl hh hS hl.1 hc rfl dw_law_257 (fun r x M1 f1 H1 locs1 hq hf hh1 hS1 => ?_)
  obtain ⟨⟨hr, hx⟩, hB⟩ := hq
  refine lv_istore (lv' := (5, .int (iN r)) :: lvB b o adr i) X.1 X.2.1 dw_law_260 hl (by decide) rfl (fun ls1 hl1 => ?_)
  refine lv_aload_n (i := 2) (x := adr 154) X.1 X.2.1 dw_law_262 rfl (lv_at hl1 3 rfl) ?_
  refine l_arg (j := 1) C hS1 (by omega) (lv_at hl1 1 rfl) (lv_at hl1 5 rfl) ag_263 ?_
  refine l_call (q := m_Model_yard) (b := 154) (As := [.inl (xs (i + 1)).toInt]) (rest := []) X lwd_76 hL hs hh1 hS1 hl1.1 (show (12 : Nat) = 12 from rfl) rfl ⟨by decide +kernel, by decide +kernel⟩ hc (by simp) rfl dw_law_269 hB (fun v M2 H2 locs2 hv hh2 hS2 => ?_)
  obtain ⟨y, rfl, hcode, hxy, hRel⟩ := hv
  refine lv_istore (lv' := (6, .int (iN y)) :: (5, .int (iN r)) :: lvB b o adr i) X.1 X.2.1 dw_law_272 hl1 (by decide) rfl (fun ls2 hl2 => ?_)
  exact l_tailW C lwd_77 hl2 hr hf hxy hcode hh2 hS2 td_274 hc (fun H3 locs3 hh3 hS3 => K M2 f1 H3 locs3 ls2 hRel hh3 hS3 (lv_sub hl2 [2, 3, 4, 5, 6] rfl))
set_option maxHeartbeats 4000000 in
set_option maxRecDepth 100000 in
theorem case_2 (C : LCx p s m args c D tA n0 o bs adr adV b L xs) (hfl : l.stackTraces = false) (hR : Rel k M) (hh : LH D tA n0 o bs adr M f H) (hS : LV n0 s H locs) (hl : lv_has ls 7 (lvB b o adr i)) (hi : i + 5 < L) (hk : k ≤ 1000) (hc : cells + 100 ≤ 601024 ∧ slots + 12000 ≤ 7293034) (K : LK p l e s m args below meth c Q D tA n0 o bs adr b i k cells slots) : W p l e room_1 s m args below meth c H locs cells slots Q (F0 m 305 ls []) := by
  obtain ⟨X, hL, hs, hX, hb, h3⟩ := id C
  have hc0 : cells ≤ 601024 ∧ slots ≤ 7293034 := ⟨by omega, by omega⟩
  refine lv_aload_n (i := 1) (x := adr 0) X.1 X.2.1 dw_law_305 rfl (lv_at hl 1 rfl) ?_
  refine l_call (q := m_RingDater_fault) (b := 0) (As := []) (rest := []) X lwd_81 hL hs hh hS hl.1 (show (11 : Nat) = 11 from rfl) rfl ⟨by decide +kernel, by decide +kernel⟩ hc0 (by simp) rfl dw_law_306 (sim_fault hR) (fun v M1 H1 locs1 hv hh1 hS1 => ?_)
  obtain ⟨x, rfl, hx, hB⟩ := hv
  refine lv_aload_n (i := 2) (x := adr 154) X.1 X.2.1 dw_law_309 rfl (lv_at hl 2 rfl) ?_
  refine l_call (q := m_Model_fault) (b := 154) (As := []) (rest := [.int (iN x)]) X lwd_84 hL hs hh1 hS1 hl.1 (show (12 : Nat) = 12 from rfl) rfl ⟨by decide +kernel, by decide +kernel⟩ hc0 (by simp [Value.category]) rfl dw_law_310 hB (fun v M2 H2 locs2 hv hh2 hS2 => ?_)
  obtain ⟨y, rfl, rfl, hcode, hRel⟩ := hv
  refine lv_icmp_eq (tgt := 1655) X.1 X.2.1 dw_law_313 (by decide) (fun _ => ?_) (fun z => absurd rfl z)
  exact W.widen (by omega) (by omega) (K M2 f H2 locs2 ls hRel hh2 hS2 hl)
set_option maxHeartbeats 4000000 in
set_option maxRecDepth 100000 in
theorem case_3 (C : LCx p s m args c D tA n0 o bs adr adV b L xs) (hfl : l.stackTraces = false) (hR : Rel k M) (hh : LH D tA n0 o bs adr M f H) (hS : LV n0 s H locs) (hl : lv_has ls 7 (lvB b o adr i)) (hi : i + 5 < L) (hk : k ≤ 1000) (hc : cells + 100 ≤ 601024 ∧ slots + 12000 ≤ 7293034) (K : LK p l e s m args below meth c Q D tA n0 o bs adr b i k cells slots) : W p l e room_1 s m args below meth c H locs cells slots Q (F0 m 318 ls []) := by
  obtain ⟨X, hL, hs, hX, hb, h3⟩ := id C
  have hc0 : cells ≤ 601024 ∧ slots ≤ 7293034 := ⟨by omega, by omega⟩
  refine lv_aload_n (i := 1) (x := adr 0) X.1 X.2.1 dw_law_318 rfl (lv_at hl 1 rfl) ?_
  refine l_arg (j := 1) C hS (by omega) (lv_at hl 0 rfl) (lv_at hl 4 rfl) ag_319 ?_
  refine lv_aload_n (i := 3) (x := o) X.1 X.2.1 dw_law_325 rfl (lv_at hl 3 rfl) ?_
  refine l_wcall (as := [.inl (xs (i + 1)).toInt]) C (wr_count (simW1 (sim_count hR hk (inR_ti _)))) ww_count rfl hfl hh hS hl.1 hc rfl dw_law_326 (fun r x M1 f1 H1 locs1 hq hf hh1 hS1 => ?_)
  obtain ⟨⟨hr, hx⟩, hB⟩ := hq
  refine lv_istore (lv' := (5, .int (iN r)) :: lvB b o adr i) X.1 X.2.1 dw_law_329 hl (by decide) rfl (fun ls1 hl1 => ?_)
  refine lv_aload_n (i := 2) (x := adr 154) X.1 X.2.1 dw_law_331 rfl (lv_at hl1 3 rfl) ?_
  refine l_arg (j := 1) C hS1 (by omega) (lv_at hl1 1 rfl) (lv_at hl1 5 rfl) ag_332 ?_
  refine l_call (q := m_Model_count) (b := 154) (As := [.inl (xs (i + 1)).toInt]) (rest := []) X lwd_87 hL hs hh1 hS1 hl1.1 (show (12 : Nat) = 12 from rfl) rfl ⟨by decide +kernel, by decide +kernel⟩ hc (by simp) rfl dw_law_338 hB (fun v M2 H2 locs2 hv hh2 hS2 => ?_)
  obtain ⟨y, rfl, hcode, hxy, hRel⟩ := hv
  refine lv_istore (lv' := (6, .int (iN y)) :: (5, .int (iN r)) :: lvB b o adr i) X.1 X.2.1 dw_law_341 hl1 (by decide) rfl (fun ls2 hl2 => ?_)
  exact l_tailW C lwd_77 hl2 hr hf hxy hcode hh2 hS2 td_343 hc (fun H3 locs3 hh3 hS3 => K M2 f1 H3 locs3 ls2 hRel hh3 hS3 (lv_sub hl2 [2, 3, 4, 5, 6] rfl))
set_option maxHeartbeats 4000000 in
set_option maxRecDepth 100000 in
theorem case_4 (C : LCx p s m args c D tA n0 o bs adr adV b L xs) (hfl : l.stackTraces = false) (hR : Rel k M) (hh : LH D tA n0 o bs adr M f H) (hS : LV n0 s H locs) (hl : lv_has ls 7 (lvB b o adr i)) (hi : i + 5 < L) (hk : k ≤ 1000) (hc : cells + 100 ≤ 601024 ∧ slots + 12000 ≤ 7293034) (K : LK p l e s m args below meth c Q D tA n0 o bs adr b i k cells slots) : W p l e room_1 s m args below meth c H locs cells slots Q (F0 m 374 ls []) := by
  obtain ⟨X, hL, hs, hX, hb, h3⟩ := id C
  have hc0 : cells ≤ 601024 ∧ slots ≤ 7293034 := ⟨by omega, by omega⟩
  refine lv_aload_n (i := 1) (x := adr 0) X.1 X.2.1 dw_law_374 rfl (lv_at hl 1 rfl) ?_
  refine l_arg (j := 1) C hS (by omega) (lv_at hl 0 rfl) (lv_at hl 4 rfl) ag_375 ?_
  refine l_arg (j := 2) C hS (by omega) (lv_at hl 0 rfl) (lv_at hl 4 rfl) ag_381 ?_
  refine lv_aload_n (i := 3) (x := o) X.1 X.2.1 dw_law_387 rfl (lv_at hl 3 rfl) ?_
  refine l_wcall (as := [.inl (xs (i + 1)).toInt, .inl (xs (i + 2)).toInt]) C (wr_timber (simW1 (sim_timber hR (inR_ti _) (inR_ti _)))) ww_timber rfl hfl hh hS hl.1 hc rfl dw_law_388 (fun r x M1 f1 H1 locs1 hq hf hh1 hS1 => ?_)
  obtain ⟨⟨hr, hx⟩, hB⟩ := hq
  refine lv_istore (lv' := (5, .int (iN r)) :: lvB b o adr i) X.1 X.2.1 dw_law_391 hl (by decide) rfl (fun ls1 hl1 => ?_)
  refine lv_aload_n (i := 2) (x := adr 154) X.1 X.2.1 dw_law_393 rfl (lv_at hl1 3 rfl) ?_
  refine l_arg (j := 1) C hS1 (by omega) (lv_at hl1 1 rfl) (lv_at hl1 5 rfl) ag_394 ?_
  refine l_arg (j := 2) C hS1 (by omega) (lv_at hl1 1 rfl) (lv_at hl1 5 rfl) ag_400 ?_
  refine l_call (q := m_Model_timber) (b := 154) (As := [.inl (xs (i + 1)).toInt, .inl (xs (i + 2)).toInt]) (rest := []) X lwd_91 hL hs hh1 hS1 hl1.1 (show (12 : Nat) = 12 from rfl) rfl ⟨by decide +kernel, by decide +kernel⟩ hc (by simp) rfl dw_law_406 hB (fun v M2 H2 locs2 hv hh2 hS2 => ?_)
  obtain ⟨y, rfl, hcode, hxy, hRel⟩ := hv
  refine lv_istore (lv' := (6, .int (iN y)) :: (5, .int (iN r)) :: lvB b o adr i) X.1 X.2.1 dw_law_409 hl1 (by decide) rfl (fun ls2 hl2 => ?_)
  exact l_tailW C lwd_77 hl2 hr hf hxy hcode hh2 hS2 td_411 hc (fun H3 locs3 hh3 hS3 => K M2 f1 H3 locs3 ls2 hRel hh3 hS3 (lv_sub hl2 [2, 3, 4, 5, 6] rfl))
set_option maxHeartbeats 4000000 in
set_option maxRecDepth 100000 in
theorem case_5 (C : LCx p s m args c D tA n0 o bs adr adV b L xs) (hfl : l.stackTraces = false) (hR : Rel k M) (hh : LH D tA n0 o bs adr M f H) (hS : LV n0 s H locs) (hl : lv_has ls 7 (lvB b o adr i)) (hi : i + 5 < L) (hk : k ≤ 1000) (hc : cells + 100 ≤ 601024 ∧ slots + 12000 ≤ 7293034) (K : LK p l e s m args below meth c Q D tA n0 o bs adr b i k cells slots) : W p l e room_1 s m args below meth c H locs cells slots Q (F0 m 442 ls []) := by
  obtain ⟨X, hL, hs, hX, hb, h3⟩ := id C
  have hc0 : cells ≤ 601024 ∧ slots ≤ 7293034 := ⟨by omega, by omega⟩
  refine lv_aload_n (i := 1) (x := adr 0) X.1 X.2.1 dw_law_442 rfl (lv_at hl 1 rfl) ?_
  refine l_arg (j := 1) C hS (by omega) (lv_at hl 0 rfl) (lv_at hl 4 rfl) ag_443 ?_
  refine l_arg (j := 2) C hS (by omega) (lv_at hl 0 rfl) (lv_at hl 4 rfl) ag_449 ?_
  refine lv_aload_n (i := 3) (x := o) X.1 X.2.1 dw_law_455 rfl (lv_at hl 3 rfl) ?_
  refine l_wcall (as := [.inl (xs (i + 1)).toInt, .inl (xs (i + 2)).toInt]) C (wr_house (simW1 (sim_house hR (inR_ti _) (inR_ti _)))) ww_house rfl hfl hh hS hl.1 hc rfl dw_law_456 (fun r x M1 f1 H1 locs1 hq hf hh1 hS1 => ?_)
  obtain ⟨⟨hr, hx⟩, hB⟩ := hq
  refine lv_istore (lv' := (5, .int (iN r)) :: lvB b o adr i) X.1 X.2.1 dw_law_459 hl (by decide) rfl (fun ls1 hl1 => ?_)
  refine lv_aload_n (i := 2) (x := adr 154) X.1 X.2.1 dw_law_461 rfl (lv_at hl1 3 rfl) ?_
  refine l_arg (j := 1) C hS1 (by omega) (lv_at hl1 1 rfl) (lv_at hl1 5 rfl) ag_462 ?_
  refine l_arg (j := 2) C hS1 (by omega) (lv_at hl1 1 rfl) (lv_at hl1 5 rfl) ag_468 ?_
  refine l_call (q := m_Model_house) (b := 154) (As := [.inl (xs (i + 1)).toInt, .inl (xs (i + 2)).toInt]) (rest := []) X lwd_94 hL hs hh1 hS1 hl1.1 (show (12 : Nat) = 12 from rfl) rfl ⟨by decide +kernel, by decide +kernel⟩ hc (by simp) rfl dw_law_474 hB (fun v M2 H2 locs2 hv hh2 hS2 => ?_)
  obtain ⟨y, rfl, hcode, hxy, hRel⟩ := hv
  refine lv_istore (lv' := (6, .int (iN y)) :: (5, .int (iN r)) :: lvB b o adr i) X.1 X.2.1 dw_law_477 hl1 (by decide) rfl (fun ls2 hl2 => ?_)
  exact l_tailW C lwd_77 hl2 hr hf hxy hcode hh2 hS2 td_479 hc (fun H3 locs3 hh3 hS3 => K M2 f1 H3 locs3 ls2 hRel hh3 hS3 (lv_sub hl2 [2, 3, 4, 5, 6] rfl))
set_option maxHeartbeats 4000000 in
set_option maxRecDepth 100000 in
theorem case_6 (C : LCx p s m args c D tA n0 o bs adr adV b L xs) (hfl : l.stackTraces = false) (hR : Rel k M) (hh : LH D tA n0 o bs adr M f H) (hS : LV n0 s H locs) (hl : lv_has ls 7 (lvB b o adr i)) (hi : i + 5 < L) (hk : k ≤ 1000) (hc : cells + 100 ≤ 601024 ∧ slots + 12000 ≤ 7293034) (K : LK p l e s m args below meth c Q D tA n0 o bs adr b i k cells slots) : W p l e room_1 s m args below meth c H locs cells slots Q (F0 m 510 ls []) := by
  obtain ⟨X, hL, hs, hX, hb, h3⟩ := id C
  have hc0 : cells ≤ 601024 ∧ slots ≤ 7293034 := ⟨by omega, by omega⟩
  refine lv_aload_n (i := 1) (x := adr 0) X.1 X.2.1 dw_law_510 rfl (lv_at hl 1 rfl) ?_
  refine l_arg (j := 1) C hS (by omega) (lv_at hl 0 rfl) (lv_at hl 4 rfl) ag_511 ?_
  refine l_arg (j := 2) C hS (by omega) (lv_at hl 0 rfl) (lv_at hl 4 rfl) ag_517 ?_
  refine l_arg (j := 3) C hS (by omega) (lv_at hl 0 rfl) (lv_at hl 4 rfl) ag_523 ?_
  refine lv_aload_n (i := 3) (x := o) X.1 X.2.1 dw_law_529 rfl (lv_at hl 3 rfl) ?_
  refine l_wcall (as := [.inl (xs (i + 1)).toInt, .inl (xs (i + 2)).toInt, .inl (xs (i + 3)).toInt]) C (wr_ring (simW1 (sim_ring hR (inR_ti _) (inR_ti _) (inR_ti _)))) ww_ring rfl hfl hh hS hl.1 hc rfl dw_law_530 (fun r x M1 f1 H1 locs1 hq hf hh1 hS1 => ?_)
  obtain ⟨⟨hr, hx⟩, hB⟩ := hq
  refine lv_istore (lv' := (5, .int (iN r)) :: lvB b o adr i) X.1 X.2.1 dw_law_533 hl (by decide) rfl (fun ls1 hl1 => ?_)
  refine lv_aload_n (i := 2) (x := adr 154) X.1 X.2.1 dw_law_535 rfl (lv_at hl1 3 rfl) ?_
  refine l_arg (j := 1) C hS1 (by omega) (lv_at hl1 1 rfl) (lv_at hl1 5 rfl) ag_536 ?_
  refine l_arg (j := 2) C hS1 (by omega) (lv_at hl1 1 rfl) (lv_at hl1 5 rfl) ag_542 ?_
  refine l_arg (j := 3) C hS1 (by omega) (lv_at hl1 1 rfl) (lv_at hl1 5 rfl) ag_548 ?_
  refine l_call (q := m_Model_ring) (b := 154) (As := [.inl (xs (i + 1)).toInt, .inl (xs (i + 2)).toInt, .inl (xs (i + 3)).toInt]) (rest := []) X lwd_98 hL hs hh1 hS1 hl1.1 (show (12 : Nat) = 12 from rfl) rfl ⟨by decide +kernel, by decide +kernel⟩ hc (by simp) rfl dw_law_554 hB (fun v M2 H2 locs2 hv hh2 hS2 => ?_)
  obtain ⟨y, rfl, hcode, hxy, hRel⟩ := hv
  refine lv_istore (lv' := (6, .int (iN y)) :: (5, .int (iN r)) :: lvB b o adr i) X.1 X.2.1 dw_law_557 hl1 (by decide) rfl (fun ls2 hl2 => ?_)
  exact l_tailW C lwd_77 hl2 hr hf hxy hcode hh2 hS2 td_559 hc (fun H3 locs3 hh3 hS3 => K M2 f1 H3 locs3 ls2 hRel hh3 hS3 (lv_sub hl2 [2, 3, 4, 5, 6] rfl))
set_option maxHeartbeats 4000000 in
set_option maxRecDepth 100000 in
theorem case_7 (C : LCx p s m args c D tA n0 o bs adr adV b L xs) (hfl : l.stackTraces = false) (hR : Rel k M) (hh : LH D tA n0 o bs adr M f H) (hS : LV n0 s H locs) (hl : lv_has ls 7 (lvB b o adr i)) (hi : i + 5 < L) (hk : k ≤ 1000) (hc : cells + 100 ≤ 601024 ∧ slots + 12000 ≤ 7293034) (K : LK p l e s m args below meth c Q D tA n0 o bs adr b i k cells slots) : W p l e room_1 s m args below meth c H locs cells slots Q (F0 m 590 ls []) := by
  obtain ⟨X, hL, hs, hX, hb, h3⟩ := id C
  have hc0 : cells ≤ 601024 ∧ slots ≤ 7293034 := ⟨by omega, by omega⟩
  refine lv_aload_n (i := 1) (x := adr 0) X.1 X.2.1 dw_law_590 rfl (lv_at hl 1 rfl) ?_
  refine l_arg (j := 1) C hS (by omega) (lv_at hl 0 rfl) (lv_at hl 4 rfl) ag_591 ?_
  refine l_call (q := m_RingDater_index) (b := 0) (As := [.inl (xs (i + 1)).toInt]) (rest := []) X lwd_99 hL hs hh hS hl.1 (show (11 : Nat) = 11 from rfl) rfl ⟨by decide +kernel, by decide +kernel⟩ hc0 (by simp) rfl dw_law_597 (sim_index hR (inR_ti _)) (fun v M1 H1 locs1 hv hh1 hS1 => ?_)
  obtain ⟨x, rfl, hx, hB⟩ := hv
  refine lv_aload_n (i := 2) (x := adr 154) X.1 X.2.1 dw_law_600 rfl (lv_at hl 2 rfl) ?_
  refine l_arg (j := 1) C hS1 (by omega) (lv_at hl 0 rfl) (lv_at hl 4 rfl) ag_601 ?_
  refine l_call (q := m_Model_index) (b := 154) (As := [.inl (xs (i + 1)).toInt]) (rest := [.int (iN x)]) X lwd_102 hL hs hh1 hS1 hl.1 (show (12 : Nat) = 12 from rfl) rfl ⟨by decide +kernel, by decide +kernel⟩ hc0 (by simp [Value.category]) rfl dw_law_607 hB (fun v M2 H2 locs2 hv hh2 hS2 => ?_)
  obtain ⟨y, rfl, rfl, hcode, hRel⟩ := hv
  refine lv_icmp_eq (tgt := 1655) X.1 X.2.1 dw_law_610 (by decide) (fun _ => ?_) (fun z => absurd rfl z)
  exact W.widen (by omega) (by omega) (K M2 f H2 locs2 ls hRel hh2 hS2 hl)
set_option maxHeartbeats 4000000 in
set_option maxRecDepth 100000 in
theorem case_8 (C : LCx p s m args c D tA n0 o bs adr adV b L xs) (hfl : l.stackTraces = false) (hR : Rel k M) (hh : LH D tA n0 o bs adr M f H) (hS : LV n0 s H locs) (hl : lv_has ls 7 (lvB b o adr i)) (hi : i + 5 < L) (hk : k ≤ 1000) (hc : cells + 100 ≤ 601024 ∧ slots + 12000 ≤ 7293034) (K : LK p l e s m args below meth c Q D tA n0 o bs adr b i k cells slots) : W p l e room_1 s m args below meth c H locs cells slots Q (F0 m 615 ls []) := by
  obtain ⟨X, hL, hs, hX, hb, h3⟩ := id C
  have hc0 : cells ≤ 601024 ∧ slots ≤ 7293034 := ⟨by omega, by omega⟩
  refine lv_aload_n (i := 1) (x := adr 0) X.1 X.2.1 dw_law_615 rfl (lv_at hl 1 rfl) ?_
  refine l_arg (j := 1) C hS (by omega) (lv_at hl 0 rfl) (lv_at hl 4 rfl) ag_616 ?_
  refine l_call (q := m_RingDater_depth) (b := 0) (As := [.inl (xs (i + 1)).toInt]) (rest := []) X lwd_103 hL hs hh hS hl.1 (show (11 : Nat) = 11 from rfl) rfl ⟨by decide +kernel, by decide +kernel⟩ hc0 (by simp) rfl dw_law_622 (sim_depth hR (inR_ti _)) (fun v M1 H1 locs1 hv hh1 hS1 => ?_)
  obtain ⟨x, rfl, hx, hB⟩ := hv
  refine lv_aload_n (i := 2) (x := adr 154) X.1 X.2.1 dw_law_625 rfl (lv_at hl 2 rfl) ?_
  refine l_arg (j := 1) C hS1 (by omega) (lv_at hl 0 rfl) (lv_at hl 4 rfl) ag_626 ?_
  refine l_call (q := m_Model_depth) (b := 154) (As := [.inl (xs (i + 1)).toInt]) (rest := [.int (iN x)]) X lwd_106 hL hs hh1 hS1 hl.1 (show (12 : Nat) = 12 from rfl) rfl ⟨by decide +kernel, by decide +kernel⟩ hc0 (by simp [Value.category]) rfl dw_law_632 hB (fun v M2 H2 locs2 hv hh2 hS2 => ?_)
  obtain ⟨y, rfl, rfl, hcode, hRel⟩ := hv
  refine lv_icmp_eq (tgt := 1655) X.1 X.2.1 dw_law_635 (by decide) (fun _ => ?_) (fun z => absurd rfl z)
  exact W.widen (by omega) (by omega) (K M2 f H2 locs2 ls hRel hh2 hS2 hl)
set_option maxHeartbeats 4000000 in
set_option maxRecDepth 100000 in
theorem case_9 (C : LCx p s m args c D tA n0 o bs adr adV b L xs) (hfl : l.stackTraces = false) (hR : Rel k M) (hh : LH D tA n0 o bs adr M f H) (hS : LV n0 s H locs) (hl : lv_has ls 7 (lvB b o adr i)) (hi : i + 5 < L) (hk : k ≤ 1000) (hc : cells + 100 ≤ 601024 ∧ slots + 12000 ≤ 7293034) (K : LK p l e s m args below meth c Q D tA n0 o bs adr b i k cells slots) : W p l e room_1 s m args below meth c H locs cells slots Q (F0 m 640 ls []) := by
  obtain ⟨X, hL, hs, hX, hb, h3⟩ := id C
  have hc0 : cells ≤ 601024 ∧ slots ≤ 7293034 := ⟨by omega, by omega⟩
  refine lv_aload_n (i := 1) (x := adr 0) X.1 X.2.1 dw_law_640 rfl (lv_at hl 1 rfl) ?_
  refine l_arg (j := 1) C hS (by omega) (lv_at hl 0 rfl) (lv_at hl 4 rfl) ag_641 ?_
  refine l_arg (j := 2) C hS (by omega) (lv_at hl 0 rfl) (lv_at hl 4 rfl) ag_647 ?_
  refine lv_aload_n (i := 3) (x := o) X.1 X.2.1 dw_law_653 rfl (lv_at hl 3 rfl) ?_
  refine l_wcall (as := [.inl (xs (i + 1)).toInt, .inl (xs (i + 2)).toInt]) C (wr_pointer (simW1 (sim_pointer hR (inR_ti _) (inR_ti _)))) ww_pointer rfl hfl hh hS hl.1 hc rfl dw_law_654 (fun r x M1 f1 H1 locs1 hq hf hh1 hS1 => ?_)
  obtain ⟨⟨hr, hx⟩, hB⟩ := hq
  refine lv_istore (lv' := (5, .int (iN r)) :: lvB b o adr i) X.1 X.2.1 dw_law_657 hl (by decide) rfl (fun ls1 hl1 => ?_)
  refine lv_aload_n (i := 2) (x := adr 154) X.1 X.2.1 dw_law_659 rfl (lv_at hl1 3 rfl) ?_
  refine l_arg (j := 1) C hS1 (by omega) (lv_at hl1 1 rfl) (lv_at hl1 5 rfl) ag_660 ?_
  refine l_arg (j := 2) C hS1 (by omega) (lv_at hl1 1 rfl) (lv_at hl1 5 rfl) ag_666 ?_
  refine l_call (q := m_Model_pointer) (b := 154) (As := [.inl (xs (i + 1)).toInt, .inl (xs (i + 2)).toInt]) (rest := []) X lwd_109 hL hs hh1 hS1 hl1.1 (show (12 : Nat) = 12 from rfl) rfl ⟨by decide +kernel, by decide +kernel⟩ hc (by simp) rfl dw_law_672 hB (fun v M2 H2 locs2 hv hh2 hS2 => ?_)
  obtain ⟨y, rfl, hcode, hxy, hRel⟩ := hv
  refine lv_istore (lv' := (6, .int (iN y)) :: (5, .int (iN r)) :: lvB b o adr i) X.1 X.2.1 dw_law_675 hl1 (by decide) rfl (fun ls2 hl2 => ?_)
  exact l_tailW C lwd_77 hl2 hr hf hxy hcode hh2 hS2 td_677 hc (fun H3 locs3 hh3 hS3 => K M2 f1 H3 locs3 ls2 hRel hh3 hS3 (lv_sub hl2 [2, 3, 4, 5, 6] rfl))
set_option maxHeartbeats 4000000 in
set_option maxRecDepth 100000 in
theorem case_10 (C : LCx p s m args c D tA n0 o bs adr adV b L xs) (hfl : l.stackTraces = false) (hR : Rel k M) (hh : LH D tA n0 o bs adr M f H) (hS : LV n0 s H locs) (hl : lv_has ls 7 (lvB b o adr i)) (hi : i + 5 < L) (hk : k ≤ 1000) (hc : cells + 100 ≤ 601024 ∧ slots + 12000 ≤ 7293034) (K : LK p l e s m args below meth c Q D tA n0 o bs adr b i k cells slots) : W p l e room_1 s m args below meth c H locs cells slots Q (F0 m 708 ls []) := by
  obtain ⟨X, hL, hs, hX, hb, h3⟩ := id C
  have hc0 : cells ≤ 601024 ∧ slots ≤ 7293034 := ⟨by omega, by omega⟩
  refine lv_aload_n (i := 1) (x := adr 0) X.1 X.2.1 dw_law_708 rfl (lv_at hl 1 rfl) ?_
  refine l_arg (j := 1) C hS (by omega) (lv_at hl 0 rfl) (lv_at hl 4 rfl) ag_709 ?_
  refine l_arg (j := 2) C hS (by omega) (lv_at hl 0 rfl) (lv_at hl 4 rfl) ag_715 ?_
  refine l_arg (j := 3) C hS (by omega) (lv_at hl 0 rfl) (lv_at hl 4 rfl) ag_721 ?_
  refine l_arg (j := 4) C hS (by omega) (lv_at hl 0 rfl) (lv_at hl 4 rfl) ag_727 ?_
  refine lv_aload_n (i := 3) (x := o) X.1 X.2.1 dw_law_733 rfl (lv_at hl 3 rfl) ?_
  refine l_wcall (as := [.inl (xs (i + 1)).toInt, .inl (xs (i + 2)).toInt, .inl (xs (i + 3)).toInt, .inl (xs (i + 4)).toInt]) C (wr_slid (simW2 (sim_slid hR (inR_ti _) (inR_ti _) (inR_ti _) (inR_ti _)))) ww_slid rfl hfl hh hS hl.1 hc rfl dw_law_734 (fun r x M1 f1 H1 locs1 hq hf hh1 hS1 => ?_)
  obtain ⟨⟨hr, hx⟩, hB⟩ := hq
  refine lv_istore (lv' := (5, .int (iN r)) :: lvB b o adr i) X.1 X.2.1 dw_law_737 hl (by decide) rfl (fun ls1 hl1 => ?_)
  refine lv_aload_n (i := 2) (x := adr 154) X.1 X.2.1 dw_law_739 rfl (lv_at hl1 3 rfl) ?_
  refine l_arg (j := 1) C hS1 (by omega) (lv_at hl1 1 rfl) (lv_at hl1 5 rfl) ag_740 ?_
  refine l_arg (j := 2) C hS1 (by omega) (lv_at hl1 1 rfl) (lv_at hl1 5 rfl) ag_746 ?_
  refine l_arg (j := 3) C hS1 (by omega) (lv_at hl1 1 rfl) (lv_at hl1 5 rfl) ag_752 ?_
  refine l_arg (j := 4) C hS1 (by omega) (lv_at hl1 1 rfl) (lv_at hl1 5 rfl) ag_758 ?_
  refine l_call (q := m_Model_slid) (b := 154) (As := [.inl (xs (i + 1)).toInt, .inl (xs (i + 2)).toInt, .inl (xs (i + 3)).toInt, .inl (xs (i + 4)).toInt]) (rest := []) X lwd_113 hL hs hh1 hS1 hl1.1 (show (12 : Nat) = 12 from rfl) rfl ⟨by decide +kernel, by decide +kernel⟩ hc (by simp) rfl dw_law_764 hB (fun v M2 H2 locs2 hv hh2 hS2 => ?_)
  obtain ⟨y, rfl, hcode, hxy, hRel⟩ := hv
  refine lv_istore (lv' := (6, .int (iN y)) :: (5, .int (iN r)) :: lvB b o adr i) X.1 X.2.1 dw_law_767 hl1 (by decide) rfl (fun ls2 hl2 => ?_)
  exact l_tailW C lwd_77 hl2 hr hf hxy hcode hh2 hS2 td_769 hc (fun H3 locs3 hh3 hS3 => K M2 f1 H3 locs3 ls2 hRel hh3 hS3 (lv_sub hl2 [2, 3, 4, 5, 6] rfl))
set_option maxHeartbeats 4000000 in
set_option maxRecDepth 100000 in
theorem case_11 (C : LCx p s m args c D tA n0 o bs adr adV b L xs) (hfl : l.stackTraces = false) (hR : Rel k M) (hh : LH D tA n0 o bs adr M f H) (hS : LV n0 s H locs) (hl : lv_has ls 7 (lvB b o adr i)) (hi : i + 5 < L) (hk : k ≤ 1000) (hc : cells + 100 ≤ 601024 ∧ slots + 12000 ≤ 7293034) (K : LK p l e s m args below meth c Q D tA n0 o bs adr b i k cells slots) : W p l e room_1 s m args below meth c H locs cells slots Q (F0 m 800 ls []) := by
  obtain ⟨X, hL, hs, hX, hb, h3⟩ := id C
  have hc0 : cells ≤ 601024 ∧ slots ≤ 7293034 := ⟨by omega, by omega⟩
  refine lv_aload_n (i := 1) (x := adr 0) X.1 X.2.1 dw_law_800 rfl (lv_at hl 1 rfl) ?_
  refine l_arg (j := 1) C hS (by omega) (lv_at hl 0 rfl) (lv_at hl 4 rfl) ag_801 ?_
  refine l_arg (j := 2) C hS (by omega) (lv_at hl 0 rfl) (lv_at hl 4 rfl) ag_807 ?_
  refine l_arg (j := 3) C hS (by omega) (lv_at hl 0 rfl) (lv_at hl 4 rfl) ag_813 ?_
  refine lv_aload_n (i := 3) (x := o) X.1 X.2.1 dw_law_819 rfl (lv_at hl 3 rfl) ?_
  refine l_wcall (as := [.inl (xs (i + 1)).toInt, .inl (xs (i + 2)).toInt, .inl (xs (i + 3)).toInt]) C (wr_best (simW2 (sim_best hR (inR_ti _) (inR_ti _) (inR_ti _)))) ww_best rfl hfl hh hS hl.1 hc rfl dw_law_820 (fun r x M1 f1 H1 locs1 hq hf hh1 hS1 => ?_)
  obtain ⟨⟨hr, hx⟩, hB⟩ := hq
  refine lv_istore (lv' := (5, .int (iN r)) :: lvB b o adr i) X.1 X.2.1 dw_law_823 hl (by decide) rfl (fun ls1 hl1 => ?_)
  refine lv_aload_n (i := 2) (x := adr 154) X.1 X.2.1 dw_law_825 rfl (lv_at hl1 3 rfl) ?_
  refine l_arg (j := 1) C hS1 (by omega) (lv_at hl1 1 rfl) (lv_at hl1 5 rfl) ag_826 ?_
  refine l_arg (j := 2) C hS1 (by omega) (lv_at hl1 1 rfl) (lv_at hl1 5 rfl) ag_832 ?_
  refine l_arg (j := 3) C hS1 (by omega) (lv_at hl1 1 rfl) (lv_at hl1 5 rfl) ag_838 ?_
  refine l_call (q := m_Model_best) (b := 154) (As := [.inl (xs (i + 1)).toInt, .inl (xs (i + 2)).toInt, .inl (xs (i + 3)).toInt]) (rest := []) X lwd_116 hL hs hh1 hS1 hl1.1 (show (12 : Nat) = 12 from rfl) rfl ⟨by decide +kernel, by decide +kernel⟩ hc (by simp) rfl dw_law_844 hB (fun v M2 H2 locs2 hv hh2 hS2 => ?_)
  obtain ⟨y, rfl, hcode, hxy, hRel⟩ := hv
  refine lv_istore (lv' := (6, .int (iN y)) :: (5, .int (iN r)) :: lvB b o adr i) X.1 X.2.1 dw_law_847 hl1 (by decide) rfl (fun ls2 hl2 => ?_)
  exact l_tailW C lwd_77 hl2 hr hf hxy hcode hh2 hS2 td_849 hc (fun H3 locs3 hh3 hS3 => K M2 f1 H3 locs3 ls2 hRel hh3 hS3 (lv_sub hl2 [2, 3, 4, 5, 6] rfl))
set_option maxHeartbeats 4000000 in
set_option maxRecDepth 100000 in
theorem case_12 (C : LCx p s m args c D tA n0 o bs adr adV b L xs) (hfl : l.stackTraces = false) (hR : Rel k M) (hh : LH D tA n0 o bs adr M f H) (hS : LV n0 s H locs) (hl : lv_has ls 7 (lvB b o adr i)) (hi : i + 5 < L) (hk : k ≤ 1000) (hc : cells + 100 ≤ 601024 ∧ slots + 12000 ≤ 7293034) (K : LK p l e s m args below meth c Q D tA n0 o bs adr b i k cells slots) : W p l e room_1 s m args below meth c H locs cells slots Q (F0 m 880 ls []) := by
  obtain ⟨X, hL, hs, hX, hb, h3⟩ := id C
  have hc0 : cells ≤ 601024 ∧ slots ≤ 7293034 := ⟨by omega, by omega⟩
  refine lv_aload_n (i := 1) (x := adr 0) X.1 X.2.1 dw_law_880 rfl (lv_at hl 1 rfl) ?_
  refine l_arg (j := 1) C hS (by omega) (lv_at hl 0 rfl) (lv_at hl 4 rfl) ag_881 ?_
  refine l_arg (j := 2) C hS (by omega) (lv_at hl 0 rfl) (lv_at hl 4 rfl) ag_887 ?_
  refine lv_aload_n (i := 3) (x := o) X.1 X.2.1 dw_law_893 rfl (lv_at hl 3 rfl) ?_
  refine l_wcall (as := [.inl (xs (i + 1)).toInt, .inl (xs (i + 2)).toInt]) C (wr_link (simW1 (sim_link hR (inR_ti _) (inR_ti _)))) ww_link rfl hfl hh hS hl.1 hc rfl dw_law_894 (fun r x M1 f1 H1 locs1 hq hf hh1 hS1 => ?_)
  obtain ⟨⟨hr, hx⟩, hB⟩ := hq
  refine lv_istore (lv' := (5, .int (iN r)) :: lvB b o adr i) X.1 X.2.1 dw_law_897 hl (by decide) rfl (fun ls1 hl1 => ?_)
  refine lv_aload_n (i := 2) (x := adr 154) X.1 X.2.1 dw_law_899 rfl (lv_at hl1 3 rfl) ?_
  refine l_arg (j := 1) C hS1 (by omega) (lv_at hl1 1 rfl) (lv_at hl1 5 rfl) ag_900 ?_
  refine l_arg (j := 2) C hS1 (by omega) (lv_at hl1 1 rfl) (lv_at hl1 5 rfl) ag_906 ?_
  refine l_call (q := m_Model_link) (b := 154) (As := [.inl (xs (i + 1)).toInt, .inl (xs (i + 2)).toInt]) (rest := []) X lwd_119 hL hs hh1 hS1 hl1.1 (show (12 : Nat) = 12 from rfl) rfl ⟨by decide +kernel, by decide +kernel⟩ hc (by simp) rfl dw_law_912 hB (fun v M2 H2 locs2 hv hh2 hS2 => ?_)
  obtain ⟨y, rfl, hcode, hxy, hRel⟩ := hv
  refine lv_istore (lv' := (6, .int (iN y)) :: (5, .int (iN r)) :: lvB b o adr i) X.1 X.2.1 dw_law_915 hl1 (by decide) rfl (fun ls2 hl2 => ?_)
  exact l_tailW C lwd_77 hl2 hr hf hxy hcode hh2 hS2 td_917 hc (fun H3 locs3 hh3 hS3 => K M2 f1 H3 locs3 ls2 hRel hh3 hS3 (lv_sub hl2 [2, 3, 4, 5, 6] rfl))
set_option maxHeartbeats 4000000 in
set_option maxRecDepth 100000 in
theorem case_13 (C : LCx p s m args c D tA n0 o bs adr adV b L xs) (hfl : l.stackTraces = false) (hR : Rel k M) (hh : LH D tA n0 o bs adr M f H) (hS : LV n0 s H locs) (hl : lv_has ls 7 (lvB b o adr i)) (hi : i + 5 < L) (hk : k ≤ 1000) (hc : cells + 100 ≤ 601024 ∧ slots + 12000 ≤ 7293034) (K : LK p l e s m args below meth c Q D tA n0 o bs adr b i k cells slots) : W p l e room_1 s m args below meth c H locs cells slots Q (F0 m 948 ls []) := by
  obtain ⟨X, hL, hs, hX, hb, h3⟩ := id C
  have hc0 : cells ≤ 601024 ∧ slots ≤ 7293034 := ⟨by omega, by omega⟩
  refine lv_aload_n (i := 1) (x := adr 0) X.1 X.2.1 dw_law_948 rfl (lv_at hl 1 rfl) ?_
  refine l_arg (j := 1) C hS (by omega) (lv_at hl 0 rfl) (lv_at hl 4 rfl) ag_949 ?_
  refine l_arg (j := 2) C hS (by omega) (lv_at hl 0 rfl) (lv_at hl 4 rfl) ag_955 ?_
  refine lv_aload_n (i := 3) (x := o) X.1 X.2.1 dw_law_961 rfl (lv_at hl 3 rfl) ?_
  refine l_wcall (as := [.inl (xs (i + 1)).toInt, .inl (xs (i + 2)).toInt]) C (wr_grown (simW1 (sim_grown hR (inR_ti _) (inR_ti _)))) ww_grown rfl hfl hh hS hl.1 hc rfl dw_law_962 (fun r x M1 f1 H1 locs1 hq hf hh1 hS1 => ?_)
  obtain ⟨⟨hr, hx⟩, hB⟩ := hq
  refine lv_istore (lv' := (5, .int (iN r)) :: lvB b o adr i) X.1 X.2.1 dw_law_965 hl (by decide) rfl (fun ls1 hl1 => ?_)
  refine lv_aload_n (i := 2) (x := adr 154) X.1 X.2.1 dw_law_967 rfl (lv_at hl1 3 rfl) ?_
  refine l_arg (j := 1) C hS1 (by omega) (lv_at hl1 1 rfl) (lv_at hl1 5 rfl) ag_968 ?_
  refine l_arg (j := 2) C hS1 (by omega) (lv_at hl1 1 rfl) (lv_at hl1 5 rfl) ag_974 ?_
  refine l_call (q := m_Model_grown) (b := 154) (As := [.inl (xs (i + 1)).toInt, .inl (xs (i + 2)).toInt]) (rest := []) X lwd_122 hL hs hh1 hS1 hl1.1 (show (12 : Nat) = 12 from rfl) rfl ⟨by decide +kernel, by decide +kernel⟩ hc (by simp) rfl dw_law_980 hB (fun v M2 H2 locs2 hv hh2 hS2 => ?_)
  obtain ⟨y, rfl, hcode, hxy, hRel⟩ := hv
  refine lv_istore (lv' := (6, .int (iN y)) :: (5, .int (iN r)) :: lvB b o adr i) X.1 X.2.1 dw_law_983 hl1 (by decide) rfl (fun ls2 hl2 => ?_)
  exact l_tailW C lwd_77 hl2 hr hf hxy hcode hh2 hS2 td_985 hc (fun H3 locs3 hh3 hS3 => K M2 f1 H3 locs3 ls2 hRel hh3 hS3 (lv_sub hl2 [2, 3, 4, 5, 6] rfl))
set_option maxHeartbeats 4000000 in
set_option maxRecDepth 100000 in
theorem case_14 (C : LCx p s m args c D tA n0 o bs adr adV b L xs) (hfl : l.stackTraces = false) (hR : Rel k M) (hh : LH D tA n0 o bs adr M f H) (hS : LV n0 s H locs) (hl : lv_has ls 7 (lvB b o adr i)) (hi : i + 5 < L) (hk : k ≤ 1000) (hc : cells + 100 ≤ 601024 ∧ slots + 12000 ≤ 7293034) (K : LK p l e s m args below meth c Q D tA n0 o bs adr b i k cells slots) : W p l e room_1 s m args below meth c H locs cells slots Q (F0 m 1016 ls []) := by
  obtain ⟨X, hL, hs, hX, hb, h3⟩ := id C
  have hc0 : cells ≤ 601024 ∧ slots ≤ 7293034 := ⟨by omega, by omega⟩
  refine lv_aload_n (i := 1) (x := adr 0) X.1 X.2.1 dw_law_1016 rfl (lv_at hl 1 rfl) ?_
  refine l_arg (j := 1) C hS (by omega) (lv_at hl 0 rfl) (lv_at hl 4 rfl) ag_1017 ?_
  refine l_arg (j := 2) C hS (by omega) (lv_at hl 0 rfl) (lv_at hl 4 rfl) ag_1023 ?_
  refine lv_aload_n (i := 3) (x := o) X.1 X.2.1 dw_law_1029 rfl (lv_at hl 3 rfl) ?_
  refine l_wcall (as := [.inl (xs (i + 1)).toInt, .inl (xs (i + 2)).toInt]) C (wr_help (simW2 (sim_help hR (inR_ti _) (inR_ti _)))) ww_help rfl hfl hh hS hl.1 hc rfl dw_law_1030 (fun r x M1 f1 H1 locs1 hq hf hh1 hS1 => ?_)
  obtain ⟨⟨hr, hx⟩, hB⟩ := hq
  refine lv_istore (lv' := (5, .int (iN r)) :: lvB b o adr i) X.1 X.2.1 dw_law_1033 hl (by decide) rfl (fun ls1 hl1 => ?_)
  refine lv_aload_n (i := 2) (x := adr 154) X.1 X.2.1 dw_law_1035 rfl (lv_at hl1 3 rfl) ?_
  refine l_arg (j := 1) C hS1 (by omega) (lv_at hl1 1 rfl) (lv_at hl1 5 rfl) ag_1036 ?_
  refine l_arg (j := 2) C hS1 (by omega) (lv_at hl1 1 rfl) (lv_at hl1 5 rfl) ag_1042 ?_
  refine l_call (q := m_Model_help) (b := 154) (As := [.inl (xs (i + 1)).toInt, .inl (xs (i + 2)).toInt]) (rest := []) X lwd_125 hL hs hh1 hS1 hl1.1 (show (12 : Nat) = 12 from rfl) rfl ⟨by decide +kernel, by decide +kernel⟩ hc (by simp) rfl dw_law_1048 hB (fun v M2 H2 locs2 hv hh2 hS2 => ?_)
  obtain ⟨y, rfl, hcode, hxy, hRel⟩ := hv
  refine lv_istore (lv' := (6, .int (iN y)) :: (5, .int (iN r)) :: lvB b o adr i) X.1 X.2.1 dw_law_1051 hl1 (by decide) rfl (fun ls2 hl2 => ?_)
  exact l_tailW C lwd_77 hl2 hr hf hxy hcode hh2 hS2 td_1053 hc (fun H3 locs3 hh3 hS3 => K M2 f1 H3 locs3 ls2 hRel hh3 hS3 (lv_sub hl2 [2, 3, 4, 5, 6] rfl))
set_option maxHeartbeats 4000000 in
set_option maxRecDepth 100000 in
theorem case_15 (C : LCx p s m args c D tA n0 o bs adr adV b L xs) (hfl : l.stackTraces = false) (hR : Rel k M) (hh : LH D tA n0 o bs adr M f H) (hS : LV n0 s H locs) (hl : lv_has ls 7 (lvB b o adr i)) (hi : i + 5 < L) (hk : k ≤ 1000) (hc : cells + 100 ≤ 601024 ∧ slots + 12000 ≤ 7293034) (K : LK p l e s m args below meth c Q D tA n0 o bs adr b i k cells slots) : W p l e room_1 s m args below meth c H locs cells slots Q (F0 m 1084 ls []) := by
  obtain ⟨X, hL, hs, hX, hb, h3⟩ := id C
  have hc0 : cells ≤ 601024 ∧ slots ≤ 7293034 := ⟨by omega, by omega⟩
  refine lv_aload_n (i := 1) (x := adr 0) X.1 X.2.1 dw_law_1084 rfl (lv_at hl 1 rfl) ?_
  refine l_arg (j := 1) C hS (by omega) (lv_at hl 0 rfl) (lv_at hl 4 rfl) ag_1085 ?_
  refine l_arg (j := 2) C hS (by omega) (lv_at hl 0 rfl) (lv_at hl 4 rfl) ag_1091 ?_
  refine l_call (q := m_RingDater_date) (b := 0) (As := [.inl (xs (i + 1)).toInt, .inl (xs (i + 2)).toInt]) (rest := []) X lwd_126 hL hs hh hS hl.1 (show (11 : Nat) = 11 from rfl) rfl ⟨by decide +kernel, by decide +kernel⟩ hc0 (by simp) rfl dw_law_1097 (sim_date hR (inR_ti _) (inR_ti _)) (fun v M1 H1 locs1 hv hh1 hS1 => ?_)
  obtain ⟨x, rfl, hx, hB⟩ := hv
  refine lv_aload_n (i := 2) (x := adr 154) X.1 X.2.1 dw_law_1100 rfl (lv_at hl 2 rfl) ?_
  refine l_arg (j := 1) C hS1 (by omega) (lv_at hl 0 rfl) (lv_at hl 4 rfl) ag_1101 ?_
  refine l_arg (j := 2) C hS1 (by omega) (lv_at hl 0 rfl) (lv_at hl 4 rfl) ag_1107 ?_
  refine l_call (q := m_Model_date) (b := 154) (As := [.inl (xs (i + 1)).toInt, .inl (xs (i + 2)).toInt]) (rest := [.int (iN x)]) X lwd_129 hL hs hh1 hS1 hl.1 (show (12 : Nat) = 12 from rfl) rfl ⟨by decide +kernel, by decide +kernel⟩ hc0 (by simp [Value.category]) rfl dw_law_1113 hB (fun v M2 H2 locs2 hv hh2 hS2 => ?_)
  obtain ⟨y, rfl, rfl, hcode, hRel⟩ := hv
  refine lv_icmp_eq (tgt := 1655) X.1 X.2.1 dw_law_1116 (by decide) (fun _ => ?_) (fun z => absurd rfl z)
  exact W.widen (by omega) (by omega) (K M2 f H2 locs2 ls hRel hh2 hS2 hl)
set_option maxHeartbeats 4000000 in
set_option maxRecDepth 100000 in
theorem case_16 (C : LCx p s m args c D tA n0 o bs adr adV b L xs) (hfl : l.stackTraces = false) (hR : Rel k M) (hh : LH D tA n0 o bs adr M f H) (hS : LV n0 s H locs) (hl : lv_has ls 7 (lvB b o adr i)) (hi : i + 5 < L) (hk : k ≤ 1000) (hc : cells + 100 ≤ 601024 ∧ slots + 12000 ≤ 7293034) (K : LK p l e s m args below meth c Q D tA n0 o bs adr b i k cells slots) : W p l e room_1 s m args below meth c H locs cells slots Q (F0 m 1121 ls []) := by
  obtain ⟨X, hL, hs, hX, hb, h3⟩ := id C
  have hc0 : cells ≤ 601024 ∧ slots ≤ 7293034 := ⟨by omega, by omega⟩
  refine lv_aload_n (i := 1) (x := adr 0) X.1 X.2.1 dw_law_1121 rfl (lv_at hl 1 rfl) ?_
  refine l_arg (j := 1) C hS (by omega) (lv_at hl 0 rfl) (lv_at hl 4 rfl) ag_1122 ?_
  refine l_call (q := m_RingDater_settle) (b := 0) (As := [.inl (xs (i + 1)).toInt]) (rest := []) X lwd_130 hL hs hh hS hl.1 (show (11 : Nat) = 11 from rfl) rfl ⟨by decide +kernel, by decide +kernel⟩ hc0 (by simp) rfl dw_law_1128 (sim_settle hR (inR_ti _)) (fun v M1 H1 locs1 hv hh1 hS1 => ?_)
  obtain ⟨x, rfl, hx, hB⟩ := hv
  refine lv_aload_n (i := 2) (x := adr 154) X.1 X.2.1 dw_law_1131 rfl (lv_at hl 2 rfl) ?_
  refine l_arg (j := 1) C hS1 (by omega) (lv_at hl 0 rfl) (lv_at hl 4 rfl) ag_1132 ?_
  refine l_call (q := m_Model_settle) (b := 154) (As := [.inl (xs (i + 1)).toInt]) (rest := [.int (iN x)]) X lwd_133 hL hs hh1 hS1 hl.1 (show (12 : Nat) = 12 from rfl) rfl ⟨by decide +kernel, by decide +kernel⟩ hc0 (by simp [Value.category]) rfl dw_law_1138 hB (fun v M2 H2 locs2 hv hh2 hS2 => ?_)
  obtain ⟨y, rfl, rfl, hcode, hRel⟩ := hv
  refine lv_icmp_eq (tgt := 1655) X.1 X.2.1 dw_law_1141 (by decide) (fun _ => ?_) (fun z => absurd rfl z)
  exact W.widen (by omega) (by omega) (K M2 f H2 locs2 ls hRel hh2 hS2 hl)
set_option maxHeartbeats 4000000 in
set_option maxRecDepth 100000 in
theorem case_17 (C : LCx p s m args c D tA n0 o bs adr adV b L xs) (hfl : l.stackTraces = false) (hR : Rel k M) (hh : LH D tA n0 o bs adr M f H) (hS : LV n0 s H locs) (hl : lv_has ls 7 (lvB b o adr i)) (hi : i + 5 < L) (hk : k ≤ 1000) (hc : cells + 100 ≤ 601024 ∧ slots + 12000 ≤ 7293034) (K : LK p l e s m args below meth c Q D tA n0 o bs adr b i k cells slots) : W p l e room_1 s m args below meth c H locs cells slots Q (F0 m 1146 ls []) := by
  obtain ⟨X, hL, hs, hX, hb, h3⟩ := id C
  have hc0 : cells ≤ 601024 ∧ slots ≤ 7293034 := ⟨by omega, by omega⟩
  refine lv_aload_n (i := 1) (x := adr 0) X.1 X.2.1 dw_law_1146 rfl (lv_at hl 1 rfl) ?_
  refine l_call (q := m_RingDater_grow) (b := 0) (As := []) (rest := []) X lwd_134 hL hs hh hS hl.1 (show (11 : Nat) = 11 from rfl) rfl ⟨by decide +kernel, by decide +kernel⟩ hc0 (by simp) rfl dw_law_1147 (sim_grow hR) (fun v M1 H1 locs1 hv hh1 hS1 => ?_)
  obtain ⟨x, rfl, hx, hB⟩ := hv
  refine lv_aload_n (i := 2) (x := adr 154) X.1 X.2.1 dw_law_1150 rfl (lv_at hl 2 rfl) ?_
  refine l_call (q := m_Model_grow) (b := 154) (As := []) (rest := [.int (iN x)]) X lwd_137 hL hs hh1 hS1 hl.1 (show (12 : Nat) = 12 from rfl) rfl ⟨by decide +kernel, by decide +kernel⟩ hc0 (by simp [Value.category]) rfl dw_law_1151 hB (fun v M2 H2 locs2 hv hh2 hS2 => ?_)
  obtain ⟨y, rfl, rfl, hcode, hRel⟩ := hv
  refine lv_icmp_eq (tgt := 1655) X.1 X.2.1 dw_law_1154 (by decide) (fun _ => ?_) (fun z => absurd rfl z)
  exact W.widen (by omega) (by omega) (K M2 f H2 locs2 ls hRel hh2 hS2 hl)
set_option maxHeartbeats 4000000 in
set_option maxRecDepth 100000 in
theorem case_18 (C : LCx p s m args c D tA n0 o bs adr adV b L xs) (hfl : l.stackTraces = false) (hR : Rel k M) (hh : LH D tA n0 o bs adr M f H) (hS : LV n0 s H locs) (hl : lv_has ls 7 (lvB b o adr i)) (hi : i + 5 < L) (hk : k ≤ 1000) (hc : cells + 100 ≤ 601024 ∧ slots + 12000 ≤ 7293034) (K : LK p l e s m args below meth c Q D tA n0 o bs adr b i k cells slots) : W p l e room_1 s m args below meth c H locs cells slots Q (F0 m 1159 ls []) := by
  obtain ⟨X, hL, hs, hX, hb, h3⟩ := id C
  have hc0 : cells ≤ 601024 ∧ slots ≤ 7293034 := ⟨by omega, by omega⟩
  refine lv_aload_n (i := 1) (x := adr 0) X.1 X.2.1 dw_law_1159 rfl (lv_at hl 1 rfl) ?_
  refine l_arg (j := 1) C hS (by omega) (lv_at hl 0 rfl) (lv_at hl 4 rfl) ag_1160 ?_
  refine l_arg (j := 2) C hS (by omega) (lv_at hl 0 rfl) (lv_at hl 4 rfl) ag_1166 ?_
  refine l_arg (j := 3) C hS (by omega) (lv_at hl 0 rfl) (lv_at hl 4 rfl) ag_1172 ?_
  have hz : ∀ z : Int32, z ≠ 0 → iN z.toInt ≠ 0 := fun z h => by rw [iN_ti]; exact h
  obtain ⟨z, hz, k1, k2⟩ : ∃ z : Int, (z = 0 ∨ z = 1) ∧ ((iN (xs (i + 3)).toInt = 0) → z = 0) ∧ (iN (xs (i + 3)).toInt ≠ 0 → z = 1) := by
    by_cases h : iN (xs (i + 3)).toInt = 0
    · exact ⟨0, .inl rfl, fun _ => rfl, fun z => absurd h z⟩
    · exact ⟨1, .inr rfl, fun z => absurd z h, fun _ => rfl⟩
  suffices G : W p l e room_1 s m args below meth c H locs cells slots Q (F0 m 1186 ls [.int (iN z), .int (iN (xs (i + 2)).toInt), .int (iN (xs (i + 1)).toInt), .ref (adr 0)]) by
    refine lv_if_eq (tgt := 1185) X.1 X.2.1 dw_law_1178 (by decide) (fun h => ?_) (fun h => ?_)
    · rw [k1 h] at G
      exact lv_iconst (v := iN 0) X.1 X.2.1 dw_law_1185 (by decide) G
    · rw [k2 h] at G
      exact lv_iconst (v := iN 1) X.1 X.2.1 dw_law_1181 (by decide) (lv_goto X.1 X.2.1 dw_law_1182 (by decide) G)
  refine l_call (q := m_RingDater_mend) (b := 0) (As := [.inl (xs (i + 1)).toInt, .inl (xs (i + 2)).toInt, .inl z]) (rest := []) X lwd_138 hL hs hh hS hl.1 (show (11 : Nat) = 11 from rfl) rfl ⟨by decide +kernel, by decide +kernel⟩ hc0 (by simp) rfl dw_law_1186 (sim_mend hR (inR_ti _) (inR_ti _) hz) (fun v M1 H1 locs1 hv hh1 hS1 => ?_)
  obtain ⟨x, rfl, hx, hB⟩ := hv
  refine lv_aload_n (i := 2) (x := adr 154) X.1 X.2.1 dw_law_1189 rfl (lv_at hl 2 rfl) ?_
  refine l_arg (j := 1) C hS1 (by omega) (lv_at hl 0 rfl) (lv_at hl 4 rfl) ag_1190 ?_
  refine l_arg (j := 2) C hS1 (by omega) (lv_at hl 0 rfl) (lv_at hl 4 rfl) ag_1196 ?_
  refine l_arg (j := 3) C hS1 (by omega) (lv_at hl 0 rfl) (lv_at hl 4 rfl) ag_1202 ?_
  suffices G : W p l e room_1 s m args below meth c H1 locs1 cells slots Q (F0 m 1216 ls [.int (iN z), .int (iN (xs (i + 2)).toInt), .int (iN (xs (i + 1)).toInt), .ref (adr 154), .int (iN x)]) by
    refine lv_if_eq (tgt := 1215) X.1 X.2.1 dw_law_1208 (by decide) (fun h => ?_) (fun h => ?_)
    · rw [k1 h] at G
      exact lv_iconst (v := iN 0) X.1 X.2.1 dw_law_1215 (by decide) G
    · rw [k2 h] at G
      exact lv_iconst (v := iN 1) X.1 X.2.1 dw_law_1211 (by decide) (lv_goto X.1 X.2.1 dw_law_1212 (by decide) G)
  refine l_call (q := m_Model_mend) (b := 154) (As := [.inl (xs (i + 1)).toInt, .inl (xs (i + 2)).toInt, .inl z]) (rest := [.int (iN x)]) X lwd_142 hL hs hh1 hS1 hl.1 (show (12 : Nat) = 12 from rfl) rfl ⟨by decide +kernel, by decide +kernel⟩ hc0 (by simp [Value.category]) rfl dw_law_1216 hB (fun v M2 H2 locs2 hv hh2 hS2 => ?_)
  obtain ⟨y, rfl, rfl, hcode, hRel⟩ := hv
  refine lv_icmp_eq (tgt := 1655) X.1 X.2.1 dw_law_1219 (by decide) (fun _ => ?_) (fun z => absurd rfl z)
  exact W.widen (by omega) (by omega) (K M2 f H2 locs2 ls hRel hh2 hS2 hl)
set_option maxHeartbeats 4000000 in
set_option maxRecDepth 100000 in
theorem case_19 (C : LCx p s m args c D tA n0 o bs adr adV b L xs) (hfl : l.stackTraces = false) (hR : Rel k M) (hh : LH D tA n0 o bs adr M f H) (hS : LV n0 s H locs) (hl : lv_has ls 7 (lvB b o adr i)) (hi : i + 5 < L) (hk : k ≤ 1000) (hc : cells + 100 ≤ 601024 ∧ slots + 12000 ≤ 7293034) (K : LK p l e s m args below meth c Q D tA n0 o bs adr b i k cells slots) : W p l e room_1 s m args below meth c H locs cells slots Q (F0 m 1224 ls []) := by
  obtain ⟨X, hL, hs, hX, hb, h3⟩ := id C
  have hc0 : cells ≤ 601024 ∧ slots ≤ 7293034 := ⟨by omega, by omega⟩
  refine lv_aload_n (i := 1) (x := adr 0) X.1 X.2.1 dw_law_1224 rfl (lv_at hl 1 rfl) ?_
  refine l_arg (j := 1) C hS (by omega) (lv_at hl 0 rfl) (lv_at hl 4 rfl) ag_1225 ?_
  refine l_arg (j := 2) C hS (by omega) (lv_at hl 0 rfl) (lv_at hl 4 rfl) ag_1231 ?_
  refine l_call (q := m_RingDater_doubt) (b := 0) (As := [.inl (xs (i + 1)).toInt, .inl (xs (i + 2)).toInt]) (rest := []) X lwd_143 hL hs hh hS hl.1 (show (11 : Nat) = 11 from rfl) rfl ⟨by decide +kernel, by decide +kernel⟩ hc0 (by simp) rfl dw_law_1237 (sim_doubt hR (inR_ti _) (inR_ti _)) (fun v M1 H1 locs1 hv hh1 hS1 => ?_)
  obtain ⟨x, rfl, hx, hB⟩ := hv
  refine lv_aload_n (i := 2) (x := adr 154) X.1 X.2.1 dw_law_1240 rfl (lv_at hl 2 rfl) ?_
  refine l_arg (j := 1) C hS1 (by omega) (lv_at hl 0 rfl) (lv_at hl 4 rfl) ag_1241 ?_
  refine l_arg (j := 2) C hS1 (by omega) (lv_at hl 0 rfl) (lv_at hl 4 rfl) ag_1247 ?_
  refine l_call (q := m_Model_doubt) (b := 154) (As := [.inl (xs (i + 1)).toInt, .inl (xs (i + 2)).toInt]) (rest := [.int (iN x)]) X lwd_146 hL hs hh1 hS1 hl.1 (show (12 : Nat) = 12 from rfl) rfl ⟨by decide +kernel, by decide +kernel⟩ hc0 (by simp [Value.category]) rfl dw_law_1253 hB (fun v M2 H2 locs2 hv hh2 hS2 => ?_)
  obtain ⟨y, rfl, rfl, hcode, hRel⟩ := hv
  refine lv_icmp_eq (tgt := 1655) X.1 X.2.1 dw_law_1256 (by decide) (fun _ => ?_) (fun z => absurd rfl z)
  exact W.widen (by omega) (by omega) (K M2 f H2 locs2 ls hRel hh2 hS2 hl)
set_option maxHeartbeats 4000000 in
set_option maxRecDepth 100000 in
theorem case_20 (C : LCx p s m args c D tA n0 o bs adr adV b L xs) (hfl : l.stackTraces = false) (hR : Rel k M) (hh : LH D tA n0 o bs adr M f H) (hS : LV n0 s H locs) (hl : lv_has ls 7 (lvB b o adr i)) (hi : i + 5 < L) (hk : k ≤ 1000) (hc : cells + 100 ≤ 601024 ∧ slots + 12000 ≤ 7293034) (K : LK p l e s m args below meth c Q D tA n0 o bs adr b i k cells slots) : W p l e room_1 s m args below meth c H locs cells slots Q (F0 m 1261 ls []) := by
  obtain ⟨X, hL, hs, hX, hb, h3⟩ := id C
  have hc0 : cells ≤ 601024 ∧ slots ≤ 7293034 := ⟨by omega, by omega⟩
  refine lv_aload_n (i := 1) (x := adr 0) X.1 X.2.1 dw_law_1261 rfl (lv_at hl 1 rfl) ?_
  refine l_arg (j := 1) C hS (by omega) (lv_at hl 0 rfl) (lv_at hl 4 rfl) ag_1262 ?_
  refine l_arg (j := 2) C hS (by omega) (lv_at hl 0 rfl) (lv_at hl 4 rfl) ag_1268 ?_
  refine l_call (q := m_RingDater_move) (b := 0) (As := [.inl (xs (i + 1)).toInt, .inl (xs (i + 2)).toInt]) (rest := []) X lwd_147 hL hs hh hS hl.1 (show (11 : Nat) = 11 from rfl) rfl ⟨by decide +kernel, by decide +kernel⟩ hc0 (by simp) rfl dw_law_1274 (sim_move hR (inR_ti _) (inR_ti _)) (fun v M1 H1 locs1 hv hh1 hS1 => ?_)
  obtain ⟨x, rfl, hx, hB⟩ := hv
  refine lv_aload_n (i := 2) (x := adr 154) X.1 X.2.1 dw_law_1277 rfl (lv_at hl 2 rfl) ?_
  refine l_arg (j := 1) C hS1 (by omega) (lv_at hl 0 rfl) (lv_at hl 4 rfl) ag_1278 ?_
  refine l_arg (j := 2) C hS1 (by omega) (lv_at hl 0 rfl) (lv_at hl 4 rfl) ag_1284 ?_
  refine l_call (q := m_Model_move) (b := 154) (As := [.inl (xs (i + 1)).toInt, .inl (xs (i + 2)).toInt]) (rest := [.int (iN x)]) X lwd_150 hL hs hh1 hS1 hl.1 (show (12 : Nat) = 12 from rfl) rfl ⟨by decide +kernel, by decide +kernel⟩ hc0 (by simp [Value.category]) rfl dw_law_1290 hB (fun v M2 H2 locs2 hv hh2 hS2 => ?_)
  obtain ⟨y, rfl, rfl, hcode, hRel⟩ := hv
  refine lv_icmp_eq (tgt := 1655) X.1 X.2.1 dw_law_1293 (by decide) (fun _ => ?_) (fun z => absurd rfl z)
  exact W.widen (by omega) (by omega) (K M2 f H2 locs2 ls hRel hh2 hS2 hl)
set_option maxHeartbeats 4000000 in
set_option maxRecDepth 100000 in
theorem case_21 (C : LCx p s m args c D tA n0 o bs adr adV b L xs) (hfl : l.stackTraces = false) (hR : Rel k M) (hh : LH D tA n0 o bs adr M f H) (hS : LV n0 s H locs) (hl : lv_has ls 7 (lvB b o adr i)) (hi : i + 5 < L) (hk : k ≤ 1000) (hc : cells + 100 ≤ 601024 ∧ slots + 12000 ≤ 7293034) (K : LK p l e s m args below meth c Q D tA n0 o bs adr b i k cells slots) : W p l e room_1 s m args below meth c H locs cells slots Q (F0 m 1298 ls []) := by
  obtain ⟨X, hL, hs, hX, hb, h3⟩ := id C
  have hc0 : cells ≤ 601024 ∧ slots ≤ 7293034 := ⟨by omega, by omega⟩
  refine lv_aload_n (i := 1) (x := adr 0) X.1 X.2.1 dw_law_1298 rfl (lv_at hl 1 rfl) ?_
  refine l_call (q := m_RingDater_undo) (b := 0) (As := []) (rest := []) X lwd_151 hL hs hh hS hl.1 (show (11 : Nat) = 11 from rfl) rfl ⟨by decide +kernel, by decide +kernel⟩ hc0 (by simp) rfl dw_law_1299 (sim_undo hR) (fun v M1 H1 locs1 hv hh1 hS1 => ?_)
  obtain ⟨x, rfl, hx, hB⟩ := hv
  refine lv_aload_n (i := 2) (x := adr 154) X.1 X.2.1 dw_law_1302 rfl (lv_at hl 2 rfl) ?_
  refine l_call (q := m_Model_undo) (b := 154) (As := []) (rest := [.int (iN x)]) X lwd_154 hL hs hh1 hS1 hl.1 (show (12 : Nat) = 12 from rfl) rfl ⟨by decide +kernel, by decide +kernel⟩ hc0 (by simp [Value.category]) rfl dw_law_1303 hB (fun v M2 H2 locs2 hv hh2 hS2 => ?_)
  obtain ⟨y, rfl, rfl, hcode, hRel⟩ := hv
  refine lv_icmp_eq (tgt := 1655) X.1 X.2.1 dw_law_1306 (by decide) (fun _ => ?_) (fun z => absurd rfl z)
  exact W.widen (by omega) (by omega) (K M2 f H2 locs2 ls hRel hh2 hS2 hl)
set_option maxHeartbeats 4000000 in
set_option maxRecDepth 100000 in
theorem case_22 (C : LCx p s m args c D tA n0 o bs adr adV b L xs) (hfl : l.stackTraces = false) (hR : Rel k M) (hh : LH D tA n0 o bs adr M f H) (hS : LV n0 s H locs) (hl : lv_has ls 7 (lvB b o adr i)) (hi : i + 5 < L) (hk : k ≤ 1000) (hc : cells + 100 ≤ 601024 ∧ slots + 12000 ≤ 7293034) (K : LK p l e s m args below meth c Q D tA n0 o bs adr b i k cells slots) : W p l e room_1 s m args below meth c H locs cells slots Q (F0 m 1311 ls []) := by
  obtain ⟨X, hL, hs, hX, hb, h3⟩ := id C
  have hc0 : cells ≤ 601024 ∧ slots ≤ 7293034 := ⟨by omega, by omega⟩
  refine lv_aload_n (i := 1) (x := adr 0) X.1 X.2.1 dw_law_1311 rfl (lv_at hl 1 rfl) ?_
  refine l_arg (j := 1) C hS (by omega) (lv_at hl 0 rfl) (lv_at hl 4 rfl) ag_1312 ?_
  refine l_arg (j := 2) C hS (by omega) (lv_at hl 0 rfl) (lv_at hl 4 rfl) ag_1318 ?_
  refine l_call (q := m_RingDater_note) (b := 0) (As := [.inl (xs (i + 1)).toInt, .inl (xs (i + 2)).toInt]) (rest := []) X lwd_155 hL hs hh hS hl.1 (show (11 : Nat) = 11 from rfl) rfl ⟨by decide +kernel, by decide +kernel⟩ hc0 (by simp) rfl dw_law_1324 (sim_note hR (inR_ti _) (inR_ti _)) (fun v M1 H1 locs1 hv hh1 hS1 => ?_)
  obtain ⟨x, rfl, hx, hB⟩ := hv
  refine lv_aload_n (i := 2) (x := adr 154) X.1 X.2.1 dw_law_1327 rfl (lv_at hl 2 rfl) ?_
  refine l_arg (j := 1) C hS1 (by omega) (lv_at hl 0 rfl) (lv_at hl 4 rfl) ag_1328 ?_
  refine l_arg (j := 2) C hS1 (by omega) (lv_at hl 0 rfl) (lv_at hl 4 rfl) ag_1334 ?_
  refine l_call (q := m_Model_note) (b := 154) (As := [.inl (xs (i + 1)).toInt, .inl (xs (i + 2)).toInt]) (rest := [.int (iN x)]) X lwd_158 hL hs hh1 hS1 hl.1 (show (12 : Nat) = 12 from rfl) rfl ⟨by decide +kernel, by decide +kernel⟩ hc0 (by simp [Value.category]) rfl dw_law_1340 hB (fun v M2 H2 locs2 hv hh2 hS2 => ?_)
  obtain ⟨y, rfl, rfl, hcode, hRel⟩ := hv
  refine lv_icmp_eq (tgt := 1655) X.1 X.2.1 dw_law_1343 (by decide) (fun _ => ?_) (fun z => absurd rfl z)
  exact W.widen (by omega) (by omega) (K M2 f H2 locs2 ls hRel hh2 hS2 hl)
set_option maxHeartbeats 4000000 in
set_option maxRecDepth 100000 in
theorem case_23 (C : LCx p s m args c D tA n0 o bs adr adV b L xs) (hfl : l.stackTraces = false) (hR : Rel k M) (hh : LH D tA n0 o bs adr M f H) (hS : LV n0 s H locs) (hl : lv_has ls 7 (lvB b o adr i)) (hi : i + 5 < L) (hk : k ≤ 1000) (hc : cells + 100 ≤ 601024 ∧ slots + 12000 ≤ 7293034) (K : LK p l e s m args below meth c Q D tA n0 o bs adr b i k cells slots) : W p l e room_1 s m args below meth c H locs cells slots Q (F0 m 1348 ls []) := by
  obtain ⟨X, hL, hs, hX, hb, h3⟩ := id C
  have hc0 : cells ≤ 601024 ∧ slots ≤ 7293034 := ⟨by omega, by omega⟩
  refine lv_aload_n (i := 1) (x := adr 0) X.1 X.2.1 dw_law_1348 rfl (lv_at hl 1 rfl) ?_
  refine l_arg (j := 1) C hS (by omega) (lv_at hl 0 rfl) (lv_at hl 4 rfl) ag_1349 ?_
  refine lv_aload_n (i := 3) (x := o) X.1 X.2.1 dw_law_1355 rfl (lv_at hl 3 rfl) ?_
  refine l_wcall (as := [.inl (xs (i + 1)).toInt]) C (wr_fits (simW1 (sim_fits hR (inR_ti _)))) ww_fits rfl hfl hh hS hl.1 hc rfl dw_law_1356 (fun r x M1 f1 H1 locs1 hq hf hh1 hS1 => ?_)
  obtain ⟨⟨hr, hx⟩, hB⟩ := hq
  refine lv_istore (lv' := (5, .int (iN r)) :: lvB b o adr i) X.1 X.2.1 dw_law_1359 hl (by decide) rfl (fun ls1 hl1 => ?_)
  refine lv_aload_n (i := 2) (x := adr 154) X.1 X.2.1 dw_law_1361 rfl (lv_at hl1 3 rfl) ?_
  refine l_arg (j := 1) C hS1 (by omega) (lv_at hl1 1 rfl) (lv_at hl1 5 rfl) ag_1362 ?_
  refine l_call (q := m_Model_fits) (b := 154) (As := [.inl (xs (i + 1)).toInt]) (rest := []) X lwd_161 hL hs hh1 hS1 hl1.1 (show (12 : Nat) = 12 from rfl) rfl ⟨by decide +kernel, by decide +kernel⟩ hc (by simp) rfl dw_law_1368 hB (fun v M2 H2 locs2 hv hh2 hS2 => ?_)
  obtain ⟨y, rfl, hcode, hxy, hRel⟩ := hv
  refine lv_istore (lv' := (6, .int (iN y)) :: (5, .int (iN r)) :: lvB b o adr i) X.1 X.2.1 dw_law_1371 hl1 (by decide) rfl (fun ls2 hl2 => ?_)
  exact l_tailW C lwd_77 hl2 hr hf hxy hcode hh2 hS2 td_1373 hc (fun H3 locs3 hh3 hS3 => K M2 f1 H3 locs3 ls2 hRel hh3 hS3 (lv_sub hl2 [2, 3, 4, 5, 6] rfl))
set_option maxHeartbeats 4000000 in
set_option maxRecDepth 100000 in
theorem case_24 (C : LCx p s m args c D tA n0 o bs adr adV b L xs) (hfl : l.stackTraces = false) (hR : Rel k M) (hh : LH D tA n0 o bs adr M f H) (hS : LV n0 s H locs) (hl : lv_has ls 7 (lvB b o adr i)) (hi : i + 5 < L) (hk : k ≤ 1000) (hc : cells + 100 ≤ 601024 ∧ slots + 12000 ≤ 7293034) (K : LK p l e s m args below meth c Q D tA n0 o bs adr b i k cells slots) : W p l e room_1 s m args below meth c H locs cells slots Q (F0 m 1404 ls []) := by
  obtain ⟨X, hL, hs, hX, hb, h3⟩ := id C
  have hc0 : cells ≤ 601024 ∧ slots ≤ 7293034 := ⟨by omega, by omega⟩
  refine lv_aload_n (i := 1) (x := adr 0) X.1 X.2.1 dw_law_1404 rfl (lv_at hl 1 rfl) ?_
  refine l_arg (j := 1) C hS (by omega) (lv_at hl 0 rfl) (lv_at hl 4 rfl) ag_1405 ?_
  refine lv_aload_n (i := 3) (x := o) X.1 X.2.1 dw_law_1411 rfl (lv_at hl 3 rfl) ?_
  refine l_wcall (as := [.inl (xs (i + 1)).toInt]) C (wr_look (simW1 (sim_look hR (inR_ti _)))) ww_look rfl hfl hh hS hl.1 hc rfl dw_law_1412 (fun r x M1 f1 H1 locs1 hq hf hh1 hS1 => ?_)
  obtain ⟨⟨hr, hx⟩, hB⟩ := hq
  refine lv_istore (lv' := (5, .int (iN r)) :: lvB b o adr i) X.1 X.2.1 dw_law_1415 hl (by decide) rfl (fun ls1 hl1 => ?_)
  refine lv_aload_n (i := 2) (x := adr 154) X.1 X.2.1 dw_law_1417 rfl (lv_at hl1 3 rfl) ?_
  refine l_arg (j := 1) C hS1 (by omega) (lv_at hl1 1 rfl) (lv_at hl1 5 rfl) ag_1418 ?_
  refine l_call (q := m_Model_look) (b := 154) (As := [.inl (xs (i + 1)).toInt]) (rest := []) X lwd_164 hL hs hh1 hS1 hl1.1 (show (12 : Nat) = 12 from rfl) rfl ⟨by decide +kernel, by decide +kernel⟩ hc (by simp) rfl dw_law_1424 hB (fun v M2 H2 locs2 hv hh2 hS2 => ?_)
  obtain ⟨y, rfl, hcode, hxy, hRel⟩ := hv
  refine lv_istore (lv' := (6, .int (iN y)) :: (5, .int (iN r)) :: lvB b o adr i) X.1 X.2.1 dw_law_1427 hl1 (by decide) rfl (fun ls2 hl2 => ?_)
  exact l_tailW C lwd_77 hl2 hr hf hxy hcode hh2 hS2 td_1429 hc (fun H3 locs3 hh3 hS3 => K M2 f1 H3 locs3 ls2 hRel hh3 hS3 (lv_sub hl2 [2, 3, 4, 5, 6] rfl))
set_option maxHeartbeats 4000000 in
set_option maxRecDepth 100000 in
theorem case_25 (C : LCx p s m args c D tA n0 o bs adr adV b L xs) (hfl : l.stackTraces = false) (hR : Rel k M) (hh : LH D tA n0 o bs adr M f H) (hS : LV n0 s H locs) (hl : lv_has ls 7 (lvB b o adr i)) (hi : i + 5 < L) (hk : k ≤ 1000) (hc : cells + 100 ≤ 601024 ∧ slots + 12000 ≤ 7293034) (K : LK p l e s m args below meth c Q D tA n0 o bs adr b i k cells slots) : W p l e room_1 s m args below meth c H locs cells slots Q (F0 m 1460 ls []) := by
  obtain ⟨X, hL, hs, hX, hb, h3⟩ := id C
  have hc0 : cells ≤ 601024 ∧ slots ≤ 7293034 := ⟨by omega, by omega⟩
  refine lv_aload_n (i := 1) (x := adr 0) X.1 X.2.1 dw_law_1460 rfl (lv_at hl 1 rfl) ?_
  refine l_call (q := m_RingDater_forget) (b := 0) (As := []) (rest := []) X lwd_165 hL hs hh hS hl.1 (show (11 : Nat) = 11 from rfl) rfl ⟨by decide +kernel, by decide +kernel⟩ hc0 (by simp) rfl dw_law_1461 (sim_forget hR) (fun v M1 H1 locs1 hv hh1 hS1 => ?_)
  obtain ⟨rfl, hB⟩ := hv
  refine lv_aload_n (i := 2) (x := adr 154) X.1 X.2.1 dw_law_1464 rfl (lv_at hl 2 rfl) ?_
  refine l_call (q := m_Model_forget) (b := 154) (As := []) (rest := []) X lwd_168 hL hs hh1 hS1 hl.1 (show (12 : Nat) = 12 from rfl) rfl ⟨by decide +kernel, by decide +kernel⟩ hc0 (by simp) rfl dw_law_1465 hB (fun v M2 H2 locs2 hv hh2 hS2 => ?_)
  obtain ⟨rfl, hcode, hRel⟩ := hv
  refine lv_goto (tgt := 1655) X.1 X.2.1 dw_law_1468 (by decide) ?_
  exact W.widen (by omega) (by omega) (K M2 f H2 locs2 ls hRel hh2 hS2 hl)
set_option maxHeartbeats 4000000 in
set_option maxRecDepth 100000 in
theorem case_26 (C : LCx p s m args c D tA n0 o bs adr adV b L xs) (hfl : l.stackTraces = false) (hR : Rel k M) (hh : LH D tA n0 o bs adr M f H) (hS : LV n0 s H locs) (hl : lv_has ls 7 (lvB b o adr i)) (hi : i + 5 < L) (hk : k ≤ 1000) (hc : cells + 100 ≤ 601024 ∧ slots + 12000 ≤ 7293034) (K : LK p l e s m args below meth c Q D tA n0 o bs adr b i k cells slots) : W p l e room_1 s m args below meth c H locs cells slots Q (F0 m 1471 ls []) := by
  obtain ⟨X, hL, hs, hX, hb, h3⟩ := id C
  have hc0 : cells ≤ 601024 ∧ slots ≤ 7293034 := ⟨by omega, by omega⟩
  refine lv_aload_n (i := 1) (x := adr 0) X.1 X.2.1 dw_law_1471 rfl (lv_at hl 1 rfl) ?_
  refine l_arg (j := 1) C hS (by omega) (lv_at hl 0 rfl) (lv_at hl 4 rfl) ag_1472 ?_
  refine l_arg (j := 2) C hS (by omega) (lv_at hl 0 rfl) (lv_at hl 4 rfl) ag_1478 ?_
  refine l_arg (j := 3) C hS (by omega) (lv_at hl 0 rfl) (lv_at hl 4 rfl) ag_1484 ?_
  refine l_arg (j := 4) C hS (by omega) (lv_at hl 0 rfl) (lv_at hl 4 rfl) ag_1490 ?_
  refine lv_aload_n (i := 3) (x := o) X.1 X.2.1 dw_law_1496 rfl (lv_at hl 3 rfl) ?_
  refine l_wcall (as := [.inl (xs (i + 1)).toInt, .inl (xs (i + 2)).toInt, .inl (xs (i + 3)).toInt, .inl (xs (i + 4)).toInt]) C (wr_chance (simW2 (sim_chance hR (inR_ti _) (inR_ti _) (inR_ti _)))) ww_chance rfl hfl hh hS hl.1 hc rfl dw_law_1497 (fun r x M1 f1 H1 locs1 hq hf hh1 hS1 => ?_)
  obtain ⟨⟨hr, hx⟩, hB⟩ := hq
  refine lv_istore (lv' := (5, .int (iN r)) :: lvB b o adr i) X.1 X.2.1 dw_law_1500 hl (by decide) rfl (fun ls1 hl1 => ?_)
  refine lv_aload_n (i := 2) (x := adr 154) X.1 X.2.1 dw_law_1502 rfl (lv_at hl1 3 rfl) ?_
  refine l_arg (j := 1) C hS1 (by omega) (lv_at hl1 1 rfl) (lv_at hl1 5 rfl) ag_1503 ?_
  refine l_arg (j := 2) C hS1 (by omega) (lv_at hl1 1 rfl) (lv_at hl1 5 rfl) ag_1509 ?_
  refine l_arg (j := 3) C hS1 (by omega) (lv_at hl1 1 rfl) (lv_at hl1 5 rfl) ag_1515 ?_
  refine l_arg (j := 4) C hS1 (by omega) (lv_at hl1 1 rfl) (lv_at hl1 5 rfl) ag_1521 ?_
  refine l_call (q := m_Model_chance) (b := 154) (As := [.inl (xs (i + 1)).toInt, .inl (xs (i + 2)).toInt, .inl (xs (i + 3)).toInt, .inl (xs (i + 4)).toInt]) (rest := []) X lwd_171 hL hs hh1 hS1 hl1.1 (show (12 : Nat) = 12 from rfl) rfl ⟨by decide +kernel, by decide +kernel⟩ hc (by simp) rfl dw_law_1527 hB (fun v M2 H2 locs2 hv hh2 hS2 => ?_)
  obtain ⟨y, rfl, hcode, hxy, hRel⟩ := hv
  refine lv_istore (lv' := (6, .int (iN y)) :: (5, .int (iN r)) :: lvB b o adr i) X.1 X.2.1 dw_law_1530 hl1 (by decide) rfl (fun ls2 hl2 => ?_)
  exact l_tailW C lwd_77 hl2 hr hf hxy hcode hh2 hS2 td_1532 hc (fun H3 locs3 hh3 hS3 => K M2 f1 H3 locs3 ls2 hRel hh3 hS3 (lv_sub hl2 [2, 3, 4, 5, 6] rfl))
set_option maxHeartbeats 4000000 in
set_option maxRecDepth 100000 in
theorem case_27 (C : LCx p s m args c D tA n0 o bs adr adV b L xs) (hfl : l.stackTraces = false) (hR : Rel k M) (hh : LH D tA n0 o bs adr M f H) (hS : LV n0 s H locs) (hl : lv_has ls 7 (lvB b o adr i)) (hi : i + 5 < L) (hk : k ≤ 1000) (hc : cells + 100 ≤ 601024 ∧ slots + 12000 ≤ 7293034) (K : LK p l e s m args below meth c Q D tA n0 o bs adr b i k cells slots) : W p l e room_1 s m args below meth c H locs cells slots Q (F0 m 1563 ls []) := by
  obtain ⟨X, hL, hs, hX, hb, h3⟩ := id C
  have hc0 : cells ≤ 601024 ∧ slots ≤ 7293034 := ⟨by omega, by omega⟩
  refine lv_aload_n (i := 1) (x := adr 0) X.1 X.2.1 dw_law_1563 rfl (lv_at hl 1 rfl) ?_
  refine l_arg (j := 1) C hS (by omega) (lv_at hl 0 rfl) (lv_at hl 4 rfl) ag_1564 ?_
  refine l_arg (j := 2) C hS (by omega) (lv_at hl 0 rfl) (lv_at hl 4 rfl) ag_1570 ?_
  refine lv_aload_n (i := 3) (x := o) X.1 X.2.1 dw_law_1576 rfl (lv_at hl 3 rfl) ?_
  refine l_wcall (as := [.inl (xs (i + 1)).toInt, .inl (xs (i + 2)).toInt]) C (wr_told hR (inR_ti _) (inR_ti _)) ww_told rfl hfl hh hS hl.1 hc rfl dw_law_1577 (fun r x M1 f1 H1 locs1 hq hf hh1 hS1 => ?_)
  obtain ⟨⟨hr, hx⟩, hB⟩ := hq
  refine lv_istore (lv' := (5, .int (iN r)) :: lvB b o adr i) X.1 X.2.1 dw_law_1580 hl (by decide) rfl (fun ls1 hl1 => ?_)
  refine lv_aload_n (i := 2) (x := adr 154) X.1 X.2.1 dw_law_1582 rfl (lv_at hl1 3 rfl) ?_
  refine l_arg (j := 1) C hS1 (by omega) (lv_at hl1 1 rfl) (lv_at hl1 5 rfl) ag_1583 ?_
  refine l_arg (j := 2) C hS1 (by omega) (lv_at hl1 1 rfl) (lv_at hl1 5 rfl) ag_1589 ?_
  refine l_call (q := m_Model_told) (b := 154) (As := [.inl (xs (i + 1)).toInt, .inl (xs (i + 2)).toInt]) (rest := []) X lwd_174 hL hs hh1 hS1 hl1.1 (show (12 : Nat) = 12 from rfl) rfl ⟨by decide +kernel, by decide +kernel⟩ hc (by simp) rfl dw_law_1595 hB (fun v M2 H2 locs2 hv hh2 hS2 => ?_)
  obtain ⟨y, rfl, hcode, hxy, hRel⟩ := hv
  refine lv_istore (lv' := (6, .int (iN y)) :: (5, .int (iN r)) :: lvB b o adr i) X.1 X.2.1 dw_law_1598 hl1 (by decide) rfl (fun ls2 hl2 => ?_)
  exact l_tailW C lwd_77 hl2 hr hf hxy hcode hh2 hS2 td_1600 hc (fun H3 locs3 hh3 hS3 => K M2 f1 H3 locs3 ls2 hRel hh3 hS3 (lv_sub hl2 [2, 3, 4, 5, 6] rfl))
set_option maxHeartbeats 4000000 in
set_option maxRecDepth 100000 in
theorem case_28 (C : LCx p s m args c D tA n0 o bs adr adV b L xs) (hfl : l.stackTraces = false) (hR : Rel k M) (hh : LH D tA n0 o bs adr M f H) (hS : LV n0 s H locs) (hl : lv_has ls 7 (lvB b o adr i)) (hi : i + 5 < L) (hk : k ≤ 1000) (hc : cells + 100 ≤ 601024 ∧ slots + 12000 ≤ 7293034) (K : LK p l e s m args below meth c Q D tA n0 o bs adr b i k cells slots) : W p l e room_1 s m args below meth c H locs cells slots Q (F0 m 1631 ls []) := by
  obtain ⟨X, hL, hs, hX, hb, h3⟩ := id C
  have hc0 : cells ≤ 601024 ∧ slots ≤ 7293034 := ⟨by omega, by omega⟩
  refine lv_aload_n (i := 1) (x := adr 0) X.1 X.2.1 dw_law_1631 rfl (lv_at hl 1 rfl) ?_
  refine l_call (q := m_RingDater_image) (b := 0) (As := []) (rest := []) X lwd_175 hL hs hh hS hl.1 (show (11 : Nat) = 11 from rfl) rfl ⟨by decide +kernel, by decide +kernel⟩ hc0 (by simp) rfl dw_law_1632 (sim_image hR) (fun v M1 H1 locs1 hv hh1 hS1 => ?_)
  obtain ⟨rfl, hB⟩ := hv
  refine lv_aload_n (i := 2) (x := adr 154) X.1 X.2.1 dw_law_1635 rfl (lv_at hl 2 rfl) ?_
  refine l_call (q := m_Model_image) (b := 154) (As := []) (rest := []) X lwd_178 hL hs hh1 hS1 hl.1 (show (12 : Nat) = 12 from rfl) rfl ⟨by decide +kernel, by decide +kernel⟩ hc0 (by simp) rfl dw_law_1636 hB (fun v M2 H2 locs2 hv hh2 hS2 => ?_)
  obtain ⟨rfl, hcode, hRel⟩ := hv
  refine lv_goto (tgt := 1655) X.1 X.2.1 dw_law_1639 (by decide) ?_
  exact W.widen (by omega) (by omega) (K M2 f H2 locs2 ls hRel hh2 hS2 hl)
set_option maxHeartbeats 4000000 in
set_option maxRecDepth 100000 in
theorem case_29 (C : LCx p s m args c D tA n0 o bs adr adV b L xs) (hfl : l.stackTraces = false) (hR : Rel k M) (hh : LH D tA n0 o bs adr M f H) (hS : LV n0 s H locs) (hl : lv_has ls 7 (lvB b o adr i)) (hi : i + 5 < L) (hk : k ≤ 1000) (hc : cells + 100 ≤ 601024 ∧ slots + 12000 ≤ 7293034) (K : LK p l e s m args below meth c Q D tA n0 o bs adr b i k cells slots) : W p l e room_1 s m args below meth c H locs cells slots Q (F0 m 1642 ls []) := by
  obtain ⟨X, hL, hs, hX, hb, h3⟩ := id C
  have hc0 : cells ≤ 601024 ∧ slots ≤ 7293034 := ⟨by omega, by omega⟩
  refine lv_aload_n (i := 1) (x := adr 0) X.1 X.2.1 dw_law_1642 rfl (lv_at hl 1 rfl) ?_
  refine l_call (q := m_RingDater_restore) (b := 0) (As := []) (rest := []) X lwd_179 hL hs hh hS hl.1 (show (11 : Nat) = 11 from rfl) rfl ⟨by decide +kernel, by decide +kernel⟩ hc0 (by simp) rfl dw_law_1643 (sim_restore hR) (fun v M1 H1 locs1 hv hh1 hS1 => ?_)
  obtain ⟨x, rfl, hx, hB⟩ := hv
  refine lv_aload_n (i := 2) (x := adr 154) X.1 X.2.1 dw_law_1646 rfl (lv_at hl 2 rfl) ?_
  refine l_call (q := m_Model_restore) (b := 154) (As := []) (rest := [.int (iN x)]) X lwd_183 hL hs hh1 hS1 hl.1 (show (12 : Nat) = 12 from rfl) rfl ⟨by decide +kernel, by decide +kernel⟩ hc0 (by simp [Value.category]) rfl dw_law_1647 hB (fun v M2 H2 locs2 hv hh2 hS2 => ?_)
  obtain ⟨y, rfl, rfl, hcode, hRel⟩ := hv
  refine lv_icmp_eq (tgt := 1655) X.1 X.2.1 dw_law_1650 (by decide) (fun _ => ?_) (fun z => absurd rfl z)
  exact W.widen (by omega) (by omega) (K M2 f H2 locs2 ls hRel hh2 hS2 hl)
end L7

/-! THE LAW, 8: its loop (the cases printed by hand of a program). -/
section L8
variable {p : Program} {l : Launch} {e : Env} {s : State} {m : MethodId} {args : Array Value} {below : List Frame} {meth : Method} {c : Code} {Q : State → Prop}
variable {D : va_G} {tA : Nat → ClassId} {n0 o bs b L : Nat} {xs : Nat → Int32} {adr adV : Nat → Nat}
set_option maxHeartbeats 4000000 in
set_option maxRecDepth 100000 in
theorem law_turn {i k : Nat} {M : Mm} {f : Nat → Int64} {H : Heap} {locs : List Loc} {cells slots : Nat} {ls : Array Slot} {x : Int32} (C : LCx p s m args c D tA n0 o bs adr adV b L xs) (hfl : l.stackTraces = false) (hR : Rel k M) (hh : LH D tA n0 o bs adr M f H) (hS : LV n0 s H locs) (hl : lv_has ls 7 (lvB b o adr i)) (hi : i + 5 < L) (hk : k ≤ 1000) (hc : cells + 100 ≤ 601024 ∧ slots + 12000 ≤ 7293034) (hx : 0 ≤ x.toInt ∧ x.toInt ≤ 31) (K : LK p l e s m args below meth c Q D tA n0 o bs adr b i k cells slots) :
    W p l e room_1 s m args below meth c H locs cells slots Q (F0 m 40 ls [.int x]) := by
  obtain ⟨X, -⟩ := id C
  obtain ⟨j, hj, hj2⟩ : ∃ j : Nat, j < 32 ∧ x.toInt = (j : Int) := ⟨x.toInt.toNat, by omega, by omega⟩
  match j, hj, hj2 with
  | 0, _, z => exact lv_tableIn (off := 136) (tgt := 176) X.1 X.2.1 dw_law_40 (by rw [z]; decide) (by rw [z]; decide) (by rw [z]; rfl) (by decide) (case_0 C hfl hR hh hS hl hi hk hc K)
  | 1, _, z => exact lv_tableIn (off := 209) (tgt := 249) X.1 X.2.1 dw_law_40 (by rw [z]; decide) (by rw [z]; decide) (by rw [z]; rfl) (by decide) (case_1 C hfl hR hh hS hl hi hk hc K)
  | 2, _, z => exact lv_tableIn (off := 265) (tgt := 305) X.1 X.2.1 dw_law_40 (by rw [z]; decide) (by rw [z]; decide) (by rw [z]; rfl) (by decide) (case_2 C hfl hR hh hS hl hi hk hc K)
  | 3, _, z => exact lv_tableIn (off := 278) (tgt := 318) X.1 X.2.1 dw_law_40 (by rw [z]; decide) (by rw [z]; decide) (by rw [z]; rfl) (by decide) (case_3 C hfl hR hh hS hl hi hk hc K)
  | 4, _, z => exact lv_tableIn (off := 334) (tgt := 374) X.1 X.2.1 dw_law_40 (by rw [z]; decide) (by rw [z]; decide) (by rw [z]; rfl) (by decide) (case_4 C hfl hR hh hS hl hi hk hc K)
  | 5, _, z => exact lv_tableIn (off := 402) (tgt := 442) X.1 X.2.1 dw_law_40 (by rw [z]; decide) (by rw [z]; decide) (by rw [z]; rfl) (by decide) (case_5 C hfl hR hh hS hl hi hk hc K)
  | 6, _, z => exact lv_tableIn (off := 470) (tgt := 510) X.1 X.2.1 dw_law_40 (by rw [z]; decide) (by rw [z]; decide) (by rw [z]; rfl) (by decide) (case_6 C hfl hR hh hS hl hi hk hc K)
  | 7, _, z => exact lv_tableIn (off := 550) (tgt := 590) X.1 X.2.1 dw_law_40 (by rw [z]; decide) (by rw [z]; decide) (by rw [z]; rfl) (by decide) (case_7 C hfl hR hh hS hl hi hk hc K)
  | 8, _, z => exact lv_tableIn (off := 575) (tgt := 615) X.1 X.2.1 dw_law_40 (by rw [z]; decide) (by rw [z]; decide) (by rw [z]; rfl) (by decide) (case_8 C hfl hR hh hS hl hi hk hc K)
  | 9, _, z => exact lv_tableIn (off := 600) (tgt := 640) X.1 X.2.1 dw_law_40 (by rw [z]; decide) (by rw [z]; decide) (by rw [z]; rfl) (by decide) (case_9 C hfl hR hh hS hl hi hk hc K)
  | 10, _, z => exact lv_tableIn (off := 668) (tgt := 708) X.1 X.2.1 dw_law_40 (by rw [z]; decide) (by rw [z]; decide) (by rw [z]; rfl) (by decide) (case_10 C hfl hR hh hS hl hi hk hc K)
  | 11, _, z => exact lv_tableIn (off := 760) (tgt := 800) X.1 X.2.1 dw_law_40 (by rw [z]; decide) (by rw [z]; decide) (by rw [z]; rfl) (by decide) (case_11 C hfl hR hh hS hl hi hk hc K)
  | 12, _, z => exact lv_tableIn (off := 840) (tgt := 880) X.1 X.2.1 dw_law_40 (by rw [z]; decide) (by rw [z]; decide) (by rw [z]; rfl) (by decide) (case_12 C hfl hR hh hS hl hi hk hc K)
  | 13, _, z => exact lv_tableIn (off := 908) (tgt := 948) X.1 X.2.1 dw_law_40 (by rw [z]; decide) (by rw [z]; decide) (by rw [z]; rfl) (by decide) (case_13 C hfl hR hh hS hl hi hk hc K)
  | 14, _, z => exact lv_tableIn (off := 976) (tgt := 1016) X.1 X.2.1 dw_law_40 (by rw [z]; decide) (by rw [z]; decide) (by rw [z]; rfl) (by decide) (case_14 C hfl hR hh hS hl hi hk hc K)
  | 15, _, z => exact lv_tableIn (off := 1044) (tgt := 1084) X.1 X.2.1 dw_law_40 (by rw [z]; decide) (by rw [z]; decide) (by rw [z]; rfl) (by decide) (case_15 C hfl hR hh hS hl hi hk hc K)
  | 16, _, z => exact lv_tableIn (off := 1081) (tgt := 1121) X.1 X.2.1 dw_law_40 (by rw [z]; decide) (by rw [z]; decide) (by rw [z]; rfl) (by decide) (case_16 C hfl hR hh hS hl hi hk hc K)
  | 17, _, z => exact lv_tableIn (off := 1106) (tgt := 1146) X.1 X.2.1 dw_law_40 (by rw [z]; decide) (by rw [z]; decide) (by rw [z]; rfl) (by decide) (case_17 C hfl hR hh hS hl hi hk hc K)
  | 18, _, z => exact lv_tableIn (off := 1119) (tgt := 1159) X.1 X.2.1 dw_law_40 (by rw [z]; decide) (by rw [z]; decide) (by rw [z]; rfl) (by decide) (case_18 C hfl hR hh hS hl hi hk hc K)
  | 19, _, z => exact lv_tableIn (off := 1184) (tgt := 1224) X.1 X.2.1 dw_law_40 (by rw [z]; decide) (by rw [z]; decide) (by rw [z]; rfl) (by decide) (case_19 C hfl hR hh hS hl hi hk hc K)
  | 20, _, z => exact lv_tableIn (off := 1221) (tgt := 1261) X.1 X.2.1 dw_law_40 (by rw [z]; decide) (by rw [z]; decide) (by rw [z]; rfl) (by decide) (case_20 C hfl hR hh hS hl hi hk hc K)
  | 21, _, z => exact lv_tableIn (off := 1258) (tgt := 1298) X.1 X.2.1 dw_law_40 (by rw [z]; decide) (by rw [z]; decide) (by rw [z]; rfl) (by decide) (case_21 C hfl hR hh hS hl hi hk hc K)
  | 22, _, z => exact lv_tableIn (off := 1271) (tgt := 1311) X.1 X.2.1 dw_law_40 (by rw [z]; decide) (by rw [z]; decide) (by rw [z]; rfl) (by decide) (case_22 C hfl hR hh hS hl hi hk hc K)
  | 23, _, z => exact lv_tableIn (off := 1308) (tgt := 1348) X.1 X.2.1 dw_law_40 (by rw [z]; decide) (by rw [z]; decide) (by rw [z]; rfl) (by decide) (case_23 C hfl hR hh hS hl hi hk hc K)
  | 24, _, z => exact lv_tableIn (off := 1364) (tgt := 1404) X.1 X.2.1 dw_law_40 (by rw [z]; decide) (by rw [z]; decide) (by rw [z]; rfl) (by decide) (case_24 C hfl hR hh hS hl hi hk hc K)
  | 25, _, z => exact lv_tableIn (off := 1420) (tgt := 1460) X.1 X.2.1 dw_law_40 (by rw [z]; decide) (by rw [z]; decide) (by rw [z]; rfl) (by decide) (case_25 C hfl hR hh hS hl hi hk hc K)
  | 26, _, z => exact lv_tableIn (off := 1431) (tgt := 1471) X.1 X.2.1 dw_law_40 (by rw [z]; decide) (by rw [z]; decide) (by rw [z]; rfl) (by decide) (case_26 C hfl hR hh hS hl hi hk hc K)
  | 27, _, z => exact lv_tableIn (off := 1523) (tgt := 1563) X.1 X.2.1 dw_law_40 (by rw [z]; decide) (by rw [z]; decide) (by rw [z]; rfl) (by decide) (case_27 C hfl hR hh hS hl hi hk hc K)
  | 28, _, z => exact lv_tableIn (off := 1591) (tgt := 1631) X.1 X.2.1 dw_law_40 (by rw [z]; decide) (by rw [z]; decide) (by rw [z]; rfl) (by decide) (case_28 C hfl hR hh hS hl hi hk hc K)
  | 29, _, z => exact lv_tableIn (off := 1602) (tgt := 1642) X.1 X.2.1 dw_law_40 (by rw [z]; decide) (by rw [z]; decide) (by rw [z]; rfl) (by decide) (case_29 C hfl hR hh hS hl hi hk hc K)
  | 30, _, z => exact lv_tableOut (tgt := 1655) X.1 X.2.1 dw_law_40 (by rw [z]; decide) (by decide) (W.widen (by omega) (by omega) (K M f H locs ls (Rel_up hR) hh hS hl))
  | 31, _, z => exact lv_tableOut (tgt := 1655) X.1 X.2.1 dw_law_40 (by rw [z]; decide) (by decide) (W.widen (by omega) (by omega) (K M f H locs ls (Rel_up hR) hh hS hl))
  | j + 32, h, _ => exact absurd h (by omega)
/-- the loop: k calls made, i = 6 k -/
theorem law_loop (C : LCx p s m args c D tA n0 o bs adr adV b L xs) (hfl : l.stackTraces = false) (hend : ∀ (H : Heap) (locs : List Loc) (cells slots : Nat) (ls : Array Slot), LV n0 s H locs → cells ≤ 601024 → slots ≤ 7293034 → W p l e room_1 s m args below meth c H locs cells slots Q (F0 m 1661 ls [])) :
    ∀ (r k : Nat) (M : Mm) (f : Nat → Int64) (H : Heap) (locs : List Loc) (cells slots : Nat) (ls : Array Slot), 512 < k + r → 6 * k ≤ L → Rel k M → LH D tA n0 o bs adr M f H → LV n0 s H locs → lv_has ls 7 (lvB b o adr (6 * k)) → cells ≤ 200 + 100 * k → slots ≤ 36000 + 12000 * k →
      W p l e room_1 s m args below meth c H locs cells slots Q (F0 m 23 ls [])
  | 0, k, M, f, H, locs, cells, slots, ls, h1, h2, hR, hh, hS, hl, hc, hs => by
    have h3 : L ≤ 3072 := C.2.2.2.2.2
    omega
  | r + 1, k, M, f, H, locs, cells, slots, ls, h1, h2, hR, hh, hS, hl, hc, hs => by
    obtain ⟨X, hL, hst, hX, ⟨hb, hn0⟩, h3⟩ := id C
    have hbA : ¬ n0 ≤ b := by omega
    have he : Int32.ofNat L = iN (L : Int) := by simp [iN, Int32.ofInt_eq_ofNat]
    refine lv_iload (x := iN ((6 * k : Nat) : Int)) X.1 X.2.1 dw_law_23 (lv_at hl 4 rfl) ?_
    refine lv_aload_n (i := 0) (x := b) X.1 X.2.1 dw_law_25 rfl (lv_at hl 0 rfl) ?_
    refine va_slen X.1 X.2.1 hX hb hbA hS dw_law_26 ?_
    rw [he]
    refine lv_bipush (v := iN 6) X.1 X.2.1 dw_law_27 (by decide) ?_
    refine lv_isub X.1 X.2.1 dw_law_29 ?_
    rw [iN_sub]
    refine lv_icmp_gt (tgt := 1661) X.1 X.2.1 dw_law_30 (by decide) (fun _ => hend H locs cells slots ls hS (by omega) (by omega)) (fun z => ?_)
    have hi : 6 * k + 6 ≤ L := by
      have z2 : ¬ (L : Int) - 6 < ((6 * k : Nat) : Int) := fun h => z ((iN_lt (x := (L : Int) - 6) (y := ((6 * k : Nat) : Int)) ⟨by omega, by omega⟩ ⟨by omega, by omega⟩).mpr h)
      omega
    refine lv_aload_n (i := 0) (x := b) X.1 X.2.1 dw_law_33 rfl (lv_at hl 0 rfl) ?_
    refine lv_iload (x := iN ((6 * k : Nat) : Int)) X.1 X.2.1 dw_law_34 (lv_at hl 4 rfl) ?_
    refine va_sld (i := iN ((6 * k : Nat) : Int)) X.1 X.2.1 hX hb hbA hS (iN_in (by omega) (by omega) (by omega)) dw_law_36 ?_
    refine lv_bipush (v := iN 31) X.1 X.2.1 dw_law_37 (by decide) ?_
    refine lv_iand X.1 X.2.1 dw_law_39 ?_
    refine law_turn C hfl hR hh hS hl (by omega) (by omega) ⟨by omega, by omega⟩ ?_ (fun M' f' H' locs' ls' hR' hh' hS' hl' => ?_)
    · have h := bAnd_31 (xs (iN ((6 * k : Nat) : Int)).toNatClampNeg).toInt
      unfold bAnd at h
      rw [iN_ti] at h
      exact h
    · refine lv_iinc (k := 4) (x := iN ((6 * k : Nat) : Int)) (v := iN ((6 * (k + 1) : Nat) : Int)) (lv' := (4, .int (iN ((6 * (k + 1) : Nat) : Int))) :: [(0, .ref b), (1, .ref (adr 0)), (2, .ref (adr 154)), (3, .ref o)]) X.1 X.2.1 dw_law_1655 hl' rfl ?_ (by decide) rfl (fun ls2 hl2 => ?_)
      · show iN _ + iN 6 = _
        rw [iN_add, show ((6 * k : Nat) : Int) + 6 = ((6 * (k + 1) : Nat) : Int) by omega]
      · refine lv_goto (tgt := 23) X.1 X.2.1 dw_law_1658 (by decide) ?_
        exact law_loop C hfl hend r (k + 1) M' f' H' locs' (cells + 100) (slots + 12000) ls2 (by omega) (by omega) hR' hh' hS' (lv_sub hl2 [1, 2, 3, 4, 0] rfl) (by omega) (by omega)
end L8

/-! THE LAW, 9: its first instructions: a class, a reference, a row of one number. -/
theorem len_11 {tA : Nat → ClassId} {q : Nat} : (Lf11 tA q).length = 156 := by
  simp only [Lf11, List.length_append, List.length_cons, List.length_nil, len_5, len_0, len_10, len_2, len_9, len_13, len_8, len_3, len_4, Nat.reduceAdd]
theorem len_12 {ks : Nat → Nat} {tA : Nat → ClassId} {q : Nat} : (Lf12 ks tA q).length = 37 := rfl
theorem g11_76 {tA : Nat → ClassId} {q : Nat} : (Lf11 tA q)[76]? = (Lf13 tA (q + 76))[0]? := by
  simp only [Lf11, List.getElem?_append, List.length_append, List.length_cons, List.length_nil, len_5, len_0, len_10, len_2, len_9, len_13, len_8, len_3, len_4, ln_Lf7, ln_Lf1, ln_Lf6_24, ln_Lf6_924, Nat.reduceAdd, Nat.reduceLT, Nat.reduceSub, ↓reduceIte, Nat.reduceLeDiff]
theorem g11_77 {tA : Nat → ClassId} {q : Nat} : (Lf11 tA q)[77]? = (Lf13 tA (q + 76))[1]? := by
  simp only [Lf11, List.getElem?_append, List.length_append, List.length_cons, List.length_nil, len_5, len_0, len_10, len_2, len_9, len_13, len_8, len_3, len_4, ln_Lf7, ln_Lf1, ln_Lf6_24, ln_Lf6_924, Nat.reduceAdd, Nat.reduceLT, Nat.reduceSub, ↓reduceIte, Nat.reduceLeDiff]
theorem wsL_pre {D : va_G} {cl : List vw_C} {b : Nat} {L1 L2 : List va_E} {H : Heap} (h : va_P D cl (wsL b (L1 ++ L2)) H) : va_P D cl (wsL b L1) H := fun k q hk => by
  rw [wsL_at] at hk
  obtain ⟨x, hx, rfl⟩ := Option.map_eq_some_iff.mp hk
  have hlt : k < L1.length := (List.getElem?_eq_some_iff.mp hx).1
  exact h k (b + k, x) (by rw [wsL_at, List.getElem?_append_left hlt, hx]; rfl)
theorem wsL_suf {D : va_G} {cl : List vw_C} {b c : Nat} {L1 L2 : List va_E} {H : Heap} (hc : b + L1.length = c) (h : va_P D cl (wsL b (L1 ++ L2)) H) : va_P D cl (wsL c L2) H := fun k q hk => by
  subst hc
  rw [wsL_at] at hk
  obtain ⟨x, hx, rfl⟩ := Option.map_eq_some_iff.mp hk
  have h2 := h (L1.length + k) (b + (L1.length + k), x) (by rw [wsL_at, List.getElem?_append_right (by omega), show L1.length + k - L1.length = k by omega, hx]; rfl)
  rw [← Nat.add_assoc] at h2
  exact h2
section L9
variable {p : Program} {l : Launch} {e : Env} {R : Room} {s : State} {m : MethodId} {args : Array Value} {below : List Frame} {meth : Method} {c : Code} {Q : State → Prop}
variable {D : va_G} {tA : Nat → ClassId} {b n0 : Nat} {nL : Nat} {cc : ByteArray} {L : List va_E} {H : Heap} {locs : List Loc} {cells slots pc : Nat} {ls : Array Slot} {rest : List Value}
def CXl (p : Program) (s : State) (m : MethodId) (args : Array Value) (c : Code) (D : va_G) (tA : Nat → ClassId) (nL : Nat) (cc : ByteArray) : Prop := p.tables.exec = Jvm.exec ∧ c.code = cc ∧ c.maxLocals = nL ∧ s.vm.findClass lwN = some m.cls ∧ (∀ w ∈ gW, w.before args s = true) ∧ va_K D clA (tysA tA) s ∧ Wc D tA s
theorem lc_new {ci index : Nat} (X : CXl p s m args c D tA nL cc) (hci : ci < 13) (g : CG D b s L H locs) (hcl : Cond.classLink lwN index (Rn ci) ∈ gW) (hins : Cond.instantiable (Rn ci) (Nc ci) ∈ gW) (hini : Cond.initialized (Rn ci) ∈ gW) (hc : cells + 1 ≤ R.cells) (hs : slots + Nc ci ≤ R.slots) (hdg : decode cc pc = .ok (.new index, 3))
    (kk : ∀ H1, CG D b s (L ++ [.inr (ci, dfl ci)]) H1 locs → W p l e R s m args below meth c H1 locs (cells + 1) (slots + Nc ci) Q (F0 m (pc + 3) ls (.ref (b + L.length) :: rest))) : W p l e R s m args below meth c H locs cells slots Q (F0 m pc ls rest) := by
  obtain ⟨hx, hb, hml, hown, hw, hK, hwc⟩ := X
  obtain ⟨c1, c2⟩ := cls_el hci
  obtain ⟨tyf, t1, t2⟩ := tyc_el hci
  have hKn := hK.1 ci _ c1
  refine W.newcK hx hb hown (hw _ hcl) (hw _ hins) (hw _ hini) (g := F0 m pc ls rest) rfl hdg hc hs hKn.2.1 rfl fun H1 kC hkC e1 z1 o1 => ?_
  have hat : va_at D clA (H.size, .inr (ci, dfl ci)) H1 := by
    refine ⟨_, c1, (u_born tyf hw c2 hKn hkC e1 t1).to (fun j hj => ?_)⟩
    have hj' : j < Nc ci := hj
    show _ = vp_V (dfl ci) j
    simp only [vp_V, dfl, List.getD_eq_getElem?_getD, List.getElem?_map, List.getElem?_range hj', Option.map_some, Option.getD_some, t1 j hj']
  have K := kk H1 ⟨g.1.push z1 o1 hat, vS_push g.2 z1 o1⟩
  rw [← g.1.1] at K
  exact K
theorem lc_callE {ci index nL2 fr lo mc ms : Nat} {y : MethodName} {c2 : ByteArray} {av st0 : List Value} {Lf : (Nat → ClassId) → Nat → List va_E} {E : Nat → State → Prop} (hC : CtorE y c2 nL2 fr lo mc ms av ci Lf E) (hbl : ∀ q U U', U'.vm = U.vm → U'.heap = U.heap → E q U → E q U') (hE : ∀ U : State, U.heap = H → s.WarmedH U.vm → E (b + L.length) U) (X : CXl p s m args c D tA nL cc) (g : CG D b s (L ++ [.inr (ci, dfl ci)]) H locs) (hlink : Cond.methodLink lwN index y ∈ gW) (hini : Cond.initialized y.cls ∈ gW) (hinst : Cond.instanceMethod y ∈ gW) (hcode : Cond.code y c2 nL2 none ∈ gW) (hy : y.name = "<init>")
    (hd : y.cls ≠ "java/lang/invoke/MethodHandle" ∧ y.cls ≠ "java/lang/invoke/VarHandle" ∧ (parseMethodDescriptor y.desc).map (fun d => d.parameters.length) = some av.length) (hR : fr + 1 ≤ R.frames ∧ 8 + (nL2 + 11) + lo ≤ R.locals) (hf : cells + mc ≤ R.cells ∧ slots + ms ≤ R.slots) (hls : ls.size = nL) (hrest : (rest.map fun v => v.category).sum ≤ 8) (hst : st0 = av.reverse ++ .ref (b + L.length) :: rest) (hdg : decode cc pc = .ok (.invokespecial index, 3))
    (kk : ∀ H1 locs1, CG D b s (L ++ Lf tA (b + L.length)) H1 locs1 → W p l e R s m args below meth c H1 locs1 (cells + mc) (slots + ms) Q (F0 m (pc + 3) ls rest)) : W p l e R s m args below meth c H locs cells slots Q (F0 m pc ls st0) := by
  obtain ⟨hx, hb, hml, hown, hw, hK, hwc⟩ := X
  have hgood : GoodIn gW (Cond.code y c2 nL2 none :: gW) := by
    intro w hw
    rcases List.mem_cons.mp hw with rfl | hw
    · exact ⟨hcode, good_of_word (List.mem_filter.mp hcode).2⟩
    · exact ⟨hw, good_of_word (List.mem_filter.mp hw).2⟩
  have hbd : FrameBlind (va_Pc (.ref (b + L.length) :: av) (fun U => CPre D tA (b + L.length) ci U ∧ E (b + L.length) U)) := by
    intro a U g mk ⟨h, ⟨h1, h2, h3⟩, h4⟩
    exact ⟨h, ⟨h1, va_K.moved (u := U) (U := U.calling g mk a) (Vm.Alike.refl U.vm) h2, Wc.same (u := U) (U := U.calling g mk a) rfl h3⟩, hbl _ U (U.calling g mk a) rfl rfl h4⟩
  refine c_after g (va_runI (own := lwN) (Ts := gW) (nL := nL) (As := av) (n := av.length) ⟨hx, hb, hml, hown, hw⟩ (hC l D tA (b + L.length)) ⟨callB_of av.length hw hgood rfl rfl rfl (hw _ hini) (hw _ hlink) hd hR, hy, hw _ hinst⟩ ⟨hbd, fun U hU hW => ⟨rfl, ⟨⟨?_, ?_⟩, va_K.moved hW.alike hK, hwc.warm hW⟩, hE U hU hW⟩⟩ rfl rfl hls hst (lv_room (pc := pc) (ls := ls) (rest := st0) hrest) hdg hf) kk
  · rw [hU, g.1.1, List.length_append]
    show b + (L.length + 1) = b + L.length + 1
    omega
  · rw [hU]
    intro k z hz
    rw [wsL_at] at hz
    obtain ⟨x, hx, rfl⟩ := Option.map_eq_some_iff.mp hz
    have h0 : k < 1 := (List.getElem?_eq_some_iff.mp hx).1
    rw [show k = 0 by omega] at hx ⊢
    cases hx
    exact g.1.2 L.length _ (by rw [wsL_at, List.getElem?_append_right (Nat.le_refl _), Nat.sub_self]; rfl)
theorem lc_newaL (X : CXl p s m args c D tA nL cc) (g : CG D b s L H locs) (hc : cells + 1 ≤ R.cells) (hs : slots + 1 ≤ R.slots) (hdg : decode cc pc = .ok (.newarray .long, 2)) (hwi : Cond.arrayClass .long ∈ gW)
    (kk : ∀ H1, CG D b s (L ++ [.inl (tA 5, (1, .inr (.inl (fun _ => 0))))]) H1 locs → W p l e R s m args below meth c H1 locs (cells + 1) (slots + 1) Q (F0 m (pc + 2) ls (.ref (b + L.length) :: rest))) : W p l e R s m args below meth c H locs cells slots Q (F0 m pc ls (.int (iN 1) :: rest)) := by
  obtain ⟨hx, hb, hml, hown, hw, hK, hwc⟩ := X
  refine va_newaK (atype := .long) hx hb (hw _ hwi) (g := F0 m pc ls (.int (iN 1) :: rest)) rfl hdg rfl (by decide) (show (iN 1).toNatClampNeg = 1 by decide) (by show 1 * 8 ≤ _; omega) hc hs rfl (fun H1 cA e1 z1 o1 _ hN => ?_)
  have hA : cA = tA 5 := by
    have h2 : s.vm.findClass ("[" ++ FieldType.long.toString) = some (tA 5) := (hwc.2.2.2.2 1 _ rfl).2
    exact Option.some.inj (hN.symm.trans h2)
  subst hA
  have K := kk H1 ⟨g.1.push z1 o1 e1, vS_push g.2 z1 o1⟩
  rw [← g.1.1] at K
  exact K
theorem ES_same {ks : Nat → Nat} {q : Nat} {U U' : State} (h1 : U'.vm = U.vm) (h2 : U'.heap = U.heap) (h : ES ks q U) : ES ks q U' := by
  have e : U.vm.Alike U'.vm := by rw [h1]; exact Vm.Alike.refl _
  refine ⟨fun i hi => ?_, fun r hr => (h.2 r hr).same h1⟩
  rw [h2]
  exact va_O.moved e (h.1 i hi)
theorem ES.at {ks : Nat → Nat} {b2 : Nat} (h : ES ks b s) (hb : b ≤ b2) (g : CG D b s L H locs) {U : State} (hU : U.heap = H) (hW : s.WarmedH U.vm) : ES ks b2 U := by
  refine ⟨fun i hi => ?_, fun r hr => (h.2 r hr).warm hW⟩
  rw [hU]
  exact ((va_O.moved hW.alike (h.1 i hi)).kept g.2.2.1).narrow (fun q hq => Nat.le_trans hb hq)
theorem adr_str {ks : Nat → Nat} {i : Nat} (hi : i < 7) : adrF ks b (NN + i) = ks i := by
  have e : NN = 191 := rfl
  rw [e]
  unfold adrF
  rw [if_neg (by omega), if_neg (by omega), if_neg (by omega), show 191 + i - 191 = i by omega]
theorem adrF_LM {ks : Nat → Nat} : LM n0 (n0 + 193) (n0 + 76) (adrF ks n0) := by
  have e : NN = 191 := rfl
  refine ⟨⟨by omega, by omega, by omega⟩, fun a ha => ?_, fun i j hi hj h => adr_inj hi hj h, ?_⟩
  · rcases Nat.lt_or_ge a 76 with h | h
    · rw [adr_lo h]; omega
    · rw [adr_hi h (by omega)]; omega
  · unfold adrF
    rw [if_neg (by omega), if_neg (by omega), if_pos rfl]
/-- the first world -/
theorem LH_0 {ks : Nat → Nat} {o1 : Nat → Int64} (g : CG D n0 s (Lf11 tA n0 ++ Lf12 ks tA (n0 + 156) ++ [.inl (tA 5, (1, .inr (.inl o1)))]) H locs) : LH D tA n0 (n0 + 193) (n0 + 76) (adrF ks n0) M00 o1 H := by
  have e : NN = 191 := rfl
  have h1 := wsL_pre (wsL_pre g.1.2)
  have h2 := wsL_suf (c := n0 + 156) (by rw [len_11]) (wsL_pre g.1.2)
  have h3 := wsL_suf (c := n0 + 193) (by rw [List.length_append, len_11, len_12]) g.1.2
  have b1 := h1 76 _ (by rw [wsL_at, g11_76]; rfl)
  have b2 := h1 77 _ (by rw [wsL_at, g11_77]; rfl)
  refine ⟨by rw [g.1.1]; omega, w0_P h1 h2, h3 0 _ (by rw [wsL_at]; rfl), n0 + 77, 16, 0, 0, fun _ => 0, ⟨by omega, by omega, by omega, fun a ha => ?_⟩, ⟨.inl rfl, by omega, fun j => ⟨Int.le_refl 0, by show (0 : Int) ≤ 127; omega⟩⟩, b1, b2⟩
  rcases Nat.lt_or_ge a 76 with h | h
  · rw [adr_lo h]; omega
  · rw [adr_hi h (by omega)]; omega
theorem lk_n11 : Cond.classLink lwN 8 (Rn 11) ∈ gW := gW_of (by decide +kernel) rfl
theorem lk_n12 : Cond.classLink lwN 63 (Rn 12) ∈ gW := gW_of (by decide +kernel) rfl
theorem lk_in11 : Cond.instantiable (Rn 11) (Nc 11) ∈ gW := gW_of (by decide +kernel) rfl
theorem lk_in12 : Cond.instantiable (Rn 12) (Nc 12) ∈ gW := gW_of (by decide +kernel) rfl
theorem lk_i11 : Cond.initialized (Rn 11) ∈ gW := gW_of (by decide +kernel) rfl
theorem lk_i12 : Cond.initialized (Rn 12) ∈ gW := gW_of (by decide +kernel) rfl
theorem lk_m11 : Cond.methodLink lwN 62 ⟨Rn 11, "<init>", "()V"⟩ ∈ gW := gW_of (by decide +kernel) rfl
theorem lk_m12 : Cond.methodLink lwN 65 ⟨Rn 12, "<init>", "()V"⟩ ∈ gW := gW_of (by decide +kernel) rfl
theorem lk_s11 : Cond.instanceMethod ⟨Rn 11, "<init>", "()V"⟩ ∈ gW := gW_of (by decide +kernel) rfl
theorem lk_s12 : Cond.instanceMethod ⟨Rn 12, "<init>", "()V"⟩ ∈ gW := gW_of (by decide +kernel) rfl
theorem lk_c11 : Cond.code ⟨Rn 11, "<init>", "()V"⟩ prog_1_method_1_code 1 none ∈ gW := gW_of (by decide +kernel) rfl
theorem lk_c12 : Cond.code ⟨Rn 12, "<init>", "()V"⟩ prog_14_method_1_code 1 none ∈ gW := gW_of (by decide +kernel) rfl
theorem lk_al : Cond.arrayClass .long ∈ gW := gW_of (by decide +kernel) rfl
set_option maxHeartbeats 4000000 in
set_option maxRecDepth 100000 in
theorem law_start {L : Nat} {xs : Nat → Int32} {ks adV : Nat → Nat} (X : CXl p s m args c D tA 7 code) (hfl : l.stackTraces = false) (hvS : vk_S 7 strLen strByt ks adV (fun q => s.heap.size ≤ q) s s.heap) (hvR : ∀ o r, r ∈ strL o → vk_R (Rn o) r.1 r.2.1 (ks r.2.2) s)
    (hz1 : va_Z "java/lang/String" "COMPACT_STRINGS" "Z" (.int 1) (fun q => s.heap.size ≤ q) s s.heap) (hz2 : vx_Zq "jdk/internal/util/Preconditions" "SIOOBE_FORMATTER" "Ljava/util/function/BiFunction;" (fun q => s.heap.size ≤ q) s s.heap) (hz3 : vx_Zq Bundle.tN "UNASSIGNED_STACK" Bundle.steD (fun q => s.heap.size ≤ q) s s.heap) (hz4 : vx_Zq Bundle.tN "SUPPRESSED_SENTINEL" Bundle.listD (fun q => s.heap.size ≤ q) s s.heap)
    (hD : Dcl s) (hN : ∀ o r, r ∈ invL o → r.2.2.1 = 2 → va_Nw (.methodLinkNest (Rn o) r.1 (yM r.2.1) "RingDater") s) (hNc : va_Nc (excN 1) (excN 0) s) (hDG : DG (fun q => s.heap.size ≤ q) s s.heap) (hPV : PV s) (hX : va_X b L xs s s.heap) (hbl : b < s.heap.size) (h3 : L ≤ 3072)
    (hend : ∀ (H : Heap) (locs : List Loc) (cells slots : Nat) (ls : Array Slot), LV s.heap.size s H locs → cells ≤ 601024 → slots ≤ 7293034 → W p l e room_1 s m args below meth c H locs cells slots Q (F0 m 1661 ls [])) (hl : lv_has ls 7 [(0, .ref b)]) :
    W p l e room_1 s m args below meth c s.heap [] 0 0 Q (F0 m 0 ls []) := by
  generalize hn0 : s.heap.size = n0 at *
  have g0 : CG D n0 s [] s.heap [] := ⟨⟨by rw [hn0]; rfl, fun k y hy => by simp [wsL] at hy⟩, va_S.rf⟩
  have hE0 : EZ n0 s := hz1
  have hS0 : ES ks n0 s := ⟨fun i hi => (hvS.1 i (by omega)).1, fun r hr => hvR 12 r hr⟩
  refine lc_new (ci := 11) X (by decide) g0 lk_n11 lk_in11 lk_i11 (by decide) (by decide) dw_law_0 (fun H1 g1 => ?_)
  refine lv_dup X.1 X.2.1 dw_law_3 rfl ?_
  refine lc_callE (L := []) (rest := [.ref n0]) ct_11 (fun q U U' h1 h2 h => EZ_same h1 h2 h) (fun U hU hW => hE0.at (Nat.le_refl _) g1 hU hW) X g1 lk_m11 lk_i11 lk_s11 lk_c11 rfl ⟨by decide, by decide, by decide⟩ ⟨by decide, by decide⟩ ⟨by decide, by decide⟩ hl.1 (by simp [Value.category]) rfl dw_law_4 (fun H2 lc2 g2 => ?_)
  have g2 : CG D n0 s (Lf11 tA n0) H2 lc2 := g2
  refine lv_astore_n (i := 1) (lv' := [(1, .ref n0), (0, .ref b)]) X.1 X.2.1 dw_law_7 rfl hl (by decide) rfl (fun ls1 hl1 => ?_)
  refine lc_new (ci := 12) X (by decide) g2 lk_n12 lk_in12 lk_i12 (by decide) (by decide) dw_law_8 (fun H3 g3 => ?_)
  refine lv_dup X.1 X.2.1 dw_law_11 rfl ?_
  refine lc_callE (L := Lf11 tA n0) (rest := [.ref (n0 + (Lf11 tA n0).length)]) (ct_12 ks) (fun q U U' h1 h2 h => ES_same h1 h2 h) (fun U hU hW => hS0.at (by omega) g3 hU hW) X g3 lk_m12 lk_i12 lk_s12 lk_c12 rfl ⟨by decide, by decide, by decide⟩ ⟨by decide, by decide⟩ ⟨by decide, by decide⟩ hl1.1 (by simp [Value.category]) rfl dw_law_12 (fun H4 lc4 g4 => ?_)
  rw [len_11] at g4 ⊢
  refine lv_astore_n (i := 2) (lv' := [(2, .ref (n0 + 156)), (1, .ref n0), (0, .ref b)]) X.1 X.2.1 dw_law_15 rfl hl1 (by decide) rfl (fun ls2 hl2 => ?_)
  refine lv_iconst (v := iN 1) X.1 X.2.1 dw_law_16 (by decide) ?_
  refine lc_newaL X g4 (by decide) (by decide) dw_law_17 lk_al (fun H5 g5 => ?_)
  rw [List.length_append, len_11, len_12]
  refine lv_astore_n (i := 3) (lv' := [(3, .ref (n0 + 193)), (2, .ref (n0 + 156)), (1, .ref n0), (0, .ref b)]) X.1 X.2.1 dw_law_19 rfl hl2 (by decide) rfl (fun ls3 hl3 => ?_)
  refine lv_iconst (v := iN 0) X.1 X.2.1 dw_law_20 (by decide) ?_
  refine lv_istore (lv' := [(4, .int (iN 0)), (3, .ref (n0 + 193)), (2, .ref (n0 + 156)), (1, .ref n0), (0, .ref b)]) X.1 X.2.1 dw_law_21 hl3 (by decide) rfl (fun ls4 hl4 => ?_)
  have a0 : adrF ks n0 0 = n0 := by rw [adr_lo (by decide)]; rfl
  have a154 : adrF ks n0 154 = n0 + 156 := by rw [adr_hi (by decide) (by decide)]
  have hl5 : lv_has ls4 7 (lvB b (n0 + 193) (adrF ks n0) (6 * 0)) := by
    have h := lv_sub hl4 [4, 3, 2, 1, 0] rfl
    show lv_has ls4 7 [(0, .ref b), (1, .ref (adrF ks n0 0)), (2, .ref (adrF ks n0 154)), (3, .ref (n0 + 193)), (4, .int (iN ((6 * 0 : Nat) : Int)))]
    rw [a0, a154]
    exact h
  have hSt : Stc (adrF ks n0) adV (fun q => n0 ≤ q) s s.heap := by
    refine ⟨⟨fun i hi => ?_, fun i j hi hj h => ?_⟩, ⟨hz1, hz2⟩, hz3, hz4⟩
    · show va_O "java/lang/String" (adrF ks n0 (NN + i)) _ s s.heap ∧ va_OF "java/lang/String" "coder" "B" (.int 0) (adrF ks n0 (NN + i)) _ s s.heap ∧ va_OF "java/lang/String" "value" "[B" (.ref (adV i)) (adrF ks n0 (NN + i)) _ s s.heap ∧ _
      rw [adr_str hi]
      exact hvS.1 i hi
    · have h : adrF ks n0 (NN + i) = adrF ks n0 (NN + j) := h
      rw [adr_str hi, adr_str hj] at h
      exact hvS.2 i j hi hj h
  have hSr : Strs (adrF ks n0) s := by
    refine ⟨fun o r hr => ?_, hN⟩
    have hb7 : r.2.2 < 7 := by
      rcases Nat.lt_or_ge o 14 with ho | ho
      · exact (show ∀ o, o < 14 → ∀ r ∈ strL o, r.2.2 < 7 by decide) o ho r hr
      · obtain ⟨k, rfl⟩ : ∃ k, o = k + 14 := ⟨o - 14, by omega⟩
        exact absurd hr List.not_mem_nil
    rw [adr_str hb7]
    exact hvR o r hr
  have C : LCx p s m args c D tA n0 (n0 + 193) (n0 + 76) (adrF ks n0) adV b L xs := ⟨⟨X.1, X.2.1, X.2.2.1, X.2.2.2.1, X.2.2.2.2.1⟩, adrF_LM, ⟨⟨X.2.2.2.2.2.1, X.2.2.2.2.2.2.2.2.2⟩, hSt, hSr, hD, hNc, hDG, hPV⟩, hX, ⟨by omega, hn0.symm⟩, h3⟩
  exact law_loop C hfl hend 513 0 M00 (fun _ => 0) H5 lc4 _ _ ls4 (by omega) (by omega) Rel_0 (LH_0 g5) (by rw [← hn0] at g5 ⊢; exact g5.2) hl5 (by decide) (by decide)
end L9

/-! THE LAW'S START, 4: the digits' tables of java.lang.Integer. -/
abbrev dgS (n : String) : Term := Term.static "java/lang/Integer" n "[B"
theorem dg_a : ∀ n ∈ ["DigitOnes", "DigitTens"], Cond.arrayOf (dgS n) .byte ∈ stF ∧ Cond.eq (.length (dgS n)) (.int (Int32.ofNat 100)) ∈ stF := by decide +kernel
theorem dg_l : ∀ n ∈ ["DigitOnes", "DigitTens"], Cond.laysStatic "java/lang/Integer" n "[B" ∈ lw_tbl := by decide +kernel
theorem dg_i : Cond.initialized "java/lang/Integer" ∈ lw_tbl := by decide +kernel
theorem dg_e1_0 : ∀ j, j < 25 → Cond.eq (.elem (dgS "DigitOnes") (.int (Int32.ofNat (0 + j)))) (.int (iN (((0 + j) % 10 + 48 : Nat) : Int))) ∈ stF := by decide +kernel
theorem dg_e1_1 : ∀ j, j < 25 → Cond.eq (.elem (dgS "DigitOnes") (.int (Int32.ofNat (25 + j)))) (.int (iN (((25 + j) % 10 + 48 : Nat) : Int))) ∈ stF := by decide +kernel
theorem dg_e1_2 : ∀ j, j < 25 → Cond.eq (.elem (dgS "DigitOnes") (.int (Int32.ofNat (50 + j)))) (.int (iN (((50 + j) % 10 + 48 : Nat) : Int))) ∈ stF := by decide +kernel
theorem dg_e1_3 : ∀ j, j < 25 → Cond.eq (.elem (dgS "DigitOnes") (.int (Int32.ofNat (75 + j)))) (.int (iN (((75 + j) % 10 + 48 : Nat) : Int))) ∈ stF := by decide +kernel
theorem dg_e1 : ∀ j, j < 100 → Cond.eq (.elem (dgS "DigitOnes") (.int (Int32.ofNat j))) (.int (iN ((j % 10 + 48 : Nat) : Int))) ∈ stF := by
  intro j hj
  rcases (show j < 25 ∨ 25 ≤ j ∧ j < 50 ∨ 50 ≤ j ∧ j < 75 ∨ 75 ≤ j by omega) with h | h | h | h
  · have := dg_e1_0 (j - 0) (by omega)
    rw [show 0 + (j - 0) = j by omega] at this
    exact this
  · have := dg_e1_1 (j - 25) (by omega)
    rw [show 25 + (j - 25) = j by omega] at this
    exact this
  · have := dg_e1_2 (j - 50) (by omega)
    rw [show 50 + (j - 50) = j by omega] at this
    exact this
  · have := dg_e1_3 (j - 75) (by omega)
    rw [show 75 + (j - 75) = j by omega] at this
    exact this
theorem dg_e2_0 : ∀ j, j < 25 → Cond.eq (.elem (dgS "DigitTens") (.int (Int32.ofNat (0 + j)))) (.int (iN (((0 + j) / 10 + 48 : Nat) : Int))) ∈ stF := by decide +kernel
theorem dg_e2_1 : ∀ j, j < 25 → Cond.eq (.elem (dgS "DigitTens") (.int (Int32.ofNat (25 + j)))) (.int (iN (((25 + j) / 10 + 48 : Nat) : Int))) ∈ stF := by decide +kernel
theorem dg_e2_2 : ∀ j, j < 25 → Cond.eq (.elem (dgS "DigitTens") (.int (Int32.ofNat (50 + j)))) (.int (iN (((50 + j) / 10 + 48 : Nat) : Int))) ∈ stF := by decide +kernel
theorem dg_e2_3 : ∀ j, j < 25 → Cond.eq (.elem (dgS "DigitTens") (.int (Int32.ofNat (75 + j)))) (.int (iN (((75 + j) / 10 + 48 : Nat) : Int))) ∈ stF := by decide +kernel
theorem dg_e2 : ∀ j, j < 100 → Cond.eq (.elem (dgS "DigitTens") (.int (Int32.ofNat j))) (.int (iN ((j / 10 + 48 : Nat) : Int))) ∈ stF := by
  intro j hj
  rcases (show j < 25 ∨ 25 ≤ j ∧ j < 50 ∨ 50 ≤ j ∧ j < 75 ∨ 75 ≤ j by omega) with h | h | h | h
  · have := dg_e2_0 (j - 0) (by omega)
    rw [show 0 + (j - 0) = j by omega] at this
    exact this
  · have := dg_e2_1 (j - 25) (by omega)
    rw [show 25 + (j - 25) = j by omega] at this
    exact this
  · have := dg_e2_2 (j - 50) (by omega)
    rw [show 50 + (j - 50) = j by omega] at this
    exact this
  · have := dg_e2_3 (j - 75) (by omega)
    rw [show 75 + (j - 75) = j by omega] at this
    exact this
section W8
variable {s : State} {b : Nat}
theorem st_dg1 {n : String} {g : Nat → Int32} (hm : n ∈ ["DigitOnes", "DigitTens"]) (hts : ∀ w ∈ lw_tbl, w.before #[Value.ref b] s = true) (hgv : (Jvm.Cond.and given_1 narrow_1).before #[Value.ref b] s = true) (he : ∀ j, j < 100 → Cond.eq (.elem (dgS n) (.int (Int32.ofNat j))) (.int (g j)) ∈ stF) :
    ∃ d, va_Z "java/lang/Integer" n "[B" (.ref d) (fun q => s.heap.size ≤ q) s s.heap ∧ va_T .byte d 100 (fun j => .int (g j)) (fun q => s.heap.size ≤ q) s s.heap := by
  have hs := flat_of_before _ hgv
  have hA : ∀ a : Nat, a < s.heap.size → ¬ s.heap.size ≤ a := fun a ha => by omega
  obtain ⟨t, ht, hT⟩ := va_Tof (f := fun j => .int (g j)) (A := fun q => s.heap.size ≤ q) (N := 100) (by decide) (hs _ (dg_a n hm).1) (va_eqt (hs _ (dg_a n hm).2)) (fun j hj => va_eqt (hs _ (he j hj))) hA
  exact ⟨t, va_Zref (hts _ (dg_l n hm)) (hts _ dg_i) ht hA, hT⟩
theorem st_dg (hts : ∀ w ∈ lw_tbl, w.before #[Value.ref b] s = true) (hgv : (Jvm.Cond.and given_1 narrow_1).before #[Value.ref b] s = true) : DG (fun q => s.heap.size ≤ q) s s.heap := by
  obtain ⟨d1, a1, b1⟩ := st_dg1 (n := "DigitOnes") (by simp) hts hgv dg_e1
  obtain ⟨d2, a2, b2⟩ := st_dg1 (n := "DigitTens") (by simp) hts hgv dg_e2
  exact ⟨d1, d2, ⟨a1, b1⟩, a2, b2⟩
end W8

/-! THE CLAIM OUT OF ONE WALK OF THE LAW'S BODY. Your part is whole_start (and what it stands on); all else here is the same for every law, but numbers. -/
def R_law : String := "RingDaterLaw"
def lw_P (b : Addr) (xs : List Int32) (args : Array Value) (s : State) : Prop := args = #[.ref b] ∧ s.IntsAt b xs ∧ xs.length ≤ 3072 ∧ (Jvm.Cond.and given_1 narrow_1).before args s = true
def lw_Q (_ : Array Value) (s : State) (o : Outcome) (t : State) : Prop := o = .returned (some (.int 1)) ∧ Framed s o t [] 601024 7293034
def lw_Z (below : List Frame) (a : Array Value) (s : State) : State → Prop := fun t => ∃ o, t.status = .running ∧ Ended t below o ∧ lw_Q a s o t
/-- the law's own end, with 1 on the stack, nothing written that was there before, its room as the claim has it -/
theorem lw_ret {p : Program} {l : Launch} {e : Env} {s : State} {m : MethodId} {below : List Frame} {meth : Method} {c : Code} {b : Nat} (hx : p.tables.exec = Jvm.exec) (hb : c.code = code) (hr : meth.sig.returnType = ret) (hlocks : meth.locks = false) {pc : Nat} {H : Heap} {ls : Array Slot} (hdg : decode code pc = .ok (.ireturn, 1)) : W p l e room_1 s m #[Value.ref b] below meth c H [] 601024 7293034 (lw_Z below #[Value.ref b] s) (F0 m pc ls [.int 1]) := by
  intro T hT X
  obtain ⟨fs, hret, hrun, hended, hW, hframe⟩ := X.leave (v := some (.int 1)) (hlocks := hlocks) (fun h => by rw [hr] at h; cases h)
  have hmeth' : T.vm.method? m = some meth := X.method'
  refine ⟨T.setFrames fs, ?_, .returned (some (.int 1)), hrun, hended, rfl, ⟨_, rfl⟩, hW, hframe⟩
  jvm_step X.here [X.here.top, hx, hb, hdg, hmeth', hr, ret, narrow_b1]
  (try refine ⟨rfl, ?_⟩); (try refine ⟨rfl, ?_⟩)
  first | (intro acts; rw [hret _ acts rfl rfl rfl]) | rw [hret _ _ rfl rfl rfl]
  exact Steps.refl _
/-- what holds at the law's entry: the machine, the code, the tables' words (any of lw_tbl by 'hts w (by decide +kernel)'), the script of L ints xs at the cell b, what the Statement gives of the start (any of its parts by flat_of_before) -/
def lw_At (p : Program) (s : State) (m : MethodId) (meth : Method) (c : Code) (b L : Nat) (xs : Nat → Int32) : Prop :=
  p.tables.exec = Jvm.exec ∧ c.code = code ∧ meth.sig.returnType = ret ∧ c.maxLocals = 7 ∧ s.vm.findClass R_law = some m.cls ∧ (∀ w ∈ lw_tbl, w.before #[Value.ref b] s = true) ∧ va_X b L xs s s.heap ∧ b < s.heap.size ∧ meth.locks = false ∧ (Jvm.Cond.and given_1 narrow_1).before #[Value.ref b] s = true

theorem lw_nc : Cond.not (Cond.castable (excN 1) (excN 0)) ∈ stF := by decide +kernel
/-- YOUR PART: from the entry, for every script of at most 3072 ints, the law comes to its end with true ('hflags': the launch's flags, for a law that throws: no stack traces) -/
theorem whole_start {p : Program} {e : Env} {s : State} {m : MethodId} {below : List Frame} {meth : Method} {c : Code} (l : Launch) (hflags : l.flags = flags0) {b L : Nat} {xs : Nat → Int32} (hL : L ≤ 3072) (C0 : lw_At p s m meth c b L xs) : W p l e room_1 s m #[Value.ref b] below meth c s.heap [] 0 0 (lw_Z below #[Value.ref b] s) (entryFrame m ([Value.ref b] : List Value).toArray 7) := by
  obtain ⟨hx, hb, hret, hml, hown, hts, hX, hbl, hlk, hgv⟩ := C0
  have hg : ∀ w ∈ gW, w.before #[Value.ref b] s = true := fun w hw => hts w (List.mem_filter.mp hw).1
  obtain ⟨ks, adV, hvS, hvR⟩ := st_str hts hgv
  obtain ⟨D, tA, hK, hK2⟩ := st_K hts
  obtain ⟨⟨z1, z2⟩, z3, z4⟩ := st_stc hts hgv
  have hfl : l.stackTraces = false := by
    unfold Launch.stackTraces
    rw [hflags]
    decide +kernel
  rw [lg_entry_eq]
  have hl := lv_entry ([Value.ref b] : List Value) (n := 7) (by simp [lg_sl, Value.category])
  have X : CXl p s m #[Value.ref b] c D tA 7 code := ⟨hx, hb, hml, hown, hg, hK, st_Wc hts hK2⟩
  refine law_start X hfl hvS hvR z1 z2 z3 z4 (st_dcl hts) (st_nest hts) (va_Nc.of (flat_of_before _ hgv _ lw_nc)) (st_dg hts hgv) (fun w hw => va_tabs (pvL_ot w hw) rfl (hts w (pvL_in w hw))) hX hbl hL (fun H locs cells slots ls hS hc hs => ?_) hl
  refine lv_iconst (v := 1) hx hb dw_law_1661 (by decide) ?_
  refine va_forget hS.2.2 ?_
  exact W.widen hc hs (lw_ret hx hb hret hlk dw_law_1662)
set_option maxHeartbeats 600000 in
set_option maxRecDepth 20000 in
theorem lw_walk (l : Launch) (hflags : l.flags = flags0) (b : Addr) (xs : List Int32) : MetFree l x (headSpec (Jvm.Cond.code x code maxLocals ret :: tables_1) room_1) (lw_P b xs) (fun _ _ _ _ _ => True) lw_Q := by
  refine MetFree.of_bodyS (code := code) (maxLocals := maxLocals) (ret := ret) (by decide) ?_ ?_
  · intro args s m h hn
    obtain ⟨meth, c, h1, h2, h3, h4, h5, h6, -, -⟩ := Cond.code_spec hn (atoms_spec (ws := Jvm.Cond.code x code maxLocals ret :: tables_1) h _ List.mem_cons_self)
    exact ⟨meth, c, h1, h2, h3, h4, h5, h6⟩
  · intro p e s m args below meth c s₁ B hml0 hP _
    obtain ⟨rfl, hx, hbd, hgv⟩ := hP
    obtain ⟨scr, harrAt, hlist, hof, hsmall⟩ := hx
    obtain ⟨hcb, hkn, -, -⟩ := State.arrayAt?_spec harrAt
    have hown : s.vm.findClass R_law = some m.cls := findClass_of_methodNamed B.named
    have hts0 : ∀ c ∈ (Jvm.Cond.code x code maxLocals ret :: tables_1), c.before #[Value.ref b] s = true := atoms_spec (ws := Jvm.Cond.code x code maxLocals ret :: tables_1) B.pre
    have hts : ∀ w ∈ lw_tbl, w.before #[Value.ref b] s = true := k2_hts_sels lw_privs (fun w hw => hts0 w (List.mem_cons_of_mem _ hw)) lw_privs_ok
    have hml : c.maxLocals = 7 := B.maxLocals_eq (hts0 _ List.mem_cons_self)
    have X₀ : Stand p l e room_1 s m #[Value.ref b] below meth c s₁ [] 0 0 := Stand.of_body B
    have hh0 : s₁.heap = s.heap := by rw [B.state]; rfl
    have hsz : scr.slots.size = xs.length := by rw [← Array.length_toList, hlist, List.length_map]
    have hval : ∀ j : Nat, j < xs.length → scr.slots[j]? = some (.int (xs.getD j 0)) := fun j hj => by
      rw [← Array.getElem?_toList, hlist]
      simp [hj]
    have hbl : b < s.heap.size := (Array.getElem?_eq_some_iff.mp hcb).1
    have hX : va_X b xs.length (fun j => xs.getD j 0) s s.heap := ⟨scr, hcb, hof, hkn, hsz, hval⟩
    have K : W p l e room_1 s m #[Value.ref b] below meth c s₁.heap [] 0 0 (lw_Z below #[Value.ref b] s) (entryFrame m ([Value.ref b] : List Value).toArray 7) := by
      rw [hh0]
      exact whole_start l hflags hbd ⟨B.exec, B.bytes, B.returns, hml, hown, hts, hX, hbl, B.notSynchronized, hgv⟩
    obtain ⟨t, a1, o, b1, b2, b3⟩ := K s₁ rfl X₀
    exact ⟨t, o, a1, b1, b2, b3⟩
theorem lw_pre_spec {args : Array Value} {s : State} (h : (Jvm.Cond.and given_1 narrow_1).before args s = true) (hr : rest_1_c.before args s = true) : ∃ (b : Addr) (xs : List Int32), lw_P b xs args s := by
  have hs := flat_of_before _ h
  have hq := flat_of_before _ hr
  have hc : (Cond.count 1).before args s = true := hs _ (by decide +kernel)
  have harr : (Cond.arrayOf (.arg 0) .int).before args s = true := hs _ (by decide +kernel)
  have hle : (Cond.le (.length (.arg 0)) (.int 3072)).before args s = true := hs _ (by decide +kernel)
  have hlen : (Cond.isInt (.length (.arg 0))).before args s = true := hq _ (by decide +kernel)
  have hall : (Cond.all (.arg 0) (.isInt (.elem (.arg 0) (.index 0)))).before args s = true := hq _ (by decide +kernel)
  obtain ⟨b, xs, hb, hx⟩ := State.ints_of_pre rfl harr hlen hall
  have hsm : xs.length < 2 ^ 31 := hx.choose_spec.2.2.2
  have hev : (Term.length (.arg 0)).eval args s none [] s = some (.int xs.length.toInt32) := hx.length_eval hb
  have hv := Cond.le_ints hev (show (Term.int 3072).eval args s none [] s = some (.int 3072) from rfl)
  have hd : xs.length.toInt32 ≤ 3072 := by
    simpa [Cond.before, Cond.holds, hv] using hle
  have hN : xs.length ≤ 3072 := (Int32.ofNat_le_ofNat hsm (by decide)).mp (show Int32.ofNat xs.length ≤ Int32.ofNat 3072 from hd)
  exact ⟨b, xs, Cond.one_arg hc (show args[0]? = some (.ref b) from hb), hx, hN, h⟩
theorem lw_comes (l : Launch) (hflags : l.flags = flags0) : Comes l x (Jvm.Cond.code x code maxLocals ret :: tables_1) room_1 (fun tb e args s => Calls_1 tb e args s ∧ rest_1 tb e args s ∧ Pre_1 tb e args s)
    (fun _ _ args s o t => lw_Q args s o t) := by
  intro p e ha hc hk s m args below hf hfit hheap happ hpre
  obtain ⟨b, xs, hP⟩ := lw_pre_spec hpre.2.2 hpre.2.1
  obtain ⟨k, o, h1, h2, h3, hQ⟩ := lw_walk l hflags b xs p e ha hc hk s m args below hf ((Spec.applies_iff_loose hf).mp happ).1 hP trivial
  exact ⟨k, o, h1, h2, h3, hQ⟩
theorem lw_frame {s t : State} {o : Outcome} {args : Array Value} (h : Framed s o t [] 601024 7293034) :
    Framed s o t (fieldLocs frame_1_writes args s ++ arrayLocs frame_1_arrays args s ++ staticLocs frame_1_statics s) 601024 7293034 := h
theorem lw_limb (L : Cond) (hL : ∀ (args : Array Value) (s t : State), L.after args s (.returned (some (.int 1))) t = true) :
    ArmFor flags0 classFile x code maxLocals ret World_1 tables_1 room_1 Calls_1 rest_1 Pre_1
      (fun tb e a s o t => postC L tb e a s o t ∧ Framed s o t (fieldLocs frame_1_writes a s ++ arrayLocs frame_1_arrays a s ++ staticLocs frame_1_statics s) 601024 7293034) := by
  intro l hflags _ _ p e ha hc hk s m args below hf hfit hheap happ hpre
  obtain ⟨k, o, h1, h2, h3, rfl, hF⟩ := lw_comes l hflags p e ha hc hk s m args below hf hfit hheap happ hpre
  exact ⟨k, _, h1, h2, h3, hL args s _, lw_frame hF⟩
theorem i_vc : Claimed_1_1 ∧ Claimed_1_2 := ⟨lw_limb limb_1_1 (fun args s t => by simp [limb_1_1, Cond.after, Cond.holds, Cond.value]), lw_limb limb_1_2 (fun args s t => Cond.after_iff.mpr (by
  first | (rw [show limb_1_2 = Cond.eq .result (.int 1) from rfl, Cond.eq_ints (x := 1) (y := 1) rfl rfl]; simp; done) | (simp [limb_1_2, Cond.value, Term.eval]; done)))⟩


