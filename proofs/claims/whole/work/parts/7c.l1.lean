/-! THE LAW, 1: its world; calls out of the law and out of its wrappers. -/
theorem excD_face : ∀ w ∈ excD, w.keepsFace = true := by decide +kernel
theorem Dcl.warm {s U : State} (hW : s.WarmedH U.vm) (h : Dcl s) : Dcl U := fun w hw =>
  va_tabs (excD_ot w hw) (show (s.setVm U.vm).vm = U.vm from rfl) (Cond.before_shiftedFace (State.Shifted.of_warmed hW) w (excD_face w hw) (h w hw))
theorem Dcl.same {u U : State} (hv : u.vm = U.vm) (h : Dcl u) : Dcl U := fun w hw => va_tabs (excD_ot w hw) hv (h w hw)
/-- the addresses: all behind n0; out's cell o, the builder's bs, apart from all of the memory's cells -/
def LM (n0 o bs : Nat) (adr : Nat → Nat) : Prop := (n0 ≤ o ∧ n0 ≤ bs ∧ o ≠ bs) ∧ (∀ a, a < NN → n0 ≤ adr a ∧ adr a ≠ o ∧ adr a ≠ bs) ∧ (∀ i j, i < NN → j < NN → adr i = adr j → i = j) ∧ bs = adr 198
/-- the digits' tables of java.lang.Integer -/
def DG (A : Nat → Prop) (U : State) (H : Heap) : Prop := ∃ d1 d2 : Nat, (va_Z "java/lang/Integer" "DigitOnes" "[B" (.ref d1) A U H ∧ va_T .byte d1 100 (fun j => .int (iN ((j % 10 + 48 : Nat) : Int))) A U H) ∧ va_Z "java/lang/Integer" "DigitTens" "[B" (.ref d2) A U H ∧ va_T .byte d2 100 (fun j => .int (iN ((j / 10 + 48 : Nat) : Int))) A U H
theorem DG.moved {A : Nat → Prop} {u U : State} {H : Heap} (hvm : u.vm.Alike U.vm) (h : DG A u H) : DG A U H := by
  obtain ⟨d1, d2, ⟨a, b⟩, c, d⟩ := h
  exact ⟨d1, d2, ⟨va_Z.moved hvm a, va_T.moved hvm b⟩, va_Z.moved hvm c, va_T.moved hvm d⟩
theorem DG.kept {A : Nat → Prop} {U : State} {H H1 : Heap} (h : DG A U H) (hq : ∀ a : Nat, a < H.size → ¬ A a → H1[a]? = H[a]?) : DG A U H1 := by
  obtain ⟨d1, d2, ⟨a, b⟩, c, d⟩ := h
  exact ⟨d1, d2, ⟨a.kept hq, b.kept hq⟩, c.kept hq, d.kept hq⟩
theorem DG.narrow {A B : Nat → Prop} {U : State} {H : Heap} (h : DG A U H) (hAB : ∀ q, B q → A q) : DG B U H := by
  obtain ⟨d1, d2, ⟨a, b⟩, c, d⟩ := h
  exact ⟨d1, d2, ⟨a.narrow hAB, b.narrow hAB⟩, c.narrow hAB, d.narrow hAB⟩
/-- private methods of the builder's class (the tables' words) -/
def yPv (n d : String) : MethodName := ⟨"java/lang/AbstractStringBuilder", n, d⟩
def pvL : List Cond := [.privateMethod (yPv "ensureCapacityInternal" "(I)V"), .privateMethod (yPv "newCapacity" "(I)I"), .privateMethod (yPv "putStringAt" "(ILjava/lang/String;)V"), .privateMethod (yPv "inflateIfNeededFor" "(Ljava/lang/String;)V")]
def PV (U : State) : Prop := ∀ w ∈ pvL, w.before #[] U = true
theorem pvL_ot : ∀ w ∈ pvL, w.onTables = true := by decide +kernel
theorem pvL_fa : ∀ w ∈ pvL, w.faceAtom = true := by decide +kernel
theorem pvL_in : ∀ w ∈ pvL, w ∈ lw_tbl := by decide +kernel
theorem PV.moved {u U : State} (hvm : u.vm.Alike U.vm) (h : PV u) : PV U := fun w hw => va_tabs (pvL_ot w hw) (show (u.setVm U.vm).vm = U.vm from rfl) (Cond.faceAtom_setVm hvm w (pvL_fa w hw) (h w hw))
/-- what stands in the tables, and still in the heap -/
def LSt (D : va_G) (tA : Nat → ClassId) (n0 : Nat) (adr adV : Nat → Nat) (U : State) (H : Heap) : Prop :=
  (va_K D clA (tysA tA) U ∧ va_K D clA [(tA 4, .byte), (tA 5, .long)] U) ∧ Stc adr adV (fun q => n0 ≤ q) U H ∧ Strs adr U ∧ Dcl U ∧ va_Nc (excN 1) (excN 0) U ∧ DG (fun q => n0 ≤ q) U H ∧ PV U
/-- signs: the bytes of the builder -/
def tOk (T : Nat → Int) : Prop := ∀ j, 0 ≤ T j ∧ T j ≤ 127
def cOk (cap : Nat) : Prop := cap = 16 ∨ cap = 34 ∨ cap = 70 ∨ cap = 142
def bObj (bb cnt : Nat) (ml : Int32) : va_E := .inr (13, [.ref bb, .int (iN 0), .int ml, .int (iN (cnt : Int))])
def bByt (tA : Nat → ClassId) (cap : Nat) (T : Nat → Int) : va_E := .inl (tA 4, (cap, .inl (fun j => iN (T j))))
/-- the builder and its bytes -/
def LB (D : va_G) (tA : Nat → ClassId) (n0 o bs : Nat) (adr : Nat → Nat) (H : Heap) : Prop := ∃ (bb cap cnt : Nat) (ml : Int32) (T : Nat → Int), (n0 ≤ bb ∧ bb ≠ o ∧ bb ≠ bs ∧ ∀ a, a < NN → bb ≠ adr a) ∧ (cOk cap ∧ cnt ≤ cap ∧ tOk T) ∧
  va_at D clA (bs, bObj bb cnt ml) H ∧ va_at D clA (bb, bByt tA cap T) H
/-- the law's world in the heap H: the memory M, out's number f 0, the builder -/
def LH (D : va_G) (tA : Nat → ClassId) (n0 o bs : Nat) (adr : Nat → Nat) (M : Mm) (f : Nat → Int64) (H : Heap) : Prop := n0 ≤ H.size ∧ va_P D clA (wsA tA adr M) H ∧ va_at D clA (o, .inl (tA 5, (1, .inr (.inl f)))) H ∧ LB D tA n0 o bs adr H
section L1
variable {D : va_G} {tA : Nat → ClassId} {n0 o bs sz : Nat} {adr adV : Nat → Nat} {M M' : Mm} {f f' : Nat → Int64} {H H1 : Heap} {locs : List Loc} {s U : State}
theorem LM.sub (h : LM n0 o bs adr) (hz : n0 ≤ sz) : ∀ q, AA adr sz q → n0 ≤ q := fun q hq => by
  rcases hq with ⟨a, ha, rfl⟩ | hq
  · exact (h.2.1 a ha).1
  · exact Nat.le_trans hz hq
theorem ws_el {k : Nat} {q : Nat × va_E} (hk : (wsA tA adr M)[k]? = some q) : k < NN ∧ q.1 = adr k := by
  have hlt : k < NN := by
    obtain ⟨h, -⟩ := List.getElem?_eq_some_iff.mp hk
    rw [wsA_len] at h
    exact h
  rw [wsA_at hlt] at hk
  exact ⟨hlt, by rw [← Option.some.inj hk]⟩
theorem LM.dd (h : LM n0 o bs adr) : va_D (AA adr sz) (wsA tA adr M) := by
  refine ⟨fun i j p q hi hj e => ?_, fun k q hk => .inl ⟨k, (ws_el hk).1, (ws_el hk).2⟩⟩
  rw [(ws_el hi).2, (ws_el hj).2] at e
  exact h.2.2.1 i j (ws_el hi).1 (ws_el hj).1 e
theorem LSt.now (h : LSt D tA n0 adr adV s s.heap) (hS : va_S (fun q => n0 ≤ q) s.heap H locs) (hW : s.WarmedH U.vm) : LSt D tA n0 adr adV U H :=
  ⟨⟨va_K.moved hW.alike h.1.1, va_K.moved hW.alike h.1.2⟩, Stc.moved hW.alike (h.2.1.kept hS.2.1), h.2.2.1.warm hW, h.2.2.2.1.warm hW, va_Nc.moved hW.alike h.2.2.2.2.1, (h.2.2.2.2.2.1.kept hS.2.1).moved hW.alike, h.2.2.2.2.2.2.moved hW.alike⟩
theorem LSt.same {u : State} (hv : u.vm = U.vm) (h : LSt D tA n0 adr adV u H) : LSt D tA n0 adr adV U H := by
  have e : u.vm.Alike U.vm := by rw [hv]; exact Vm.Alike.refl _
  exact ⟨⟨va_K.moved e h.1.1, va_K.moved e h.1.2⟩, Stc.moved e h.2.1, h.2.2.1.same hv.symm, h.2.2.2.1.same hv, va_Nc.moved e h.2.2.2.2.1, h.2.2.2.2.2.1.moved e, h.2.2.2.2.2.2.moved e⟩
theorem lw_Wld (hm : LM n0 o bs adr) (hs : LSt D tA n0 adr adV U H) (hh : LH D tA n0 o bs adr M f H) (hU : U.heap = H) : Wld D tA adr adV M H.size U := by
  refine ⟨by rw [hU], by rw [hU]; exact hh.2.1, hs.1.1, hm.dd, ?_, hs.2.2.1⟩
  rw [hU]
  exact hs.2.1.narrow (hm.sub hh.1)
theorem l_keep (hm : LM n0 o bs adr) (hh : LH D tA n0 o bs adr M f H) (hz : H.size ≤ H1.size) (hk : ∀ q : Nat, q < H.size → ¬ AA adr H.size q → H1[q]? = H[q]?) (hP : va_P D clA (wsA tA adr M') H1) : LH D tA n0 o bs adr M' f H1 := by
  obtain ⟨h1, h2, h3, bb, cap, cnt, ml, fb, ⟨b1, b2, b3, b4⟩, hc, h4, h5⟩ := hh
  have hn : ∀ q : Nat, q < H.size → (∀ a, a < NN → adr a ≠ q) → ¬ AA adr H.size q := by
    rintro q hq hne (⟨a, ha, rfl⟩ | hge)
    · exact hne a ha rfl
    · omega
  have l3 : o < H.size := h3.lt
  have l4 : bs < H.size := h4.lt
  have l5 : bb < H.size := h5.lt
  exact ⟨Nat.le_trans h1 hz, hP, h3.kept (hk o l3 (hn o l3 (fun a ha => (hm.2.1 a ha).2.1))), bb, cap, cnt, ml, fb, ⟨b1, b2, b3, b4⟩, hc, h4.kept (hk bs l4 (hn bs l4 (fun a ha => (hm.2.1 a ha).2.2))), h5.kept (hk bb l5 (hn bb l5 (fun a ha e => b4 a ha e.symm)))⟩
theorem vS_app {H0 : Heap} {A A1 : Nat → Prop} {L : List Loc} (hS : va_S A H0 H locs) (hz : H.size ≤ H1.size) (hk : ∀ q : Nat, q < H.size → ¬ A1 q → H1[q]? = H[q]?) (hsub : ∀ q, A1 q → A q) (hL : ∀ q ∈ L, A q.base) : va_S A H0 H1 (locs ++ L) := by
  refine ⟨Nat.le_trans hS.1 hz, fun q h1 h2 => ?_, fun q hq => ?_⟩
  · rw [hk q (Nat.lt_of_lt_of_le h1 hS.1) (fun z => h2 (hsub q z))]
    exact hS.2.1 q h1 h2
  · rcases List.mem_append.mp hq with h | h
    · exact hS.2.2 q h
    · exact hL q h
theorem inR_ti (x : Int32) : inR x.toInt := ⟨Int32.le_toInt x, by have := Int32.toInt_lt x; omega⟩
end L1
def lwN : String := "RingDaterLaw"
section L2
variable {p : Program} {l : Launch} {e : Env} {R : Room} {s : State} {m : MethodId} {args : Array Value} {below : List Frame} {meth : Method} {c : Code} {Q : State → Prop}
variable {D : va_G} {tA : Nat → ClassId} {n0 o bs : Nat} {adr adV : Nat → Nat} {M : Mm} {f : Nat → Int64} {H : Heap} {locs : List Loc} {cells slots pc : Nat} {ls : Array Slot} {rest st0 : List Value} {nL : Nat} {cc : ByteArray}
/-- a method of the law's class, in its run -/
def LX (p : Program) (s : State) (m : MethodId) (args : Array Value) (c : Code) (nL : Nat) (cc : ByteArray) : Prop := p.tables.exec = Jvm.exec ∧ c.code = cc ∧ c.maxLocals = nL ∧ s.vm.findClass lwN = some m.cls ∧ ∀ w ∈ gW, w.before args s = true
/-- the words of a call of method q at the pool's index -/
def LWd (idx q : Nat) : Prop := (Cond.methodLink lwN idx (yM q) ∈ gW ∧ Cond.instanceMethod (yM q) ∈ gW) ∧ (Cond.selects (yM q).cls (yM q) (yM q) ∈ gW ∧ Cond.initialized (yM q).cls ∈ gW) ∧ (parseMethodDescriptor (yM q).desc).map (fun d => d.parameters.length + 1) = some (nM q) ∧ q < mtN
def LV (n0 : Nat) (s : State) (H : Heap) (locs : List Loc) : Prop := va_S (fun q => n0 ≤ q) s.heap H locs
theorem l_after {a : Array Value} {Qc : Option AV → Mm → Prop} (hm : LM n0 o bs adr) (hh : LH D tA n0 o bs adr M f H) (hS : LV n0 s H locs)
    (hr : va_Run p l e R s m args below meth c H locs cells slots 0 0 (F0 m pc ls st0) rest (Qm D tA adr Qc (AA adr H.size) a) (AA adr H.size))
    (hk : ∀ v M' H1 locs1, Qc v M' → LH D tA n0 o bs adr M' f H1 → LV n0 s H1 locs1 → W p l e R s m args below meth c H1 locs1 cells slots Q (F0 m (pc + 3) ls ((v.map (cvA adr)).toList ++ rest))) : W p l e R s m args below meth c H locs cells slots Q (F0 m pc ls st0) := by
  intro T hT X
  obtain ⟨v, st₀, t, T', L, h0, X', hL, e1, e2, ⟨⟨v', M', hq, hv, hP, hD⟩, hz, hkk⟩, st⟩ := hr T hT X
  rw [h0] at hz hkk hD
  have hv' : v = v'.map (cvA adr) := by cases hv; rfl
  subst hv'
  have hz1 : H.size ≤ T'.heap.size := by rw [e1]; exact hz
  have hk1 : ∀ q : Nat, q < H.size → ¬ AA adr H.size q → T'.heap[q]? = H[q]? := fun q h1 h2 => by rw [e1]; exact hkk q h1 h2
  have K := hk v' M' T'.heap (locs ++ L) hq (l_keep hm hh hz1 hk1 (by rw [e1]; exact hP)) (vS_app hS hz1 hk1 (hm.sub hh.1) (fun q hq => hm.sub hh.1 _ (hL q hq)))
  obtain ⟨t2, a1, b1⟩ := K T' rfl X'
  exact ⟨t2, st t2 a1, b1⟩
theorem l_recv (hs : LSt D tA n0 adr adV s s.heap) (hh : LH D tA n0 o bs adr M f H) {b q : Nat} (hq : q < mtN) (hb : kc (lay b) (oM q)) : ∃ cellB : Cell, H[adr b]? = some cellB ∧ cellB.vm.isStatics = false ∧ s.vm.findClass (yM q).cls = some cellB.cls := by
  obtain ⟨m1, m2⟩ := meth_el hq
  simp only [okM, Bool.and_eq_true, decide_eq_true_eq] at m2
  obtain ⟨⟨⟨⟨⟨⟨-, hpl⟩, hcls⟩, hn1⟩, hn2⟩, hl30⟩, -⟩ := m2
  rw [hcls]
  unfold kc at hb
  split at hb
  · rename_i c' fs hlay
    subst hb
    have hlt := lay_ok (lay_lt (a := b) (by rw [hlay]; intro n q; cases q))
    simp only [okL, hlay, Bool.and_eq_true, decide_eq_true_eq] at hlt
    exact va_recv hs.1.1 hh.2.1 (cls_el hlt.1).1 (ws_obj hlay)
  · exact hb.elim
theorem l_sig {idx q : Nat} {As : List AV} (hw : LWd idx q) (hn : As.length + 1 = nM q) : (yM q).cls ≠ "java/lang/invoke/MethodHandle" ∧ (yM q).cls ≠ "java/lang/invoke/VarHandle" ∧ (parseMethodDescriptor (yM q).desc).map (fun d => d.parameters.length) = some As.length := by
  obtain ⟨m1, m2⟩ := meth_el hw.2.2.2
  simp only [okM, Bool.and_eq_true, decide_eq_true_eq] at m2
  obtain ⟨⟨⟨⟨⟨⟨-, hpl⟩, hcls⟩, hn1⟩, hn2⟩, hl30⟩, -⟩ := m2
  have w4 := hw.2.2.1
  refine ⟨hn1, hn2, ?_⟩
  cases hp : parseMethodDescriptor (yM q).desc with
  | none => rw [hp] at w4; cases w4
  | some d =>
    rw [hp] at w4
    have : d.parameters.length + 1 = nM q := Option.some.inj w4
    simp only [Option.map_some]
    congr 1
    omega
theorem l_l30 {q : Nat} (hq : q < mtN) : lM q ≤ 30 := by
  obtain ⟨m1, m2⟩ := meth_el hq
  simp only [okM, Bool.and_eq_true, decide_eq_true_eq] at m2
  exact m2.1.2
/-- a call of a method of the class or of the reference -/
theorem l_call {idx q b : Nat} {As : List AV} {Qc : Option AV → Mm → Prop} (X : LX p s m args c nL cc) (hw : LWd idx q) (hm : LM n0 o bs adr) (hs : LSt D tA n0 adr adV s s.heap) (hh : LH D tA n0 o bs adr M f H) (hS : LV n0 s H locs) (hls : ls.size = nL) (hb : kc (lay b) (oM q)) (hn : As.length + 1 = nM q) (hR : dM q + 1 ≤ R.frames ∧ 49 + 64 * dM q ≤ R.locals) (hc : cells ≤ R.cells ∧ slots ≤ R.slots)
    (hrest : (rest.map fun v => v.category).sum ≤ 8) (hst : st0 = (As.map (cvA adr)).reverse ++ .ref (adr b) :: rest) (hdg : decode cc pc = .ok (.invokevirtual idx, 3)) (hC : CallP q (.inr b :: As) M Qc)
    (hk : ∀ v M' H1 locs1, Qc v M' → LH D tA n0 o bs adr M' f H1 → LV n0 s H1 locs1 → W p l e R s m args below meth c H1 locs1 cells slots Q (F0 m (pc + 3) ls ((v.map (cvA adr)).toList ++ rest))) : W p l e R s m args below meth c H locs cells slots Q (F0 m pc ls st0) := by
  obtain ⟨hx, hb', hml, hown, hts⟩ := X
  have hq := hw.2.2.2
  have h30 := l_l30 hq
  refine l_after (a := (Value.ref (adr b) :: As.map (cvA adr)).toArray) (Qc := Qc) hm hh hS ?_ hk
  refine va_runV (own := lwN) (Ts := gW) (nL := nL) (As := As.map (cvA adr)) (C := (yM q).cls) (n := As.length) (bytes := cM q) (maxL := lM q) (ret := rM q) ⟨hx, hb', hml, hown, hts⟩ (hC l D tA adr adV H.size)
    ⟨callB_of As.length hts (wM_good hq) rfl rfl rfl (hts _ hw.2.1.2) (hts _ hw.1.1) (l_sig hw hn) ⟨hR.1, ?_⟩, hts _ hw.1.2, hts _ hw.2.1.1⟩
    ⟨Wld.blind _, l_recv hs hh hq hb, fun U hU hW => ⟨by simp [cvA], ?_⟩⟩ rfl (by simp) hls hst (lv_room (pc := pc) (ls := ls) (rest := st0) hrest) hdg ⟨by omega, by omega⟩
  · show 8 + (lM q + 11) + 64 * dM q ≤ R.locals
    omega
  · rw [← hU]
    exact lw_Wld hm (hU ▸ hs.now hS hW) (hU ▸ hh) rfl
end L2
