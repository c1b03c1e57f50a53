/-! THE BUILDER, 1: its world: the object bs with its bytes bb; contracts of its methods. -/
def tset (T : Nat → Int) (k : Nat) (v : Int) : Nat → Int := fun j => if j = k then v else T j
theorem tOk_set {T : Nat → Int} {k : Nat} {v : Int} (h : tOk T) (h0 : 0 ≤ v) (h1 : v ≤ 127) : tOk (tset T k v) := fun j => by
  unfold tset
  split
  · exact ⟨h0, h1⟩
  · exact h j
theorem upd_tset {T : Nat → Int} {k : Nat} {v : Int} : upd (fun j => iN (T j)) k (iN v) = fun j => iN (tset T k v j) := by
  funext j
  unfold tset
  by_cases h : j = k <;> simp [upd, h]
abbrev BS : Type := Nat × Nat × Nat × Int32 × (Nat → Int)
abbrev xB (x : BS) : Nat := x.1
abbrev xC (x : BS) : Nat := x.2.1
abbrev xN (x : BS) : Nat := x.2.2.1
abbrev xM (x : BS) : Int32 := x.2.2.2.1
abbrev xT (x : BS) : Nat → Int := x.2.2.2.2
def BW (tA : Nat → ClassId) (bs : Nat) (x : BS) : va_W := [(bs, bObj (xB x) (xN x) (xM x)), (xB x, bByt tA (xC x) (xT x))]
def okX (x : BS) : Prop := cOk (xC x) ∧ xN x ≤ xC x ∧ tOk (xT x)
/-- what a method of the builder may write -/
def bA (bs bb sz : Nat) : Nat → Prop := fun q => q = bs ∨ q = bb ∨ sz ≤ q
/-- what stands still beside the builder -/
def BK (D : va_G) (tA : Nat → ClassId) (n0 : Nat) (adr adV : Nat → Nat) (U : State) (H : Heap) : Prop := va_K D clA [(tA 4, .byte), (tA 5, .long)] U ∧ Stc adr adV (fun q => n0 ≤ q) U H ∧ DG (fun q => n0 ≤ q) U H ∧ PV U
def BPre (D : va_G) (tA : Nat → ClassId) (n0 : Nat) (adr adV : Nat → Nat) (sz bs : Nat) (x : BS) (U : State) : Prop :=
  (U.heap.size = sz ∧ n0 ≤ sz ∧ n0 ≤ bs ∧ n0 ≤ xB x ∧ bs ≠ xB x) ∧ okX x ∧ va_P D clA (BW tA bs x) U.heap ∧ BK D tA n0 adr adV U U.heap
def BPost (D : va_G) (tA : Nat → ClassId) (sz bs bb : Nat) (Rr : Option Value → BS → Prop) : Array Value → State → Outcome → State → Prop := fun _ st oc t =>
  (∃ v x, oc = .returned v ∧ Rr v x ∧ okX x ∧ va_P D clA (BW tA bs x) t.heap ∧ (bs ≠ xB x ∧ bA bs bb sz (xB x))) ∧ va_F (bA bs bb sz) st t
/-- a contract of a builder's method, or of one that it calls -/
def BC (y : MethodName) (cc : ByteArray) (nL : Nat) (ret : Option FieldType) (fr lo mc ms : Nat) (bs : Nat) (av : BS → (Nat → Nat) → List Value) (P : BS → Prop) (Rr : BS → Option Value → BS → Prop) : Prop := ∀ (l : Launch) (D : va_G) (tA : Nat → ClassId) (n0 : Nat) (adr adV : Nat → Nat) (sz : Nat) (x : BS), P x →
  Met l y (Cond.code y cc nL ret :: gW) { frames := fr, cells := mc, slots := ms, locals := lo } (va_Pc (av x adr) (BPre D tA n0 adr adV sz bs x)) (BPost D tA sz bs (xB x) (Rr x)) mc ms (bA bs (xB x) sz)
theorem BK.moved {D : va_G} {tA : Nat → ClassId} {n0 : Nat} {adr adV : Nat → Nat} {u U : State} {H : Heap} (hvm : u.vm.Alike U.vm) (h : BK D tA n0 adr adV u H) : BK D tA n0 adr adV U H := ⟨va_K.moved hvm h.1, Stc.moved hvm h.2.1, h.2.2.1.moved hvm, h.2.2.2.moved hvm⟩
theorem BK.kept {D : va_G} {tA : Nat → ClassId} {n0 : Nat} {adr adV : Nat → Nat} {U : State} {H H1 : Heap} (h : BK D tA n0 adr adV U H) (hq : ∀ a : Nat, a < H.size → ¬ n0 ≤ a → H1[a]? = H[a]?) : BK D tA n0 adr adV U H1 := ⟨h.1, h.2.1.kept hq, h.2.2.1.kept hq, h.2.2.2⟩
theorem BPre.blind {D : va_G} {tA : Nat → ClassId} {n0 : Nat} {adr adV : Nat → Nat} {sz bs : Nat} {x : BS} {vs : List Value} : FrameBlind (va_Pc vs (BPre D tA n0 adr adV sz bs x)) := by
  intro a U g mk ⟨h, h1, h2, h3, h4⟩
  exact ⟨h, h1, h2, h3, BK.moved (u := U) (U := U.calling g mk a) (Vm.Alike.refl U.vm) h4⟩
section B1
variable {p : Program} {l : Launch} {e : Env} {R : Room} {s : State} {m : MethodId} {args : Array Value} {below : List Frame} {meth : Method} {c : Code} {Q : State → Prop}
variable {D : va_G} {tA : Nat → ClassId} {n0 sz bs bb0 : Nat} {adr adV : Nat → Nat} {x : BS} {H : Heap} {locs : List Loc} {cells slots pc : Nat} {ls : Array Slot} {rest st0 : List Value} {nL : Nat} {cc : ByteArray} {own : String}
/-- a method in its run -/
def BX (p : Program) (s : State) (m : MethodId) (args : Array Value) (c : Code) (own : String) (nL : Nat) (cc : ByteArray) : Prop := p.tables.exec = Jvm.exec ∧ c.code = cc ∧ c.maxLocals = nL ∧ s.vm.findClass own = some m.cls ∧ ∀ w ∈ gW, w.before args s = true
/-- the frame's own start: its heap's size, the bytes that it found -/
def BZ (D : va_G) (tA : Nat → ClassId) (n0 : Nat) (adr adV : Nat → Nat) (sz bs bb0 : Nat) (s : State) : Prop := (s.heap.size = sz ∧ n0 ≤ sz ∧ n0 ≤ bs ∧ n0 ≤ bb0) ∧ BK D tA n0 adr adV s s.heap
/-- the world now -/
def GB (D : va_G) (tA : Nat → ClassId) (sz bs bb0 : Nat) (x : BS) (s : State) (H : Heap) (locs : List Loc) : Prop := va_P D clA (BW tA bs x) H ∧ (bs ≠ xB x ∧ bA bs bb0 sz (xB x)) ∧ okX x ∧ va_S (bA bs bb0 sz) s.heap H locs
theorem bA_n0 (h : BZ D tA n0 adr adV sz bs bb0 s) (q : Nat) (hq : bA bs bb0 sz q) : n0 ≤ q := by
  obtain ⟨⟨h1, h2, h3, h4⟩, -⟩ := h
  rcases hq with rfl | rfl | hq
  · exact h3
  · exact h4
  · omega
theorem BZ.S (h : BZ D tA n0 adr adV sz bs bb0 s) (g : GB D tA sz bs bb0 x s H locs) : va_S (fun q => n0 ≤ q) s.heap H locs := ⟨g.2.2.2.1, fun q h1 h2 => g.2.2.2.2.1 q h1 (fun z => h2 (bA_n0 h q z)), fun q hq => bA_n0 h _ (g.2.2.2.2.2 q hq)⟩
theorem GB.dd (g : GB D tA sz bs bb0 x s H locs) : va_D (bA bs bb0 sz) (BW tA bs x) := by
  have hl : ∀ {k : Nat} {q : Nat × va_E}, (BW tA bs x)[k]? = some q → k = 0 ∧ q.1 = bs ∨ k = 1 ∧ q.1 = xB x := by
    intro k q hk
    match k, hk with
    | 0, hk => exact .inl ⟨rfl, by cases hk; rfl⟩
    | 1, hk => exact .inr ⟨rfl, by cases hk; rfl⟩
  refine ⟨fun i j p q hi hj e => ?_, fun k q hk => ?_⟩
  · rcases hl hi with ⟨rfl, h1⟩ | ⟨rfl, h1⟩ <;> rcases hl hj with ⟨rfl, h2⟩ | ⟨rfl, h2⟩
    · rfl
    · exact absurd (h1.symm.trans (e.trans h2)) g.2.1.1
    · exact absurd (h2.symm.trans (e.symm.trans h1)) g.2.1.1
    · rfl
  · rcases hl hk with ⟨-, h1⟩ | ⟨-, h1⟩
    · rw [h1]; exact .inl rfl
    · rw [h1]; exact g.2.1.2
/-- a field of the builder -/
theorem b_get {k index : Nat} {v : Value} (X : BX p s m args c own nL cc) (hz : BZ D tA n0 adr adV sz bs bb0 s) (g : GB D tA sz bs bb0 x s H locs) (hk : k < 4) (hl : Cond.fieldLink own index (TJ4 k).1 (TJ4 k).2.1 (TJ4 k).2.2.1 ∈ gW) (hv : ([.ref (xB x), .int (iN 0), .int (xM x), .int (iN (xN x : Int))] : List Value)[k]? = some v) (hdg : decode cc pc = .ok (.getfield index, 3))
    (kk : W p l e R s m args below meth c H locs cells slots Q (F0 m (pc + 3) ls (v :: rest))) : W p l e R s m args below meth c H locs cells slots Q (F0 m pc ls (.ref bs :: rest)) := by
  obtain ⟨c1, c2⟩ := c13
  exact va_get (ref := (TJ4 k).1) X.1 X.2.1 X.2.2.2.2 c2 X.2.2.2.1 hz.2.1 g.1 0 rfl c1 k hk (X.2.2.2.2 _ hl) (fun _ h => h) hv hdg kk
theorem b_put {k index : Nat} {ty : FieldType} {v : Value} (X : BX p s m args c own nL cc) (hz : BZ D tA n0 adr adV sz bs bb0 s) (g : GB D tA sz bs bb0 x s H locs) (hk : k < 4) (hl : Cond.fieldLink own index (TJ4 k).1 (TJ4 k).2.1 (TJ4 k).2.2.1 ∈ gW) (hfin : (TJ4 k).2.2.2 = false) (hd : parseFieldDescriptor (TJ4 k).2.2.1 = some ty) (hn : narrow ty v = v) (hf : fits ty v = true) (hdg : decode cc pc = .ok (.putfield index, 3)) {x' : BS} (hx : okX x') (e1 : xB x' = xB x) (e2 : ([.ref (xB x), .int (iN 0), .int (xM x), .int (iN (xN x : Int))] : List Value).set k v = [.ref (xB x'), .int (iN 0), .int (xM x'), .int (iN (xN x' : Int))]) (e3 : bByt tA (xC x) (xT x) = bByt tA (xC x') (xT x'))
    (kk : ∀ H1 locs1, GB D tA sz bs bb0 x' s H1 locs1 → W p l e R s m args below meth c H1 locs1 cells slots Q (F0 m (pc + 3) ls rest)) : W p l e R s m args below meth c H locs cells slots Q (F0 m pc ls (v :: .ref bs :: rest)) := by
  obtain ⟨c1, c2⟩ := c13
  refine va_put (ref := (TJ4 k).1) X.1 X.2.1 X.2.2.2.2 c2 tyJ4 tyJ4_ok nmJ4 X.2.2.2.1 hz.2.1 g.1 g.dd g.2.2.2 0 rfl c1 k hk (X.2.2.2.2 _ hl) (fun _ h => h) hfin hd hn hf (by simpa using hk) hdg (fun H1 locs1 hP hD hS => kk H1 locs1 ?_)
  rw [e2] at hP
  have e : (BW tA bs x).set 0 (bs, .inr (13, [.ref (xB x'), .int (iN 0), .int (xM x'), .int (iN (xN x' : Int))])) = BW tA bs x' := by
    show [_, (xB x, bByt tA (xC x) (xT x))] = _
    rw [e3, ← e1]
    rfl
  rw [e] at hP
  exact ⟨hP, by rw [e1]; exact g.2.1, hx, hS⟩
/-- the bytes' length -/
theorem b_len (X : BX p s m args c own nL cc) (hz : BZ D tA n0 adr adV sz bs bb0 s) (g : GB D tA sz bs bb0 x s H locs) (hdg : decode cc pc = .ok (.arraylength, 1))
    (kk : W p l e R s m args below meth c H locs cells slots Q (F0 m (pc + 1) ls (.int (iN (xC x : Int)) :: rest))) : W p l e R s m args below meth c H locs cells slots Q (F0 m pc ls (.ref (xB x) :: rest)) :=
  va_alen X.1 X.2.1 hz.2.1 g.1 1 0 rfl rfl (by show Int32.ofNat (xC x) = _; simp [iN, Int32.ofInt_eq_ofNat]) hdg kk
theorem b_ald {i : Int} (X : BX p s m args c own nL cc) (hz : BZ D tA n0 adr adV sz bs bb0 s) (g : GB D tA sz bs bb0 x s H locs) (h0 : 0 ≤ i) (h1 : i < xC x) (hdg : decode cc pc = .ok (.baload, 1))
    (kk : W p l e R s m args below meth c H locs cells slots Q (F0 m (pc + 1) ls (.int (iN (xT x i.toNat)) :: rest))) : W p l e R s m args below meth c H locs cells slots Q (F0 m pc ls (.int (iN i) :: .ref (xB x) :: rest)) := by
  have hC : xC x ≤ 142 := by rcases g.2.2.1.1 with h | h | h | h <;> omega
  refine va_bald X.1 X.2.1 hz.2.1 g.1 1 0 rfl rfl (iN_in h0 (n := xC x) h1 (by omega)) hdg ?_
  rw [iN_clamp h0 (by omega)]
  exact kk
theorem b_nar {v : Int} (h0 : 0 ≤ v) (h1 : v ≤ 127) : vp_nar .byte (iN v) = iN v := by
  obtain ⟨n, rfl⟩ : ∃ n : Nat, v = n := ⟨v.toNat, by omega⟩
  have hn : n < 128 := by omega
  exact (show ∀ n : Nat, n < 128 → vp_nar .byte (iN (n : Int)) = iN (n : Int) by decide +kernel) n hn
theorem b_ast {i v : Int} (X : BX p s m args c own nL cc) (hz : BZ D tA n0 adr adV sz bs bb0 s) (g : GB D tA sz bs bb0 x s H locs) (h0 : 0 ≤ i) (h1 : i < xC x) (v0 : 0 ≤ v) (v1 : v ≤ 127) (hdg : decode cc pc = .ok (.bastore, 1))
    (kk : ∀ H1 locs1, GB D tA sz bs bb0 (xB x, xC x, xN x, xM x, tset (xT x) i.toNat v) s H1 locs1 → W p l e R s m args below meth c H1 locs1 cells slots Q (F0 m (pc + 1) ls rest)) : W p l e R s m args below meth c H locs cells slots Q (F0 m pc ls (.int (iN v) :: .int (iN i) :: .ref (xB x) :: rest)) := by
  have hC : xC x ≤ 142 := by rcases g.2.2.1.1 with h | h | h | h <;> omega
  refine va_bast X.1 X.2.1 hz.2.1 g.1 g.dd g.2.2.2 1 0 rfl rfl (iN_in h0 (n := xC x) h1 (by omega)) hdg (fun H1 locs1 hP hD hS => kk H1 locs1 ⟨?_, g.2.1, ⟨g.2.2.1.1, g.2.2.1.2.1, tOk_set g.2.2.1.2.2 v0 v1⟩, hS⟩)
  rw [iN_clamp h0 (by omega), b_nar v0 v1, upd_tset] at hP
  exact hP
/-- the end of a method, by what it answers -/
theorem b_zret {v : Int32} {ty : FieldType} {mc ms : Nat} {Rr : Option Value → BS → Prop} (X : BX p s m args c own nL cc) (hret : meth.sig.returnType = some ty) (hnar : narrow ty (.int v) = .int v) (hlk : meth.locks = false) (g : GB D tA sz bs bb0 x s H locs) (hR : Rr (some (.int v)) x) (hc : cells ≤ mc) (hs : slots ≤ ms) (hdg : decode cc pc = .ok (.ireturn, 1)) :
    W p l e R s m args below meth c H locs cells slots (MQ below (BPost D tA sz bs bb0 Rr) args s mc ms (bA bs bb0 sz)) (F0 m pc ls [.int v]) :=
  W.widen hc hs (W.zret X.1 X.2.1 hret hnar (fun t ht _ => ⟨⟨_, x, rfl, hR, g.2.2.1, by rw [ht]; exact g.1, g.2.1⟩, va_S.F g.2.2.2 ht⟩) g.2.2.2.2.2 hdg hlk)
theorem b_vret {mc ms : Nat} {Rr : Option Value → BS → Prop} (X : BX p s m args c own nL cc) (hret : meth.sig.returnType = none) (hlk : meth.locks = false) (g : GB D tA sz bs bb0 x s H locs) (hR : Rr none x) (hc : cells ≤ mc) (hs : slots ≤ ms) (hdg : decode cc pc = .ok (.return_, 1)) :
    W p l e R s m args below meth c H locs cells slots (MQ below (BPost D tA sz bs bb0 Rr) args s mc ms (bA bs bb0 sz)) (F0 m pc ls []) :=
  W.widen hc hs (W.vret X.1 X.2.1 hret (fun t ht _ => ⟨⟨none, x, rfl, hR, g.2.2.1, by rw [ht]; exact g.1, g.2.1⟩, va_S.F g.2.2.2 ht⟩) g.2.2.2.2.2 hdg hlk)
theorem b_aret {a : Nat} {nm : String} {mc ms : Nat} {Rr : Option Value → BS → Prop} (X : BX p s m args c own nL cc) (hret : meth.sig.returnType = some (.object nm)) (hlk : meth.locks = false) (g : GB D tA sz bs bb0 x s H locs) (hR : Rr (some (.ref a)) x) (hc : cells ≤ mc) (hs : slots ≤ ms) (hdg : decode cc pc = .ok (.areturn, 1)) :
    W p l e R s m args below meth c H locs cells slots (MQ below (BPost D tA sz bs bb0 Rr) args s mc ms (bA bs bb0 sz)) (F0 m pc ls [.ref a]) :=
  W.widen hc hs (W.aret X.1 X.2.1 hret (Or.inl ⟨nm, rfl⟩) (Or.inr ⟨_, rfl⟩) (fun t ht _ => ⟨⟨_, x, rfl, hR, g.2.2.1, by rw [ht]; exact g.1, g.2.1⟩, va_S.F g.2.2.2 ht⟩) g.2.2.2.2.2 hdg hlk)
/-- behind a call -/
theorem b_after {mc ms : Nat} {a : Array Value} {Rr : Option Value → BS → Prop} (hz : s.heap.size = sz) (g : GB D tA sz bs bb0 x s H locs) (hr : va_Run p l e R s m args below meth c H locs cells slots mc ms (F0 m pc ls st0) rest (BPost D tA H.size bs (xB x) Rr a) (bA bs (xB x) H.size))
    (kk : ∀ v x' H1 locs1, Rr v x' → GB D tA sz bs bb0 x' s H1 locs1 → W p l e R s m args below meth c H1 locs1 (cells + mc) (slots + ms) Q (F0 m (pc + 3) ls (v.toList ++ rest))) : W p l e R s m args below meth c H locs cells slots Q (F0 m pc ls st0) := by
  intro T hT X
  obtain ⟨v, st₀, t, T', L2, h0, X', hL2, e1, e2, ⟨⟨_, x', hv, hR, hx, hP, hb, hbA⟩, hsz, hkk⟩, st⟩ := hr T hT X
  rw [h0] at hsz hkk
  cases hv
  have hH : sz ≤ H.size := by rw [← hz]; exact g.2.2.2.1
  have hsub : ∀ q, bA bs (xB x) H.size q → bA bs bb0 sz q := by
    rintro q (rfl | rfl | hq)
    · exact .inl rfl
    · exact g.2.1.2
    · exact .inr (.inr (Nat.le_trans hH hq))
  have K := kk v x' T'.heap (locs ++ L2) hR ⟨by rw [e1]; exact hP, ⟨hb, hsub _ hbA⟩, hx, vS_app g.2.2.2 (by rw [e1]; exact hsz) (fun q h1 h2 => by rw [e1]; exact hkk q h1 h2) hsub (fun q hq => hsub _ (hL2 q hq))⟩
  obtain ⟨t2, a1, b1⟩ := K T' rfl X'
  exact ⟨t2, st t2 a1, b1⟩
theorem b_pre (hz : BZ D tA n0 adr adV sz bs bb0 s) (g : GB D tA sz bs bb0 x s H locs) {U : State} (hU : U.heap = H) (hW : s.WarmedH U.vm) : BPre D tA n0 adr adV H.size bs x U := by
  have hS := hz.S g
  refine ⟨⟨by rw [hU], ?_, hz.1.2.2.1, bA_n0 hz _ g.2.1.2, g.2.1.1⟩, g.2.2.1, by rw [hU]; exact g.1, ?_⟩
  · have := hS.1; have := hz.1.1; have := hz.1.2.1; omega
  · rw [hU]
    exact BK.moved hW.alike (hz.2.kept hS.2.1)
/-- the words of a call -/
def BWd (kind : Nat) (own : String) (idx : Nat) (y : MethodName) (cc : ByteArray) (nL : Nat) (ret : Option FieldType) (rc : String) (n : Nat) : Prop :=
  ((Cond.methodLink own idx y ∈ gW ∧ Cond.initialized y.cls ∈ gW ∧ Cond.code y cc nL ret ∈ gW) ∧ (y.cls ≠ "java/lang/invoke/MethodHandle" ∧ y.cls ≠ "java/lang/invoke/VarHandle" ∧ (parseMethodDescriptor y.desc).map (fun d => d.parameters.length) = some n) ∧ nL ≤ 20) ∧
  match kind with
  | 0 => Cond.instanceMethod y ∈ gW ∧ Cond.selects rc y y ∈ gW
  | 1 => Cond.static y ∈ gW
  | 3 => Cond.instanceMethod y ∈ gW ∧ Cond.privateMethod y ∈ pvL ∧ y.cls = "java/lang/AbstractStringBuilder"
  | _ => (Cond.instanceMethod y ∈ gW ∧ Cond.sameMethod y.cls y.cls y.name y.desc ∈ gW ∧ Cond.superclass own y.cls ∈ gW) ∧ y.name ≠ "<init>"
set_option maxRecDepth 100000 in
theorem sel_lat : Cond.selects RJ4 ⟨"java/lang/AbstractStringBuilder", "isLatin1", "()Z"⟩ ⟨"java/lang/AbstractStringBuilder", "isLatin1", "()Z"⟩ ∈ gW := gW_at (i := 1460) rfl rfl
theorem code_good {y : MethodName} {cc : ByteArray} {nL : Nat} {ret : Option FieldType} (hcode : Cond.code y cc nL ret ∈ gW) : GoodIn gW (Cond.code y cc nL ret :: gW) := by
  intro w hw
  rcases List.mem_cons.mp hw with rfl | hw
  · exact ⟨hcode, good_of_word (List.mem_filter.mp hcode).2⟩
  · exact ⟨hw, good_of_word (List.mem_filter.mp hw).2⟩
section CALLS
variable {y : MethodName} {cc2 : ByteArray} {nL2 fr lo mc ms idx n : Nat} {ret : Option FieldType} {av : BS → (Nat → Nat) → List Value} {P : BS → Prop} {Rr : BS → Option Value → BS → Prop} {As : List Value}
/-- a virtual call; its receiver's class is rc -/
theorem b_callV {rcv : Nat} {rc : String} (X : BX p s m args c own nL cc) (hz : BZ D tA n0 adr adV sz bs bb0 s) (g : GB D tA sz bs bb0 x s H locs) (hC : BC y cc2 nL2 ret fr lo mc ms bs av P Rr) (hP : P x) (hw : BWd 0 own idx y cc2 nL2 ret rc n) (hav : av x adr = .ref rcv :: As) (hn : As.length = n) (hrc : ∃ cellB : Cell, H[rcv]? = some cellB ∧ cellB.vm.isStatics = false ∧ s.vm.findClass rc = some cellB.cls) (hls : ls.size = nL) (hR : fr + 1 ≤ R.frames ∧ 39 + lo ≤ R.locals) (hf : cells + mc ≤ R.cells ∧ slots + ms ≤ R.slots) (hrest : (rest.map fun v => v.category).sum ≤ 8) (hst : st0 = As.reverse ++ .ref rcv :: rest) (hdg : decode cc pc = .ok (.invokevirtual idx, 3))
    (kk : ∀ v x' H1 locs1, Rr x v x' → GB D tA sz bs bb0 x' s H1 locs1 → W p l e R s m args below meth c H1 locs1 (cells + mc) (slots + ms) Q (F0 m (pc + 3) ls (v.toList ++ rest))) : W p l e R s m args below meth c H locs cells slots Q (F0 m pc ls st0) := by
  obtain ⟨⟨⟨w1, w2, w3⟩, w4, w5⟩, w6, w7⟩ := hw
  have hts := X.2.2.2.2
  refine b_after (a := (.ref rcv :: As).toArray) hz.1.1 g ?_ kk
  exact va_runV (own := own) (Ts := gW) (nL := nL) (As := As) (C := rc) (n := n) (bytes := cc2) (maxL := nL2) (ret := ret) X (hC l D tA n0 adr adV H.size x hP) ⟨callB_of n hts (code_good w3) rfl rfl rfl (hts _ w2) (hts _ w1) w4 ⟨hR.1, by show 8 + (nL2 + 11) + lo ≤ R.locals; omega⟩, hts _ w6, hts _ w7⟩
    ⟨BPre.blind, hrc, fun U hU hW => ⟨by rw [hav], b_pre hz g hU hW⟩⟩ rfl hn hls hst (lv_room (pc := pc) (ls := ls) (rest := st0) hrest) hdg hf
/-- a private method is its own choice -/
theorem b_selP {y : MethodName} {bts : ByteArray} (hts : ∀ w ∈ gW, w.before args s = true) (hPV : PV s) (hinst : Cond.instanceMethod y ∈ gW) (hpr : Cond.privateMethod y ∈ pvL) (hc : y.cls = "java/lang/AbstractStringBuilder") (hd : y.cls ≠ "java/lang/invoke/MethodHandle" ∧ y.cls ≠ "java/lang/invoke/VarHandle") : (Cond.selects RJ4 y y).before args s = true := by
  obtain ⟨c2, r2, m2, q1, q2, q3, q4, kP, hkP, hkPi⟩ := Cond.selects_spec (hts _ sel_lat)
  obtain ⟨mk, methM, hnamed, hmethM, -, -⟩ := Cond.instanceMethod_spec (hts _ hinst)
  have hfound : s.methodFound? y.cls y.name y.desc = some mk := State.methodFound?_of_named hnamed hd
  have hcls : mk.cls = m2.cls := by
    have h1 := findClass_of_methodNamed hnamed
    have h2 := findClass_of_methodNamed q3
    rw [hc] at h1
    exact Option.some.inj (h1.symm.trans h2)
  have hsel : selectMethod {} s.vm c2 mk = .method mk := selectMethod_private hmethM (Cond.privateMethod_at (hPV _ hpr) mk methM hnamed hmethM)
  simp only [Cond.before, Cond.holds, Cond.value, q1, hfound, hnamed, hsel, hcls, hkP]
  simp
  exact hkPi
/-- a private method of the builder -/
theorem b_callP (X : BX p s m args c own nL cc) (hz : BZ D tA n0 adr adV sz bs bb0 s) (g : GB D tA sz bs bb0 x s H locs) (hC : BC y cc2 nL2 ret fr lo mc ms bs av P Rr) (hP : P x) (hw : BWd 3 own idx y cc2 nL2 ret own n) (hav : av x adr = .ref bs :: As) (hn : As.length = n) (hls : ls.size = nL) (hR : fr + 1 ≤ R.frames ∧ 39 + lo ≤ R.locals) (hf : cells + mc ≤ R.cells ∧ slots + ms ≤ R.slots) (hrest : (rest.map fun v => v.category).sum ≤ 8) (hst : st0 = As.reverse ++ .ref bs :: rest) (hdg : decode cc pc = .ok (.invokevirtual idx, 3))
    (kk : ∀ v x' H1 locs1, Rr x v x' → GB D tA sz bs bb0 x' s H1 locs1 → W p l e R s m args below meth c H1 locs1 (cells + mc) (slots + ms) Q (F0 m (pc + 3) ls (v.toList ++ rest))) : W p l e R s m args below meth c H locs cells slots Q (F0 m pc ls st0) := by
  obtain ⟨⟨⟨w1, w2, w3⟩, w4, w5⟩, w6, w7, w8⟩ := hw
  have hts := X.2.2.2.2
  refine b_after (a := (.ref bs :: As).toArray) hz.1.1 g ?_ kk
  exact va_runV (own := own) (Ts := gW) (nL := nL) (As := As) (C := RJ4) (n := n) (bytes := cc2) (maxL := nL2) (ret := ret) X (hC l D tA n0 adr adV H.size x hP) ⟨callB_of n hts (code_good w3) rfl rfl rfl (hts _ w2) (hts _ w1) w4 ⟨hR.1, by show 8 + (nL2 + 11) + lo ≤ R.locals; omega⟩, hts _ w6, b_selP (bts := cc) hts hz.2.2.2.2 w6 w7 w8 ⟨w4.1, w4.2.1⟩⟩
    ⟨BPre.blind, va_recv hz.2.1 g.1 c13.1 (q0 := 0) rfl, fun U hU hW => ⟨by rw [hav], b_pre hz g hU hW⟩⟩ rfl hn hls hst (lv_room (pc := pc) (ls := ls) (rest := st0) hrest) hdg hf
theorem b_callS (X : BX p s m args c own nL cc) (hz : BZ D tA n0 adr adV sz bs bb0 s) (g : GB D tA sz bs bb0 x s H locs) (hC : BC y cc2 nL2 ret fr lo mc ms bs av P Rr) (hP : P x) (hw : BWd 1 own idx y cc2 nL2 ret own n) (hav : av x adr = As) (hn : As.length = n) (hls : ls.size = nL) (hR : fr + 1 ≤ R.frames ∧ 39 + lo ≤ R.locals) (hf : cells + mc ≤ R.cells ∧ slots + ms ≤ R.slots) (hrest : (rest.map fun v => v.category).sum ≤ 8) (hst : st0 = As.reverse ++ rest) (hdg : decode cc pc = .ok (.invokestatic idx, 3))
    (kk : ∀ v x' H1 locs1, Rr x v x' → GB D tA sz bs bb0 x' s H1 locs1 → W p l e R s m args below meth c H1 locs1 (cells + mc) (slots + ms) Q (F0 m (pc + 3) ls (v.toList ++ rest))) : W p l e R s m args below meth c H locs cells slots Q (F0 m pc ls st0) := by
  obtain ⟨⟨⟨w1, w2, w3⟩, w4, w5⟩, w6⟩ := hw
  have hts := X.2.2.2.2
  refine b_after (a := As.toArray) hz.1.1 g ?_ kk
  exact va_runS (own := own) (Ts := gW) (nL := nL) (As := As) (n := n) (bytes := cc2) (maxL := nL2) (ret := ret) X (hC l D tA n0 adr adV H.size x hP) ⟨callB_of n hts (code_good w3) rfl rfl rfl (hts _ w2) (hts _ w1) w4 ⟨hR.1, by show 8 + (nL2 + 11) + lo ≤ R.locals; omega⟩, hts _ w6⟩
    ⟨BPre.blind, fun U hU hW => ⟨by rw [hav], b_pre hz g hU hW⟩⟩ rfl hn hls hst (lv_room (pc := pc) (ls := ls) (rest := st0) hrest) hdg hf
/-- the builder's receiver -/
theorem b_recv (hz : BZ D tA n0 adr adV sz bs bb0 s) (g : GB D tA sz bs bb0 x s H locs) : ∃ cellB : Cell, H[bs]? = some cellB ∧ cellB.vm.isStatics = false ∧ s.vm.findClass RJ4 = some cellB.cls := va_recv hz.2.1 g.1 c13.1 (q0 := 0) rfl
/-- super.m(..) -/
theorem b_callU (X : BX p s m args c own nL cc) (hz : BZ D tA n0 adr adV sz bs bb0 s) (g : GB D tA sz bs bb0 x s H locs) (hC : BC y cc2 nL2 ret fr lo mc ms bs av P Rr) (hP : P x) (hw : BWd 2 own idx y cc2 nL2 ret own n) (hav : av x adr = .ref bs :: As) (hn : As.length = n) (hls : ls.size = nL) (hR : fr + 1 ≤ R.frames ∧ 39 + lo ≤ R.locals) (hf : cells + mc ≤ R.cells ∧ slots + ms ≤ R.slots) (hrest : (rest.map fun v => v.category).sum ≤ 8) (hst : st0 = As.reverse ++ .ref bs :: rest) (hdg : decode cc pc = .ok (.invokespecial idx, 3))
    (kk : ∀ v x' H1 locs1, Rr x v x' → GB D tA sz bs bb0 x' s H1 locs1 → W p l e R s m args below meth c H1 locs1 (cells + mc) (slots + ms) Q (F0 m (pc + 3) ls (v.toList ++ rest))) : W p l e R s m args below meth c H locs cells slots Q (F0 m pc ls st0) := by
  obtain ⟨⟨⟨w1, w2, w3⟩, w4, w5⟩, ⟨w6, w7, w8⟩, w9⟩ := hw
  have hts := X.2.2.2.2
  have hgood : GoodIn gW (va_wsSU own idx y (Cond.code y cc2 nL2 ret :: gW)) := by
    intro w hw
    simp only [va_wsSU, List.mem_append, List.mem_cons, List.not_mem_nil, or_false] at hw
    have gg : w ∈ gW := by
      rcases hw with (rfl | rfl | rfl | rfl | rfl) | (rfl | hw)
      · exact w1
      · exact w7
      · exact w8
      · exact w6
      · exact w2
      · exact w3
      · exact hw
    exact ⟨gg, good_of_word (List.mem_filter.mp gg).2⟩
  obtain ⟨hS, hfc, kC, hkC, hkind⟩ := hz.2.1.1 13 _ c13.1
  refine b_after (a := (.ref bs :: As).toArray) hz.1.1 g ?_ kk
  exact va_runSU (own := own) (C := RJ4) (Ts := gW) (nL := nL) (As := As) (n := n) (bytes := cc2) (maxL := nL2) (ret := ret) ⟨hfc, kC, hkC, hkind⟩ X (hC l D tA n0 adr adV H.size x hP) (va_cwSU n hts hgood rfl rfl rfl ⟨w9, w4.2.2⟩ ⟨hR.1, by show 8 + (nL2 + 11) + lo ≤ R.locals; omega⟩)
    ⟨BPre.blind, b_recv hz g, fun U hU hW => ⟨by rw [hav], b_pre hz g hU hW⟩⟩ rfl hn hls hst (lv_room (pc := pc) (ls := ls) (rest := st0) hrest) hdg hf
end CALLS
theorem bc_of {y : MethodName} {ret : Option FieldType} {fr lo mc ms : Nat} {av : BS → (Nat → Nat) → List Value} {P : BS → Prop} {Rr : BS → Option Value → BS → Prop} (hpl : plainName y.cls = true) (hy : y.cls = own) (hnl : ∀ (x : BS) (adr : Nat → Nat), (lg_sl (av x adr)).length ≤ nL)
    (h : ∀ (p : Program) (l : Launch) (e : Env) (s : State) (m : MethodId) (args : Array Value) (below : List Frame) (meth : Method) (c : Code) (D : va_G) (tA : Nat → ClassId) (n0 : Nat) (adr adV : Nat → Nat) (sz : Nat) (x : BS) (ls : Array Slot), P x → BX p s m args c own nL cc → BZ D tA n0 adr adV sz bs (xB x) s → GB D tA sz bs (xB x) x s s.heap [] → meth.sig.returnType = ret → meth.locks = false → lv_has ls nL (lv_args 0 (av x adr)) →
      W p l e { frames := fr, cells := mc, slots := ms, locals := lo } s m args below meth c s.heap [] 0 0 (MQ below (BPost D tA sz bs (xB x) (Rr x)) args s mc ms (bA bs (xB x) sz)) (F0 m 0 ls [])) : BC y cc nL ret fr lo mc ms bs av P Rr := by
  intro l D tA n0 adr adV sz x hPx
  refine Met.ofW (cc := cc) (maxL := nL) (ret := ret) hpl rfl ?_
  intro p e s m args below meth c s₁ B hml hv
  obtain ⟨rfl, ⟨h1, h2, h3, h4, h5⟩, h6, h7, h8⟩ := hv
  have hts := atoms_spec (ws := Cond.code y cc nL ret :: gW) B.pre
  have hown : s.vm.findClass own = some m.cls := by rw [← hy]; exact findClass_of_methodNamed B.named
  rw [lg_entry_eq]
  have hl := lv_entry (av x adr) (n := nL) (hnl x adr)
  exact h p l e s m _ below meth c D tA n0 adr adV sz x _ hPx ⟨B.exec, B.bytes, hml, hown, fun w hw => hts w (List.mem_cons_of_mem _ hw)⟩ ⟨⟨h1, h2, h3, h4⟩, h8⟩ ⟨h7, ⟨h5, .inr (.inl rfl)⟩, h6, va_S.rf⟩ B.returns B.notSynchronized hl
end B1
